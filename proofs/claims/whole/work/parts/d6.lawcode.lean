/-! the law: its code, its 32 cases -/
def M_law (nm : String) : Mth := (⟨"PastSleepLaw", nm, "([I)Z"⟩, code, 7, ret)
def lsL (b : Nat) (i : Int) : List (Nat × AV) := [(4, (0, i)), (3, (2, 363)), (2, (2, 311)), (1, (2, 0)), (0, (7, (b : Int)))]
theorem d_L_23 : decode code 23 = .ok (.iload 4, 2) := by decide +kernel
theorem d_L_25 : decode code 25 = .ok (.aload_n 0, 1) := by decide +kernel
theorem d_L_26 : decode code 26 = .ok (.arraylength, 1) := by decide +kernel
theorem d_L_27 : decode code 27 = .ok (.bipush 7, 2) := by decide +kernel
theorem d_L_29 : decode code 29 = .ok (.isub, 1) := by decide +kernel
theorem d_L_30 : decode code 30 = .ok (.if_icmp .gt 1421, 3) := by decide +kernel
theorem d_L_33 : decode code 33 = .ok (.aload_n 0, 1) := by decide +kernel
theorem d_L_34 : decode code 34 = .ok (.iload 4, 2) := by decide +kernel
theorem d_L_36 : decode code 36 = .ok (.iaload, 1) := by decide +kernel
theorem d_L_37 : decode code 37 = .ok (.bipush 31, 2) := by decide +kernel
theorem d_L_39 : decode code 39 = .ok (.iand, 1) := by decide +kernel
theorem d_L_40 : decode code 40 = .ok (.tableswitch 1405 0 31 #[144, 291, 304, 341, 378, 403, 452, 501, 514, 539, 564, 589, 626, 691, 728, 753, 778, 815, 852, 877, 902, 939, 964, 1020, 1076, 1113, 1166, 1204, 1241, 1278, 1327, 1380], 144) := by decide +kernel
theorem d_L_184 : decode code 184 = .ok (.aload_n 1, 1) := by decide +kernel
theorem d_L_185 : decode code 185 = .ok (.aload_n 0, 1) := by decide +kernel
theorem d_L_186 : decode code 186 = .ok (.iload 4, 2) := by decide +kernel
theorem d_L_188 : decode code 188 = .ok (.iconst 1, 1) := by decide +kernel
theorem d_L_189 : decode code 189 = .ok (.iadd, 1) := by decide +kernel
theorem d_L_190 : decode code 190 = .ok (.iaload, 1) := by decide +kernel
theorem d_L_191 : decode code 191 = .ok (.i2l, 1) := by decide +kernel
theorem d_L_192 : decode code 192 = .ok (.bipush 32, 2) := by decide +kernel
theorem d_L_194 : decode code 194 = .ok (.lshl, 1) := by decide +kernel
theorem d_L_195 : decode code 195 = .ok (.aload_n 0, 1) := by decide +kernel
theorem d_L_196 : decode code 196 = .ok (.iload 4, 2) := by decide +kernel
theorem d_L_198 : decode code 198 = .ok (.iconst 2, 1) := by decide +kernel
theorem d_L_199 : decode code 199 = .ok (.iadd, 1) := by decide +kernel
theorem d_L_200 : decode code 200 = .ok (.iaload, 1) := by decide +kernel
theorem d_L_201 : decode code 201 = .ok (.i2l, 1) := by decide +kernel
theorem d_L_202 : decode code 202 = .ok (.ldc2_w 22, 3) := by decide +kernel
theorem d_L_205 : decode code 205 = .ok (.land, 1) := by decide +kernel
theorem d_L_206 : decode code 206 = .ok (.lor, 1) := by decide +kernel
theorem d_L_207 : decode code 207 = .ok (.aload_n 0, 1) := by decide +kernel
theorem d_L_208 : decode code 208 = .ok (.iload 4, 2) := by decide +kernel
theorem d_L_210 : decode code 210 = .ok (.iconst 3, 1) := by decide +kernel
theorem d_L_211 : decode code 211 = .ok (.iadd, 1) := by decide +kernel
theorem d_L_212 : decode code 212 = .ok (.iaload, 1) := by decide +kernel
theorem d_L_213 : decode code 213 = .ok (.i2l, 1) := by decide +kernel
theorem d_L_214 : decode code 214 = .ok (.bipush 32, 2) := by decide +kernel
theorem d_L_216 : decode code 216 = .ok (.lshl, 1) := by decide +kernel
theorem d_L_217 : decode code 217 = .ok (.aload_n 0, 1) := by decide +kernel
theorem d_L_218 : decode code 218 = .ok (.iload 4, 2) := by decide +kernel
theorem d_L_220 : decode code 220 = .ok (.iconst 4, 1) := by decide +kernel
theorem d_L_221 : decode code 221 = .ok (.iadd, 1) := by decide +kernel
theorem d_L_222 : decode code 222 = .ok (.iaload, 1) := by decide +kernel
theorem d_L_223 : decode code 223 = .ok (.i2l, 1) := by decide +kernel
theorem d_L_224 : decode code 224 = .ok (.ldc2_w 22, 3) := by decide +kernel
theorem d_L_227 : decode code 227 = .ok (.land, 1) := by decide +kernel
theorem d_L_228 : decode code 228 = .ok (.lor, 1) := by decide +kernel
theorem d_L_229 : decode code 229 = .ok (.aload_n 0, 1) := by decide +kernel
theorem d_L_230 : decode code 230 = .ok (.iload 4, 2) := by decide +kernel
theorem d_L_232 : decode code 232 = .ok (.iconst 5, 1) := by decide +kernel
theorem d_L_233 : decode code 233 = .ok (.iadd, 1) := by decide +kernel
theorem d_L_234 : decode code 234 = .ok (.iaload, 1) := by decide +kernel
theorem d_L_235 : decode code 235 = .ok (.i2l, 1) := by decide +kernel
theorem d_L_236 : decode code 236 = .ok (.bipush 32, 2) := by decide +kernel
theorem d_L_238 : decode code 238 = .ok (.lshl, 1) := by decide +kernel
theorem d_L_239 : decode code 239 = .ok (.aload_n 0, 1) := by decide +kernel
theorem d_L_240 : decode code 240 = .ok (.iload 4, 2) := by decide +kernel
theorem d_L_242 : decode code 242 = .ok (.bipush 6, 2) := by decide +kernel
theorem d_L_244 : decode code 244 = .ok (.iadd, 1) := by decide +kernel
theorem d_L_245 : decode code 245 = .ok (.iaload, 1) := by decide +kernel
theorem d_L_246 : decode code 246 = .ok (.i2l, 1) := by decide +kernel
theorem d_L_247 : decode code 247 = .ok (.ldc2_w 22, 3) := by decide +kernel
theorem d_L_250 : decode code 250 = .ok (.land, 1) := by decide +kernel
theorem d_L_251 : decode code 251 = .ok (.lor, 1) := by decide +kernel
theorem d_L_252 : decode code 252 = .ok (.invokevirtual 24, 3) := by decide +kernel
theorem d_L_255 : decode code 255 = .ok (.aload_n 2, 1) := by decide +kernel
theorem d_L_256 : decode code 256 = .ok (.aload_n 0, 1) := by decide +kernel
theorem d_L_257 : decode code 257 = .ok (.iload 4, 2) := by decide +kernel
theorem d_L_259 : decode code 259 = .ok (.iconst 1, 1) := by decide +kernel
theorem d_L_260 : decode code 260 = .ok (.iadd, 1) := by decide +kernel
theorem d_L_261 : decode code 261 = .ok (.iaload, 1) := by decide +kernel
theorem d_L_262 : decode code 262 = .ok (.i2l, 1) := by decide +kernel
theorem d_L_263 : decode code 263 = .ok (.bipush 32, 2) := by decide +kernel
theorem d_L_265 : decode code 265 = .ok (.lshl, 1) := by decide +kernel
theorem d_L_266 : decode code 266 = .ok (.aload_n 0, 1) := by decide +kernel
theorem d_L_267 : decode code 267 = .ok (.iload 4, 2) := by decide +kernel
theorem d_L_269 : decode code 269 = .ok (.iconst 2, 1) := by decide +kernel
theorem d_L_270 : decode code 270 = .ok (.iadd, 1) := by decide +kernel
theorem d_L_271 : decode code 271 = .ok (.iaload, 1) := by decide +kernel
theorem d_L_272 : decode code 272 = .ok (.i2l, 1) := by decide +kernel
theorem d_L_273 : decode code 273 = .ok (.ldc2_w 22, 3) := by decide +kernel
theorem d_L_276 : decode code 276 = .ok (.land, 1) := by decide +kernel
theorem d_L_277 : decode code 277 = .ok (.lor, 1) := by decide +kernel
theorem d_L_278 : decode code 278 = .ok (.aload_n 0, 1) := by decide +kernel
theorem d_L_279 : decode code 279 = .ok (.iload 4, 2) := by decide +kernel
theorem d_L_281 : decode code 281 = .ok (.iconst 3, 1) := by decide +kernel
theorem d_L_282 : decode code 282 = .ok (.iadd, 1) := by decide +kernel
theorem d_L_283 : decode code 283 = .ok (.iaload, 1) := by decide +kernel
theorem d_L_284 : decode code 284 = .ok (.i2l, 1) := by decide +kernel
theorem d_L_285 : decode code 285 = .ok (.bipush 32, 2) := by decide +kernel
theorem d_L_287 : decode code 287 = .ok (.lshl, 1) := by decide +kernel
theorem d_L_288 : decode code 288 = .ok (.aload_n 0, 1) := by decide +kernel
theorem d_L_289 : decode code 289 = .ok (.iload 4, 2) := by decide +kernel
theorem d_L_291 : decode code 291 = .ok (.iconst 4, 1) := by decide +kernel
theorem d_L_292 : decode code 292 = .ok (.iadd, 1) := by decide +kernel
theorem d_L_293 : decode code 293 = .ok (.iaload, 1) := by decide +kernel
theorem d_L_294 : decode code 294 = .ok (.i2l, 1) := by decide +kernel
theorem d_L_295 : decode code 295 = .ok (.ldc2_w 22, 3) := by decide +kernel
theorem d_L_298 : decode code 298 = .ok (.land, 1) := by decide +kernel
theorem d_L_299 : decode code 299 = .ok (.lor, 1) := by decide +kernel
theorem d_L_300 : decode code 300 = .ok (.aload_n 0, 1) := by decide +kernel
theorem d_L_301 : decode code 301 = .ok (.iload 4, 2) := by decide +kernel
theorem d_L_303 : decode code 303 = .ok (.iconst 5, 1) := by decide +kernel
theorem d_L_304 : decode code 304 = .ok (.iadd, 1) := by decide +kernel
theorem d_L_305 : decode code 305 = .ok (.iaload, 1) := by decide +kernel
theorem d_L_306 : decode code 306 = .ok (.i2l, 1) := by decide +kernel
theorem d_L_307 : decode code 307 = .ok (.bipush 32, 2) := by decide +kernel
theorem d_L_309 : decode code 309 = .ok (.lshl, 1) := by decide +kernel
theorem d_L_310 : decode code 310 = .ok (.aload_n 0, 1) := by decide +kernel
theorem d_L_311 : decode code 311 = .ok (.iload 4, 2) := by decide +kernel
theorem d_L_313 : decode code 313 = .ok (.bipush 6, 2) := by decide +kernel
theorem d_L_315 : decode code 315 = .ok (.iadd, 1) := by decide +kernel
theorem d_L_316 : decode code 316 = .ok (.iaload, 1) := by decide +kernel
theorem d_L_317 : decode code 317 = .ok (.i2l, 1) := by decide +kernel
theorem d_L_318 : decode code 318 = .ok (.ldc2_w 22, 3) := by decide +kernel
theorem d_L_321 : decode code 321 = .ok (.land, 1) := by decide +kernel
theorem d_L_322 : decode code 322 = .ok (.lor, 1) := by decide +kernel
theorem d_L_323 : decode code 323 = .ok (.invokevirtual 28, 3) := by decide +kernel
theorem d_L_326 : decode code 326 = .ok (.if_icmp .eq 1119, 3) := by decide +kernel
theorem d_L_331 : decode code 331 = .ok (.aload_n 1, 1) := by decide +kernel
theorem d_L_332 : decode code 332 = .ok (.invokevirtual 29, 3) := by decide +kernel
theorem d_L_335 : decode code 335 = .ok (.aload_n 2, 1) := by decide +kernel
theorem d_L_336 : decode code 336 = .ok (.invokevirtual 33, 3) := by decide +kernel
theorem d_L_339 : decode code 339 = .ok (.if_icmp .eq 1106, 3) := by decide +kernel
theorem d_L_344 : decode code 344 = .ok (.aload_n 1, 1) := by decide +kernel
theorem d_L_345 : decode code 345 = .ok (.aload_n 0, 1) := by decide +kernel
theorem d_L_346 : decode code 346 = .ok (.iload 4, 2) := by decide +kernel
theorem d_L_348 : decode code 348 = .ok (.iconst 1, 1) := by decide +kernel
theorem d_L_349 : decode code 349 = .ok (.iadd, 1) := by decide +kernel
theorem d_L_350 : decode code 350 = .ok (.iaload, 1) := by decide +kernel
theorem d_L_351 : decode code 351 = .ok (.aload_n 0, 1) := by decide +kernel
theorem d_L_352 : decode code 352 = .ok (.iload 4, 2) := by decide +kernel
theorem d_L_354 : decode code 354 = .ok (.iconst 2, 1) := by decide +kernel
theorem d_L_355 : decode code 355 = .ok (.iadd, 1) := by decide +kernel
theorem d_L_356 : decode code 356 = .ok (.iaload, 1) := by decide +kernel
theorem d_L_357 : decode code 357 = .ok (.invokevirtual 34, 3) := by decide +kernel
theorem d_L_360 : decode code 360 = .ok (.aload_n 2, 1) := by decide +kernel
theorem d_L_361 : decode code 361 = .ok (.aload_n 0, 1) := by decide +kernel
theorem d_L_362 : decode code 362 = .ok (.iload 4, 2) := by decide +kernel
theorem d_L_364 : decode code 364 = .ok (.iconst 1, 1) := by decide +kernel
theorem d_L_365 : decode code 365 = .ok (.iadd, 1) := by decide +kernel
theorem d_L_366 : decode code 366 = .ok (.iaload, 1) := by decide +kernel
theorem d_L_367 : decode code 367 = .ok (.aload_n 0, 1) := by decide +kernel
theorem d_L_368 : decode code 368 = .ok (.iload 4, 2) := by decide +kernel
theorem d_L_370 : decode code 370 = .ok (.iconst 2, 1) := by decide +kernel
theorem d_L_371 : decode code 371 = .ok (.iadd, 1) := by decide +kernel
theorem d_L_372 : decode code 372 = .ok (.iaload, 1) := by decide +kernel
theorem d_L_373 : decode code 373 = .ok (.invokevirtual 38, 3) := by decide +kernel
theorem d_L_376 : decode code 376 = .ok (.if_icmp .eq 1069, 3) := by decide +kernel
theorem d_L_381 : decode code 381 = .ok (.aload_n 1, 1) := by decide +kernel
theorem d_L_382 : decode code 382 = .ok (.aload_n 0, 1) := by decide +kernel
theorem d_L_383 : decode code 383 = .ok (.iload 4, 2) := by decide +kernel
theorem d_L_385 : decode code 385 = .ok (.iconst 1, 1) := by decide +kernel
theorem d_L_386 : decode code 386 = .ok (.iadd, 1) := by decide +kernel
theorem d_L_387 : decode code 387 = .ok (.iaload, 1) := by decide +kernel
theorem d_L_388 : decode code 388 = .ok (.aload_n 0, 1) := by decide +kernel
theorem d_L_389 : decode code 389 = .ok (.iload 4, 2) := by decide +kernel
theorem d_L_391 : decode code 391 = .ok (.iconst 2, 1) := by decide +kernel
theorem d_L_392 : decode code 392 = .ok (.iadd, 1) := by decide +kernel
theorem d_L_393 : decode code 393 = .ok (.iaload, 1) := by decide +kernel
theorem d_L_394 : decode code 394 = .ok (.invokevirtual 39, 3) := by decide +kernel
theorem d_L_397 : decode code 397 = .ok (.aload_n 2, 1) := by decide +kernel
theorem d_L_398 : decode code 398 = .ok (.aload_n 0, 1) := by decide +kernel
theorem d_L_399 : decode code 399 = .ok (.iload 4, 2) := by decide +kernel
theorem d_L_401 : decode code 401 = .ok (.iconst 1, 1) := by decide +kernel
theorem d_L_402 : decode code 402 = .ok (.iadd, 1) := by decide +kernel
theorem d_L_403 : decode code 403 = .ok (.iaload, 1) := by decide +kernel
theorem d_L_404 : decode code 404 = .ok (.aload_n 0, 1) := by decide +kernel
theorem d_L_405 : decode code 405 = .ok (.iload 4, 2) := by decide +kernel
theorem d_L_407 : decode code 407 = .ok (.iconst 2, 1) := by decide +kernel
theorem d_L_408 : decode code 408 = .ok (.iadd, 1) := by decide +kernel
theorem d_L_409 : decode code 409 = .ok (.iaload, 1) := by decide +kernel
theorem d_L_410 : decode code 410 = .ok (.invokevirtual 42, 3) := by decide +kernel
theorem d_L_413 : decode code 413 = .ok (.if_icmp .eq 1032, 3) := by decide +kernel
theorem d_L_418 : decode code 418 = .ok (.aload_n 1, 1) := by decide +kernel
theorem d_L_419 : decode code 419 = .ok (.aload_n 0, 1) := by decide +kernel
theorem d_L_420 : decode code 420 = .ok (.iload 4, 2) := by decide +kernel
theorem d_L_422 : decode code 422 = .ok (.iconst 1, 1) := by decide +kernel
theorem d_L_423 : decode code 423 = .ok (.iadd, 1) := by decide +kernel
theorem d_L_424 : decode code 424 = .ok (.iaload, 1) := by decide +kernel
theorem d_L_425 : decode code 425 = .ok (.invokevirtual 43, 3) := by decide +kernel
theorem d_L_428 : decode code 428 = .ok (.aload_n 2, 1) := by decide +kernel
theorem d_L_429 : decode code 429 = .ok (.aload_n 0, 1) := by decide +kernel
theorem d_L_430 : decode code 430 = .ok (.iload 4, 2) := by decide +kernel
theorem d_L_432 : decode code 432 = .ok (.iconst 1, 1) := by decide +kernel
theorem d_L_433 : decode code 433 = .ok (.iadd, 1) := by decide +kernel
theorem d_L_434 : decode code 434 = .ok (.iaload, 1) := by decide +kernel
theorem d_L_435 : decode code 435 = .ok (.invokevirtual 46, 3) := by decide +kernel
theorem d_L_438 : decode code 438 = .ok (.if_icmp .eq 1007, 3) := by decide +kernel
theorem d_L_443 : decode code 443 = .ok (.aload_n 1, 1) := by decide +kernel
theorem d_L_444 : decode code 444 = .ok (.aload_n 0, 1) := by decide +kernel
theorem d_L_445 : decode code 445 = .ok (.iload 4, 2) := by decide +kernel
theorem d_L_447 : decode code 447 = .ok (.iconst 1, 1) := by decide +kernel
theorem d_L_448 : decode code 448 = .ok (.iadd, 1) := by decide +kernel
theorem d_L_449 : decode code 449 = .ok (.iaload, 1) := by decide +kernel
theorem d_L_450 : decode code 450 = .ok (.aload_n 0, 1) := by decide +kernel
theorem d_L_451 : decode code 451 = .ok (.iload 4, 2) := by decide +kernel
theorem d_L_453 : decode code 453 = .ok (.iconst 2, 1) := by decide +kernel
theorem d_L_454 : decode code 454 = .ok (.iadd, 1) := by decide +kernel
theorem d_L_455 : decode code 455 = .ok (.iaload, 1) := by decide +kernel
theorem d_L_456 : decode code 456 = .ok (.aload_n 0, 1) := by decide +kernel
theorem d_L_457 : decode code 457 = .ok (.iload 4, 2) := by decide +kernel
theorem d_L_459 : decode code 459 = .ok (.iconst 3, 1) := by decide +kernel
theorem d_L_460 : decode code 460 = .ok (.iadd, 1) := by decide +kernel
theorem d_L_461 : decode code 461 = .ok (.iaload, 1) := by decide +kernel
theorem d_L_462 : decode code 462 = .ok (.invokevirtual 47, 3) := by decide +kernel
theorem d_L_465 : decode code 465 = .ok (.aload_n 2, 1) := by decide +kernel
theorem d_L_466 : decode code 466 = .ok (.aload_n 0, 1) := by decide +kernel
theorem d_L_467 : decode code 467 = .ok (.iload 4, 2) := by decide +kernel
theorem d_L_469 : decode code 469 = .ok (.iconst 1, 1) := by decide +kernel
theorem d_L_470 : decode code 470 = .ok (.iadd, 1) := by decide +kernel
theorem d_L_471 : decode code 471 = .ok (.iaload, 1) := by decide +kernel
theorem d_L_472 : decode code 472 = .ok (.aload_n 0, 1) := by decide +kernel
theorem d_L_473 : decode code 473 = .ok (.iload 4, 2) := by decide +kernel
theorem d_L_475 : decode code 475 = .ok (.iconst 2, 1) := by decide +kernel
theorem d_L_476 : decode code 476 = .ok (.iadd, 1) := by decide +kernel
theorem d_L_477 : decode code 477 = .ok (.iaload, 1) := by decide +kernel
theorem d_L_478 : decode code 478 = .ok (.aload_n 0, 1) := by decide +kernel
theorem d_L_479 : decode code 479 = .ok (.iload 4, 2) := by decide +kernel
theorem d_L_481 : decode code 481 = .ok (.iconst 3, 1) := by decide +kernel
theorem d_L_482 : decode code 482 = .ok (.iadd, 1) := by decide +kernel
theorem d_L_483 : decode code 483 = .ok (.iaload, 1) := by decide +kernel
theorem d_L_484 : decode code 484 = .ok (.invokevirtual 51, 3) := by decide +kernel
theorem d_L_487 : decode code 487 = .ok (.if_icmp .eq 958, 3) := by decide +kernel
theorem d_L_492 : decode code 492 = .ok (.aload_n 1, 1) := by decide +kernel
theorem d_L_493 : decode code 493 = .ok (.aload_n 0, 1) := by decide +kernel
theorem d_L_494 : decode code 494 = .ok (.iload 4, 2) := by decide +kernel
theorem d_L_496 : decode code 496 = .ok (.iconst 1, 1) := by decide +kernel
theorem d_L_497 : decode code 497 = .ok (.iadd, 1) := by decide +kernel
theorem d_L_498 : decode code 498 = .ok (.iaload, 1) := by decide +kernel
theorem d_L_499 : decode code 499 = .ok (.aload_n 0, 1) := by decide +kernel
theorem d_L_500 : decode code 500 = .ok (.iload 4, 2) := by decide +kernel
theorem d_L_502 : decode code 502 = .ok (.iconst 2, 1) := by decide +kernel
theorem d_L_503 : decode code 503 = .ok (.iadd, 1) := by decide +kernel
theorem d_L_504 : decode code 504 = .ok (.iaload, 1) := by decide +kernel
theorem d_L_505 : decode code 505 = .ok (.aload_n 0, 1) := by decide +kernel
theorem d_L_506 : decode code 506 = .ok (.iload 4, 2) := by decide +kernel
theorem d_L_508 : decode code 508 = .ok (.iconst 3, 1) := by decide +kernel
theorem d_L_509 : decode code 509 = .ok (.iadd, 1) := by decide +kernel
theorem d_L_510 : decode code 510 = .ok (.iaload, 1) := by decide +kernel
theorem d_L_511 : decode code 511 = .ok (.invokevirtual 52, 3) := by decide +kernel
theorem d_L_514 : decode code 514 = .ok (.aload_n 2, 1) := by decide +kernel
theorem d_L_515 : decode code 515 = .ok (.aload_n 0, 1) := by decide +kernel
theorem d_L_516 : decode code 516 = .ok (.iload 4, 2) := by decide +kernel
theorem d_L_518 : decode code 518 = .ok (.iconst 1, 1) := by decide +kernel
theorem d_L_519 : decode code 519 = .ok (.iadd, 1) := by decide +kernel
theorem d_L_520 : decode code 520 = .ok (.iaload, 1) := by decide +kernel
theorem d_L_521 : decode code 521 = .ok (.aload_n 0, 1) := by decide +kernel
theorem d_L_522 : decode code 522 = .ok (.iload 4, 2) := by decide +kernel
theorem d_L_524 : decode code 524 = .ok (.iconst 2, 1) := by decide +kernel
theorem d_L_525 : decode code 525 = .ok (.iadd, 1) := by decide +kernel
theorem d_L_526 : decode code 526 = .ok (.iaload, 1) := by decide +kernel
theorem d_L_527 : decode code 527 = .ok (.aload_n 0, 1) := by decide +kernel
theorem d_L_528 : decode code 528 = .ok (.iload 4, 2) := by decide +kernel
theorem d_L_530 : decode code 530 = .ok (.iconst 3, 1) := by decide +kernel
theorem d_L_531 : decode code 531 = .ok (.iadd, 1) := by decide +kernel
theorem d_L_532 : decode code 532 = .ok (.iaload, 1) := by decide +kernel
theorem d_L_533 : decode code 533 = .ok (.invokevirtual 55, 3) := by decide +kernel
theorem d_L_536 : decode code 536 = .ok (.if_icmp .eq 909, 3) := by decide +kernel
theorem d_L_541 : decode code 541 = .ok (.aload_n 1, 1) := by decide +kernel
theorem d_L_542 : decode code 542 = .ok (.invokevirtual 56, 3) := by decide +kernel
theorem d_L_545 : decode code 545 = .ok (.aload_n 2, 1) := by decide +kernel
theorem d_L_546 : decode code 546 = .ok (.invokevirtual 60, 3) := by decide +kernel
theorem d_L_549 : decode code 549 = .ok (.if_icmp .eq 896, 3) := by decide +kernel
theorem d_L_554 : decode code 554 = .ok (.aload_n 1, 1) := by decide +kernel
theorem d_L_555 : decode code 555 = .ok (.aload_n 0, 1) := by decide +kernel
theorem d_L_556 : decode code 556 = .ok (.iload 4, 2) := by decide +kernel
theorem d_L_558 : decode code 558 = .ok (.iconst 1, 1) := by decide +kernel
theorem d_L_559 : decode code 559 = .ok (.iadd, 1) := by decide +kernel
theorem d_L_560 : decode code 560 = .ok (.iaload, 1) := by decide +kernel
theorem d_L_561 : decode code 561 = .ok (.invokevirtual 61, 3) := by decide +kernel
theorem d_L_564 : decode code 564 = .ok (.aload_n 2, 1) := by decide +kernel
theorem d_L_565 : decode code 565 = .ok (.aload_n 0, 1) := by decide +kernel
theorem d_L_566 : decode code 566 = .ok (.iload 4, 2) := by decide +kernel
theorem d_L_568 : decode code 568 = .ok (.iconst 1, 1) := by decide +kernel
theorem d_L_569 : decode code 569 = .ok (.iadd, 1) := by decide +kernel
theorem d_L_570 : decode code 570 = .ok (.iaload, 1) := by decide +kernel
theorem d_L_571 : decode code 571 = .ok (.invokevirtual 64, 3) := by decide +kernel
theorem d_L_574 : decode code 574 = .ok (.if_icmp .eq 871, 3) := by decide +kernel
theorem d_L_579 : decode code 579 = .ok (.aload_n 1, 1) := by decide +kernel
theorem d_L_580 : decode code 580 = .ok (.aload_n 0, 1) := by decide +kernel
theorem d_L_581 : decode code 581 = .ok (.iload 4, 2) := by decide +kernel
theorem d_L_583 : decode code 583 = .ok (.iconst 1, 1) := by decide +kernel
theorem d_L_584 : decode code 584 = .ok (.iadd, 1) := by decide +kernel
theorem d_L_585 : decode code 585 = .ok (.iaload, 1) := by decide +kernel
theorem d_L_586 : decode code 586 = .ok (.invokevirtual 65, 3) := by decide +kernel
theorem d_L_589 : decode code 589 = .ok (.aload_n 2, 1) := by decide +kernel
theorem d_L_590 : decode code 590 = .ok (.aload_n 0, 1) := by decide +kernel
theorem d_L_591 : decode code 591 = .ok (.iload 4, 2) := by decide +kernel
theorem d_L_593 : decode code 593 = .ok (.iconst 1, 1) := by decide +kernel
theorem d_L_594 : decode code 594 = .ok (.iadd, 1) := by decide +kernel
theorem d_L_595 : decode code 595 = .ok (.iaload, 1) := by decide +kernel
theorem d_L_596 : decode code 596 = .ok (.invokevirtual 68, 3) := by decide +kernel
theorem d_L_599 : decode code 599 = .ok (.if_icmp .eq 846, 3) := by decide +kernel
theorem d_L_604 : decode code 604 = .ok (.aload_n 1, 1) := by decide +kernel
theorem d_L_605 : decode code 605 = .ok (.aload_n 0, 1) := by decide +kernel
theorem d_L_606 : decode code 606 = .ok (.iload 4, 2) := by decide +kernel
theorem d_L_608 : decode code 608 = .ok (.iconst 1, 1) := by decide +kernel
theorem d_L_609 : decode code 609 = .ok (.iadd, 1) := by decide +kernel
theorem d_L_610 : decode code 610 = .ok (.iaload, 1) := by decide +kernel
theorem d_L_611 : decode code 611 = .ok (.invokevirtual 69, 3) := by decide +kernel
theorem d_L_614 : decode code 614 = .ok (.aload_n 2, 1) := by decide +kernel
theorem d_L_615 : decode code 615 = .ok (.aload_n 0, 1) := by decide +kernel
theorem d_L_616 : decode code 616 = .ok (.iload 4, 2) := by decide +kernel
theorem d_L_618 : decode code 618 = .ok (.iconst 1, 1) := by decide +kernel
theorem d_L_619 : decode code 619 = .ok (.iadd, 1) := by decide +kernel
theorem d_L_620 : decode code 620 = .ok (.iaload, 1) := by decide +kernel
theorem d_L_621 : decode code 621 = .ok (.invokevirtual 72, 3) := by decide +kernel
theorem d_L_624 : decode code 624 = .ok (.if_icmp .eq 821, 3) := by decide +kernel
theorem d_L_629 : decode code 629 = .ok (.aload_n 1, 1) := by decide +kernel
theorem d_L_630 : decode code 630 = .ok (.aload_n 0, 1) := by decide +kernel
theorem d_L_631 : decode code 631 = .ok (.iload 4, 2) := by decide +kernel
theorem d_L_633 : decode code 633 = .ok (.iconst 1, 1) := by decide +kernel
theorem d_L_634 : decode code 634 = .ok (.iadd, 1) := by decide +kernel
theorem d_L_635 : decode code 635 = .ok (.iaload, 1) := by decide +kernel
theorem d_L_636 : decode code 636 = .ok (.aload_n 0, 1) := by decide +kernel
theorem d_L_637 : decode code 637 = .ok (.iload 4, 2) := by decide +kernel
theorem d_L_639 : decode code 639 = .ok (.iconst 2, 1) := by decide +kernel
theorem d_L_640 : decode code 640 = .ok (.iadd, 1) := by decide +kernel
theorem d_L_641 : decode code 641 = .ok (.iaload, 1) := by decide +kernel
theorem d_L_642 : decode code 642 = .ok (.invokevirtual 73, 3) := by decide +kernel
theorem d_L_645 : decode code 645 = .ok (.aload_n 2, 1) := by decide +kernel
theorem d_L_646 : decode code 646 = .ok (.aload_n 0, 1) := by decide +kernel
theorem d_L_647 : decode code 647 = .ok (.iload 4, 2) := by decide +kernel
theorem d_L_649 : decode code 649 = .ok (.iconst 1, 1) := by decide +kernel
theorem d_L_650 : decode code 650 = .ok (.iadd, 1) := by decide +kernel
theorem d_L_651 : decode code 651 = .ok (.iaload, 1) := by decide +kernel
theorem d_L_652 : decode code 652 = .ok (.aload_n 0, 1) := by decide +kernel
theorem d_L_653 : decode code 653 = .ok (.iload 4, 2) := by decide +kernel
theorem d_L_655 : decode code 655 = .ok (.iconst 2, 1) := by decide +kernel
theorem d_L_656 : decode code 656 = .ok (.iadd, 1) := by decide +kernel
theorem d_L_657 : decode code 657 = .ok (.iaload, 1) := by decide +kernel
theorem d_L_658 : decode code 658 = .ok (.invokevirtual 76, 3) := by decide +kernel
theorem d_L_661 : decode code 661 = .ok (.if_icmp .eq 784, 3) := by decide +kernel
theorem d_L_666 : decode code 666 = .ok (.aload_n 1, 1) := by decide +kernel
theorem d_L_667 : decode code 667 = .ok (.aload_n 0, 1) := by decide +kernel
theorem d_L_668 : decode code 668 = .ok (.iload 4, 2) := by decide +kernel
theorem d_L_670 : decode code 670 = .ok (.iconst 1, 1) := by decide +kernel
theorem d_L_671 : decode code 671 = .ok (.iadd, 1) := by decide +kernel
theorem d_L_672 : decode code 672 = .ok (.iaload, 1) := by decide +kernel
theorem d_L_673 : decode code 673 = .ok (.aload_n 0, 1) := by decide +kernel
theorem d_L_674 : decode code 674 = .ok (.iload 4, 2) := by decide +kernel
theorem d_L_676 : decode code 676 = .ok (.iconst 2, 1) := by decide +kernel
theorem d_L_677 : decode code 677 = .ok (.iadd, 1) := by decide +kernel
theorem d_L_678 : decode code 678 = .ok (.iaload, 1) := by decide +kernel
theorem d_L_679 : decode code 679 = .ok (.aload_n 0, 1) := by decide +kernel
theorem d_L_680 : decode code 680 = .ok (.iload 4, 2) := by decide +kernel
theorem d_L_682 : decode code 682 = .ok (.iconst 3, 1) := by decide +kernel
theorem d_L_683 : decode code 683 = .ok (.iadd, 1) := by decide +kernel
theorem d_L_684 : decode code 684 = .ok (.iaload, 1) := by decide +kernel
theorem d_L_685 : decode code 685 = .ok (.ifCond .eq 7, 3) := by decide +kernel
theorem d_L_688 : decode code 688 = .ok (.iconst 1, 1) := by decide +kernel
theorem d_L_689 : decode code 689 = .ok (.goto 4, 3) := by decide +kernel
theorem d_L_692 : decode code 692 = .ok (.iconst 0, 1) := by decide +kernel
theorem d_L_693 : decode code 693 = .ok (.invokevirtual 77, 3) := by decide +kernel
theorem d_L_696 : decode code 696 = .ok (.aload_n 2, 1) := by decide +kernel
theorem d_L_697 : decode code 697 = .ok (.aload_n 0, 1) := by decide +kernel
theorem d_L_698 : decode code 698 = .ok (.iload 4, 2) := by decide +kernel
theorem d_L_700 : decode code 700 = .ok (.iconst 1, 1) := by decide +kernel
theorem d_L_701 : decode code 701 = .ok (.iadd, 1) := by decide +kernel
theorem d_L_702 : decode code 702 = .ok (.iaload, 1) := by decide +kernel
theorem d_L_703 : decode code 703 = .ok (.aload_n 0, 1) := by decide +kernel
theorem d_L_704 : decode code 704 = .ok (.iload 4, 2) := by decide +kernel
theorem d_L_706 : decode code 706 = .ok (.iconst 2, 1) := by decide +kernel
theorem d_L_707 : decode code 707 = .ok (.iadd, 1) := by decide +kernel
theorem d_L_708 : decode code 708 = .ok (.iaload, 1) := by decide +kernel
theorem d_L_709 : decode code 709 = .ok (.aload_n 0, 1) := by decide +kernel
theorem d_L_710 : decode code 710 = .ok (.iload 4, 2) := by decide +kernel
theorem d_L_712 : decode code 712 = .ok (.iconst 3, 1) := by decide +kernel
theorem d_L_713 : decode code 713 = .ok (.iadd, 1) := by decide +kernel
theorem d_L_714 : decode code 714 = .ok (.iaload, 1) := by decide +kernel
theorem d_L_715 : decode code 715 = .ok (.ifCond .eq 7, 3) := by decide +kernel
theorem d_L_718 : decode code 718 = .ok (.iconst 1, 1) := by decide +kernel
theorem d_L_719 : decode code 719 = .ok (.goto 4, 3) := by decide +kernel
theorem d_L_722 : decode code 722 = .ok (.iconst 0, 1) := by decide +kernel
theorem d_L_723 : decode code 723 = .ok (.invokevirtual 81, 3) := by decide +kernel
theorem d_L_726 : decode code 726 = .ok (.if_icmp .eq 719, 3) := by decide +kernel
theorem d_L_731 : decode code 731 = .ok (.aload_n 1, 1) := by decide +kernel
theorem d_L_732 : decode code 732 = .ok (.aload_n 0, 1) := by decide +kernel
theorem d_L_733 : decode code 733 = .ok (.iload 4, 2) := by decide +kernel
theorem d_L_735 : decode code 735 = .ok (.iconst 1, 1) := by decide +kernel
theorem d_L_736 : decode code 736 = .ok (.iadd, 1) := by decide +kernel
theorem d_L_737 : decode code 737 = .ok (.iaload, 1) := by decide +kernel
theorem d_L_738 : decode code 738 = .ok (.aload_n 0, 1) := by decide +kernel
theorem d_L_739 : decode code 739 = .ok (.iload 4, 2) := by decide +kernel
theorem d_L_741 : decode code 741 = .ok (.iconst 2, 1) := by decide +kernel
theorem d_L_742 : decode code 742 = .ok (.iadd, 1) := by decide +kernel
theorem d_L_743 : decode code 743 = .ok (.iaload, 1) := by decide +kernel
theorem d_L_744 : decode code 744 = .ok (.invokevirtual 82, 3) := by decide +kernel
theorem d_L_747 : decode code 747 = .ok (.aload_n 2, 1) := by decide +kernel
theorem d_L_748 : decode code 748 = .ok (.aload_n 0, 1) := by decide +kernel
theorem d_L_749 : decode code 749 = .ok (.iload 4, 2) := by decide +kernel
theorem d_L_751 : decode code 751 = .ok (.iconst 1, 1) := by decide +kernel
theorem d_L_752 : decode code 752 = .ok (.iadd, 1) := by decide +kernel
theorem d_L_753 : decode code 753 = .ok (.iaload, 1) := by decide +kernel
theorem d_L_754 : decode code 754 = .ok (.aload_n 0, 1) := by decide +kernel
theorem d_L_755 : decode code 755 = .ok (.iload 4, 2) := by decide +kernel
theorem d_L_757 : decode code 757 = .ok (.iconst 2, 1) := by decide +kernel
theorem d_L_758 : decode code 758 = .ok (.iadd, 1) := by decide +kernel
theorem d_L_759 : decode code 759 = .ok (.iaload, 1) := by decide +kernel
theorem d_L_760 : decode code 760 = .ok (.invokevirtual 85, 3) := by decide +kernel
theorem d_L_763 : decode code 763 = .ok (.if_icmp .eq 682, 3) := by decide +kernel
theorem d_L_768 : decode code 768 = .ok (.aload_n 1, 1) := by decide +kernel
theorem d_L_769 : decode code 769 = .ok (.aload_n 0, 1) := by decide +kernel
theorem d_L_770 : decode code 770 = .ok (.iload 4, 2) := by decide +kernel
theorem d_L_772 : decode code 772 = .ok (.iconst 1, 1) := by decide +kernel
theorem d_L_773 : decode code 773 = .ok (.iadd, 1) := by decide +kernel
theorem d_L_774 : decode code 774 = .ok (.iaload, 1) := by decide +kernel
theorem d_L_775 : decode code 775 = .ok (.invokevirtual 86, 3) := by decide +kernel
theorem d_L_778 : decode code 778 = .ok (.aload_n 2, 1) := by decide +kernel
theorem d_L_779 : decode code 779 = .ok (.aload_n 0, 1) := by decide +kernel
theorem d_L_780 : decode code 780 = .ok (.iload 4, 2) := by decide +kernel
theorem d_L_782 : decode code 782 = .ok (.iconst 1, 1) := by decide +kernel
theorem d_L_783 : decode code 783 = .ok (.iadd, 1) := by decide +kernel
theorem d_L_784 : decode code 784 = .ok (.iaload, 1) := by decide +kernel
theorem d_L_785 : decode code 785 = .ok (.invokevirtual 89, 3) := by decide +kernel
theorem d_L_788 : decode code 788 = .ok (.if_icmp .eq 657, 3) := by decide +kernel
theorem d_L_793 : decode code 793 = .ok (.aload_n 1, 1) := by decide +kernel
theorem d_L_794 : decode code 794 = .ok (.aload_n 0, 1) := by decide +kernel
theorem d_L_795 : decode code 795 = .ok (.iload 4, 2) := by decide +kernel
theorem d_L_797 : decode code 797 = .ok (.iconst 1, 1) := by decide +kernel
theorem d_L_798 : decode code 798 = .ok (.iadd, 1) := by decide +kernel
theorem d_L_799 : decode code 799 = .ok (.iaload, 1) := by decide +kernel
theorem d_L_800 : decode code 800 = .ok (.invokevirtual 90, 3) := by decide +kernel
theorem d_L_803 : decode code 803 = .ok (.aload_n 2, 1) := by decide +kernel
theorem d_L_804 : decode code 804 = .ok (.aload_n 0, 1) := by decide +kernel
theorem d_L_805 : decode code 805 = .ok (.iload 4, 2) := by decide +kernel
theorem d_L_807 : decode code 807 = .ok (.iconst 1, 1) := by decide +kernel
theorem d_L_808 : decode code 808 = .ok (.iadd, 1) := by decide +kernel
theorem d_L_809 : decode code 809 = .ok (.iaload, 1) := by decide +kernel
theorem d_L_810 : decode code 810 = .ok (.invokevirtual 93, 3) := by decide +kernel
theorem d_L_813 : decode code 813 = .ok (.if_icmp .eq 632, 3) := by decide +kernel
theorem d_L_818 : decode code 818 = .ok (.aload_n 1, 1) := by decide +kernel
theorem d_L_819 : decode code 819 = .ok (.aload_n 0, 1) := by decide +kernel
theorem d_L_820 : decode code 820 = .ok (.iload 4, 2) := by decide +kernel
theorem d_L_822 : decode code 822 = .ok (.iconst 1, 1) := by decide +kernel
theorem d_L_823 : decode code 823 = .ok (.iadd, 1) := by decide +kernel
theorem d_L_824 : decode code 824 = .ok (.iaload, 1) := by decide +kernel
theorem d_L_825 : decode code 825 = .ok (.aload_n 0, 1) := by decide +kernel
theorem d_L_826 : decode code 826 = .ok (.iload 4, 2) := by decide +kernel
theorem d_L_828 : decode code 828 = .ok (.iconst 2, 1) := by decide +kernel
theorem d_L_829 : decode code 829 = .ok (.iadd, 1) := by decide +kernel
theorem d_L_830 : decode code 830 = .ok (.iaload, 1) := by decide +kernel
theorem d_L_831 : decode code 831 = .ok (.invokevirtual 94, 3) := by decide +kernel
theorem d_L_834 : decode code 834 = .ok (.aload_n 2, 1) := by decide +kernel
theorem d_L_835 : decode code 835 = .ok (.aload_n 0, 1) := by decide +kernel
theorem d_L_836 : decode code 836 = .ok (.iload 4, 2) := by decide +kernel
theorem d_L_838 : decode code 838 = .ok (.iconst 1, 1) := by decide +kernel
theorem d_L_839 : decode code 839 = .ok (.iadd, 1) := by decide +kernel
theorem d_L_840 : decode code 840 = .ok (.iaload, 1) := by decide +kernel
theorem d_L_841 : decode code 841 = .ok (.aload_n 0, 1) := by decide +kernel
theorem d_L_842 : decode code 842 = .ok (.iload 4, 2) := by decide +kernel
theorem d_L_844 : decode code 844 = .ok (.iconst 2, 1) := by decide +kernel
theorem d_L_845 : decode code 845 = .ok (.iadd, 1) := by decide +kernel
theorem d_L_846 : decode code 846 = .ok (.iaload, 1) := by decide +kernel
theorem d_L_847 : decode code 847 = .ok (.invokevirtual 97, 3) := by decide +kernel
theorem d_L_850 : decode code 850 = .ok (.if_icmp .eq 595, 3) := by decide +kernel
theorem d_L_855 : decode code 855 = .ok (.aload_n 1, 1) := by decide +kernel
theorem d_L_856 : decode code 856 = .ok (.aload_n 0, 1) := by decide +kernel
theorem d_L_857 : decode code 857 = .ok (.iload 4, 2) := by decide +kernel
theorem d_L_859 : decode code 859 = .ok (.iconst 1, 1) := by decide +kernel
theorem d_L_860 : decode code 860 = .ok (.iadd, 1) := by decide +kernel
theorem d_L_861 : decode code 861 = .ok (.iaload, 1) := by decide +kernel
theorem d_L_862 : decode code 862 = .ok (.aload_n 0, 1) := by decide +kernel
theorem d_L_863 : decode code 863 = .ok (.iload 4, 2) := by decide +kernel
theorem d_L_865 : decode code 865 = .ok (.iconst 2, 1) := by decide +kernel
theorem d_L_866 : decode code 866 = .ok (.iadd, 1) := by decide +kernel
theorem d_L_867 : decode code 867 = .ok (.iaload, 1) := by decide +kernel
theorem d_L_868 : decode code 868 = .ok (.invokevirtual 98, 3) := by decide +kernel
theorem d_L_871 : decode code 871 = .ok (.aload_n 2, 1) := by decide +kernel
theorem d_L_872 : decode code 872 = .ok (.aload_n 0, 1) := by decide +kernel
theorem d_L_873 : decode code 873 = .ok (.iload 4, 2) := by decide +kernel
theorem d_L_875 : decode code 875 = .ok (.iconst 1, 1) := by decide +kernel
theorem d_L_876 : decode code 876 = .ok (.iadd, 1) := by decide +kernel
theorem d_L_877 : decode code 877 = .ok (.iaload, 1) := by decide +kernel
theorem d_L_878 : decode code 878 = .ok (.aload_n 0, 1) := by decide +kernel
theorem d_L_879 : decode code 879 = .ok (.iload 4, 2) := by decide +kernel
theorem d_L_881 : decode code 881 = .ok (.iconst 2, 1) := by decide +kernel
theorem d_L_882 : decode code 882 = .ok (.iadd, 1) := by decide +kernel
theorem d_L_883 : decode code 883 = .ok (.iaload, 1) := by decide +kernel
theorem d_L_884 : decode code 884 = .ok (.invokevirtual 101, 3) := by decide +kernel
theorem d_L_887 : decode code 887 = .ok (.if_icmp .eq 558, 3) := by decide +kernel
theorem d_L_892 : decode code 892 = .ok (.aload_n 1, 1) := by decide +kernel
theorem d_L_893 : decode code 893 = .ok (.aload_n 0, 1) := by decide +kernel
theorem d_L_894 : decode code 894 = .ok (.iload 4, 2) := by decide +kernel
theorem d_L_896 : decode code 896 = .ok (.iconst 1, 1) := by decide +kernel
theorem d_L_897 : decode code 897 = .ok (.iadd, 1) := by decide +kernel
theorem d_L_898 : decode code 898 = .ok (.iaload, 1) := by decide +kernel
theorem d_L_899 : decode code 899 = .ok (.invokevirtual 102, 3) := by decide +kernel
theorem d_L_902 : decode code 902 = .ok (.aload_n 2, 1) := by decide +kernel
theorem d_L_903 : decode code 903 = .ok (.aload_n 0, 1) := by decide +kernel
theorem d_L_904 : decode code 904 = .ok (.iload 4, 2) := by decide +kernel
theorem d_L_906 : decode code 906 = .ok (.iconst 1, 1) := by decide +kernel
theorem d_L_907 : decode code 907 = .ok (.iadd, 1) := by decide +kernel
theorem d_L_908 : decode code 908 = .ok (.iaload, 1) := by decide +kernel
theorem d_L_909 : decode code 909 = .ok (.invokevirtual 105, 3) := by decide +kernel
theorem d_L_912 : decode code 912 = .ok (.if_icmp .eq 533, 3) := by decide +kernel
theorem d_L_917 : decode code 917 = .ok (.aload_n 1, 1) := by decide +kernel
theorem d_L_918 : decode code 918 = .ok (.aload_n 0, 1) := by decide +kernel
theorem d_L_919 : decode code 919 = .ok (.iload 4, 2) := by decide +kernel
theorem d_L_921 : decode code 921 = .ok (.iconst 1, 1) := by decide +kernel
theorem d_L_922 : decode code 922 = .ok (.iadd, 1) := by decide +kernel
theorem d_L_923 : decode code 923 = .ok (.iaload, 1) := by decide +kernel
theorem d_L_924 : decode code 924 = .ok (.invokevirtual 106, 3) := by decide +kernel
theorem d_L_927 : decode code 927 = .ok (.aload_n 2, 1) := by decide +kernel
theorem d_L_928 : decode code 928 = .ok (.aload_n 0, 1) := by decide +kernel
theorem d_L_929 : decode code 929 = .ok (.iload 4, 2) := by decide +kernel
theorem d_L_931 : decode code 931 = .ok (.iconst 1, 1) := by decide +kernel
theorem d_L_932 : decode code 932 = .ok (.iadd, 1) := by decide +kernel
theorem d_L_933 : decode code 933 = .ok (.iaload, 1) := by decide +kernel
theorem d_L_934 : decode code 934 = .ok (.invokevirtual 109, 3) := by decide +kernel
theorem d_L_937 : decode code 937 = .ok (.if_icmp .eq 508, 3) := by decide +kernel
theorem d_L_942 : decode code 942 = .ok (.aload_n 1, 1) := by decide +kernel
theorem d_L_943 : decode code 943 = .ok (.aload_n 0, 1) := by decide +kernel
theorem d_L_944 : decode code 944 = .ok (.iload 4, 2) := by decide +kernel
theorem d_L_946 : decode code 946 = .ok (.iconst 1, 1) := by decide +kernel
theorem d_L_947 : decode code 947 = .ok (.iadd, 1) := by decide +kernel
theorem d_L_948 : decode code 948 = .ok (.iaload, 1) := by decide +kernel
theorem d_L_949 : decode code 949 = .ok (.aload_n 0, 1) := by decide +kernel
theorem d_L_950 : decode code 950 = .ok (.iload 4, 2) := by decide +kernel
theorem d_L_952 : decode code 952 = .ok (.iconst 2, 1) := by decide +kernel
theorem d_L_953 : decode code 953 = .ok (.iadd, 1) := by decide +kernel
theorem d_L_954 : decode code 954 = .ok (.iaload, 1) := by decide +kernel
theorem d_L_955 : decode code 955 = .ok (.invokevirtual 110, 3) := by decide +kernel
theorem d_L_958 : decode code 958 = .ok (.aload_n 2, 1) := by decide +kernel
theorem d_L_959 : decode code 959 = .ok (.aload_n 0, 1) := by decide +kernel
theorem d_L_960 : decode code 960 = .ok (.iload 4, 2) := by decide +kernel
theorem d_L_962 : decode code 962 = .ok (.iconst 1, 1) := by decide +kernel
theorem d_L_963 : decode code 963 = .ok (.iadd, 1) := by decide +kernel
theorem d_L_964 : decode code 964 = .ok (.iaload, 1) := by decide +kernel
theorem d_L_965 : decode code 965 = .ok (.aload_n 0, 1) := by decide +kernel
theorem d_L_966 : decode code 966 = .ok (.iload 4, 2) := by decide +kernel
theorem d_L_968 : decode code 968 = .ok (.iconst 2, 1) := by decide +kernel
theorem d_L_969 : decode code 969 = .ok (.iadd, 1) := by decide +kernel
theorem d_L_970 : decode code 970 = .ok (.iaload, 1) := by decide +kernel
theorem d_L_971 : decode code 971 = .ok (.invokevirtual 113, 3) := by decide +kernel
theorem d_L_974 : decode code 974 = .ok (.if_icmp .eq 471, 3) := by decide +kernel
theorem d_L_979 : decode code 979 = .ok (.aload_n 1, 1) := by decide +kernel
theorem d_L_980 : decode code 980 = .ok (.aload_n 0, 1) := by decide +kernel
theorem d_L_981 : decode code 981 = .ok (.iload 4, 2) := by decide +kernel
theorem d_L_983 : decode code 983 = .ok (.iconst 1, 1) := by decide +kernel
theorem d_L_984 : decode code 984 = .ok (.iadd, 1) := by decide +kernel
theorem d_L_985 : decode code 985 = .ok (.iaload, 1) := by decide +kernel
theorem d_L_986 : decode code 986 = .ok (.invokevirtual 114, 3) := by decide +kernel
theorem d_L_989 : decode code 989 = .ok (.aload_n 2, 1) := by decide +kernel
theorem d_L_990 : decode code 990 = .ok (.aload_n 0, 1) := by decide +kernel
theorem d_L_991 : decode code 991 = .ok (.iload 4, 2) := by decide +kernel
theorem d_L_993 : decode code 993 = .ok (.iconst 1, 1) := by decide +kernel
theorem d_L_994 : decode code 994 = .ok (.iadd, 1) := by decide +kernel
theorem d_L_995 : decode code 995 = .ok (.iaload, 1) := by decide +kernel
theorem d_L_996 : decode code 996 = .ok (.invokevirtual 117, 3) := by decide +kernel
theorem d_L_999 : decode code 999 = .ok (.if_icmp .eq 446, 3) := by decide +kernel
theorem d_L_1004 : decode code 1004 = .ok (.aload_n 1, 1) := by decide +kernel
theorem d_L_1005 : decode code 1005 = .ok (.aload_n 0, 1) := by decide +kernel
theorem d_L_1006 : decode code 1006 = .ok (.iload 4, 2) := by decide +kernel
theorem d_L_1008 : decode code 1008 = .ok (.iconst 1, 1) := by decide +kernel
theorem d_L_1009 : decode code 1009 = .ok (.iadd, 1) := by decide +kernel
theorem d_L_1010 : decode code 1010 = .ok (.iaload, 1) := by decide +kernel
theorem d_L_1011 : decode code 1011 = .ok (.aload_n 3, 1) := by decide +kernel
theorem d_L_1012 : decode code 1012 = .ok (.invokestatic 118, 3) := by decide +kernel
theorem d_L_1015 : decode code 1015 = .ok (.istore 5, 2) := by decide +kernel
theorem d_L_1017 : decode code 1017 = .ok (.aload_n 2, 1) := by decide +kernel
theorem d_L_1018 : decode code 1018 = .ok (.aload_n 0, 1) := by decide +kernel
theorem d_L_1019 : decode code 1019 = .ok (.iload 4, 2) := by decide +kernel
theorem d_L_1021 : decode code 1021 = .ok (.iconst 1, 1) := by decide +kernel
theorem d_L_1022 : decode code 1022 = .ok (.iadd, 1) := by decide +kernel
theorem d_L_1023 : decode code 1023 = .ok (.iaload, 1) := by decide +kernel
theorem d_L_1024 : decode code 1024 = .ok (.invokevirtual 123, 3) := by decide +kernel
theorem d_L_1027 : decode code 1027 = .ok (.istore 6, 2) := by decide +kernel
theorem d_L_1029 : decode code 1029 = .ok (.aload_n 2, 1) := by decide +kernel
theorem d_L_1030 : decode code 1030 = .ok (.invokevirtual 124, 3) := by decide +kernel
theorem d_L_1033 : decode code 1033 = .ok (.iload 5, 2) := by decide +kernel
theorem d_L_1035 : decode code 1035 = .ok (.if_icmp .eq 5, 3) := by decide +kernel
theorem d_L_1040 : decode code 1040 = .ok (.iload 5, 2) := by decide +kernel
theorem d_L_1042 : decode code 1042 = .ok (.ifCond .ne 15, 3) := by decide +kernel
theorem d_L_1045 : decode code 1045 = .ok (.aload_n 3, 1) := by decide +kernel
theorem d_L_1046 : decode code 1046 = .ok (.iconst 0, 1) := by decide +kernel
theorem d_L_1047 : decode code 1047 = .ok (.laload, 1) := by decide +kernel
theorem d_L_1048 : decode code 1048 = .ok (.iload 6, 2) := by decide +kernel
theorem d_L_1050 : decode code 1050 = .ok (.i2l, 1) := by decide +kernel
theorem d_L_1051 : decode code 1051 = .ok (.lcmp, 1) := by decide +kernel
theorem d_L_1052 : decode code 1052 = .ok (.ifCond .eq 5, 3) := by decide +kernel
theorem d_L_1057 : decode code 1057 = .ok (.goto 388, 3) := by decide +kernel
theorem d_L_1060 : decode code 1060 = .ok (.aload_n 1, 1) := by decide +kernel
theorem d_L_1061 : decode code 1061 = .ok (.aload_n 0, 1) := by decide +kernel
theorem d_L_1062 : decode code 1062 = .ok (.iload 4, 2) := by decide +kernel
theorem d_L_1064 : decode code 1064 = .ok (.iconst 1, 1) := by decide +kernel
theorem d_L_1065 : decode code 1065 = .ok (.iadd, 1) := by decide +kernel
theorem d_L_1066 : decode code 1066 = .ok (.iaload, 1) := by decide +kernel
theorem d_L_1067 : decode code 1067 = .ok (.aload_n 3, 1) := by decide +kernel
theorem d_L_1068 : decode code 1068 = .ok (.invokestatic 127, 3) := by decide +kernel
theorem d_L_1071 : decode code 1071 = .ok (.istore 5, 2) := by decide +kernel
theorem d_L_1073 : decode code 1073 = .ok (.aload_n 2, 1) := by decide +kernel
theorem d_L_1074 : decode code 1074 = .ok (.aload_n 0, 1) := by decide +kernel
theorem d_L_1075 : decode code 1075 = .ok (.iload 4, 2) := by decide +kernel
theorem d_L_1077 : decode code 1077 = .ok (.iconst 1, 1) := by decide +kernel
theorem d_L_1078 : decode code 1078 = .ok (.iadd, 1) := by decide +kernel
theorem d_L_1079 : decode code 1079 = .ok (.iaload, 1) := by decide +kernel
theorem d_L_1080 : decode code 1080 = .ok (.invokevirtual 129, 3) := by decide +kernel
theorem d_L_1083 : decode code 1083 = .ok (.istore 6, 2) := by decide +kernel
theorem d_L_1085 : decode code 1085 = .ok (.aload_n 2, 1) := by decide +kernel
theorem d_L_1086 : decode code 1086 = .ok (.invokevirtual 124, 3) := by decide +kernel
theorem d_L_1089 : decode code 1089 = .ok (.iload 5, 2) := by decide +kernel
theorem d_L_1091 : decode code 1091 = .ok (.if_icmp .eq 5, 3) := by decide +kernel
theorem d_L_1096 : decode code 1096 = .ok (.iload 5, 2) := by decide +kernel
theorem d_L_1098 : decode code 1098 = .ok (.ifCond .ne 15, 3) := by decide +kernel
theorem d_L_1101 : decode code 1101 = .ok (.aload_n 3, 1) := by decide +kernel
theorem d_L_1102 : decode code 1102 = .ok (.iconst 0, 1) := by decide +kernel
theorem d_L_1103 : decode code 1103 = .ok (.laload, 1) := by decide +kernel
theorem d_L_1104 : decode code 1104 = .ok (.iload 6, 2) := by decide +kernel
theorem d_L_1106 : decode code 1106 = .ok (.i2l, 1) := by decide +kernel
theorem d_L_1107 : decode code 1107 = .ok (.lcmp, 1) := by decide +kernel
theorem d_L_1108 : decode code 1108 = .ok (.ifCond .eq 5, 3) := by decide +kernel
theorem d_L_1113 : decode code 1113 = .ok (.goto 332, 3) := by decide +kernel
theorem d_L_1116 : decode code 1116 = .ok (.aload_n 1, 1) := by decide +kernel
theorem d_L_1117 : decode code 1117 = .ok (.aload_n 0, 1) := by decide +kernel
theorem d_L_1118 : decode code 1118 = .ok (.iload 4, 2) := by decide +kernel
theorem d_L_1120 : decode code 1120 = .ok (.iconst 1, 1) := by decide +kernel
theorem d_L_1121 : decode code 1121 = .ok (.iadd, 1) := by decide +kernel
theorem d_L_1122 : decode code 1122 = .ok (.iaload, 1) := by decide +kernel
theorem d_L_1123 : decode code 1123 = .ok (.aload_n 0, 1) := by decide +kernel
theorem d_L_1124 : decode code 1124 = .ok (.iload 4, 2) := by decide +kernel
theorem d_L_1126 : decode code 1126 = .ok (.iconst 2, 1) := by decide +kernel
theorem d_L_1127 : decode code 1127 = .ok (.iadd, 1) := by decide +kernel
theorem d_L_1128 : decode code 1128 = .ok (.iaload, 1) := by decide +kernel
theorem d_L_1129 : decode code 1129 = .ok (.invokevirtual 130, 3) := by decide +kernel
theorem d_L_1132 : decode code 1132 = .ok (.aload_n 2, 1) := by decide +kernel
theorem d_L_1133 : decode code 1133 = .ok (.aload_n 0, 1) := by decide +kernel
theorem d_L_1134 : decode code 1134 = .ok (.iload 4, 2) := by decide +kernel
theorem d_L_1136 : decode code 1136 = .ok (.iconst 1, 1) := by decide +kernel
theorem d_L_1137 : decode code 1137 = .ok (.iadd, 1) := by decide +kernel
theorem d_L_1138 : decode code 1138 = .ok (.iaload, 1) := by decide +kernel
theorem d_L_1139 : decode code 1139 = .ok (.aload_n 0, 1) := by decide +kernel
theorem d_L_1140 : decode code 1140 = .ok (.iload 4, 2) := by decide +kernel
theorem d_L_1142 : decode code 1142 = .ok (.iconst 2, 1) := by decide +kernel
theorem d_L_1143 : decode code 1143 = .ok (.iadd, 1) := by decide +kernel
theorem d_L_1144 : decode code 1144 = .ok (.iaload, 1) := by decide +kernel
theorem d_L_1145 : decode code 1145 = .ok (.invokevirtual 133, 3) := by decide +kernel
theorem d_L_1148 : decode code 1148 = .ok (.if_icmp .eq 297, 3) := by decide +kernel
theorem d_L_1153 : decode code 1153 = .ok (.aload_n 1, 1) := by decide +kernel
theorem d_L_1154 : decode code 1154 = .ok (.aload_n 0, 1) := by decide +kernel
theorem d_L_1155 : decode code 1155 = .ok (.iload 4, 2) := by decide +kernel
theorem d_L_1157 : decode code 1157 = .ok (.iconst 1, 1) := by decide +kernel
theorem d_L_1158 : decode code 1158 = .ok (.iadd, 1) := by decide +kernel
theorem d_L_1159 : decode code 1159 = .ok (.iaload, 1) := by decide +kernel
theorem d_L_1160 : decode code 1160 = .ok (.aload_n 0, 1) := by decide +kernel
theorem d_L_1161 : decode code 1161 = .ok (.iload 4, 2) := by decide +kernel
theorem d_L_1163 : decode code 1163 = .ok (.iconst 2, 1) := by decide +kernel
theorem d_L_1164 : decode code 1164 = .ok (.iadd, 1) := by decide +kernel
theorem d_L_1165 : decode code 1165 = .ok (.iaload, 1) := by decide +kernel
theorem d_L_1166 : decode code 1166 = .ok (.ifCond .eq 7, 3) := by decide +kernel
theorem d_L_1169 : decode code 1169 = .ok (.iconst 1, 1) := by decide +kernel
theorem d_L_1170 : decode code 1170 = .ok (.goto 4, 3) := by decide +kernel
theorem d_L_1173 : decode code 1173 = .ok (.iconst 0, 1) := by decide +kernel
theorem d_L_1174 : decode code 1174 = .ok (.invokevirtual 134, 3) := by decide +kernel
theorem d_L_1177 : decode code 1177 = .ok (.aload_n 2, 1) := by decide +kernel
theorem d_L_1178 : decode code 1178 = .ok (.aload_n 0, 1) := by decide +kernel
theorem d_L_1179 : decode code 1179 = .ok (.iload 4, 2) := by decide +kernel
theorem d_L_1181 : decode code 1181 = .ok (.iconst 1, 1) := by decide +kernel
theorem d_L_1182 : decode code 1182 = .ok (.iadd, 1) := by decide +kernel
theorem d_L_1183 : decode code 1183 = .ok (.iaload, 1) := by decide +kernel
theorem d_L_1184 : decode code 1184 = .ok (.aload_n 0, 1) := by decide +kernel
theorem d_L_1185 : decode code 1185 = .ok (.iload 4, 2) := by decide +kernel
theorem d_L_1187 : decode code 1187 = .ok (.iconst 2, 1) := by decide +kernel
theorem d_L_1188 : decode code 1188 = .ok (.iadd, 1) := by decide +kernel
theorem d_L_1189 : decode code 1189 = .ok (.iaload, 1) := by decide +kernel
theorem d_L_1190 : decode code 1190 = .ok (.ifCond .eq 7, 3) := by decide +kernel
theorem d_L_1193 : decode code 1193 = .ok (.iconst 1, 1) := by decide +kernel
theorem d_L_1194 : decode code 1194 = .ok (.goto 4, 3) := by decide +kernel
theorem d_L_1197 : decode code 1197 = .ok (.iconst 0, 1) := by decide +kernel
theorem d_L_1198 : decode code 1198 = .ok (.invokevirtual 138, 3) := by decide +kernel
theorem d_L_1201 : decode code 1201 = .ok (.if_icmp .eq 244, 3) := by decide +kernel
theorem d_L_1206 : decode code 1206 = .ok (.aload_n 1, 1) := by decide +kernel
theorem d_L_1207 : decode code 1207 = .ok (.aload_n 0, 1) := by decide +kernel
theorem d_L_1208 : decode code 1208 = .ok (.iload 4, 2) := by decide +kernel
theorem d_L_1210 : decode code 1210 = .ok (.iconst 1, 1) := by decide +kernel
theorem d_L_1211 : decode code 1211 = .ok (.iadd, 1) := by decide +kernel
theorem d_L_1212 : decode code 1212 = .ok (.iaload, 1) := by decide +kernel
theorem d_L_1213 : decode code 1213 = .ok (.aload_n 0, 1) := by decide +kernel
theorem d_L_1214 : decode code 1214 = .ok (.iload 4, 2) := by decide +kernel
theorem d_L_1216 : decode code 1216 = .ok (.iconst 2, 1) := by decide +kernel
theorem d_L_1217 : decode code 1217 = .ok (.iadd, 1) := by decide +kernel
theorem d_L_1218 : decode code 1218 = .ok (.iaload, 1) := by decide +kernel
theorem d_L_1219 : decode code 1219 = .ok (.invokevirtual 139, 3) := by decide +kernel
theorem d_L_1222 : decode code 1222 = .ok (.aload_n 2, 1) := by decide +kernel
theorem d_L_1223 : decode code 1223 = .ok (.aload_n 0, 1) := by decide +kernel
theorem d_L_1224 : decode code 1224 = .ok (.iload 4, 2) := by decide +kernel
theorem d_L_1226 : decode code 1226 = .ok (.iconst 1, 1) := by decide +kernel
theorem d_L_1227 : decode code 1227 = .ok (.iadd, 1) := by decide +kernel
theorem d_L_1228 : decode code 1228 = .ok (.iaload, 1) := by decide +kernel
theorem d_L_1229 : decode code 1229 = .ok (.aload_n 0, 1) := by decide +kernel
theorem d_L_1230 : decode code 1230 = .ok (.iload 4, 2) := by decide +kernel
theorem d_L_1232 : decode code 1232 = .ok (.iconst 2, 1) := by decide +kernel
theorem d_L_1233 : decode code 1233 = .ok (.iadd, 1) := by decide +kernel
theorem d_L_1234 : decode code 1234 = .ok (.iaload, 1) := by decide +kernel
theorem d_L_1235 : decode code 1235 = .ok (.invokevirtual 143, 3) := by decide +kernel
theorem d_L_1238 : decode code 1238 = .ok (.lcmp, 1) := by decide +kernel
theorem d_L_1239 : decode code 1239 = .ok (.ifCond .eq 206, 3) := by decide +kernel
theorem d_L_1244 : decode code 1244 = .ok (.aload_n 1, 1) := by decide +kernel
theorem d_L_1245 : decode code 1245 = .ok (.aload_n 0, 1) := by decide +kernel
theorem d_L_1246 : decode code 1246 = .ok (.iload 4, 2) := by decide +kernel
theorem d_L_1248 : decode code 1248 = .ok (.iconst 1, 1) := by decide +kernel
theorem d_L_1249 : decode code 1249 = .ok (.iadd, 1) := by decide +kernel
theorem d_L_1250 : decode code 1250 = .ok (.iaload, 1) := by decide +kernel
theorem d_L_1251 : decode code 1251 = .ok (.aload_n 0, 1) := by decide +kernel
theorem d_L_1252 : decode code 1252 = .ok (.iload 4, 2) := by decide +kernel
theorem d_L_1254 : decode code 1254 = .ok (.iconst 2, 1) := by decide +kernel
theorem d_L_1255 : decode code 1255 = .ok (.iadd, 1) := by decide +kernel
theorem d_L_1256 : decode code 1256 = .ok (.iaload, 1) := by decide +kernel
theorem d_L_1257 : decode code 1257 = .ok (.invokevirtual 144, 3) := by decide +kernel
theorem d_L_1260 : decode code 1260 = .ok (.aload_n 2, 1) := by decide +kernel
theorem d_L_1261 : decode code 1261 = .ok (.aload_n 0, 1) := by decide +kernel
theorem d_L_1262 : decode code 1262 = .ok (.iload 4, 2) := by decide +kernel
theorem d_L_1264 : decode code 1264 = .ok (.iconst 1, 1) := by decide +kernel
theorem d_L_1265 : decode code 1265 = .ok (.iadd, 1) := by decide +kernel
theorem d_L_1266 : decode code 1266 = .ok (.iaload, 1) := by decide +kernel
theorem d_L_1267 : decode code 1267 = .ok (.aload_n 0, 1) := by decide +kernel
theorem d_L_1268 : decode code 1268 = .ok (.iload 4, 2) := by decide +kernel
theorem d_L_1270 : decode code 1270 = .ok (.iconst 2, 1) := by decide +kernel
theorem d_L_1271 : decode code 1271 = .ok (.iadd, 1) := by decide +kernel
theorem d_L_1272 : decode code 1272 = .ok (.iaload, 1) := by decide +kernel
theorem d_L_1273 : decode code 1273 = .ok (.invokevirtual 148, 3) := by decide +kernel
theorem d_L_1276 : decode code 1276 = .ok (.if_icmp .eq 169, 3) := by decide +kernel
theorem d_L_1281 : decode code 1281 = .ok (.aload_n 1, 1) := by decide +kernel
theorem d_L_1282 : decode code 1282 = .ok (.aload_n 0, 1) := by decide +kernel
theorem d_L_1283 : decode code 1283 = .ok (.iload 4, 2) := by decide +kernel
theorem d_L_1285 : decode code 1285 = .ok (.iconst 1, 1) := by decide +kernel
theorem d_L_1286 : decode code 1286 = .ok (.iadd, 1) := by decide +kernel
theorem d_L_1287 : decode code 1287 = .ok (.iaload, 1) := by decide +kernel
theorem d_L_1288 : decode code 1288 = .ok (.aload_n 0, 1) := by decide +kernel
theorem d_L_1289 : decode code 1289 = .ok (.iload 4, 2) := by decide +kernel
theorem d_L_1291 : decode code 1291 = .ok (.iconst 2, 1) := by decide +kernel
theorem d_L_1292 : decode code 1292 = .ok (.iadd, 1) := by decide +kernel
theorem d_L_1293 : decode code 1293 = .ok (.iaload, 1) := by decide +kernel
theorem d_L_1294 : decode code 1294 = .ok (.invokevirtual 149, 3) := by decide +kernel
theorem d_L_1297 : decode code 1297 = .ok (.aload_n 2, 1) := by decide +kernel
theorem d_L_1298 : decode code 1298 = .ok (.aload_n 0, 1) := by decide +kernel
theorem d_L_1299 : decode code 1299 = .ok (.iload 4, 2) := by decide +kernel
theorem d_L_1301 : decode code 1301 = .ok (.iconst 1, 1) := by decide +kernel
theorem d_L_1302 : decode code 1302 = .ok (.iadd, 1) := by decide +kernel
theorem d_L_1303 : decode code 1303 = .ok (.iaload, 1) := by decide +kernel
theorem d_L_1304 : decode code 1304 = .ok (.aload_n 0, 1) := by decide +kernel
theorem d_L_1305 : decode code 1305 = .ok (.iload 4, 2) := by decide +kernel
theorem d_L_1307 : decode code 1307 = .ok (.iconst 2, 1) := by decide +kernel
theorem d_L_1308 : decode code 1308 = .ok (.iadd, 1) := by decide +kernel
theorem d_L_1309 : decode code 1309 = .ok (.iaload, 1) := by decide +kernel
theorem d_L_1310 : decode code 1310 = .ok (.invokevirtual 152, 3) := by decide +kernel
theorem d_L_1313 : decode code 1313 = .ok (.if_icmp .eq 132, 3) := by decide +kernel
theorem d_L_1318 : decode code 1318 = .ok (.aload_n 1, 1) := by decide +kernel
theorem d_L_1319 : decode code 1319 = .ok (.aload_n 0, 1) := by decide +kernel
theorem d_L_1320 : decode code 1320 = .ok (.iload 4, 2) := by decide +kernel
theorem d_L_1322 : decode code 1322 = .ok (.iconst 1, 1) := by decide +kernel
theorem d_L_1323 : decode code 1323 = .ok (.iadd, 1) := by decide +kernel
theorem d_L_1324 : decode code 1324 = .ok (.iaload, 1) := by decide +kernel
theorem d_L_1325 : decode code 1325 = .ok (.aload_n 0, 1) := by decide +kernel
theorem d_L_1326 : decode code 1326 = .ok (.iload 4, 2) := by decide +kernel
theorem d_L_1328 : decode code 1328 = .ok (.iconst 2, 1) := by decide +kernel
theorem d_L_1329 : decode code 1329 = .ok (.iadd, 1) := by decide +kernel
theorem d_L_1330 : decode code 1330 = .ok (.iaload, 1) := by decide +kernel
theorem d_L_1331 : decode code 1331 = .ok (.aload_n 0, 1) := by decide +kernel
theorem d_L_1332 : decode code 1332 = .ok (.iload 4, 2) := by decide +kernel
theorem d_L_1334 : decode code 1334 = .ok (.iconst 3, 1) := by decide +kernel
theorem d_L_1335 : decode code 1335 = .ok (.iadd, 1) := by decide +kernel
theorem d_L_1336 : decode code 1336 = .ok (.iaload, 1) := by decide +kernel
theorem d_L_1337 : decode code 1337 = .ok (.invokevirtual 153, 3) := by decide +kernel
theorem d_L_1340 : decode code 1340 = .ok (.aload_n 2, 1) := by decide +kernel
theorem d_L_1341 : decode code 1341 = .ok (.aload_n 0, 1) := by decide +kernel
theorem d_L_1342 : decode code 1342 = .ok (.iload 4, 2) := by decide +kernel
theorem d_L_1344 : decode code 1344 = .ok (.iconst 1, 1) := by decide +kernel
theorem d_L_1345 : decode code 1345 = .ok (.iadd, 1) := by decide +kernel
theorem d_L_1346 : decode code 1346 = .ok (.iaload, 1) := by decide +kernel
theorem d_L_1347 : decode code 1347 = .ok (.aload_n 0, 1) := by decide +kernel
theorem d_L_1348 : decode code 1348 = .ok (.iload 4, 2) := by decide +kernel
theorem d_L_1350 : decode code 1350 = .ok (.iconst 2, 1) := by decide +kernel
theorem d_L_1351 : decode code 1351 = .ok (.iadd, 1) := by decide +kernel
theorem d_L_1352 : decode code 1352 = .ok (.iaload, 1) := by decide +kernel
theorem d_L_1353 : decode code 1353 = .ok (.aload_n 0, 1) := by decide +kernel
theorem d_L_1354 : decode code 1354 = .ok (.iload 4, 2) := by decide +kernel
theorem d_L_1356 : decode code 1356 = .ok (.iconst 3, 1) := by decide +kernel
theorem d_L_1357 : decode code 1357 = .ok (.iadd, 1) := by decide +kernel
theorem d_L_1358 : decode code 1358 = .ok (.iaload, 1) := by decide +kernel
theorem d_L_1359 : decode code 1359 = .ok (.invokevirtual 156, 3) := by decide +kernel
theorem d_L_1362 : decode code 1362 = .ok (.if_icmp .eq 83, 3) := by decide +kernel
theorem d_L_1367 : decode code 1367 = .ok (.aload_n 1, 1) := by decide +kernel
theorem d_L_1368 : decode code 1368 = .ok (.aload_n 0, 1) := by decide +kernel
theorem d_L_1369 : decode code 1369 = .ok (.iload 4, 2) := by decide +kernel
theorem d_L_1371 : decode code 1371 = .ok (.iconst 1, 1) := by decide +kernel
theorem d_L_1372 : decode code 1372 = .ok (.iadd, 1) := by decide +kernel
theorem d_L_1373 : decode code 1373 = .ok (.iaload, 1) := by decide +kernel
theorem d_L_1374 : decode code 1374 = .ok (.aload_n 0, 1) := by decide +kernel
theorem d_L_1375 : decode code 1375 = .ok (.iload 4, 2) := by decide +kernel
theorem d_L_1377 : decode code 1377 = .ok (.iconst 2, 1) := by decide +kernel
theorem d_L_1378 : decode code 1378 = .ok (.iadd, 1) := by decide +kernel
theorem d_L_1379 : decode code 1379 = .ok (.iaload, 1) := by decide +kernel
theorem d_L_1380 : decode code 1380 = .ok (.ifCond .eq 7, 3) := by decide +kernel
theorem d_L_1383 : decode code 1383 = .ok (.iconst 1, 1) := by decide +kernel
theorem d_L_1384 : decode code 1384 = .ok (.goto 4, 3) := by decide +kernel
theorem d_L_1387 : decode code 1387 = .ok (.iconst 0, 1) := by decide +kernel
theorem d_L_1388 : decode code 1388 = .ok (.invokevirtual 157, 3) := by decide +kernel
theorem d_L_1391 : decode code 1391 = .ok (.aload_n 2, 1) := by decide +kernel
theorem d_L_1392 : decode code 1392 = .ok (.aload_n 0, 1) := by decide +kernel
theorem d_L_1393 : decode code 1393 = .ok (.iload 4, 2) := by decide +kernel
theorem d_L_1395 : decode code 1395 = .ok (.iconst 1, 1) := by decide +kernel
theorem d_L_1396 : decode code 1396 = .ok (.iadd, 1) := by decide +kernel
theorem d_L_1397 : decode code 1397 = .ok (.iaload, 1) := by decide +kernel
theorem d_L_1398 : decode code 1398 = .ok (.aload_n 0, 1) := by decide +kernel
theorem d_L_1399 : decode code 1399 = .ok (.iload 4, 2) := by decide +kernel
theorem d_L_1401 : decode code 1401 = .ok (.iconst 2, 1) := by decide +kernel
theorem d_L_1402 : decode code 1402 = .ok (.iadd, 1) := by decide +kernel
theorem d_L_1403 : decode code 1403 = .ok (.iaload, 1) := by decide +kernel
theorem d_L_1404 : decode code 1404 = .ok (.ifCond .eq 7, 3) := by decide +kernel
theorem d_L_1407 : decode code 1407 = .ok (.iconst 1, 1) := by decide +kernel
theorem d_L_1408 : decode code 1408 = .ok (.goto 4, 3) := by decide +kernel
theorem d_L_1411 : decode code 1411 = .ok (.iconst 0, 1) := by decide +kernel
theorem d_L_1412 : decode code 1412 = .ok (.invokevirtual 160, 3) := by decide +kernel
theorem d_L_1415 : decode code 1415 = .ok (.if_icmp .eq 30, 3) := by decide +kernel
theorem d_L_1420 : decode code 1420 = .ok (.aload_n 1, 1) := by decide +kernel
theorem d_L_1421 : decode code 1421 = .ok (.aload_n 0, 1) := by decide +kernel
theorem d_L_1422 : decode code 1422 = .ok (.iload 4, 2) := by decide +kernel
theorem d_L_1424 : decode code 1424 = .ok (.iconst 1, 1) := by decide +kernel
theorem d_L_1425 : decode code 1425 = .ok (.iadd, 1) := by decide +kernel
theorem d_L_1426 : decode code 1426 = .ok (.iaload, 1) := by decide +kernel
theorem d_L_1427 : decode code 1427 = .ok (.invokevirtual 161, 3) := by decide +kernel
theorem d_L_1430 : decode code 1430 = .ok (.aload_n 2, 1) := by decide +kernel
theorem d_L_1431 : decode code 1431 = .ok (.aload_n 0, 1) := by decide +kernel
theorem d_L_1432 : decode code 1432 = .ok (.iload 4, 2) := by decide +kernel
theorem d_L_1434 : decode code 1434 = .ok (.iconst 1, 1) := by decide +kernel
theorem d_L_1435 : decode code 1435 = .ok (.iadd, 1) := by decide +kernel
theorem d_L_1436 : decode code 1436 = .ok (.iaload, 1) := by decide +kernel
theorem d_L_1437 : decode code 1437 = .ok (.invokevirtual 164, 3) := by decide +kernel
theorem d_L_1440 : decode code 1440 = .ok (.if_icmp .eq 5, 3) := by decide +kernel
theorem d_L_1445 : decode code 1445 = .ok (.iinc 4 7, 3) := by decide +kernel
theorem d_L_1448 : decode code 1448 = .ok (.goto (-1425), 3) := by decide +kernel
theorem d_L_1451 : decode code 1451 = .ok (.iconst 1, 1) := by decide +kernel
theorem d_L_1452 : decode code 1452 = .ok (.ireturn, 1) := by decide +kernel
