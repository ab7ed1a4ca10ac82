/-! ===== the law's loop ===== -/
section LROWS
variable {Z : Sys} {X : Cx} {Y : My} {ex : Prop} {cells slots : Nat} {loc : List (Nat × Value)} {rest : List Value} {M : Mem}
theorem G.sld (pc j : Nat) {b len : Nat} {sc : Nat → Int32} {i : Int32} (hX : va_X b len sc (xs X) (xs X).heap) (hbl : b < (xs X).heap.size) (hbZ : b < zs Z) (hin : inR i len) (hj : i.toNatClampNeg = j) (hd : decode Y.1 pc = .ok (.iaload, 1)) (k : G Z X Y ex cells slots (pc + 1) loc (.int (sc j) :: rest) M) : G Z X Y ex cells slots pc loc (.int i :: .ref b :: rest) M := fun O ls H locs hl hP hS => by
  subst hj
  exact va_sld O.1 O.2.1 hX hbl (fun h => Nat.not_le.mpr hbZ h) hS hin hd (k O ls H locs hl hP hS)
theorem G.slen (pc : Nat) {b len : Nat} {sc : Nat → Int32} (hX : va_X b len sc (xs X) (xs X).heap) (hbl : b < (xs X).heap.size) (hbZ : b < zs Z) (hd : decode Y.1 pc = .ok (.arraylength, 1)) (k : G Z X Y ex cells slots (pc + 1) loc (.int (Int32.ofNat len) :: rest) M) : G Z X Y ex cells slots pc loc (.ref b :: rest) M := fun O ls H locs hl hP hS => va_slen O.1 O.2.1 hX hbl (fun h => Nat.not_le.mpr hbZ h) hS hd (k O ls H locs hl hP hS)
theorem G.la (pc j : Nat) {a n : Nat} {i : Int32} (hk : (mK M)[a]? = some (12, n)) (hin : inR i n) (hj : i.toNatClampNeg = j) (hd : decode Y.1 pc = .ok (.laload, 1)) (kk : G Z X Y ex cells slots (pc + 1) loc (.long (mJ M a j) :: rest) M) : G Z X Y ex cells slots pc loc (.int i :: .ref (zs Z + a) :: rest) M := by subst hj; exact G.lald pc hk hin hd kk
end LROWS
abbrev Y_L_law : My := (cL_law, RL, 8)
theorem dL_law_0 : decode cL_law 0 = .ok (.new 8, 3) := by decide +kernel
theorem dL_law_3 : decode cL_law 3 = .ok (.dup, 1) := by decide +kernel
theorem dL_law_4 : decode cL_law 4 = .ok (.invokespecial 17, 3) := by decide +kernel
theorem dL_law_7 : decode cL_law 7 = .ok (.astore_n 1, 1) := by decide +kernel
theorem dL_law_8 : decode cL_law 8 = .ok (.new 18, 3) := by decide +kernel
theorem dL_law_11 : decode cL_law 11 = .ok (.dup, 1) := by decide +kernel
theorem dL_law_12 : decode cL_law 12 = .ok (.invokespecial 20, 3) := by decide +kernel
theorem dL_law_15 : decode cL_law 15 = .ok (.astore_n 2, 1) := by decide +kernel
theorem dL_law_16 : decode cL_law 16 = .ok (.iconst 1, 1) := by decide +kernel
theorem dL_law_17 : decode cL_law 17 = .ok (.newarray .long, 2) := by decide +kernel
theorem dL_law_19 : decode cL_law 19 = .ok (.astore_n 3, 1) := by decide +kernel
theorem dL_law_20 : decode cL_law 20 = .ok (.iconst 0, 1) := by decide +kernel
theorem dL_law_21 : decode cL_law 21 = .ok (.istore 4, 2) := by decide +kernel
theorem dL_law_23 : decode cL_law 23 = .ok (.iload 4, 2) := by decide +kernel
theorem dL_law_25 : decode cL_law 25 = .ok (.aload_n 0, 1) := by decide +kernel
theorem dL_law_26 : decode cL_law 26 = .ok (.arraylength, 1) := by decide +kernel
theorem dL_law_27 : decode cL_law 27 = .ok (.bipush 6, 2) := by decide +kernel
theorem dL_law_29 : decode cL_law 29 = .ok (.isub, 1) := by decide +kernel
theorem dL_law_30 : decode cL_law 30 = .ok (.if_icmp .gt 1597, 3) := by decide +kernel
theorem dL_law_33 : decode cL_law 33 = .ok (.aload_n 0, 1) := by decide +kernel
theorem dL_law_34 : decode cL_law 34 = .ok (.iload 4, 2) := by decide +kernel
theorem dL_law_36 : decode cL_law 36 = .ok (.iaload, 1) := by decide +kernel
theorem dL_law_37 : decode cL_law 37 = .ok (.bipush 63, 2) := by decide +kernel
theorem dL_law_39 : decode cL_law 39 = .ok (.iand, 1) := by decide +kernel
theorem dL_law_40 : decode cL_law 40 = .ok (.tableswitch 1581 0 41 #[184, 233, 282, 331, 368, 405, 430, 467, 504, 530, 555, 592, 617, 642, 667, 720, 733, 758, 807, 832, 869, 882, 895, 932, 945, 982, 1007, 1056, 1081, 1106, 1131, 1156, 1193, 1206, 1219, 1244, 1293, 1342, 1391, 1458, 1531, 1556], 184) := by decide +kernel
theorem dL_law_224 : decode cL_law 224 = .ok (.aload_n 1, 1) := by decide +kernel
theorem dL_law_225 : decode cL_law 225 = .ok (.aload_n 0, 1) := by decide +kernel
theorem dL_law_226 : decode cL_law 226 = .ok (.iload 4, 2) := by decide +kernel
theorem dL_law_228 : decode cL_law 228 = .ok (.iconst 1, 1) := by decide +kernel
theorem dL_law_229 : decode cL_law 229 = .ok (.iadd, 1) := by decide +kernel
theorem dL_law_230 : decode cL_law 230 = .ok (.iaload, 1) := by decide +kernel
theorem dL_law_231 : decode cL_law 231 = .ok (.aload_n 0, 1) := by decide +kernel
theorem dL_law_232 : decode cL_law 232 = .ok (.iload 4, 2) := by decide +kernel
theorem dL_law_234 : decode cL_law 234 = .ok (.iconst 2, 1) := by decide +kernel
theorem dL_law_235 : decode cL_law 235 = .ok (.iadd, 1) := by decide +kernel
theorem dL_law_236 : decode cL_law 236 = .ok (.iaload, 1) := by decide +kernel
theorem dL_law_237 : decode cL_law 237 = .ok (.aload_n 0, 1) := by decide +kernel
theorem dL_law_238 : decode cL_law 238 = .ok (.iload 4, 2) := by decide +kernel
theorem dL_law_240 : decode cL_law 240 = .ok (.iconst 3, 1) := by decide +kernel
theorem dL_law_241 : decode cL_law 241 = .ok (.iadd, 1) := by decide +kernel
theorem dL_law_242 : decode cL_law 242 = .ok (.iaload, 1) := by decide +kernel
theorem dL_law_243 : decode cL_law 243 = .ok (.invokevirtual 21, 3) := by decide +kernel
theorem dL_law_246 : decode cL_law 246 = .ok (.aload_n 2, 1) := by decide +kernel
theorem dL_law_247 : decode cL_law 247 = .ok (.aload_n 0, 1) := by decide +kernel
theorem dL_law_248 : decode cL_law 248 = .ok (.iload 4, 2) := by decide +kernel
theorem dL_law_250 : decode cL_law 250 = .ok (.iconst 1, 1) := by decide +kernel
theorem dL_law_251 : decode cL_law 251 = .ok (.iadd, 1) := by decide +kernel
theorem dL_law_252 : decode cL_law 252 = .ok (.iaload, 1) := by decide +kernel
theorem dL_law_253 : decode cL_law 253 = .ok (.aload_n 0, 1) := by decide +kernel
theorem dL_law_254 : decode cL_law 254 = .ok (.iload 4, 2) := by decide +kernel
theorem dL_law_256 : decode cL_law 256 = .ok (.iconst 2, 1) := by decide +kernel
theorem dL_law_257 : decode cL_law 257 = .ok (.iadd, 1) := by decide +kernel
theorem dL_law_258 : decode cL_law 258 = .ok (.iaload, 1) := by decide +kernel
theorem dL_law_259 : decode cL_law 259 = .ok (.aload_n 0, 1) := by decide +kernel
theorem dL_law_260 : decode cL_law 260 = .ok (.iload 4, 2) := by decide +kernel
theorem dL_law_262 : decode cL_law 262 = .ok (.iconst 3, 1) := by decide +kernel
theorem dL_law_263 : decode cL_law 263 = .ok (.iadd, 1) := by decide +kernel
theorem dL_law_264 : decode cL_law 264 = .ok (.iaload, 1) := by decide +kernel
theorem dL_law_265 : decode cL_law 265 = .ok (.invokevirtual 25, 3) := by decide +kernel
theorem dL_law_268 : decode cL_law 268 = .ok (.if_icmp .eq 1353, 3) := by decide +kernel
theorem dL_law_271 : decode cL_law 271 = .ok (.iconst 0, 1) := by decide +kernel
theorem dL_law_272 : decode cL_law 272 = .ok (.ireturn, 1) := by decide +kernel
theorem dL_law_273 : decode cL_law 273 = .ok (.aload_n 1, 1) := by decide +kernel
theorem dL_law_274 : decode cL_law 274 = .ok (.aload_n 0, 1) := by decide +kernel
theorem dL_law_275 : decode cL_law 275 = .ok (.iload 4, 2) := by decide +kernel
theorem dL_law_277 : decode cL_law 277 = .ok (.iconst 1, 1) := by decide +kernel
theorem dL_law_278 : decode cL_law 278 = .ok (.iadd, 1) := by decide +kernel
theorem dL_law_279 : decode cL_law 279 = .ok (.iaload, 1) := by decide +kernel
theorem dL_law_280 : decode cL_law 280 = .ok (.aload_n 0, 1) := by decide +kernel
theorem dL_law_281 : decode cL_law 281 = .ok (.iload 4, 2) := by decide +kernel
theorem dL_law_283 : decode cL_law 283 = .ok (.iconst 2, 1) := by decide +kernel
theorem dL_law_284 : decode cL_law 284 = .ok (.iadd, 1) := by decide +kernel
theorem dL_law_285 : decode cL_law 285 = .ok (.iaload, 1) := by decide +kernel
theorem dL_law_286 : decode cL_law 286 = .ok (.aload_n 0, 1) := by decide +kernel
theorem dL_law_287 : decode cL_law 287 = .ok (.iload 4, 2) := by decide +kernel
theorem dL_law_289 : decode cL_law 289 = .ok (.iconst 3, 1) := by decide +kernel
theorem dL_law_290 : decode cL_law 290 = .ok (.iadd, 1) := by decide +kernel
theorem dL_law_291 : decode cL_law 291 = .ok (.iaload, 1) := by decide +kernel
theorem dL_law_292 : decode cL_law 292 = .ok (.invokevirtual 26, 3) := by decide +kernel
theorem dL_law_295 : decode cL_law 295 = .ok (.aload_n 2, 1) := by decide +kernel
theorem dL_law_296 : decode cL_law 296 = .ok (.aload_n 0, 1) := by decide +kernel
theorem dL_law_297 : decode cL_law 297 = .ok (.iload 4, 2) := by decide +kernel
theorem dL_law_299 : decode cL_law 299 = .ok (.iconst 1, 1) := by decide +kernel
theorem dL_law_300 : decode cL_law 300 = .ok (.iadd, 1) := by decide +kernel
theorem dL_law_301 : decode cL_law 301 = .ok (.iaload, 1) := by decide +kernel
theorem dL_law_302 : decode cL_law 302 = .ok (.aload_n 0, 1) := by decide +kernel
theorem dL_law_303 : decode cL_law 303 = .ok (.iload 4, 2) := by decide +kernel
theorem dL_law_305 : decode cL_law 305 = .ok (.iconst 2, 1) := by decide +kernel
theorem dL_law_306 : decode cL_law 306 = .ok (.iadd, 1) := by decide +kernel
theorem dL_law_307 : decode cL_law 307 = .ok (.iaload, 1) := by decide +kernel
theorem dL_law_308 : decode cL_law 308 = .ok (.aload_n 0, 1) := by decide +kernel
theorem dL_law_309 : decode cL_law 309 = .ok (.iload 4, 2) := by decide +kernel
theorem dL_law_311 : decode cL_law 311 = .ok (.iconst 3, 1) := by decide +kernel
theorem dL_law_312 : decode cL_law 312 = .ok (.iadd, 1) := by decide +kernel
theorem dL_law_313 : decode cL_law 313 = .ok (.iaload, 1) := by decide +kernel
theorem dL_law_314 : decode cL_law 314 = .ok (.invokevirtual 29, 3) := by decide +kernel
theorem dL_law_317 : decode cL_law 317 = .ok (.if_icmp .eq 1304, 3) := by decide +kernel
theorem dL_law_320 : decode cL_law 320 = .ok (.iconst 0, 1) := by decide +kernel
theorem dL_law_321 : decode cL_law 321 = .ok (.ireturn, 1) := by decide +kernel
theorem dL_law_322 : decode cL_law 322 = .ok (.aload_n 1, 1) := by decide +kernel
theorem dL_law_323 : decode cL_law 323 = .ok (.aload_n 0, 1) := by decide +kernel
theorem dL_law_324 : decode cL_law 324 = .ok (.iload 4, 2) := by decide +kernel
theorem dL_law_326 : decode cL_law 326 = .ok (.iconst 1, 1) := by decide +kernel
theorem dL_law_327 : decode cL_law 327 = .ok (.iadd, 1) := by decide +kernel
theorem dL_law_328 : decode cL_law 328 = .ok (.iaload, 1) := by decide +kernel
theorem dL_law_329 : decode cL_law 329 = .ok (.aload_n 0, 1) := by decide +kernel
theorem dL_law_330 : decode cL_law 330 = .ok (.iload 4, 2) := by decide +kernel
theorem dL_law_332 : decode cL_law 332 = .ok (.iconst 2, 1) := by decide +kernel
theorem dL_law_333 : decode cL_law 333 = .ok (.iadd, 1) := by decide +kernel
theorem dL_law_334 : decode cL_law 334 = .ok (.iaload, 1) := by decide +kernel
theorem dL_law_335 : decode cL_law 335 = .ok (.aload_n 0, 1) := by decide +kernel
theorem dL_law_336 : decode cL_law 336 = .ok (.iload 4, 2) := by decide +kernel
theorem dL_law_338 : decode cL_law 338 = .ok (.iconst 3, 1) := by decide +kernel
theorem dL_law_339 : decode cL_law 339 = .ok (.iadd, 1) := by decide +kernel
theorem dL_law_340 : decode cL_law 340 = .ok (.iaload, 1) := by decide +kernel
theorem dL_law_341 : decode cL_law 341 = .ok (.invokevirtual 30, 3) := by decide +kernel
theorem dL_law_344 : decode cL_law 344 = .ok (.aload_n 2, 1) := by decide +kernel
theorem dL_law_345 : decode cL_law 345 = .ok (.aload_n 0, 1) := by decide +kernel
theorem dL_law_346 : decode cL_law 346 = .ok (.iload 4, 2) := by decide +kernel
theorem dL_law_348 : decode cL_law 348 = .ok (.iconst 1, 1) := by decide +kernel
theorem dL_law_349 : decode cL_law 349 = .ok (.iadd, 1) := by decide +kernel
theorem dL_law_350 : decode cL_law 350 = .ok (.iaload, 1) := by decide +kernel
theorem dL_law_351 : decode cL_law 351 = .ok (.aload_n 0, 1) := by decide +kernel
theorem dL_law_352 : decode cL_law 352 = .ok (.iload 4, 2) := by decide +kernel
theorem dL_law_354 : decode cL_law 354 = .ok (.iconst 2, 1) := by decide +kernel
theorem dL_law_355 : decode cL_law 355 = .ok (.iadd, 1) := by decide +kernel
theorem dL_law_356 : decode cL_law 356 = .ok (.iaload, 1) := by decide +kernel
theorem dL_law_357 : decode cL_law 357 = .ok (.aload_n 0, 1) := by decide +kernel
theorem dL_law_358 : decode cL_law 358 = .ok (.iload 4, 2) := by decide +kernel
theorem dL_law_360 : decode cL_law 360 = .ok (.iconst 3, 1) := by decide +kernel
theorem dL_law_361 : decode cL_law 361 = .ok (.iadd, 1) := by decide +kernel
theorem dL_law_362 : decode cL_law 362 = .ok (.iaload, 1) := by decide +kernel
theorem dL_law_363 : decode cL_law 363 = .ok (.invokevirtual 33, 3) := by decide +kernel
theorem dL_law_366 : decode cL_law 366 = .ok (.if_icmp .eq 1255, 3) := by decide +kernel
theorem dL_law_369 : decode cL_law 369 = .ok (.iconst 0, 1) := by decide +kernel
theorem dL_law_370 : decode cL_law 370 = .ok (.ireturn, 1) := by decide +kernel
theorem dL_law_371 : decode cL_law 371 = .ok (.aload_n 1, 1) := by decide +kernel
theorem dL_law_372 : decode cL_law 372 = .ok (.aload_n 0, 1) := by decide +kernel
theorem dL_law_373 : decode cL_law 373 = .ok (.iload 4, 2) := by decide +kernel
theorem dL_law_375 : decode cL_law 375 = .ok (.iconst 1, 1) := by decide +kernel
theorem dL_law_376 : decode cL_law 376 = .ok (.iadd, 1) := by decide +kernel
theorem dL_law_377 : decode cL_law 377 = .ok (.iaload, 1) := by decide +kernel
theorem dL_law_378 : decode cL_law 378 = .ok (.aload_n 0, 1) := by decide +kernel
theorem dL_law_379 : decode cL_law 379 = .ok (.iload 4, 2) := by decide +kernel
theorem dL_law_381 : decode cL_law 381 = .ok (.iconst 2, 1) := by decide +kernel
theorem dL_law_382 : decode cL_law 382 = .ok (.iadd, 1) := by decide +kernel
theorem dL_law_383 : decode cL_law 383 = .ok (.iaload, 1) := by decide +kernel
theorem dL_law_384 : decode cL_law 384 = .ok (.invokevirtual 34, 3) := by decide +kernel
theorem dL_law_387 : decode cL_law 387 = .ok (.aload_n 2, 1) := by decide +kernel
theorem dL_law_388 : decode cL_law 388 = .ok (.aload_n 0, 1) := by decide +kernel
theorem dL_law_389 : decode cL_law 389 = .ok (.iload 4, 2) := by decide +kernel
theorem dL_law_391 : decode cL_law 391 = .ok (.iconst 1, 1) := by decide +kernel
theorem dL_law_392 : decode cL_law 392 = .ok (.iadd, 1) := by decide +kernel
theorem dL_law_393 : decode cL_law 393 = .ok (.iaload, 1) := by decide +kernel
theorem dL_law_394 : decode cL_law 394 = .ok (.aload_n 0, 1) := by decide +kernel
theorem dL_law_395 : decode cL_law 395 = .ok (.iload 4, 2) := by decide +kernel
theorem dL_law_397 : decode cL_law 397 = .ok (.iconst 2, 1) := by decide +kernel
theorem dL_law_398 : decode cL_law 398 = .ok (.iadd, 1) := by decide +kernel
theorem dL_law_399 : decode cL_law 399 = .ok (.iaload, 1) := by decide +kernel
theorem dL_law_400 : decode cL_law 400 = .ok (.invokevirtual 38, 3) := by decide +kernel
theorem dL_law_403 : decode cL_law 403 = .ok (.if_icmp .eq 1218, 3) := by decide +kernel
theorem dL_law_406 : decode cL_law 406 = .ok (.iconst 0, 1) := by decide +kernel
theorem dL_law_407 : decode cL_law 407 = .ok (.ireturn, 1) := by decide +kernel
theorem dL_law_408 : decode cL_law 408 = .ok (.aload_n 1, 1) := by decide +kernel
theorem dL_law_409 : decode cL_law 409 = .ok (.aload_n 0, 1) := by decide +kernel
theorem dL_law_410 : decode cL_law 410 = .ok (.iload 4, 2) := by decide +kernel
theorem dL_law_412 : decode cL_law 412 = .ok (.iconst 1, 1) := by decide +kernel
theorem dL_law_413 : decode cL_law 413 = .ok (.iadd, 1) := by decide +kernel
theorem dL_law_414 : decode cL_law 414 = .ok (.iaload, 1) := by decide +kernel
theorem dL_law_415 : decode cL_law 415 = .ok (.aload_n 0, 1) := by decide +kernel
theorem dL_law_416 : decode cL_law 416 = .ok (.iload 4, 2) := by decide +kernel
theorem dL_law_418 : decode cL_law 418 = .ok (.iconst 2, 1) := by decide +kernel
theorem dL_law_419 : decode cL_law 419 = .ok (.iadd, 1) := by decide +kernel
theorem dL_law_420 : decode cL_law 420 = .ok (.iaload, 1) := by decide +kernel
theorem dL_law_421 : decode cL_law 421 = .ok (.invokevirtual 39, 3) := by decide +kernel
theorem dL_law_424 : decode cL_law 424 = .ok (.aload_n 2, 1) := by decide +kernel
theorem dL_law_425 : decode cL_law 425 = .ok (.aload_n 0, 1) := by decide +kernel
theorem dL_law_426 : decode cL_law 426 = .ok (.iload 4, 2) := by decide +kernel
theorem dL_law_428 : decode cL_law 428 = .ok (.iconst 1, 1) := by decide +kernel
theorem dL_law_429 : decode cL_law 429 = .ok (.iadd, 1) := by decide +kernel
theorem dL_law_430 : decode cL_law 430 = .ok (.iaload, 1) := by decide +kernel
theorem dL_law_431 : decode cL_law 431 = .ok (.aload_n 0, 1) := by decide +kernel
theorem dL_law_432 : decode cL_law 432 = .ok (.iload 4, 2) := by decide +kernel
theorem dL_law_434 : decode cL_law 434 = .ok (.iconst 2, 1) := by decide +kernel
theorem dL_law_435 : decode cL_law 435 = .ok (.iadd, 1) := by decide +kernel
theorem dL_law_436 : decode cL_law 436 = .ok (.iaload, 1) := by decide +kernel
theorem dL_law_437 : decode cL_law 437 = .ok (.invokevirtual 42, 3) := by decide +kernel
theorem dL_law_440 : decode cL_law 440 = .ok (.if_icmp .eq 1181, 3) := by decide +kernel
theorem dL_law_443 : decode cL_law 443 = .ok (.iconst 0, 1) := by decide +kernel
theorem dL_law_444 : decode cL_law 444 = .ok (.ireturn, 1) := by decide +kernel
theorem dL_law_445 : decode cL_law 445 = .ok (.aload_n 1, 1) := by decide +kernel
theorem dL_law_446 : decode cL_law 446 = .ok (.aload_n 0, 1) := by decide +kernel
theorem dL_law_447 : decode cL_law 447 = .ok (.iload 4, 2) := by decide +kernel
theorem dL_law_449 : decode cL_law 449 = .ok (.iconst 1, 1) := by decide +kernel
theorem dL_law_450 : decode cL_law 450 = .ok (.iadd, 1) := by decide +kernel
theorem dL_law_451 : decode cL_law 451 = .ok (.iaload, 1) := by decide +kernel
theorem dL_law_452 : decode cL_law 452 = .ok (.invokevirtual 43, 3) := by decide +kernel
theorem dL_law_455 : decode cL_law 455 = .ok (.aload_n 2, 1) := by decide +kernel
theorem dL_law_456 : decode cL_law 456 = .ok (.aload_n 0, 1) := by decide +kernel
theorem dL_law_457 : decode cL_law 457 = .ok (.iload 4, 2) := by decide +kernel
theorem dL_law_459 : decode cL_law 459 = .ok (.iconst 1, 1) := by decide +kernel
theorem dL_law_460 : decode cL_law 460 = .ok (.iadd, 1) := by decide +kernel
theorem dL_law_461 : decode cL_law 461 = .ok (.iaload, 1) := by decide +kernel
theorem dL_law_462 : decode cL_law 462 = .ok (.invokevirtual 47, 3) := by decide +kernel
theorem dL_law_465 : decode cL_law 465 = .ok (.if_icmp .eq 1156, 3) := by decide +kernel
theorem dL_law_468 : decode cL_law 468 = .ok (.iconst 0, 1) := by decide +kernel
theorem dL_law_469 : decode cL_law 469 = .ok (.ireturn, 1) := by decide +kernel
theorem dL_law_470 : decode cL_law 470 = .ok (.aload_n 1, 1) := by decide +kernel
theorem dL_law_471 : decode cL_law 471 = .ok (.aload_n 0, 1) := by decide +kernel
theorem dL_law_472 : decode cL_law 472 = .ok (.iload 4, 2) := by decide +kernel
theorem dL_law_474 : decode cL_law 474 = .ok (.iconst 1, 1) := by decide +kernel
theorem dL_law_475 : decode cL_law 475 = .ok (.iadd, 1) := by decide +kernel
theorem dL_law_476 : decode cL_law 476 = .ok (.iaload, 1) := by decide +kernel
theorem dL_law_477 : decode cL_law 477 = .ok (.aload_n 0, 1) := by decide +kernel
theorem dL_law_478 : decode cL_law 478 = .ok (.iload 4, 2) := by decide +kernel
theorem dL_law_480 : decode cL_law 480 = .ok (.iconst 2, 1) := by decide +kernel
theorem dL_law_481 : decode cL_law 481 = .ok (.iadd, 1) := by decide +kernel
theorem dL_law_482 : decode cL_law 482 = .ok (.iaload, 1) := by decide +kernel
theorem dL_law_483 : decode cL_law 483 = .ok (.invokevirtual 48, 3) := by decide +kernel
theorem dL_law_486 : decode cL_law 486 = .ok (.aload_n 2, 1) := by decide +kernel
theorem dL_law_487 : decode cL_law 487 = .ok (.aload_n 0, 1) := by decide +kernel
theorem dL_law_488 : decode cL_law 488 = .ok (.iload 4, 2) := by decide +kernel
theorem dL_law_490 : decode cL_law 490 = .ok (.iconst 1, 1) := by decide +kernel
theorem dL_law_491 : decode cL_law 491 = .ok (.iadd, 1) := by decide +kernel
theorem dL_law_492 : decode cL_law 492 = .ok (.iaload, 1) := by decide +kernel
theorem dL_law_493 : decode cL_law 493 = .ok (.aload_n 0, 1) := by decide +kernel
theorem dL_law_494 : decode cL_law 494 = .ok (.iload 4, 2) := by decide +kernel
theorem dL_law_496 : decode cL_law 496 = .ok (.iconst 2, 1) := by decide +kernel
theorem dL_law_497 : decode cL_law 497 = .ok (.iadd, 1) := by decide +kernel
theorem dL_law_498 : decode cL_law 498 = .ok (.iaload, 1) := by decide +kernel
theorem dL_law_499 : decode cL_law 499 = .ok (.invokevirtual 51, 3) := by decide +kernel
theorem dL_law_502 : decode cL_law 502 = .ok (.if_icmp .eq 1119, 3) := by decide +kernel
theorem dL_law_505 : decode cL_law 505 = .ok (.iconst 0, 1) := by decide +kernel
theorem dL_law_506 : decode cL_law 506 = .ok (.ireturn, 1) := by decide +kernel
theorem dL_law_507 : decode cL_law 507 = .ok (.aload_n 1, 1) := by decide +kernel
theorem dL_law_508 : decode cL_law 508 = .ok (.aload_n 0, 1) := by decide +kernel
theorem dL_law_509 : decode cL_law 509 = .ok (.iload 4, 2) := by decide +kernel
theorem dL_law_511 : decode cL_law 511 = .ok (.iconst 1, 1) := by decide +kernel
theorem dL_law_512 : decode cL_law 512 = .ok (.iadd, 1) := by decide +kernel
theorem dL_law_513 : decode cL_law 513 = .ok (.iaload, 1) := by decide +kernel
theorem dL_law_514 : decode cL_law 514 = .ok (.aload_n 0, 1) := by decide +kernel
theorem dL_law_515 : decode cL_law 515 = .ok (.iload 4, 2) := by decide +kernel
theorem dL_law_517 : decode cL_law 517 = .ok (.iconst 2, 1) := by decide +kernel
theorem dL_law_518 : decode cL_law 518 = .ok (.iadd, 1) := by decide +kernel
theorem dL_law_519 : decode cL_law 519 = .ok (.iaload, 1) := by decide +kernel
theorem dL_law_520 : decode cL_law 520 = .ok (.invokevirtual 52, 3) := by decide +kernel
theorem dL_law_523 : decode cL_law 523 = .ok (.aload_n 2, 1) := by decide +kernel
theorem dL_law_524 : decode cL_law 524 = .ok (.aload_n 0, 1) := by decide +kernel
theorem dL_law_525 : decode cL_law 525 = .ok (.iload 4, 2) := by decide +kernel
theorem dL_law_527 : decode cL_law 527 = .ok (.iconst 1, 1) := by decide +kernel
theorem dL_law_528 : decode cL_law 528 = .ok (.iadd, 1) := by decide +kernel
theorem dL_law_529 : decode cL_law 529 = .ok (.iaload, 1) := by decide +kernel
theorem dL_law_530 : decode cL_law 530 = .ok (.aload_n 0, 1) := by decide +kernel
theorem dL_law_531 : decode cL_law 531 = .ok (.iload 4, 2) := by decide +kernel
theorem dL_law_533 : decode cL_law 533 = .ok (.iconst 2, 1) := by decide +kernel
theorem dL_law_534 : decode cL_law 534 = .ok (.iadd, 1) := by decide +kernel
theorem dL_law_535 : decode cL_law 535 = .ok (.iaload, 1) := by decide +kernel
theorem dL_law_536 : decode cL_law 536 = .ok (.invokevirtual 55, 3) := by decide +kernel
theorem dL_law_539 : decode cL_law 539 = .ok (.if_icmp .eq 1082, 3) := by decide +kernel
theorem dL_law_542 : decode cL_law 542 = .ok (.iconst 0, 1) := by decide +kernel
theorem dL_law_543 : decode cL_law 543 = .ok (.ireturn, 1) := by decide +kernel
theorem dL_law_544 : decode cL_law 544 = .ok (.aload_n 1, 1) := by decide +kernel
theorem dL_law_545 : decode cL_law 545 = .ok (.aload_n 0, 1) := by decide +kernel
theorem dL_law_546 : decode cL_law 546 = .ok (.iload 4, 2) := by decide +kernel
theorem dL_law_548 : decode cL_law 548 = .ok (.iconst 1, 1) := by decide +kernel
theorem dL_law_549 : decode cL_law 549 = .ok (.iadd, 1) := by decide +kernel
theorem dL_law_550 : decode cL_law 550 = .ok (.iaload, 1) := by decide +kernel
theorem dL_law_551 : decode cL_law 551 = .ok (.invokevirtual 56, 3) := by decide +kernel
theorem dL_law_554 : decode cL_law 554 = .ok (.aload_n 2, 1) := by decide +kernel
theorem dL_law_555 : decode cL_law 555 = .ok (.aload_n 0, 1) := by decide +kernel
theorem dL_law_556 : decode cL_law 556 = .ok (.iload 4, 2) := by decide +kernel
theorem dL_law_558 : decode cL_law 558 = .ok (.iconst 1, 1) := by decide +kernel
theorem dL_law_559 : decode cL_law 559 = .ok (.iadd, 1) := by decide +kernel
theorem dL_law_560 : decode cL_law 560 = .ok (.iaload, 1) := by decide +kernel
theorem dL_law_561 : decode cL_law 561 = .ok (.invokevirtual 60, 3) := by decide +kernel
theorem dL_law_564 : decode cL_law 564 = .ok (.lcmp, 1) := by decide +kernel
theorem dL_law_565 : decode cL_law 565 = .ok (.ifCond .eq 1056, 3) := by decide +kernel
theorem dL_law_568 : decode cL_law 568 = .ok (.iconst 0, 1) := by decide +kernel
theorem dL_law_569 : decode cL_law 569 = .ok (.ireturn, 1) := by decide +kernel
theorem dL_law_570 : decode cL_law 570 = .ok (.aload_n 1, 1) := by decide +kernel
theorem dL_law_571 : decode cL_law 571 = .ok (.aload_n 0, 1) := by decide +kernel
theorem dL_law_572 : decode cL_law 572 = .ok (.iload 4, 2) := by decide +kernel
theorem dL_law_574 : decode cL_law 574 = .ok (.iconst 1, 1) := by decide +kernel
theorem dL_law_575 : decode cL_law 575 = .ok (.iadd, 1) := by decide +kernel
theorem dL_law_576 : decode cL_law 576 = .ok (.iaload, 1) := by decide +kernel
theorem dL_law_577 : decode cL_law 577 = .ok (.invokevirtual 61, 3) := by decide +kernel
theorem dL_law_580 : decode cL_law 580 = .ok (.aload_n 2, 1) := by decide +kernel
theorem dL_law_581 : decode cL_law 581 = .ok (.aload_n 0, 1) := by decide +kernel
theorem dL_law_582 : decode cL_law 582 = .ok (.iload 4, 2) := by decide +kernel
theorem dL_law_584 : decode cL_law 584 = .ok (.iconst 1, 1) := by decide +kernel
theorem dL_law_585 : decode cL_law 585 = .ok (.iadd, 1) := by decide +kernel
theorem dL_law_586 : decode cL_law 586 = .ok (.iaload, 1) := by decide +kernel
theorem dL_law_587 : decode cL_law 587 = .ok (.invokevirtual 64, 3) := by decide +kernel
theorem dL_law_590 : decode cL_law 590 = .ok (.if_icmp .eq 1031, 3) := by decide +kernel
theorem dL_law_593 : decode cL_law 593 = .ok (.iconst 0, 1) := by decide +kernel
theorem dL_law_594 : decode cL_law 594 = .ok (.ireturn, 1) := by decide +kernel
theorem dL_law_595 : decode cL_law 595 = .ok (.aload_n 1, 1) := by decide +kernel
theorem dL_law_596 : decode cL_law 596 = .ok (.aload_n 0, 1) := by decide +kernel
theorem dL_law_597 : decode cL_law 597 = .ok (.iload 4, 2) := by decide +kernel
theorem dL_law_599 : decode cL_law 599 = .ok (.iconst 1, 1) := by decide +kernel
theorem dL_law_600 : decode cL_law 600 = .ok (.iadd, 1) := by decide +kernel
theorem dL_law_601 : decode cL_law 601 = .ok (.iaload, 1) := by decide +kernel
theorem dL_law_602 : decode cL_law 602 = .ok (.aload_n 0, 1) := by decide +kernel
theorem dL_law_603 : decode cL_law 603 = .ok (.iload 4, 2) := by decide +kernel
theorem dL_law_605 : decode cL_law 605 = .ok (.iconst 2, 1) := by decide +kernel
theorem dL_law_606 : decode cL_law 606 = .ok (.iadd, 1) := by decide +kernel
theorem dL_law_607 : decode cL_law 607 = .ok (.iaload, 1) := by decide +kernel
theorem dL_law_608 : decode cL_law 608 = .ok (.invokevirtual 65, 3) := by decide +kernel
theorem dL_law_611 : decode cL_law 611 = .ok (.aload_n 2, 1) := by decide +kernel
theorem dL_law_612 : decode cL_law 612 = .ok (.aload_n 0, 1) := by decide +kernel
theorem dL_law_613 : decode cL_law 613 = .ok (.iload 4, 2) := by decide +kernel
theorem dL_law_615 : decode cL_law 615 = .ok (.iconst 1, 1) := by decide +kernel
theorem dL_law_616 : decode cL_law 616 = .ok (.iadd, 1) := by decide +kernel
theorem dL_law_617 : decode cL_law 617 = .ok (.iaload, 1) := by decide +kernel
theorem dL_law_618 : decode cL_law 618 = .ok (.aload_n 0, 1) := by decide +kernel
theorem dL_law_619 : decode cL_law 619 = .ok (.iload 4, 2) := by decide +kernel
theorem dL_law_621 : decode cL_law 621 = .ok (.iconst 2, 1) := by decide +kernel
theorem dL_law_622 : decode cL_law 622 = .ok (.iadd, 1) := by decide +kernel
theorem dL_law_623 : decode cL_law 623 = .ok (.iaload, 1) := by decide +kernel
theorem dL_law_624 : decode cL_law 624 = .ok (.invokevirtual 68, 3) := by decide +kernel
theorem dL_law_627 : decode cL_law 627 = .ok (.if_icmp .eq 994, 3) := by decide +kernel
theorem dL_law_630 : decode cL_law 630 = .ok (.iconst 0, 1) := by decide +kernel
theorem dL_law_631 : decode cL_law 631 = .ok (.ireturn, 1) := by decide +kernel
theorem dL_law_632 : decode cL_law 632 = .ok (.aload_n 1, 1) := by decide +kernel
theorem dL_law_633 : decode cL_law 633 = .ok (.aload_n 0, 1) := by decide +kernel
theorem dL_law_634 : decode cL_law 634 = .ok (.iload 4, 2) := by decide +kernel
theorem dL_law_636 : decode cL_law 636 = .ok (.iconst 1, 1) := by decide +kernel
theorem dL_law_637 : decode cL_law 637 = .ok (.iadd, 1) := by decide +kernel
theorem dL_law_638 : decode cL_law 638 = .ok (.iaload, 1) := by decide +kernel
theorem dL_law_639 : decode cL_law 639 = .ok (.invokevirtual 69, 3) := by decide +kernel
theorem dL_law_642 : decode cL_law 642 = .ok (.aload_n 2, 1) := by decide +kernel
theorem dL_law_643 : decode cL_law 643 = .ok (.aload_n 0, 1) := by decide +kernel
theorem dL_law_644 : decode cL_law 644 = .ok (.iload 4, 2) := by decide +kernel
theorem dL_law_646 : decode cL_law 646 = .ok (.iconst 1, 1) := by decide +kernel
theorem dL_law_647 : decode cL_law 647 = .ok (.iadd, 1) := by decide +kernel
theorem dL_law_648 : decode cL_law 648 = .ok (.iaload, 1) := by decide +kernel
theorem dL_law_649 : decode cL_law 649 = .ok (.invokevirtual 72, 3) := by decide +kernel
theorem dL_law_652 : decode cL_law 652 = .ok (.if_icmp .eq 969, 3) := by decide +kernel
theorem dL_law_655 : decode cL_law 655 = .ok (.iconst 0, 1) := by decide +kernel
theorem dL_law_656 : decode cL_law 656 = .ok (.ireturn, 1) := by decide +kernel
theorem dL_law_657 : decode cL_law 657 = .ok (.aload_n 1, 1) := by decide +kernel
theorem dL_law_658 : decode cL_law 658 = .ok (.aload_n 0, 1) := by decide +kernel
theorem dL_law_659 : decode cL_law 659 = .ok (.iload 4, 2) := by decide +kernel
theorem dL_law_661 : decode cL_law 661 = .ok (.iconst 1, 1) := by decide +kernel
theorem dL_law_662 : decode cL_law 662 = .ok (.iadd, 1) := by decide +kernel
theorem dL_law_663 : decode cL_law 663 = .ok (.iaload, 1) := by decide +kernel
theorem dL_law_664 : decode cL_law 664 = .ok (.invokevirtual 73, 3) := by decide +kernel
theorem dL_law_667 : decode cL_law 667 = .ok (.aload_n 2, 1) := by decide +kernel
theorem dL_law_668 : decode cL_law 668 = .ok (.aload_n 0, 1) := by decide +kernel
theorem dL_law_669 : decode cL_law 669 = .ok (.iload 4, 2) := by decide +kernel
theorem dL_law_671 : decode cL_law 671 = .ok (.iconst 1, 1) := by decide +kernel
theorem dL_law_672 : decode cL_law 672 = .ok (.iadd, 1) := by decide +kernel
theorem dL_law_673 : decode cL_law 673 = .ok (.iaload, 1) := by decide +kernel
theorem dL_law_674 : decode cL_law 674 = .ok (.invokevirtual 76, 3) := by decide +kernel
theorem dL_law_677 : decode cL_law 677 = .ok (.if_icmp .eq 944, 3) := by decide +kernel
theorem dL_law_680 : decode cL_law 680 = .ok (.iconst 0, 1) := by decide +kernel
theorem dL_law_681 : decode cL_law 681 = .ok (.ireturn, 1) := by decide +kernel
theorem dL_law_682 : decode cL_law 682 = .ok (.aload_n 1, 1) := by decide +kernel
theorem dL_law_683 : decode cL_law 683 = .ok (.aload_n 0, 1) := by decide +kernel
theorem dL_law_684 : decode cL_law 684 = .ok (.iload 4, 2) := by decide +kernel
theorem dL_law_686 : decode cL_law 686 = .ok (.iconst 1, 1) := by decide +kernel
theorem dL_law_687 : decode cL_law 687 = .ok (.iadd, 1) := by decide +kernel
theorem dL_law_688 : decode cL_law 688 = .ok (.iaload, 1) := by decide +kernel
theorem dL_law_689 : decode cL_law 689 = .ok (.invokevirtual 77, 3) := by decide +kernel
theorem dL_law_692 : decode cL_law 692 = .ok (.aload_n 2, 1) := by decide +kernel
theorem dL_law_693 : decode cL_law 693 = .ok (.aload_n 0, 1) := by decide +kernel
theorem dL_law_694 : decode cL_law 694 = .ok (.iload 4, 2) := by decide +kernel
theorem dL_law_696 : decode cL_law 696 = .ok (.iconst 1, 1) := by decide +kernel
theorem dL_law_697 : decode cL_law 697 = .ok (.iadd, 1) := by decide +kernel
theorem dL_law_698 : decode cL_law 698 = .ok (.iaload, 1) := by decide +kernel
theorem dL_law_699 : decode cL_law 699 = .ok (.invokevirtual 80, 3) := by decide +kernel
theorem dL_law_702 : decode cL_law 702 = .ok (.if_icmp .eq 919, 3) := by decide +kernel
theorem dL_law_705 : decode cL_law 705 = .ok (.iconst 0, 1) := by decide +kernel
theorem dL_law_706 : decode cL_law 706 = .ok (.ireturn, 1) := by decide +kernel
theorem dL_law_707 : decode cL_law 707 = .ok (.aload_n 1, 1) := by decide +kernel
theorem dL_law_708 : decode cL_law 708 = .ok (.aload_n 0, 1) := by decide +kernel
theorem dL_law_709 : decode cL_law 709 = .ok (.iload 4, 2) := by decide +kernel
theorem dL_law_711 : decode cL_law 711 = .ok (.iconst 1, 1) := by decide +kernel
theorem dL_law_712 : decode cL_law 712 = .ok (.iadd, 1) := by decide +kernel
theorem dL_law_713 : decode cL_law 713 = .ok (.iaload, 1) := by decide +kernel
theorem dL_law_714 : decode cL_law 714 = .ok (.aload_n 0, 1) := by decide +kernel
theorem dL_law_715 : decode cL_law 715 = .ok (.iload 4, 2) := by decide +kernel
theorem dL_law_717 : decode cL_law 717 = .ok (.iconst 2, 1) := by decide +kernel
theorem dL_law_718 : decode cL_law 718 = .ok (.iadd, 1) := by decide +kernel
theorem dL_law_719 : decode cL_law 719 = .ok (.iaload, 1) := by decide +kernel
theorem dL_law_720 : decode cL_law 720 = .ok (.ifCond .eq 7, 3) := by decide +kernel
theorem dL_law_723 : decode cL_law 723 = .ok (.iconst 1, 1) := by decide +kernel
theorem dL_law_724 : decode cL_law 724 = .ok (.goto 4, 3) := by decide +kernel
theorem dL_law_727 : decode cL_law 727 = .ok (.iconst 0, 1) := by decide +kernel
theorem dL_law_728 : decode cL_law 728 = .ok (.invokevirtual 81, 3) := by decide +kernel
theorem dL_law_731 : decode cL_law 731 = .ok (.aload_n 2, 1) := by decide +kernel
theorem dL_law_732 : decode cL_law 732 = .ok (.aload_n 0, 1) := by decide +kernel
theorem dL_law_733 : decode cL_law 733 = .ok (.iload 4, 2) := by decide +kernel
theorem dL_law_735 : decode cL_law 735 = .ok (.iconst 1, 1) := by decide +kernel
theorem dL_law_736 : decode cL_law 736 = .ok (.iadd, 1) := by decide +kernel
theorem dL_law_737 : decode cL_law 737 = .ok (.iaload, 1) := by decide +kernel
theorem dL_law_738 : decode cL_law 738 = .ok (.aload_n 0, 1) := by decide +kernel
theorem dL_law_739 : decode cL_law 739 = .ok (.iload 4, 2) := by decide +kernel
theorem dL_law_741 : decode cL_law 741 = .ok (.iconst 2, 1) := by decide +kernel
theorem dL_law_742 : decode cL_law 742 = .ok (.iadd, 1) := by decide +kernel
theorem dL_law_743 : decode cL_law 743 = .ok (.iaload, 1) := by decide +kernel
theorem dL_law_744 : decode cL_law 744 = .ok (.ifCond .eq 7, 3) := by decide +kernel
theorem dL_law_747 : decode cL_law 747 = .ok (.iconst 1, 1) := by decide +kernel
theorem dL_law_748 : decode cL_law 748 = .ok (.goto 4, 3) := by decide +kernel
theorem dL_law_751 : decode cL_law 751 = .ok (.iconst 0, 1) := by decide +kernel
theorem dL_law_752 : decode cL_law 752 = .ok (.invokevirtual 85, 3) := by decide +kernel
theorem dL_law_755 : decode cL_law 755 = .ok (.if_icmp .eq 866, 3) := by decide +kernel
theorem dL_law_758 : decode cL_law 758 = .ok (.iconst 0, 1) := by decide +kernel
theorem dL_law_759 : decode cL_law 759 = .ok (.ireturn, 1) := by decide +kernel
theorem dL_law_760 : decode cL_law 760 = .ok (.aload_n 1, 1) := by decide +kernel
theorem dL_law_761 : decode cL_law 761 = .ok (.invokevirtual 86, 3) := by decide +kernel
theorem dL_law_764 : decode cL_law 764 = .ok (.aload_n 2, 1) := by decide +kernel
theorem dL_law_765 : decode cL_law 765 = .ok (.invokevirtual 90, 3) := by decide +kernel
theorem dL_law_768 : decode cL_law 768 = .ok (.if_icmp .eq 853, 3) := by decide +kernel
theorem dL_law_771 : decode cL_law 771 = .ok (.iconst 0, 1) := by decide +kernel
theorem dL_law_772 : decode cL_law 772 = .ok (.ireturn, 1) := by decide +kernel
theorem dL_law_773 : decode cL_law 773 = .ok (.aload_n 1, 1) := by decide +kernel
theorem dL_law_774 : decode cL_law 774 = .ok (.aload_n 0, 1) := by decide +kernel
theorem dL_law_775 : decode cL_law 775 = .ok (.iload 4, 2) := by decide +kernel
theorem dL_law_777 : decode cL_law 777 = .ok (.iconst 1, 1) := by decide +kernel
theorem dL_law_778 : decode cL_law 778 = .ok (.iadd, 1) := by decide +kernel
theorem dL_law_779 : decode cL_law 779 = .ok (.iaload, 1) := by decide +kernel
theorem dL_law_780 : decode cL_law 780 = .ok (.invokevirtual 91, 3) := by decide +kernel
theorem dL_law_783 : decode cL_law 783 = .ok (.aload_n 2, 1) := by decide +kernel
theorem dL_law_784 : decode cL_law 784 = .ok (.aload_n 0, 1) := by decide +kernel
theorem dL_law_785 : decode cL_law 785 = .ok (.iload 4, 2) := by decide +kernel
theorem dL_law_787 : decode cL_law 787 = .ok (.iconst 1, 1) := by decide +kernel
theorem dL_law_788 : decode cL_law 788 = .ok (.iadd, 1) := by decide +kernel
theorem dL_law_789 : decode cL_law 789 = .ok (.iaload, 1) := by decide +kernel
theorem dL_law_790 : decode cL_law 790 = .ok (.invokevirtual 94, 3) := by decide +kernel
theorem dL_law_793 : decode cL_law 793 = .ok (.if_icmp .eq 828, 3) := by decide +kernel
theorem dL_law_796 : decode cL_law 796 = .ok (.iconst 0, 1) := by decide +kernel
theorem dL_law_797 : decode cL_law 797 = .ok (.ireturn, 1) := by decide +kernel
theorem dL_law_798 : decode cL_law 798 = .ok (.aload_n 1, 1) := by decide +kernel
theorem dL_law_799 : decode cL_law 799 = .ok (.aload_n 0, 1) := by decide +kernel
theorem dL_law_800 : decode cL_law 800 = .ok (.iload 4, 2) := by decide +kernel
theorem dL_law_802 : decode cL_law 802 = .ok (.iconst 1, 1) := by decide +kernel
theorem dL_law_803 : decode cL_law 803 = .ok (.iadd, 1) := by decide +kernel
theorem dL_law_804 : decode cL_law 804 = .ok (.iaload, 1) := by decide +kernel
theorem dL_law_805 : decode cL_law 805 = .ok (.aload_n 0, 1) := by decide +kernel
theorem dL_law_806 : decode cL_law 806 = .ok (.iload 4, 2) := by decide +kernel
theorem dL_law_808 : decode cL_law 808 = .ok (.iconst 2, 1) := by decide +kernel
theorem dL_law_809 : decode cL_law 809 = .ok (.iadd, 1) := by decide +kernel
theorem dL_law_810 : decode cL_law 810 = .ok (.iaload, 1) := by decide +kernel
theorem dL_law_811 : decode cL_law 811 = .ok (.aload_n 0, 1) := by decide +kernel
theorem dL_law_812 : decode cL_law 812 = .ok (.iload 4, 2) := by decide +kernel
theorem dL_law_814 : decode cL_law 814 = .ok (.iconst 3, 1) := by decide +kernel
theorem dL_law_815 : decode cL_law 815 = .ok (.iadd, 1) := by decide +kernel
theorem dL_law_816 : decode cL_law 816 = .ok (.iaload, 1) := by decide +kernel
theorem dL_law_817 : decode cL_law 817 = .ok (.invokevirtual 95, 3) := by decide +kernel
theorem dL_law_820 : decode cL_law 820 = .ok (.aload_n 2, 1) := by decide +kernel
theorem dL_law_821 : decode cL_law 821 = .ok (.aload_n 0, 1) := by decide +kernel
theorem dL_law_822 : decode cL_law 822 = .ok (.iload 4, 2) := by decide +kernel
theorem dL_law_824 : decode cL_law 824 = .ok (.iconst 1, 1) := by decide +kernel
theorem dL_law_825 : decode cL_law 825 = .ok (.iadd, 1) := by decide +kernel
theorem dL_law_826 : decode cL_law 826 = .ok (.iaload, 1) := by decide +kernel
theorem dL_law_827 : decode cL_law 827 = .ok (.aload_n 0, 1) := by decide +kernel
theorem dL_law_828 : decode cL_law 828 = .ok (.iload 4, 2) := by decide +kernel
theorem dL_law_830 : decode cL_law 830 = .ok (.iconst 2, 1) := by decide +kernel
theorem dL_law_831 : decode cL_law 831 = .ok (.iadd, 1) := by decide +kernel
theorem dL_law_832 : decode cL_law 832 = .ok (.iaload, 1) := by decide +kernel
theorem dL_law_833 : decode cL_law 833 = .ok (.aload_n 0, 1) := by decide +kernel
theorem dL_law_834 : decode cL_law 834 = .ok (.iload 4, 2) := by decide +kernel
theorem dL_law_836 : decode cL_law 836 = .ok (.iconst 3, 1) := by decide +kernel
theorem dL_law_837 : decode cL_law 837 = .ok (.iadd, 1) := by decide +kernel
theorem dL_law_838 : decode cL_law 838 = .ok (.iaload, 1) := by decide +kernel
theorem dL_law_839 : decode cL_law 839 = .ok (.invokevirtual 98, 3) := by decide +kernel
theorem dL_law_842 : decode cL_law 842 = .ok (.if_icmp .eq 779, 3) := by decide +kernel
theorem dL_law_845 : decode cL_law 845 = .ok (.iconst 0, 1) := by decide +kernel
theorem dL_law_846 : decode cL_law 846 = .ok (.ireturn, 1) := by decide +kernel
theorem dL_law_847 : decode cL_law 847 = .ok (.aload_n 1, 1) := by decide +kernel
theorem dL_law_848 : decode cL_law 848 = .ok (.aload_n 0, 1) := by decide +kernel
theorem dL_law_849 : decode cL_law 849 = .ok (.iload 4, 2) := by decide +kernel
theorem dL_law_851 : decode cL_law 851 = .ok (.iconst 1, 1) := by decide +kernel
theorem dL_law_852 : decode cL_law 852 = .ok (.iadd, 1) := by decide +kernel
theorem dL_law_853 : decode cL_law 853 = .ok (.iaload, 1) := by decide +kernel
theorem dL_law_854 : decode cL_law 854 = .ok (.invokevirtual 99, 3) := by decide +kernel
theorem dL_law_857 : decode cL_law 857 = .ok (.aload_n 2, 1) := by decide +kernel
theorem dL_law_858 : decode cL_law 858 = .ok (.aload_n 0, 1) := by decide +kernel
theorem dL_law_859 : decode cL_law 859 = .ok (.iload 4, 2) := by decide +kernel
theorem dL_law_861 : decode cL_law 861 = .ok (.iconst 1, 1) := by decide +kernel
theorem dL_law_862 : decode cL_law 862 = .ok (.iadd, 1) := by decide +kernel
theorem dL_law_863 : decode cL_law 863 = .ok (.iaload, 1) := by decide +kernel
theorem dL_law_864 : decode cL_law 864 = .ok (.invokevirtual 102, 3) := by decide +kernel
theorem dL_law_867 : decode cL_law 867 = .ok (.if_icmp .eq 754, 3) := by decide +kernel
theorem dL_law_870 : decode cL_law 870 = .ok (.iconst 0, 1) := by decide +kernel
theorem dL_law_871 : decode cL_law 871 = .ok (.ireturn, 1) := by decide +kernel
theorem dL_law_872 : decode cL_law 872 = .ok (.aload_n 1, 1) := by decide +kernel
theorem dL_law_873 : decode cL_law 873 = .ok (.aload_n 0, 1) := by decide +kernel
theorem dL_law_874 : decode cL_law 874 = .ok (.iload 4, 2) := by decide +kernel
theorem dL_law_876 : decode cL_law 876 = .ok (.iconst 1, 1) := by decide +kernel
theorem dL_law_877 : decode cL_law 877 = .ok (.iadd, 1) := by decide +kernel
theorem dL_law_878 : decode cL_law 878 = .ok (.iaload, 1) := by decide +kernel
theorem dL_law_879 : decode cL_law 879 = .ok (.aload_n 0, 1) := by decide +kernel
theorem dL_law_880 : decode cL_law 880 = .ok (.iload 4, 2) := by decide +kernel
theorem dL_law_882 : decode cL_law 882 = .ok (.iconst 2, 1) := by decide +kernel
theorem dL_law_883 : decode cL_law 883 = .ok (.iadd, 1) := by decide +kernel
theorem dL_law_884 : decode cL_law 884 = .ok (.iaload, 1) := by decide +kernel
theorem dL_law_885 : decode cL_law 885 = .ok (.invokevirtual 103, 3) := by decide +kernel
theorem dL_law_888 : decode cL_law 888 = .ok (.aload_n 2, 1) := by decide +kernel
theorem dL_law_889 : decode cL_law 889 = .ok (.aload_n 0, 1) := by decide +kernel
theorem dL_law_890 : decode cL_law 890 = .ok (.iload 4, 2) := by decide +kernel
theorem dL_law_892 : decode cL_law 892 = .ok (.iconst 1, 1) := by decide +kernel
theorem dL_law_893 : decode cL_law 893 = .ok (.iadd, 1) := by decide +kernel
theorem dL_law_894 : decode cL_law 894 = .ok (.iaload, 1) := by decide +kernel
theorem dL_law_895 : decode cL_law 895 = .ok (.aload_n 0, 1) := by decide +kernel
theorem dL_law_896 : decode cL_law 896 = .ok (.iload 4, 2) := by decide +kernel
theorem dL_law_898 : decode cL_law 898 = .ok (.iconst 2, 1) := by decide +kernel
theorem dL_law_899 : decode cL_law 899 = .ok (.iadd, 1) := by decide +kernel
theorem dL_law_900 : decode cL_law 900 = .ok (.iaload, 1) := by decide +kernel
theorem dL_law_901 : decode cL_law 901 = .ok (.invokevirtual 106, 3) := by decide +kernel
theorem dL_law_904 : decode cL_law 904 = .ok (.if_icmp .eq 717, 3) := by decide +kernel
theorem dL_law_907 : decode cL_law 907 = .ok (.iconst 0, 1) := by decide +kernel
theorem dL_law_908 : decode cL_law 908 = .ok (.ireturn, 1) := by decide +kernel
theorem dL_law_909 : decode cL_law 909 = .ok (.aload_n 1, 1) := by decide +kernel
theorem dL_law_910 : decode cL_law 910 = .ok (.invokevirtual 107, 3) := by decide +kernel
theorem dL_law_913 : decode cL_law 913 = .ok (.aload_n 2, 1) := by decide +kernel
theorem dL_law_914 : decode cL_law 914 = .ok (.invokevirtual 110, 3) := by decide +kernel
theorem dL_law_917 : decode cL_law 917 = .ok (.if_icmp .eq 704, 3) := by decide +kernel
theorem dL_law_920 : decode cL_law 920 = .ok (.iconst 0, 1) := by decide +kernel
theorem dL_law_921 : decode cL_law 921 = .ok (.ireturn, 1) := by decide +kernel
theorem dL_law_922 : decode cL_law 922 = .ok (.aload_n 1, 1) := by decide +kernel
theorem dL_law_923 : decode cL_law 923 = .ok (.invokevirtual 111, 3) := by decide +kernel
theorem dL_law_926 : decode cL_law 926 = .ok (.aload_n 2, 1) := by decide +kernel
theorem dL_law_927 : decode cL_law 927 = .ok (.invokevirtual 114, 3) := by decide +kernel
theorem dL_law_930 : decode cL_law 930 = .ok (.if_icmp .eq 691, 3) := by decide +kernel
theorem dL_law_933 : decode cL_law 933 = .ok (.iconst 0, 1) := by decide +kernel
theorem dL_law_934 : decode cL_law 934 = .ok (.ireturn, 1) := by decide +kernel
theorem dL_law_935 : decode cL_law 935 = .ok (.aload_n 1, 1) := by decide +kernel
theorem dL_law_936 : decode cL_law 936 = .ok (.aload_n 0, 1) := by decide +kernel
theorem dL_law_937 : decode cL_law 937 = .ok (.iload 4, 2) := by decide +kernel
theorem dL_law_939 : decode cL_law 939 = .ok (.iconst 1, 1) := by decide +kernel
theorem dL_law_940 : decode cL_law 940 = .ok (.iadd, 1) := by decide +kernel
theorem dL_law_941 : decode cL_law 941 = .ok (.iaload, 1) := by decide +kernel
theorem dL_law_942 : decode cL_law 942 = .ok (.aload_n 0, 1) := by decide +kernel
theorem dL_law_943 : decode cL_law 943 = .ok (.iload 4, 2) := by decide +kernel
theorem dL_law_945 : decode cL_law 945 = .ok (.iconst 2, 1) := by decide +kernel
theorem dL_law_946 : decode cL_law 946 = .ok (.iadd, 1) := by decide +kernel
theorem dL_law_947 : decode cL_law 947 = .ok (.iaload, 1) := by decide +kernel
theorem dL_law_948 : decode cL_law 948 = .ok (.invokevirtual 115, 3) := by decide +kernel
theorem dL_law_951 : decode cL_law 951 = .ok (.aload_n 2, 1) := by decide +kernel
theorem dL_law_952 : decode cL_law 952 = .ok (.aload_n 0, 1) := by decide +kernel
theorem dL_law_953 : decode cL_law 953 = .ok (.iload 4, 2) := by decide +kernel
theorem dL_law_955 : decode cL_law 955 = .ok (.iconst 1, 1) := by decide +kernel
theorem dL_law_956 : decode cL_law 956 = .ok (.iadd, 1) := by decide +kernel
theorem dL_law_957 : decode cL_law 957 = .ok (.iaload, 1) := by decide +kernel
theorem dL_law_958 : decode cL_law 958 = .ok (.aload_n 0, 1) := by decide +kernel
theorem dL_law_959 : decode cL_law 959 = .ok (.iload 4, 2) := by decide +kernel
theorem dL_law_961 : decode cL_law 961 = .ok (.iconst 2, 1) := by decide +kernel
theorem dL_law_962 : decode cL_law 962 = .ok (.iadd, 1) := by decide +kernel
theorem dL_law_963 : decode cL_law 963 = .ok (.iaload, 1) := by decide +kernel
theorem dL_law_964 : decode cL_law 964 = .ok (.invokevirtual 118, 3) := by decide +kernel
theorem dL_law_967 : decode cL_law 967 = .ok (.if_icmp .eq 654, 3) := by decide +kernel
theorem dL_law_970 : decode cL_law 970 = .ok (.iconst 0, 1) := by decide +kernel
theorem dL_law_971 : decode cL_law 971 = .ok (.ireturn, 1) := by decide +kernel
theorem dL_law_972 : decode cL_law 972 = .ok (.aload_n 1, 1) := by decide +kernel
theorem dL_law_973 : decode cL_law 973 = .ok (.invokevirtual 119, 3) := by decide +kernel
theorem dL_law_976 : decode cL_law 976 = .ok (.aload_n 2, 1) := by decide +kernel
theorem dL_law_977 : decode cL_law 977 = .ok (.invokevirtual 122, 3) := by decide +kernel
theorem dL_law_980 : decode cL_law 980 = .ok (.if_icmp .eq 641, 3) := by decide +kernel
theorem dL_law_983 : decode cL_law 983 = .ok (.iconst 0, 1) := by decide +kernel
theorem dL_law_984 : decode cL_law 984 = .ok (.ireturn, 1) := by decide +kernel
theorem dL_law_985 : decode cL_law 985 = .ok (.aload_n 1, 1) := by decide +kernel
theorem dL_law_986 : decode cL_law 986 = .ok (.aload_n 0, 1) := by decide +kernel
theorem dL_law_987 : decode cL_law 987 = .ok (.iload 4, 2) := by decide +kernel
theorem dL_law_989 : decode cL_law 989 = .ok (.iconst 1, 1) := by decide +kernel
theorem dL_law_990 : decode cL_law 990 = .ok (.iadd, 1) := by decide +kernel
theorem dL_law_991 : decode cL_law 991 = .ok (.iaload, 1) := by decide +kernel
theorem dL_law_992 : decode cL_law 992 = .ok (.aload_n 0, 1) := by decide +kernel
theorem dL_law_993 : decode cL_law 993 = .ok (.iload 4, 2) := by decide +kernel
theorem dL_law_995 : decode cL_law 995 = .ok (.iconst 2, 1) := by decide +kernel
theorem dL_law_996 : decode cL_law 996 = .ok (.iadd, 1) := by decide +kernel
theorem dL_law_997 : decode cL_law 997 = .ok (.iaload, 1) := by decide +kernel
theorem dL_law_998 : decode cL_law 998 = .ok (.invokevirtual 123, 3) := by decide +kernel
theorem dL_law_1001 : decode cL_law 1001 = .ok (.aload_n 2, 1) := by decide +kernel
theorem dL_law_1002 : decode cL_law 1002 = .ok (.aload_n 0, 1) := by decide +kernel
theorem dL_law_1003 : decode cL_law 1003 = .ok (.iload 4, 2) := by decide +kernel
theorem dL_law_1005 : decode cL_law 1005 = .ok (.iconst 1, 1) := by decide +kernel
theorem dL_law_1006 : decode cL_law 1006 = .ok (.iadd, 1) := by decide +kernel
theorem dL_law_1007 : decode cL_law 1007 = .ok (.iaload, 1) := by decide +kernel
theorem dL_law_1008 : decode cL_law 1008 = .ok (.aload_n 0, 1) := by decide +kernel
theorem dL_law_1009 : decode cL_law 1009 = .ok (.iload 4, 2) := by decide +kernel
theorem dL_law_1011 : decode cL_law 1011 = .ok (.iconst 2, 1) := by decide +kernel
theorem dL_law_1012 : decode cL_law 1012 = .ok (.iadd, 1) := by decide +kernel
theorem dL_law_1013 : decode cL_law 1013 = .ok (.iaload, 1) := by decide +kernel
theorem dL_law_1014 : decode cL_law 1014 = .ok (.invokevirtual 126, 3) := by decide +kernel
theorem dL_law_1017 : decode cL_law 1017 = .ok (.if_icmp .eq 604, 3) := by decide +kernel
theorem dL_law_1020 : decode cL_law 1020 = .ok (.iconst 0, 1) := by decide +kernel
theorem dL_law_1021 : decode cL_law 1021 = .ok (.ireturn, 1) := by decide +kernel
theorem dL_law_1022 : decode cL_law 1022 = .ok (.aload_n 1, 1) := by decide +kernel
theorem dL_law_1023 : decode cL_law 1023 = .ok (.aload_n 0, 1) := by decide +kernel
theorem dL_law_1024 : decode cL_law 1024 = .ok (.iload 4, 2) := by decide +kernel
theorem dL_law_1026 : decode cL_law 1026 = .ok (.iconst 1, 1) := by decide +kernel
theorem dL_law_1027 : decode cL_law 1027 = .ok (.iadd, 1) := by decide +kernel
theorem dL_law_1028 : decode cL_law 1028 = .ok (.iaload, 1) := by decide +kernel
theorem dL_law_1029 : decode cL_law 1029 = .ok (.invokevirtual 127, 3) := by decide +kernel
theorem dL_law_1032 : decode cL_law 1032 = .ok (.aload_n 2, 1) := by decide +kernel
theorem dL_law_1033 : decode cL_law 1033 = .ok (.aload_n 0, 1) := by decide +kernel
theorem dL_law_1034 : decode cL_law 1034 = .ok (.iload 4, 2) := by decide +kernel
theorem dL_law_1036 : decode cL_law 1036 = .ok (.iconst 1, 1) := by decide +kernel
theorem dL_law_1037 : decode cL_law 1037 = .ok (.iadd, 1) := by decide +kernel
theorem dL_law_1038 : decode cL_law 1038 = .ok (.iaload, 1) := by decide +kernel
theorem dL_law_1039 : decode cL_law 1039 = .ok (.invokevirtual 130, 3) := by decide +kernel
theorem dL_law_1042 : decode cL_law 1042 = .ok (.if_icmp .eq 579, 3) := by decide +kernel
theorem dL_law_1045 : decode cL_law 1045 = .ok (.iconst 0, 1) := by decide +kernel
theorem dL_law_1046 : decode cL_law 1046 = .ok (.ireturn, 1) := by decide +kernel
theorem dL_law_1047 : decode cL_law 1047 = .ok (.aload_n 1, 1) := by decide +kernel
theorem dL_law_1048 : decode cL_law 1048 = .ok (.aload_n 0, 1) := by decide +kernel
theorem dL_law_1049 : decode cL_law 1049 = .ok (.iload 4, 2) := by decide +kernel
theorem dL_law_1051 : decode cL_law 1051 = .ok (.iconst 1, 1) := by decide +kernel
theorem dL_law_1052 : decode cL_law 1052 = .ok (.iadd, 1) := by decide +kernel
theorem dL_law_1053 : decode cL_law 1053 = .ok (.iaload, 1) := by decide +kernel
theorem dL_law_1054 : decode cL_law 1054 = .ok (.aload_n 0, 1) := by decide +kernel
theorem dL_law_1055 : decode cL_law 1055 = .ok (.iload 4, 2) := by decide +kernel
theorem dL_law_1057 : decode cL_law 1057 = .ok (.iconst 2, 1) := by decide +kernel
theorem dL_law_1058 : decode cL_law 1058 = .ok (.iadd, 1) := by decide +kernel
theorem dL_law_1059 : decode cL_law 1059 = .ok (.iaload, 1) := by decide +kernel
theorem dL_law_1060 : decode cL_law 1060 = .ok (.aload_n 0, 1) := by decide +kernel
theorem dL_law_1061 : decode cL_law 1061 = .ok (.iload 4, 2) := by decide +kernel
theorem dL_law_1063 : decode cL_law 1063 = .ok (.iconst 3, 1) := by decide +kernel
theorem dL_law_1064 : decode cL_law 1064 = .ok (.iadd, 1) := by decide +kernel
theorem dL_law_1065 : decode cL_law 1065 = .ok (.iaload, 1) := by decide +kernel
theorem dL_law_1066 : decode cL_law 1066 = .ok (.invokevirtual 131, 3) := by decide +kernel
theorem dL_law_1069 : decode cL_law 1069 = .ok (.aload_n 2, 1) := by decide +kernel
theorem dL_law_1070 : decode cL_law 1070 = .ok (.aload_n 0, 1) := by decide +kernel
theorem dL_law_1071 : decode cL_law 1071 = .ok (.iload 4, 2) := by decide +kernel
theorem dL_law_1073 : decode cL_law 1073 = .ok (.iconst 1, 1) := by decide +kernel
theorem dL_law_1074 : decode cL_law 1074 = .ok (.iadd, 1) := by decide +kernel
theorem dL_law_1075 : decode cL_law 1075 = .ok (.iaload, 1) := by decide +kernel
theorem dL_law_1076 : decode cL_law 1076 = .ok (.aload_n 0, 1) := by decide +kernel
theorem dL_law_1077 : decode cL_law 1077 = .ok (.iload 4, 2) := by decide +kernel
theorem dL_law_1079 : decode cL_law 1079 = .ok (.iconst 2, 1) := by decide +kernel
theorem dL_law_1080 : decode cL_law 1080 = .ok (.iadd, 1) := by decide +kernel
theorem dL_law_1081 : decode cL_law 1081 = .ok (.iaload, 1) := by decide +kernel
theorem dL_law_1082 : decode cL_law 1082 = .ok (.aload_n 0, 1) := by decide +kernel
theorem dL_law_1083 : decode cL_law 1083 = .ok (.iload 4, 2) := by decide +kernel
theorem dL_law_1085 : decode cL_law 1085 = .ok (.iconst 3, 1) := by decide +kernel
theorem dL_law_1086 : decode cL_law 1086 = .ok (.iadd, 1) := by decide +kernel
theorem dL_law_1087 : decode cL_law 1087 = .ok (.iaload, 1) := by decide +kernel
theorem dL_law_1088 : decode cL_law 1088 = .ok (.invokevirtual 134, 3) := by decide +kernel
theorem dL_law_1091 : decode cL_law 1091 = .ok (.if_icmp .eq 530, 3) := by decide +kernel
theorem dL_law_1094 : decode cL_law 1094 = .ok (.iconst 0, 1) := by decide +kernel
theorem dL_law_1095 : decode cL_law 1095 = .ok (.ireturn, 1) := by decide +kernel
theorem dL_law_1096 : decode cL_law 1096 = .ok (.aload_n 1, 1) := by decide +kernel
theorem dL_law_1097 : decode cL_law 1097 = .ok (.aload_n 0, 1) := by decide +kernel
theorem dL_law_1098 : decode cL_law 1098 = .ok (.iload 4, 2) := by decide +kernel
theorem dL_law_1100 : decode cL_law 1100 = .ok (.iconst 1, 1) := by decide +kernel
theorem dL_law_1101 : decode cL_law 1101 = .ok (.iadd, 1) := by decide +kernel
theorem dL_law_1102 : decode cL_law 1102 = .ok (.iaload, 1) := by decide +kernel
theorem dL_law_1103 : decode cL_law 1103 = .ok (.invokevirtual 135, 3) := by decide +kernel
theorem dL_law_1106 : decode cL_law 1106 = .ok (.aload_n 2, 1) := by decide +kernel
theorem dL_law_1107 : decode cL_law 1107 = .ok (.aload_n 0, 1) := by decide +kernel
theorem dL_law_1108 : decode cL_law 1108 = .ok (.iload 4, 2) := by decide +kernel
theorem dL_law_1110 : decode cL_law 1110 = .ok (.iconst 1, 1) := by decide +kernel
theorem dL_law_1111 : decode cL_law 1111 = .ok (.iadd, 1) := by decide +kernel
theorem dL_law_1112 : decode cL_law 1112 = .ok (.iaload, 1) := by decide +kernel
theorem dL_law_1113 : decode cL_law 1113 = .ok (.invokevirtual 138, 3) := by decide +kernel
theorem dL_law_1116 : decode cL_law 1116 = .ok (.if_icmp .eq 505, 3) := by decide +kernel
theorem dL_law_1119 : decode cL_law 1119 = .ok (.iconst 0, 1) := by decide +kernel
theorem dL_law_1120 : decode cL_law 1120 = .ok (.ireturn, 1) := by decide +kernel
theorem dL_law_1121 : decode cL_law 1121 = .ok (.aload_n 1, 1) := by decide +kernel
theorem dL_law_1122 : decode cL_law 1122 = .ok (.aload_n 0, 1) := by decide +kernel
theorem dL_law_1123 : decode cL_law 1123 = .ok (.iload 4, 2) := by decide +kernel
theorem dL_law_1125 : decode cL_law 1125 = .ok (.iconst 1, 1) := by decide +kernel
theorem dL_law_1126 : decode cL_law 1126 = .ok (.iadd, 1) := by decide +kernel
theorem dL_law_1127 : decode cL_law 1127 = .ok (.iaload, 1) := by decide +kernel
theorem dL_law_1128 : decode cL_law 1128 = .ok (.invokevirtual 139, 3) := by decide +kernel
theorem dL_law_1131 : decode cL_law 1131 = .ok (.aload_n 2, 1) := by decide +kernel
theorem dL_law_1132 : decode cL_law 1132 = .ok (.aload_n 0, 1) := by decide +kernel
theorem dL_law_1133 : decode cL_law 1133 = .ok (.iload 4, 2) := by decide +kernel
theorem dL_law_1135 : decode cL_law 1135 = .ok (.iconst 1, 1) := by decide +kernel
theorem dL_law_1136 : decode cL_law 1136 = .ok (.iadd, 1) := by decide +kernel
theorem dL_law_1137 : decode cL_law 1137 = .ok (.iaload, 1) := by decide +kernel
theorem dL_law_1138 : decode cL_law 1138 = .ok (.invokevirtual 142, 3) := by decide +kernel
theorem dL_law_1141 : decode cL_law 1141 = .ok (.if_icmp .eq 480, 3) := by decide +kernel
theorem dL_law_1144 : decode cL_law 1144 = .ok (.iconst 0, 1) := by decide +kernel
theorem dL_law_1145 : decode cL_law 1145 = .ok (.ireturn, 1) := by decide +kernel
theorem dL_law_1146 : decode cL_law 1146 = .ok (.aload_n 1, 1) := by decide +kernel
theorem dL_law_1147 : decode cL_law 1147 = .ok (.aload_n 0, 1) := by decide +kernel
theorem dL_law_1148 : decode cL_law 1148 = .ok (.iload 4, 2) := by decide +kernel
theorem dL_law_1150 : decode cL_law 1150 = .ok (.iconst 1, 1) := by decide +kernel
theorem dL_law_1151 : decode cL_law 1151 = .ok (.iadd, 1) := by decide +kernel
theorem dL_law_1152 : decode cL_law 1152 = .ok (.iaload, 1) := by decide +kernel
theorem dL_law_1153 : decode cL_law 1153 = .ok (.invokevirtual 143, 3) := by decide +kernel
theorem dL_law_1156 : decode cL_law 1156 = .ok (.aload_n 2, 1) := by decide +kernel
theorem dL_law_1157 : decode cL_law 1157 = .ok (.aload_n 0, 1) := by decide +kernel
theorem dL_law_1158 : decode cL_law 1158 = .ok (.iload 4, 2) := by decide +kernel
theorem dL_law_1160 : decode cL_law 1160 = .ok (.iconst 1, 1) := by decide +kernel
theorem dL_law_1161 : decode cL_law 1161 = .ok (.iadd, 1) := by decide +kernel
theorem dL_law_1162 : decode cL_law 1162 = .ok (.iaload, 1) := by decide +kernel
theorem dL_law_1163 : decode cL_law 1163 = .ok (.invokevirtual 146, 3) := by decide +kernel
theorem dL_law_1166 : decode cL_law 1166 = .ok (.if_icmp .eq 455, 3) := by decide +kernel
theorem dL_law_1169 : decode cL_law 1169 = .ok (.iconst 0, 1) := by decide +kernel
theorem dL_law_1170 : decode cL_law 1170 = .ok (.ireturn, 1) := by decide +kernel
theorem dL_law_1171 : decode cL_law 1171 = .ok (.aload_n 1, 1) := by decide +kernel
theorem dL_law_1172 : decode cL_law 1172 = .ok (.aload_n 0, 1) := by decide +kernel
theorem dL_law_1173 : decode cL_law 1173 = .ok (.iload 4, 2) := by decide +kernel
theorem dL_law_1175 : decode cL_law 1175 = .ok (.iconst 1, 1) := by decide +kernel
theorem dL_law_1176 : decode cL_law 1176 = .ok (.iadd, 1) := by decide +kernel
theorem dL_law_1177 : decode cL_law 1177 = .ok (.iaload, 1) := by decide +kernel
theorem dL_law_1178 : decode cL_law 1178 = .ok (.invokevirtual 147, 3) := by decide +kernel
theorem dL_law_1181 : decode cL_law 1181 = .ok (.aload_n 2, 1) := by decide +kernel
theorem dL_law_1182 : decode cL_law 1182 = .ok (.aload_n 0, 1) := by decide +kernel
theorem dL_law_1183 : decode cL_law 1183 = .ok (.iload 4, 2) := by decide +kernel
theorem dL_law_1185 : decode cL_law 1185 = .ok (.iconst 1, 1) := by decide +kernel
theorem dL_law_1186 : decode cL_law 1186 = .ok (.iadd, 1) := by decide +kernel
theorem dL_law_1187 : decode cL_law 1187 = .ok (.iaload, 1) := by decide +kernel
theorem dL_law_1188 : decode cL_law 1188 = .ok (.invokevirtual 150, 3) := by decide +kernel
theorem dL_law_1191 : decode cL_law 1191 = .ok (.if_icmp .eq 430, 3) := by decide +kernel
theorem dL_law_1194 : decode cL_law 1194 = .ok (.iconst 0, 1) := by decide +kernel
theorem dL_law_1195 : decode cL_law 1195 = .ok (.ireturn, 1) := by decide +kernel
theorem dL_law_1196 : decode cL_law 1196 = .ok (.aload_n 1, 1) := by decide +kernel
theorem dL_law_1197 : decode cL_law 1197 = .ok (.aload_n 0, 1) := by decide +kernel
theorem dL_law_1198 : decode cL_law 1198 = .ok (.iload 4, 2) := by decide +kernel
theorem dL_law_1200 : decode cL_law 1200 = .ok (.iconst 1, 1) := by decide +kernel
theorem dL_law_1201 : decode cL_law 1201 = .ok (.iadd, 1) := by decide +kernel
theorem dL_law_1202 : decode cL_law 1202 = .ok (.iaload, 1) := by decide +kernel
theorem dL_law_1203 : decode cL_law 1203 = .ok (.aload_n 0, 1) := by decide +kernel
theorem dL_law_1204 : decode cL_law 1204 = .ok (.iload 4, 2) := by decide +kernel
theorem dL_law_1206 : decode cL_law 1206 = .ok (.iconst 2, 1) := by decide +kernel
theorem dL_law_1207 : decode cL_law 1207 = .ok (.iadd, 1) := by decide +kernel
theorem dL_law_1208 : decode cL_law 1208 = .ok (.iaload, 1) := by decide +kernel
theorem dL_law_1209 : decode cL_law 1209 = .ok (.invokevirtual 151, 3) := by decide +kernel
theorem dL_law_1212 : decode cL_law 1212 = .ok (.aload_n 2, 1) := by decide +kernel
theorem dL_law_1213 : decode cL_law 1213 = .ok (.aload_n 0, 1) := by decide +kernel
theorem dL_law_1214 : decode cL_law 1214 = .ok (.iload 4, 2) := by decide +kernel
theorem dL_law_1216 : decode cL_law 1216 = .ok (.iconst 1, 1) := by decide +kernel
theorem dL_law_1217 : decode cL_law 1217 = .ok (.iadd, 1) := by decide +kernel
theorem dL_law_1218 : decode cL_law 1218 = .ok (.iaload, 1) := by decide +kernel
theorem dL_law_1219 : decode cL_law 1219 = .ok (.aload_n 0, 1) := by decide +kernel
theorem dL_law_1220 : decode cL_law 1220 = .ok (.iload 4, 2) := by decide +kernel
theorem dL_law_1222 : decode cL_law 1222 = .ok (.iconst 2, 1) := by decide +kernel
theorem dL_law_1223 : decode cL_law 1223 = .ok (.iadd, 1) := by decide +kernel
theorem dL_law_1224 : decode cL_law 1224 = .ok (.iaload, 1) := by decide +kernel
theorem dL_law_1225 : decode cL_law 1225 = .ok (.invokevirtual 154, 3) := by decide +kernel
theorem dL_law_1228 : decode cL_law 1228 = .ok (.if_icmp .eq 393, 3) := by decide +kernel
theorem dL_law_1231 : decode cL_law 1231 = .ok (.iconst 0, 1) := by decide +kernel
theorem dL_law_1232 : decode cL_law 1232 = .ok (.ireturn, 1) := by decide +kernel
theorem dL_law_1233 : decode cL_law 1233 = .ok (.aload_n 1, 1) := by decide +kernel
theorem dL_law_1234 : decode cL_law 1234 = .ok (.invokevirtual 155, 3) := by decide +kernel
theorem dL_law_1237 : decode cL_law 1237 = .ok (.aload_n 2, 1) := by decide +kernel
theorem dL_law_1238 : decode cL_law 1238 = .ok (.invokevirtual 158, 3) := by decide +kernel
theorem dL_law_1241 : decode cL_law 1241 = .ok (.if_icmp .eq 380, 3) := by decide +kernel
theorem dL_law_1244 : decode cL_law 1244 = .ok (.iconst 0, 1) := by decide +kernel
theorem dL_law_1245 : decode cL_law 1245 = .ok (.ireturn, 1) := by decide +kernel
theorem dL_law_1246 : decode cL_law 1246 = .ok (.aload_n 1, 1) := by decide +kernel
theorem dL_law_1247 : decode cL_law 1247 = .ok (.invokevirtual 159, 3) := by decide +kernel
theorem dL_law_1250 : decode cL_law 1250 = .ok (.aload_n 2, 1) := by decide +kernel
theorem dL_law_1251 : decode cL_law 1251 = .ok (.invokevirtual 162, 3) := by decide +kernel
theorem dL_law_1254 : decode cL_law 1254 = .ok (.if_icmp .eq 367, 3) := by decide +kernel
theorem dL_law_1257 : decode cL_law 1257 = .ok (.iconst 0, 1) := by decide +kernel
theorem dL_law_1258 : decode cL_law 1258 = .ok (.ireturn, 1) := by decide +kernel
theorem dL_law_1259 : decode cL_law 1259 = .ok (.aload_n 1, 1) := by decide +kernel
theorem dL_law_1260 : decode cL_law 1260 = .ok (.aload_n 0, 1) := by decide +kernel
theorem dL_law_1261 : decode cL_law 1261 = .ok (.iload 4, 2) := by decide +kernel
theorem dL_law_1263 : decode cL_law 1263 = .ok (.iconst 1, 1) := by decide +kernel
theorem dL_law_1264 : decode cL_law 1264 = .ok (.iadd, 1) := by decide +kernel
theorem dL_law_1265 : decode cL_law 1265 = .ok (.iaload, 1) := by decide +kernel
theorem dL_law_1266 : decode cL_law 1266 = .ok (.invokevirtual 163, 3) := by decide +kernel
theorem dL_law_1269 : decode cL_law 1269 = .ok (.aload_n 2, 1) := by decide +kernel
theorem dL_law_1270 : decode cL_law 1270 = .ok (.aload_n 0, 1) := by decide +kernel
theorem dL_law_1271 : decode cL_law 1271 = .ok (.iload 4, 2) := by decide +kernel
theorem dL_law_1273 : decode cL_law 1273 = .ok (.iconst 1, 1) := by decide +kernel
theorem dL_law_1274 : decode cL_law 1274 = .ok (.iadd, 1) := by decide +kernel
theorem dL_law_1275 : decode cL_law 1275 = .ok (.iaload, 1) := by decide +kernel
theorem dL_law_1276 : decode cL_law 1276 = .ok (.invokevirtual 166, 3) := by decide +kernel
theorem dL_law_1279 : decode cL_law 1279 = .ok (.if_icmp .eq 342, 3) := by decide +kernel
theorem dL_law_1282 : decode cL_law 1282 = .ok (.iconst 0, 1) := by decide +kernel
theorem dL_law_1283 : decode cL_law 1283 = .ok (.ireturn, 1) := by decide +kernel
theorem dL_law_1284 : decode cL_law 1284 = .ok (.aload_n 1, 1) := by decide +kernel
theorem dL_law_1285 : decode cL_law 1285 = .ok (.aload_n 0, 1) := by decide +kernel
theorem dL_law_1286 : decode cL_law 1286 = .ok (.iload 4, 2) := by decide +kernel
theorem dL_law_1288 : decode cL_law 1288 = .ok (.iconst 1, 1) := by decide +kernel
theorem dL_law_1289 : decode cL_law 1289 = .ok (.iadd, 1) := by decide +kernel
theorem dL_law_1290 : decode cL_law 1290 = .ok (.iaload, 1) := by decide +kernel
theorem dL_law_1291 : decode cL_law 1291 = .ok (.aload_n 0, 1) := by decide +kernel
theorem dL_law_1292 : decode cL_law 1292 = .ok (.iload 4, 2) := by decide +kernel
theorem dL_law_1294 : decode cL_law 1294 = .ok (.iconst 2, 1) := by decide +kernel
theorem dL_law_1295 : decode cL_law 1295 = .ok (.iadd, 1) := by decide +kernel
theorem dL_law_1296 : decode cL_law 1296 = .ok (.iaload, 1) := by decide +kernel
theorem dL_law_1297 : decode cL_law 1297 = .ok (.aload_n 0, 1) := by decide +kernel
theorem dL_law_1298 : decode cL_law 1298 = .ok (.iload 4, 2) := by decide +kernel
theorem dL_law_1300 : decode cL_law 1300 = .ok (.iconst 3, 1) := by decide +kernel
theorem dL_law_1301 : decode cL_law 1301 = .ok (.iadd, 1) := by decide +kernel
theorem dL_law_1302 : decode cL_law 1302 = .ok (.iaload, 1) := by decide +kernel
theorem dL_law_1303 : decode cL_law 1303 = .ok (.invokevirtual 167, 3) := by decide +kernel
theorem dL_law_1306 : decode cL_law 1306 = .ok (.aload_n 2, 1) := by decide +kernel
theorem dL_law_1307 : decode cL_law 1307 = .ok (.aload_n 0, 1) := by decide +kernel
theorem dL_law_1308 : decode cL_law 1308 = .ok (.iload 4, 2) := by decide +kernel
theorem dL_law_1310 : decode cL_law 1310 = .ok (.iconst 1, 1) := by decide +kernel
theorem dL_law_1311 : decode cL_law 1311 = .ok (.iadd, 1) := by decide +kernel
theorem dL_law_1312 : decode cL_law 1312 = .ok (.iaload, 1) := by decide +kernel
theorem dL_law_1313 : decode cL_law 1313 = .ok (.aload_n 0, 1) := by decide +kernel
theorem dL_law_1314 : decode cL_law 1314 = .ok (.iload 4, 2) := by decide +kernel
theorem dL_law_1316 : decode cL_law 1316 = .ok (.iconst 2, 1) := by decide +kernel
theorem dL_law_1317 : decode cL_law 1317 = .ok (.iadd, 1) := by decide +kernel
theorem dL_law_1318 : decode cL_law 1318 = .ok (.iaload, 1) := by decide +kernel
theorem dL_law_1319 : decode cL_law 1319 = .ok (.aload_n 0, 1) := by decide +kernel
theorem dL_law_1320 : decode cL_law 1320 = .ok (.iload 4, 2) := by decide +kernel
theorem dL_law_1322 : decode cL_law 1322 = .ok (.iconst 3, 1) := by decide +kernel
theorem dL_law_1323 : decode cL_law 1323 = .ok (.iadd, 1) := by decide +kernel
theorem dL_law_1324 : decode cL_law 1324 = .ok (.iaload, 1) := by decide +kernel
theorem dL_law_1325 : decode cL_law 1325 = .ok (.invokevirtual 170, 3) := by decide +kernel
theorem dL_law_1328 : decode cL_law 1328 = .ok (.if_icmp .eq 293, 3) := by decide +kernel
theorem dL_law_1331 : decode cL_law 1331 = .ok (.iconst 0, 1) := by decide +kernel
theorem dL_law_1332 : decode cL_law 1332 = .ok (.ireturn, 1) := by decide +kernel
theorem dL_law_1333 : decode cL_law 1333 = .ok (.aload_n 1, 1) := by decide +kernel
theorem dL_law_1334 : decode cL_law 1334 = .ok (.aload_n 0, 1) := by decide +kernel
theorem dL_law_1335 : decode cL_law 1335 = .ok (.iload 4, 2) := by decide +kernel
theorem dL_law_1337 : decode cL_law 1337 = .ok (.iconst 1, 1) := by decide +kernel
theorem dL_law_1338 : decode cL_law 1338 = .ok (.iadd, 1) := by decide +kernel
theorem dL_law_1339 : decode cL_law 1339 = .ok (.iaload, 1) := by decide +kernel
theorem dL_law_1340 : decode cL_law 1340 = .ok (.aload_n 0, 1) := by decide +kernel
theorem dL_law_1341 : decode cL_law 1341 = .ok (.iload 4, 2) := by decide +kernel
theorem dL_law_1343 : decode cL_law 1343 = .ok (.iconst 2, 1) := by decide +kernel
theorem dL_law_1344 : decode cL_law 1344 = .ok (.iadd, 1) := by decide +kernel
theorem dL_law_1345 : decode cL_law 1345 = .ok (.iaload, 1) := by decide +kernel
theorem dL_law_1346 : decode cL_law 1346 = .ok (.aload_n 0, 1) := by decide +kernel
theorem dL_law_1347 : decode cL_law 1347 = .ok (.iload 4, 2) := by decide +kernel
theorem dL_law_1349 : decode cL_law 1349 = .ok (.iconst 3, 1) := by decide +kernel
theorem dL_law_1350 : decode cL_law 1350 = .ok (.iadd, 1) := by decide +kernel
theorem dL_law_1351 : decode cL_law 1351 = .ok (.iaload, 1) := by decide +kernel
theorem dL_law_1352 : decode cL_law 1352 = .ok (.invokevirtual 171, 3) := by decide +kernel
theorem dL_law_1355 : decode cL_law 1355 = .ok (.aload_n 2, 1) := by decide +kernel
theorem dL_law_1356 : decode cL_law 1356 = .ok (.aload_n 0, 1) := by decide +kernel
theorem dL_law_1357 : decode cL_law 1357 = .ok (.iload 4, 2) := by decide +kernel
theorem dL_law_1359 : decode cL_law 1359 = .ok (.iconst 1, 1) := by decide +kernel
theorem dL_law_1360 : decode cL_law 1360 = .ok (.iadd, 1) := by decide +kernel
theorem dL_law_1361 : decode cL_law 1361 = .ok (.iaload, 1) := by decide +kernel
theorem dL_law_1362 : decode cL_law 1362 = .ok (.aload_n 0, 1) := by decide +kernel
theorem dL_law_1363 : decode cL_law 1363 = .ok (.iload 4, 2) := by decide +kernel
theorem dL_law_1365 : decode cL_law 1365 = .ok (.iconst 2, 1) := by decide +kernel
theorem dL_law_1366 : decode cL_law 1366 = .ok (.iadd, 1) := by decide +kernel
theorem dL_law_1367 : decode cL_law 1367 = .ok (.iaload, 1) := by decide +kernel
theorem dL_law_1368 : decode cL_law 1368 = .ok (.aload_n 0, 1) := by decide +kernel
theorem dL_law_1369 : decode cL_law 1369 = .ok (.iload 4, 2) := by decide +kernel
theorem dL_law_1371 : decode cL_law 1371 = .ok (.iconst 3, 1) := by decide +kernel
theorem dL_law_1372 : decode cL_law 1372 = .ok (.iadd, 1) := by decide +kernel
theorem dL_law_1373 : decode cL_law 1373 = .ok (.iaload, 1) := by decide +kernel
theorem dL_law_1374 : decode cL_law 1374 = .ok (.invokevirtual 174, 3) := by decide +kernel
theorem dL_law_1377 : decode cL_law 1377 = .ok (.if_icmp .eq 244, 3) := by decide +kernel
theorem dL_law_1380 : decode cL_law 1380 = .ok (.iconst 0, 1) := by decide +kernel
theorem dL_law_1381 : decode cL_law 1381 = .ok (.ireturn, 1) := by decide +kernel
theorem dL_law_1382 : decode cL_law 1382 = .ok (.aload_n 1, 1) := by decide +kernel
theorem dL_law_1383 : decode cL_law 1383 = .ok (.aload_n 0, 1) := by decide +kernel
theorem dL_law_1384 : decode cL_law 1384 = .ok (.iload 4, 2) := by decide +kernel
theorem dL_law_1386 : decode cL_law 1386 = .ok (.iconst 1, 1) := by decide +kernel
theorem dL_law_1387 : decode cL_law 1387 = .ok (.iadd, 1) := by decide +kernel
theorem dL_law_1388 : decode cL_law 1388 = .ok (.iaload, 1) := by decide +kernel
theorem dL_law_1389 : decode cL_law 1389 = .ok (.aload_n 0, 1) := by decide +kernel
theorem dL_law_1390 : decode cL_law 1390 = .ok (.iload 4, 2) := by decide +kernel
theorem dL_law_1392 : decode cL_law 1392 = .ok (.iconst 2, 1) := by decide +kernel
theorem dL_law_1393 : decode cL_law 1393 = .ok (.iadd, 1) := by decide +kernel
theorem dL_law_1394 : decode cL_law 1394 = .ok (.iaload, 1) := by decide +kernel
theorem dL_law_1395 : decode cL_law 1395 = .ok (.aload_n 0, 1) := by decide +kernel
theorem dL_law_1396 : decode cL_law 1396 = .ok (.iload 4, 2) := by decide +kernel
theorem dL_law_1398 : decode cL_law 1398 = .ok (.iconst 3, 1) := by decide +kernel
theorem dL_law_1399 : decode cL_law 1399 = .ok (.iadd, 1) := by decide +kernel
theorem dL_law_1400 : decode cL_law 1400 = .ok (.iaload, 1) := by decide +kernel
theorem dL_law_1401 : decode cL_law 1401 = .ok (.invokevirtual 175, 3) := by decide +kernel
theorem dL_law_1404 : decode cL_law 1404 = .ok (.aload_n 2, 1) := by decide +kernel
theorem dL_law_1405 : decode cL_law 1405 = .ok (.aload_n 0, 1) := by decide +kernel
theorem dL_law_1406 : decode cL_law 1406 = .ok (.iload 4, 2) := by decide +kernel
theorem dL_law_1408 : decode cL_law 1408 = .ok (.iconst 1, 1) := by decide +kernel
theorem dL_law_1409 : decode cL_law 1409 = .ok (.iadd, 1) := by decide +kernel
theorem dL_law_1410 : decode cL_law 1410 = .ok (.iaload, 1) := by decide +kernel
theorem dL_law_1411 : decode cL_law 1411 = .ok (.aload_n 0, 1) := by decide +kernel
theorem dL_law_1412 : decode cL_law 1412 = .ok (.iload 4, 2) := by decide +kernel
theorem dL_law_1414 : decode cL_law 1414 = .ok (.iconst 2, 1) := by decide +kernel
theorem dL_law_1415 : decode cL_law 1415 = .ok (.iadd, 1) := by decide +kernel
theorem dL_law_1416 : decode cL_law 1416 = .ok (.iaload, 1) := by decide +kernel
theorem dL_law_1417 : decode cL_law 1417 = .ok (.aload_n 0, 1) := by decide +kernel
theorem dL_law_1418 : decode cL_law 1418 = .ok (.iload 4, 2) := by decide +kernel
theorem dL_law_1420 : decode cL_law 1420 = .ok (.iconst 3, 1) := by decide +kernel
theorem dL_law_1421 : decode cL_law 1421 = .ok (.iadd, 1) := by decide +kernel
theorem dL_law_1422 : decode cL_law 1422 = .ok (.iaload, 1) := by decide +kernel
theorem dL_law_1423 : decode cL_law 1423 = .ok (.invokevirtual 178, 3) := by decide +kernel
theorem dL_law_1426 : decode cL_law 1426 = .ok (.if_icmp .eq 195, 3) := by decide +kernel
theorem dL_law_1429 : decode cL_law 1429 = .ok (.iconst 0, 1) := by decide +kernel
theorem dL_law_1430 : decode cL_law 1430 = .ok (.ireturn, 1) := by decide +kernel
theorem dL_law_1431 : decode cL_law 1431 = .ok (.aload_n 1, 1) := by decide +kernel
theorem dL_law_1432 : decode cL_law 1432 = .ok (.aload_n 0, 1) := by decide +kernel
theorem dL_law_1433 : decode cL_law 1433 = .ok (.iload 4, 2) := by decide +kernel
theorem dL_law_1435 : decode cL_law 1435 = .ok (.iconst 1, 1) := by decide +kernel
theorem dL_law_1436 : decode cL_law 1436 = .ok (.iadd, 1) := by decide +kernel
theorem dL_law_1437 : decode cL_law 1437 = .ok (.iaload, 1) := by decide +kernel
theorem dL_law_1438 : decode cL_law 1438 = .ok (.aload_n 0, 1) := by decide +kernel
theorem dL_law_1439 : decode cL_law 1439 = .ok (.iload 4, 2) := by decide +kernel
theorem dL_law_1441 : decode cL_law 1441 = .ok (.iconst 2, 1) := by decide +kernel
theorem dL_law_1442 : decode cL_law 1442 = .ok (.iadd, 1) := by decide +kernel
theorem dL_law_1443 : decode cL_law 1443 = .ok (.iaload, 1) := by decide +kernel
theorem dL_law_1444 : decode cL_law 1444 = .ok (.aload_n 3, 1) := by decide +kernel
theorem dL_law_1445 : decode cL_law 1445 = .ok (.invokestatic 179, 3) := by decide +kernel
theorem dL_law_1448 : decode cL_law 1448 = .ok (.istore 5, 2) := by decide +kernel
theorem dL_law_1450 : decode cL_law 1450 = .ok (.aload_n 2, 1) := by decide +kernel
theorem dL_law_1451 : decode cL_law 1451 = .ok (.aload_n 0, 1) := by decide +kernel
theorem dL_law_1452 : decode cL_law 1452 = .ok (.iload 4, 2) := by decide +kernel
theorem dL_law_1454 : decode cL_law 1454 = .ok (.iconst 1, 1) := by decide +kernel
theorem dL_law_1455 : decode cL_law 1455 = .ok (.iadd, 1) := by decide +kernel
theorem dL_law_1456 : decode cL_law 1456 = .ok (.iaload, 1) := by decide +kernel
theorem dL_law_1457 : decode cL_law 1457 = .ok (.aload_n 0, 1) := by decide +kernel
theorem dL_law_1458 : decode cL_law 1458 = .ok (.iload 4, 2) := by decide +kernel
theorem dL_law_1460 : decode cL_law 1460 = .ok (.iconst 2, 1) := by decide +kernel
theorem dL_law_1461 : decode cL_law 1461 = .ok (.iadd, 1) := by decide +kernel
theorem dL_law_1462 : decode cL_law 1462 = .ok (.iaload, 1) := by decide +kernel
theorem dL_law_1463 : decode cL_law 1463 = .ok (.invokevirtual 184, 3) := by decide +kernel
theorem dL_law_1466 : decode cL_law 1466 = .ok (.lstore 6, 2) := by decide +kernel
theorem dL_law_1468 : decode cL_law 1468 = .ok (.aload_n 2, 1) := by decide +kernel
theorem dL_law_1469 : decode cL_law 1469 = .ok (.invokevirtual 185, 3) := by decide +kernel
theorem dL_law_1472 : decode cL_law 1472 = .ok (.iload 5, 2) := by decide +kernel
theorem dL_law_1474 : decode cL_law 1474 = .ok (.if_icmp .eq 5, 3) := by decide +kernel
theorem dL_law_1477 : decode cL_law 1477 = .ok (.iconst 0, 1) := by decide +kernel
theorem dL_law_1478 : decode cL_law 1478 = .ok (.ireturn, 1) := by decide +kernel
theorem dL_law_1479 : decode cL_law 1479 = .ok (.iload 5, 2) := by decide +kernel
theorem dL_law_1481 : decode cL_law 1481 = .ok (.ifCond .ne 14, 3) := by decide +kernel
theorem dL_law_1484 : decode cL_law 1484 = .ok (.aload_n 3, 1) := by decide +kernel
theorem dL_law_1485 : decode cL_law 1485 = .ok (.iconst 0, 1) := by decide +kernel
theorem dL_law_1486 : decode cL_law 1486 = .ok (.laload, 1) := by decide +kernel
theorem dL_law_1487 : decode cL_law 1487 = .ok (.lload 6, 2) := by decide +kernel
theorem dL_law_1489 : decode cL_law 1489 = .ok (.lcmp, 1) := by decide +kernel
theorem dL_law_1490 : decode cL_law 1490 = .ok (.ifCond .eq 5, 3) := by decide +kernel
theorem dL_law_1493 : decode cL_law 1493 = .ok (.iconst 0, 1) := by decide +kernel
theorem dL_law_1494 : decode cL_law 1494 = .ok (.ireturn, 1) := by decide +kernel
theorem dL_law_1495 : decode cL_law 1495 = .ok (.goto 126, 3) := by decide +kernel
theorem dL_law_1498 : decode cL_law 1498 = .ok (.aload_n 1, 1) := by decide +kernel
theorem dL_law_1499 : decode cL_law 1499 = .ok (.aload_n 0, 1) := by decide +kernel
theorem dL_law_1500 : decode cL_law 1500 = .ok (.iload 4, 2) := by decide +kernel
theorem dL_law_1502 : decode cL_law 1502 = .ok (.iconst 1, 1) := by decide +kernel
theorem dL_law_1503 : decode cL_law 1503 = .ok (.iadd, 1) := by decide +kernel
theorem dL_law_1504 : decode cL_law 1504 = .ok (.iaload, 1) := by decide +kernel
theorem dL_law_1505 : decode cL_law 1505 = .ok (.aload_n 0, 1) := by decide +kernel
theorem dL_law_1506 : decode cL_law 1506 = .ok (.iload 4, 2) := by decide +kernel
theorem dL_law_1508 : decode cL_law 1508 = .ok (.iconst 2, 1) := by decide +kernel
theorem dL_law_1509 : decode cL_law 1509 = .ok (.iadd, 1) := by decide +kernel
theorem dL_law_1510 : decode cL_law 1510 = .ok (.iaload, 1) := by decide +kernel
theorem dL_law_1511 : decode cL_law 1511 = .ok (.aload_n 0, 1) := by decide +kernel
theorem dL_law_1512 : decode cL_law 1512 = .ok (.iload 4, 2) := by decide +kernel
theorem dL_law_1514 : decode cL_law 1514 = .ok (.iconst 3, 1) := by decide +kernel
theorem dL_law_1515 : decode cL_law 1515 = .ok (.iadd, 1) := by decide +kernel
theorem dL_law_1516 : decode cL_law 1516 = .ok (.iaload, 1) := by decide +kernel
theorem dL_law_1517 : decode cL_law 1517 = .ok (.aload_n 0, 1) := by decide +kernel
theorem dL_law_1518 : decode cL_law 1518 = .ok (.iload 4, 2) := by decide +kernel
theorem dL_law_1520 : decode cL_law 1520 = .ok (.iconst 4, 1) := by decide +kernel
theorem dL_law_1521 : decode cL_law 1521 = .ok (.iadd, 1) := by decide +kernel
theorem dL_law_1522 : decode cL_law 1522 = .ok (.iaload, 1) := by decide +kernel
theorem dL_law_1523 : decode cL_law 1523 = .ok (.aload_n 0, 1) := by decide +kernel
theorem dL_law_1524 : decode cL_law 1524 = .ok (.iload 4, 2) := by decide +kernel
theorem dL_law_1526 : decode cL_law 1526 = .ok (.iconst 5, 1) := by decide +kernel
theorem dL_law_1527 : decode cL_law 1527 = .ok (.iadd, 1) := by decide +kernel
theorem dL_law_1528 : decode cL_law 1528 = .ok (.iaload, 1) := by decide +kernel
theorem dL_law_1529 : decode cL_law 1529 = .ok (.invokevirtual 188, 3) := by decide +kernel
theorem dL_law_1532 : decode cL_law 1532 = .ok (.aload_n 2, 1) := by decide +kernel
theorem dL_law_1533 : decode cL_law 1533 = .ok (.aload_n 0, 1) := by decide +kernel
theorem dL_law_1534 : decode cL_law 1534 = .ok (.iload 4, 2) := by decide +kernel
theorem dL_law_1536 : decode cL_law 1536 = .ok (.iconst 1, 1) := by decide +kernel
theorem dL_law_1537 : decode cL_law 1537 = .ok (.iadd, 1) := by decide +kernel
theorem dL_law_1538 : decode cL_law 1538 = .ok (.iaload, 1) := by decide +kernel
theorem dL_law_1539 : decode cL_law 1539 = .ok (.aload_n 0, 1) := by decide +kernel
theorem dL_law_1540 : decode cL_law 1540 = .ok (.iload 4, 2) := by decide +kernel
theorem dL_law_1542 : decode cL_law 1542 = .ok (.iconst 2, 1) := by decide +kernel
theorem dL_law_1543 : decode cL_law 1543 = .ok (.iadd, 1) := by decide +kernel
theorem dL_law_1544 : decode cL_law 1544 = .ok (.iaload, 1) := by decide +kernel
theorem dL_law_1545 : decode cL_law 1545 = .ok (.aload_n 0, 1) := by decide +kernel
theorem dL_law_1546 : decode cL_law 1546 = .ok (.iload 4, 2) := by decide +kernel
theorem dL_law_1548 : decode cL_law 1548 = .ok (.iconst 3, 1) := by decide +kernel
theorem dL_law_1549 : decode cL_law 1549 = .ok (.iadd, 1) := by decide +kernel
theorem dL_law_1550 : decode cL_law 1550 = .ok (.iaload, 1) := by decide +kernel
theorem dL_law_1551 : decode cL_law 1551 = .ok (.aload_n 0, 1) := by decide +kernel
theorem dL_law_1552 : decode cL_law 1552 = .ok (.iload 4, 2) := by decide +kernel
theorem dL_law_1554 : decode cL_law 1554 = .ok (.iconst 4, 1) := by decide +kernel
theorem dL_law_1555 : decode cL_law 1555 = .ok (.iadd, 1) := by decide +kernel
theorem dL_law_1556 : decode cL_law 1556 = .ok (.iaload, 1) := by decide +kernel
theorem dL_law_1557 : decode cL_law 1557 = .ok (.aload_n 0, 1) := by decide +kernel
theorem dL_law_1558 : decode cL_law 1558 = .ok (.iload 4, 2) := by decide +kernel
theorem dL_law_1560 : decode cL_law 1560 = .ok (.iconst 5, 1) := by decide +kernel
theorem dL_law_1561 : decode cL_law 1561 = .ok (.iadd, 1) := by decide +kernel
theorem dL_law_1562 : decode cL_law 1562 = .ok (.iaload, 1) := by decide +kernel
theorem dL_law_1563 : decode cL_law 1563 = .ok (.invokevirtual 192, 3) := by decide +kernel
theorem dL_law_1566 : decode cL_law 1566 = .ok (.if_icmp .eq 55, 3) := by decide +kernel
theorem dL_law_1569 : decode cL_law 1569 = .ok (.iconst 0, 1) := by decide +kernel
theorem dL_law_1570 : decode cL_law 1570 = .ok (.ireturn, 1) := by decide +kernel
theorem dL_law_1571 : decode cL_law 1571 = .ok (.aload_n 1, 1) := by decide +kernel
theorem dL_law_1572 : decode cL_law 1572 = .ok (.aload_n 0, 1) := by decide +kernel
theorem dL_law_1573 : decode cL_law 1573 = .ok (.iload 4, 2) := by decide +kernel
theorem dL_law_1575 : decode cL_law 1575 = .ok (.iconst 1, 1) := by decide +kernel
theorem dL_law_1576 : decode cL_law 1576 = .ok (.iadd, 1) := by decide +kernel
theorem dL_law_1577 : decode cL_law 1577 = .ok (.iaload, 1) := by decide +kernel
theorem dL_law_1578 : decode cL_law 1578 = .ok (.invokevirtual 193, 3) := by decide +kernel
theorem dL_law_1581 : decode cL_law 1581 = .ok (.aload_n 2, 1) := by decide +kernel
theorem dL_law_1582 : decode cL_law 1582 = .ok (.aload_n 0, 1) := by decide +kernel
theorem dL_law_1583 : decode cL_law 1583 = .ok (.iload 4, 2) := by decide +kernel
theorem dL_law_1585 : decode cL_law 1585 = .ok (.iconst 1, 1) := by decide +kernel
theorem dL_law_1586 : decode cL_law 1586 = .ok (.iadd, 1) := by decide +kernel
theorem dL_law_1587 : decode cL_law 1587 = .ok (.iaload, 1) := by decide +kernel
theorem dL_law_1588 : decode cL_law 1588 = .ok (.invokevirtual 196, 3) := by decide +kernel
theorem dL_law_1591 : decode cL_law 1591 = .ok (.if_icmp .eq 30, 3) := by decide +kernel
theorem dL_law_1594 : decode cL_law 1594 = .ok (.iconst 0, 1) := by decide +kernel
theorem dL_law_1595 : decode cL_law 1595 = .ok (.ireturn, 1) := by decide +kernel
theorem dL_law_1596 : decode cL_law 1596 = .ok (.aload_n 1, 1) := by decide +kernel
theorem dL_law_1597 : decode cL_law 1597 = .ok (.aload_n 0, 1) := by decide +kernel
theorem dL_law_1598 : decode cL_law 1598 = .ok (.iload 4, 2) := by decide +kernel
theorem dL_law_1600 : decode cL_law 1600 = .ok (.iconst 1, 1) := by decide +kernel
theorem dL_law_1601 : decode cL_law 1601 = .ok (.iadd, 1) := by decide +kernel
theorem dL_law_1602 : decode cL_law 1602 = .ok (.iaload, 1) := by decide +kernel
theorem dL_law_1603 : decode cL_law 1603 = .ok (.invokevirtual 197, 3) := by decide +kernel
theorem dL_law_1606 : decode cL_law 1606 = .ok (.aload_n 2, 1) := by decide +kernel
theorem dL_law_1607 : decode cL_law 1607 = .ok (.aload_n 0, 1) := by decide +kernel
theorem dL_law_1608 : decode cL_law 1608 = .ok (.iload 4, 2) := by decide +kernel
theorem dL_law_1610 : decode cL_law 1610 = .ok (.iconst 1, 1) := by decide +kernel
theorem dL_law_1611 : decode cL_law 1611 = .ok (.iadd, 1) := by decide +kernel
theorem dL_law_1612 : decode cL_law 1612 = .ok (.iaload, 1) := by decide +kernel
theorem dL_law_1613 : decode cL_law 1613 = .ok (.invokevirtual 200, 3) := by decide +kernel
theorem dL_law_1616 : decode cL_law 1616 = .ok (.if_icmp .eq 5, 3) := by decide +kernel
theorem dL_law_1619 : decode cL_law 1619 = .ok (.iconst 0, 1) := by decide +kernel
theorem dL_law_1620 : decode cL_law 1620 = .ok (.ireturn, 1) := by decide +kernel
theorem dL_law_1621 : decode cL_law 1621 = .ok (.iinc 4 6, 3) := by decide +kernel
theorem dL_law_1624 : decode cL_law 1624 = .ok (.goto (-1601), 3) := by decide +kernel
theorem dL_law_1627 : decode cL_law 1627 = .ok (.iconst 1, 1) := by decide +kernel
theorem dL_law_1628 : decode cL_law 1628 = .ok (.ireturn, 1) := by decide +kernel
def B_L_law_1621 (rc_23 : Int32 → Mem → Option Int32) (x4 : Int32) (M : Mem) : Option Int32 := rc_23 (x4 + 6) M
set_option maxRecDepth 100000 in
set_option maxHeartbeats 8000000 in
theorem b_L_law_1621 (Z : Sys) (X : Cx) (b n : Nat) (hR : xR X = room_1) {q : Int32} (rc_23 : Int32 → Mem → Option Int32) (hrc_23 : ∀ (cs sl : Nat) (x4 : Int32) (M : Mem), St M → rc_23 x4 M = some q → cs + n ≤ 601024 ∧ sl + 6 * n ≤ 7293034 → G Z X Y_L_law False cs sl 23 [(0, .ref b), (1, .ref (zs Z + 0)), (2, .ref (zs Z + 284)), (3, .ref (zs Z + 300)), (4, .int x4)] [] M) (cs sl : Nat) (x4 : Int32) {M : Mem} (hs : St M) (hf : B_L_law_1621 rc_23 x4 M = some q) (hb : cs + n ≤ 601024 ∧ sl + 6 * n ≤ 7293034) : G Z X Y_L_law False cs sl 1621 [(0, .ref b), (1, .ref (zs Z + 0)), (2, .ref (zs Z + 284)), (3, .ref (zs Z + 300)), (4, .int x4)] [] M := by
  unfold B_L_law_1621 at hf
  refine G.iinc 1621 4 (x4 + 6) [(4, .int (x4 + 6)), (0, .ref b), (1, .ref (zs Z + 0)), (2, .ref (zs Z + 284)), (3, .ref (zs Z + 300))] dL_law_1621 rfl (congrArg (fun z => x4 + z) (by decide +kernel)) (Nat.le_of_ble_eq_true rfl) rfl ?_
  refine G.goto 1624 23 dL_law_1624 (by decide) ?_
  refine G.locs [1, 2, 3, 4, 0] rfl ?_
  exact hrc_23 _ _ (x4 + 6) M hs hf (by (try simp only [rm_X8_toss, rm_L_element]); omega)
def f_L_law_c0 (sc : Nat → Int32) (len : Nat) (k : Int32 → Mem → Option Int32) (x4 : Int32) (M : Mem) : Option Int32 := gd (inR (x4 + (1 : Int32)) len) (gd (inR (x4 + (2 : Int32)) len) (gd (inR (x4 + (3 : Int32)) len) ((f_X8_hall (sc (x4 + (1 : Int32)).toNatClampNeg) (sc (x4 + (2 : Int32)).toNatClampNeg) (sc (x4 + (3 : Int32)).toNatClampNeg) M).bind fun q49 => (f_X9_hall (sc (x4 + (1 : Int32)).toNatClampNeg) (sc (x4 + (2 : Int32)).toNatClampNeg) (sc (x4 + (3 : Int32)).toNatClampNeg) q49.2).bind fun q52 => if q49.1 = q52.1 then k x4 q52.2 else some (0 : Int32))))
set_option maxRecDepth 100000 in
set_option maxHeartbeats 8000000 in
theorem c_L_law_c0 (Z : Sys) (X : Cx) (b n : Nat) (hR : xR X = room_1) {sc : Nat → Int32} {len : Nat} (hX : va_X b len sc (xs X) (xs X).heap) (hbl : b < (xs X).heap.size) (hbZ : b < zs Z) {q : Int32} (hend : ∀ (pc cs sl : Nat) (loc : List (Nat × Value)) (M : Mem), cs ≤ 601024 → sl ≤ 7293034 → decode Y_L_law.1 pc = .ok (.ireturn, 1) → G Z X Y_L_law False cs sl pc loc [.int q] M) (k : Int32 → Mem → Option Int32) (hk : ∀ (cs sl : Nat) (x4 : Int32) (M : Mem), St M → k x4 M = some q → cs + n ≤ 601024 ∧ sl + 6 * n ≤ 7293034 → G Z X Y_L_law False cs sl 1621 [(0, .ref b), (1, .ref (zs Z + 0)), (2, .ref (zs Z + 284)), (3, .ref (zs Z + 300)), (4, .int x4)] [] M) (cs sl : Nat) (x4 : Int32) (M : Mem) (hs : St M) (hf : f_L_law_c0 sc len k x4 M = some q) (hb : cs + (n + 1) ≤ 601024 ∧ sl + 6 * (n + 1) ≤ 7293034) : G Z X Y_L_law False cs sl 224 [(0, .ref b), (1, .ref (zs Z + 0)), (2, .ref (zs Z + 284)), (3, .ref (zs Z + 300)), (4, .int x4)] [] M := by
  unfold f_L_law_c0 at hf
  refine G.aload_n 224 1 dL_law_224 rfl rfl ?_
  refine G.aload_n 225 0 dL_law_225 rfl rfl ?_
  refine G.iload 226 4 dL_law_226 rfl ?_
  refine G.iconst 228 (1 : Int32) dL_law_228 (by decide +kernel) ?_
  refine G.iadd 229 dL_law_229 ?_
  obtain ⟨g45, hf⟩ := gd_e hf
  refine G.sld 230 (x4 + (1 : Int32)).toNatClampNeg hX hbl hbZ g45 rfl dL_law_230 ?_
  refine G.aload_n 231 0 dL_law_231 rfl rfl ?_
  refine G.iload 232 4 dL_law_232 rfl ?_
  refine G.iconst 234 (2 : Int32) dL_law_234 (by decide +kernel) ?_
  refine G.iadd 235 dL_law_235 ?_
  obtain ⟨g46, hf⟩ := gd_e hf
  refine G.sld 236 (x4 + (2 : Int32)).toNatClampNeg hX hbl hbZ g46 rfl dL_law_236 ?_
  refine G.aload_n 237 0 dL_law_237 rfl rfl ?_
  refine G.iload 238 4 dL_law_238 rfl ?_
  refine G.iconst 240 (3 : Int32) dL_law_240 (by decide +kernel) ?_
  refine G.iadd 241 dL_law_241 ?_
  obtain ⟨g47, hf⟩ := gd_e hf
  refine G.sld 242 (x4 + (3 : Int32)).toNatClampNeg hX hbl hbZ g47 rfl dL_law_242 ?_
  obtain ⟨q49, e50, hf⟩ := bd_e hf
  refine G.cvI 243 (As := [.int (sc (x4 + (1 : Int32)).toNatClampNeg), .int (sc (x4 + (2 : Int32)).toNatClampNeg), .int (sc (x4 + (3 : Int32)).toNatClampNeg)]) ck_8 (hs.k k0_0) (c_X8_hall Z hs (sc (x4 + (1 : Int32)).toNatClampNeg) (sc (x4 + (2 : Int32)).toNatClampNeg) (sc (x4 + (3 : Int32)).toNatClampNeg) e50) mk_X8_hall vk_X8_hall rfl wd_425 hR ⟨Nat.le_of_ble_eq_true rfl, Nat.le_of_ble_eq_true rfl, by simp only [rm_L_element, rm_X8_hall, rm_X8_toss, room_1]; omega, by simp only [rm_L_element, rm_X8_hall, rm_X8_toss, room_1]; omega⟩ ⟨rfl, rfl⟩ rfl (Nat.le_of_ble_eq_true rfl) dL_law_243 (fun hs48 => ?_)
  refine G.aload_n 246 2 dL_law_246 rfl rfl ?_
  refine G.aload_n 247 0 dL_law_247 rfl rfl ?_
  refine G.iload 248 4 dL_law_248 rfl ?_
  refine G.iconst 250 (1 : Int32) dL_law_250 (by decide +kernel) ?_
  refine G.iadd 251 dL_law_251 ?_
  refine G.sld 252 (x4 + (1 : Int32)).toNatClampNeg hX hbl hbZ g45 rfl dL_law_252 ?_
  refine G.aload_n 253 0 dL_law_253 rfl rfl ?_
  refine G.iload 254 4 dL_law_254 rfl ?_
  refine G.iconst 256 (2 : Int32) dL_law_256 (by decide +kernel) ?_
  refine G.iadd 257 dL_law_257 ?_
  refine G.sld 258 (x4 + (2 : Int32)).toNatClampNeg hX hbl hbZ g46 rfl dL_law_258 ?_
  refine G.aload_n 259 0 dL_law_259 rfl rfl ?_
  refine G.iload 260 4 dL_law_260 rfl ?_
  refine G.iconst 262 (3 : Int32) dL_law_262 (by decide +kernel) ?_
  refine G.iadd 263 dL_law_263 ?_
  refine G.sld 264 (x4 + (3 : Int32)).toNatClampNeg hX hbl hbZ g47 rfl dL_law_264 ?_
  obtain ⟨q52, e53, hf⟩ := bd_e hf
  refine G.cvI 265 (As := [.int (sc (x4 + (1 : Int32)).toNatClampNeg), .int (sc (x4 + (2 : Int32)).toNatClampNeg), .int (sc (x4 + (3 : Int32)).toNatClampNeg)]) ck_9 (hs48.k k0_284) (c_X9_hall Z hs48 (sc (x4 + (1 : Int32)).toNatClampNeg) (sc (x4 + (2 : Int32)).toNatClampNeg) (sc (x4 + (3 : Int32)).toNatClampNeg) e53) mk_X9_hall vk_X9_hall rfl wd_1394 hR ⟨Nat.le_of_ble_eq_true rfl, Nat.le_of_ble_eq_true rfl, by simp only [rm_L_element, rm_X8_toss, rm_X9_hall, room_1]; omega, by simp only [rm_L_element, rm_X8_toss, rm_X9_hall, room_1]; omega⟩ ⟨rfl, rfl⟩ rfl (Nat.le_of_ble_eq_true rfl) dL_law_265 (fun hs51 => ?_)
  refine G.icmp_eq 268 1621 dL_law_268 (by decide) (fun h54 => ?_) (fun h54 => ?_)
  · replace hf := (if_pos h54).symm.trans hf
    exact hk _ _ x4 q52.2 hs51 hf (by (try simp only [rm_X8_toss, rm_L_element]); omega)
  · replace hf := (if_neg h54).symm.trans hf
    refine G.iconst 271 (0 : Int32) dL_law_271 (by decide +kernel) ?_
    have hf9 := Option.some.inj hf; subst hf9
    exact hend 272 _ _ _ _ (by (try simp only [rm_X8_toss, rm_L_element]); omega) (by (try simp only [rm_X8_toss, rm_L_element]); omega) dL_law_272
def f_L_law_c1 (sc : Nat → Int32) (len : Nat) (k : Int32 → Mem → Option Int32) (x4 : Int32) (M : Mem) : Option Int32 := gd (inR (x4 + (1 : Int32)) len) (gd (inR (x4 + (2 : Int32)) len) (gd (inR (x4 + (3 : Int32)) len) ((f_X8_truly (sc (x4 + (1 : Int32)).toNatClampNeg) (sc (x4 + (2 : Int32)).toNatClampNeg) (sc (x4 + (3 : Int32)).toNatClampNeg) M).bind fun q59 => (f_X9_truly (sc (x4 + (1 : Int32)).toNatClampNeg) (sc (x4 + (2 : Int32)).toNatClampNeg) (sc (x4 + (3 : Int32)).toNatClampNeg) q59.2).bind fun q62 => if q59.1 = q62.1 then k x4 q62.2 else some (0 : Int32))))
set_option maxRecDepth 100000 in
set_option maxHeartbeats 8000000 in
theorem c_L_law_c1 (Z : Sys) (X : Cx) (b n : Nat) (hR : xR X = room_1) {sc : Nat → Int32} {len : Nat} (hX : va_X b len sc (xs X) (xs X).heap) (hbl : b < (xs X).heap.size) (hbZ : b < zs Z) {q : Int32} (hend : ∀ (pc cs sl : Nat) (loc : List (Nat × Value)) (M : Mem), cs ≤ 601024 → sl ≤ 7293034 → decode Y_L_law.1 pc = .ok (.ireturn, 1) → G Z X Y_L_law False cs sl pc loc [.int q] M) (k : Int32 → Mem → Option Int32) (hk : ∀ (cs sl : Nat) (x4 : Int32) (M : Mem), St M → k x4 M = some q → cs + n ≤ 601024 ∧ sl + 6 * n ≤ 7293034 → G Z X Y_L_law False cs sl 1621 [(0, .ref b), (1, .ref (zs Z + 0)), (2, .ref (zs Z + 284)), (3, .ref (zs Z + 300)), (4, .int x4)] [] M) (cs sl : Nat) (x4 : Int32) (M : Mem) (hs : St M) (hf : f_L_law_c1 sc len k x4 M = some q) (hb : cs + (n + 1) ≤ 601024 ∧ sl + 6 * (n + 1) ≤ 7293034) : G Z X Y_L_law False cs sl 273 [(0, .ref b), (1, .ref (zs Z + 0)), (2, .ref (zs Z + 284)), (3, .ref (zs Z + 300)), (4, .int x4)] [] M := by
  unfold f_L_law_c1 at hf
  refine G.aload_n 273 1 dL_law_273 rfl rfl ?_
  refine G.aload_n 274 0 dL_law_274 rfl rfl ?_
  refine G.iload 275 4 dL_law_275 rfl ?_
  refine G.iconst 277 (1 : Int32) dL_law_277 (by decide +kernel) ?_
  refine G.iadd 278 dL_law_278 ?_
  obtain ⟨g55, hf⟩ := gd_e hf
  refine G.sld 279 (x4 + (1 : Int32)).toNatClampNeg hX hbl hbZ g55 rfl dL_law_279 ?_
  refine G.aload_n 280 0 dL_law_280 rfl rfl ?_
  refine G.iload 281 4 dL_law_281 rfl ?_
  refine G.iconst 283 (2 : Int32) dL_law_283 (by decide +kernel) ?_
  refine G.iadd 284 dL_law_284 ?_
  obtain ⟨g56, hf⟩ := gd_e hf
  refine G.sld 285 (x4 + (2 : Int32)).toNatClampNeg hX hbl hbZ g56 rfl dL_law_285 ?_
  refine G.aload_n 286 0 dL_law_286 rfl rfl ?_
  refine G.iload 287 4 dL_law_287 rfl ?_
  refine G.iconst 289 (3 : Int32) dL_law_289 (by decide +kernel) ?_
  refine G.iadd 290 dL_law_290 ?_
  obtain ⟨g57, hf⟩ := gd_e hf
  refine G.sld 291 (x4 + (3 : Int32)).toNatClampNeg hX hbl hbZ g57 rfl dL_law_291 ?_
  obtain ⟨q59, e60, hf⟩ := bd_e hf
  refine G.cvI 292 (As := [.int (sc (x4 + (1 : Int32)).toNatClampNeg), .int (sc (x4 + (2 : Int32)).toNatClampNeg), .int (sc (x4 + (3 : Int32)).toNatClampNeg)]) ck_8 (hs.k k0_0) (c_X8_truly Z hs (sc (x4 + (1 : Int32)).toNatClampNeg) (sc (x4 + (2 : Int32)).toNatClampNeg) (sc (x4 + (3 : Int32)).toNatClampNeg) e60) mk_X8_truly vk_X8_truly rfl wd_440 hR ⟨Nat.le_of_ble_eq_true rfl, Nat.le_of_ble_eq_true rfl, by simp only [rm_L_element, rm_X8_toss, rm_X8_truly, room_1]; omega, by simp only [rm_L_element, rm_X8_toss, rm_X8_truly, room_1]; omega⟩ ⟨rfl, rfl⟩ rfl (Nat.le_of_ble_eq_true rfl) dL_law_292 (fun hs58 => ?_)
  refine G.aload_n 295 2 dL_law_295 rfl rfl ?_
  refine G.aload_n 296 0 dL_law_296 rfl rfl ?_
  refine G.iload 297 4 dL_law_297 rfl ?_
  refine G.iconst 299 (1 : Int32) dL_law_299 (by decide +kernel) ?_
  refine G.iadd 300 dL_law_300 ?_
  refine G.sld 301 (x4 + (1 : Int32)).toNatClampNeg hX hbl hbZ g55 rfl dL_law_301 ?_
  refine G.aload_n 302 0 dL_law_302 rfl rfl ?_
  refine G.iload 303 4 dL_law_303 rfl ?_
  refine G.iconst 305 (2 : Int32) dL_law_305 (by decide +kernel) ?_
  refine G.iadd 306 dL_law_306 ?_
  refine G.sld 307 (x4 + (2 : Int32)).toNatClampNeg hX hbl hbZ g56 rfl dL_law_307 ?_
  refine G.aload_n 308 0 dL_law_308 rfl rfl ?_
  refine G.iload 309 4 dL_law_309 rfl ?_
  refine G.iconst 311 (3 : Int32) dL_law_311 (by decide +kernel) ?_
  refine G.iadd 312 dL_law_312 ?_
  refine G.sld 313 (x4 + (3 : Int32)).toNatClampNeg hX hbl hbZ g57 rfl dL_law_313 ?_
  obtain ⟨q62, e63, hf⟩ := bd_e hf
  refine G.cvI 314 (As := [.int (sc (x4 + (1 : Int32)).toNatClampNeg), .int (sc (x4 + (2 : Int32)).toNatClampNeg), .int (sc (x4 + (3 : Int32)).toNatClampNeg)]) ck_9 (hs58.k k0_284) (c_X9_truly Z hs58 (sc (x4 + (1 : Int32)).toNatClampNeg) (sc (x4 + (2 : Int32)).toNatClampNeg) (sc (x4 + (3 : Int32)).toNatClampNeg) e63) mk_X9_truly vk_X9_truly rfl wd_1403 hR ⟨Nat.le_of_ble_eq_true rfl, Nat.le_of_ble_eq_true rfl, by simp only [rm_L_element, rm_X8_toss, rm_X9_truly, room_1]; omega, by simp only [rm_L_element, rm_X8_toss, rm_X9_truly, room_1]; omega⟩ ⟨rfl, rfl⟩ rfl (Nat.le_of_ble_eq_true rfl) dL_law_314 (fun hs61 => ?_)
  refine G.icmp_eq 317 1621 dL_law_317 (by decide) (fun h64 => ?_) (fun h64 => ?_)
  · replace hf := (if_pos h64).symm.trans hf
    exact hk _ _ x4 q62.2 hs61 hf (by (try simp only [rm_X8_toss, rm_L_element]); omega)
  · replace hf := (if_neg h64).symm.trans hf
    refine G.iconst 320 (0 : Int32) dL_law_320 (by decide +kernel) ?_
    have hf9 := Option.some.inj hf; subst hf9
    exact hend 321 _ _ _ _ (by (try simp only [rm_X8_toss, rm_L_element]); omega) (by (try simp only [rm_X8_toss, rm_L_element]); omega) dL_law_321
def f_L_law_c2 (sc : Nat → Int32) (len : Nat) (k : Int32 → Mem → Option Int32) (x4 : Int32) (M : Mem) : Option Int32 := gd (inR (x4 + (1 : Int32)) len) (gd (inR (x4 + (2 : Int32)) len) (gd (inR (x4 + (3 : Int32)) len) ((f_X8_sheet (sc (x4 + (1 : Int32)).toNatClampNeg) (sc (x4 + (2 : Int32)).toNatClampNeg) (sc (x4 + (3 : Int32)).toNatClampNeg) M).bind fun q69 => (f_X9_sheet (sc (x4 + (1 : Int32)).toNatClampNeg) (sc (x4 + (2 : Int32)).toNatClampNeg) (sc (x4 + (3 : Int32)).toNatClampNeg) q69.2).bind fun q72 => if q69.1 = q72.1 then k x4 q72.2 else some (0 : Int32))))
set_option maxRecDepth 100000 in
set_option maxHeartbeats 8000000 in
theorem c_L_law_c2 (Z : Sys) (X : Cx) (b n : Nat) (hR : xR X = room_1) {sc : Nat → Int32} {len : Nat} (hX : va_X b len sc (xs X) (xs X).heap) (hbl : b < (xs X).heap.size) (hbZ : b < zs Z) {q : Int32} (hend : ∀ (pc cs sl : Nat) (loc : List (Nat × Value)) (M : Mem), cs ≤ 601024 → sl ≤ 7293034 → decode Y_L_law.1 pc = .ok (.ireturn, 1) → G Z X Y_L_law False cs sl pc loc [.int q] M) (k : Int32 → Mem → Option Int32) (hk : ∀ (cs sl : Nat) (x4 : Int32) (M : Mem), St M → k x4 M = some q → cs + n ≤ 601024 ∧ sl + 6 * n ≤ 7293034 → G Z X Y_L_law False cs sl 1621 [(0, .ref b), (1, .ref (zs Z + 0)), (2, .ref (zs Z + 284)), (3, .ref (zs Z + 300)), (4, .int x4)] [] M) (cs sl : Nat) (x4 : Int32) (M : Mem) (hs : St M) (hf : f_L_law_c2 sc len k x4 M = some q) (hb : cs + (n + 1) ≤ 601024 ∧ sl + 6 * (n + 1) ≤ 7293034) : G Z X Y_L_law False cs sl 322 [(0, .ref b), (1, .ref (zs Z + 0)), (2, .ref (zs Z + 284)), (3, .ref (zs Z + 300)), (4, .int x4)] [] M := by
  unfold f_L_law_c2 at hf
  refine G.aload_n 322 1 dL_law_322 rfl rfl ?_
  refine G.aload_n 323 0 dL_law_323 rfl rfl ?_
  refine G.iload 324 4 dL_law_324 rfl ?_
  refine G.iconst 326 (1 : Int32) dL_law_326 (by decide +kernel) ?_
  refine G.iadd 327 dL_law_327 ?_
  obtain ⟨g65, hf⟩ := gd_e hf
  refine G.sld 328 (x4 + (1 : Int32)).toNatClampNeg hX hbl hbZ g65 rfl dL_law_328 ?_
  refine G.aload_n 329 0 dL_law_329 rfl rfl ?_
  refine G.iload 330 4 dL_law_330 rfl ?_
  refine G.iconst 332 (2 : Int32) dL_law_332 (by decide +kernel) ?_
  refine G.iadd 333 dL_law_333 ?_
  obtain ⟨g66, hf⟩ := gd_e hf
  refine G.sld 334 (x4 + (2 : Int32)).toNatClampNeg hX hbl hbZ g66 rfl dL_law_334 ?_
  refine G.aload_n 335 0 dL_law_335 rfl rfl ?_
  refine G.iload 336 4 dL_law_336 rfl ?_
  refine G.iconst 338 (3 : Int32) dL_law_338 (by decide +kernel) ?_
  refine G.iadd 339 dL_law_339 ?_
  obtain ⟨g67, hf⟩ := gd_e hf
  refine G.sld 340 (x4 + (3 : Int32)).toNatClampNeg hX hbl hbZ g67 rfl dL_law_340 ?_
  obtain ⟨q69, e70, hf⟩ := bd_e hf
  refine G.cvI 341 (As := [.int (sc (x4 + (1 : Int32)).toNatClampNeg), .int (sc (x4 + (2 : Int32)).toNatClampNeg), .int (sc (x4 + (3 : Int32)).toNatClampNeg)]) ck_8 (hs.k k0_0) (c_X8_sheet Z hs (sc (x4 + (1 : Int32)).toNatClampNeg) (sc (x4 + (2 : Int32)).toNatClampNeg) (sc (x4 + (3 : Int32)).toNatClampNeg) e70) mk_X8_sheet vk_X8_sheet rfl wd_449 hR ⟨Nat.le_of_ble_eq_true rfl, Nat.le_of_ble_eq_true rfl, by simp only [rm_L_element, rm_X8_sheet, rm_X8_toss, room_1]; omega, by simp only [rm_L_element, rm_X8_sheet, rm_X8_toss, room_1]; omega⟩ ⟨rfl, rfl⟩ rfl (Nat.le_of_ble_eq_true rfl) dL_law_341 (fun hs68 => ?_)
  refine G.aload_n 344 2 dL_law_344 rfl rfl ?_
  refine G.aload_n 345 0 dL_law_345 rfl rfl ?_
  refine G.iload 346 4 dL_law_346 rfl ?_
  refine G.iconst 348 (1 : Int32) dL_law_348 (by decide +kernel) ?_
  refine G.iadd 349 dL_law_349 ?_
  refine G.sld 350 (x4 + (1 : Int32)).toNatClampNeg hX hbl hbZ g65 rfl dL_law_350 ?_
  refine G.aload_n 351 0 dL_law_351 rfl rfl ?_
  refine G.iload 352 4 dL_law_352 rfl ?_
  refine G.iconst 354 (2 : Int32) dL_law_354 (by decide +kernel) ?_
  refine G.iadd 355 dL_law_355 ?_
  refine G.sld 356 (x4 + (2 : Int32)).toNatClampNeg hX hbl hbZ g66 rfl dL_law_356 ?_
  refine G.aload_n 357 0 dL_law_357 rfl rfl ?_
  refine G.iload 358 4 dL_law_358 rfl ?_
  refine G.iconst 360 (3 : Int32) dL_law_360 (by decide +kernel) ?_
  refine G.iadd 361 dL_law_361 ?_
  refine G.sld 362 (x4 + (3 : Int32)).toNatClampNeg hX hbl hbZ g67 rfl dL_law_362 ?_
  obtain ⟨q72, e73, hf⟩ := bd_e hf
  refine G.cvI 363 (As := [.int (sc (x4 + (1 : Int32)).toNatClampNeg), .int (sc (x4 + (2 : Int32)).toNatClampNeg), .int (sc (x4 + (3 : Int32)).toNatClampNeg)]) ck_9 (hs68.k k0_284) (c_X9_sheet Z hs68 (sc (x4 + (1 : Int32)).toNatClampNeg) (sc (x4 + (2 : Int32)).toNatClampNeg) (sc (x4 + (3 : Int32)).toNatClampNeg) e73) mk_X9_sheet vk_X9_sheet rfl wd_1419 hR ⟨Nat.le_of_ble_eq_true rfl, Nat.le_of_ble_eq_true rfl, by simp only [rm_L_element, rm_X8_toss, rm_X9_sheet, room_1]; omega, by simp only [rm_L_element, rm_X8_toss, rm_X9_sheet, room_1]; omega⟩ ⟨rfl, rfl⟩ rfl (Nat.le_of_ble_eq_true rfl) dL_law_363 (fun hs71 => ?_)
  refine G.icmp_eq 366 1621 dL_law_366 (by decide) (fun h74 => ?_) (fun h74 => ?_)
  · replace hf := (if_pos h74).symm.trans hf
    exact hk _ _ x4 q72.2 hs71 hf (by (try simp only [rm_X8_toss, rm_L_element]); omega)
  · replace hf := (if_neg h74).symm.trans hf
    refine G.iconst 369 (0 : Int32) dL_law_369 (by decide +kernel) ?_
    have hf9 := Option.some.inj hf; subst hf9
    exact hend 370 _ _ _ _ (by (try simp only [rm_X8_toss, rm_L_element]); omega) (by (try simp only [rm_X8_toss, rm_L_element]); omega) dL_law_370
def f_L_law_c3 (sc : Nat → Int32) (len : Nat) (k : Int32 → Mem → Option Int32) (x4 : Int32) (M : Mem) : Option Int32 := gd (inR (x4 + (1 : Int32)) len) (gd (inR (x4 + (2 : Int32)) len) ((f_X8_set (sc (x4 + (1 : Int32)).toNatClampNeg) (sc (x4 + (2 : Int32)).toNatClampNeg) M).bind fun q78 => (f_X9_set (sc (x4 + (1 : Int32)).toNatClampNeg) (sc (x4 + (2 : Int32)).toNatClampNeg) q78.2).bind fun q81 => if q78.1 = q81.1 then k x4 q81.2 else some (0 : Int32)))
set_option maxRecDepth 100000 in
set_option maxHeartbeats 8000000 in
theorem c_L_law_c3 (Z : Sys) (X : Cx) (b n : Nat) (hR : xR X = room_1) {sc : Nat → Int32} {len : Nat} (hX : va_X b len sc (xs X) (xs X).heap) (hbl : b < (xs X).heap.size) (hbZ : b < zs Z) {q : Int32} (hend : ∀ (pc cs sl : Nat) (loc : List (Nat × Value)) (M : Mem), cs ≤ 601024 → sl ≤ 7293034 → decode Y_L_law.1 pc = .ok (.ireturn, 1) → G Z X Y_L_law False cs sl pc loc [.int q] M) (k : Int32 → Mem → Option Int32) (hk : ∀ (cs sl : Nat) (x4 : Int32) (M : Mem), St M → k x4 M = some q → cs + n ≤ 601024 ∧ sl + 6 * n ≤ 7293034 → G Z X Y_L_law False cs sl 1621 [(0, .ref b), (1, .ref (zs Z + 0)), (2, .ref (zs Z + 284)), (3, .ref (zs Z + 300)), (4, .int x4)] [] M) (cs sl : Nat) (x4 : Int32) (M : Mem) (hs : St M) (hf : f_L_law_c3 sc len k x4 M = some q) (hb : cs + (n + 1) ≤ 601024 ∧ sl + 6 * (n + 1) ≤ 7293034) : G Z X Y_L_law False cs sl 371 [(0, .ref b), (1, .ref (zs Z + 0)), (2, .ref (zs Z + 284)), (3, .ref (zs Z + 300)), (4, .int x4)] [] M := by
  unfold f_L_law_c3 at hf
  refine G.aload_n 371 1 dL_law_371 rfl rfl ?_
  refine G.aload_n 372 0 dL_law_372 rfl rfl ?_
  refine G.iload 373 4 dL_law_373 rfl ?_
  refine G.iconst 375 (1 : Int32) dL_law_375 (by decide +kernel) ?_
  refine G.iadd 376 dL_law_376 ?_
  obtain ⟨g75, hf⟩ := gd_e hf
  refine G.sld 377 (x4 + (1 : Int32)).toNatClampNeg hX hbl hbZ g75 rfl dL_law_377 ?_
  refine G.aload_n 378 0 dL_law_378 rfl rfl ?_
  refine G.iload 379 4 dL_law_379 rfl ?_
  refine G.iconst 381 (2 : Int32) dL_law_381 (by decide +kernel) ?_
  refine G.iadd 382 dL_law_382 ?_
  obtain ⟨g76, hf⟩ := gd_e hf
  refine G.sld 383 (x4 + (2 : Int32)).toNatClampNeg hX hbl hbZ g76 rfl dL_law_383 ?_
  obtain ⟨q78, e79, hf⟩ := bd_e hf
  refine G.cvI 384 (As := [.int (sc (x4 + (1 : Int32)).toNatClampNeg), .int (sc (x4 + (2 : Int32)).toNatClampNeg)]) ck_8 (hs.k k0_0) (c_X8_set Z hs (sc (x4 + (1 : Int32)).toNatClampNeg) (sc (x4 + (2 : Int32)).toNatClampNeg) e79) mk_X8_set vk_X8_set rfl wd_453 hR ⟨Nat.le_of_ble_eq_true rfl, Nat.le_of_ble_eq_true rfl, by simp only [rm_L_element, rm_X8_set, rm_X8_toss, room_1]; omega, by simp only [rm_L_element, rm_X8_set, rm_X8_toss, room_1]; omega⟩ ⟨rfl, rfl⟩ rfl (Nat.le_of_ble_eq_true rfl) dL_law_384 (fun hs77 => ?_)
  refine G.aload_n 387 2 dL_law_387 rfl rfl ?_
  refine G.aload_n 388 0 dL_law_388 rfl rfl ?_
  refine G.iload 389 4 dL_law_389 rfl ?_
  refine G.iconst 391 (1 : Int32) dL_law_391 (by decide +kernel) ?_
  refine G.iadd 392 dL_law_392 ?_
  refine G.sld 393 (x4 + (1 : Int32)).toNatClampNeg hX hbl hbZ g75 rfl dL_law_393 ?_
  refine G.aload_n 394 0 dL_law_394 rfl rfl ?_
  refine G.iload 395 4 dL_law_395 rfl ?_
  refine G.iconst 397 (2 : Int32) dL_law_397 (by decide +kernel) ?_
  refine G.iadd 398 dL_law_398 ?_
  refine G.sld 399 (x4 + (2 : Int32)).toNatClampNeg hX hbl hbZ g76 rfl dL_law_399 ?_
  obtain ⟨q81, e82, hf⟩ := bd_e hf
  refine G.cvI 400 (As := [.int (sc (x4 + (1 : Int32)).toNatClampNeg), .int (sc (x4 + (2 : Int32)).toNatClampNeg)]) ck_9 (hs77.k k0_284) (c_X9_set Z hs77 (sc (x4 + (1 : Int32)).toNatClampNeg) (sc (x4 + (2 : Int32)).toNatClampNeg) e82) mk_X9_set vk_X9_set rfl wd_1424 hR ⟨Nat.le_of_ble_eq_true rfl, Nat.le_of_ble_eq_true rfl, by simp only [rm_L_element, rm_X8_toss, rm_X9_set, room_1]; omega, by simp only [rm_L_element, rm_X8_toss, rm_X9_set, room_1]; omega⟩ ⟨rfl, rfl⟩ rfl (Nat.le_of_ble_eq_true rfl) dL_law_400 (fun hs80 => ?_)
  refine G.icmp_eq 403 1621 dL_law_403 (by decide) (fun h83 => ?_) (fun h83 => ?_)
  · replace hf := (if_pos h83).symm.trans hf
    exact hk _ _ x4 q81.2 hs80 hf (by (try simp only [rm_X8_toss, rm_L_element]); omega)
  · replace hf := (if_neg h83).symm.trans hf
    refine G.iconst 406 (0 : Int32) dL_law_406 (by decide +kernel) ?_
    have hf9 := Option.some.inj hf; subst hf9
    exact hend 407 _ _ _ _ (by (try simp only [rm_X8_toss, rm_L_element]); omega) (by (try simp only [rm_X8_toss, rm_L_element]); omega) dL_law_407
def f_L_law_c4 (sc : Nat → Int32) (len : Nat) (k : Int32 → Mem → Option Int32) (x4 : Int32) (M : Mem) : Option Int32 := gd (inR (x4 + (1 : Int32)) len) (gd (inR (x4 + (2 : Int32)) len) ((f_X8_of (sc (x4 + (1 : Int32)).toNatClampNeg) (sc (x4 + (2 : Int32)).toNatClampNeg) M).bind fun q87 => (f_X9_of (sc (x4 + (1 : Int32)).toNatClampNeg) (sc (x4 + (2 : Int32)).toNatClampNeg) M).bind fun q90 => if q87 = q90 then k x4 M else some (0 : Int32)))
set_option maxRecDepth 100000 in
set_option maxHeartbeats 8000000 in
theorem c_L_law_c4 (Z : Sys) (X : Cx) (b n : Nat) (hR : xR X = room_1) {sc : Nat → Int32} {len : Nat} (hX : va_X b len sc (xs X) (xs X).heap) (hbl : b < (xs X).heap.size) (hbZ : b < zs Z) {q : Int32} (hend : ∀ (pc cs sl : Nat) (loc : List (Nat × Value)) (M : Mem), cs ≤ 601024 → sl ≤ 7293034 → decode Y_L_law.1 pc = .ok (.ireturn, 1) → G Z X Y_L_law False cs sl pc loc [.int q] M) (k : Int32 → Mem → Option Int32) (hk : ∀ (cs sl : Nat) (x4 : Int32) (M : Mem), St M → k x4 M = some q → cs + n ≤ 601024 ∧ sl + 6 * n ≤ 7293034 → G Z X Y_L_law False cs sl 1621 [(0, .ref b), (1, .ref (zs Z + 0)), (2, .ref (zs Z + 284)), (3, .ref (zs Z + 300)), (4, .int x4)] [] M) (cs sl : Nat) (x4 : Int32) (M : Mem) (hs : St M) (hf : f_L_law_c4 sc len k x4 M = some q) (hb : cs + (n + 1) ≤ 601024 ∧ sl + 6 * (n + 1) ≤ 7293034) : G Z X Y_L_law False cs sl 408 [(0, .ref b), (1, .ref (zs Z + 0)), (2, .ref (zs Z + 284)), (3, .ref (zs Z + 300)), (4, .int x4)] [] M := by
  unfold f_L_law_c4 at hf
  refine G.aload_n 408 1 dL_law_408 rfl rfl ?_
  refine G.aload_n 409 0 dL_law_409 rfl rfl ?_
  refine G.iload 410 4 dL_law_410 rfl ?_
  refine G.iconst 412 (1 : Int32) dL_law_412 (by decide +kernel) ?_
  refine G.iadd 413 dL_law_413 ?_
  obtain ⟨g84, hf⟩ := gd_e hf
  refine G.sld 414 (x4 + (1 : Int32)).toNatClampNeg hX hbl hbZ g84 rfl dL_law_414 ?_
  refine G.aload_n 415 0 dL_law_415 rfl rfl ?_
  refine G.iload 416 4 dL_law_416 rfl ?_
  refine G.iconst 418 (2 : Int32) dL_law_418 (by decide +kernel) ?_
  refine G.iadd 419 dL_law_419 ?_
  obtain ⟨g85, hf⟩ := gd_e hf
  refine G.sld 420 (x4 + (2 : Int32)).toNatClampNeg hX hbl hbZ g85 rfl dL_law_420 ?_
  obtain ⟨q87, e88, hf⟩ := bd_e hf
  refine G.cvI 421 (As := [.int (sc (x4 + (1 : Int32)).toNatClampNeg), .int (sc (x4 + (2 : Int32)).toNatClampNeg)]) ck_8 (hs.k k0_0) (c_X8_of Z hs (sc (x4 + (1 : Int32)).toNatClampNeg) (sc (x4 + (2 : Int32)).toNatClampNeg) e88) mk_X8_of vk_X8_of rfl wd_460 hR ⟨Nat.le_of_ble_eq_true rfl, Nat.le_of_ble_eq_true rfl, by simp only [rm_L_element, rm_X8_of, rm_X8_toss, room_1]; omega, by simp only [rm_L_element, rm_X8_of, rm_X8_toss, room_1]; omega⟩ ⟨rfl, rfl⟩ rfl (Nat.le_of_ble_eq_true rfl) dL_law_421 (fun hs86 => ?_)
  refine G.aload_n 424 2 dL_law_424 rfl rfl ?_
  refine G.aload_n 425 0 dL_law_425 rfl rfl ?_
  refine G.iload 426 4 dL_law_426 rfl ?_
  refine G.iconst 428 (1 : Int32) dL_law_428 (by decide +kernel) ?_
  refine G.iadd 429 dL_law_429 ?_
  refine G.sld 430 (x4 + (1 : Int32)).toNatClampNeg hX hbl hbZ g84 rfl dL_law_430 ?_
  refine G.aload_n 431 0 dL_law_431 rfl rfl ?_
  refine G.iload 432 4 dL_law_432 rfl ?_
  refine G.iconst 434 (2 : Int32) dL_law_434 (by decide +kernel) ?_
  refine G.iadd 435 dL_law_435 ?_
  refine G.sld 436 (x4 + (2 : Int32)).toNatClampNeg hX hbl hbZ g85 rfl dL_law_436 ?_
  obtain ⟨q90, e91, hf⟩ := bd_e hf
  refine G.cvI 437 (As := [.int (sc (x4 + (1 : Int32)).toNatClampNeg), .int (sc (x4 + (2 : Int32)).toNatClampNeg)]) ck_9 (hs86.k k0_284) (c_X9_of Z hs86 (sc (x4 + (1 : Int32)).toNatClampNeg) (sc (x4 + (2 : Int32)).toNatClampNeg) e91) mk_X9_of vk_X9_of rfl wd_1430 hR ⟨Nat.le_of_ble_eq_true rfl, Nat.le_of_ble_eq_true rfl, by simp only [rm_L_element, rm_X8_toss, rm_X9_of, room_1]; omega, by simp only [rm_L_element, rm_X8_toss, rm_X9_of, room_1]; omega⟩ ⟨rfl, rfl⟩ rfl (Nat.le_of_ble_eq_true rfl) dL_law_437 (fun hs89 => ?_)
  refine G.icmp_eq 440 1621 dL_law_440 (by decide) (fun h92 => ?_) (fun h92 => ?_)
  · replace hf := (if_pos h92).symm.trans hf
    exact hk _ _ x4 M hs89 hf (by (try simp only [rm_X8_toss, rm_L_element]); omega)
  · replace hf := (if_neg h92).symm.trans hf
    refine G.iconst 443 (0 : Int32) dL_law_443 (by decide +kernel) ?_
    have hf9 := Option.some.inj hf; subst hf9
    exact hend 444 _ _ _ _ (by (try simp only [rm_X8_toss, rm_L_element]); omega) (by (try simp only [rm_X8_toss, rm_L_element]); omega) dL_law_444
def f_L_law_c5 (sc : Nat → Int32) (len : Nat) (k : Int32 → Mem → Option Int32) (x4 : Int32) (M : Mem) : Option Int32 := gd (inR (x4 + (1 : Int32)) len) ((f_X8_send (sc (x4 + (1 : Int32)).toNatClampNeg) M).bind fun q95 => (f_X9_send (sc (x4 + (1 : Int32)).toNatClampNeg) q95.2).bind fun q98 => if q95.1 = q98.1 then k x4 q98.2 else some (0 : Int32))
set_option maxRecDepth 100000 in
set_option maxHeartbeats 8000000 in
theorem c_L_law_c5 (Z : Sys) (X : Cx) (b n : Nat) (hR : xR X = room_1) {sc : Nat → Int32} {len : Nat} (hX : va_X b len sc (xs X) (xs X).heap) (hbl : b < (xs X).heap.size) (hbZ : b < zs Z) {q : Int32} (hend : ∀ (pc cs sl : Nat) (loc : List (Nat × Value)) (M : Mem), cs ≤ 601024 → sl ≤ 7293034 → decode Y_L_law.1 pc = .ok (.ireturn, 1) → G Z X Y_L_law False cs sl pc loc [.int q] M) (k : Int32 → Mem → Option Int32) (hk : ∀ (cs sl : Nat) (x4 : Int32) (M : Mem), St M → k x4 M = some q → cs + n ≤ 601024 ∧ sl + 6 * n ≤ 7293034 → G Z X Y_L_law False cs sl 1621 [(0, .ref b), (1, .ref (zs Z + 0)), (2, .ref (zs Z + 284)), (3, .ref (zs Z + 300)), (4, .int x4)] [] M) (cs sl : Nat) (x4 : Int32) (M : Mem) (hs : St M) (hf : f_L_law_c5 sc len k x4 M = some q) (hb : cs + (n + 1) ≤ 601024 ∧ sl + 6 * (n + 1) ≤ 7293034) : G Z X Y_L_law False cs sl 445 [(0, .ref b), (1, .ref (zs Z + 0)), (2, .ref (zs Z + 284)), (3, .ref (zs Z + 300)), (4, .int x4)] [] M := by
  unfold f_L_law_c5 at hf
  refine G.aload_n 445 1 dL_law_445 rfl rfl ?_
  refine G.aload_n 446 0 dL_law_446 rfl rfl ?_
  refine G.iload 447 4 dL_law_447 rfl ?_
  refine G.iconst 449 (1 : Int32) dL_law_449 (by decide +kernel) ?_
  refine G.iadd 450 dL_law_450 ?_
  obtain ⟨g93, hf⟩ := gd_e hf
  refine G.sld 451 (x4 + (1 : Int32)).toNatClampNeg hX hbl hbZ g93 rfl dL_law_451 ?_
  obtain ⟨q95, e96, hf⟩ := bd_e hf
  refine G.cvI 452 (As := [.int (sc (x4 + (1 : Int32)).toNatClampNeg)]) ck_8 (hs.k k0_0) (c_X8_send Z hs (sc (x4 + (1 : Int32)).toNatClampNeg) e96) mk_X8_send vk_X8_send rfl wd_501 hR ⟨Nat.le_of_ble_eq_true rfl, Nat.le_of_ble_eq_true rfl, by simp only [rm_L_element, rm_X8_send, rm_X8_toss, room_1]; omega, by simp only [rm_L_element, rm_X8_send, rm_X8_toss, room_1]; omega⟩ ⟨rfl, rfl⟩ rfl (Nat.le_of_ble_eq_true rfl) dL_law_452 (fun hs94 => ?_)
  refine G.aload_n 455 2 dL_law_455 rfl rfl ?_
  refine G.aload_n 456 0 dL_law_456 rfl rfl ?_
  refine G.iload 457 4 dL_law_457 rfl ?_
  refine G.iconst 459 (1 : Int32) dL_law_459 (by decide +kernel) ?_
  refine G.iadd 460 dL_law_460 ?_
  refine G.sld 461 (x4 + (1 : Int32)).toNatClampNeg hX hbl hbZ g93 rfl dL_law_461 ?_
  obtain ⟨q98, e99, hf⟩ := bd_e hf
  refine G.cvI 462 (As := [.int (sc (x4 + (1 : Int32)).toNatClampNeg)]) ck_9 (hs94.k k0_284) (c_X9_send Z hs94 (sc (x4 + (1 : Int32)).toNatClampNeg) e99) mk_X9_send vk_X9_send rfl wd_1453 hR ⟨Nat.le_of_ble_eq_true rfl, Nat.le_of_ble_eq_true rfl, by simp only [rm_L_element, rm_X8_toss, rm_X9_send, room_1]; omega, by simp only [rm_L_element, rm_X8_toss, rm_X9_send, room_1]; omega⟩ ⟨rfl, rfl⟩ rfl (Nat.le_of_ble_eq_true rfl) dL_law_462 (fun hs97 => ?_)
  refine G.icmp_eq 465 1621 dL_law_465 (by decide) (fun h100 => ?_) (fun h100 => ?_)
  · replace hf := (if_pos h100).symm.trans hf
    exact hk _ _ x4 q98.2 hs97 hf (by (try simp only [rm_X8_toss, rm_L_element]); omega)
  · replace hf := (if_neg h100).symm.trans hf
    refine G.iconst 468 (0 : Int32) dL_law_468 (by decide +kernel) ?_
    have hf9 := Option.some.inj hf; subst hf9
    exact hend 469 _ _ _ _ (by (try simp only [rm_X8_toss, rm_L_element]); omega) (by (try simp only [rm_X8_toss, rm_L_element]); omega) dL_law_469
def f_L_law_c6 (sc : Nat → Int32) (len : Nat) (k : Int32 → Mem → Option Int32) (x4 : Int32) (M : Mem) : Option Int32 := gd (inR (x4 + (1 : Int32)) len) (gd (inR (x4 + (2 : Int32)) len) ((f_X8_hear (sc (x4 + (1 : Int32)).toNatClampNeg) (sc (x4 + (2 : Int32)).toNatClampNeg) M).bind fun q104 => (f_X9_hear (sc (x4 + (1 : Int32)).toNatClampNeg) (sc (x4 + (2 : Int32)).toNatClampNeg) q104.2).bind fun q107 => if q104.1 = q107.1 then k x4 q107.2 else some (0 : Int32)))
set_option maxRecDepth 100000 in
set_option maxHeartbeats 8000000 in
theorem c_L_law_c6 (Z : Sys) (X : Cx) (b n : Nat) (hR : xR X = room_1) {sc : Nat → Int32} {len : Nat} (hX : va_X b len sc (xs X) (xs X).heap) (hbl : b < (xs X).heap.size) (hbZ : b < zs Z) {q : Int32} (hend : ∀ (pc cs sl : Nat) (loc : List (Nat × Value)) (M : Mem), cs ≤ 601024 → sl ≤ 7293034 → decode Y_L_law.1 pc = .ok (.ireturn, 1) → G Z X Y_L_law False cs sl pc loc [.int q] M) (k : Int32 → Mem → Option Int32) (hk : ∀ (cs sl : Nat) (x4 : Int32) (M : Mem), St M → k x4 M = some q → cs + n ≤ 601024 ∧ sl + 6 * n ≤ 7293034 → G Z X Y_L_law False cs sl 1621 [(0, .ref b), (1, .ref (zs Z + 0)), (2, .ref (zs Z + 284)), (3, .ref (zs Z + 300)), (4, .int x4)] [] M) (cs sl : Nat) (x4 : Int32) (M : Mem) (hs : St M) (hf : f_L_law_c6 sc len k x4 M = some q) (hb : cs + (n + 1) ≤ 601024 ∧ sl + 6 * (n + 1) ≤ 7293034) : G Z X Y_L_law False cs sl 470 [(0, .ref b), (1, .ref (zs Z + 0)), (2, .ref (zs Z + 284)), (3, .ref (zs Z + 300)), (4, .int x4)] [] M := by
  unfold f_L_law_c6 at hf
  refine G.aload_n 470 1 dL_law_470 rfl rfl ?_
  refine G.aload_n 471 0 dL_law_471 rfl rfl ?_
  refine G.iload 472 4 dL_law_472 rfl ?_
  refine G.iconst 474 (1 : Int32) dL_law_474 (by decide +kernel) ?_
  refine G.iadd 475 dL_law_475 ?_
  obtain ⟨g101, hf⟩ := gd_e hf
  refine G.sld 476 (x4 + (1 : Int32)).toNatClampNeg hX hbl hbZ g101 rfl dL_law_476 ?_
  refine G.aload_n 477 0 dL_law_477 rfl rfl ?_
  refine G.iload 478 4 dL_law_478 rfl ?_
  refine G.iconst 480 (2 : Int32) dL_law_480 (by decide +kernel) ?_
  refine G.iadd 481 dL_law_481 ?_
  obtain ⟨g102, hf⟩ := gd_e hf
  refine G.sld 482 (x4 + (2 : Int32)).toNatClampNeg hX hbl hbZ g102 rfl dL_law_482 ?_
  obtain ⟨q104, e105, hf⟩ := bd_e hf
  refine G.cvI 483 (As := [.int (sc (x4 + (1 : Int32)).toNatClampNeg), .int (sc (x4 + (2 : Int32)).toNatClampNeg)]) ck_8 (hs.k k0_0) (c_X8_hear Z hs (sc (x4 + (1 : Int32)).toNatClampNeg) (sc (x4 + (2 : Int32)).toNatClampNeg) e105) mk_X8_hear vk_X8_hear rfl wd_513 hR ⟨Nat.le_of_ble_eq_true rfl, Nat.le_of_ble_eq_true rfl, by simp only [rm_L_element, rm_X8_hear, rm_X8_toss, room_1]; omega, by simp only [rm_L_element, rm_X8_hear, rm_X8_toss, room_1]; omega⟩ ⟨rfl, rfl⟩ rfl (Nat.le_of_ble_eq_true rfl) dL_law_483 (fun hs103 => ?_)
  refine G.aload_n 486 2 dL_law_486 rfl rfl ?_
  refine G.aload_n 487 0 dL_law_487 rfl rfl ?_
  refine G.iload 488 4 dL_law_488 rfl ?_
  refine G.iconst 490 (1 : Int32) dL_law_490 (by decide +kernel) ?_
  refine G.iadd 491 dL_law_491 ?_
  refine G.sld 492 (x4 + (1 : Int32)).toNatClampNeg hX hbl hbZ g101 rfl dL_law_492 ?_
  refine G.aload_n 493 0 dL_law_493 rfl rfl ?_
  refine G.iload 494 4 dL_law_494 rfl ?_
  refine G.iconst 496 (2 : Int32) dL_law_496 (by decide +kernel) ?_
  refine G.iadd 497 dL_law_497 ?_
  refine G.sld 498 (x4 + (2 : Int32)).toNatClampNeg hX hbl hbZ g102 rfl dL_law_498 ?_
  obtain ⟨q107, e108, hf⟩ := bd_e hf
  refine G.cvI 499 (As := [.int (sc (x4 + (1 : Int32)).toNatClampNeg), .int (sc (x4 + (2 : Int32)).toNatClampNeg)]) ck_9 (hs103.k k0_284) (c_X9_hear Z hs103 (sc (x4 + (1 : Int32)).toNatClampNeg) (sc (x4 + (2 : Int32)).toNatClampNeg) e108) mk_X9_hear vk_X9_hear rfl wd_1465 hR ⟨Nat.le_of_ble_eq_true rfl, Nat.le_of_ble_eq_true rfl, by simp only [rm_L_element, rm_X8_toss, rm_X9_hear, room_1]; omega, by simp only [rm_L_element, rm_X8_toss, rm_X9_hear, room_1]; omega⟩ ⟨rfl, rfl⟩ rfl (Nat.le_of_ble_eq_true rfl) dL_law_499 (fun hs106 => ?_)
  refine G.icmp_eq 502 1621 dL_law_502 (by decide) (fun h109 => ?_) (fun h109 => ?_)
  · replace hf := (if_pos h109).symm.trans hf
    exact hk _ _ x4 q107.2 hs106 hf (by (try simp only [rm_X8_toss, rm_L_element]); omega)
  · replace hf := (if_neg h109).symm.trans hf
    refine G.iconst 505 (0 : Int32) dL_law_505 (by decide +kernel) ?_
    have hf9 := Option.some.inj hf; subst hf9
    exact hend 506 _ _ _ _ (by (try simp only [rm_X8_toss, rm_L_element]); omega) (by (try simp only [rm_X8_toss, rm_L_element]); omega) dL_law_506
def f_L_law_c7 (sc : Nat → Int32) (len : Nat) (k : Int32 → Mem → Option Int32) (x4 : Int32) (M : Mem) : Option Int32 := gd (inR (x4 + (1 : Int32)) len) (gd (inR (x4 + (2 : Int32)) len) ((f_X8_figures (sc (x4 + (1 : Int32)).toNatClampNeg) (sc (x4 + (2 : Int32)).toNatClampNeg) M).bind fun q113 => (f_X9_figures (sc (x4 + (1 : Int32)).toNatClampNeg) (sc (x4 + (2 : Int32)).toNatClampNeg) q113.2).bind fun q116 => if q113.1 = q116.1 then k x4 q116.2 else some (0 : Int32)))
set_option maxRecDepth 100000 in
set_option maxHeartbeats 8000000 in
theorem c_L_law_c7 (Z : Sys) (X : Cx) (b n : Nat) (hR : xR X = room_1) {sc : Nat → Int32} {len : Nat} (hX : va_X b len sc (xs X) (xs X).heap) (hbl : b < (xs X).heap.size) (hbZ : b < zs Z) {q : Int32} (hend : ∀ (pc cs sl : Nat) (loc : List (Nat × Value)) (M : Mem), cs ≤ 601024 → sl ≤ 7293034 → decode Y_L_law.1 pc = .ok (.ireturn, 1) → G Z X Y_L_law False cs sl pc loc [.int q] M) (k : Int32 → Mem → Option Int32) (hk : ∀ (cs sl : Nat) (x4 : Int32) (M : Mem), St M → k x4 M = some q → cs + n ≤ 601024 ∧ sl + 6 * n ≤ 7293034 → G Z X Y_L_law False cs sl 1621 [(0, .ref b), (1, .ref (zs Z + 0)), (2, .ref (zs Z + 284)), (3, .ref (zs Z + 300)), (4, .int x4)] [] M) (cs sl : Nat) (x4 : Int32) (M : Mem) (hs : St M) (hf : f_L_law_c7 sc len k x4 M = some q) (hb : cs + (n + 1) ≤ 601024 ∧ sl + 6 * (n + 1) ≤ 7293034) : G Z X Y_L_law False cs sl 507 [(0, .ref b), (1, .ref (zs Z + 0)), (2, .ref (zs Z + 284)), (3, .ref (zs Z + 300)), (4, .int x4)] [] M := by
  unfold f_L_law_c7 at hf
  refine G.aload_n 507 1 dL_law_507 rfl rfl ?_
  refine G.aload_n 508 0 dL_law_508 rfl rfl ?_
  refine G.iload 509 4 dL_law_509 rfl ?_
  refine G.iconst 511 (1 : Int32) dL_law_511 (by decide +kernel) ?_
  refine G.iadd 512 dL_law_512 ?_
  obtain ⟨g110, hf⟩ := gd_e hf
  refine G.sld 513 (x4 + (1 : Int32)).toNatClampNeg hX hbl hbZ g110 rfl dL_law_513 ?_
  refine G.aload_n 514 0 dL_law_514 rfl rfl ?_
  refine G.iload 515 4 dL_law_515 rfl ?_
  refine G.iconst 517 (2 : Int32) dL_law_517 (by decide +kernel) ?_
  refine G.iadd 518 dL_law_518 ?_
  obtain ⟨g111, hf⟩ := gd_e hf
  refine G.sld 519 (x4 + (2 : Int32)).toNatClampNeg hX hbl hbZ g111 rfl dL_law_519 ?_
  obtain ⟨q113, e114, hf⟩ := bd_e hf
  refine G.cvI 520 (As := [.int (sc (x4 + (1 : Int32)).toNatClampNeg), .int (sc (x4 + (2 : Int32)).toNatClampNeg)]) ck_8 (hs.k k0_0) (c_X8_figures Z hs (sc (x4 + (1 : Int32)).toNatClampNeg) (sc (x4 + (2 : Int32)).toNatClampNeg) e114) mk_X8_figures vk_X8_figures rfl wd_548 hR ⟨Nat.le_of_ble_eq_true rfl, Nat.le_of_ble_eq_true rfl, by simp only [rm_L_element, rm_X8_figures, rm_X8_toss, room_1]; omega, by simp only [rm_L_element, rm_X8_figures, rm_X8_toss, room_1]; omega⟩ ⟨rfl, rfl⟩ rfl (Nat.le_of_ble_eq_true rfl) dL_law_520 (fun hs112 => ?_)
  refine G.aload_n 523 2 dL_law_523 rfl rfl ?_
  refine G.aload_n 524 0 dL_law_524 rfl rfl ?_
  refine G.iload 525 4 dL_law_525 rfl ?_
  refine G.iconst 527 (1 : Int32) dL_law_527 (by decide +kernel) ?_
  refine G.iadd 528 dL_law_528 ?_
  refine G.sld 529 (x4 + (1 : Int32)).toNatClampNeg hX hbl hbZ g110 rfl dL_law_529 ?_
  refine G.aload_n 530 0 dL_law_530 rfl rfl ?_
  refine G.iload 531 4 dL_law_531 rfl ?_
  refine G.iconst 533 (2 : Int32) dL_law_533 (by decide +kernel) ?_
  refine G.iadd 534 dL_law_534 ?_
  refine G.sld 535 (x4 + (2 : Int32)).toNatClampNeg hX hbl hbZ g111 rfl dL_law_535 ?_
  obtain ⟨q116, e117, hf⟩ := bd_e hf
  refine G.cvI 536 (As := [.int (sc (x4 + (1 : Int32)).toNatClampNeg), .int (sc (x4 + (2 : Int32)).toNatClampNeg)]) ck_9 (hs112.k k0_284) (c_X9_figures Z hs112 (sc (x4 + (1 : Int32)).toNatClampNeg) (sc (x4 + (2 : Int32)).toNatClampNeg) e117) mk_X9_figures vk_X9_figures rfl wd_1476 hR ⟨Nat.le_of_ble_eq_true rfl, Nat.le_of_ble_eq_true rfl, by simp only [rm_L_element, rm_X8_toss, rm_X9_figures, room_1]; omega, by simp only [rm_L_element, rm_X8_toss, rm_X9_figures, room_1]; omega⟩ ⟨rfl, rfl⟩ rfl (Nat.le_of_ble_eq_true rfl) dL_law_536 (fun hs115 => ?_)
  refine G.icmp_eq 539 1621 dL_law_539 (by decide) (fun h118 => ?_) (fun h118 => ?_)
  · replace hf := (if_pos h118).symm.trans hf
    exact hk _ _ x4 q116.2 hs115 hf (by (try simp only [rm_X8_toss, rm_L_element]); omega)
  · replace hf := (if_neg h118).symm.trans hf
    refine G.iconst 542 (0 : Int32) dL_law_542 (by decide +kernel) ?_
    have hf9 := Option.some.inj hf; subst hf9
    exact hend 543 _ _ _ _ (by (try simp only [rm_X8_toss, rm_L_element]); omega) (by (try simp only [rm_X8_toss, rm_L_element]); omega) dL_law_543
def f_L_law_c8 (sc : Nat → Int32) (len : Nat) (k : Int32 → Mem → Option Int32) (x4 : Int32) (M : Mem) : Option Int32 := gd (inR (x4 + (1 : Int32)) len) ((f_X8_odds (sc (x4 + (1 : Int32)).toNatClampNeg) M).bind fun q121 => (f_X9_odds (sc (x4 + (1 : Int32)).toNatClampNeg) M).bind fun q124 => if (lg_cmp q121 q124.1) = 0 then k x4 q124.2 else some (0 : Int32))
set_option maxRecDepth 100000 in
set_option maxHeartbeats 8000000 in
theorem c_L_law_c8 (Z : Sys) (X : Cx) (b n : Nat) (hR : xR X = room_1) {sc : Nat → Int32} {len : Nat} (hX : va_X b len sc (xs X) (xs X).heap) (hbl : b < (xs X).heap.size) (hbZ : b < zs Z) {q : Int32} (hend : ∀ (pc cs sl : Nat) (loc : List (Nat × Value)) (M : Mem), cs ≤ 601024 → sl ≤ 7293034 → decode Y_L_law.1 pc = .ok (.ireturn, 1) → G Z X Y_L_law False cs sl pc loc [.int q] M) (k : Int32 → Mem → Option Int32) (hk : ∀ (cs sl : Nat) (x4 : Int32) (M : Mem), St M → k x4 M = some q → cs + n ≤ 601024 ∧ sl + 6 * n ≤ 7293034 → G Z X Y_L_law False cs sl 1621 [(0, .ref b), (1, .ref (zs Z + 0)), (2, .ref (zs Z + 284)), (3, .ref (zs Z + 300)), (4, .int x4)] [] M) (cs sl : Nat) (x4 : Int32) (M : Mem) (hs : St M) (hf : f_L_law_c8 sc len k x4 M = some q) (hb : cs + (n + 1) ≤ 601024 ∧ sl + 6 * (n + 1) ≤ 7293034) : G Z X Y_L_law False cs sl 544 [(0, .ref b), (1, .ref (zs Z + 0)), (2, .ref (zs Z + 284)), (3, .ref (zs Z + 300)), (4, .int x4)] [] M := by
  unfold f_L_law_c8 at hf
  refine G.aload_n 544 1 dL_law_544 rfl rfl ?_
  refine G.aload_n 545 0 dL_law_545 rfl rfl ?_
  refine G.iload 546 4 dL_law_546 rfl ?_
  refine G.iconst 548 (1 : Int32) dL_law_548 (by decide +kernel) ?_
  refine G.iadd 549 dL_law_549 ?_
  obtain ⟨g119, hf⟩ := gd_e hf
  refine G.sld 550 (x4 + (1 : Int32)).toNatClampNeg hX hbl hbZ g119 rfl dL_law_550 ?_
  obtain ⟨q121, e122, hf⟩ := bd_e hf
  refine G.cvL 551 (As := [.int (sc (x4 + (1 : Int32)).toNatClampNeg)]) ck_8 (hs.k k0_0) (c_X8_odds Z hs (sc (x4 + (1 : Int32)).toNatClampNeg) e122) mk_X8_odds vk_X8_odds rfl wd_571 hR ⟨Nat.le_of_ble_eq_true rfl, Nat.le_of_ble_eq_true rfl, by simp only [rm_L_element, rm_X8_odds, rm_X8_toss, room_1]; omega, by simp only [rm_L_element, rm_X8_odds, rm_X8_toss, room_1]; omega⟩ ⟨rfl, rfl⟩ rfl (Nat.le_of_ble_eq_true rfl) dL_law_551 (fun hs120 => ?_)
  refine G.aload_n 554 2 dL_law_554 rfl rfl ?_
  refine G.aload_n 555 0 dL_law_555 rfl rfl ?_
  refine G.iload 556 4 dL_law_556 rfl ?_
  refine G.iconst 558 (1 : Int32) dL_law_558 (by decide +kernel) ?_
  refine G.iadd 559 dL_law_559 ?_
  refine G.sld 560 (x4 + (1 : Int32)).toNatClampNeg hX hbl hbZ g119 rfl dL_law_560 ?_
  obtain ⟨q124, e125, hf⟩ := bd_e hf
  refine G.cvL 561 (As := [.int (sc (x4 + (1 : Int32)).toNatClampNeg)]) ck_9 (hs120.k k0_284) (c_X9_odds Z hs120 (sc (x4 + (1 : Int32)).toNatClampNeg) e125) mk_X9_odds vk_X9_odds rfl wd_1491 hR ⟨Nat.le_of_ble_eq_true rfl, Nat.le_of_ble_eq_true rfl, by simp only [rm_L_element, rm_X8_toss, rm_X9_odds, room_1]; omega, by simp only [rm_L_element, rm_X8_toss, rm_X9_odds, room_1]; omega⟩ ⟨rfl, rfl⟩ rfl (Nat.le_of_ble_eq_true rfl) dL_law_561 (fun hs123 => ?_)
  refine G.lcmp 564 dL_law_564 ?_
  refine G.if_eq 565 1621 dL_law_565 (by decide) (fun h126 => ?_) (fun h126 => ?_)
  · replace hf := (if_pos h126).symm.trans hf
    exact hk _ _ x4 q124.2 hs123 hf (by (try simp only [rm_X8_toss, rm_L_element]); omega)
  · replace hf := (if_neg h126).symm.trans hf
    refine G.iconst 568 (0 : Int32) dL_law_568 (by decide +kernel) ?_
    have hf9 := Option.some.inj hf; subst hf9
    exact hend 569 _ _ _ _ (by (try simp only [rm_X8_toss, rm_L_element]); omega) (by (try simp only [rm_X8_toss, rm_L_element]); omega) dL_law_569
def f_L_law_c9 (sc : Nat → Int32) (len : Nat) (k : Int32 → Mem → Option Int32) (x4 : Int32) (M : Mem) : Option Int32 := gd (inR (x4 + (1 : Int32)) len) ((f_X8_round (sc (x4 + (1 : Int32)).toNatClampNeg) M).bind fun q129 => (f_X9_round (sc (x4 + (1 : Int32)).toNatClampNeg) M).bind fun q132 => if q129 = q132 then k x4 M else some (0 : Int32))
set_option maxRecDepth 100000 in
set_option maxHeartbeats 8000000 in
theorem c_L_law_c9 (Z : Sys) (X : Cx) (b n : Nat) (hR : xR X = room_1) {sc : Nat → Int32} {len : Nat} (hX : va_X b len sc (xs X) (xs X).heap) (hbl : b < (xs X).heap.size) (hbZ : b < zs Z) {q : Int32} (hend : ∀ (pc cs sl : Nat) (loc : List (Nat × Value)) (M : Mem), cs ≤ 601024 → sl ≤ 7293034 → decode Y_L_law.1 pc = .ok (.ireturn, 1) → G Z X Y_L_law False cs sl pc loc [.int q] M) (k : Int32 → Mem → Option Int32) (hk : ∀ (cs sl : Nat) (x4 : Int32) (M : Mem), St M → k x4 M = some q → cs + n ≤ 601024 ∧ sl + 6 * n ≤ 7293034 → G Z X Y_L_law False cs sl 1621 [(0, .ref b), (1, .ref (zs Z + 0)), (2, .ref (zs Z + 284)), (3, .ref (zs Z + 300)), (4, .int x4)] [] M) (cs sl : Nat) (x4 : Int32) (M : Mem) (hs : St M) (hf : f_L_law_c9 sc len k x4 M = some q) (hb : cs + (n + 1) ≤ 601024 ∧ sl + 6 * (n + 1) ≤ 7293034) : G Z X Y_L_law False cs sl 570 [(0, .ref b), (1, .ref (zs Z + 0)), (2, .ref (zs Z + 284)), (3, .ref (zs Z + 300)), (4, .int x4)] [] M := by
  unfold f_L_law_c9 at hf
  refine G.aload_n 570 1 dL_law_570 rfl rfl ?_
  refine G.aload_n 571 0 dL_law_571 rfl rfl ?_
  refine G.iload 572 4 dL_law_572 rfl ?_
  refine G.iconst 574 (1 : Int32) dL_law_574 (by decide +kernel) ?_
  refine G.iadd 575 dL_law_575 ?_
  obtain ⟨g127, hf⟩ := gd_e hf
  refine G.sld 576 (x4 + (1 : Int32)).toNatClampNeg hX hbl hbZ g127 rfl dL_law_576 ?_
  obtain ⟨q129, e130, hf⟩ := bd_e hf
  refine G.cvI 577 (As := [.int (sc (x4 + (1 : Int32)).toNatClampNeg)]) ck_8 (hs.k k0_0) (c_X8_round Z hs (sc (x4 + (1 : Int32)).toNatClampNeg) e130) mk_X8_round vk_X8_round rfl wd_584 hR ⟨Nat.le_of_ble_eq_true rfl, Nat.le_of_ble_eq_true rfl, by simp only [rm_L_element, rm_X8_round, rm_X8_toss, room_1]; omega, by simp only [rm_L_element, rm_X8_round, rm_X8_toss, room_1]; omega⟩ ⟨rfl, rfl⟩ rfl (Nat.le_of_ble_eq_true rfl) dL_law_577 (fun hs128 => ?_)
  refine G.aload_n 580 2 dL_law_580 rfl rfl ?_
  refine G.aload_n 581 0 dL_law_581 rfl rfl ?_
  refine G.iload 582 4 dL_law_582 rfl ?_
  refine G.iconst 584 (1 : Int32) dL_law_584 (by decide +kernel) ?_
  refine G.iadd 585 dL_law_585 ?_
  refine G.sld 586 (x4 + (1 : Int32)).toNatClampNeg hX hbl hbZ g127 rfl dL_law_586 ?_
  obtain ⟨q132, e133, hf⟩ := bd_e hf
  refine G.cvI 587 (As := [.int (sc (x4 + (1 : Int32)).toNatClampNeg)]) ck_9 (hs128.k k0_284) (c_X9_round Z hs128 (sc (x4 + (1 : Int32)).toNatClampNeg) e133) mk_X9_round vk_X9_round rfl wd_1496 hR ⟨Nat.le_of_ble_eq_true rfl, Nat.le_of_ble_eq_true rfl, by simp only [rm_L_element, rm_X8_toss, rm_X9_round, room_1]; omega, by simp only [rm_L_element, rm_X8_toss, rm_X9_round, room_1]; omega⟩ ⟨rfl, rfl⟩ rfl (Nat.le_of_ble_eq_true rfl) dL_law_587 (fun hs131 => ?_)
  refine G.icmp_eq 590 1621 dL_law_590 (by decide) (fun h134 => ?_) (fun h134 => ?_)
  · replace hf := (if_pos h134).symm.trans hf
    exact hk _ _ x4 M hs131 hf (by (try simp only [rm_X8_toss, rm_L_element]); omega)
  · replace hf := (if_neg h134).symm.trans hf
    refine G.iconst 593 (0 : Int32) dL_law_593 (by decide +kernel) ?_
    have hf9 := Option.some.inj hf; subst hf9
    exact hend 594 _ _ _ _ (by (try simp only [rm_X8_toss, rm_L_element]); omega) (by (try simp only [rm_X8_toss, rm_L_element]); omega) dL_law_594
def f_L_law_c10 (sc : Nat → Int32) (len : Nat) (k : Int32 → Mem → Option Int32) (x4 : Int32) (M : Mem) : Option Int32 := gd (inR (x4 + (1 : Int32)) len) (gd (inR (x4 + (2 : Int32)) len) ((f_X8_may (sc (x4 + (1 : Int32)).toNatClampNeg) (sc (x4 + (2 : Int32)).toNatClampNeg)).bind fun q138 => (f_X9_may (sc (x4 + (1 : Int32)).toNatClampNeg) (sc (x4 + (2 : Int32)).toNatClampNeg)).bind fun q141 => if q138 = q141 then k x4 M else some (0 : Int32)))
set_option maxRecDepth 100000 in
set_option maxHeartbeats 8000000 in
theorem c_L_law_c10 (Z : Sys) (X : Cx) (b n : Nat) (hR : xR X = room_1) {sc : Nat → Int32} {len : Nat} (hX : va_X b len sc (xs X) (xs X).heap) (hbl : b < (xs X).heap.size) (hbZ : b < zs Z) {q : Int32} (hend : ∀ (pc cs sl : Nat) (loc : List (Nat × Value)) (M : Mem), cs ≤ 601024 → sl ≤ 7293034 → decode Y_L_law.1 pc = .ok (.ireturn, 1) → G Z X Y_L_law False cs sl pc loc [.int q] M) (k : Int32 → Mem → Option Int32) (hk : ∀ (cs sl : Nat) (x4 : Int32) (M : Mem), St M → k x4 M = some q → cs + n ≤ 601024 ∧ sl + 6 * n ≤ 7293034 → G Z X Y_L_law False cs sl 1621 [(0, .ref b), (1, .ref (zs Z + 0)), (2, .ref (zs Z + 284)), (3, .ref (zs Z + 300)), (4, .int x4)] [] M) (cs sl : Nat) (x4 : Int32) (M : Mem) (hs : St M) (hf : f_L_law_c10 sc len k x4 M = some q) (hb : cs + (n + 1) ≤ 601024 ∧ sl + 6 * (n + 1) ≤ 7293034) : G Z X Y_L_law False cs sl 595 [(0, .ref b), (1, .ref (zs Z + 0)), (2, .ref (zs Z + 284)), (3, .ref (zs Z + 300)), (4, .int x4)] [] M := by
  unfold f_L_law_c10 at hf
  refine G.aload_n 595 1 dL_law_595 rfl rfl ?_
  refine G.aload_n 596 0 dL_law_596 rfl rfl ?_
  refine G.iload 597 4 dL_law_597 rfl ?_
  refine G.iconst 599 (1 : Int32) dL_law_599 (by decide +kernel) ?_
  refine G.iadd 600 dL_law_600 ?_
  obtain ⟨g135, hf⟩ := gd_e hf
  refine G.sld 601 (x4 + (1 : Int32)).toNatClampNeg hX hbl hbZ g135 rfl dL_law_601 ?_
  refine G.aload_n 602 0 dL_law_602 rfl rfl ?_
  refine G.iload 603 4 dL_law_603 rfl ?_
  refine G.iconst 605 (2 : Int32) dL_law_605 (by decide +kernel) ?_
  refine G.iadd 606 dL_law_606 ?_
  obtain ⟨g136, hf⟩ := gd_e hf
  refine G.sld 607 (x4 + (2 : Int32)).toNatClampNeg hX hbl hbZ g136 rfl dL_law_607 ?_
  obtain ⟨q138, e139, hf⟩ := bd_e hf
  refine G.cvI 608 (As := [.int (sc (x4 + (1 : Int32)).toNatClampNeg), .int (sc (x4 + (2 : Int32)).toNatClampNeg)]) ck_8 (hs.k k0_0) (c_X8_may Z hs (sc (x4 + (1 : Int32)).toNatClampNeg) (sc (x4 + (2 : Int32)).toNatClampNeg) e139) mk_X8_may vk_X8_may rfl wd_596 hR ⟨Nat.le_of_ble_eq_true rfl, Nat.le_of_ble_eq_true rfl, by simp only [rm_L_element, rm_X8_may, rm_X8_toss, room_1]; omega, by simp only [rm_L_element, rm_X8_may, rm_X8_toss, room_1]; omega⟩ ⟨rfl, rfl⟩ rfl (Nat.le_of_ble_eq_true rfl) dL_law_608 (fun hs137 => ?_)
  refine G.aload_n 611 2 dL_law_611 rfl rfl ?_
  refine G.aload_n 612 0 dL_law_612 rfl rfl ?_
  refine G.iload 613 4 dL_law_613 rfl ?_
  refine G.iconst 615 (1 : Int32) dL_law_615 (by decide +kernel) ?_
  refine G.iadd 616 dL_law_616 ?_
  refine G.sld 617 (x4 + (1 : Int32)).toNatClampNeg hX hbl hbZ g135 rfl dL_law_617 ?_
  refine G.aload_n 618 0 dL_law_618 rfl rfl ?_
  refine G.iload 619 4 dL_law_619 rfl ?_
  refine G.iconst 621 (2 : Int32) dL_law_621 (by decide +kernel) ?_
  refine G.iadd 622 dL_law_622 ?_
  refine G.sld 623 (x4 + (2 : Int32)).toNatClampNeg hX hbl hbZ g136 rfl dL_law_623 ?_
  obtain ⟨q141, e142, hf⟩ := bd_e hf
  refine G.cvI 624 (As := [.int (sc (x4 + (1 : Int32)).toNatClampNeg), .int (sc (x4 + (2 : Int32)).toNatClampNeg)]) ck_9 (hs137.k k0_284) (c_X9_may Z hs137 (sc (x4 + (1 : Int32)).toNatClampNeg) (sc (x4 + (2 : Int32)).toNatClampNeg) e142) mk_X9_may vk_X9_may rfl wd_1503 hR ⟨Nat.le_of_ble_eq_true rfl, Nat.le_of_ble_eq_true rfl, by simp only [rm_L_element, rm_X8_toss, rm_X9_may, room_1]; omega, by simp only [rm_L_element, rm_X8_toss, rm_X9_may, room_1]; omega⟩ ⟨rfl, rfl⟩ rfl (Nat.le_of_ble_eq_true rfl) dL_law_624 (fun hs140 => ?_)
  refine G.icmp_eq 627 1621 dL_law_627 (by decide) (fun h143 => ?_) (fun h143 => ?_)
  · replace hf := (if_pos h143).symm.trans hf
    exact hk _ _ x4 M hs140 hf (by (try simp only [rm_X8_toss, rm_L_element]); omega)
  · replace hf := (if_neg h143).symm.trans hf
    refine G.iconst 630 (0 : Int32) dL_law_630 (by decide +kernel) ?_
    have hf9 := Option.some.inj hf; subst hf9
    exact hend 631 _ _ _ _ (by (try simp only [rm_X8_toss, rm_L_element]); omega) (by (try simp only [rm_X8_toss, rm_L_element]); omega) dL_law_631
def f_L_law_c11 (sc : Nat → Int32) (len : Nat) (k : Int32 → Mem → Option Int32) (x4 : Int32) (M : Mem) : Option Int32 := gd (inR (x4 + (1 : Int32)) len) ((f_X8_middle (sc (x4 + (1 : Int32)).toNatClampNeg) M).bind fun q146 => (f_X9_middle (sc (x4 + (1 : Int32)).toNatClampNeg) q146.2).bind fun q149 => if q146.1 = q149.1 then k x4 q149.2 else some (0 : Int32))
set_option maxRecDepth 100000 in
set_option maxHeartbeats 8000000 in
theorem c_L_law_c11 (Z : Sys) (X : Cx) (b n : Nat) (hR : xR X = room_1) {sc : Nat → Int32} {len : Nat} (hX : va_X b len sc (xs X) (xs X).heap) (hbl : b < (xs X).heap.size) (hbZ : b < zs Z) {q : Int32} (hend : ∀ (pc cs sl : Nat) (loc : List (Nat × Value)) (M : Mem), cs ≤ 601024 → sl ≤ 7293034 → decode Y_L_law.1 pc = .ok (.ireturn, 1) → G Z X Y_L_law False cs sl pc loc [.int q] M) (k : Int32 → Mem → Option Int32) (hk : ∀ (cs sl : Nat) (x4 : Int32) (M : Mem), St M → k x4 M = some q → cs + n ≤ 601024 ∧ sl + 6 * n ≤ 7293034 → G Z X Y_L_law False cs sl 1621 [(0, .ref b), (1, .ref (zs Z + 0)), (2, .ref (zs Z + 284)), (3, .ref (zs Z + 300)), (4, .int x4)] [] M) (cs sl : Nat) (x4 : Int32) (M : Mem) (hs : St M) (hf : f_L_law_c11 sc len k x4 M = some q) (hb : cs + (n + 1) ≤ 601024 ∧ sl + 6 * (n + 1) ≤ 7293034) : G Z X Y_L_law False cs sl 632 [(0, .ref b), (1, .ref (zs Z + 0)), (2, .ref (zs Z + 284)), (3, .ref (zs Z + 300)), (4, .int x4)] [] M := by
  unfold f_L_law_c11 at hf
  refine G.aload_n 632 1 dL_law_632 rfl rfl ?_
  refine G.aload_n 633 0 dL_law_633 rfl rfl ?_
  refine G.iload 634 4 dL_law_634 rfl ?_
  refine G.iconst 636 (1 : Int32) dL_law_636 (by decide +kernel) ?_
  refine G.iadd 637 dL_law_637 ?_
  obtain ⟨g144, hf⟩ := gd_e hf
  refine G.sld 638 (x4 + (1 : Int32)).toNatClampNeg hX hbl hbZ g144 rfl dL_law_638 ?_
  obtain ⟨q146, e147, hf⟩ := bd_e hf
  refine G.cvI 639 (As := [.int (sc (x4 + (1 : Int32)).toNatClampNeg)]) ck_8 (hs.k k0_0) (c_X8_middle Z hs (sc (x4 + (1 : Int32)).toNatClampNeg) e147) mk_X8_middle vk_X8_middle rfl wd_607 hR ⟨Nat.le_of_ble_eq_true rfl, Nat.le_of_ble_eq_true rfl, by simp only [rm_L_element, rm_X8_middle, rm_X8_toss, room_1]; omega, by simp only [rm_L_element, rm_X8_middle, rm_X8_toss, room_1]; omega⟩ ⟨rfl, rfl⟩ rfl (Nat.le_of_ble_eq_true rfl) dL_law_639 (fun hs145 => ?_)
  refine G.aload_n 642 2 dL_law_642 rfl rfl ?_
  refine G.aload_n 643 0 dL_law_643 rfl rfl ?_
  refine G.iload 644 4 dL_law_644 rfl ?_
  refine G.iconst 646 (1 : Int32) dL_law_646 (by decide +kernel) ?_
  refine G.iadd 647 dL_law_647 ?_
  refine G.sld 648 (x4 + (1 : Int32)).toNatClampNeg hX hbl hbZ g144 rfl dL_law_648 ?_
  obtain ⟨q149, e150, hf⟩ := bd_e hf
  refine G.cvI 649 (As := [.int (sc (x4 + (1 : Int32)).toNatClampNeg)]) ck_9 (hs145.k k0_284) (c_X9_middle Z hs145 (sc (x4 + (1 : Int32)).toNatClampNeg) e150) mk_X9_middle vk_X9_middle rfl wd_1507 hR ⟨Nat.le_of_ble_eq_true rfl, Nat.le_of_ble_eq_true rfl, by simp only [rm_L_element, rm_X8_toss, rm_X9_middle, room_1]; omega, by simp only [rm_L_element, rm_X8_toss, rm_X9_middle, room_1]; omega⟩ ⟨rfl, rfl⟩ rfl (Nat.le_of_ble_eq_true rfl) dL_law_649 (fun hs148 => ?_)
  refine G.icmp_eq 652 1621 dL_law_652 (by decide) (fun h151 => ?_) (fun h151 => ?_)
  · replace hf := (if_pos h151).symm.trans hf
    exact hk _ _ x4 q149.2 hs148 hf (by (try simp only [rm_X8_toss, rm_L_element]); omega)
  · replace hf := (if_neg h151).symm.trans hf
    refine G.iconst 655 (0 : Int32) dL_law_655 (by decide +kernel) ?_
    have hf9 := Option.some.inj hf; subst hf9
    exact hend 656 _ _ _ _ (by (try simp only [rm_X8_toss, rm_L_element]); omega) (by (try simp only [rm_X8_toss, rm_L_element]); omega) dL_law_656
def f_L_law_c12 (sc : Nat → Int32) (len : Nat) (k : Int32 → Mem → Option Int32) (x4 : Int32) (M : Mem) : Option Int32 := gd (inR (x4 + (1 : Int32)) len) ((f_X8_left (sc (x4 + (1 : Int32)).toNatClampNeg) M).bind fun q154 => (f_X9_left (sc (x4 + (1 : Int32)).toNatClampNeg) q154.2).bind fun q157 => if q154.1 = q157.1 then k x4 q157.2 else some (0 : Int32))
set_option maxRecDepth 100000 in
set_option maxHeartbeats 8000000 in
theorem c_L_law_c12 (Z : Sys) (X : Cx) (b n : Nat) (hR : xR X = room_1) {sc : Nat → Int32} {len : Nat} (hX : va_X b len sc (xs X) (xs X).heap) (hbl : b < (xs X).heap.size) (hbZ : b < zs Z) {q : Int32} (hend : ∀ (pc cs sl : Nat) (loc : List (Nat × Value)) (M : Mem), cs ≤ 601024 → sl ≤ 7293034 → decode Y_L_law.1 pc = .ok (.ireturn, 1) → G Z X Y_L_law False cs sl pc loc [.int q] M) (k : Int32 → Mem → Option Int32) (hk : ∀ (cs sl : Nat) (x4 : Int32) (M : Mem), St M → k x4 M = some q → cs + n ≤ 601024 ∧ sl + 6 * n ≤ 7293034 → G Z X Y_L_law False cs sl 1621 [(0, .ref b), (1, .ref (zs Z + 0)), (2, .ref (zs Z + 284)), (3, .ref (zs Z + 300)), (4, .int x4)] [] M) (cs sl : Nat) (x4 : Int32) (M : Mem) (hs : St M) (hf : f_L_law_c12 sc len k x4 M = some q) (hb : cs + (n + 1) ≤ 601024 ∧ sl + 6 * (n + 1) ≤ 7293034) : G Z X Y_L_law False cs sl 657 [(0, .ref b), (1, .ref (zs Z + 0)), (2, .ref (zs Z + 284)), (3, .ref (zs Z + 300)), (4, .int x4)] [] M := by
  unfold f_L_law_c12 at hf
  refine G.aload_n 657 1 dL_law_657 rfl rfl ?_
  refine G.aload_n 658 0 dL_law_658 rfl rfl ?_
  refine G.iload 659 4 dL_law_659 rfl ?_
  refine G.iconst 661 (1 : Int32) dL_law_661 (by decide +kernel) ?_
  refine G.iadd 662 dL_law_662 ?_
  obtain ⟨g152, hf⟩ := gd_e hf
  refine G.sld 663 (x4 + (1 : Int32)).toNatClampNeg hX hbl hbZ g152 rfl dL_law_663 ?_
  obtain ⟨q154, e155, hf⟩ := bd_e hf
  refine G.cvI 664 (As := [.int (sc (x4 + (1 : Int32)).toNatClampNeg)]) ck_8 (hs.k k0_0) (c_X8_left Z hs (sc (x4 + (1 : Int32)).toNatClampNeg) e155) mk_X8_left vk_X8_left rfl wd_619 hR ⟨Nat.le_of_ble_eq_true rfl, Nat.le_of_ble_eq_true rfl, by simp only [rm_L_element, rm_X8_left, rm_X8_toss, room_1]; omega, by simp only [rm_L_element, rm_X8_left, rm_X8_toss, room_1]; omega⟩ ⟨rfl, rfl⟩ rfl (Nat.le_of_ble_eq_true rfl) dL_law_664 (fun hs153 => ?_)
  refine G.aload_n 667 2 dL_law_667 rfl rfl ?_
  refine G.aload_n 668 0 dL_law_668 rfl rfl ?_
  refine G.iload 669 4 dL_law_669 rfl ?_
  refine G.iconst 671 (1 : Int32) dL_law_671 (by decide +kernel) ?_
  refine G.iadd 672 dL_law_672 ?_
  refine G.sld 673 (x4 + (1 : Int32)).toNatClampNeg hX hbl hbZ g152 rfl dL_law_673 ?_
  obtain ⟨q157, e158, hf⟩ := bd_e hf
  refine G.cvI 674 (As := [.int (sc (x4 + (1 : Int32)).toNatClampNeg)]) ck_9 (hs153.k k0_284) (c_X9_left Z hs153 (sc (x4 + (1 : Int32)).toNatClampNeg) e158) mk_X9_left vk_X9_left rfl wd_1515 hR ⟨Nat.le_of_ble_eq_true rfl, Nat.le_of_ble_eq_true rfl, by simp only [rm_L_element, rm_X8_toss, rm_X9_left, room_1]; omega, by simp only [rm_L_element, rm_X8_toss, rm_X9_left, room_1]; omega⟩ ⟨rfl, rfl⟩ rfl (Nat.le_of_ble_eq_true rfl) dL_law_674 (fun hs156 => ?_)
  refine G.icmp_eq 677 1621 dL_law_677 (by decide) (fun h159 => ?_) (fun h159 => ?_)
  · replace hf := (if_pos h159).symm.trans hf
    exact hk _ _ x4 q157.2 hs156 hf (by (try simp only [rm_X8_toss, rm_L_element]); omega)
  · replace hf := (if_neg h159).symm.trans hf
    refine G.iconst 680 (0 : Int32) dL_law_680 (by decide +kernel) ?_
    have hf9 := Option.some.inj hf; subst hf9
    exact hend 681 _ _ _ _ (by (try simp only [rm_X8_toss, rm_L_element]); omega) (by (try simp only [rm_X8_toss, rm_L_element]); omega) dL_law_681
def f_L_law_c13 (sc : Nat → Int32) (len : Nat) (k : Int32 → Mem → Option Int32) (x4 : Int32) (M : Mem) : Option Int32 := gd (inR (x4 + (1 : Int32)) len) ((f_X8_trulyAll (sc (x4 + (1 : Int32)).toNatClampNeg) M).bind fun q162 => (f_X9_trulyAll (sc (x4 + (1 : Int32)).toNatClampNeg) M).bind fun q165 => if q162 = q165 then k x4 M else some (0 : Int32))
set_option maxRecDepth 100000 in
set_option maxHeartbeats 8000000 in
theorem c_L_law_c13 (Z : Sys) (X : Cx) (b n : Nat) (hR : xR X = room_1) {sc : Nat → Int32} {len : Nat} (hX : va_X b len sc (xs X) (xs X).heap) (hbl : b < (xs X).heap.size) (hbZ : b < zs Z) {q : Int32} (hend : ∀ (pc cs sl : Nat) (loc : List (Nat × Value)) (M : Mem), cs ≤ 601024 → sl ≤ 7293034 → decode Y_L_law.1 pc = .ok (.ireturn, 1) → G Z X Y_L_law False cs sl pc loc [.int q] M) (k : Int32 → Mem → Option Int32) (hk : ∀ (cs sl : Nat) (x4 : Int32) (M : Mem), St M → k x4 M = some q → cs + n ≤ 601024 ∧ sl + 6 * n ≤ 7293034 → G Z X Y_L_law False cs sl 1621 [(0, .ref b), (1, .ref (zs Z + 0)), (2, .ref (zs Z + 284)), (3, .ref (zs Z + 300)), (4, .int x4)] [] M) (cs sl : Nat) (x4 : Int32) (M : Mem) (hs : St M) (hf : f_L_law_c13 sc len k x4 M = some q) (hb : cs + (n + 1) ≤ 601024 ∧ sl + 6 * (n + 1) ≤ 7293034) : G Z X Y_L_law False cs sl 682 [(0, .ref b), (1, .ref (zs Z + 0)), (2, .ref (zs Z + 284)), (3, .ref (zs Z + 300)), (4, .int x4)] [] M := by
  unfold f_L_law_c13 at hf
  refine G.aload_n 682 1 dL_law_682 rfl rfl ?_
  refine G.aload_n 683 0 dL_law_683 rfl rfl ?_
  refine G.iload 684 4 dL_law_684 rfl ?_
  refine G.iconst 686 (1 : Int32) dL_law_686 (by decide +kernel) ?_
  refine G.iadd 687 dL_law_687 ?_
  obtain ⟨g160, hf⟩ := gd_e hf
  refine G.sld 688 (x4 + (1 : Int32)).toNatClampNeg hX hbl hbZ g160 rfl dL_law_688 ?_
  obtain ⟨q162, e163, hf⟩ := bd_e hf
  refine G.cvI 689 (As := [.int (sc (x4 + (1 : Int32)).toNatClampNeg)]) ck_8 (hs.k k0_0) (c_X8_trulyAll Z hs (sc (x4 + (1 : Int32)).toNatClampNeg) e163) mk_X8_trulyAll vk_X8_trulyAll rfl wd_630 hR ⟨Nat.le_of_ble_eq_true rfl, Nat.le_of_ble_eq_true rfl, by simp only [rm_L_element, rm_X8_toss, rm_X8_trulyAll, room_1]; omega, by simp only [rm_L_element, rm_X8_toss, rm_X8_trulyAll, room_1]; omega⟩ ⟨rfl, rfl⟩ rfl (Nat.le_of_ble_eq_true rfl) dL_law_689 (fun hs161 => ?_)
  refine G.aload_n 692 2 dL_law_692 rfl rfl ?_
  refine G.aload_n 693 0 dL_law_693 rfl rfl ?_
  refine G.iload 694 4 dL_law_694 rfl ?_
  refine G.iconst 696 (1 : Int32) dL_law_696 (by decide +kernel) ?_
  refine G.iadd 697 dL_law_697 ?_
  refine G.sld 698 (x4 + (1 : Int32)).toNatClampNeg hX hbl hbZ g160 rfl dL_law_698 ?_
  obtain ⟨q165, e166, hf⟩ := bd_e hf
  refine G.cvI 699 (As := [.int (sc (x4 + (1 : Int32)).toNatClampNeg)]) ck_9 (hs161.k k0_284) (c_X9_trulyAll Z hs161 (sc (x4 + (1 : Int32)).toNatClampNeg) e166) mk_X9_trulyAll vk_X9_trulyAll rfl wd_1525 hR ⟨Nat.le_of_ble_eq_true rfl, Nat.le_of_ble_eq_true rfl, by simp only [rm_L_element, rm_X8_toss, rm_X9_trulyAll, room_1]; omega, by simp only [rm_L_element, rm_X8_toss, rm_X9_trulyAll, room_1]; omega⟩ ⟨rfl, rfl⟩ rfl (Nat.le_of_ble_eq_true rfl) dL_law_699 (fun hs164 => ?_)
  refine G.icmp_eq 702 1621 dL_law_702 (by decide) (fun h167 => ?_) (fun h167 => ?_)
  · replace hf := (if_pos h167).symm.trans hf
    exact hk _ _ x4 M hs164 hf (by (try simp only [rm_X8_toss, rm_L_element]); omega)
  · replace hf := (if_neg h167).symm.trans hf
    refine G.iconst 705 (0 : Int32) dL_law_705 (by decide +kernel) ?_
    have hf9 := Option.some.inj hf; subst hf9
    exact hend 706 _ _ _ _ (by (try simp only [rm_X8_toss, rm_L_element]); omega) (by (try simp only [rm_X8_toss, rm_L_element]); omega) dL_law_706
def f_L_law_c14 (sc : Nat → Int32) (len : Nat) (k : Int32 → Mem → Option Int32) (x4 : Int32) (M : Mem) : Option Int32 := gd (inR (x4 + (1 : Int32)) len) (gd (inR (x4 + (2 : Int32)) len) (if (sc (x4 + (2 : Int32)).toNatClampNeg) = 0 then (f_X8_watch (sc (x4 + (1 : Int32)).toNatClampNeg) (0 : Int32) M).bind fun q172 => if (sc (x4 + (2 : Int32)).toNatClampNeg) = 0 then (f_X9_watch (sc (x4 + (1 : Int32)).toNatClampNeg) (0 : Int32) q172.2).bind fun q176 => if q172.1 = q176.1 then k x4 q176.2 else some (0 : Int32) else (f_X9_watch (sc (x4 + (1 : Int32)).toNatClampNeg) (1 : Int32) q172.2).bind fun q180 => if q172.1 = q180.1 then k x4 q180.2 else some (0 : Int32) else (f_X8_watch (sc (x4 + (1 : Int32)).toNatClampNeg) (1 : Int32) M).bind fun q184 => if (sc (x4 + (2 : Int32)).toNatClampNeg) = 0 then (f_X9_watch (sc (x4 + (1 : Int32)).toNatClampNeg) (0 : Int32) q184.2).bind fun q188 => if q184.1 = q188.1 then k x4 q188.2 else some (0 : Int32) else (f_X9_watch (sc (x4 + (1 : Int32)).toNatClampNeg) (1 : Int32) q184.2).bind fun q192 => if q184.1 = q192.1 then k x4 q192.2 else some (0 : Int32)))
set_option maxRecDepth 100000 in
set_option maxHeartbeats 8000000 in
theorem c_L_law_c14 (Z : Sys) (X : Cx) (b n : Nat) (hR : xR X = room_1) {sc : Nat → Int32} {len : Nat} (hX : va_X b len sc (xs X) (xs X).heap) (hbl : b < (xs X).heap.size) (hbZ : b < zs Z) {q : Int32} (hend : ∀ (pc cs sl : Nat) (loc : List (Nat × Value)) (M : Mem), cs ≤ 601024 → sl ≤ 7293034 → decode Y_L_law.1 pc = .ok (.ireturn, 1) → G Z X Y_L_law False cs sl pc loc [.int q] M) (k : Int32 → Mem → Option Int32) (hk : ∀ (cs sl : Nat) (x4 : Int32) (M : Mem), St M → k x4 M = some q → cs + n ≤ 601024 ∧ sl + 6 * n ≤ 7293034 → G Z X Y_L_law False cs sl 1621 [(0, .ref b), (1, .ref (zs Z + 0)), (2, .ref (zs Z + 284)), (3, .ref (zs Z + 300)), (4, .int x4)] [] M) (cs sl : Nat) (x4 : Int32) (M : Mem) (hs : St M) (hf : f_L_law_c14 sc len k x4 M = some q) (hb : cs + (n + 1) ≤ 601024 ∧ sl + 6 * (n + 1) ≤ 7293034) : G Z X Y_L_law False cs sl 707 [(0, .ref b), (1, .ref (zs Z + 0)), (2, .ref (zs Z + 284)), (3, .ref (zs Z + 300)), (4, .int x4)] [] M := by
  unfold f_L_law_c14 at hf
  refine G.aload_n 707 1 dL_law_707 rfl rfl ?_
  refine G.aload_n 708 0 dL_law_708 rfl rfl ?_
  refine G.iload 709 4 dL_law_709 rfl ?_
  refine G.iconst 711 (1 : Int32) dL_law_711 (by decide +kernel) ?_
  refine G.iadd 712 dL_law_712 ?_
  obtain ⟨g168, hf⟩ := gd_e hf
  refine G.sld 713 (x4 + (1 : Int32)).toNatClampNeg hX hbl hbZ g168 rfl dL_law_713 ?_
  refine G.aload_n 714 0 dL_law_714 rfl rfl ?_
  refine G.iload 715 4 dL_law_715 rfl ?_
  refine G.iconst 717 (2 : Int32) dL_law_717 (by decide +kernel) ?_
  refine G.iadd 718 dL_law_718 ?_
  obtain ⟨g169, hf⟩ := gd_e hf
  refine G.sld 719 (x4 + (2 : Int32)).toNatClampNeg hX hbl hbZ g169 rfl dL_law_719 ?_
  refine G.if_eq 720 727 dL_law_720 (by decide) (fun h170 => ?_) (fun h170 => ?_)
  · replace hf := (if_pos h170).symm.trans hf
    refine G.iconst 727 (0 : Int32) dL_law_727 (by decide +kernel) ?_
    obtain ⟨q172, e173, hf⟩ := bd_e hf
    refine G.cvI 728 (As := [.int (sc (x4 + (1 : Int32)).toNatClampNeg), .int (0 : Int32)]) ck_8 (hs.k k0_0) (c_X8_watch Z hs (sc (x4 + (1 : Int32)).toNatClampNeg) (0 : Int32) e173) mk_X8_watch vk_X8_watch rfl wd_638 hR ⟨Nat.le_of_ble_eq_true rfl, Nat.le_of_ble_eq_true rfl, by simp only [rm_L_element, rm_X8_toss, rm_X8_watch, room_1]; omega, by simp only [rm_L_element, rm_X8_toss, rm_X8_watch, room_1]; omega⟩ ⟨rfl, rfl⟩ rfl (Nat.le_of_ble_eq_true rfl) dL_law_728 (fun hs171 => ?_)
    refine G.aload_n 731 2 dL_law_731 rfl rfl ?_
    refine G.aload_n 732 0 dL_law_732 rfl rfl ?_
    refine G.iload 733 4 dL_law_733 rfl ?_
    refine G.iconst 735 (1 : Int32) dL_law_735 (by decide +kernel) ?_
    refine G.iadd 736 dL_law_736 ?_
    refine G.sld 737 (x4 + (1 : Int32)).toNatClampNeg hX hbl hbZ g168 rfl dL_law_737 ?_
    refine G.aload_n 738 0 dL_law_738 rfl rfl ?_
    refine G.iload 739 4 dL_law_739 rfl ?_
    refine G.iconst 741 (2 : Int32) dL_law_741 (by decide +kernel) ?_
    refine G.iadd 742 dL_law_742 ?_
    refine G.sld 743 (x4 + (2 : Int32)).toNatClampNeg hX hbl hbZ g169 rfl dL_law_743 ?_
    refine G.if_eq 744 751 dL_law_744 (by decide) (fun h174 => ?_) (fun h174 => ?_)
    · replace hf := (if_pos h174).symm.trans hf
      refine G.iconst 751 (0 : Int32) dL_law_751 (by decide +kernel) ?_
      obtain ⟨q176, e177, hf⟩ := bd_e hf
      refine G.cvI 752 (As := [.int (sc (x4 + (1 : Int32)).toNatClampNeg), .int (0 : Int32)]) ck_9 (hs171.k k0_284) (c_X9_watch Z hs171 (sc (x4 + (1 : Int32)).toNatClampNeg) (0 : Int32) e177) mk_X9_watch vk_X9_watch rfl wd_1529 hR ⟨Nat.le_of_ble_eq_true rfl, Nat.le_of_ble_eq_true rfl, by simp only [rm_L_element, rm_X8_toss, rm_X9_watch, room_1]; omega, by simp only [rm_L_element, rm_X8_toss, rm_X9_watch, room_1]; omega⟩ ⟨rfl, rfl⟩ rfl (Nat.le_of_ble_eq_true rfl) dL_law_752 (fun hs175 => ?_)
      refine G.icmp_eq 755 1621 dL_law_755 (by decide) (fun h178 => ?_) (fun h178 => ?_)
      · replace hf := (if_pos h178).symm.trans hf
        exact hk _ _ x4 q176.2 hs175 hf (by (try simp only [rm_X8_toss, rm_L_element]); omega)
      · replace hf := (if_neg h178).symm.trans hf
        refine G.iconst 758 (0 : Int32) dL_law_758 (by decide +kernel) ?_
        have hf9 := Option.some.inj hf; subst hf9
        exact hend 759 _ _ _ _ (by (try simp only [rm_X8_toss, rm_L_element]); omega) (by (try simp only [rm_X8_toss, rm_L_element]); omega) dL_law_759
    · replace hf := (if_neg h174).symm.trans hf
      refine G.iconst 747 (1 : Int32) dL_law_747 (by decide +kernel) ?_
      refine G.goto 748 752 dL_law_748 (by decide) ?_
      obtain ⟨q180, e181, hf⟩ := bd_e hf
      refine G.cvI 752 (As := [.int (sc (x4 + (1 : Int32)).toNatClampNeg), .int (1 : Int32)]) ck_9 (hs171.k k0_284) (c_X9_watch Z hs171 (sc (x4 + (1 : Int32)).toNatClampNeg) (1 : Int32) e181) mk_X9_watch vk_X9_watch rfl wd_1529 hR ⟨Nat.le_of_ble_eq_true rfl, Nat.le_of_ble_eq_true rfl, by simp only [rm_L_element, rm_X8_toss, rm_X9_watch, room_1]; omega, by simp only [rm_L_element, rm_X8_toss, rm_X9_watch, room_1]; omega⟩ ⟨rfl, rfl⟩ rfl (Nat.le_of_ble_eq_true rfl) dL_law_752 (fun hs179 => ?_)
      refine G.icmp_eq 755 1621 dL_law_755 (by decide) (fun h182 => ?_) (fun h182 => ?_)
      · replace hf := (if_pos h182).symm.trans hf
        exact hk _ _ x4 q180.2 hs179 hf (by (try simp only [rm_X8_toss, rm_L_element]); omega)
      · replace hf := (if_neg h182).symm.trans hf
        refine G.iconst 758 (0 : Int32) dL_law_758 (by decide +kernel) ?_
        have hf9 := Option.some.inj hf; subst hf9
        exact hend 759 _ _ _ _ (by (try simp only [rm_X8_toss, rm_L_element]); omega) (by (try simp only [rm_X8_toss, rm_L_element]); omega) dL_law_759
  · replace hf := (if_neg h170).symm.trans hf
    refine G.iconst 723 (1 : Int32) dL_law_723 (by decide +kernel) ?_
    refine G.goto 724 728 dL_law_724 (by decide) ?_
    obtain ⟨q184, e185, hf⟩ := bd_e hf
    refine G.cvI 728 (As := [.int (sc (x4 + (1 : Int32)).toNatClampNeg), .int (1 : Int32)]) ck_8 (hs.k k0_0) (c_X8_watch Z hs (sc (x4 + (1 : Int32)).toNatClampNeg) (1 : Int32) e185) mk_X8_watch vk_X8_watch rfl wd_638 hR ⟨Nat.le_of_ble_eq_true rfl, Nat.le_of_ble_eq_true rfl, by simp only [rm_L_element, rm_X8_toss, rm_X8_watch, room_1]; omega, by simp only [rm_L_element, rm_X8_toss, rm_X8_watch, room_1]; omega⟩ ⟨rfl, rfl⟩ rfl (Nat.le_of_ble_eq_true rfl) dL_law_728 (fun hs183 => ?_)
    refine G.aload_n 731 2 dL_law_731 rfl rfl ?_
    refine G.aload_n 732 0 dL_law_732 rfl rfl ?_
    refine G.iload 733 4 dL_law_733 rfl ?_
    refine G.iconst 735 (1 : Int32) dL_law_735 (by decide +kernel) ?_
    refine G.iadd 736 dL_law_736 ?_
    refine G.sld 737 (x4 + (1 : Int32)).toNatClampNeg hX hbl hbZ g168 rfl dL_law_737 ?_
    refine G.aload_n 738 0 dL_law_738 rfl rfl ?_
    refine G.iload 739 4 dL_law_739 rfl ?_
    refine G.iconst 741 (2 : Int32) dL_law_741 (by decide +kernel) ?_
    refine G.iadd 742 dL_law_742 ?_
    refine G.sld 743 (x4 + (2 : Int32)).toNatClampNeg hX hbl hbZ g169 rfl dL_law_743 ?_
    refine G.if_eq 744 751 dL_law_744 (by decide) (fun h186 => ?_) (fun h186 => ?_)
    · replace hf := (if_pos h186).symm.trans hf
      refine G.iconst 751 (0 : Int32) dL_law_751 (by decide +kernel) ?_
      obtain ⟨q188, e189, hf⟩ := bd_e hf
      refine G.cvI 752 (As := [.int (sc (x4 + (1 : Int32)).toNatClampNeg), .int (0 : Int32)]) ck_9 (hs183.k k0_284) (c_X9_watch Z hs183 (sc (x4 + (1 : Int32)).toNatClampNeg) (0 : Int32) e189) mk_X9_watch vk_X9_watch rfl wd_1529 hR ⟨Nat.le_of_ble_eq_true rfl, Nat.le_of_ble_eq_true rfl, by simp only [rm_L_element, rm_X8_toss, rm_X9_watch, room_1]; omega, by simp only [rm_L_element, rm_X8_toss, rm_X9_watch, room_1]; omega⟩ ⟨rfl, rfl⟩ rfl (Nat.le_of_ble_eq_true rfl) dL_law_752 (fun hs187 => ?_)
      refine G.icmp_eq 755 1621 dL_law_755 (by decide) (fun h190 => ?_) (fun h190 => ?_)
      · replace hf := (if_pos h190).symm.trans hf
        exact hk _ _ x4 q188.2 hs187 hf (by (try simp only [rm_X8_toss, rm_L_element]); omega)
      · replace hf := (if_neg h190).symm.trans hf
        refine G.iconst 758 (0 : Int32) dL_law_758 (by decide +kernel) ?_
        have hf9 := Option.some.inj hf; subst hf9
        exact hend 759 _ _ _ _ (by (try simp only [rm_X8_toss, rm_L_element]); omega) (by (try simp only [rm_X8_toss, rm_L_element]); omega) dL_law_759
    · replace hf := (if_neg h186).symm.trans hf
      refine G.iconst 747 (1 : Int32) dL_law_747 (by decide +kernel) ?_
      refine G.goto 748 752 dL_law_748 (by decide) ?_
      obtain ⟨q192, e193, hf⟩ := bd_e hf
      refine G.cvI 752 (As := [.int (sc (x4 + (1 : Int32)).toNatClampNeg), .int (1 : Int32)]) ck_9 (hs183.k k0_284) (c_X9_watch Z hs183 (sc (x4 + (1 : Int32)).toNatClampNeg) (1 : Int32) e193) mk_X9_watch vk_X9_watch rfl wd_1529 hR ⟨Nat.le_of_ble_eq_true rfl, Nat.le_of_ble_eq_true rfl, by simp only [rm_L_element, rm_X8_toss, rm_X9_watch, room_1]; omega, by simp only [rm_L_element, rm_X8_toss, rm_X9_watch, room_1]; omega⟩ ⟨rfl, rfl⟩ rfl (Nat.le_of_ble_eq_true rfl) dL_law_752 (fun hs191 => ?_)
      refine G.icmp_eq 755 1621 dL_law_755 (by decide) (fun h194 => ?_) (fun h194 => ?_)
      · replace hf := (if_pos h194).symm.trans hf
        exact hk _ _ x4 q192.2 hs191 hf (by (try simp only [rm_X8_toss, rm_L_element]); omega)
      · replace hf := (if_neg h194).symm.trans hf
        refine G.iconst 758 (0 : Int32) dL_law_758 (by decide +kernel) ?_
        have hf9 := Option.some.inj hf; subst hf9
        exact hend 759 _ _ _ _ (by (try simp only [rm_X8_toss, rm_L_element]); omega) (by (try simp only [rm_X8_toss, rm_L_element]); omega) dL_law_759
def f_L_law_c15 (sc : Nat → Int32) (len : Nat) (k : Int32 → Mem → Option Int32) (x4 : Int32) (M : Mem) : Option Int32 := (f_X8_cost M).bind fun q196 => (f_X9_cost q196.2).bind fun q199 => if q196.1 = q199.1 then k x4 q199.2 else some (0 : Int32)
set_option maxRecDepth 100000 in
set_option maxHeartbeats 8000000 in
theorem c_L_law_c15 (Z : Sys) (X : Cx) (b n : Nat) (hR : xR X = room_1) {sc : Nat → Int32} {len : Nat} (hX : va_X b len sc (xs X) (xs X).heap) (hbl : b < (xs X).heap.size) (hbZ : b < zs Z) {q : Int32} (hend : ∀ (pc cs sl : Nat) (loc : List (Nat × Value)) (M : Mem), cs ≤ 601024 → sl ≤ 7293034 → decode Y_L_law.1 pc = .ok (.ireturn, 1) → G Z X Y_L_law False cs sl pc loc [.int q] M) (k : Int32 → Mem → Option Int32) (hk : ∀ (cs sl : Nat) (x4 : Int32) (M : Mem), St M → k x4 M = some q → cs + n ≤ 601024 ∧ sl + 6 * n ≤ 7293034 → G Z X Y_L_law False cs sl 1621 [(0, .ref b), (1, .ref (zs Z + 0)), (2, .ref (zs Z + 284)), (3, .ref (zs Z + 300)), (4, .int x4)] [] M) (cs sl : Nat) (x4 : Int32) (M : Mem) (hs : St M) (hf : f_L_law_c15 sc len k x4 M = some q) (hb : cs + (n + 1) ≤ 601024 ∧ sl + 6 * (n + 1) ≤ 7293034) : G Z X Y_L_law False cs sl 760 [(0, .ref b), (1, .ref (zs Z + 0)), (2, .ref (zs Z + 284)), (3, .ref (zs Z + 300)), (4, .int x4)] [] M := by
  unfold f_L_law_c15 at hf
  refine G.aload_n 760 1 dL_law_760 rfl rfl ?_
  obtain ⟨q196, e197, hf⟩ := bd_e hf
  refine G.cvI 761 (As := []) ck_8 (hs.k k0_0) (c_X8_cost Z hs e197) mk_X8_cost vk_X8_cost rfl wd_642 hR ⟨Nat.le_of_ble_eq_true rfl, Nat.le_of_ble_eq_true rfl, by simp only [rm_L_element, rm_X8_cost, rm_X8_toss, room_1]; omega, by simp only [rm_L_element, rm_X8_cost, rm_X8_toss, room_1]; omega⟩ ⟨rfl, rfl⟩ rfl (Nat.le_of_ble_eq_true rfl) dL_law_761 (fun hs195 => ?_)
  refine G.aload_n 764 2 dL_law_764 rfl rfl ?_
  obtain ⟨q199, e200, hf⟩ := bd_e hf
  refine G.cvI 765 (As := []) ck_9 (hs195.k k0_284) (c_X9_cost Z hs195 e200) mk_X9_cost vk_X9_cost rfl wd_1533 hR ⟨Nat.le_of_ble_eq_true rfl, Nat.le_of_ble_eq_true rfl, by simp only [rm_L_element, rm_X8_toss, rm_X9_cost, room_1]; omega, by simp only [rm_L_element, rm_X8_toss, rm_X9_cost, room_1]; omega⟩ ⟨rfl, rfl⟩ rfl (Nat.le_of_ble_eq_true rfl) dL_law_765 (fun hs198 => ?_)
  refine G.icmp_eq 768 1621 dL_law_768 (by decide) (fun h201 => ?_) (fun h201 => ?_)
  · replace hf := (if_pos h201).symm.trans hf
    exact hk _ _ x4 q199.2 hs198 hf (by (try simp only [rm_X8_toss, rm_L_element]); omega)
  · replace hf := (if_neg h201).symm.trans hf
    refine G.iconst 771 (0 : Int32) dL_law_771 (by decide +kernel) ?_
    have hf9 := Option.some.inj hf; subst hf9
    exact hend 772 _ _ _ _ (by (try simp only [rm_X8_toss, rm_L_element]); omega) (by (try simp only [rm_X8_toss, rm_L_element]); omega) dL_law_772
def f_L_law_c16 (sc : Nat → Int32) (len : Nat) (k : Int32 → Mem → Option Int32) (x4 : Int32) (M : Mem) : Option Int32 := gd (inR (x4 + (1 : Int32)) len) ((f_X8_ways (sc (x4 + (1 : Int32)).toNatClampNeg) M).bind fun q204 => (f_X9_ways (sc (x4 + (1 : Int32)).toNatClampNeg) q204.2).bind fun q207 => if q204.1 = q207.1 then k x4 q207.2 else some (0 : Int32))
set_option maxRecDepth 100000 in
set_option maxHeartbeats 8000000 in
theorem c_L_law_c16 (Z : Sys) (X : Cx) (b n : Nat) (hR : xR X = room_1) {sc : Nat → Int32} {len : Nat} (hX : va_X b len sc (xs X) (xs X).heap) (hbl : b < (xs X).heap.size) (hbZ : b < zs Z) {q : Int32} (hend : ∀ (pc cs sl : Nat) (loc : List (Nat × Value)) (M : Mem), cs ≤ 601024 → sl ≤ 7293034 → decode Y_L_law.1 pc = .ok (.ireturn, 1) → G Z X Y_L_law False cs sl pc loc [.int q] M) (k : Int32 → Mem → Option Int32) (hk : ∀ (cs sl : Nat) (x4 : Int32) (M : Mem), St M → k x4 M = some q → cs + n ≤ 601024 ∧ sl + 6 * n ≤ 7293034 → G Z X Y_L_law False cs sl 1621 [(0, .ref b), (1, .ref (zs Z + 0)), (2, .ref (zs Z + 284)), (3, .ref (zs Z + 300)), (4, .int x4)] [] M) (cs sl : Nat) (x4 : Int32) (M : Mem) (hs : St M) (hf : f_L_law_c16 sc len k x4 M = some q) (hb : cs + (n + 1) ≤ 601024 ∧ sl + 6 * (n + 1) ≤ 7293034) : G Z X Y_L_law False cs sl 773 [(0, .ref b), (1, .ref (zs Z + 0)), (2, .ref (zs Z + 284)), (3, .ref (zs Z + 300)), (4, .int x4)] [] M := by
  unfold f_L_law_c16 at hf
  refine G.aload_n 773 1 dL_law_773 rfl rfl ?_
  refine G.aload_n 774 0 dL_law_774 rfl rfl ?_
  refine G.iload 775 4 dL_law_775 rfl ?_
  refine G.iconst 777 (1 : Int32) dL_law_777 (by decide +kernel) ?_
  refine G.iadd 778 dL_law_778 ?_
  obtain ⟨g202, hf⟩ := gd_e hf
  refine G.sld 779 (x4 + (1 : Int32)).toNatClampNeg hX hbl hbZ g202 rfl dL_law_779 ?_
  obtain ⟨q204, e205, hf⟩ := bd_e hf
  refine G.cvI 780 (As := [.int (sc (x4 + (1 : Int32)).toNatClampNeg)]) ck_8 (hs.k k0_0) (c_X8_ways Z hs (sc (x4 + (1 : Int32)).toNatClampNeg) e205) mk_X8_ways vk_X8_ways rfl wd_659 hR ⟨Nat.le_of_ble_eq_true rfl, Nat.le_of_ble_eq_true rfl, by simp only [rm_L_element, rm_X8_toss, rm_X8_ways, room_1]; omega, by simp only [rm_L_element, rm_X8_toss, rm_X8_ways, room_1]; omega⟩ ⟨rfl, rfl⟩ rfl (Nat.le_of_ble_eq_true rfl) dL_law_780 (fun hs203 => ?_)
  refine G.aload_n 783 2 dL_law_783 rfl rfl ?_
  refine G.aload_n 784 0 dL_law_784 rfl rfl ?_
  refine G.iload 785 4 dL_law_785 rfl ?_
  refine G.iconst 787 (1 : Int32) dL_law_787 (by decide +kernel) ?_
  refine G.iadd 788 dL_law_788 ?_
  refine G.sld 789 (x4 + (1 : Int32)).toNatClampNeg hX hbl hbZ g202 rfl dL_law_789 ?_
  obtain ⟨q207, e208, hf⟩ := bd_e hf
  refine G.cvI 790 (As := [.int (sc (x4 + (1 : Int32)).toNatClampNeg)]) ck_9 (hs203.k k0_284) (c_X9_ways Z hs203 (sc (x4 + (1 : Int32)).toNatClampNeg) e208) mk_X9_ways vk_X9_ways rfl wd_1545 hR ⟨Nat.le_of_ble_eq_true rfl, Nat.le_of_ble_eq_true rfl, by simp only [rm_L_element, rm_X8_toss, rm_X9_ways, room_1]; omega, by simp only [rm_L_element, rm_X8_toss, rm_X9_ways, room_1]; omega⟩ ⟨rfl, rfl⟩ rfl (Nat.le_of_ble_eq_true rfl) dL_law_790 (fun hs206 => ?_)
  refine G.icmp_eq 793 1621 dL_law_793 (by decide) (fun h209 => ?_) (fun h209 => ?_)
  · replace hf := (if_pos h209).symm.trans hf
    exact hk _ _ x4 q207.2 hs206 hf (by (try simp only [rm_X8_toss, rm_L_element]); omega)
  · replace hf := (if_neg h209).symm.trans hf
    refine G.iconst 796 (0 : Int32) dL_law_796 (by decide +kernel) ?_
    have hf9 := Option.some.inj hf; subst hf9
    exact hend 797 _ _ _ _ (by (try simp only [rm_X8_toss, rm_L_element]); omega) (by (try simp only [rm_X8_toss, rm_L_element]); omega) dL_law_797
def f_L_law_c17 (sc : Nat → Int32) (len : Nat) (k : Int32 → Mem → Option Int32) (x4 : Int32) (M : Mem) : Option Int32 := gd (inR (x4 + (1 : Int32)) len) (gd (inR (x4 + (2 : Int32)) len) (gd (inR (x4 + (3 : Int32)) len) ((f_X8_up (sc (x4 + (1 : Int32)).toNatClampNeg) (sc (x4 + (2 : Int32)).toNatClampNeg) (sc (x4 + (3 : Int32)).toNatClampNeg) M).bind fun q214 => (f_X9_up (sc (x4 + (1 : Int32)).toNatClampNeg) (sc (x4 + (2 : Int32)).toNatClampNeg) (sc (x4 + (3 : Int32)).toNatClampNeg) q214.2).bind fun q217 => if q214.1 = q217.1 then k x4 q217.2 else some (0 : Int32))))
set_option maxRecDepth 100000 in
set_option maxHeartbeats 8000000 in
theorem c_L_law_c17 (Z : Sys) (X : Cx) (b n : Nat) (hR : xR X = room_1) {sc : Nat → Int32} {len : Nat} (hX : va_X b len sc (xs X) (xs X).heap) (hbl : b < (xs X).heap.size) (hbZ : b < zs Z) {q : Int32} (hend : ∀ (pc cs sl : Nat) (loc : List (Nat × Value)) (M : Mem), cs ≤ 601024 → sl ≤ 7293034 → decode Y_L_law.1 pc = .ok (.ireturn, 1) → G Z X Y_L_law False cs sl pc loc [.int q] M) (k : Int32 → Mem → Option Int32) (hk : ∀ (cs sl : Nat) (x4 : Int32) (M : Mem), St M → k x4 M = some q → cs + n ≤ 601024 ∧ sl + 6 * n ≤ 7293034 → G Z X Y_L_law False cs sl 1621 [(0, .ref b), (1, .ref (zs Z + 0)), (2, .ref (zs Z + 284)), (3, .ref (zs Z + 300)), (4, .int x4)] [] M) (cs sl : Nat) (x4 : Int32) (M : Mem) (hs : St M) (hf : f_L_law_c17 sc len k x4 M = some q) (hb : cs + (n + 1) ≤ 601024 ∧ sl + 6 * (n + 1) ≤ 7293034) : G Z X Y_L_law False cs sl 798 [(0, .ref b), (1, .ref (zs Z + 0)), (2, .ref (zs Z + 284)), (3, .ref (zs Z + 300)), (4, .int x4)] [] M := by
  unfold f_L_law_c17 at hf
  refine G.aload_n 798 1 dL_law_798 rfl rfl ?_
  refine G.aload_n 799 0 dL_law_799 rfl rfl ?_
  refine G.iload 800 4 dL_law_800 rfl ?_
  refine G.iconst 802 (1 : Int32) dL_law_802 (by decide +kernel) ?_
  refine G.iadd 803 dL_law_803 ?_
  obtain ⟨g210, hf⟩ := gd_e hf
  refine G.sld 804 (x4 + (1 : Int32)).toNatClampNeg hX hbl hbZ g210 rfl dL_law_804 ?_
  refine G.aload_n 805 0 dL_law_805 rfl rfl ?_
  refine G.iload 806 4 dL_law_806 rfl ?_
  refine G.iconst 808 (2 : Int32) dL_law_808 (by decide +kernel) ?_
  refine G.iadd 809 dL_law_809 ?_
  obtain ⟨g211, hf⟩ := gd_e hf
  refine G.sld 810 (x4 + (2 : Int32)).toNatClampNeg hX hbl hbZ g211 rfl dL_law_810 ?_
  refine G.aload_n 811 0 dL_law_811 rfl rfl ?_
  refine G.iload 812 4 dL_law_812 rfl ?_
  refine G.iconst 814 (3 : Int32) dL_law_814 (by decide +kernel) ?_
  refine G.iadd 815 dL_law_815 ?_
  obtain ⟨g212, hf⟩ := gd_e hf
  refine G.sld 816 (x4 + (3 : Int32)).toNatClampNeg hX hbl hbZ g212 rfl dL_law_816 ?_
  obtain ⟨q214, e215, hf⟩ := bd_e hf
  refine G.cvI 817 (As := [.int (sc (x4 + (1 : Int32)).toNatClampNeg), .int (sc (x4 + (2 : Int32)).toNatClampNeg), .int (sc (x4 + (3 : Int32)).toNatClampNeg)]) ck_8 (hs.k k0_0) (c_X8_up Z hs (sc (x4 + (1 : Int32)).toNatClampNeg) (sc (x4 + (2 : Int32)).toNatClampNeg) (sc (x4 + (3 : Int32)).toNatClampNeg) e215) mk_X8_up vk_X8_up rfl wd_682 hR ⟨Nat.le_of_ble_eq_true rfl, Nat.le_of_ble_eq_true rfl, by simp only [rm_L_element, rm_X8_toss, rm_X8_up, room_1]; omega, by simp only [rm_L_element, rm_X8_toss, rm_X8_up, room_1]; omega⟩ ⟨rfl, rfl⟩ rfl (Nat.le_of_ble_eq_true rfl) dL_law_817 (fun hs213 => ?_)
  refine G.aload_n 820 2 dL_law_820 rfl rfl ?_
  refine G.aload_n 821 0 dL_law_821 rfl rfl ?_
  refine G.iload 822 4 dL_law_822 rfl ?_
  refine G.iconst 824 (1 : Int32) dL_law_824 (by decide +kernel) ?_
  refine G.iadd 825 dL_law_825 ?_
  refine G.sld 826 (x4 + (1 : Int32)).toNatClampNeg hX hbl hbZ g210 rfl dL_law_826 ?_
  refine G.aload_n 827 0 dL_law_827 rfl rfl ?_
  refine G.iload 828 4 dL_law_828 rfl ?_
  refine G.iconst 830 (2 : Int32) dL_law_830 (by decide +kernel) ?_
  refine G.iadd 831 dL_law_831 ?_
  refine G.sld 832 (x4 + (2 : Int32)).toNatClampNeg hX hbl hbZ g211 rfl dL_law_832 ?_
  refine G.aload_n 833 0 dL_law_833 rfl rfl ?_
  refine G.iload 834 4 dL_law_834 rfl ?_
  refine G.iconst 836 (3 : Int32) dL_law_836 (by decide +kernel) ?_
  refine G.iadd 837 dL_law_837 ?_
  refine G.sld 838 (x4 + (3 : Int32)).toNatClampNeg hX hbl hbZ g212 rfl dL_law_838 ?_
  obtain ⟨q217, e218, hf⟩ := bd_e hf
  refine G.cvI 839 (As := [.int (sc (x4 + (1 : Int32)).toNatClampNeg), .int (sc (x4 + (2 : Int32)).toNatClampNeg), .int (sc (x4 + (3 : Int32)).toNatClampNeg)]) ck_9 (hs213.k k0_284) (c_X9_up Z hs213 (sc (x4 + (1 : Int32)).toNatClampNeg) (sc (x4 + (2 : Int32)).toNatClampNeg) (sc (x4 + (3 : Int32)).toNatClampNeg) e218) mk_X9_up vk_X9_up rfl wd_1552 hR ⟨Nat.le_of_ble_eq_true rfl, Nat.le_of_ble_eq_true rfl, by simp only [rm_L_element, rm_X8_toss, rm_X9_up, room_1]; omega, by simp only [rm_L_element, rm_X8_toss, rm_X9_up, room_1]; omega⟩ ⟨rfl, rfl⟩ rfl (Nat.le_of_ble_eq_true rfl) dL_law_839 (fun hs216 => ?_)
  refine G.icmp_eq 842 1621 dL_law_842 (by decide) (fun h219 => ?_) (fun h219 => ?_)
  · replace hf := (if_pos h219).symm.trans hf
    exact hk _ _ x4 q217.2 hs216 hf (by (try simp only [rm_X8_toss, rm_L_element]); omega)
  · replace hf := (if_neg h219).symm.trans hf
    refine G.iconst 845 (0 : Int32) dL_law_845 (by decide +kernel) ?_
    have hf9 := Option.some.inj hf; subst hf9
    exact hend 846 _ _ _ _ (by (try simp only [rm_X8_toss, rm_L_element]); omega) (by (try simp only [rm_X8_toss, rm_L_element]); omega) dL_law_846
def f_L_law_c18 (sc : Nat → Int32) (len : Nat) (k : Int32 → Mem → Option Int32) (x4 : Int32) (M : Mem) : Option Int32 := gd (inR (x4 + (1 : Int32)) len) ((f_X8_down (sc (x4 + (1 : Int32)).toNatClampNeg) M).bind fun q222 => (f_X9_down (sc (x4 + (1 : Int32)).toNatClampNeg) q222.2).bind fun q225 => if q222.1 = q225.1 then k x4 q225.2 else some (0 : Int32))
set_option maxRecDepth 100000 in
set_option maxHeartbeats 8000000 in
theorem c_L_law_c18 (Z : Sys) (X : Cx) (b n : Nat) (hR : xR X = room_1) {sc : Nat → Int32} {len : Nat} (hX : va_X b len sc (xs X) (xs X).heap) (hbl : b < (xs X).heap.size) (hbZ : b < zs Z) {q : Int32} (hend : ∀ (pc cs sl : Nat) (loc : List (Nat × Value)) (M : Mem), cs ≤ 601024 → sl ≤ 7293034 → decode Y_L_law.1 pc = .ok (.ireturn, 1) → G Z X Y_L_law False cs sl pc loc [.int q] M) (k : Int32 → Mem → Option Int32) (hk : ∀ (cs sl : Nat) (x4 : Int32) (M : Mem), St M → k x4 M = some q → cs + n ≤ 601024 ∧ sl + 6 * n ≤ 7293034 → G Z X Y_L_law False cs sl 1621 [(0, .ref b), (1, .ref (zs Z + 0)), (2, .ref (zs Z + 284)), (3, .ref (zs Z + 300)), (4, .int x4)] [] M) (cs sl : Nat) (x4 : Int32) (M : Mem) (hs : St M) (hf : f_L_law_c18 sc len k x4 M = some q) (hb : cs + (n + 1) ≤ 601024 ∧ sl + 6 * (n + 1) ≤ 7293034) : G Z X Y_L_law False cs sl 847 [(0, .ref b), (1, .ref (zs Z + 0)), (2, .ref (zs Z + 284)), (3, .ref (zs Z + 300)), (4, .int x4)] [] M := by
  unfold f_L_law_c18 at hf
  refine G.aload_n 847 1 dL_law_847 rfl rfl ?_
  refine G.aload_n 848 0 dL_law_848 rfl rfl ?_
  refine G.iload 849 4 dL_law_849 rfl ?_
  refine G.iconst 851 (1 : Int32) dL_law_851 (by decide +kernel) ?_
  refine G.iadd 852 dL_law_852 ?_
  obtain ⟨g220, hf⟩ := gd_e hf
  refine G.sld 853 (x4 + (1 : Int32)).toNatClampNeg hX hbl hbZ g220 rfl dL_law_853 ?_
  obtain ⟨q222, e223, hf⟩ := bd_e hf
  refine G.cvI 854 (As := [.int (sc (x4 + (1 : Int32)).toNatClampNeg)]) ck_8 (hs.k k0_0) (c_X8_down Z hs (sc (x4 + (1 : Int32)).toNatClampNeg) e223) mk_X8_down vk_X8_down rfl wd_690 hR ⟨Nat.le_of_ble_eq_true rfl, Nat.le_of_ble_eq_true rfl, by simp only [rm_L_element, rm_X8_down, rm_X8_toss, room_1]; omega, by simp only [rm_L_element, rm_X8_down, rm_X8_toss, room_1]; omega⟩ ⟨rfl, rfl⟩ rfl (Nat.le_of_ble_eq_true rfl) dL_law_854 (fun hs221 => ?_)
  refine G.aload_n 857 2 dL_law_857 rfl rfl ?_
  refine G.aload_n 858 0 dL_law_858 rfl rfl ?_
  refine G.iload 859 4 dL_law_859 rfl ?_
  refine G.iconst 861 (1 : Int32) dL_law_861 (by decide +kernel) ?_
  refine G.iadd 862 dL_law_862 ?_
  refine G.sld 863 (x4 + (1 : Int32)).toNatClampNeg hX hbl hbZ g220 rfl dL_law_863 ?_
  obtain ⟨q225, e226, hf⟩ := bd_e hf
  refine G.cvI 864 (As := [.int (sc (x4 + (1 : Int32)).toNatClampNeg)]) ck_9 (hs221.k k0_284) (c_X9_down Z hs221 (sc (x4 + (1 : Int32)).toNatClampNeg) e226) mk_X9_down vk_X9_down rfl wd_1558 hR ⟨Nat.le_of_ble_eq_true rfl, Nat.le_of_ble_eq_true rfl, by simp only [rm_L_element, rm_X8_toss, rm_X9_down, room_1]; omega, by simp only [rm_L_element, rm_X8_toss, rm_X9_down, room_1]; omega⟩ ⟨rfl, rfl⟩ rfl (Nat.le_of_ble_eq_true rfl) dL_law_864 (fun hs224 => ?_)
  refine G.icmp_eq 867 1621 dL_law_867 (by decide) (fun h227 => ?_) (fun h227 => ?_)
  · replace hf := (if_pos h227).symm.trans hf
    exact hk _ _ x4 q225.2 hs224 hf (by (try simp only [rm_X8_toss, rm_L_element]); omega)
  · replace hf := (if_neg h227).symm.trans hf
    refine G.iconst 870 (0 : Int32) dL_law_870 (by decide +kernel) ?_
    have hf9 := Option.some.inj hf; subst hf9
    exact hend 871 _ _ _ _ (by (try simp only [rm_X8_toss, rm_L_element]); omega) (by (try simp only [rm_X8_toss, rm_L_element]); omega) dL_law_871
def f_L_law_c19 (sc : Nat → Int32) (len : Nat) (k : Int32 → Mem → Option Int32) (x4 : Int32) (M : Mem) : Option Int32 := gd (inR (x4 + (1 : Int32)) len) (gd (inR (x4 + (2 : Int32)) len) ((f_X8_sum (sc (x4 + (1 : Int32)).toNatClampNeg) (sc (x4 + (2 : Int32)).toNatClampNeg) M).bind fun q231 => (f_X9_sum (sc (x4 + (1 : Int32)).toNatClampNeg) (sc (x4 + (2 : Int32)).toNatClampNeg) M).bind fun q234 => if q231 = q234 then k x4 M else some (0 : Int32)))
set_option maxRecDepth 100000 in
set_option maxHeartbeats 8000000 in
theorem c_L_law_c19 (Z : Sys) (X : Cx) (b n : Nat) (hR : xR X = room_1) {sc : Nat → Int32} {len : Nat} (hX : va_X b len sc (xs X) (xs X).heap) (hbl : b < (xs X).heap.size) (hbZ : b < zs Z) {q : Int32} (hend : ∀ (pc cs sl : Nat) (loc : List (Nat × Value)) (M : Mem), cs ≤ 601024 → sl ≤ 7293034 → decode Y_L_law.1 pc = .ok (.ireturn, 1) → G Z X Y_L_law False cs sl pc loc [.int q] M) (k : Int32 → Mem → Option Int32) (hk : ∀ (cs sl : Nat) (x4 : Int32) (M : Mem), St M → k x4 M = some q → cs + n ≤ 601024 ∧ sl + 6 * n ≤ 7293034 → G Z X Y_L_law False cs sl 1621 [(0, .ref b), (1, .ref (zs Z + 0)), (2, .ref (zs Z + 284)), (3, .ref (zs Z + 300)), (4, .int x4)] [] M) (cs sl : Nat) (x4 : Int32) (M : Mem) (hs : St M) (hf : f_L_law_c19 sc len k x4 M = some q) (hb : cs + (n + 1) ≤ 601024 ∧ sl + 6 * (n + 1) ≤ 7293034) : G Z X Y_L_law False cs sl 872 [(0, .ref b), (1, .ref (zs Z + 0)), (2, .ref (zs Z + 284)), (3, .ref (zs Z + 300)), (4, .int x4)] [] M := by
  unfold f_L_law_c19 at hf
  refine G.aload_n 872 1 dL_law_872 rfl rfl ?_
  refine G.aload_n 873 0 dL_law_873 rfl rfl ?_
  refine G.iload 874 4 dL_law_874 rfl ?_
  refine G.iconst 876 (1 : Int32) dL_law_876 (by decide +kernel) ?_
  refine G.iadd 877 dL_law_877 ?_
  obtain ⟨g228, hf⟩ := gd_e hf
  refine G.sld 878 (x4 + (1 : Int32)).toNatClampNeg hX hbl hbZ g228 rfl dL_law_878 ?_
  refine G.aload_n 879 0 dL_law_879 rfl rfl ?_
  refine G.iload 880 4 dL_law_880 rfl ?_
  refine G.iconst 882 (2 : Int32) dL_law_882 (by decide +kernel) ?_
  refine G.iadd 883 dL_law_883 ?_
  obtain ⟨g229, hf⟩ := gd_e hf
  refine G.sld 884 (x4 + (2 : Int32)).toNatClampNeg hX hbl hbZ g229 rfl dL_law_884 ?_
  obtain ⟨q231, e232, hf⟩ := bd_e hf
  refine G.cvI 885 (As := [.int (sc (x4 + (1 : Int32)).toNatClampNeg), .int (sc (x4 + (2 : Int32)).toNatClampNeg)]) ck_8 (hs.k k0_0) (c_X8_sum Z hs (sc (x4 + (1 : Int32)).toNatClampNeg) (sc (x4 + (2 : Int32)).toNatClampNeg) e232) mk_X8_sum vk_X8_sum rfl wd_694 hR ⟨Nat.le_of_ble_eq_true rfl, Nat.le_of_ble_eq_true rfl, by simp only [rm_L_element, rm_X8_sum, rm_X8_toss, room_1]; omega, by simp only [rm_L_element, rm_X8_sum, rm_X8_toss, room_1]; omega⟩ ⟨rfl, rfl⟩ rfl (Nat.le_of_ble_eq_true rfl) dL_law_885 (fun hs230 => ?_)
  refine G.aload_n 888 2 dL_law_888 rfl rfl ?_
  refine G.aload_n 889 0 dL_law_889 rfl rfl ?_
  refine G.iload 890 4 dL_law_890 rfl ?_
  refine G.iconst 892 (1 : Int32) dL_law_892 (by decide +kernel) ?_
  refine G.iadd 893 dL_law_893 ?_
  refine G.sld 894 (x4 + (1 : Int32)).toNatClampNeg hX hbl hbZ g228 rfl dL_law_894 ?_
  refine G.aload_n 895 0 dL_law_895 rfl rfl ?_
  refine G.iload 896 4 dL_law_896 rfl ?_
  refine G.iconst 898 (2 : Int32) dL_law_898 (by decide +kernel) ?_
  refine G.iadd 899 dL_law_899 ?_
  refine G.sld 900 (x4 + (2 : Int32)).toNatClampNeg hX hbl hbZ g229 rfl dL_law_900 ?_
  obtain ⟨q234, e235, hf⟩ := bd_e hf
  refine G.cvI 901 (As := [.int (sc (x4 + (1 : Int32)).toNatClampNeg), .int (sc (x4 + (2 : Int32)).toNatClampNeg)]) ck_9 (hs230.k k0_284) (c_X9_sum Z hs230 (sc (x4 + (1 : Int32)).toNatClampNeg) (sc (x4 + (2 : Int32)).toNatClampNeg) e235) mk_X9_sum vk_X9_sum rfl wd_1562 hR ⟨Nat.le_of_ble_eq_true rfl, Nat.le_of_ble_eq_true rfl, by simp only [rm_L_element, rm_X8_toss, rm_X9_sum, room_1]; omega, by simp only [rm_L_element, rm_X8_toss, rm_X9_sum, room_1]; omega⟩ ⟨rfl, rfl⟩ rfl (Nat.le_of_ble_eq_true rfl) dL_law_901 (fun hs233 => ?_)
  refine G.icmp_eq 904 1621 dL_law_904 (by decide) (fun h236 => ?_) (fun h236 => ?_)
  · replace hf := (if_pos h236).symm.trans hf
    exact hk _ _ x4 M hs233 hf (by (try simp only [rm_X8_toss, rm_L_element]); omega)
  · replace hf := (if_neg h236).symm.trans hf
    refine G.iconst 907 (0 : Int32) dL_law_907 (by decide +kernel) ?_
    have hf9 := Option.some.inj hf; subst hf9
    exact hend 908 _ _ _ _ (by (try simp only [rm_X8_toss, rm_L_element]); omega) (by (try simp only [rm_X8_toss, rm_L_element]); omega) dL_law_908
def f_L_law_c20 (sc : Nat → Int32) (len : Nat) (k : Int32 → Mem → Option Int32) (x4 : Int32) (M : Mem) : Option Int32 := (f_X8_won M).bind fun q238 => (f_X9_won M).bind fun q241 => if q238 = q241 then k x4 M else some (0 : Int32)
set_option maxRecDepth 100000 in
set_option maxHeartbeats 8000000 in
theorem c_L_law_c20 (Z : Sys) (X : Cx) (b n : Nat) (hR : xR X = room_1) {sc : Nat → Int32} {len : Nat} (hX : va_X b len sc (xs X) (xs X).heap) (hbl : b < (xs X).heap.size) (hbZ : b < zs Z) {q : Int32} (hend : ∀ (pc cs sl : Nat) (loc : List (Nat × Value)) (M : Mem), cs ≤ 601024 → sl ≤ 7293034 → decode Y_L_law.1 pc = .ok (.ireturn, 1) → G Z X Y_L_law False cs sl pc loc [.int q] M) (k : Int32 → Mem → Option Int32) (hk : ∀ (cs sl : Nat) (x4 : Int32) (M : Mem), St M → k x4 M = some q → cs + n ≤ 601024 ∧ sl + 6 * n ≤ 7293034 → G Z X Y_L_law False cs sl 1621 [(0, .ref b), (1, .ref (zs Z + 0)), (2, .ref (zs Z + 284)), (3, .ref (zs Z + 300)), (4, .int x4)] [] M) (cs sl : Nat) (x4 : Int32) (M : Mem) (hs : St M) (hf : f_L_law_c20 sc len k x4 M = some q) (hb : cs + (n + 1) ≤ 601024 ∧ sl + 6 * (n + 1) ≤ 7293034) : G Z X Y_L_law False cs sl 909 [(0, .ref b), (1, .ref (zs Z + 0)), (2, .ref (zs Z + 284)), (3, .ref (zs Z + 300)), (4, .int x4)] [] M := by
  unfold f_L_law_c20 at hf
  refine G.aload_n 909 1 dL_law_909 rfl rfl ?_
  obtain ⟨q238, e239, hf⟩ := bd_e hf
  refine G.cvI 910 (As := []) ck_8 (hs.k k0_0) (c_X8_won Z hs e239) mk_X8_won vk_X8_won rfl wd_716 hR ⟨Nat.le_of_ble_eq_true rfl, Nat.le_of_ble_eq_true rfl, by simp only [rm_L_element, rm_X8_toss, rm_X8_won, room_1]; omega, by simp only [rm_L_element, rm_X8_toss, rm_X8_won, room_1]; omega⟩ ⟨rfl, rfl⟩ rfl (Nat.le_of_ble_eq_true rfl) dL_law_910 (fun hs237 => ?_)
  refine G.aload_n 913 2 dL_law_913 rfl rfl ?_
  obtain ⟨q241, e242, hf⟩ := bd_e hf
  refine G.cvI 914 (As := []) ck_9 (hs237.k k0_284) (c_X9_won Z hs237 e242) mk_X9_won vk_X9_won rfl wd_1575 hR ⟨Nat.le_of_ble_eq_true rfl, Nat.le_of_ble_eq_true rfl, by simp only [rm_L_element, rm_X8_toss, rm_X9_won, room_1]; omega, by simp only [rm_L_element, rm_X8_toss, rm_X9_won, room_1]; omega⟩ ⟨rfl, rfl⟩ rfl (Nat.le_of_ble_eq_true rfl) dL_law_914 (fun hs240 => ?_)
  refine G.icmp_eq 917 1621 dL_law_917 (by decide) (fun h243 => ?_) (fun h243 => ?_)
  · replace hf := (if_pos h243).symm.trans hf
    exact hk _ _ x4 M hs240 hf (by (try simp only [rm_X8_toss, rm_L_element]); omega)
  · replace hf := (if_neg h243).symm.trans hf
    refine G.iconst 920 (0 : Int32) dL_law_920 (by decide +kernel) ?_
    have hf9 := Option.some.inj hf; subst hf9
    exact hend 921 _ _ _ _ (by (try simp only [rm_X8_toss, rm_L_element]); omega) (by (try simp only [rm_X8_toss, rm_L_element]); omega) dL_law_921
def f_L_law_c21 (sc : Nat → Int32) (len : Nat) (k : Int32 → Mem → Option Int32) (x4 : Int32) (M : Mem) : Option Int32 := (f_X8_helped M).bind fun q245 => (f_X9_helped M).bind fun q248 => if q245 = q248 then k x4 M else some (0 : Int32)
set_option maxRecDepth 100000 in
set_option maxHeartbeats 8000000 in
theorem c_L_law_c21 (Z : Sys) (X : Cx) (b n : Nat) (hR : xR X = room_1) {sc : Nat → Int32} {len : Nat} (hX : va_X b len sc (xs X) (xs X).heap) (hbl : b < (xs X).heap.size) (hbZ : b < zs Z) {q : Int32} (hend : ∀ (pc cs sl : Nat) (loc : List (Nat × Value)) (M : Mem), cs ≤ 601024 → sl ≤ 7293034 → decode Y_L_law.1 pc = .ok (.ireturn, 1) → G Z X Y_L_law False cs sl pc loc [.int q] M) (k : Int32 → Mem → Option Int32) (hk : ∀ (cs sl : Nat) (x4 : Int32) (M : Mem), St M → k x4 M = some q → cs + n ≤ 601024 ∧ sl + 6 * n ≤ 7293034 → G Z X Y_L_law False cs sl 1621 [(0, .ref b), (1, .ref (zs Z + 0)), (2, .ref (zs Z + 284)), (3, .ref (zs Z + 300)), (4, .int x4)] [] M) (cs sl : Nat) (x4 : Int32) (M : Mem) (hs : St M) (hf : f_L_law_c21 sc len k x4 M = some q) (hb : cs + (n + 1) ≤ 601024 ∧ sl + 6 * (n + 1) ≤ 7293034) : G Z X Y_L_law False cs sl 922 [(0, .ref b), (1, .ref (zs Z + 0)), (2, .ref (zs Z + 284)), (3, .ref (zs Z + 300)), (4, .int x4)] [] M := by
  unfold f_L_law_c21 at hf
  refine G.aload_n 922 1 dL_law_922 rfl rfl ?_
  obtain ⟨q245, e246, hf⟩ := bd_e hf
  refine G.cvI 923 (As := []) ck_8 (hs.k k0_0) (c_X8_helped Z hs e246) mk_X8_helped vk_X8_helped rfl wd_726 hR ⟨Nat.le_of_ble_eq_true rfl, Nat.le_of_ble_eq_true rfl, by simp only [rm_L_element, rm_X8_helped, rm_X8_toss, room_1]; omega, by simp only [rm_L_element, rm_X8_helped, rm_X8_toss, room_1]; omega⟩ ⟨rfl, rfl⟩ rfl (Nat.le_of_ble_eq_true rfl) dL_law_923 (fun hs244 => ?_)
  refine G.aload_n 926 2 dL_law_926 rfl rfl ?_
  obtain ⟨q248, e249, hf⟩ := bd_e hf
  refine G.cvI 927 (As := []) ck_9 (hs244.k k0_284) (c_X9_helped Z hs244 e249) mk_X9_helped vk_X9_helped rfl wd_1579 hR ⟨Nat.le_of_ble_eq_true rfl, Nat.le_of_ble_eq_true rfl, by simp only [rm_L_element, rm_X8_toss, rm_X9_helped, room_1]; omega, by simp only [rm_L_element, rm_X8_toss, rm_X9_helped, room_1]; omega⟩ ⟨rfl, rfl⟩ rfl (Nat.le_of_ble_eq_true rfl) dL_law_927 (fun hs247 => ?_)
  refine G.icmp_eq 930 1621 dL_law_930 (by decide) (fun h250 => ?_) (fun h250 => ?_)
  · replace hf := (if_pos h250).symm.trans hf
    exact hk _ _ x4 M hs247 hf (by (try simp only [rm_X8_toss, rm_L_element]); omega)
  · replace hf := (if_neg h250).symm.trans hf
    refine G.iconst 933 (0 : Int32) dL_law_933 (by decide +kernel) ?_
    have hf9 := Option.some.inj hf; subst hf9
    exact hend 934 _ _ _ _ (by (try simp only [rm_X8_toss, rm_L_element]); omega) (by (try simp only [rm_X8_toss, rm_L_element]); omega) dL_law_934
def f_L_law_c22 (sc : Nat → Int32) (len : Nat) (k : Int32 → Mem → Option Int32) (x4 : Int32) (M : Mem) : Option Int32 := gd (inR (x4 + (1 : Int32)) len) (gd (inR (x4 + (2 : Int32)) len) ((f_X8_untrue (sc (x4 + (1 : Int32)).toNatClampNeg) (sc (x4 + (2 : Int32)).toNatClampNeg) M).bind fun q254 => (f_X9_untrue (sc (x4 + (1 : Int32)).toNatClampNeg) (sc (x4 + (2 : Int32)).toNatClampNeg) M).bind fun q257 => if q254 = q257 then k x4 M else some (0 : Int32)))
set_option maxRecDepth 100000 in
set_option maxHeartbeats 8000000 in
theorem c_L_law_c22 (Z : Sys) (X : Cx) (b n : Nat) (hR : xR X = room_1) {sc : Nat → Int32} {len : Nat} (hX : va_X b len sc (xs X) (xs X).heap) (hbl : b < (xs X).heap.size) (hbZ : b < zs Z) {q : Int32} (hend : ∀ (pc cs sl : Nat) (loc : List (Nat × Value)) (M : Mem), cs ≤ 601024 → sl ≤ 7293034 → decode Y_L_law.1 pc = .ok (.ireturn, 1) → G Z X Y_L_law False cs sl pc loc [.int q] M) (k : Int32 → Mem → Option Int32) (hk : ∀ (cs sl : Nat) (x4 : Int32) (M : Mem), St M → k x4 M = some q → cs + n ≤ 601024 ∧ sl + 6 * n ≤ 7293034 → G Z X Y_L_law False cs sl 1621 [(0, .ref b), (1, .ref (zs Z + 0)), (2, .ref (zs Z + 284)), (3, .ref (zs Z + 300)), (4, .int x4)] [] M) (cs sl : Nat) (x4 : Int32) (M : Mem) (hs : St M) (hf : f_L_law_c22 sc len k x4 M = some q) (hb : cs + (n + 1) ≤ 601024 ∧ sl + 6 * (n + 1) ≤ 7293034) : G Z X Y_L_law False cs sl 935 [(0, .ref b), (1, .ref (zs Z + 0)), (2, .ref (zs Z + 284)), (3, .ref (zs Z + 300)), (4, .int x4)] [] M := by
  unfold f_L_law_c22 at hf
  refine G.aload_n 935 1 dL_law_935 rfl rfl ?_
  refine G.aload_n 936 0 dL_law_936 rfl rfl ?_
  refine G.iload 937 4 dL_law_937 rfl ?_
  refine G.iconst 939 (1 : Int32) dL_law_939 (by decide +kernel) ?_
  refine G.iadd 940 dL_law_940 ?_
  obtain ⟨g251, hf⟩ := gd_e hf
  refine G.sld 941 (x4 + (1 : Int32)).toNatClampNeg hX hbl hbZ g251 rfl dL_law_941 ?_
  refine G.aload_n 942 0 dL_law_942 rfl rfl ?_
  refine G.iload 943 4 dL_law_943 rfl ?_
  refine G.iconst 945 (2 : Int32) dL_law_945 (by decide +kernel) ?_
  refine G.iadd 946 dL_law_946 ?_
  obtain ⟨g252, hf⟩ := gd_e hf
  refine G.sld 947 (x4 + (2 : Int32)).toNatClampNeg hX hbl hbZ g252 rfl dL_law_947 ?_
  obtain ⟨q254, e255, hf⟩ := bd_e hf
  refine G.cvI 948 (As := [.int (sc (x4 + (1 : Int32)).toNatClampNeg), .int (sc (x4 + (2 : Int32)).toNatClampNeg)]) ck_8 (hs.k k0_0) (c_X8_untrue Z hs (sc (x4 + (1 : Int32)).toNatClampNeg) (sc (x4 + (2 : Int32)).toNatClampNeg) e255) mk_X8_untrue vk_X8_untrue rfl wd_742 hR ⟨Nat.le_of_ble_eq_true rfl, Nat.le_of_ble_eq_true rfl, by simp only [rm_L_element, rm_X8_toss, rm_X8_untrue, room_1]; omega, by simp only [rm_L_element, rm_X8_toss, rm_X8_untrue, room_1]; omega⟩ ⟨rfl, rfl⟩ rfl (Nat.le_of_ble_eq_true rfl) dL_law_948 (fun hs253 => ?_)
  refine G.aload_n 951 2 dL_law_951 rfl rfl ?_
  refine G.aload_n 952 0 dL_law_952 rfl rfl ?_
  refine G.iload 953 4 dL_law_953 rfl ?_
  refine G.iconst 955 (1 : Int32) dL_law_955 (by decide +kernel) ?_
  refine G.iadd 956 dL_law_956 ?_
  refine G.sld 957 (x4 + (1 : Int32)).toNatClampNeg hX hbl hbZ g251 rfl dL_law_957 ?_
  refine G.aload_n 958 0 dL_law_958 rfl rfl ?_
  refine G.iload 959 4 dL_law_959 rfl ?_
  refine G.iconst 961 (2 : Int32) dL_law_961 (by decide +kernel) ?_
  refine G.iadd 962 dL_law_962 ?_
  refine G.sld 963 (x4 + (2 : Int32)).toNatClampNeg hX hbl hbZ g252 rfl dL_law_963 ?_
  obtain ⟨q257, e258, hf⟩ := bd_e hf
  refine G.cvI 964 (As := [.int (sc (x4 + (1 : Int32)).toNatClampNeg), .int (sc (x4 + (2 : Int32)).toNatClampNeg)]) ck_9 (hs253.k k0_284) (c_X9_untrue Z hs253 (sc (x4 + (1 : Int32)).toNatClampNeg) (sc (x4 + (2 : Int32)).toNatClampNeg) e258) mk_X9_untrue vk_X9_untrue rfl wd_1583 hR ⟨Nat.le_of_ble_eq_true rfl, Nat.le_of_ble_eq_true rfl, by simp only [rm_L_element, rm_X8_toss, rm_X9_untrue, room_1]; omega, by simp only [rm_L_element, rm_X8_toss, rm_X9_untrue, room_1]; omega⟩ ⟨rfl, rfl⟩ rfl (Nat.le_of_ble_eq_true rfl) dL_law_964 (fun hs256 => ?_)
  refine G.icmp_eq 967 1621 dL_law_967 (by decide) (fun h259 => ?_) (fun h259 => ?_)
  · replace hf := (if_pos h259).symm.trans hf
    exact hk _ _ x4 M hs256 hf (by (try simp only [rm_X8_toss, rm_L_element]); omega)
  · replace hf := (if_neg h259).symm.trans hf
    refine G.iconst 970 (0 : Int32) dL_law_970 (by decide +kernel) ?_
    have hf9 := Option.some.inj hf; subst hf9
    exact hend 971 _ _ _ _ (by (try simp only [rm_X8_toss, rm_L_element]); omega) (by (try simp only [rm_X8_toss, rm_L_element]); omega) dL_law_971
def f_L_law_c23 (sc : Nat → Int32) (len : Nat) (k : Int32 → Mem → Option Int32) (x4 : Int32) (M : Mem) : Option Int32 := (f_X8_turn M).bind fun q261 => (f_X9_turn M).bind fun q264 => if q261 = q264 then k x4 M else some (0 : Int32)
set_option maxRecDepth 100000 in
set_option maxHeartbeats 8000000 in
theorem c_L_law_c23 (Z : Sys) (X : Cx) (b n : Nat) (hR : xR X = room_1) {sc : Nat → Int32} {len : Nat} (hX : va_X b len sc (xs X) (xs X).heap) (hbl : b < (xs X).heap.size) (hbZ : b < zs Z) {q : Int32} (hend : ∀ (pc cs sl : Nat) (loc : List (Nat × Value)) (M : Mem), cs ≤ 601024 → sl ≤ 7293034 → decode Y_L_law.1 pc = .ok (.ireturn, 1) → G Z X Y_L_law False cs sl pc loc [.int q] M) (k : Int32 → Mem → Option Int32) (hk : ∀ (cs sl : Nat) (x4 : Int32) (M : Mem), St M → k x4 M = some q → cs + n ≤ 601024 ∧ sl + 6 * n ≤ 7293034 → G Z X Y_L_law False cs sl 1621 [(0, .ref b), (1, .ref (zs Z + 0)), (2, .ref (zs Z + 284)), (3, .ref (zs Z + 300)), (4, .int x4)] [] M) (cs sl : Nat) (x4 : Int32) (M : Mem) (hs : St M) (hf : f_L_law_c23 sc len k x4 M = some q) (hb : cs + (n + 1) ≤ 601024 ∧ sl + 6 * (n + 1) ≤ 7293034) : G Z X Y_L_law False cs sl 972 [(0, .ref b), (1, .ref (zs Z + 0)), (2, .ref (zs Z + 284)), (3, .ref (zs Z + 300)), (4, .int x4)] [] M := by
  unfold f_L_law_c23 at hf
  refine G.aload_n 972 1 dL_law_972 rfl rfl ?_
  obtain ⟨q261, e262, hf⟩ := bd_e hf
  refine G.cvI 973 (As := []) ck_8 (hs.k k0_0) (c_X8_turn Z hs e262) mk_X8_turn vk_X8_turn rfl wd_768 hR ⟨Nat.le_of_ble_eq_true rfl, Nat.le_of_ble_eq_true rfl, by simp only [rm_L_element, rm_X8_toss, rm_X8_turn, room_1]; omega, by simp only [rm_L_element, rm_X8_toss, rm_X8_turn, room_1]; omega⟩ ⟨rfl, rfl⟩ rfl (Nat.le_of_ble_eq_true rfl) dL_law_973 (fun hs260 => ?_)
  refine G.aload_n 976 2 dL_law_976 rfl rfl ?_
  obtain ⟨q264, e265, hf⟩ := bd_e hf
  refine G.cvI 977 (As := []) ck_9 (hs260.k k0_284) (c_X9_turn Z hs260 e265) mk_X9_turn vk_X9_turn rfl wd_1598 hR ⟨Nat.le_of_ble_eq_true rfl, Nat.le_of_ble_eq_true rfl, by simp only [rm_L_element, rm_X8_toss, rm_X9_turn, room_1]; omega, by simp only [rm_L_element, rm_X8_toss, rm_X9_turn, room_1]; omega⟩ ⟨rfl, rfl⟩ rfl (Nat.le_of_ble_eq_true rfl) dL_law_977 (fun hs263 => ?_)
  refine G.icmp_eq 980 1621 dL_law_980 (by decide) (fun h266 => ?_) (fun h266 => ?_)
  · replace hf := (if_pos h266).symm.trans hf
    exact hk _ _ x4 M hs263 hf (by (try simp only [rm_X8_toss, rm_L_element]); omega)
  · replace hf := (if_neg h266).symm.trans hf
    refine G.iconst 983 (0 : Int32) dL_law_983 (by decide +kernel) ?_
    have hf9 := Option.some.inj hf; subst hf9
    exact hend 984 _ _ _ _ (by (try simp only [rm_X8_toss, rm_L_element]); omega) (by (try simp only [rm_X8_toss, rm_L_element]); omega) dL_law_984
def f_L_law_c24 (sc : Nat → Int32) (len : Nat) (k : Int32 → Mem → Option Int32) (x4 : Int32) (M : Mem) : Option Int32 := gd (inR (x4 + (1 : Int32)) len) (gd (inR (x4 + (2 : Int32)) len) ((f_X8_again (sc (x4 + (1 : Int32)).toNatClampNeg) (sc (x4 + (2 : Int32)).toNatClampNeg) M).bind fun q270 => (f_X9_again (sc (x4 + (1 : Int32)).toNatClampNeg) (sc (x4 + (2 : Int32)).toNatClampNeg) q270.2).bind fun q273 => if q270.1 = q273.1 then k x4 q273.2 else some (0 : Int32)))
set_option maxRecDepth 100000 in
set_option maxHeartbeats 8000000 in
theorem c_L_law_c24 (Z : Sys) (X : Cx) (b n : Nat) (hR : xR X = room_1) {sc : Nat → Int32} {len : Nat} (hX : va_X b len sc (xs X) (xs X).heap) (hbl : b < (xs X).heap.size) (hbZ : b < zs Z) {q : Int32} (hend : ∀ (pc cs sl : Nat) (loc : List (Nat × Value)) (M : Mem), cs ≤ 601024 → sl ≤ 7293034 → decode Y_L_law.1 pc = .ok (.ireturn, 1) → G Z X Y_L_law False cs sl pc loc [.int q] M) (k : Int32 → Mem → Option Int32) (hk : ∀ (cs sl : Nat) (x4 : Int32) (M : Mem), St M → k x4 M = some q → cs + n ≤ 601024 ∧ sl + 6 * n ≤ 7293034 → G Z X Y_L_law False cs sl 1621 [(0, .ref b), (1, .ref (zs Z + 0)), (2, .ref (zs Z + 284)), (3, .ref (zs Z + 300)), (4, .int x4)] [] M) (cs sl : Nat) (x4 : Int32) (M : Mem) (hs : St M) (hf : f_L_law_c24 sc len k x4 M = some q) (hb : cs + (n + 1) ≤ 601024 ∧ sl + 6 * (n + 1) ≤ 7293034) : G Z X Y_L_law False cs sl 985 [(0, .ref b), (1, .ref (zs Z + 0)), (2, .ref (zs Z + 284)), (3, .ref (zs Z + 300)), (4, .int x4)] [] M := by
  unfold f_L_law_c24 at hf
  refine G.aload_n 985 1 dL_law_985 rfl rfl ?_
  refine G.aload_n 986 0 dL_law_986 rfl rfl ?_
  refine G.iload 987 4 dL_law_987 rfl ?_
  refine G.iconst 989 (1 : Int32) dL_law_989 (by decide +kernel) ?_
  refine G.iadd 990 dL_law_990 ?_
  obtain ⟨g267, hf⟩ := gd_e hf
  refine G.sld 991 (x4 + (1 : Int32)).toNatClampNeg hX hbl hbZ g267 rfl dL_law_991 ?_
  refine G.aload_n 992 0 dL_law_992 rfl rfl ?_
  refine G.iload 993 4 dL_law_993 rfl ?_
  refine G.iconst 995 (2 : Int32) dL_law_995 (by decide +kernel) ?_
  refine G.iadd 996 dL_law_996 ?_
  obtain ⟨g268, hf⟩ := gd_e hf
  refine G.sld 997 (x4 + (2 : Int32)).toNatClampNeg hX hbl hbZ g268 rfl dL_law_997 ?_
  obtain ⟨q270, e271, hf⟩ := bd_e hf
  refine G.cvI 998 (As := [.int (sc (x4 + (1 : Int32)).toNatClampNeg), .int (sc (x4 + (2 : Int32)).toNatClampNeg)]) ck_8 (hs.k k0_0) (c_X8_again Z hs (sc (x4 + (1 : Int32)).toNatClampNeg) (sc (x4 + (2 : Int32)).toNatClampNeg) e271) mk_X8_again vk_X8_again rfl wd_789 hR ⟨Nat.le_of_ble_eq_true rfl, Nat.le_of_ble_eq_true rfl, by simp only [rm_L_element, rm_X8_again, rm_X8_toss, room_1]; omega, by simp only [rm_L_element, rm_X8_again, rm_X8_toss, room_1]; omega⟩ ⟨rfl, rfl⟩ rfl (Nat.le_of_ble_eq_true rfl) dL_law_998 (fun hs269 => ?_)
  refine G.aload_n 1001 2 dL_law_1001 rfl rfl ?_
  refine G.aload_n 1002 0 dL_law_1002 rfl rfl ?_
  refine G.iload 1003 4 dL_law_1003 rfl ?_
  refine G.iconst 1005 (1 : Int32) dL_law_1005 (by decide +kernel) ?_
  refine G.iadd 1006 dL_law_1006 ?_
  refine G.sld 1007 (x4 + (1 : Int32)).toNatClampNeg hX hbl hbZ g267 rfl dL_law_1007 ?_
  refine G.aload_n 1008 0 dL_law_1008 rfl rfl ?_
  refine G.iload 1009 4 dL_law_1009 rfl ?_
  refine G.iconst 1011 (2 : Int32) dL_law_1011 (by decide +kernel) ?_
  refine G.iadd 1012 dL_law_1012 ?_
  refine G.sld 1013 (x4 + (2 : Int32)).toNatClampNeg hX hbl hbZ g268 rfl dL_law_1013 ?_
  obtain ⟨q273, e274, hf⟩ := bd_e hf
  refine G.cvI 1014 (As := [.int (sc (x4 + (1 : Int32)).toNatClampNeg), .int (sc (x4 + (2 : Int32)).toNatClampNeg)]) ck_9 (hs269.k k0_284) (c_X9_again Z hs269 (sc (x4 + (1 : Int32)).toNatClampNeg) (sc (x4 + (2 : Int32)).toNatClampNeg) e274) mk_X9_again vk_X9_again rfl wd_1606 hR ⟨Nat.le_of_ble_eq_true rfl, Nat.le_of_ble_eq_true rfl, by simp only [rm_L_element, rm_X8_toss, rm_X9_again, room_1]; omega, by simp only [rm_L_element, rm_X8_toss, rm_X9_again, room_1]; omega⟩ ⟨rfl, rfl⟩ rfl (Nat.le_of_ble_eq_true rfl) dL_law_1014 (fun hs272 => ?_)
  refine G.icmp_eq 1017 1621 dL_law_1017 (by decide) (fun h275 => ?_) (fun h275 => ?_)
  · replace hf := (if_pos h275).symm.trans hf
    exact hk _ _ x4 q273.2 hs272 hf (by (try simp only [rm_X8_toss, rm_L_element]); omega)
  · replace hf := (if_neg h275).symm.trans hf
    refine G.iconst 1020 (0 : Int32) dL_law_1020 (by decide +kernel) ?_
    have hf9 := Option.some.inj hf; subst hf9
    exact hend 1021 _ _ _ _ (by (try simp only [rm_X8_toss, rm_L_element]); omega) (by (try simp only [rm_X8_toss, rm_L_element]); omega) dL_law_1021
def f_L_law_c25 (sc : Nat → Int32) (len : Nat) (k : Int32 → Mem → Option Int32) (x4 : Int32) (M : Mem) : Option Int32 := gd (inR (x4 + (1 : Int32)) len) ((f_X8_measure (sc (x4 + (1 : Int32)).toNatClampNeg) M).bind fun q278 => (f_X9_measure (sc (x4 + (1 : Int32)).toNatClampNeg) q278.2).bind fun q281 => if q278.1 = q281.1 then k x4 q281.2 else some (0 : Int32))
set_option maxRecDepth 100000 in
set_option maxHeartbeats 8000000 in
theorem c_L_law_c25 (Z : Sys) (X : Cx) (b n : Nat) (hR : xR X = room_1) {sc : Nat → Int32} {len : Nat} (hX : va_X b len sc (xs X) (xs X).heap) (hbl : b < (xs X).heap.size) (hbZ : b < zs Z) {q : Int32} (hend : ∀ (pc cs sl : Nat) (loc : List (Nat × Value)) (M : Mem), cs ≤ 601024 → sl ≤ 7293034 → decode Y_L_law.1 pc = .ok (.ireturn, 1) → G Z X Y_L_law False cs sl pc loc [.int q] M) (k : Int32 → Mem → Option Int32) (hk : ∀ (cs sl : Nat) (x4 : Int32) (M : Mem), St M → k x4 M = some q → cs + n ≤ 601024 ∧ sl + 6 * n ≤ 7293034 → G Z X Y_L_law False cs sl 1621 [(0, .ref b), (1, .ref (zs Z + 0)), (2, .ref (zs Z + 284)), (3, .ref (zs Z + 300)), (4, .int x4)] [] M) (cs sl : Nat) (x4 : Int32) (M : Mem) (hs : St M) (hf : f_L_law_c25 sc len k x4 M = some q) (hb : cs + (n + 1) ≤ 601024 ∧ sl + 6 * (n + 1) ≤ 7293034) : G Z X Y_L_law False cs sl 1022 [(0, .ref b), (1, .ref (zs Z + 0)), (2, .ref (zs Z + 284)), (3, .ref (zs Z + 300)), (4, .int x4)] [] M := by
  unfold f_L_law_c25 at hf
  refine G.aload_n 1022 1 dL_law_1022 rfl rfl ?_
  refine G.aload_n 1023 0 dL_law_1023 rfl rfl ?_
  refine G.iload 1024 4 dL_law_1024 rfl ?_
  refine G.iconst 1026 (1 : Int32) dL_law_1026 (by decide +kernel) ?_
  refine G.iadd 1027 dL_law_1027 ?_
  obtain ⟨g276, hf⟩ := gd_e hf
  refine G.sld 1028 (x4 + (1 : Int32)).toNatClampNeg hX hbl hbZ g276 rfl dL_law_1028 ?_
  obtain ⟨q278, e279, hf⟩ := bd_e hf
  refine G.cvI 1029 (As := [.int (sc (x4 + (1 : Int32)).toNatClampNeg)]) ck_8 (hs.k k0_0) (c_X8_measure Z hs (sc (x4 + (1 : Int32)).toNatClampNeg) e279) mk_X8_measure vk_X8_measure rfl wd_809 hR ⟨Nat.le_of_ble_eq_true rfl, Nat.le_of_ble_eq_true rfl, by simp only [rm_L_element, rm_X8_measure, rm_X8_toss, room_1]; omega, by simp only [rm_L_element, rm_X8_measure, rm_X8_toss, room_1]; omega⟩ ⟨rfl, rfl⟩ rfl (Nat.le_of_ble_eq_true rfl) dL_law_1029 (fun hs277 => ?_)
  refine G.aload_n 1032 2 dL_law_1032 rfl rfl ?_
  refine G.aload_n 1033 0 dL_law_1033 rfl rfl ?_
  refine G.iload 1034 4 dL_law_1034 rfl ?_
  refine G.iconst 1036 (1 : Int32) dL_law_1036 (by decide +kernel) ?_
  refine G.iadd 1037 dL_law_1037 ?_
  refine G.sld 1038 (x4 + (1 : Int32)).toNatClampNeg hX hbl hbZ g276 rfl dL_law_1038 ?_
  obtain ⟨q281, e282, hf⟩ := bd_e hf
  refine G.cvI 1039 (As := [.int (sc (x4 + (1 : Int32)).toNatClampNeg)]) ck_9 (hs277.k k0_284) (c_X9_measure Z hs277 (sc (x4 + (1 : Int32)).toNatClampNeg) e282) mk_X9_measure vk_X9_measure rfl wd_1623 hR ⟨Nat.le_of_ble_eq_true rfl, Nat.le_of_ble_eq_true rfl, by simp only [rm_L_element, rm_X8_toss, rm_X9_measure, room_1]; omega, by simp only [rm_L_element, rm_X8_toss, rm_X9_measure, room_1]; omega⟩ ⟨rfl, rfl⟩ rfl (Nat.le_of_ble_eq_true rfl) dL_law_1039 (fun hs280 => ?_)
  refine G.icmp_eq 1042 1621 dL_law_1042 (by decide) (fun h283 => ?_) (fun h283 => ?_)
  · replace hf := (if_pos h283).symm.trans hf
    exact hk _ _ x4 q281.2 hs280 hf (by (try simp only [rm_X8_toss, rm_L_element]); omega)
  · replace hf := (if_neg h283).symm.trans hf
    refine G.iconst 1045 (0 : Int32) dL_law_1045 (by decide +kernel) ?_
    have hf9 := Option.some.inj hf; subst hf9
    exact hend 1046 _ _ _ _ (by (try simp only [rm_X8_toss, rm_L_element]); omega) (by (try simp only [rm_X8_toss, rm_L_element]); omega) dL_law_1046
def f_L_law_c26 (sc : Nat → Int32) (len : Nat) (k : Int32 → Mem → Option Int32) (x4 : Int32) (M : Mem) : Option Int32 := gd (inR (x4 + (1 : Int32)) len) (gd (inR (x4 + (2 : Int32)) len) (gd (inR (x4 + (3 : Int32)) len) ((f_X8_odd (sc (x4 + (1 : Int32)).toNatClampNeg) (sc (x4 + (2 : Int32)).toNatClampNeg) (sc (x4 + (3 : Int32)).toNatClampNeg) M).bind fun q288 => (f_X9_odd (sc (x4 + (1 : Int32)).toNatClampNeg) (sc (x4 + (2 : Int32)).toNatClampNeg) (sc (x4 + (3 : Int32)).toNatClampNeg) q288.2).bind fun q291 => if q288.1 = q291.1 then k x4 q291.2 else some (0 : Int32))))
set_option maxRecDepth 100000 in
set_option maxHeartbeats 8000000 in
theorem c_L_law_c26 (Z : Sys) (X : Cx) (b n : Nat) (hR : xR X = room_1) {sc : Nat → Int32} {len : Nat} (hX : va_X b len sc (xs X) (xs X).heap) (hbl : b < (xs X).heap.size) (hbZ : b < zs Z) {q : Int32} (hend : ∀ (pc cs sl : Nat) (loc : List (Nat × Value)) (M : Mem), cs ≤ 601024 → sl ≤ 7293034 → decode Y_L_law.1 pc = .ok (.ireturn, 1) → G Z X Y_L_law False cs sl pc loc [.int q] M) (k : Int32 → Mem → Option Int32) (hk : ∀ (cs sl : Nat) (x4 : Int32) (M : Mem), St M → k x4 M = some q → cs + n ≤ 601024 ∧ sl + 6 * n ≤ 7293034 → G Z X Y_L_law False cs sl 1621 [(0, .ref b), (1, .ref (zs Z + 0)), (2, .ref (zs Z + 284)), (3, .ref (zs Z + 300)), (4, .int x4)] [] M) (cs sl : Nat) (x4 : Int32) (M : Mem) (hs : St M) (hf : f_L_law_c26 sc len k x4 M = some q) (hb : cs + (n + 1) ≤ 601024 ∧ sl + 6 * (n + 1) ≤ 7293034) : G Z X Y_L_law False cs sl 1047 [(0, .ref b), (1, .ref (zs Z + 0)), (2, .ref (zs Z + 284)), (3, .ref (zs Z + 300)), (4, .int x4)] [] M := by
  unfold f_L_law_c26 at hf
  refine G.aload_n 1047 1 dL_law_1047 rfl rfl ?_
  refine G.aload_n 1048 0 dL_law_1048 rfl rfl ?_
  refine G.iload 1049 4 dL_law_1049 rfl ?_
  refine G.iconst 1051 (1 : Int32) dL_law_1051 (by decide +kernel) ?_
  refine G.iadd 1052 dL_law_1052 ?_
  obtain ⟨g284, hf⟩ := gd_e hf
  refine G.sld 1053 (x4 + (1 : Int32)).toNatClampNeg hX hbl hbZ g284 rfl dL_law_1053 ?_
  refine G.aload_n 1054 0 dL_law_1054 rfl rfl ?_
  refine G.iload 1055 4 dL_law_1055 rfl ?_
  refine G.iconst 1057 (2 : Int32) dL_law_1057 (by decide +kernel) ?_
  refine G.iadd 1058 dL_law_1058 ?_
  obtain ⟨g285, hf⟩ := gd_e hf
  refine G.sld 1059 (x4 + (2 : Int32)).toNatClampNeg hX hbl hbZ g285 rfl dL_law_1059 ?_
  refine G.aload_n 1060 0 dL_law_1060 rfl rfl ?_
  refine G.iload 1061 4 dL_law_1061 rfl ?_
  refine G.iconst 1063 (3 : Int32) dL_law_1063 (by decide +kernel) ?_
  refine G.iadd 1064 dL_law_1064 ?_
  obtain ⟨g286, hf⟩ := gd_e hf
  refine G.sld 1065 (x4 + (3 : Int32)).toNatClampNeg hX hbl hbZ g286 rfl dL_law_1065 ?_
  obtain ⟨q288, e289, hf⟩ := bd_e hf
  refine G.cvI 1066 (As := [.int (sc (x4 + (1 : Int32)).toNatClampNeg), .int (sc (x4 + (2 : Int32)).toNatClampNeg), .int (sc (x4 + (3 : Int32)).toNatClampNeg)]) ck_8 (hs.k k0_0) (c_X8_odd Z hs (sc (x4 + (1 : Int32)).toNatClampNeg) (sc (x4 + (2 : Int32)).toNatClampNeg) (sc (x4 + (3 : Int32)).toNatClampNeg) e289) mk_X8_odd vk_X8_odd rfl wd_827 hR ⟨Nat.le_of_ble_eq_true rfl, Nat.le_of_ble_eq_true rfl, by simp only [rm_L_element, rm_X8_odd, rm_X8_toss, room_1]; omega, by simp only [rm_L_element, rm_X8_odd, rm_X8_toss, room_1]; omega⟩ ⟨rfl, rfl⟩ rfl (Nat.le_of_ble_eq_true rfl) dL_law_1066 (fun hs287 => ?_)
  refine G.aload_n 1069 2 dL_law_1069 rfl rfl ?_
  refine G.aload_n 1070 0 dL_law_1070 rfl rfl ?_
  refine G.iload 1071 4 dL_law_1071 rfl ?_
  refine G.iconst 1073 (1 : Int32) dL_law_1073 (by decide +kernel) ?_
  refine G.iadd 1074 dL_law_1074 ?_
  refine G.sld 1075 (x4 + (1 : Int32)).toNatClampNeg hX hbl hbZ g284 rfl dL_law_1075 ?_
  refine G.aload_n 1076 0 dL_law_1076 rfl rfl ?_
  refine G.iload 1077 4 dL_law_1077 rfl ?_
  refine G.iconst 1079 (2 : Int32) dL_law_1079 (by decide +kernel) ?_
  refine G.iadd 1080 dL_law_1080 ?_
  refine G.sld 1081 (x4 + (2 : Int32)).toNatClampNeg hX hbl hbZ g285 rfl dL_law_1081 ?_
  refine G.aload_n 1082 0 dL_law_1082 rfl rfl ?_
  refine G.iload 1083 4 dL_law_1083 rfl ?_
  refine G.iconst 1085 (3 : Int32) dL_law_1085 (by decide +kernel) ?_
  refine G.iadd 1086 dL_law_1086 ?_
  refine G.sld 1087 (x4 + (3 : Int32)).toNatClampNeg hX hbl hbZ g286 rfl dL_law_1087 ?_
  obtain ⟨q291, e292, hf⟩ := bd_e hf
  refine G.cvI 1088 (As := [.int (sc (x4 + (1 : Int32)).toNatClampNeg), .int (sc (x4 + (2 : Int32)).toNatClampNeg), .int (sc (x4 + (3 : Int32)).toNatClampNeg)]) ck_9 (hs287.k k0_284) (c_X9_odd Z hs287 (sc (x4 + (1 : Int32)).toNatClampNeg) (sc (x4 + (2 : Int32)).toNatClampNeg) (sc (x4 + (3 : Int32)).toNatClampNeg) e292) mk_X9_odd vk_X9_odd rfl wd_1637 hR ⟨Nat.le_of_ble_eq_true rfl, Nat.le_of_ble_eq_true rfl, by simp only [rm_L_element, rm_X8_toss, rm_X9_odd, room_1]; omega, by simp only [rm_L_element, rm_X8_toss, rm_X9_odd, room_1]; omega⟩ ⟨rfl, rfl⟩ rfl (Nat.le_of_ble_eq_true rfl) dL_law_1088 (fun hs290 => ?_)
  refine G.icmp_eq 1091 1621 dL_law_1091 (by decide) (fun h293 => ?_) (fun h293 => ?_)
  · replace hf := (if_pos h293).symm.trans hf
    exact hk _ _ x4 q291.2 hs290 hf (by (try simp only [rm_X8_toss, rm_L_element]); omega)
  · replace hf := (if_neg h293).symm.trans hf
    refine G.iconst 1094 (0 : Int32) dL_law_1094 (by decide +kernel) ?_
    have hf9 := Option.some.inj hf; subst hf9
    exact hend 1095 _ _ _ _ (by (try simp only [rm_X8_toss, rm_L_element]); omega) (by (try simp only [rm_X8_toss, rm_L_element]); omega) dL_law_1095
def f_L_law_c27 (sc : Nat → Int32) (len : Nat) (k : Int32 → Mem → Option Int32) (x4 : Int32) (M : Mem) : Option Int32 := gd (inR (x4 + (1 : Int32)) len) ((f_X8_land (sc (x4 + (1 : Int32)).toNatClampNeg) M).bind fun q296 => (f_X9_land (sc (x4 + (1 : Int32)).toNatClampNeg) q296.2).bind fun q299 => if q296.1 = q299.1 then k x4 q299.2 else some (0 : Int32))
set_option maxRecDepth 100000 in
set_option maxHeartbeats 8000000 in
theorem c_L_law_c27 (Z : Sys) (X : Cx) (b n : Nat) (hR : xR X = room_1) {sc : Nat → Int32} {len : Nat} (hX : va_X b len sc (xs X) (xs X).heap) (hbl : b < (xs X).heap.size) (hbZ : b < zs Z) {q : Int32} (hend : ∀ (pc cs sl : Nat) (loc : List (Nat × Value)) (M : Mem), cs ≤ 601024 → sl ≤ 7293034 → decode Y_L_law.1 pc = .ok (.ireturn, 1) → G Z X Y_L_law False cs sl pc loc [.int q] M) (k : Int32 → Mem → Option Int32) (hk : ∀ (cs sl : Nat) (x4 : Int32) (M : Mem), St M → k x4 M = some q → cs + n ≤ 601024 ∧ sl + 6 * n ≤ 7293034 → G Z X Y_L_law False cs sl 1621 [(0, .ref b), (1, .ref (zs Z + 0)), (2, .ref (zs Z + 284)), (3, .ref (zs Z + 300)), (4, .int x4)] [] M) (cs sl : Nat) (x4 : Int32) (M : Mem) (hs : St M) (hf : f_L_law_c27 sc len k x4 M = some q) (hb : cs + (n + 1) ≤ 601024 ∧ sl + 6 * (n + 1) ≤ 7293034) : G Z X Y_L_law False cs sl 1096 [(0, .ref b), (1, .ref (zs Z + 0)), (2, .ref (zs Z + 284)), (3, .ref (zs Z + 300)), (4, .int x4)] [] M := by
  unfold f_L_law_c27 at hf
  refine G.aload_n 1096 1 dL_law_1096 rfl rfl ?_
  refine G.aload_n 1097 0 dL_law_1097 rfl rfl ?_
  refine G.iload 1098 4 dL_law_1098 rfl ?_
  refine G.iconst 1100 (1 : Int32) dL_law_1100 (by decide +kernel) ?_
  refine G.iadd 1101 dL_law_1101 ?_
  obtain ⟨g294, hf⟩ := gd_e hf
  refine G.sld 1102 (x4 + (1 : Int32)).toNatClampNeg hX hbl hbZ g294 rfl dL_law_1102 ?_
  obtain ⟨q296, e297, hf⟩ := bd_e hf
  refine G.cvI 1103 (As := [.int (sc (x4 + (1 : Int32)).toNatClampNeg)]) ck_8 (hs.k k0_0) (c_X8_land Z hs (sc (x4 + (1 : Int32)).toNatClampNeg) e297) mk_X8_land vk_X8_land rfl wd_866 hR ⟨Nat.le_of_ble_eq_true rfl, Nat.le_of_ble_eq_true rfl, by simp only [rm_L_element, rm_X8_land, rm_X8_toss, room_1]; omega, by simp only [rm_L_element, rm_X8_land, rm_X8_toss, room_1]; omega⟩ ⟨rfl, rfl⟩ rfl (Nat.le_of_ble_eq_true rfl) dL_law_1103 (fun hs295 => ?_)
  refine G.aload_n 1106 2 dL_law_1106 rfl rfl ?_
  refine G.aload_n 1107 0 dL_law_1107 rfl rfl ?_
  refine G.iload 1108 4 dL_law_1108 rfl ?_
  refine G.iconst 1110 (1 : Int32) dL_law_1110 (by decide +kernel) ?_
  refine G.iadd 1111 dL_law_1111 ?_
  refine G.sld 1112 (x4 + (1 : Int32)).toNatClampNeg hX hbl hbZ g294 rfl dL_law_1112 ?_
  obtain ⟨q299, e300, hf⟩ := bd_e hf
  refine G.cvI 1113 (As := [.int (sc (x4 + (1 : Int32)).toNatClampNeg)]) ck_9 (hs295.k k0_284) (c_X9_land Z hs295 (sc (x4 + (1 : Int32)).toNatClampNeg) e300) mk_X9_land vk_X9_land rfl wd_1653 hR ⟨Nat.le_of_ble_eq_true rfl, Nat.le_of_ble_eq_true rfl, by simp only [rm_L_element, rm_X8_toss, rm_X9_land, room_1]; omega, by simp only [rm_L_element, rm_X8_toss, rm_X9_land, room_1]; omega⟩ ⟨rfl, rfl⟩ rfl (Nat.le_of_ble_eq_true rfl) dL_law_1113 (fun hs298 => ?_)
  refine G.icmp_eq 1116 1621 dL_law_1116 (by decide) (fun h301 => ?_) (fun h301 => ?_)
  · replace hf := (if_pos h301).symm.trans hf
    exact hk _ _ x4 q299.2 hs298 hf (by (try simp only [rm_X8_toss, rm_L_element]); omega)
  · replace hf := (if_neg h301).symm.trans hf
    refine G.iconst 1119 (0 : Int32) dL_law_1119 (by decide +kernel) ?_
    have hf9 := Option.some.inj hf; subst hf9
    exact hend 1120 _ _ _ _ (by (try simp only [rm_X8_toss, rm_L_element]); omega) (by (try simp only [rm_X8_toss, rm_L_element]); omega) dL_law_1120
def f_L_law_c28 (sc : Nat → Int32) (len : Nat) (k : Int32 → Mem → Option Int32) (x4 : Int32) (M : Mem) : Option Int32 := gd (inR (x4 + (1 : Int32)) len) ((f_X8_fault (sc (x4 + (1 : Int32)).toNatClampNeg) M).bind fun q304 => (f_X9_fault (sc (x4 + (1 : Int32)).toNatClampNeg) q304.2).bind fun q307 => if q304.1 = q307.1 then k x4 q307.2 else some (0 : Int32))
set_option maxRecDepth 100000 in
set_option maxHeartbeats 8000000 in
theorem c_L_law_c28 (Z : Sys) (X : Cx) (b n : Nat) (hR : xR X = room_1) {sc : Nat → Int32} {len : Nat} (hX : va_X b len sc (xs X) (xs X).heap) (hbl : b < (xs X).heap.size) (hbZ : b < zs Z) {q : Int32} (hend : ∀ (pc cs sl : Nat) (loc : List (Nat × Value)) (M : Mem), cs ≤ 601024 → sl ≤ 7293034 → decode Y_L_law.1 pc = .ok (.ireturn, 1) → G Z X Y_L_law False cs sl pc loc [.int q] M) (k : Int32 → Mem → Option Int32) (hk : ∀ (cs sl : Nat) (x4 : Int32) (M : Mem), St M → k x4 M = some q → cs + n ≤ 601024 ∧ sl + 6 * n ≤ 7293034 → G Z X Y_L_law False cs sl 1621 [(0, .ref b), (1, .ref (zs Z + 0)), (2, .ref (zs Z + 284)), (3, .ref (zs Z + 300)), (4, .int x4)] [] M) (cs sl : Nat) (x4 : Int32) (M : Mem) (hs : St M) (hf : f_L_law_c28 sc len k x4 M = some q) (hb : cs + (n + 1) ≤ 601024 ∧ sl + 6 * (n + 1) ≤ 7293034) : G Z X Y_L_law False cs sl 1121 [(0, .ref b), (1, .ref (zs Z + 0)), (2, .ref (zs Z + 284)), (3, .ref (zs Z + 300)), (4, .int x4)] [] M := by
  unfold f_L_law_c28 at hf
  refine G.aload_n 1121 1 dL_law_1121 rfl rfl ?_
  refine G.aload_n 1122 0 dL_law_1122 rfl rfl ?_
  refine G.iload 1123 4 dL_law_1123 rfl ?_
  refine G.iconst 1125 (1 : Int32) dL_law_1125 (by decide +kernel) ?_
  refine G.iadd 1126 dL_law_1126 ?_
  obtain ⟨g302, hf⟩ := gd_e hf
  refine G.sld 1127 (x4 + (1 : Int32)).toNatClampNeg hX hbl hbZ g302 rfl dL_law_1127 ?_
  obtain ⟨q304, e305, hf⟩ := bd_e hf
  refine G.cvI 1128 (As := [.int (sc (x4 + (1 : Int32)).toNatClampNeg)]) ck_8 (hs.k k0_0) (c_X8_fault Z hs (sc (x4 + (1 : Int32)).toNatClampNeg) e305) mk_X8_fault vk_X8_fault rfl wd_870 hR ⟨Nat.le_of_ble_eq_true rfl, Nat.le_of_ble_eq_true rfl, by simp only [rm_L_element, rm_X8_fault, rm_X8_toss, room_1]; omega, by simp only [rm_L_element, rm_X8_fault, rm_X8_toss, room_1]; omega⟩ ⟨rfl, rfl⟩ rfl (Nat.le_of_ble_eq_true rfl) dL_law_1128 (fun hs303 => ?_)
  refine G.aload_n 1131 2 dL_law_1131 rfl rfl ?_
  refine G.aload_n 1132 0 dL_law_1132 rfl rfl ?_
  refine G.iload 1133 4 dL_law_1133 rfl ?_
  refine G.iconst 1135 (1 : Int32) dL_law_1135 (by decide +kernel) ?_
  refine G.iadd 1136 dL_law_1136 ?_
  refine G.sld 1137 (x4 + (1 : Int32)).toNatClampNeg hX hbl hbZ g302 rfl dL_law_1137 ?_
  obtain ⟨q307, e308, hf⟩ := bd_e hf
  refine G.cvI 1138 (As := [.int (sc (x4 + (1 : Int32)).toNatClampNeg)]) ck_9 (hs303.k k0_284) (c_X9_fault Z hs303 (sc (x4 + (1 : Int32)).toNatClampNeg) e308) mk_X9_fault vk_X9_fault rfl wd_1657 hR ⟨Nat.le_of_ble_eq_true rfl, Nat.le_of_ble_eq_true rfl, by simp only [rm_L_element, rm_X8_toss, rm_X9_fault, room_1]; omega, by simp only [rm_L_element, rm_X8_toss, rm_X9_fault, room_1]; omega⟩ ⟨rfl, rfl⟩ rfl (Nat.le_of_ble_eq_true rfl) dL_law_1138 (fun hs306 => ?_)
  refine G.icmp_eq 1141 1621 dL_law_1141 (by decide) (fun h309 => ?_) (fun h309 => ?_)
  · replace hf := (if_pos h309).symm.trans hf
    exact hk _ _ x4 q307.2 hs306 hf (by (try simp only [rm_X8_toss, rm_L_element]); omega)
  · replace hf := (if_neg h309).symm.trans hf
    refine G.iconst 1144 (0 : Int32) dL_law_1144 (by decide +kernel) ?_
    have hf9 := Option.some.inj hf; subst hf9
    exact hend 1145 _ _ _ _ (by (try simp only [rm_X8_toss, rm_L_element]); omega) (by (try simp only [rm_X8_toss, rm_L_element]); omega) dL_law_1145
def f_L_law_c29 (sc : Nat → Int32) (len : Nat) (k : Int32 → Mem → Option Int32) (x4 : Int32) (M : Mem) : Option Int32 := gd (inR (x4 + (1 : Int32)) len) ((f_X8_mark (sc (x4 + (1 : Int32)).toNatClampNeg) M).bind fun q312 => (f_X9_mark (sc (x4 + (1 : Int32)).toNatClampNeg) q312.2).bind fun q315 => if q312.1 = q315.1 then k x4 q315.2 else some (0 : Int32))
set_option maxRecDepth 100000 in
set_option maxHeartbeats 8000000 in
theorem c_L_law_c29 (Z : Sys) (X : Cx) (b n : Nat) (hR : xR X = room_1) {sc : Nat → Int32} {len : Nat} (hX : va_X b len sc (xs X) (xs X).heap) (hbl : b < (xs X).heap.size) (hbZ : b < zs Z) {q : Int32} (hend : ∀ (pc cs sl : Nat) (loc : List (Nat × Value)) (M : Mem), cs ≤ 601024 → sl ≤ 7293034 → decode Y_L_law.1 pc = .ok (.ireturn, 1) → G Z X Y_L_law False cs sl pc loc [.int q] M) (k : Int32 → Mem → Option Int32) (hk : ∀ (cs sl : Nat) (x4 : Int32) (M : Mem), St M → k x4 M = some q → cs + n ≤ 601024 ∧ sl + 6 * n ≤ 7293034 → G Z X Y_L_law False cs sl 1621 [(0, .ref b), (1, .ref (zs Z + 0)), (2, .ref (zs Z + 284)), (3, .ref (zs Z + 300)), (4, .int x4)] [] M) (cs sl : Nat) (x4 : Int32) (M : Mem) (hs : St M) (hf : f_L_law_c29 sc len k x4 M = some q) (hb : cs + (n + 1) ≤ 601024 ∧ sl + 6 * (n + 1) ≤ 7293034) : G Z X Y_L_law False cs sl 1146 [(0, .ref b), (1, .ref (zs Z + 0)), (2, .ref (zs Z + 284)), (3, .ref (zs Z + 300)), (4, .int x4)] [] M := by
  unfold f_L_law_c29 at hf
  refine G.aload_n 1146 1 dL_law_1146 rfl rfl ?_
  refine G.aload_n 1147 0 dL_law_1147 rfl rfl ?_
  refine G.iload 1148 4 dL_law_1148 rfl ?_
  refine G.iconst 1150 (1 : Int32) dL_law_1150 (by decide +kernel) ?_
  refine G.iadd 1151 dL_law_1151 ?_
  obtain ⟨g310, hf⟩ := gd_e hf
  refine G.sld 1152 (x4 + (1 : Int32)).toNatClampNeg hX hbl hbZ g310 rfl dL_law_1152 ?_
  obtain ⟨q312, e313, hf⟩ := bd_e hf
  refine G.cvI 1153 (As := [.int (sc (x4 + (1 : Int32)).toNatClampNeg)]) ck_8 (hs.k k0_0) (c_X8_mark Z hs (sc (x4 + (1 : Int32)).toNatClampNeg) e313) mk_X8_mark vk_X8_mark rfl wd_1008 hR ⟨Nat.le_of_ble_eq_true rfl, Nat.le_of_ble_eq_true rfl, by simp only [rm_L_element, rm_X8_mark, rm_X8_toss, room_1]; omega, by simp only [rm_L_element, rm_X8_mark, rm_X8_toss, room_1]; omega⟩ ⟨rfl, rfl⟩ rfl (Nat.le_of_ble_eq_true rfl) dL_law_1153 (fun hs311 => ?_)
  refine G.aload_n 1156 2 dL_law_1156 rfl rfl ?_
  refine G.aload_n 1157 0 dL_law_1157 rfl rfl ?_
  refine G.iload 1158 4 dL_law_1158 rfl ?_
  refine G.iconst 1160 (1 : Int32) dL_law_1160 (by decide +kernel) ?_
  refine G.iadd 1161 dL_law_1161 ?_
  refine G.sld 1162 (x4 + (1 : Int32)).toNatClampNeg hX hbl hbZ g310 rfl dL_law_1162 ?_
  obtain ⟨q315, e316, hf⟩ := bd_e hf
  refine G.cvI 1163 (As := [.int (sc (x4 + (1 : Int32)).toNatClampNeg)]) ck_9 (hs311.k k0_284) (c_X9_mark Z hs311 (sc (x4 + (1 : Int32)).toNatClampNeg) e316) mk_X9_mark vk_X9_mark rfl wd_1718 hR ⟨Nat.le_of_ble_eq_true rfl, Nat.le_of_ble_eq_true rfl, by simp only [rm_L_element, rm_X8_toss, rm_X9_mark, room_1]; omega, by simp only [rm_L_element, rm_X8_toss, rm_X9_mark, room_1]; omega⟩ ⟨rfl, rfl⟩ rfl (Nat.le_of_ble_eq_true rfl) dL_law_1163 (fun hs314 => ?_)
  refine G.icmp_eq 1166 1621 dL_law_1166 (by decide) (fun h317 => ?_) (fun h317 => ?_)
  · replace hf := (if_pos h317).symm.trans hf
    exact hk _ _ x4 q315.2 hs314 hf (by (try simp only [rm_X8_toss, rm_L_element]); omega)
  · replace hf := (if_neg h317).symm.trans hf
    refine G.iconst 1169 (0 : Int32) dL_law_1169 (by decide +kernel) ?_
    have hf9 := Option.some.inj hf; subst hf9
    exact hend 1170 _ _ _ _ (by (try simp only [rm_X8_toss, rm_L_element]); omega) (by (try simp only [rm_X8_toss, rm_L_element]); omega) dL_law_1170
def f_L_law_c30 (sc : Nat → Int32) (len : Nat) (k : Int32 → Mem → Option Int32) (x4 : Int32) (M : Mem) : Option Int32 := gd (inR (x4 + (1 : Int32)) len) ((f_X8_marked (sc (x4 + (1 : Int32)).toNatClampNeg) M).bind fun q320 => (f_X9_marked (sc (x4 + (1 : Int32)).toNatClampNeg) q320.2).bind fun q323 => if q320.1 = q323.1 then k x4 q323.2 else some (0 : Int32))
set_option maxRecDepth 100000 in
set_option maxHeartbeats 8000000 in
theorem c_L_law_c30 (Z : Sys) (X : Cx) (b n : Nat) (hR : xR X = room_1) {sc : Nat → Int32} {len : Nat} (hX : va_X b len sc (xs X) (xs X).heap) (hbl : b < (xs X).heap.size) (hbZ : b < zs Z) {q : Int32} (hend : ∀ (pc cs sl : Nat) (loc : List (Nat × Value)) (M : Mem), cs ≤ 601024 → sl ≤ 7293034 → decode Y_L_law.1 pc = .ok (.ireturn, 1) → G Z X Y_L_law False cs sl pc loc [.int q] M) (k : Int32 → Mem → Option Int32) (hk : ∀ (cs sl : Nat) (x4 : Int32) (M : Mem), St M → k x4 M = some q → cs + n ≤ 601024 ∧ sl + 6 * n ≤ 7293034 → G Z X Y_L_law False cs sl 1621 [(0, .ref b), (1, .ref (zs Z + 0)), (2, .ref (zs Z + 284)), (3, .ref (zs Z + 300)), (4, .int x4)] [] M) (cs sl : Nat) (x4 : Int32) (M : Mem) (hs : St M) (hf : f_L_law_c30 sc len k x4 M = some q) (hb : cs + (n + 1) ≤ 601024 ∧ sl + 6 * (n + 1) ≤ 7293034) : G Z X Y_L_law False cs sl 1171 [(0, .ref b), (1, .ref (zs Z + 0)), (2, .ref (zs Z + 284)), (3, .ref (zs Z + 300)), (4, .int x4)] [] M := by
  unfold f_L_law_c30 at hf
  refine G.aload_n 1171 1 dL_law_1171 rfl rfl ?_
  refine G.aload_n 1172 0 dL_law_1172 rfl rfl ?_
  refine G.iload 1173 4 dL_law_1173 rfl ?_
  refine G.iconst 1175 (1 : Int32) dL_law_1175 (by decide +kernel) ?_
  refine G.iadd 1176 dL_law_1176 ?_
  obtain ⟨g318, hf⟩ := gd_e hf
  refine G.sld 1177 (x4 + (1 : Int32)).toNatClampNeg hX hbl hbZ g318 rfl dL_law_1177 ?_
  obtain ⟨q320, e321, hf⟩ := bd_e hf
  refine G.cvI 1178 (As := [.int (sc (x4 + (1 : Int32)).toNatClampNeg)]) ck_8 (hs.k k0_0) (c_X8_marked Z hs (sc (x4 + (1 : Int32)).toNatClampNeg) e321) mk_X8_marked vk_X8_marked rfl wd_1016 hR ⟨Nat.le_of_ble_eq_true rfl, Nat.le_of_ble_eq_true rfl, by simp only [rm_L_element, rm_X8_marked, rm_X8_toss, room_1]; omega, by simp only [rm_L_element, rm_X8_marked, rm_X8_toss, room_1]; omega⟩ ⟨rfl, rfl⟩ rfl (Nat.le_of_ble_eq_true rfl) dL_law_1178 (fun hs319 => ?_)
  refine G.aload_n 1181 2 dL_law_1181 rfl rfl ?_
  refine G.aload_n 1182 0 dL_law_1182 rfl rfl ?_
  refine G.iload 1183 4 dL_law_1183 rfl ?_
  refine G.iconst 1185 (1 : Int32) dL_law_1185 (by decide +kernel) ?_
  refine G.iadd 1186 dL_law_1186 ?_
  refine G.sld 1187 (x4 + (1 : Int32)).toNatClampNeg hX hbl hbZ g318 rfl dL_law_1187 ?_
  obtain ⟨q323, e324, hf⟩ := bd_e hf
  refine G.cvI 1188 (As := [.int (sc (x4 + (1 : Int32)).toNatClampNeg)]) ck_9 (hs319.k k0_284) (c_X9_marked Z hs319 (sc (x4 + (1 : Int32)).toNatClampNeg) e324) mk_X9_marked vk_X9_marked rfl wd_1722 hR ⟨Nat.le_of_ble_eq_true rfl, Nat.le_of_ble_eq_true rfl, by simp only [rm_L_element, rm_X8_toss, rm_X9_marked, room_1]; omega, by simp only [rm_L_element, rm_X8_toss, rm_X9_marked, room_1]; omega⟩ ⟨rfl, rfl⟩ rfl (Nat.le_of_ble_eq_true rfl) dL_law_1188 (fun hs322 => ?_)
  refine G.icmp_eq 1191 1621 dL_law_1191 (by decide) (fun h325 => ?_) (fun h325 => ?_)
  · replace hf := (if_pos h325).symm.trans hf
    exact hk _ _ x4 q323.2 hs322 hf (by (try simp only [rm_X8_toss, rm_L_element]); omega)
  · replace hf := (if_neg h325).symm.trans hf
    refine G.iconst 1194 (0 : Int32) dL_law_1194 (by decide +kernel) ?_
    have hf9 := Option.some.inj hf; subst hf9
    exact hend 1195 _ _ _ _ (by (try simp only [rm_X8_toss, rm_L_element]); omega) (by (try simp only [rm_X8_toss, rm_L_element]); omega) dL_law_1195
def f_L_law_c31 (sc : Nat → Int32) (len : Nat) (k : Int32 → Mem → Option Int32) (x4 : Int32) (M : Mem) : Option Int32 := gd (inR (x4 + (1 : Int32)) len) (gd (inR (x4 + (2 : Int32)) len) ((f_X8_said (sc (x4 + (1 : Int32)).toNatClampNeg) (sc (x4 + (2 : Int32)).toNatClampNeg) M).bind fun q329 => (f_X9_said (sc (x4 + (1 : Int32)).toNatClampNeg) (sc (x4 + (2 : Int32)).toNatClampNeg) q329.2).bind fun q332 => if q329.1 = q332.1 then k x4 q332.2 else some (0 : Int32)))
set_option maxRecDepth 100000 in
set_option maxHeartbeats 8000000 in
theorem c_L_law_c31 (Z : Sys) (X : Cx) (b n : Nat) (hR : xR X = room_1) {sc : Nat → Int32} {len : Nat} (hX : va_X b len sc (xs X) (xs X).heap) (hbl : b < (xs X).heap.size) (hbZ : b < zs Z) {q : Int32} (hend : ∀ (pc cs sl : Nat) (loc : List (Nat × Value)) (M : Mem), cs ≤ 601024 → sl ≤ 7293034 → decode Y_L_law.1 pc = .ok (.ireturn, 1) → G Z X Y_L_law False cs sl pc loc [.int q] M) (k : Int32 → Mem → Option Int32) (hk : ∀ (cs sl : Nat) (x4 : Int32) (M : Mem), St M → k x4 M = some q → cs + n ≤ 601024 ∧ sl + 6 * n ≤ 7293034 → G Z X Y_L_law False cs sl 1621 [(0, .ref b), (1, .ref (zs Z + 0)), (2, .ref (zs Z + 284)), (3, .ref (zs Z + 300)), (4, .int x4)] [] M) (cs sl : Nat) (x4 : Int32) (M : Mem) (hs : St M) (hf : f_L_law_c31 sc len k x4 M = some q) (hb : cs + (n + 1) ≤ 601024 ∧ sl + 6 * (n + 1) ≤ 7293034) : G Z X Y_L_law False cs sl 1196 [(0, .ref b), (1, .ref (zs Z + 0)), (2, .ref (zs Z + 284)), (3, .ref (zs Z + 300)), (4, .int x4)] [] M := by
  unfold f_L_law_c31 at hf
  refine G.aload_n 1196 1 dL_law_1196 rfl rfl ?_
  refine G.aload_n 1197 0 dL_law_1197 rfl rfl ?_
  refine G.iload 1198 4 dL_law_1198 rfl ?_
  refine G.iconst 1200 (1 : Int32) dL_law_1200 (by decide +kernel) ?_
  refine G.iadd 1201 dL_law_1201 ?_
  obtain ⟨g326, hf⟩ := gd_e hf
  refine G.sld 1202 (x4 + (1 : Int32)).toNatClampNeg hX hbl hbZ g326 rfl dL_law_1202 ?_
  refine G.aload_n 1203 0 dL_law_1203 rfl rfl ?_
  refine G.iload 1204 4 dL_law_1204 rfl ?_
  refine G.iconst 1206 (2 : Int32) dL_law_1206 (by decide +kernel) ?_
  refine G.iadd 1207 dL_law_1207 ?_
  obtain ⟨g327, hf⟩ := gd_e hf
  refine G.sld 1208 (x4 + (2 : Int32)).toNatClampNeg hX hbl hbZ g327 rfl dL_law_1208 ?_
  obtain ⟨q329, e330, hf⟩ := bd_e hf
  refine G.cvI 1209 (As := [.int (sc (x4 + (1 : Int32)).toNatClampNeg), .int (sc (x4 + (2 : Int32)).toNatClampNeg)]) ck_8 (hs.k k0_0) (c_X8_said Z hs (sc (x4 + (1 : Int32)).toNatClampNeg) (sc (x4 + (2 : Int32)).toNatClampNeg) e330) mk_X8_said vk_X8_said rfl wd_1078 hR ⟨Nat.le_of_ble_eq_true rfl, Nat.le_of_ble_eq_true rfl, by simp only [rm_L_element, rm_X8_said, rm_X8_toss, room_1]; omega, by simp only [rm_L_element, rm_X8_said, rm_X8_toss, room_1]; omega⟩ ⟨rfl, rfl⟩ rfl (Nat.le_of_ble_eq_true rfl) dL_law_1209 (fun hs328 => ?_)
  refine G.aload_n 1212 2 dL_law_1212 rfl rfl ?_
  refine G.aload_n 1213 0 dL_law_1213 rfl rfl ?_
  refine G.iload 1214 4 dL_law_1214 rfl ?_
  refine G.iconst 1216 (1 : Int32) dL_law_1216 (by decide +kernel) ?_
  refine G.iadd 1217 dL_law_1217 ?_
  refine G.sld 1218 (x4 + (1 : Int32)).toNatClampNeg hX hbl hbZ g326 rfl dL_law_1218 ?_
  refine G.aload_n 1219 0 dL_law_1219 rfl rfl ?_
  refine G.iload 1220 4 dL_law_1220 rfl ?_
  refine G.iconst 1222 (2 : Int32) dL_law_1222 (by decide +kernel) ?_
  refine G.iadd 1223 dL_law_1223 ?_
  refine G.sld 1224 (x4 + (2 : Int32)).toNatClampNeg hX hbl hbZ g327 rfl dL_law_1224 ?_
  obtain ⟨q332, e333, hf⟩ := bd_e hf
  refine G.cvI 1225 (As := [.int (sc (x4 + (1 : Int32)).toNatClampNeg), .int (sc (x4 + (2 : Int32)).toNatClampNeg)]) ck_9 (hs328.k k0_284) (c_X9_said Z hs328 (sc (x4 + (1 : Int32)).toNatClampNeg) (sc (x4 + (2 : Int32)).toNatClampNeg) e333) mk_X9_said vk_X9_said rfl wd_1730 hR ⟨Nat.le_of_ble_eq_true rfl, Nat.le_of_ble_eq_true rfl, by simp only [rm_L_element, rm_X8_toss, rm_X9_said, room_1]; omega, by simp only [rm_L_element, rm_X8_toss, rm_X9_said, room_1]; omega⟩ ⟨rfl, rfl⟩ rfl (Nat.le_of_ble_eq_true rfl) dL_law_1225 (fun hs331 => ?_)
  refine G.icmp_eq 1228 1621 dL_law_1228 (by decide) (fun h334 => ?_) (fun h334 => ?_)
  · replace hf := (if_pos h334).symm.trans hf
    exact hk _ _ x4 q332.2 hs331 hf (by (try simp only [rm_X8_toss, rm_L_element]); omega)
  · replace hf := (if_neg h334).symm.trans hf
    refine G.iconst 1231 (0 : Int32) dL_law_1231 (by decide +kernel) ?_
    have hf9 := Option.some.inj hf; subst hf9
    exact hend 1232 _ _ _ _ (by (try simp only [rm_X8_toss, rm_L_element]); omega) (by (try simp only [rm_X8_toss, rm_L_element]); omega) dL_law_1232
def f_L_law_c32 (sc : Nat → Int32) (len : Nat) (k : Int32 → Mem → Option Int32) (x4 : Int32) (M : Mem) : Option Int32 := (f_X8_image M).bind fun q336 => (f_X9_image q336.2).bind fun q339 => if q336.1 = q339.1 then k x4 q339.2 else some (0 : Int32)
set_option maxRecDepth 100000 in
set_option maxHeartbeats 8000000 in
theorem c_L_law_c32 (Z : Sys) (X : Cx) (b n : Nat) (hR : xR X = room_1) {sc : Nat → Int32} {len : Nat} (hX : va_X b len sc (xs X) (xs X).heap) (hbl : b < (xs X).heap.size) (hbZ : b < zs Z) {q : Int32} (hend : ∀ (pc cs sl : Nat) (loc : List (Nat × Value)) (M : Mem), cs ≤ 601024 → sl ≤ 7293034 → decode Y_L_law.1 pc = .ok (.ireturn, 1) → G Z X Y_L_law False cs sl pc loc [.int q] M) (k : Int32 → Mem → Option Int32) (hk : ∀ (cs sl : Nat) (x4 : Int32) (M : Mem), St M → k x4 M = some q → cs + n ≤ 601024 ∧ sl + 6 * n ≤ 7293034 → G Z X Y_L_law False cs sl 1621 [(0, .ref b), (1, .ref (zs Z + 0)), (2, .ref (zs Z + 284)), (3, .ref (zs Z + 300)), (4, .int x4)] [] M) (cs sl : Nat) (x4 : Int32) (M : Mem) (hs : St M) (hf : f_L_law_c32 sc len k x4 M = some q) (hb : cs + (n + 1) ≤ 601024 ∧ sl + 6 * (n + 1) ≤ 7293034) : G Z X Y_L_law False cs sl 1233 [(0, .ref b), (1, .ref (zs Z + 0)), (2, .ref (zs Z + 284)), (3, .ref (zs Z + 300)), (4, .int x4)] [] M := by
  unfold f_L_law_c32 at hf
  refine G.aload_n 1233 1 dL_law_1233 rfl rfl ?_
  obtain ⟨q336, e337, hf⟩ := bd_e hf
  refine G.cvI 1234 (As := []) ck_8 (hs.k k0_0) (c_X8_image Z hs e337) mk_X8_image vk_X8_image rfl wd_1082 hR ⟨Nat.le_of_ble_eq_true rfl, Nat.le_of_ble_eq_true rfl, by simp only [rm_L_element, rm_X8_image, rm_X8_toss, room_1]; omega, by simp only [rm_L_element, rm_X8_image, rm_X8_toss, room_1]; omega⟩ ⟨rfl, rfl⟩ rfl (Nat.le_of_ble_eq_true rfl) dL_law_1234 (fun hs335 => ?_)
  refine G.aload_n 1237 2 dL_law_1237 rfl rfl ?_
  obtain ⟨q339, e340, hf⟩ := bd_e hf
  refine G.cvI 1238 (As := []) ck_9 (hs335.k k0_284) (c_X9_image Z hs335 e340) mk_X9_image vk_X9_image rfl wd_1734 hR ⟨Nat.le_of_ble_eq_true rfl, Nat.le_of_ble_eq_true rfl, by simp only [rm_L_element, rm_X8_toss, rm_X9_image, room_1]; omega, by simp only [rm_L_element, rm_X8_toss, rm_X9_image, room_1]; omega⟩ ⟨rfl, rfl⟩ rfl (Nat.le_of_ble_eq_true rfl) dL_law_1238 (fun hs338 => ?_)
  refine G.icmp_eq 1241 1621 dL_law_1241 (by decide) (fun h341 => ?_) (fun h341 => ?_)
  · replace hf := (if_pos h341).symm.trans hf
    exact hk _ _ x4 q339.2 hs338 hf (by (try simp only [rm_X8_toss, rm_L_element]); omega)
  · replace hf := (if_neg h341).symm.trans hf
    refine G.iconst 1244 (0 : Int32) dL_law_1244 (by decide +kernel) ?_
    have hf9 := Option.some.inj hf; subst hf9
    exact hend 1245 _ _ _ _ (by (try simp only [rm_X8_toss, rm_L_element]); omega) (by (try simp only [rm_X8_toss, rm_L_element]); omega) dL_law_1245
def f_L_law_c33 (sc : Nat → Int32) (len : Nat) (k : Int32 → Mem → Option Int32) (x4 : Int32) (M : Mem) : Option Int32 := (f_X8_restore M).bind fun q343 => (f_X9_restore q343.2).bind fun q346 => if q343.1 = q346.1 then k x4 q346.2 else some (0 : Int32)
set_option maxRecDepth 100000 in
set_option maxHeartbeats 8000000 in
theorem c_L_law_c33 (Z : Sys) (X : Cx) (b n : Nat) (hR : xR X = room_1) {sc : Nat → Int32} {len : Nat} (hX : va_X b len sc (xs X) (xs X).heap) (hbl : b < (xs X).heap.size) (hbZ : b < zs Z) {q : Int32} (hend : ∀ (pc cs sl : Nat) (loc : List (Nat × Value)) (M : Mem), cs ≤ 601024 → sl ≤ 7293034 → decode Y_L_law.1 pc = .ok (.ireturn, 1) → G Z X Y_L_law False cs sl pc loc [.int q] M) (k : Int32 → Mem → Option Int32) (hk : ∀ (cs sl : Nat) (x4 : Int32) (M : Mem), St M → k x4 M = some q → cs + n ≤ 601024 ∧ sl + 6 * n ≤ 7293034 → G Z X Y_L_law False cs sl 1621 [(0, .ref b), (1, .ref (zs Z + 0)), (2, .ref (zs Z + 284)), (3, .ref (zs Z + 300)), (4, .int x4)] [] M) (cs sl : Nat) (x4 : Int32) (M : Mem) (hs : St M) (hf : f_L_law_c33 sc len k x4 M = some q) (hb : cs + (n + 1) ≤ 601024 ∧ sl + 6 * (n + 1) ≤ 7293034) : G Z X Y_L_law False cs sl 1246 [(0, .ref b), (1, .ref (zs Z + 0)), (2, .ref (zs Z + 284)), (3, .ref (zs Z + 300)), (4, .int x4)] [] M := by
  unfold f_L_law_c33 at hf
  refine G.aload_n 1246 1 dL_law_1246 rfl rfl ?_
  obtain ⟨q343, e344, hf⟩ := bd_e hf
  refine G.cvI 1247 (As := []) ck_8 (hs.k k0_0) (c_X8_restore Z hs e344) mk_X8_restore vk_X8_restore rfl wd_1086 hR ⟨Nat.le_of_ble_eq_true rfl, Nat.le_of_ble_eq_true rfl, by simp only [rm_L_element, rm_X8_restore, rm_X8_toss, room_1]; omega, by simp only [rm_L_element, rm_X8_restore, rm_X8_toss, room_1]; omega⟩ ⟨rfl, rfl⟩ rfl (Nat.le_of_ble_eq_true rfl) dL_law_1247 (fun hs342 => ?_)
  refine G.aload_n 1250 2 dL_law_1250 rfl rfl ?_
  obtain ⟨q346, e347, hf⟩ := bd_e hf
  refine G.cvI 1251 (As := []) ck_9 (hs342.k k0_284) (c_X9_restore Z hs342 e347) mk_X9_restore vk_X9_restore rfl wd_1738 hR ⟨Nat.le_of_ble_eq_true rfl, Nat.le_of_ble_eq_true rfl, by simp only [rm_L_element, rm_X8_toss, rm_X9_restore, room_1]; omega, by simp only [rm_L_element, rm_X8_toss, rm_X9_restore, room_1]; omega⟩ ⟨rfl, rfl⟩ rfl (Nat.le_of_ble_eq_true rfl) dL_law_1251 (fun hs345 => ?_)
  refine G.icmp_eq 1254 1621 dL_law_1254 (by decide) (fun h348 => ?_) (fun h348 => ?_)
  · replace hf := (if_pos h348).symm.trans hf
    exact hk _ _ x4 q346.2 hs345 hf (by (try simp only [rm_X8_toss, rm_L_element]); omega)
  · replace hf := (if_neg h348).symm.trans hf
    refine G.iconst 1257 (0 : Int32) dL_law_1257 (by decide +kernel) ?_
    have hf9 := Option.some.inj hf; subst hf9
    exact hend 1258 _ _ _ _ (by (try simp only [rm_X8_toss, rm_L_element]); omega) (by (try simp only [rm_X8_toss, rm_L_element]); omega) dL_law_1258
def f_L_law_c34 (sc : Nat → Int32) (len : Nat) (k : Int32 → Mem → Option Int32) (x4 : Int32) (M : Mem) : Option Int32 := gd (inR (x4 + (1 : Int32)) len) ((f_X8_count (sc (x4 + (1 : Int32)).toNatClampNeg) M).bind fun q351 => (f_X9_count (sc (x4 + (1 : Int32)).toNatClampNeg) M).bind fun q354 => if q351 = q354 then k x4 M else some (0 : Int32))
set_option maxRecDepth 100000 in
set_option maxHeartbeats 8000000 in
theorem c_L_law_c34 (Z : Sys) (X : Cx) (b n : Nat) (hR : xR X = room_1) {sc : Nat → Int32} {len : Nat} (hX : va_X b len sc (xs X) (xs X).heap) (hbl : b < (xs X).heap.size) (hbZ : b < zs Z) {q : Int32} (hend : ∀ (pc cs sl : Nat) (loc : List (Nat × Value)) (M : Mem), cs ≤ 601024 → sl ≤ 7293034 → decode Y_L_law.1 pc = .ok (.ireturn, 1) → G Z X Y_L_law False cs sl pc loc [.int q] M) (k : Int32 → Mem → Option Int32) (hk : ∀ (cs sl : Nat) (x4 : Int32) (M : Mem), St M → k x4 M = some q → cs + n ≤ 601024 ∧ sl + 6 * n ≤ 7293034 → G Z X Y_L_law False cs sl 1621 [(0, .ref b), (1, .ref (zs Z + 0)), (2, .ref (zs Z + 284)), (3, .ref (zs Z + 300)), (4, .int x4)] [] M) (cs sl : Nat) (x4 : Int32) (M : Mem) (hs : St M) (hf : f_L_law_c34 sc len k x4 M = some q) (hb : cs + (n + 1) ≤ 601024 ∧ sl + 6 * (n + 1) ≤ 7293034) : G Z X Y_L_law False cs sl 1259 [(0, .ref b), (1, .ref (zs Z + 0)), (2, .ref (zs Z + 284)), (3, .ref (zs Z + 300)), (4, .int x4)] [] M := by
  unfold f_L_law_c34 at hf
  refine G.aload_n 1259 1 dL_law_1259 rfl rfl ?_
  refine G.aload_n 1260 0 dL_law_1260 rfl rfl ?_
  refine G.iload 1261 4 dL_law_1261 rfl ?_
  refine G.iconst 1263 (1 : Int32) dL_law_1263 (by decide +kernel) ?_
  refine G.iadd 1264 dL_law_1264 ?_
  obtain ⟨g349, hf⟩ := gd_e hf
  refine G.sld 1265 (x4 + (1 : Int32)).toNatClampNeg hX hbl hbZ g349 rfl dL_law_1265 ?_
  obtain ⟨q351, e352, hf⟩ := bd_e hf
  refine G.cvI 1266 (As := [.int (sc (x4 + (1 : Int32)).toNatClampNeg)]) ck_8 (hs.k k0_0) (c_X8_count Z hs (sc (x4 + (1 : Int32)).toNatClampNeg) e352) mk_X8_count vk_X8_count rfl wd_1090 hR ⟨Nat.le_of_ble_eq_true rfl, Nat.le_of_ble_eq_true rfl, by simp only [rm_L_element, rm_X8_count, rm_X8_toss, room_1]; omega, by simp only [rm_L_element, rm_X8_count, rm_X8_toss, room_1]; omega⟩ ⟨rfl, rfl⟩ rfl (Nat.le_of_ble_eq_true rfl) dL_law_1266 (fun hs350 => ?_)
  refine G.aload_n 1269 2 dL_law_1269 rfl rfl ?_
  refine G.aload_n 1270 0 dL_law_1270 rfl rfl ?_
  refine G.iload 1271 4 dL_law_1271 rfl ?_
  refine G.iconst 1273 (1 : Int32) dL_law_1273 (by decide +kernel) ?_
  refine G.iadd 1274 dL_law_1274 ?_
  refine G.sld 1275 (x4 + (1 : Int32)).toNatClampNeg hX hbl hbZ g349 rfl dL_law_1275 ?_
  obtain ⟨q354, e355, hf⟩ := bd_e hf
  refine G.cvI 1276 (As := [.int (sc (x4 + (1 : Int32)).toNatClampNeg)]) ck_9 (hs350.k k0_284) (c_X9_count Z hs350 (sc (x4 + (1 : Int32)).toNatClampNeg) e355) mk_X9_count vk_X9_count rfl wd_1742 hR ⟨Nat.le_of_ble_eq_true rfl, Nat.le_of_ble_eq_true rfl, by simp only [rm_L_element, rm_X8_toss, rm_X9_count, room_1]; omega, by simp only [rm_L_element, rm_X8_toss, rm_X9_count, room_1]; omega⟩ ⟨rfl, rfl⟩ rfl (Nat.le_of_ble_eq_true rfl) dL_law_1276 (fun hs353 => ?_)
  refine G.icmp_eq 1279 1621 dL_law_1279 (by decide) (fun h356 => ?_) (fun h356 => ?_)
  · replace hf := (if_pos h356).symm.trans hf
    exact hk _ _ x4 M hs353 hf (by (try simp only [rm_X8_toss, rm_L_element]); omega)
  · replace hf := (if_neg h356).symm.trans hf
    refine G.iconst 1282 (0 : Int32) dL_law_1282 (by decide +kernel) ?_
    have hf9 := Option.some.inj hf; subst hf9
    exact hend 1283 _ _ _ _ (by (try simp only [rm_X8_toss, rm_L_element]); omega) (by (try simp only [rm_X8_toss, rm_L_element]); omega) dL_law_1283
def f_L_law_c35 (sc : Nat → Int32) (len : Nat) (k : Int32 → Mem → Option Int32) (x4 : Int32) (M : Mem) : Option Int32 := gd (inR (x4 + (1 : Int32)) len) (gd (inR (x4 + (2 : Int32)) len) (gd (inR (x4 + (3 : Int32)) len) ((f_X8_keep (sc (x4 + (1 : Int32)).toNatClampNeg) (sc (x4 + (2 : Int32)).toNatClampNeg) (sc (x4 + (3 : Int32)).toNatClampNeg) M).bind fun q361 => (f_X9_keep (sc (x4 + (1 : Int32)).toNatClampNeg) (sc (x4 + (2 : Int32)).toNatClampNeg) (sc (x4 + (3 : Int32)).toNatClampNeg) q361.2).bind fun q364 => if q361.1 = q364.1 then k x4 q364.2 else some (0 : Int32))))
set_option maxRecDepth 100000 in
set_option maxHeartbeats 8000000 in
theorem c_L_law_c35 (Z : Sys) (X : Cx) (b n : Nat) (hR : xR X = room_1) {sc : Nat → Int32} {len : Nat} (hX : va_X b len sc (xs X) (xs X).heap) (hbl : b < (xs X).heap.size) (hbZ : b < zs Z) {q : Int32} (hend : ∀ (pc cs sl : Nat) (loc : List (Nat × Value)) (M : Mem), cs ≤ 601024 → sl ≤ 7293034 → decode Y_L_law.1 pc = .ok (.ireturn, 1) → G Z X Y_L_law False cs sl pc loc [.int q] M) (k : Int32 → Mem → Option Int32) (hk : ∀ (cs sl : Nat) (x4 : Int32) (M : Mem), St M → k x4 M = some q → cs + n ≤ 601024 ∧ sl + 6 * n ≤ 7293034 → G Z X Y_L_law False cs sl 1621 [(0, .ref b), (1, .ref (zs Z + 0)), (2, .ref (zs Z + 284)), (3, .ref (zs Z + 300)), (4, .int x4)] [] M) (cs sl : Nat) (x4 : Int32) (M : Mem) (hs : St M) (hf : f_L_law_c35 sc len k x4 M = some q) (hb : cs + (n + 1) ≤ 601024 ∧ sl + 6 * (n + 1) ≤ 7293034) : G Z X Y_L_law False cs sl 1284 [(0, .ref b), (1, .ref (zs Z + 0)), (2, .ref (zs Z + 284)), (3, .ref (zs Z + 300)), (4, .int x4)] [] M := by
  unfold f_L_law_c35 at hf
  refine G.aload_n 1284 1 dL_law_1284 rfl rfl ?_
  refine G.aload_n 1285 0 dL_law_1285 rfl rfl ?_
  refine G.iload 1286 4 dL_law_1286 rfl ?_
  refine G.iconst 1288 (1 : Int32) dL_law_1288 (by decide +kernel) ?_
  refine G.iadd 1289 dL_law_1289 ?_
  obtain ⟨g357, hf⟩ := gd_e hf
  refine G.sld 1290 (x4 + (1 : Int32)).toNatClampNeg hX hbl hbZ g357 rfl dL_law_1290 ?_
  refine G.aload_n 1291 0 dL_law_1291 rfl rfl ?_
  refine G.iload 1292 4 dL_law_1292 rfl ?_
  refine G.iconst 1294 (2 : Int32) dL_law_1294 (by decide +kernel) ?_
  refine G.iadd 1295 dL_law_1295 ?_
  obtain ⟨g358, hf⟩ := gd_e hf
  refine G.sld 1296 (x4 + (2 : Int32)).toNatClampNeg hX hbl hbZ g358 rfl dL_law_1296 ?_
  refine G.aload_n 1297 0 dL_law_1297 rfl rfl ?_
  refine G.iload 1298 4 dL_law_1298 rfl ?_
  refine G.iconst 1300 (3 : Int32) dL_law_1300 (by decide +kernel) ?_
  refine G.iadd 1301 dL_law_1301 ?_
  obtain ⟨g359, hf⟩ := gd_e hf
  refine G.sld 1302 (x4 + (3 : Int32)).toNatClampNeg hX hbl hbZ g359 rfl dL_law_1302 ?_
  obtain ⟨q361, e362, hf⟩ := bd_e hf
  refine G.cvI 1303 (As := [.int (sc (x4 + (1 : Int32)).toNatClampNeg), .int (sc (x4 + (2 : Int32)).toNatClampNeg), .int (sc (x4 + (3 : Int32)).toNatClampNeg)]) ck_8 (hs.k k0_0) (c_X8_keep Z hs (sc (x4 + (1 : Int32)).toNatClampNeg) (sc (x4 + (2 : Int32)).toNatClampNeg) (sc (x4 + (3 : Int32)).toNatClampNeg) e362) mk_X8_keep vk_X8_keep rfl wd_1104 hR ⟨Nat.le_of_ble_eq_true rfl, Nat.le_of_ble_eq_true rfl, by simp only [rm_L_element, rm_X8_keep, rm_X8_toss, room_1]; omega, by simp only [rm_L_element, rm_X8_keep, rm_X8_toss, room_1]; omega⟩ ⟨rfl, rfl⟩ rfl (Nat.le_of_ble_eq_true rfl) dL_law_1303 (fun hs360 => ?_)
  refine G.aload_n 1306 2 dL_law_1306 rfl rfl ?_
  refine G.aload_n 1307 0 dL_law_1307 rfl rfl ?_
  refine G.iload 1308 4 dL_law_1308 rfl ?_
  refine G.iconst 1310 (1 : Int32) dL_law_1310 (by decide +kernel) ?_
  refine G.iadd 1311 dL_law_1311 ?_
  refine G.sld 1312 (x4 + (1 : Int32)).toNatClampNeg hX hbl hbZ g357 rfl dL_law_1312 ?_
  refine G.aload_n 1313 0 dL_law_1313 rfl rfl ?_
  refine G.iload 1314 4 dL_law_1314 rfl ?_
  refine G.iconst 1316 (2 : Int32) dL_law_1316 (by decide +kernel) ?_
  refine G.iadd 1317 dL_law_1317 ?_
  refine G.sld 1318 (x4 + (2 : Int32)).toNatClampNeg hX hbl hbZ g358 rfl dL_law_1318 ?_
  refine G.aload_n 1319 0 dL_law_1319 rfl rfl ?_
  refine G.iload 1320 4 dL_law_1320 rfl ?_
  refine G.iconst 1322 (3 : Int32) dL_law_1322 (by decide +kernel) ?_
  refine G.iadd 1323 dL_law_1323 ?_
  refine G.sld 1324 (x4 + (3 : Int32)).toNatClampNeg hX hbl hbZ g359 rfl dL_law_1324 ?_
  obtain ⟨q364, e365, hf⟩ := bd_e hf
  refine G.cvI 1325 (As := [.int (sc (x4 + (1 : Int32)).toNatClampNeg), .int (sc (x4 + (2 : Int32)).toNatClampNeg), .int (sc (x4 + (3 : Int32)).toNatClampNeg)]) ck_9 (hs360.k k0_284) (c_X9_keep Z hs360 (sc (x4 + (1 : Int32)).toNatClampNeg) (sc (x4 + (2 : Int32)).toNatClampNeg) (sc (x4 + (3 : Int32)).toNatClampNeg) e365) mk_X9_keep vk_X9_keep rfl wd_1747 hR ⟨Nat.le_of_ble_eq_true rfl, Nat.le_of_ble_eq_true rfl, by simp only [rm_L_element, rm_X8_toss, rm_X9_keep, room_1]; omega, by simp only [rm_L_element, rm_X8_toss, rm_X9_keep, room_1]; omega⟩ ⟨rfl, rfl⟩ rfl (Nat.le_of_ble_eq_true rfl) dL_law_1325 (fun hs363 => ?_)
  refine G.icmp_eq 1328 1621 dL_law_1328 (by decide) (fun h366 => ?_) (fun h366 => ?_)
  · replace hf := (if_pos h366).symm.trans hf
    exact hk _ _ x4 q364.2 hs363 hf (by (try simp only [rm_X8_toss, rm_L_element]); omega)
  · replace hf := (if_neg h366).symm.trans hf
    refine G.iconst 1331 (0 : Int32) dL_law_1331 (by decide +kernel) ?_
    have hf9 := Option.some.inj hf; subst hf9
    exact hend 1332 _ _ _ _ (by (try simp only [rm_X8_toss, rm_L_element]); omega) (by (try simp only [rm_X8_toss, rm_L_element]); omega) dL_law_1332
def f_L_law_c36 (sc : Nat → Int32) (len : Nat) (k : Int32 → Mem → Option Int32) (x4 : Int32) (M : Mem) : Option Int32 := gd (inR (x4 + (1 : Int32)) len) (gd (inR (x4 + (2 : Int32)) len) (gd (inR (x4 + (3 : Int32)) len) ((f_X8_row (sc (x4 + (1 : Int32)).toNatClampNeg) (sc (x4 + (2 : Int32)).toNatClampNeg) (sc (x4 + (3 : Int32)).toNatClampNeg) M).bind fun q371 => (f_X9_row (sc (x4 + (1 : Int32)).toNatClampNeg) (sc (x4 + (2 : Int32)).toNatClampNeg) (sc (x4 + (3 : Int32)).toNatClampNeg) q371.2).bind fun q374 => if q371.1 = q374.1 then k x4 q374.2 else some (0 : Int32))))
set_option maxRecDepth 100000 in
set_option maxHeartbeats 8000000 in
theorem c_L_law_c36 (Z : Sys) (X : Cx) (b n : Nat) (hR : xR X = room_1) {sc : Nat → Int32} {len : Nat} (hX : va_X b len sc (xs X) (xs X).heap) (hbl : b < (xs X).heap.size) (hbZ : b < zs Z) {q : Int32} (hend : ∀ (pc cs sl : Nat) (loc : List (Nat × Value)) (M : Mem), cs ≤ 601024 → sl ≤ 7293034 → decode Y_L_law.1 pc = .ok (.ireturn, 1) → G Z X Y_L_law False cs sl pc loc [.int q] M) (k : Int32 → Mem → Option Int32) (hk : ∀ (cs sl : Nat) (x4 : Int32) (M : Mem), St M → k x4 M = some q → cs + n ≤ 601024 ∧ sl + 6 * n ≤ 7293034 → G Z X Y_L_law False cs sl 1621 [(0, .ref b), (1, .ref (zs Z + 0)), (2, .ref (zs Z + 284)), (3, .ref (zs Z + 300)), (4, .int x4)] [] M) (cs sl : Nat) (x4 : Int32) (M : Mem) (hs : St M) (hf : f_L_law_c36 sc len k x4 M = some q) (hb : cs + (n + 1) ≤ 601024 ∧ sl + 6 * (n + 1) ≤ 7293034) : G Z X Y_L_law False cs sl 1333 [(0, .ref b), (1, .ref (zs Z + 0)), (2, .ref (zs Z + 284)), (3, .ref (zs Z + 300)), (4, .int x4)] [] M := by
  unfold f_L_law_c36 at hf
  refine G.aload_n 1333 1 dL_law_1333 rfl rfl ?_
  refine G.aload_n 1334 0 dL_law_1334 rfl rfl ?_
  refine G.iload 1335 4 dL_law_1335 rfl ?_
  refine G.iconst 1337 (1 : Int32) dL_law_1337 (by decide +kernel) ?_
  refine G.iadd 1338 dL_law_1338 ?_
  obtain ⟨g367, hf⟩ := gd_e hf
  refine G.sld 1339 (x4 + (1 : Int32)).toNatClampNeg hX hbl hbZ g367 rfl dL_law_1339 ?_
  refine G.aload_n 1340 0 dL_law_1340 rfl rfl ?_
  refine G.iload 1341 4 dL_law_1341 rfl ?_
  refine G.iconst 1343 (2 : Int32) dL_law_1343 (by decide +kernel) ?_
  refine G.iadd 1344 dL_law_1344 ?_
  obtain ⟨g368, hf⟩ := gd_e hf
  refine G.sld 1345 (x4 + (2 : Int32)).toNatClampNeg hX hbl hbZ g368 rfl dL_law_1345 ?_
  refine G.aload_n 1346 0 dL_law_1346 rfl rfl ?_
  refine G.iload 1347 4 dL_law_1347 rfl ?_
  refine G.iconst 1349 (3 : Int32) dL_law_1349 (by decide +kernel) ?_
  refine G.iadd 1350 dL_law_1350 ?_
  obtain ⟨g369, hf⟩ := gd_e hf
  refine G.sld 1351 (x4 + (3 : Int32)).toNatClampNeg hX hbl hbZ g369 rfl dL_law_1351 ?_
  obtain ⟨q371, e372, hf⟩ := bd_e hf
  refine G.cvI 1352 (As := [.int (sc (x4 + (1 : Int32)).toNatClampNeg), .int (sc (x4 + (2 : Int32)).toNatClampNeg), .int (sc (x4 + (3 : Int32)).toNatClampNeg)]) ck_8 (hs.k k0_0) (c_X8_row Z hs (sc (x4 + (1 : Int32)).toNatClampNeg) (sc (x4 + (2 : Int32)).toNatClampNeg) (sc (x4 + (3 : Int32)).toNatClampNeg) e372) mk_X8_row vk_X8_row rfl wd_1113 hR ⟨Nat.le_of_ble_eq_true rfl, Nat.le_of_ble_eq_true rfl, by simp only [rm_L_element, rm_X8_row, rm_X8_toss, room_1]; omega, by simp only [rm_L_element, rm_X8_row, rm_X8_toss, room_1]; omega⟩ ⟨rfl, rfl⟩ rfl (Nat.le_of_ble_eq_true rfl) dL_law_1352 (fun hs370 => ?_)
  refine G.aload_n 1355 2 dL_law_1355 rfl rfl ?_
  refine G.aload_n 1356 0 dL_law_1356 rfl rfl ?_
  refine G.iload 1357 4 dL_law_1357 rfl ?_
  refine G.iconst 1359 (1 : Int32) dL_law_1359 (by decide +kernel) ?_
  refine G.iadd 1360 dL_law_1360 ?_
  refine G.sld 1361 (x4 + (1 : Int32)).toNatClampNeg hX hbl hbZ g367 rfl dL_law_1361 ?_
  refine G.aload_n 1362 0 dL_law_1362 rfl rfl ?_
  refine G.iload 1363 4 dL_law_1363 rfl ?_
  refine G.iconst 1365 (2 : Int32) dL_law_1365 (by decide +kernel) ?_
  refine G.iadd 1366 dL_law_1366 ?_
  refine G.sld 1367 (x4 + (2 : Int32)).toNatClampNeg hX hbl hbZ g368 rfl dL_law_1367 ?_
  refine G.aload_n 1368 0 dL_law_1368 rfl rfl ?_
  refine G.iload 1369 4 dL_law_1369 rfl ?_
  refine G.iconst 1371 (3 : Int32) dL_law_1371 (by decide +kernel) ?_
  refine G.iadd 1372 dL_law_1372 ?_
  refine G.sld 1373 (x4 + (3 : Int32)).toNatClampNeg hX hbl hbZ g369 rfl dL_law_1373 ?_
  obtain ⟨q374, e375, hf⟩ := bd_e hf
  refine G.cvI 1374 (As := [.int (sc (x4 + (1 : Int32)).toNatClampNeg), .int (sc (x4 + (2 : Int32)).toNatClampNeg), .int (sc (x4 + (3 : Int32)).toNatClampNeg)]) ck_9 (hs370.k k0_284) (c_X9_row Z hs370 (sc (x4 + (1 : Int32)).toNatClampNeg) (sc (x4 + (2 : Int32)).toNatClampNeg) (sc (x4 + (3 : Int32)).toNatClampNeg) e375) mk_X9_row vk_X9_row rfl wd_1755 hR ⟨Nat.le_of_ble_eq_true rfl, Nat.le_of_ble_eq_true rfl, by simp only [rm_L_element, rm_X8_toss, rm_X9_row, room_1]; omega, by simp only [rm_L_element, rm_X8_toss, rm_X9_row, room_1]; omega⟩ ⟨rfl, rfl⟩ rfl (Nat.le_of_ble_eq_true rfl) dL_law_1374 (fun hs373 => ?_)
  refine G.icmp_eq 1377 1621 dL_law_1377 (by decide) (fun h376 => ?_) (fun h376 => ?_)
  · replace hf := (if_pos h376).symm.trans hf
    exact hk _ _ x4 q374.2 hs373 hf (by (try simp only [rm_X8_toss, rm_L_element]); omega)
  · replace hf := (if_neg h376).symm.trans hf
    refine G.iconst 1380 (0 : Int32) dL_law_1380 (by decide +kernel) ?_
    have hf9 := Option.some.inj hf; subst hf9
    exact hend 1381 _ _ _ _ (by (try simp only [rm_X8_toss, rm_L_element]); omega) (by (try simp only [rm_X8_toss, rm_L_element]); omega) dL_law_1381
def f_L_law_c37 (sc : Nat → Int32) (len : Nat) (k : Int32 → Mem → Option Int32) (x4 : Int32) (M : Mem) : Option Int32 := gd (inR (x4 + (1 : Int32)) len) (gd (inR (x4 + (2 : Int32)) len) (gd (inR (x4 + (3 : Int32)) len) ((f_X8_put (sc (x4 + (1 : Int32)).toNatClampNeg) (sc (x4 + (2 : Int32)).toNatClampNeg) (sc (x4 + (3 : Int32)).toNatClampNeg) M).bind fun q381 => (f_X9_put (sc (x4 + (1 : Int32)).toNatClampNeg) (sc (x4 + (2 : Int32)).toNatClampNeg) (sc (x4 + (3 : Int32)).toNatClampNeg) q381.2).bind fun q384 => if q381.1 = q384.1 then k x4 q384.2 else some (0 : Int32))))
set_option maxRecDepth 100000 in
set_option maxHeartbeats 8000000 in
theorem c_L_law_c37 (Z : Sys) (X : Cx) (b n : Nat) (hR : xR X = room_1) {sc : Nat → Int32} {len : Nat} (hX : va_X b len sc (xs X) (xs X).heap) (hbl : b < (xs X).heap.size) (hbZ : b < zs Z) {q : Int32} (hend : ∀ (pc cs sl : Nat) (loc : List (Nat × Value)) (M : Mem), cs ≤ 601024 → sl ≤ 7293034 → decode Y_L_law.1 pc = .ok (.ireturn, 1) → G Z X Y_L_law False cs sl pc loc [.int q] M) (k : Int32 → Mem → Option Int32) (hk : ∀ (cs sl : Nat) (x4 : Int32) (M : Mem), St M → k x4 M = some q → cs + n ≤ 601024 ∧ sl + 6 * n ≤ 7293034 → G Z X Y_L_law False cs sl 1621 [(0, .ref b), (1, .ref (zs Z + 0)), (2, .ref (zs Z + 284)), (3, .ref (zs Z + 300)), (4, .int x4)] [] M) (cs sl : Nat) (x4 : Int32) (M : Mem) (hs : St M) (hf : f_L_law_c37 sc len k x4 M = some q) (hb : cs + (n + 1) ≤ 601024 ∧ sl + 6 * (n + 1) ≤ 7293034) : G Z X Y_L_law False cs sl 1382 [(0, .ref b), (1, .ref (zs Z + 0)), (2, .ref (zs Z + 284)), (3, .ref (zs Z + 300)), (4, .int x4)] [] M := by
  unfold f_L_law_c37 at hf
  refine G.aload_n 1382 1 dL_law_1382 rfl rfl ?_
  refine G.aload_n 1383 0 dL_law_1383 rfl rfl ?_
  refine G.iload 1384 4 dL_law_1384 rfl ?_
  refine G.iconst 1386 (1 : Int32) dL_law_1386 (by decide +kernel) ?_
  refine G.iadd 1387 dL_law_1387 ?_
  obtain ⟨g377, hf⟩ := gd_e hf
  refine G.sld 1388 (x4 + (1 : Int32)).toNatClampNeg hX hbl hbZ g377 rfl dL_law_1388 ?_
  refine G.aload_n 1389 0 dL_law_1389 rfl rfl ?_
  refine G.iload 1390 4 dL_law_1390 rfl ?_
  refine G.iconst 1392 (2 : Int32) dL_law_1392 (by decide +kernel) ?_
  refine G.iadd 1393 dL_law_1393 ?_
  obtain ⟨g378, hf⟩ := gd_e hf
  refine G.sld 1394 (x4 + (2 : Int32)).toNatClampNeg hX hbl hbZ g378 rfl dL_law_1394 ?_
  refine G.aload_n 1395 0 dL_law_1395 rfl rfl ?_
  refine G.iload 1396 4 dL_law_1396 rfl ?_
  refine G.iconst 1398 (3 : Int32) dL_law_1398 (by decide +kernel) ?_
  refine G.iadd 1399 dL_law_1399 ?_
  obtain ⟨g379, hf⟩ := gd_e hf
  refine G.sld 1400 (x4 + (3 : Int32)).toNatClampNeg hX hbl hbZ g379 rfl dL_law_1400 ?_
  obtain ⟨q381, e382, hf⟩ := bd_e hf
  refine G.cvI 1401 (As := [.int (sc (x4 + (1 : Int32)).toNatClampNeg), .int (sc (x4 + (2 : Int32)).toNatClampNeg), .int (sc (x4 + (3 : Int32)).toNatClampNeg)]) ck_8 (hs.k k0_0) (c_X8_put Z hs (sc (x4 + (1 : Int32)).toNatClampNeg) (sc (x4 + (2 : Int32)).toNatClampNeg) (sc (x4 + (3 : Int32)).toNatClampNeg) e382) mk_X8_put vk_X8_put rfl wd_1122 hR ⟨Nat.le_of_ble_eq_true rfl, Nat.le_of_ble_eq_true rfl, by simp only [rm_L_element, rm_X8_put, rm_X8_toss, room_1]; omega, by simp only [rm_L_element, rm_X8_put, rm_X8_toss, room_1]; omega⟩ ⟨rfl, rfl⟩ rfl (Nat.le_of_ble_eq_true rfl) dL_law_1401 (fun hs380 => ?_)
  refine G.aload_n 1404 2 dL_law_1404 rfl rfl ?_
  refine G.aload_n 1405 0 dL_law_1405 rfl rfl ?_
  refine G.iload 1406 4 dL_law_1406 rfl ?_
  refine G.iconst 1408 (1 : Int32) dL_law_1408 (by decide +kernel) ?_
  refine G.iadd 1409 dL_law_1409 ?_
  refine G.sld 1410 (x4 + (1 : Int32)).toNatClampNeg hX hbl hbZ g377 rfl dL_law_1410 ?_
  refine G.aload_n 1411 0 dL_law_1411 rfl rfl ?_
  refine G.iload 1412 4 dL_law_1412 rfl ?_
  refine G.iconst 1414 (2 : Int32) dL_law_1414 (by decide +kernel) ?_
  refine G.iadd 1415 dL_law_1415 ?_
  refine G.sld 1416 (x4 + (2 : Int32)).toNatClampNeg hX hbl hbZ g378 rfl dL_law_1416 ?_
  refine G.aload_n 1417 0 dL_law_1417 rfl rfl ?_
  refine G.iload 1418 4 dL_law_1418 rfl ?_
  refine G.iconst 1420 (3 : Int32) dL_law_1420 (by decide +kernel) ?_
  refine G.iadd 1421 dL_law_1421 ?_
  refine G.sld 1422 (x4 + (3 : Int32)).toNatClampNeg hX hbl hbZ g379 rfl dL_law_1422 ?_
  obtain ⟨q384, e385, hf⟩ := bd_e hf
  refine G.cvI 1423 (As := [.int (sc (x4 + (1 : Int32)).toNatClampNeg), .int (sc (x4 + (2 : Int32)).toNatClampNeg), .int (sc (x4 + (3 : Int32)).toNatClampNeg)]) ck_9 (hs380.k k0_284) (c_X9_put Z hs380 (sc (x4 + (1 : Int32)).toNatClampNeg) (sc (x4 + (2 : Int32)).toNatClampNeg) (sc (x4 + (3 : Int32)).toNatClampNeg) e385) mk_X9_put vk_X9_put rfl wd_1760 hR ⟨Nat.le_of_ble_eq_true rfl, Nat.le_of_ble_eq_true rfl, by simp only [rm_L_element, rm_X8_toss, rm_X9_put, room_1]; omega, by simp only [rm_L_element, rm_X8_toss, rm_X9_put, room_1]; omega⟩ ⟨rfl, rfl⟩ rfl (Nat.le_of_ble_eq_true rfl) dL_law_1423 (fun hs383 => ?_)
  refine G.icmp_eq 1426 1621 dL_law_1426 (by decide) (fun h386 => ?_) (fun h386 => ?_)
  · replace hf := (if_pos h386).symm.trans hf
    exact hk _ _ x4 q384.2 hs383 hf (by (try simp only [rm_X8_toss, rm_L_element]); omega)
  · replace hf := (if_neg h386).symm.trans hf
    refine G.iconst 1429 (0 : Int32) dL_law_1429 (by decide +kernel) ?_
    have hf9 := Option.some.inj hf; subst hf9
    exact hend 1430 _ _ _ _ (by (try simp only [rm_X8_toss, rm_L_element]); omega) (by (try simp only [rm_X8_toss, rm_L_element]); omega) dL_law_1430
def f_L_law_c38 (sc : Nat → Int32) (len : Nat) (k : Int32 → Mem → Option Int32) (x4 : Int32) (M : Mem) : Option Int32 := gd (inR (x4 + (1 : Int32)) len) (gd (inR (x4 + (2 : Int32)) len) ((f_L_element (sc (x4 + (1 : Int32)).toNatClampNeg) (sc (x4 + (2 : Int32)).toNatClampNeg) M).bind fun q389 => (f_X9_element (sc (x4 + (1 : Int32)).toNatClampNeg) (sc (x4 + (2 : Int32)).toNatClampNeg) q389.2).bind fun q393 => if (f_X9_thrown q393.2) = q389.1 then if q389.1 = 0 then if (lg_cmp (mJ q393.2 300 0) q393.1) = 0 then k x4 q393.2 else some (0 : Int32) else k x4 q393.2 else some (0 : Int32)))
set_option maxRecDepth 100000 in
set_option maxHeartbeats 8000000 in
theorem c_L_law_c38 (Z : Sys) (X : Cx) (b n : Nat) (hR : xR X = room_1) {sc : Nat → Int32} {len : Nat} (hX : va_X b len sc (xs X) (xs X).heap) (hbl : b < (xs X).heap.size) (hbZ : b < zs Z) {q : Int32} (hend : ∀ (pc cs sl : Nat) (loc : List (Nat × Value)) (M : Mem), cs ≤ 601024 → sl ≤ 7293034 → decode Y_L_law.1 pc = .ok (.ireturn, 1) → G Z X Y_L_law False cs sl pc loc [.int q] M) (k : Int32 → Mem → Option Int32) (hk : ∀ (cs sl : Nat) (x4 : Int32) (M : Mem), St M → k x4 M = some q → cs + n ≤ 601024 ∧ sl + 6 * n ≤ 7293034 → G Z X Y_L_law False cs sl 1621 [(0, .ref b), (1, .ref (zs Z + 0)), (2, .ref (zs Z + 284)), (3, .ref (zs Z + 300)), (4, .int x4)] [] M) (cs sl : Nat) (x4 : Int32) (M : Mem) (hs : St M) (hf : f_L_law_c38 sc len k x4 M = some q) (hb : cs + (n + 1) ≤ 601024 ∧ sl + 6 * (n + 1) ≤ 7293034) : G Z X Y_L_law False cs sl 1431 [(0, .ref b), (1, .ref (zs Z + 0)), (2, .ref (zs Z + 284)), (3, .ref (zs Z + 300)), (4, .int x4)] [] M := by
  unfold f_L_law_c38 at hf
  refine G.aload_n 1431 1 dL_law_1431 rfl rfl ?_
  refine G.aload_n 1432 0 dL_law_1432 rfl rfl ?_
  refine G.iload 1433 4 dL_law_1433 rfl ?_
  refine G.iconst 1435 (1 : Int32) dL_law_1435 (by decide +kernel) ?_
  refine G.iadd 1436 dL_law_1436 ?_
  obtain ⟨g387, hf⟩ := gd_e hf
  refine G.sld 1437 (x4 + (1 : Int32)).toNatClampNeg hX hbl hbZ g387 rfl dL_law_1437 ?_
  refine G.aload_n 1438 0 dL_law_1438 rfl rfl ?_
  refine G.iload 1439 4 dL_law_1439 rfl ?_
  refine G.iconst 1441 (2 : Int32) dL_law_1441 (by decide +kernel) ?_
  refine G.iadd 1442 dL_law_1442 ?_
  obtain ⟨g388, hf⟩ := gd_e hf
  refine G.sld 1443 (x4 + (2 : Int32)).toNatClampNeg hX hbl hbZ g388 rfl dL_law_1443 ?_
  refine G.aload_n 1444 3 dL_law_1444 rfl rfl ?_
  obtain ⟨q389, e390, hf⟩ := bd_e hf
  refine G.csW 1445 (As := [.ref (zs Z + 0), .int (sc (x4 + (1 : Int32)).toNatClampNeg), .int (sc (x4 + (2 : Int32)).toNatClampNeg), .ref (zs Z + 300)]) (c_L_element Z hs (sc (x4 + (1 : Int32)).toNatClampNeg) (sc (x4 + (2 : Int32)).toNatClampNeg) e390) ⟨⟨by decide +kernel, by decide +kernel, (show (parseMethodDescriptor yL_element.desc).map (fun d => d.parameters.length) = some 4 by decide +kernel)⟩, wd_1286, wd_76⟩ wd_1285 wd_1284 hR ⟨Nat.le_of_ble_eq_true rfl, Nat.le_of_ble_eq_true rfl, by simp only [rm_L_element, rm_X8_toss, room_1]; omega, by simp only [rm_L_element, rm_X8_toss, room_1]; omega⟩ rfl (Nat.le_of_ble_eq_true rfl) dL_law_1445 (fun v9 M9 hp => ?_)
  obtain ⟨rfl, e9, hs391⟩ := hp
  rw [e9]
  refine G.istore 1448 [(5, .int q389.1), (0, .ref b), (1, .ref (zs Z + 0)), (2, .ref (zs Z + 284)), (3, .ref (zs Z + 300)), (4, .int x4)] dL_law_1448 (Nat.le_of_ble_eq_true rfl) rfl ?_
  refine G.aload_n 1450 3 dL_law_1450 rfl rfl ?_
  refine G.aload_n 1451 1 dL_law_1451 rfl rfl ?_
  refine G.iload 1452 5 dL_law_1452 rfl ?_
  refine G.iconst 1454 (1 : Int32) dL_law_1454 (by decide +kernel) ?_
  refine G.iadd 1455 dL_law_1455 ?_
  refine G.sld 1456 (x4 + (1 : Int32)).toNatClampNeg hX hbl hbZ g387 rfl dL_law_1456 ?_
  refine G.aload_n 1457 1 dL_law_1457 rfl rfl ?_
  refine G.iload 1458 5 dL_law_1458 rfl ?_
  refine G.iconst 1460 (2 : Int32) dL_law_1460 (by decide +kernel) ?_
  refine G.iadd 1461 dL_law_1461 ?_
  refine G.sld 1462 (x4 + (2 : Int32)).toNatClampNeg hX hbl hbZ g388 rfl dL_law_1462 ?_
  obtain ⟨q393, e394, hf⟩ := bd_e hf
  refine G.cvL 1463 (As := [.int (sc (x4 + (1 : Int32)).toNatClampNeg), .int (sc (x4 + (2 : Int32)).toNatClampNeg)]) ck_9 (hs391.k k0_284) (c_X9_element Z hs391 (sc (x4 + (1 : Int32)).toNatClampNeg) (sc (x4 + (2 : Int32)).toNatClampNeg) e394) mk_X9_element vk_X9_element rfl wd_1764 hR ⟨Nat.le_of_ble_eq_true rfl, Nat.le_of_ble_eq_true rfl, by simp only [rm_L_element, rm_X8_toss, rm_X9_element, room_1]; omega, by simp only [rm_L_element, rm_X8_toss, rm_X9_element, room_1]; omega⟩ ⟨rfl, rfl⟩ rfl (Nat.le_of_ble_eq_true rfl) dL_law_1463 (fun hs392 => ?_)
  refine G.lstore 1466 [(6, .long q393.1), (5, .int q389.1), (0, .ref b), (1, .ref (zs Z + 0)), (2, .ref (zs Z + 284)), (3, .ref (zs Z + 300)), (4, .int x4)] dL_law_1466 (Nat.le_of_ble_eq_true rfl) rfl ?_
  refine G.aload_n 1468 4 dL_law_1468 rfl rfl ?_
  refine G.cvI 1469 (As := []) ck_9 (hs392.k k0_284) (c_X9_thrown Z hs392 rfl) mk_X9_thrown vk_X9_thrown rfl wd_1390 hR ⟨Nat.le_of_ble_eq_true rfl, Nat.le_of_ble_eq_true rfl, by simp only [rm_L_element, rm_X8_toss, rm_X9_thrown, room_1]; omega, by simp only [rm_L_element, rm_X8_toss, rm_X9_thrown, room_1]; omega⟩ ⟨rfl, rfl⟩ rfl (Nat.le_of_ble_eq_true rfl) dL_law_1469 (fun hs395 => ?_)
  refine G.iload 1472 1 dL_law_1472 rfl ?_
  refine G.icmp_eq 1474 1479 dL_law_1474 (by decide) (fun h396 => ?_) (fun h396 => ?_)
  · replace hf := (if_pos h396).symm.trans hf
    refine G.iload 1479 1 dL_law_1479 rfl ?_
    refine G.if_ne 1481 1495 dL_law_1481 (by decide) (fun h397 => ?_) (fun h397 => ?_)
    · replace hf := (if_neg h397).symm.trans hf
      refine G.goto 1495 1621 dL_law_1495 (by decide) ?_
      refine G.locs [2, 3, 4, 5, 6] rfl ?_
      exact hk _ _ x4 q393.2 hs395 hf (by (try simp only [rm_X8_toss, rm_L_element]); omega)
    · replace hf := (if_pos h397).symm.trans hf
      refine G.aload_n 1484 5 dL_law_1484 rfl rfl ?_
      refine G.iconst 1485 (0 : Int32) dL_law_1485 (by decide +kernel) ?_
      refine G.la 1486 0 (hs395.k k0_300) (by decide +kernel) (by decide +kernel) dL_law_1486 ?_
      refine G.lload 1487 0 dL_law_1487 rfl ?_
      refine G.lcmp 1489 dL_law_1489 ?_
      refine G.if_eq 1490 1495 dL_law_1490 (by decide) (fun h398 => ?_) (fun h398 => ?_)
      · replace hf := (if_pos h398).symm.trans hf
        refine G.goto 1495 1621 dL_law_1495 (by decide) ?_
        refine G.locs [2, 3, 4, 5, 6] rfl ?_
        exact hk _ _ x4 q393.2 hs395 hf (by (try simp only [rm_X8_toss, rm_L_element]); omega)
      · replace hf := (if_neg h398).symm.trans hf
        refine G.iconst 1493 (0 : Int32) dL_law_1493 (by decide +kernel) ?_
        have hf9 := Option.some.inj hf; subst hf9
        exact hend 1494 _ _ _ _ (by (try simp only [rm_X8_toss, rm_L_element]); omega) (by (try simp only [rm_X8_toss, rm_L_element]); omega) dL_law_1494
  · replace hf := (if_neg h396).symm.trans hf
    refine G.iconst 1477 (0 : Int32) dL_law_1477 (by decide +kernel) ?_
    have hf9 := Option.some.inj hf; subst hf9
    exact hend 1478 _ _ _ _ (by (try simp only [rm_X8_toss, rm_L_element]); omega) (by (try simp only [rm_X8_toss, rm_L_element]); omega) dL_law_1478
def f_L_law_c39 (sc : Nat → Int32) (len : Nat) (k : Int32 → Mem → Option Int32) (x4 : Int32) (M : Mem) : Option Int32 := gd (inR (x4 + (1 : Int32)) len) (gd (inR (x4 + (2 : Int32)) len) (gd (inR (x4 + (3 : Int32)) len) (gd (inR (x4 + (4 : Int32)) len) (gd (inR (x4 + (5 : Int32)) len) ((f_X8_copy (sc (x4 + (1 : Int32)).toNatClampNeg) (sc (x4 + (2 : Int32)).toNatClampNeg) (sc (x4 + (3 : Int32)).toNatClampNeg) (sc (x4 + (4 : Int32)).toNatClampNeg) (sc (x4 + (5 : Int32)).toNatClampNeg) M).bind fun q405 => (f_X9_copy (sc (x4 + (1 : Int32)).toNatClampNeg) (sc (x4 + (2 : Int32)).toNatClampNeg) (sc (x4 + (3 : Int32)).toNatClampNeg) (sc (x4 + (4 : Int32)).toNatClampNeg) (sc (x4 + (5 : Int32)).toNatClampNeg) q405.2).bind fun q408 => if q405.1 = q408.1 then k x4 q408.2 else some (0 : Int32))))))
set_option maxRecDepth 100000 in
set_option maxHeartbeats 8000000 in
theorem c_L_law_c39 (Z : Sys) (X : Cx) (b n : Nat) (hR : xR X = room_1) {sc : Nat → Int32} {len : Nat} (hX : va_X b len sc (xs X) (xs X).heap) (hbl : b < (xs X).heap.size) (hbZ : b < zs Z) {q : Int32} (hend : ∀ (pc cs sl : Nat) (loc : List (Nat × Value)) (M : Mem), cs ≤ 601024 → sl ≤ 7293034 → decode Y_L_law.1 pc = .ok (.ireturn, 1) → G Z X Y_L_law False cs sl pc loc [.int q] M) (k : Int32 → Mem → Option Int32) (hk : ∀ (cs sl : Nat) (x4 : Int32) (M : Mem), St M → k x4 M = some q → cs + n ≤ 601024 ∧ sl + 6 * n ≤ 7293034 → G Z X Y_L_law False cs sl 1621 [(0, .ref b), (1, .ref (zs Z + 0)), (2, .ref (zs Z + 284)), (3, .ref (zs Z + 300)), (4, .int x4)] [] M) (cs sl : Nat) (x4 : Int32) (M : Mem) (hs : St M) (hf : f_L_law_c39 sc len k x4 M = some q) (hb : cs + (n + 1) ≤ 601024 ∧ sl + 6 * (n + 1) ≤ 7293034) : G Z X Y_L_law False cs sl 1498 [(0, .ref b), (1, .ref (zs Z + 0)), (2, .ref (zs Z + 284)), (3, .ref (zs Z + 300)), (4, .int x4)] [] M := by
  unfold f_L_law_c39 at hf
  refine G.aload_n 1498 1 dL_law_1498 rfl rfl ?_
  refine G.aload_n 1499 0 dL_law_1499 rfl rfl ?_
  refine G.iload 1500 4 dL_law_1500 rfl ?_
  refine G.iconst 1502 (1 : Int32) dL_law_1502 (by decide +kernel) ?_
  refine G.iadd 1503 dL_law_1503 ?_
  obtain ⟨g399, hf⟩ := gd_e hf
  refine G.sld 1504 (x4 + (1 : Int32)).toNatClampNeg hX hbl hbZ g399 rfl dL_law_1504 ?_
  refine G.aload_n 1505 0 dL_law_1505 rfl rfl ?_
  refine G.iload 1506 4 dL_law_1506 rfl ?_
  refine G.iconst 1508 (2 : Int32) dL_law_1508 (by decide +kernel) ?_
  refine G.iadd 1509 dL_law_1509 ?_
  obtain ⟨g400, hf⟩ := gd_e hf
  refine G.sld 1510 (x4 + (2 : Int32)).toNatClampNeg hX hbl hbZ g400 rfl dL_law_1510 ?_
  refine G.aload_n 1511 0 dL_law_1511 rfl rfl ?_
  refine G.iload 1512 4 dL_law_1512 rfl ?_
  refine G.iconst 1514 (3 : Int32) dL_law_1514 (by decide +kernel) ?_
  refine G.iadd 1515 dL_law_1515 ?_
  obtain ⟨g401, hf⟩ := gd_e hf
  refine G.sld 1516 (x4 + (3 : Int32)).toNatClampNeg hX hbl hbZ g401 rfl dL_law_1516 ?_
  refine G.aload_n 1517 0 dL_law_1517 rfl rfl ?_
  refine G.iload 1518 4 dL_law_1518 rfl ?_
  refine G.iconst 1520 (4 : Int32) dL_law_1520 (by decide +kernel) ?_
  refine G.iadd 1521 dL_law_1521 ?_
  obtain ⟨g402, hf⟩ := gd_e hf
  refine G.sld 1522 (x4 + (4 : Int32)).toNatClampNeg hX hbl hbZ g402 rfl dL_law_1522 ?_
  refine G.aload_n 1523 0 dL_law_1523 rfl rfl ?_
  refine G.iload 1524 4 dL_law_1524 rfl ?_
  refine G.iconst 1526 (5 : Int32) dL_law_1526 (by decide +kernel) ?_
  refine G.iadd 1527 dL_law_1527 ?_
  obtain ⟨g403, hf⟩ := gd_e hf
  refine G.sld 1528 (x4 + (5 : Int32)).toNatClampNeg hX hbl hbZ g403 rfl dL_law_1528 ?_
  obtain ⟨q405, e406, hf⟩ := bd_e hf
  refine G.cvI 1529 (As := [.int (sc (x4 + (1 : Int32)).toNatClampNeg), .int (sc (x4 + (2 : Int32)).toNatClampNeg), .int (sc (x4 + (3 : Int32)).toNatClampNeg), .int (sc (x4 + (4 : Int32)).toNatClampNeg), .int (sc (x4 + (5 : Int32)).toNatClampNeg)]) ck_8 (hs.k k0_0) (c_X8_copy Z hs (sc (x4 + (1 : Int32)).toNatClampNeg) (sc (x4 + (2 : Int32)).toNatClampNeg) (sc (x4 + (3 : Int32)).toNatClampNeg) (sc (x4 + (4 : Int32)).toNatClampNeg) (sc (x4 + (5 : Int32)).toNatClampNeg) e406) mk_X8_copy vk_X8_copy rfl wd_1131 hR ⟨Nat.le_of_ble_eq_true rfl, Nat.le_of_ble_eq_true rfl, by simp only [rm_L_element, rm_X8_copy, rm_X8_toss, room_1]; omega, by simp only [rm_L_element, rm_X8_copy, rm_X8_toss, room_1]; omega⟩ ⟨rfl, rfl⟩ rfl (Nat.le_of_ble_eq_true rfl) dL_law_1529 (fun hs404 => ?_)
  refine G.aload_n 1532 2 dL_law_1532 rfl rfl ?_
  refine G.aload_n 1533 0 dL_law_1533 rfl rfl ?_
  refine G.iload 1534 4 dL_law_1534 rfl ?_
  refine G.iconst 1536 (1 : Int32) dL_law_1536 (by decide +kernel) ?_
  refine G.iadd 1537 dL_law_1537 ?_
  refine G.sld 1538 (x4 + (1 : Int32)).toNatClampNeg hX hbl hbZ g399 rfl dL_law_1538 ?_
  refine G.aload_n 1539 0 dL_law_1539 rfl rfl ?_
  refine G.iload 1540 4 dL_law_1540 rfl ?_
  refine G.iconst 1542 (2 : Int32) dL_law_1542 (by decide +kernel) ?_
  refine G.iadd 1543 dL_law_1543 ?_
  refine G.sld 1544 (x4 + (2 : Int32)).toNatClampNeg hX hbl hbZ g400 rfl dL_law_1544 ?_
  refine G.aload_n 1545 0 dL_law_1545 rfl rfl ?_
  refine G.iload 1546 4 dL_law_1546 rfl ?_
  refine G.iconst 1548 (3 : Int32) dL_law_1548 (by decide +kernel) ?_
  refine G.iadd 1549 dL_law_1549 ?_
  refine G.sld 1550 (x4 + (3 : Int32)).toNatClampNeg hX hbl hbZ g401 rfl dL_law_1550 ?_
  refine G.aload_n 1551 0 dL_law_1551 rfl rfl ?_
  refine G.iload 1552 4 dL_law_1552 rfl ?_
  refine G.iconst 1554 (4 : Int32) dL_law_1554 (by decide +kernel) ?_
  refine G.iadd 1555 dL_law_1555 ?_
  refine G.sld 1556 (x4 + (4 : Int32)).toNatClampNeg hX hbl hbZ g402 rfl dL_law_1556 ?_
  refine G.aload_n 1557 0 dL_law_1557 rfl rfl ?_
  refine G.iload 1558 4 dL_law_1558 rfl ?_
  refine G.iconst 1560 (5 : Int32) dL_law_1560 (by decide +kernel) ?_
  refine G.iadd 1561 dL_law_1561 ?_
  refine G.sld 1562 (x4 + (5 : Int32)).toNatClampNeg hX hbl hbZ g403 rfl dL_law_1562 ?_
  obtain ⟨q408, e409, hf⟩ := bd_e hf
  refine G.cvI 1563 (As := [.int (sc (x4 + (1 : Int32)).toNatClampNeg), .int (sc (x4 + (2 : Int32)).toNatClampNeg), .int (sc (x4 + (3 : Int32)).toNatClampNeg), .int (sc (x4 + (4 : Int32)).toNatClampNeg), .int (sc (x4 + (5 : Int32)).toNatClampNeg)]) ck_9 (hs404.k k0_284) (c_X9_copy Z hs404 (sc (x4 + (1 : Int32)).toNatClampNeg) (sc (x4 + (2 : Int32)).toNatClampNeg) (sc (x4 + (3 : Int32)).toNatClampNeg) (sc (x4 + (4 : Int32)).toNatClampNeg) (sc (x4 + (5 : Int32)).toNatClampNeg) e409) mk_X9_copy vk_X9_copy rfl wd_1768 hR ⟨Nat.le_of_ble_eq_true rfl, Nat.le_of_ble_eq_true rfl, by simp only [rm_L_element, rm_X8_toss, rm_X9_copy, room_1]; omega, by simp only [rm_L_element, rm_X8_toss, rm_X9_copy, room_1]; omega⟩ ⟨rfl, rfl⟩ rfl (Nat.le_of_ble_eq_true rfl) dL_law_1563 (fun hs407 => ?_)
  refine G.icmp_eq 1566 1621 dL_law_1566 (by decide) (fun h410 => ?_) (fun h410 => ?_)
  · replace hf := (if_pos h410).symm.trans hf
    exact hk _ _ x4 q408.2 hs407 hf (by (try simp only [rm_X8_toss, rm_L_element]); omega)
  · replace hf := (if_neg h410).symm.trans hf
    refine G.iconst 1569 (0 : Int32) dL_law_1569 (by decide +kernel) ?_
    have hf9 := Option.some.inj hf; subst hf9
    exact hend 1570 _ _ _ _ (by (try simp only [rm_X8_toss, rm_L_element]); omega) (by (try simp only [rm_X8_toss, rm_L_element]); omega) dL_law_1570
def f_L_law_c40 (sc : Nat → Int32) (len : Nat) (k : Int32 → Mem → Option Int32) (x4 : Int32) (M : Mem) : Option Int32 := gd (inR (x4 + (1 : Int32)) len) ((f_X8_weight (sc (x4 + (1 : Int32)).toNatClampNeg) M).bind fun q413 => (f_X9_weight (sc (x4 + (1 : Int32)).toNatClampNeg) M).bind fun q416 => if q413 = q416 then k x4 M else some (0 : Int32))
set_option maxRecDepth 100000 in
set_option maxHeartbeats 8000000 in
theorem c_L_law_c40 (Z : Sys) (X : Cx) (b n : Nat) (hR : xR X = room_1) {sc : Nat → Int32} {len : Nat} (hX : va_X b len sc (xs X) (xs X).heap) (hbl : b < (xs X).heap.size) (hbZ : b < zs Z) {q : Int32} (hend : ∀ (pc cs sl : Nat) (loc : List (Nat × Value)) (M : Mem), cs ≤ 601024 → sl ≤ 7293034 → decode Y_L_law.1 pc = .ok (.ireturn, 1) → G Z X Y_L_law False cs sl pc loc [.int q] M) (k : Int32 → Mem → Option Int32) (hk : ∀ (cs sl : Nat) (x4 : Int32) (M : Mem), St M → k x4 M = some q → cs + n ≤ 601024 ∧ sl + 6 * n ≤ 7293034 → G Z X Y_L_law False cs sl 1621 [(0, .ref b), (1, .ref (zs Z + 0)), (2, .ref (zs Z + 284)), (3, .ref (zs Z + 300)), (4, .int x4)] [] M) (cs sl : Nat) (x4 : Int32) (M : Mem) (hs : St M) (hf : f_L_law_c40 sc len k x4 M = some q) (hb : cs + (n + 1) ≤ 601024 ∧ sl + 6 * (n + 1) ≤ 7293034) : G Z X Y_L_law False cs sl 1571 [(0, .ref b), (1, .ref (zs Z + 0)), (2, .ref (zs Z + 284)), (3, .ref (zs Z + 300)), (4, .int x4)] [] M := by
  unfold f_L_law_c40 at hf
  refine G.aload_n 1571 1 dL_law_1571 rfl rfl ?_
  refine G.aload_n 1572 0 dL_law_1572 rfl rfl ?_
  refine G.iload 1573 4 dL_law_1573 rfl ?_
  refine G.iconst 1575 (1 : Int32) dL_law_1575 (by decide +kernel) ?_
  refine G.iadd 1576 dL_law_1576 ?_
  obtain ⟨g411, hf⟩ := gd_e hf
  refine G.sld 1577 (x4 + (1 : Int32)).toNatClampNeg hX hbl hbZ g411 rfl dL_law_1577 ?_
  obtain ⟨q413, e414, hf⟩ := bd_e hf
  refine G.cvI 1578 (As := [.int (sc (x4 + (1 : Int32)).toNatClampNeg)]) ck_8 (hs.k k0_0) (c_X8_weight Z hs (sc (x4 + (1 : Int32)).toNatClampNeg) e414) mk_X8_weight vk_X8_weight rfl wd_1140 hR ⟨Nat.le_of_ble_eq_true rfl, Nat.le_of_ble_eq_true rfl, by simp only [rm_L_element, rm_X8_toss, rm_X8_weight, room_1]; omega, by simp only [rm_L_element, rm_X8_toss, rm_X8_weight, room_1]; omega⟩ ⟨rfl, rfl⟩ rfl (Nat.le_of_ble_eq_true rfl) dL_law_1578 (fun hs412 => ?_)
  refine G.aload_n 1581 2 dL_law_1581 rfl rfl ?_
  refine G.aload_n 1582 0 dL_law_1582 rfl rfl ?_
  refine G.iload 1583 4 dL_law_1583 rfl ?_
  refine G.iconst 1585 (1 : Int32) dL_law_1585 (by decide +kernel) ?_
  refine G.iadd 1586 dL_law_1586 ?_
  refine G.sld 1587 (x4 + (1 : Int32)).toNatClampNeg hX hbl hbZ g411 rfl dL_law_1587 ?_
  obtain ⟨q416, e417, hf⟩ := bd_e hf
  refine G.cvI 1588 (As := [.int (sc (x4 + (1 : Int32)).toNatClampNeg)]) ck_9 (hs412.k k0_284) (c_X9_weight Z hs412 (sc (x4 + (1 : Int32)).toNatClampNeg) e417) mk_X9_weight vk_X9_weight rfl wd_1772 hR ⟨Nat.le_of_ble_eq_true rfl, Nat.le_of_ble_eq_true rfl, by simp only [rm_L_element, rm_X8_toss, rm_X9_weight, room_1]; omega, by simp only [rm_L_element, rm_X8_toss, rm_X9_weight, room_1]; omega⟩ ⟨rfl, rfl⟩ rfl (Nat.le_of_ble_eq_true rfl) dL_law_1588 (fun hs415 => ?_)
  refine G.icmp_eq 1591 1621 dL_law_1591 (by decide) (fun h418 => ?_) (fun h418 => ?_)
  · replace hf := (if_pos h418).symm.trans hf
    exact hk _ _ x4 M hs415 hf (by (try simp only [rm_X8_toss, rm_L_element]); omega)
  · replace hf := (if_neg h418).symm.trans hf
    refine G.iconst 1594 (0 : Int32) dL_law_1594 (by decide +kernel) ?_
    have hf9 := Option.some.inj hf; subst hf9
    exact hend 1595 _ _ _ _ (by (try simp only [rm_X8_toss, rm_L_element]); omega) (by (try simp only [rm_X8_toss, rm_L_element]); omega) dL_law_1595
def f_L_law_c41 (sc : Nat → Int32) (len : Nat) (k : Int32 → Mem → Option Int32) (x4 : Int32) (M : Mem) : Option Int32 := gd (inR (x4 + (1 : Int32)) len) ((f_X8_toss (sc (x4 + (1 : Int32)).toNatClampNeg) M).bind fun q420 => (f_X9_toss (sc (x4 + (1 : Int32)).toNatClampNeg) M).bind fun q424 => if q420 = q424 then k x4 M else some (0 : Int32))
set_option maxRecDepth 100000 in
set_option maxHeartbeats 8000000 in
theorem c_L_law_c41 (Z : Sys) (X : Cx) (b n : Nat) (hR : xR X = room_1) {sc : Nat → Int32} {len : Nat} (hX : va_X b len sc (xs X) (xs X).heap) (hbl : b < (xs X).heap.size) (hbZ : b < zs Z) {q : Int32} (hend : ∀ (pc cs sl : Nat) (loc : List (Nat × Value)) (M : Mem), cs ≤ 601024 → sl ≤ 7293034 → decode Y_L_law.1 pc = .ok (.ireturn, 1) → G Z X Y_L_law False cs sl pc loc [.int q] M) (k : Int32 → Mem → Option Int32) (hk : ∀ (cs sl : Nat) (x4 : Int32) (M : Mem), St M → k x4 M = some q → cs + n ≤ 601024 ∧ sl + 6 * n ≤ 7293034 → G Z X Y_L_law False cs sl 1621 [(0, .ref b), (1, .ref (zs Z + 0)), (2, .ref (zs Z + 284)), (3, .ref (zs Z + 300)), (4, .int x4)] [] M) (cs sl : Nat) (x4 : Int32) (M : Mem) (hs : St M) (hf : f_L_law_c41 sc len k x4 M = some q) (hb : cs + (n + 1) ≤ 601024 ∧ sl + 6 * (n + 1) ≤ 7293034) : G Z X Y_L_law False cs sl 1596 [(0, .ref b), (1, .ref (zs Z + 0)), (2, .ref (zs Z + 284)), (3, .ref (zs Z + 300)), (4, .int x4)] [] M := by
  unfold f_L_law_c41 at hf
  refine G.aload_n 1596 1 dL_law_1596 rfl rfl ?_
  refine G.aload_n 1597 0 dL_law_1597 rfl rfl ?_
  refine G.iload 1598 4 dL_law_1598 rfl ?_
  refine G.iconst 1600 (1 : Int32) dL_law_1600 (by decide +kernel) ?_
  refine G.iadd 1601 dL_law_1601 ?_
  obtain ⟨g419, hf⟩ := gd_e hf
  refine G.sld 1602 (x4 + (1 : Int32)).toNatClampNeg hX hbl hbZ g419 rfl dL_law_1602 ?_
  obtain ⟨q420, e421, hf⟩ := bd_e hf
  refine G.callV 1603 (As := [.int (sc (x4 + (1 : Int32)).toNatClampNeg)]) ck_8 (hs.k k0_0) (c_X8_toss Z hs (sc (x4 + (1 : Int32)).toNatClampNeg) e421) mk_X8_toss vk_X8_toss rfl wd_1152 hR ⟨Nat.le_of_ble_eq_true rfl, Nat.le_of_ble_eq_true rfl, by simp only [rm_L_element, rm_X8_toss, room_1]; omega, by simp only [rm_L_element, rm_X8_toss, room_1]; omega⟩ rfl (Nat.le_of_ble_eq_true rfl) dL_law_1603 (fun v9 M9 hp => ?_)
  obtain ⟨rfl, e9, hs422⟩ := hp
  rw [e9]
  refine G.aload_n 1606 2 dL_law_1606 rfl rfl ?_
  refine G.aload_n 1607 0 dL_law_1607 rfl rfl ?_
  refine G.iload 1608 4 dL_law_1608 rfl ?_
  refine G.iconst 1610 (1 : Int32) dL_law_1610 (by decide +kernel) ?_
  refine G.iadd 1611 dL_law_1611 ?_
  refine G.sld 1612 (x4 + (1 : Int32)).toNatClampNeg hX hbl hbZ g419 rfl dL_law_1612 ?_
  obtain ⟨q424, e425, hf⟩ := bd_e hf
  refine G.cvI 1613 (As := [.int (sc (x4 + (1 : Int32)).toNatClampNeg)]) ck_9 (hs422.k k0_284) (c_X9_toss Z hs422 (sc (x4 + (1 : Int32)).toNatClampNeg) e425) mk_X9_toss vk_X9_toss rfl wd_1780 hR ⟨Nat.le_of_ble_eq_true rfl, Nat.le_of_ble_eq_true rfl, by simp only [rm_L_element, rm_X8_toss, rm_X9_toss, room_1]; omega, by simp only [rm_L_element, rm_X8_toss, rm_X9_toss, room_1]; omega⟩ ⟨rfl, rfl⟩ rfl (Nat.le_of_ble_eq_true rfl) dL_law_1613 (fun hs423 => ?_)
  refine G.icmp_eq 1616 1621 dL_law_1616 (by decide) (fun h426 => ?_) (fun h426 => ?_)
  · replace hf := (if_pos h426).symm.trans hf
    exact hk _ _ x4 M hs423 hf (by (try simp only [rm_X8_toss, rm_L_element]); omega)
  · replace hf := (if_neg h426).symm.trans hf
    refine G.iconst 1619 (0 : Int32) dL_law_1619 (by decide +kernel) ?_
    have hf9 := Option.some.inj hf; subst hf9
    exact hend 1620 _ _ _ _ (by (try simp only [rm_X8_toss, rm_L_element]); omega) (by (try simp only [rm_X8_toss, rm_L_element]); omega) dL_law_1620
def L_L_law_23 (sc : Nat → Int32) (len : Nat) : Nat → Int32 → Mem → Option Int32
  | 0, _, _ => none
  | n + 1, x4, M => if ((Int32.ofNat len) - (6 : Int32)) < x4 then some (1 : Int32) else gd (inR x4 len) (if ((sc x4.toNatClampNeg) &&& (63 : Int32)) = (0 : Int32) then f_L_law_c0 sc len (B_L_law_1621 (L_L_law_23 sc len n)) x4 M else if ((sc x4.toNatClampNeg) &&& (63 : Int32)) = (1 : Int32) then f_L_law_c1 sc len (B_L_law_1621 (L_L_law_23 sc len n)) x4 M else if ((sc x4.toNatClampNeg) &&& (63 : Int32)) = (2 : Int32) then f_L_law_c2 sc len (B_L_law_1621 (L_L_law_23 sc len n)) x4 M else if ((sc x4.toNatClampNeg) &&& (63 : Int32)) = (3 : Int32) then f_L_law_c3 sc len (B_L_law_1621 (L_L_law_23 sc len n)) x4 M else if ((sc x4.toNatClampNeg) &&& (63 : Int32)) = (4 : Int32) then f_L_law_c4 sc len (B_L_law_1621 (L_L_law_23 sc len n)) x4 M else if ((sc x4.toNatClampNeg) &&& (63 : Int32)) = (5 : Int32) then f_L_law_c5 sc len (B_L_law_1621 (L_L_law_23 sc len n)) x4 M else if ((sc x4.toNatClampNeg) &&& (63 : Int32)) = (6 : Int32) then f_L_law_c6 sc len (B_L_law_1621 (L_L_law_23 sc len n)) x4 M else if ((sc x4.toNatClampNeg) &&& (63 : Int32)) = (7 : Int32) then f_L_law_c7 sc len (B_L_law_1621 (L_L_law_23 sc len n)) x4 M else if ((sc x4.toNatClampNeg) &&& (63 : Int32)) = (8 : Int32) then f_L_law_c8 sc len (B_L_law_1621 (L_L_law_23 sc len n)) x4 M else if ((sc x4.toNatClampNeg) &&& (63 : Int32)) = (9 : Int32) then f_L_law_c9 sc len (B_L_law_1621 (L_L_law_23 sc len n)) x4 M else if ((sc x4.toNatClampNeg) &&& (63 : Int32)) = (10 : Int32) then f_L_law_c10 sc len (B_L_law_1621 (L_L_law_23 sc len n)) x4 M else if ((sc x4.toNatClampNeg) &&& (63 : Int32)) = (11 : Int32) then f_L_law_c11 sc len (B_L_law_1621 (L_L_law_23 sc len n)) x4 M else if ((sc x4.toNatClampNeg) &&& (63 : Int32)) = (12 : Int32) then f_L_law_c12 sc len (B_L_law_1621 (L_L_law_23 sc len n)) x4 M else if ((sc x4.toNatClampNeg) &&& (63 : Int32)) = (13 : Int32) then f_L_law_c13 sc len (B_L_law_1621 (L_L_law_23 sc len n)) x4 M else if ((sc x4.toNatClampNeg) &&& (63 : Int32)) = (14 : Int32) then f_L_law_c14 sc len (B_L_law_1621 (L_L_law_23 sc len n)) x4 M else if ((sc x4.toNatClampNeg) &&& (63 : Int32)) = (15 : Int32) then f_L_law_c15 sc len (B_L_law_1621 (L_L_law_23 sc len n)) x4 M else if ((sc x4.toNatClampNeg) &&& (63 : Int32)) = (16 : Int32) then f_L_law_c16 sc len (B_L_law_1621 (L_L_law_23 sc len n)) x4 M else if ((sc x4.toNatClampNeg) &&& (63 : Int32)) = (17 : Int32) then f_L_law_c17 sc len (B_L_law_1621 (L_L_law_23 sc len n)) x4 M else if ((sc x4.toNatClampNeg) &&& (63 : Int32)) = (18 : Int32) then f_L_law_c18 sc len (B_L_law_1621 (L_L_law_23 sc len n)) x4 M else if ((sc x4.toNatClampNeg) &&& (63 : Int32)) = (19 : Int32) then f_L_law_c19 sc len (B_L_law_1621 (L_L_law_23 sc len n)) x4 M else if ((sc x4.toNatClampNeg) &&& (63 : Int32)) = (20 : Int32) then f_L_law_c20 sc len (B_L_law_1621 (L_L_law_23 sc len n)) x4 M else if ((sc x4.toNatClampNeg) &&& (63 : Int32)) = (21 : Int32) then f_L_law_c21 sc len (B_L_law_1621 (L_L_law_23 sc len n)) x4 M else if ((sc x4.toNatClampNeg) &&& (63 : Int32)) = (22 : Int32) then f_L_law_c22 sc len (B_L_law_1621 (L_L_law_23 sc len n)) x4 M else if ((sc x4.toNatClampNeg) &&& (63 : Int32)) = (23 : Int32) then f_L_law_c23 sc len (B_L_law_1621 (L_L_law_23 sc len n)) x4 M else if ((sc x4.toNatClampNeg) &&& (63 : Int32)) = (24 : Int32) then f_L_law_c24 sc len (B_L_law_1621 (L_L_law_23 sc len n)) x4 M else if ((sc x4.toNatClampNeg) &&& (63 : Int32)) = (25 : Int32) then f_L_law_c25 sc len (B_L_law_1621 (L_L_law_23 sc len n)) x4 M else if ((sc x4.toNatClampNeg) &&& (63 : Int32)) = (26 : Int32) then f_L_law_c26 sc len (B_L_law_1621 (L_L_law_23 sc len n)) x4 M else if ((sc x4.toNatClampNeg) &&& (63 : Int32)) = (27 : Int32) then f_L_law_c27 sc len (B_L_law_1621 (L_L_law_23 sc len n)) x4 M else if ((sc x4.toNatClampNeg) &&& (63 : Int32)) = (28 : Int32) then f_L_law_c28 sc len (B_L_law_1621 (L_L_law_23 sc len n)) x4 M else if ((sc x4.toNatClampNeg) &&& (63 : Int32)) = (29 : Int32) then f_L_law_c29 sc len (B_L_law_1621 (L_L_law_23 sc len n)) x4 M else if ((sc x4.toNatClampNeg) &&& (63 : Int32)) = (30 : Int32) then f_L_law_c30 sc len (B_L_law_1621 (L_L_law_23 sc len n)) x4 M else if ((sc x4.toNatClampNeg) &&& (63 : Int32)) = (31 : Int32) then f_L_law_c31 sc len (B_L_law_1621 (L_L_law_23 sc len n)) x4 M else if ((sc x4.toNatClampNeg) &&& (63 : Int32)) = (32 : Int32) then f_L_law_c32 sc len (B_L_law_1621 (L_L_law_23 sc len n)) x4 M else if ((sc x4.toNatClampNeg) &&& (63 : Int32)) = (33 : Int32) then f_L_law_c33 sc len (B_L_law_1621 (L_L_law_23 sc len n)) x4 M else if ((sc x4.toNatClampNeg) &&& (63 : Int32)) = (34 : Int32) then f_L_law_c34 sc len (B_L_law_1621 (L_L_law_23 sc len n)) x4 M else if ((sc x4.toNatClampNeg) &&& (63 : Int32)) = (35 : Int32) then f_L_law_c35 sc len (B_L_law_1621 (L_L_law_23 sc len n)) x4 M else if ((sc x4.toNatClampNeg) &&& (63 : Int32)) = (36 : Int32) then f_L_law_c36 sc len (B_L_law_1621 (L_L_law_23 sc len n)) x4 M else if ((sc x4.toNatClampNeg) &&& (63 : Int32)) = (37 : Int32) then f_L_law_c37 sc len (B_L_law_1621 (L_L_law_23 sc len n)) x4 M else if ((sc x4.toNatClampNeg) &&& (63 : Int32)) = (38 : Int32) then f_L_law_c38 sc len (B_L_law_1621 (L_L_law_23 sc len n)) x4 M else if ((sc x4.toNatClampNeg) &&& (63 : Int32)) = (39 : Int32) then f_L_law_c39 sc len (B_L_law_1621 (L_L_law_23 sc len n)) x4 M else if ((sc x4.toNatClampNeg) &&& (63 : Int32)) = (40 : Int32) then f_L_law_c40 sc len (B_L_law_1621 (L_L_law_23 sc len n)) x4 M else if ((sc x4.toNatClampNeg) &&& (63 : Int32)) = (41 : Int32) then f_L_law_c41 sc len (B_L_law_1621 (L_L_law_23 sc len n)) x4 M else B_L_law_1621 (L_L_law_23 sc len n) x4 M)
set_option maxRecDepth 100000 in
set_option maxHeartbeats 8000000 in
theorem l_L_law_23 (Z : Sys) (X : Cx) (b : Nat) (hR : xR X = room_1) {sc : Nat → Int32} {len : Nat} (hX : va_X b len sc (xs X) (xs X).heap) (hbl : b < (xs X).heap.size) (hbZ : b < zs Z) {q : Int32} (hend : ∀ (pc cs sl : Nat) (loc : List (Nat × Value)) (M : Mem), cs ≤ 601024 → sl ≤ 7293034 → decode Y_L_law.1 pc = .ok (.ireturn, 1) → G Z X Y_L_law False cs sl pc loc [.int q] M) : ∀ (n cs sl : Nat) (x4 : Int32) (M : Mem) (hs : St M) (hf : L_L_law_23 sc len n x4 M = some q) (hb : cs + n ≤ 601024 ∧ sl + 6 * n ≤ 7293034), G Z X Y_L_law False cs sl 23 [(0, .ref b), (1, .ref (zs Z + 0)), (2, .ref (zs Z + 284)), (3, .ref (zs Z + 300)), (4, .int x4)] [] M := by
  intro n
  induction n with
  | zero => intro cs sl x4 M hs hf hb; cases hf
  | succ n ih =>
    intro cs sl x4 M hs hf hb
    unfold L_L_law_23 at hf
    refine G.iload 23 4 dL_law_23 rfl ?_
    refine G.aload_n 25 0 dL_law_25 rfl rfl ?_
    refine G.slen 26 hX hbl hbZ dL_law_26 ?_
    refine G.bipush 27 (6 : Int32) dL_law_27 (by decide +kernel) ?_
    refine G.isub 29 dL_law_29 ?_
    refine G.icmp_gt 30 1627 dL_law_30 (by decide) (fun h1 => ?_) (fun h1 => ?_)
    · replace hf := (if_pos h1).symm.trans hf
      refine G.iconst 1627 (1 : Int32) dL_law_1627 (by decide +kernel) ?_
      have hf9 := Option.some.inj hf; subst hf9
      exact hend 1628 _ _ _ _ (by (try simp only [rm_X8_toss, rm_L_element]); omega) (by (try simp only [rm_X8_toss, rm_L_element]); omega) dL_law_1628
    · replace hf := (if_neg h1).symm.trans hf
      refine G.aload_n 33 0 dL_law_33 rfl rfl ?_
      refine G.iload 34 4 dL_law_34 rfl ?_
      obtain ⟨g2, hf⟩ := gd_e hf
      refine G.sld 36 x4.toNatClampNeg hX hbl hbZ g2 rfl dL_law_36 ?_
      refine G.bipush 37 (63 : Int32) dL_law_37 (by decide +kernel) ?_
      refine G.iand 39 dL_law_39 ?_
      by_cases h3 : ((sc x4.toNatClampNeg) &&& (63 : Int32)) = (0 : Int32)
      · replace hf := (if_pos h3).symm.trans hf
        refine G.tableIn 40 224 (off := 184) dL_law_40 (by rw [h3]; decide +kernel) (by rw [h3]; decide +kernel) (by rw [h3]; decide +kernel) (by decide) ?_
        exact c_L_law_c0 Z X b n hR hX hbl hbZ hend (B_L_law_1621 (L_L_law_23 sc len n)) (fun cs sl x4 M hs hf hb => b_L_law_1621 Z X b n hR (L_L_law_23 sc len n) ih cs sl x4 hs hf hb) cs sl x4 M hs hf (by omega)
      replace hf := (if_neg h3).symm.trans hf
      by_cases h4 : ((sc x4.toNatClampNeg) &&& (63 : Int32)) = (1 : Int32)
      · replace hf := (if_pos h4).symm.trans hf
        refine G.tableIn 40 273 (off := 233) dL_law_40 (by rw [h4]; decide +kernel) (by rw [h4]; decide +kernel) (by rw [h4]; decide +kernel) (by decide) ?_
        exact c_L_law_c1 Z X b n hR hX hbl hbZ hend (B_L_law_1621 (L_L_law_23 sc len n)) (fun cs sl x4 M hs hf hb => b_L_law_1621 Z X b n hR (L_L_law_23 sc len n) ih cs sl x4 hs hf hb) cs sl x4 M hs hf (by omega)
      replace hf := (if_neg h4).symm.trans hf
      by_cases h5 : ((sc x4.toNatClampNeg) &&& (63 : Int32)) = (2 : Int32)
      · replace hf := (if_pos h5).symm.trans hf
        refine G.tableIn 40 322 (off := 282) dL_law_40 (by rw [h5]; decide +kernel) (by rw [h5]; decide +kernel) (by rw [h5]; decide +kernel) (by decide) ?_
        exact c_L_law_c2 Z X b n hR hX hbl hbZ hend (B_L_law_1621 (L_L_law_23 sc len n)) (fun cs sl x4 M hs hf hb => b_L_law_1621 Z X b n hR (L_L_law_23 sc len n) ih cs sl x4 hs hf hb) cs sl x4 M hs hf (by omega)
      replace hf := (if_neg h5).symm.trans hf
      by_cases h6 : ((sc x4.toNatClampNeg) &&& (63 : Int32)) = (3 : Int32)
      · replace hf := (if_pos h6).symm.trans hf
        refine G.tableIn 40 371 (off := 331) dL_law_40 (by rw [h6]; decide +kernel) (by rw [h6]; decide +kernel) (by rw [h6]; decide +kernel) (by decide) ?_
        exact c_L_law_c3 Z X b n hR hX hbl hbZ hend (B_L_law_1621 (L_L_law_23 sc len n)) (fun cs sl x4 M hs hf hb => b_L_law_1621 Z X b n hR (L_L_law_23 sc len n) ih cs sl x4 hs hf hb) cs sl x4 M hs hf (by omega)
      replace hf := (if_neg h6).symm.trans hf
      by_cases h7 : ((sc x4.toNatClampNeg) &&& (63 : Int32)) = (4 : Int32)
      · replace hf := (if_pos h7).symm.trans hf
        refine G.tableIn 40 408 (off := 368) dL_law_40 (by rw [h7]; decide +kernel) (by rw [h7]; decide +kernel) (by rw [h7]; decide +kernel) (by decide) ?_
        exact c_L_law_c4 Z X b n hR hX hbl hbZ hend (B_L_law_1621 (L_L_law_23 sc len n)) (fun cs sl x4 M hs hf hb => b_L_law_1621 Z X b n hR (L_L_law_23 sc len n) ih cs sl x4 hs hf hb) cs sl x4 M hs hf (by omega)
      replace hf := (if_neg h7).symm.trans hf
      by_cases h8 : ((sc x4.toNatClampNeg) &&& (63 : Int32)) = (5 : Int32)
      · replace hf := (if_pos h8).symm.trans hf
        refine G.tableIn 40 445 (off := 405) dL_law_40 (by rw [h8]; decide +kernel) (by rw [h8]; decide +kernel) (by rw [h8]; decide +kernel) (by decide) ?_
        exact c_L_law_c5 Z X b n hR hX hbl hbZ hend (B_L_law_1621 (L_L_law_23 sc len n)) (fun cs sl x4 M hs hf hb => b_L_law_1621 Z X b n hR (L_L_law_23 sc len n) ih cs sl x4 hs hf hb) cs sl x4 M hs hf (by omega)
      replace hf := (if_neg h8).symm.trans hf
      by_cases h9 : ((sc x4.toNatClampNeg) &&& (63 : Int32)) = (6 : Int32)
      · replace hf := (if_pos h9).symm.trans hf
        refine G.tableIn 40 470 (off := 430) dL_law_40 (by rw [h9]; decide +kernel) (by rw [h9]; decide +kernel) (by rw [h9]; decide +kernel) (by decide) ?_
        exact c_L_law_c6 Z X b n hR hX hbl hbZ hend (B_L_law_1621 (L_L_law_23 sc len n)) (fun cs sl x4 M hs hf hb => b_L_law_1621 Z X b n hR (L_L_law_23 sc len n) ih cs sl x4 hs hf hb) cs sl x4 M hs hf (by omega)
      replace hf := (if_neg h9).symm.trans hf
      by_cases h10 : ((sc x4.toNatClampNeg) &&& (63 : Int32)) = (7 : Int32)
      · replace hf := (if_pos h10).symm.trans hf
        refine G.tableIn 40 507 (off := 467) dL_law_40 (by rw [h10]; decide +kernel) (by rw [h10]; decide +kernel) (by rw [h10]; decide +kernel) (by decide) ?_
        exact c_L_law_c7 Z X b n hR hX hbl hbZ hend (B_L_law_1621 (L_L_law_23 sc len n)) (fun cs sl x4 M hs hf hb => b_L_law_1621 Z X b n hR (L_L_law_23 sc len n) ih cs sl x4 hs hf hb) cs sl x4 M hs hf (by omega)
      replace hf := (if_neg h10).symm.trans hf
      by_cases h11 : ((sc x4.toNatClampNeg) &&& (63 : Int32)) = (8 : Int32)
      · replace hf := (if_pos h11).symm.trans hf
        refine G.tableIn 40 544 (off := 504) dL_law_40 (by rw [h11]; decide +kernel) (by rw [h11]; decide +kernel) (by rw [h11]; decide +kernel) (by decide) ?_
        exact c_L_law_c8 Z X b n hR hX hbl hbZ hend (B_L_law_1621 (L_L_law_23 sc len n)) (fun cs sl x4 M hs hf hb => b_L_law_1621 Z X b n hR (L_L_law_23 sc len n) ih cs sl x4 hs hf hb) cs sl x4 M hs hf (by omega)
      replace hf := (if_neg h11).symm.trans hf
      by_cases h12 : ((sc x4.toNatClampNeg) &&& (63 : Int32)) = (9 : Int32)
      · replace hf := (if_pos h12).symm.trans hf
        refine G.tableIn 40 570 (off := 530) dL_law_40 (by rw [h12]; decide +kernel) (by rw [h12]; decide +kernel) (by rw [h12]; decide +kernel) (by decide) ?_
        exact c_L_law_c9 Z X b n hR hX hbl hbZ hend (B_L_law_1621 (L_L_law_23 sc len n)) (fun cs sl x4 M hs hf hb => b_L_law_1621 Z X b n hR (L_L_law_23 sc len n) ih cs sl x4 hs hf hb) cs sl x4 M hs hf (by omega)
      replace hf := (if_neg h12).symm.trans hf
      by_cases h13 : ((sc x4.toNatClampNeg) &&& (63 : Int32)) = (10 : Int32)
      · replace hf := (if_pos h13).symm.trans hf
        refine G.tableIn 40 595 (off := 555) dL_law_40 (by rw [h13]; decide +kernel) (by rw [h13]; decide +kernel) (by rw [h13]; decide +kernel) (by decide) ?_
        exact c_L_law_c10 Z X b n hR hX hbl hbZ hend (B_L_law_1621 (L_L_law_23 sc len n)) (fun cs sl x4 M hs hf hb => b_L_law_1621 Z X b n hR (L_L_law_23 sc len n) ih cs sl x4 hs hf hb) cs sl x4 M hs hf (by omega)
      replace hf := (if_neg h13).symm.trans hf
      by_cases h14 : ((sc x4.toNatClampNeg) &&& (63 : Int32)) = (11 : Int32)
      · replace hf := (if_pos h14).symm.trans hf
        refine G.tableIn 40 632 (off := 592) dL_law_40 (by rw [h14]; decide +kernel) (by rw [h14]; decide +kernel) (by rw [h14]; decide +kernel) (by decide) ?_
        exact c_L_law_c11 Z X b n hR hX hbl hbZ hend (B_L_law_1621 (L_L_law_23 sc len n)) (fun cs sl x4 M hs hf hb => b_L_law_1621 Z X b n hR (L_L_law_23 sc len n) ih cs sl x4 hs hf hb) cs sl x4 M hs hf (by omega)
      replace hf := (if_neg h14).symm.trans hf
      by_cases h15 : ((sc x4.toNatClampNeg) &&& (63 : Int32)) = (12 : Int32)
      · replace hf := (if_pos h15).symm.trans hf
        refine G.tableIn 40 657 (off := 617) dL_law_40 (by rw [h15]; decide +kernel) (by rw [h15]; decide +kernel) (by rw [h15]; decide +kernel) (by decide) ?_
        exact c_L_law_c12 Z X b n hR hX hbl hbZ hend (B_L_law_1621 (L_L_law_23 sc len n)) (fun cs sl x4 M hs hf hb => b_L_law_1621 Z X b n hR (L_L_law_23 sc len n) ih cs sl x4 hs hf hb) cs sl x4 M hs hf (by omega)
      replace hf := (if_neg h15).symm.trans hf
      by_cases h16 : ((sc x4.toNatClampNeg) &&& (63 : Int32)) = (13 : Int32)
      · replace hf := (if_pos h16).symm.trans hf
        refine G.tableIn 40 682 (off := 642) dL_law_40 (by rw [h16]; decide +kernel) (by rw [h16]; decide +kernel) (by rw [h16]; decide +kernel) (by decide) ?_
        exact c_L_law_c13 Z X b n hR hX hbl hbZ hend (B_L_law_1621 (L_L_law_23 sc len n)) (fun cs sl x4 M hs hf hb => b_L_law_1621 Z X b n hR (L_L_law_23 sc len n) ih cs sl x4 hs hf hb) cs sl x4 M hs hf (by omega)
      replace hf := (if_neg h16).symm.trans hf
      by_cases h17 : ((sc x4.toNatClampNeg) &&& (63 : Int32)) = (14 : Int32)
      · replace hf := (if_pos h17).symm.trans hf
        refine G.tableIn 40 707 (off := 667) dL_law_40 (by rw [h17]; decide +kernel) (by rw [h17]; decide +kernel) (by rw [h17]; decide +kernel) (by decide) ?_
        exact c_L_law_c14 Z X b n hR hX hbl hbZ hend (B_L_law_1621 (L_L_law_23 sc len n)) (fun cs sl x4 M hs hf hb => b_L_law_1621 Z X b n hR (L_L_law_23 sc len n) ih cs sl x4 hs hf hb) cs sl x4 M hs hf (by omega)
      replace hf := (if_neg h17).symm.trans hf
      by_cases h18 : ((sc x4.toNatClampNeg) &&& (63 : Int32)) = (15 : Int32)
      · replace hf := (if_pos h18).symm.trans hf
        refine G.tableIn 40 760 (off := 720) dL_law_40 (by rw [h18]; decide +kernel) (by rw [h18]; decide +kernel) (by rw [h18]; decide +kernel) (by decide) ?_
        exact c_L_law_c15 Z X b n hR hX hbl hbZ hend (B_L_law_1621 (L_L_law_23 sc len n)) (fun cs sl x4 M hs hf hb => b_L_law_1621 Z X b n hR (L_L_law_23 sc len n) ih cs sl x4 hs hf hb) cs sl x4 M hs hf (by omega)
      replace hf := (if_neg h18).symm.trans hf
      by_cases h19 : ((sc x4.toNatClampNeg) &&& (63 : Int32)) = (16 : Int32)
      · replace hf := (if_pos h19).symm.trans hf
        refine G.tableIn 40 773 (off := 733) dL_law_40 (by rw [h19]; decide +kernel) (by rw [h19]; decide +kernel) (by rw [h19]; decide +kernel) (by decide) ?_
        exact c_L_law_c16 Z X b n hR hX hbl hbZ hend (B_L_law_1621 (L_L_law_23 sc len n)) (fun cs sl x4 M hs hf hb => b_L_law_1621 Z X b n hR (L_L_law_23 sc len n) ih cs sl x4 hs hf hb) cs sl x4 M hs hf (by omega)
      replace hf := (if_neg h19).symm.trans hf
      by_cases h20 : ((sc x4.toNatClampNeg) &&& (63 : Int32)) = (17 : Int32)
      · replace hf := (if_pos h20).symm.trans hf
        refine G.tableIn 40 798 (off := 758) dL_law_40 (by rw [h20]; decide +kernel) (by rw [h20]; decide +kernel) (by rw [h20]; decide +kernel) (by decide) ?_
        exact c_L_law_c17 Z X b n hR hX hbl hbZ hend (B_L_law_1621 (L_L_law_23 sc len n)) (fun cs sl x4 M hs hf hb => b_L_law_1621 Z X b n hR (L_L_law_23 sc len n) ih cs sl x4 hs hf hb) cs sl x4 M hs hf (by omega)
      replace hf := (if_neg h20).symm.trans hf
      by_cases h21 : ((sc x4.toNatClampNeg) &&& (63 : Int32)) = (18 : Int32)
      · replace hf := (if_pos h21).symm.trans hf
        refine G.tableIn 40 847 (off := 807) dL_law_40 (by rw [h21]; decide +kernel) (by rw [h21]; decide +kernel) (by rw [h21]; decide +kernel) (by decide) ?_
        exact c_L_law_c18 Z X b n hR hX hbl hbZ hend (B_L_law_1621 (L_L_law_23 sc len n)) (fun cs sl x4 M hs hf hb => b_L_law_1621 Z X b n hR (L_L_law_23 sc len n) ih cs sl x4 hs hf hb) cs sl x4 M hs hf (by omega)
      replace hf := (if_neg h21).symm.trans hf
      by_cases h22 : ((sc x4.toNatClampNeg) &&& (63 : Int32)) = (19 : Int32)
      · replace hf := (if_pos h22).symm.trans hf
        refine G.tableIn 40 872 (off := 832) dL_law_40 (by rw [h22]; decide +kernel) (by rw [h22]; decide +kernel) (by rw [h22]; decide +kernel) (by decide) ?_
        exact c_L_law_c19 Z X b n hR hX hbl hbZ hend (B_L_law_1621 (L_L_law_23 sc len n)) (fun cs sl x4 M hs hf hb => b_L_law_1621 Z X b n hR (L_L_law_23 sc len n) ih cs sl x4 hs hf hb) cs sl x4 M hs hf (by omega)
      replace hf := (if_neg h22).symm.trans hf
      by_cases h23 : ((sc x4.toNatClampNeg) &&& (63 : Int32)) = (20 : Int32)
      · replace hf := (if_pos h23).symm.trans hf
        refine G.tableIn 40 909 (off := 869) dL_law_40 (by rw [h23]; decide +kernel) (by rw [h23]; decide +kernel) (by rw [h23]; decide +kernel) (by decide) ?_
        exact c_L_law_c20 Z X b n hR hX hbl hbZ hend (B_L_law_1621 (L_L_law_23 sc len n)) (fun cs sl x4 M hs hf hb => b_L_law_1621 Z X b n hR (L_L_law_23 sc len n) ih cs sl x4 hs hf hb) cs sl x4 M hs hf (by omega)
      replace hf := (if_neg h23).symm.trans hf
      by_cases h24 : ((sc x4.toNatClampNeg) &&& (63 : Int32)) = (21 : Int32)
      · replace hf := (if_pos h24).symm.trans hf
        refine G.tableIn 40 922 (off := 882) dL_law_40 (by rw [h24]; decide +kernel) (by rw [h24]; decide +kernel) (by rw [h24]; decide +kernel) (by decide) ?_
        exact c_L_law_c21 Z X b n hR hX hbl hbZ hend (B_L_law_1621 (L_L_law_23 sc len n)) (fun cs sl x4 M hs hf hb => b_L_law_1621 Z X b n hR (L_L_law_23 sc len n) ih cs sl x4 hs hf hb) cs sl x4 M hs hf (by omega)
      replace hf := (if_neg h24).symm.trans hf
      by_cases h25 : ((sc x4.toNatClampNeg) &&& (63 : Int32)) = (22 : Int32)
      · replace hf := (if_pos h25).symm.trans hf
        refine G.tableIn 40 935 (off := 895) dL_law_40 (by rw [h25]; decide +kernel) (by rw [h25]; decide +kernel) (by rw [h25]; decide +kernel) (by decide) ?_
        exact c_L_law_c22 Z X b n hR hX hbl hbZ hend (B_L_law_1621 (L_L_law_23 sc len n)) (fun cs sl x4 M hs hf hb => b_L_law_1621 Z X b n hR (L_L_law_23 sc len n) ih cs sl x4 hs hf hb) cs sl x4 M hs hf (by omega)
      replace hf := (if_neg h25).symm.trans hf
      by_cases h26 : ((sc x4.toNatClampNeg) &&& (63 : Int32)) = (23 : Int32)
      · replace hf := (if_pos h26).symm.trans hf
        refine G.tableIn 40 972 (off := 932) dL_law_40 (by rw [h26]; decide +kernel) (by rw [h26]; decide +kernel) (by rw [h26]; decide +kernel) (by decide) ?_
        exact c_L_law_c23 Z X b n hR hX hbl hbZ hend (B_L_law_1621 (L_L_law_23 sc len n)) (fun cs sl x4 M hs hf hb => b_L_law_1621 Z X b n hR (L_L_law_23 sc len n) ih cs sl x4 hs hf hb) cs sl x4 M hs hf (by omega)
      replace hf := (if_neg h26).symm.trans hf
      by_cases h27 : ((sc x4.toNatClampNeg) &&& (63 : Int32)) = (24 : Int32)
      · replace hf := (if_pos h27).symm.trans hf
        refine G.tableIn 40 985 (off := 945) dL_law_40 (by rw [h27]; decide +kernel) (by rw [h27]; decide +kernel) (by rw [h27]; decide +kernel) (by decide) ?_
        exact c_L_law_c24 Z X b n hR hX hbl hbZ hend (B_L_law_1621 (L_L_law_23 sc len n)) (fun cs sl x4 M hs hf hb => b_L_law_1621 Z X b n hR (L_L_law_23 sc len n) ih cs sl x4 hs hf hb) cs sl x4 M hs hf (by omega)
      replace hf := (if_neg h27).symm.trans hf
      by_cases h28 : ((sc x4.toNatClampNeg) &&& (63 : Int32)) = (25 : Int32)
      · replace hf := (if_pos h28).symm.trans hf
        refine G.tableIn 40 1022 (off := 982) dL_law_40 (by rw [h28]; decide +kernel) (by rw [h28]; decide +kernel) (by rw [h28]; decide +kernel) (by decide) ?_
        exact c_L_law_c25 Z X b n hR hX hbl hbZ hend (B_L_law_1621 (L_L_law_23 sc len n)) (fun cs sl x4 M hs hf hb => b_L_law_1621 Z X b n hR (L_L_law_23 sc len n) ih cs sl x4 hs hf hb) cs sl x4 M hs hf (by omega)
      replace hf := (if_neg h28).symm.trans hf
      by_cases h29 : ((sc x4.toNatClampNeg) &&& (63 : Int32)) = (26 : Int32)
      · replace hf := (if_pos h29).symm.trans hf
        refine G.tableIn 40 1047 (off := 1007) dL_law_40 (by rw [h29]; decide +kernel) (by rw [h29]; decide +kernel) (by rw [h29]; decide +kernel) (by decide) ?_
        exact c_L_law_c26 Z X b n hR hX hbl hbZ hend (B_L_law_1621 (L_L_law_23 sc len n)) (fun cs sl x4 M hs hf hb => b_L_law_1621 Z X b n hR (L_L_law_23 sc len n) ih cs sl x4 hs hf hb) cs sl x4 M hs hf (by omega)
      replace hf := (if_neg h29).symm.trans hf
      by_cases h30 : ((sc x4.toNatClampNeg) &&& (63 : Int32)) = (27 : Int32)
      · replace hf := (if_pos h30).symm.trans hf
        refine G.tableIn 40 1096 (off := 1056) dL_law_40 (by rw [h30]; decide +kernel) (by rw [h30]; decide +kernel) (by rw [h30]; decide +kernel) (by decide) ?_
        exact c_L_law_c27 Z X b n hR hX hbl hbZ hend (B_L_law_1621 (L_L_law_23 sc len n)) (fun cs sl x4 M hs hf hb => b_L_law_1621 Z X b n hR (L_L_law_23 sc len n) ih cs sl x4 hs hf hb) cs sl x4 M hs hf (by omega)
      replace hf := (if_neg h30).symm.trans hf
      by_cases h31 : ((sc x4.toNatClampNeg) &&& (63 : Int32)) = (28 : Int32)
      · replace hf := (if_pos h31).symm.trans hf
        refine G.tableIn 40 1121 (off := 1081) dL_law_40 (by rw [h31]; decide +kernel) (by rw [h31]; decide +kernel) (by rw [h31]; decide +kernel) (by decide) ?_
        exact c_L_law_c28 Z X b n hR hX hbl hbZ hend (B_L_law_1621 (L_L_law_23 sc len n)) (fun cs sl x4 M hs hf hb => b_L_law_1621 Z X b n hR (L_L_law_23 sc len n) ih cs sl x4 hs hf hb) cs sl x4 M hs hf (by omega)
      replace hf := (if_neg h31).symm.trans hf
      by_cases h32 : ((sc x4.toNatClampNeg) &&& (63 : Int32)) = (29 : Int32)
      · replace hf := (if_pos h32).symm.trans hf
        refine G.tableIn 40 1146 (off := 1106) dL_law_40 (by rw [h32]; decide +kernel) (by rw [h32]; decide +kernel) (by rw [h32]; decide +kernel) (by decide) ?_
        exact c_L_law_c29 Z X b n hR hX hbl hbZ hend (B_L_law_1621 (L_L_law_23 sc len n)) (fun cs sl x4 M hs hf hb => b_L_law_1621 Z X b n hR (L_L_law_23 sc len n) ih cs sl x4 hs hf hb) cs sl x4 M hs hf (by omega)
      replace hf := (if_neg h32).symm.trans hf
      by_cases h33 : ((sc x4.toNatClampNeg) &&& (63 : Int32)) = (30 : Int32)
      · replace hf := (if_pos h33).symm.trans hf
        refine G.tableIn 40 1171 (off := 1131) dL_law_40 (by rw [h33]; decide +kernel) (by rw [h33]; decide +kernel) (by rw [h33]; decide +kernel) (by decide) ?_
        exact c_L_law_c30 Z X b n hR hX hbl hbZ hend (B_L_law_1621 (L_L_law_23 sc len n)) (fun cs sl x4 M hs hf hb => b_L_law_1621 Z X b n hR (L_L_law_23 sc len n) ih cs sl x4 hs hf hb) cs sl x4 M hs hf (by omega)
      replace hf := (if_neg h33).symm.trans hf
      by_cases h34 : ((sc x4.toNatClampNeg) &&& (63 : Int32)) = (31 : Int32)
      · replace hf := (if_pos h34).symm.trans hf
        refine G.tableIn 40 1196 (off := 1156) dL_law_40 (by rw [h34]; decide +kernel) (by rw [h34]; decide +kernel) (by rw [h34]; decide +kernel) (by decide) ?_
        exact c_L_law_c31 Z X b n hR hX hbl hbZ hend (B_L_law_1621 (L_L_law_23 sc len n)) (fun cs sl x4 M hs hf hb => b_L_law_1621 Z X b n hR (L_L_law_23 sc len n) ih cs sl x4 hs hf hb) cs sl x4 M hs hf (by omega)
      replace hf := (if_neg h34).symm.trans hf
      by_cases h35 : ((sc x4.toNatClampNeg) &&& (63 : Int32)) = (32 : Int32)
      · replace hf := (if_pos h35).symm.trans hf
        refine G.tableIn 40 1233 (off := 1193) dL_law_40 (by rw [h35]; decide +kernel) (by rw [h35]; decide +kernel) (by rw [h35]; decide +kernel) (by decide) ?_
        exact c_L_law_c32 Z X b n hR hX hbl hbZ hend (B_L_law_1621 (L_L_law_23 sc len n)) (fun cs sl x4 M hs hf hb => b_L_law_1621 Z X b n hR (L_L_law_23 sc len n) ih cs sl x4 hs hf hb) cs sl x4 M hs hf (by omega)
      replace hf := (if_neg h35).symm.trans hf
      by_cases h36 : ((sc x4.toNatClampNeg) &&& (63 : Int32)) = (33 : Int32)
      · replace hf := (if_pos h36).symm.trans hf
        refine G.tableIn 40 1246 (off := 1206) dL_law_40 (by rw [h36]; decide +kernel) (by rw [h36]; decide +kernel) (by rw [h36]; decide +kernel) (by decide) ?_
        exact c_L_law_c33 Z X b n hR hX hbl hbZ hend (B_L_law_1621 (L_L_law_23 sc len n)) (fun cs sl x4 M hs hf hb => b_L_law_1621 Z X b n hR (L_L_law_23 sc len n) ih cs sl x4 hs hf hb) cs sl x4 M hs hf (by omega)
      replace hf := (if_neg h36).symm.trans hf
      by_cases h37 : ((sc x4.toNatClampNeg) &&& (63 : Int32)) = (34 : Int32)
      · replace hf := (if_pos h37).symm.trans hf
        refine G.tableIn 40 1259 (off := 1219) dL_law_40 (by rw [h37]; decide +kernel) (by rw [h37]; decide +kernel) (by rw [h37]; decide +kernel) (by decide) ?_
        exact c_L_law_c34 Z X b n hR hX hbl hbZ hend (B_L_law_1621 (L_L_law_23 sc len n)) (fun cs sl x4 M hs hf hb => b_L_law_1621 Z X b n hR (L_L_law_23 sc len n) ih cs sl x4 hs hf hb) cs sl x4 M hs hf (by omega)
      replace hf := (if_neg h37).symm.trans hf
      by_cases h38 : ((sc x4.toNatClampNeg) &&& (63 : Int32)) = (35 : Int32)
      · replace hf := (if_pos h38).symm.trans hf
        refine G.tableIn 40 1284 (off := 1244) dL_law_40 (by rw [h38]; decide +kernel) (by rw [h38]; decide +kernel) (by rw [h38]; decide +kernel) (by decide) ?_
        exact c_L_law_c35 Z X b n hR hX hbl hbZ hend (B_L_law_1621 (L_L_law_23 sc len n)) (fun cs sl x4 M hs hf hb => b_L_law_1621 Z X b n hR (L_L_law_23 sc len n) ih cs sl x4 hs hf hb) cs sl x4 M hs hf (by omega)
      replace hf := (if_neg h38).symm.trans hf
      by_cases h39 : ((sc x4.toNatClampNeg) &&& (63 : Int32)) = (36 : Int32)
      · replace hf := (if_pos h39).symm.trans hf
        refine G.tableIn 40 1333 (off := 1293) dL_law_40 (by rw [h39]; decide +kernel) (by rw [h39]; decide +kernel) (by rw [h39]; decide +kernel) (by decide) ?_
        exact c_L_law_c36 Z X b n hR hX hbl hbZ hend (B_L_law_1621 (L_L_law_23 sc len n)) (fun cs sl x4 M hs hf hb => b_L_law_1621 Z X b n hR (L_L_law_23 sc len n) ih cs sl x4 hs hf hb) cs sl x4 M hs hf (by omega)
      replace hf := (if_neg h39).symm.trans hf
      by_cases h40 : ((sc x4.toNatClampNeg) &&& (63 : Int32)) = (37 : Int32)
      · replace hf := (if_pos h40).symm.trans hf
        refine G.tableIn 40 1382 (off := 1342) dL_law_40 (by rw [h40]; decide +kernel) (by rw [h40]; decide +kernel) (by rw [h40]; decide +kernel) (by decide) ?_
        exact c_L_law_c37 Z X b n hR hX hbl hbZ hend (B_L_law_1621 (L_L_law_23 sc len n)) (fun cs sl x4 M hs hf hb => b_L_law_1621 Z X b n hR (L_L_law_23 sc len n) ih cs sl x4 hs hf hb) cs sl x4 M hs hf (by omega)
      replace hf := (if_neg h40).symm.trans hf
      by_cases h41 : ((sc x4.toNatClampNeg) &&& (63 : Int32)) = (38 : Int32)
      · replace hf := (if_pos h41).symm.trans hf
        refine G.tableIn 40 1431 (off := 1391) dL_law_40 (by rw [h41]; decide +kernel) (by rw [h41]; decide +kernel) (by rw [h41]; decide +kernel) (by decide) ?_
        exact c_L_law_c38 Z X b n hR hX hbl hbZ hend (B_L_law_1621 (L_L_law_23 sc len n)) (fun cs sl x4 M hs hf hb => b_L_law_1621 Z X b n hR (L_L_law_23 sc len n) ih cs sl x4 hs hf hb) cs sl x4 M hs hf (by omega)
      replace hf := (if_neg h41).symm.trans hf
      by_cases h42 : ((sc x4.toNatClampNeg) &&& (63 : Int32)) = (39 : Int32)
      · replace hf := (if_pos h42).symm.trans hf
        refine G.tableIn 40 1498 (off := 1458) dL_law_40 (by rw [h42]; decide +kernel) (by rw [h42]; decide +kernel) (by rw [h42]; decide +kernel) (by decide) ?_
        exact c_L_law_c39 Z X b n hR hX hbl hbZ hend (B_L_law_1621 (L_L_law_23 sc len n)) (fun cs sl x4 M hs hf hb => b_L_law_1621 Z X b n hR (L_L_law_23 sc len n) ih cs sl x4 hs hf hb) cs sl x4 M hs hf (by omega)
      replace hf := (if_neg h42).symm.trans hf
      by_cases h43 : ((sc x4.toNatClampNeg) &&& (63 : Int32)) = (40 : Int32)
      · replace hf := (if_pos h43).symm.trans hf
        refine G.tableIn 40 1571 (off := 1531) dL_law_40 (by rw [h43]; decide +kernel) (by rw [h43]; decide +kernel) (by rw [h43]; decide +kernel) (by decide) ?_
        exact c_L_law_c40 Z X b n hR hX hbl hbZ hend (B_L_law_1621 (L_L_law_23 sc len n)) (fun cs sl x4 M hs hf hb => b_L_law_1621 Z X b n hR (L_L_law_23 sc len n) ih cs sl x4 hs hf hb) cs sl x4 M hs hf (by omega)
      replace hf := (if_neg h43).symm.trans hf
      by_cases h44 : ((sc x4.toNatClampNeg) &&& (63 : Int32)) = (41 : Int32)
      · replace hf := (if_pos h44).symm.trans hf
        refine G.tableIn 40 1596 (off := 1556) dL_law_40 (by rw [h44]; decide +kernel) (by rw [h44]; decide +kernel) (by rw [h44]; decide +kernel) (by decide) ?_
        exact c_L_law_c41 Z X b n hR hX hbl hbZ hend (B_L_law_1621 (L_L_law_23 sc len n)) (fun cs sl x4 M hs hf hb => b_L_law_1621 Z X b n hR (L_L_law_23 sc len n) ih cs sl x4 hs hf hb) cs sl x4 M hs hf (by omega)
      replace hf := (if_neg h44).symm.trans hf
      have t_h3 := ti (0 : Int32) (0) (by decide +kernel) h3
      have t_h4 := ti (1 : Int32) (1) (by decide +kernel) h4
      have t_h5 := ti (2 : Int32) (2) (by decide +kernel) h5
      have t_h6 := ti (3 : Int32) (3) (by decide +kernel) h6
      have t_h7 := ti (4 : Int32) (4) (by decide +kernel) h7
      have t_h8 := ti (5 : Int32) (5) (by decide +kernel) h8
      have t_h9 := ti (6 : Int32) (6) (by decide +kernel) h9
      have t_h10 := ti (7 : Int32) (7) (by decide +kernel) h10
      have t_h11 := ti (8 : Int32) (8) (by decide +kernel) h11
      have t_h12 := ti (9 : Int32) (9) (by decide +kernel) h12
      have t_h13 := ti (10 : Int32) (10) (by decide +kernel) h13
      have t_h14 := ti (11 : Int32) (11) (by decide +kernel) h14
      have t_h15 := ti (12 : Int32) (12) (by decide +kernel) h15
      have t_h16 := ti (13 : Int32) (13) (by decide +kernel) h16
      have t_h17 := ti (14 : Int32) (14) (by decide +kernel) h17
      have t_h18 := ti (15 : Int32) (15) (by decide +kernel) h18
      have t_h19 := ti (16 : Int32) (16) (by decide +kernel) h19
      have t_h20 := ti (17 : Int32) (17) (by decide +kernel) h20
      have t_h21 := ti (18 : Int32) (18) (by decide +kernel) h21
      have t_h22 := ti (19 : Int32) (19) (by decide +kernel) h22
      have t_h23 := ti (20 : Int32) (20) (by decide +kernel) h23
      have t_h24 := ti (21 : Int32) (21) (by decide +kernel) h24
      have t_h25 := ti (22 : Int32) (22) (by decide +kernel) h25
      have t_h26 := ti (23 : Int32) (23) (by decide +kernel) h26
      have t_h27 := ti (24 : Int32) (24) (by decide +kernel) h27
      have t_h28 := ti (25 : Int32) (25) (by decide +kernel) h28
      have t_h29 := ti (26 : Int32) (26) (by decide +kernel) h29
      have t_h30 := ti (27 : Int32) (27) (by decide +kernel) h30
      have t_h31 := ti (28 : Int32) (28) (by decide +kernel) h31
      have t_h32 := ti (29 : Int32) (29) (by decide +kernel) h32
      have t_h33 := ti (30 : Int32) (30) (by decide +kernel) h33
      have t_h34 := ti (31 : Int32) (31) (by decide +kernel) h34
      have t_h35 := ti (32 : Int32) (32) (by decide +kernel) h35
      have t_h36 := ti (33 : Int32) (33) (by decide +kernel) h36
      have t_h37 := ti (34 : Int32) (34) (by decide +kernel) h37
      have t_h38 := ti (35 : Int32) (35) (by decide +kernel) h38
      have t_h39 := ti (36 : Int32) (36) (by decide +kernel) h39
      have t_h40 := ti (37 : Int32) (37) (by decide +kernel) h40
      have t_h41 := ti (38 : Int32) (38) (by decide +kernel) h41
      have t_h42 := ti (39 : Int32) (39) (by decide +kernel) h42
      have t_h43 := ti (40 : Int32) (40) (by decide +kernel) h43
      have t_h44 := ti (41 : Int32) (41) (by decide +kernel) h44
      refine G.tableOut 40 1621 dL_law_40 (by omega) (by decide) ?_
      exact b_L_law_1621 Z X b n hR (L_L_law_23 sc len n) ih _ _ x4 hs hf (by (try simp only [rm_X8_toss, rm_L_element]); omega)
