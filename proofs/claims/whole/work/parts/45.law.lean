theorem dL_law_0 : decode cL_law 0 = .ok (.new 8, 3) := by decide +kernel
theorem dL_law_3 : decode cL_law 3 = .ok (.dup, 1) := by decide +kernel
theorem dL_law_4 : decode cL_law 4 = .ok (.invokespecial 15, 3) := by decide +kernel
theorem dL_law_7 : decode cL_law 7 = .ok (.astore_n 1, 1) := by decide +kernel
theorem dL_law_8 : decode cL_law 8 = .ok (.new 16, 3) := by decide +kernel
theorem dL_law_11 : decode cL_law 11 = .ok (.dup, 1) := by decide +kernel
theorem dL_law_12 : decode cL_law 12 = .ok (.invokespecial 18, 3) := by decide +kernel
theorem dL_law_15 : decode cL_law 15 = .ok (.astore_n 2, 1) := by decide +kernel
theorem dL_law_16 : decode cL_law 16 = .ok (.iconst 1, 1) := by decide +kernel
theorem dL_law_17 : decode cL_law 17 = .ok (.newarray .long, 2) := by decide +kernel
theorem dL_law_19 : decode cL_law 19 = .ok (.astore_n 3, 1) := by decide +kernel
theorem dL_law_20 : decode cL_law 20 = .ok (.iconst 0, 1) := by decide +kernel
theorem dL_law_21 : decode cL_law 21 = .ok (.istore 4, 2) := by decide +kernel
theorem dL_law_23 : decode cL_law 23 = .ok (.iload 4, 2) := by decide +kernel
theorem dL_law_25 : decode cL_law 25 = .ok (.aload_n 0, 1) := by decide +kernel
theorem dL_law_26 : decode cL_law 26 = .ok (.arraylength, 1) := by decide +kernel
theorem dL_law_27 : decode cL_law 27 = .ok (.bipush 7, 2) := by decide +kernel
theorem dL_law_29 : decode cL_law 29 = .ok (.isub, 1) := by decide +kernel
theorem dL_law_30 : decode cL_law 30 = .ok (.if_icmp .gt 1488, 3) := by decide +kernel
theorem dL_law_33 : decode cL_law 33 = .ok (.aload_n 0, 1) := by decide +kernel
theorem dL_law_34 : decode cL_law 34 = .ok (.iload 4, 2) := by decide +kernel
theorem dL_law_36 : decode cL_law 36 = .ok (.iaload, 1) := by decide +kernel
theorem dL_law_37 : decode cL_law 37 = .ok (.bipush 63, 2) := by decide +kernel
theorem dL_law_39 : decode cL_law 39 = .ok (.iand, 1) := by decide +kernel
theorem dL_law_40 : decode cL_law 40 = .ok (.tableswitch 1472 0 42 #[188, 335, 348, 361, 398, 423, 436, 473, 498, 523, 548, 561, 586, 599, 624, 649, 686, 711, 736, 749, 762, 799, 836, 873, 910, 947, 1012, 1025, 1038, 1075, 1088, 1101, 1114, 1127, 1140, 1153, 1166, 1191, 1204, 1253, 1345, 1394, 1447], 188) := by decide +kernel
theorem dL_law_228 : decode cL_law 228 = .ok (.aload_n 1, 1) := by decide +kernel
theorem dL_law_229 : decode cL_law 229 = .ok (.aload_n 0, 1) := by decide +kernel
theorem dL_law_230 : decode cL_law 230 = .ok (.iload 4, 2) := by decide +kernel
theorem dL_law_232 : decode cL_law 232 = .ok (.iconst 1, 1) := by decide +kernel
theorem dL_law_233 : decode cL_law 233 = .ok (.iadd, 1) := by decide +kernel
theorem dL_law_234 : decode cL_law 234 = .ok (.iaload, 1) := by decide +kernel
theorem dL_law_235 : decode cL_law 235 = .ok (.i2l, 1) := by decide +kernel
theorem dL_law_236 : decode cL_law 236 = .ok (.bipush 32, 2) := by decide +kernel
theorem dL_law_238 : decode cL_law 238 = .ok (.lshl, 1) := by decide +kernel
theorem dL_law_239 : decode cL_law 239 = .ok (.aload_n 0, 1) := by decide +kernel
theorem dL_law_240 : decode cL_law 240 = .ok (.iload 4, 2) := by decide +kernel
theorem dL_law_242 : decode cL_law 242 = .ok (.iconst 2, 1) := by decide +kernel
theorem dL_law_243 : decode cL_law 243 = .ok (.iadd, 1) := by decide +kernel
theorem dL_law_244 : decode cL_law 244 = .ok (.iaload, 1) := by decide +kernel
theorem dL_law_245 : decode cL_law 245 = .ok (.i2l, 1) := by decide +kernel
theorem dL_law_246 : decode cL_law 246 = .ok (.ldc2_w 19, 3) := by decide +kernel
theorem dL_law_249 : decode cL_law 249 = .ok (.land, 1) := by decide +kernel
theorem dL_law_250 : decode cL_law 250 = .ok (.lor, 1) := by decide +kernel
theorem dL_law_251 : decode cL_law 251 = .ok (.aload_n 0, 1) := by decide +kernel
theorem dL_law_252 : decode cL_law 252 = .ok (.iload 4, 2) := by decide +kernel
theorem dL_law_254 : decode cL_law 254 = .ok (.iconst 3, 1) := by decide +kernel
theorem dL_law_255 : decode cL_law 255 = .ok (.iadd, 1) := by decide +kernel
theorem dL_law_256 : decode cL_law 256 = .ok (.iaload, 1) := by decide +kernel
theorem dL_law_257 : decode cL_law 257 = .ok (.i2l, 1) := by decide +kernel
theorem dL_law_258 : decode cL_law 258 = .ok (.bipush 32, 2) := by decide +kernel
theorem dL_law_260 : decode cL_law 260 = .ok (.lshl, 1) := by decide +kernel
theorem dL_law_261 : decode cL_law 261 = .ok (.aload_n 0, 1) := by decide +kernel
theorem dL_law_262 : decode cL_law 262 = .ok (.iload 4, 2) := by decide +kernel
theorem dL_law_264 : decode cL_law 264 = .ok (.iconst 4, 1) := by decide +kernel
theorem dL_law_265 : decode cL_law 265 = .ok (.iadd, 1) := by decide +kernel
theorem dL_law_266 : decode cL_law 266 = .ok (.iaload, 1) := by decide +kernel
theorem dL_law_267 : decode cL_law 267 = .ok (.i2l, 1) := by decide +kernel
theorem dL_law_268 : decode cL_law 268 = .ok (.ldc2_w 19, 3) := by decide +kernel
theorem dL_law_271 : decode cL_law 271 = .ok (.land, 1) := by decide +kernel
theorem dL_law_272 : decode cL_law 272 = .ok (.lor, 1) := by decide +kernel
theorem dL_law_273 : decode cL_law 273 = .ok (.aload_n 0, 1) := by decide +kernel
theorem dL_law_274 : decode cL_law 274 = .ok (.iload 4, 2) := by decide +kernel
theorem dL_law_276 : decode cL_law 276 = .ok (.iconst 5, 1) := by decide +kernel
theorem dL_law_277 : decode cL_law 277 = .ok (.iadd, 1) := by decide +kernel
theorem dL_law_278 : decode cL_law 278 = .ok (.iaload, 1) := by decide +kernel
theorem dL_law_279 : decode cL_law 279 = .ok (.i2l, 1) := by decide +kernel
theorem dL_law_280 : decode cL_law 280 = .ok (.bipush 32, 2) := by decide +kernel
theorem dL_law_282 : decode cL_law 282 = .ok (.lshl, 1) := by decide +kernel
theorem dL_law_283 : decode cL_law 283 = .ok (.aload_n 0, 1) := by decide +kernel
theorem dL_law_284 : decode cL_law 284 = .ok (.iload 4, 2) := by decide +kernel
theorem dL_law_286 : decode cL_law 286 = .ok (.bipush 6, 2) := by decide +kernel
theorem dL_law_288 : decode cL_law 288 = .ok (.iadd, 1) := by decide +kernel
theorem dL_law_289 : decode cL_law 289 = .ok (.iaload, 1) := by decide +kernel
theorem dL_law_290 : decode cL_law 290 = .ok (.i2l, 1) := by decide +kernel
theorem dL_law_291 : decode cL_law 291 = .ok (.ldc2_w 19, 3) := by decide +kernel
theorem dL_law_294 : decode cL_law 294 = .ok (.land, 1) := by decide +kernel
theorem dL_law_295 : decode cL_law 295 = .ok (.lor, 1) := by decide +kernel
theorem dL_law_296 : decode cL_law 296 = .ok (.invokevirtual 21, 3) := by decide +kernel
theorem dL_law_299 : decode cL_law 299 = .ok (.aload_n 2, 1) := by decide +kernel
theorem dL_law_300 : decode cL_law 300 = .ok (.aload_n 0, 1) := by decide +kernel
theorem dL_law_301 : decode cL_law 301 = .ok (.iload 4, 2) := by decide +kernel
theorem dL_law_303 : decode cL_law 303 = .ok (.iconst 1, 1) := by decide +kernel
theorem dL_law_304 : decode cL_law 304 = .ok (.iadd, 1) := by decide +kernel
theorem dL_law_305 : decode cL_law 305 = .ok (.iaload, 1) := by decide +kernel
theorem dL_law_306 : decode cL_law 306 = .ok (.i2l, 1) := by decide +kernel
theorem dL_law_307 : decode cL_law 307 = .ok (.bipush 32, 2) := by decide +kernel
theorem dL_law_309 : decode cL_law 309 = .ok (.lshl, 1) := by decide +kernel
theorem dL_law_310 : decode cL_law 310 = .ok (.aload_n 0, 1) := by decide +kernel
theorem dL_law_311 : decode cL_law 311 = .ok (.iload 4, 2) := by decide +kernel
theorem dL_law_313 : decode cL_law 313 = .ok (.iconst 2, 1) := by decide +kernel
theorem dL_law_314 : decode cL_law 314 = .ok (.iadd, 1) := by decide +kernel
theorem dL_law_315 : decode cL_law 315 = .ok (.iaload, 1) := by decide +kernel
theorem dL_law_316 : decode cL_law 316 = .ok (.i2l, 1) := by decide +kernel
theorem dL_law_317 : decode cL_law 317 = .ok (.ldc2_w 19, 3) := by decide +kernel
theorem dL_law_320 : decode cL_law 320 = .ok (.land, 1) := by decide +kernel
theorem dL_law_321 : decode cL_law 321 = .ok (.lor, 1) := by decide +kernel
theorem dL_law_322 : decode cL_law 322 = .ok (.aload_n 0, 1) := by decide +kernel
theorem dL_law_323 : decode cL_law 323 = .ok (.iload 4, 2) := by decide +kernel
theorem dL_law_325 : decode cL_law 325 = .ok (.iconst 3, 1) := by decide +kernel
theorem dL_law_326 : decode cL_law 326 = .ok (.iadd, 1) := by decide +kernel
theorem dL_law_327 : decode cL_law 327 = .ok (.iaload, 1) := by decide +kernel
theorem dL_law_328 : decode cL_law 328 = .ok (.i2l, 1) := by decide +kernel
theorem dL_law_329 : decode cL_law 329 = .ok (.bipush 32, 2) := by decide +kernel
theorem dL_law_331 : decode cL_law 331 = .ok (.lshl, 1) := by decide +kernel
theorem dL_law_332 : decode cL_law 332 = .ok (.aload_n 0, 1) := by decide +kernel
theorem dL_law_333 : decode cL_law 333 = .ok (.iload 4, 2) := by decide +kernel
theorem dL_law_335 : decode cL_law 335 = .ok (.iconst 4, 1) := by decide +kernel
theorem dL_law_336 : decode cL_law 336 = .ok (.iadd, 1) := by decide +kernel
theorem dL_law_337 : decode cL_law 337 = .ok (.iaload, 1) := by decide +kernel
theorem dL_law_338 : decode cL_law 338 = .ok (.i2l, 1) := by decide +kernel
theorem dL_law_339 : decode cL_law 339 = .ok (.ldc2_w 19, 3) := by decide +kernel
theorem dL_law_342 : decode cL_law 342 = .ok (.land, 1) := by decide +kernel
theorem dL_law_343 : decode cL_law 343 = .ok (.lor, 1) := by decide +kernel
theorem dL_law_344 : decode cL_law 344 = .ok (.aload_n 0, 1) := by decide +kernel
theorem dL_law_345 : decode cL_law 345 = .ok (.iload 4, 2) := by decide +kernel
theorem dL_law_347 : decode cL_law 347 = .ok (.iconst 5, 1) := by decide +kernel
theorem dL_law_348 : decode cL_law 348 = .ok (.iadd, 1) := by decide +kernel
theorem dL_law_349 : decode cL_law 349 = .ok (.iaload, 1) := by decide +kernel
theorem dL_law_350 : decode cL_law 350 = .ok (.i2l, 1) := by decide +kernel
theorem dL_law_351 : decode cL_law 351 = .ok (.bipush 32, 2) := by decide +kernel
theorem dL_law_353 : decode cL_law 353 = .ok (.lshl, 1) := by decide +kernel
theorem dL_law_354 : decode cL_law 354 = .ok (.aload_n 0, 1) := by decide +kernel
theorem dL_law_355 : decode cL_law 355 = .ok (.iload 4, 2) := by decide +kernel
theorem dL_law_357 : decode cL_law 357 = .ok (.bipush 6, 2) := by decide +kernel
theorem dL_law_359 : decode cL_law 359 = .ok (.iadd, 1) := by decide +kernel
theorem dL_law_360 : decode cL_law 360 = .ok (.iaload, 1) := by decide +kernel
theorem dL_law_361 : decode cL_law 361 = .ok (.i2l, 1) := by decide +kernel
theorem dL_law_362 : decode cL_law 362 = .ok (.ldc2_w 19, 3) := by decide +kernel
theorem dL_law_365 : decode cL_law 365 = .ok (.land, 1) := by decide +kernel
theorem dL_law_366 : decode cL_law 366 = .ok (.lor, 1) := by decide +kernel
theorem dL_law_367 : decode cL_law 367 = .ok (.invokevirtual 25, 3) := by decide +kernel
theorem dL_law_370 : decode cL_law 370 = .ok (.if_icmp .eq 1142, 3) := by decide +kernel
theorem dL_law_373 : decode cL_law 373 = .ok (.iconst 0, 1) := by decide +kernel
theorem dL_law_374 : decode cL_law 374 = .ok (.ireturn, 1) := by decide +kernel
theorem dL_law_375 : decode cL_law 375 = .ok (.aload_n 1, 1) := by decide +kernel
theorem dL_law_376 : decode cL_law 376 = .ok (.invokevirtual 26, 3) := by decide +kernel
theorem dL_law_379 : decode cL_law 379 = .ok (.aload_n 2, 1) := by decide +kernel
theorem dL_law_380 : decode cL_law 380 = .ok (.invokevirtual 30, 3) := by decide +kernel
theorem dL_law_383 : decode cL_law 383 = .ok (.if_icmp .eq 1129, 3) := by decide +kernel
theorem dL_law_386 : decode cL_law 386 = .ok (.iconst 0, 1) := by decide +kernel
theorem dL_law_387 : decode cL_law 387 = .ok (.ireturn, 1) := by decide +kernel
theorem dL_law_388 : decode cL_law 388 = .ok (.aload_n 1, 1) := by decide +kernel
theorem dL_law_389 : decode cL_law 389 = .ok (.invokevirtual 31, 3) := by decide +kernel
theorem dL_law_392 : decode cL_law 392 = .ok (.aload_n 2, 1) := by decide +kernel
theorem dL_law_393 : decode cL_law 393 = .ok (.invokevirtual 34, 3) := by decide +kernel
theorem dL_law_396 : decode cL_law 396 = .ok (.if_icmp .eq 1116, 3) := by decide +kernel
theorem dL_law_399 : decode cL_law 399 = .ok (.iconst 0, 1) := by decide +kernel
theorem dL_law_400 : decode cL_law 400 = .ok (.ireturn, 1) := by decide +kernel
theorem dL_law_401 : decode cL_law 401 = .ok (.aload_n 1, 1) := by decide +kernel
theorem dL_law_402 : decode cL_law 402 = .ok (.aload_n 0, 1) := by decide +kernel
theorem dL_law_403 : decode cL_law 403 = .ok (.iload 4, 2) := by decide +kernel
theorem dL_law_405 : decode cL_law 405 = .ok (.iconst 1, 1) := by decide +kernel
theorem dL_law_406 : decode cL_law 406 = .ok (.iadd, 1) := by decide +kernel
theorem dL_law_407 : decode cL_law 407 = .ok (.iaload, 1) := by decide +kernel
theorem dL_law_408 : decode cL_law 408 = .ok (.aload_n 0, 1) := by decide +kernel
theorem dL_law_409 : decode cL_law 409 = .ok (.iload 4, 2) := by decide +kernel
theorem dL_law_411 : decode cL_law 411 = .ok (.iconst 2, 1) := by decide +kernel
theorem dL_law_412 : decode cL_law 412 = .ok (.iadd, 1) := by decide +kernel
theorem dL_law_413 : decode cL_law 413 = .ok (.iaload, 1) := by decide +kernel
theorem dL_law_414 : decode cL_law 414 = .ok (.invokevirtual 35, 3) := by decide +kernel
theorem dL_law_417 : decode cL_law 417 = .ok (.aload_n 2, 1) := by decide +kernel
theorem dL_law_418 : decode cL_law 418 = .ok (.aload_n 0, 1) := by decide +kernel
theorem dL_law_419 : decode cL_law 419 = .ok (.iload 4, 2) := by decide +kernel
theorem dL_law_421 : decode cL_law 421 = .ok (.iconst 1, 1) := by decide +kernel
theorem dL_law_422 : decode cL_law 422 = .ok (.iadd, 1) := by decide +kernel
theorem dL_law_423 : decode cL_law 423 = .ok (.iaload, 1) := by decide +kernel
theorem dL_law_424 : decode cL_law 424 = .ok (.aload_n 0, 1) := by decide +kernel
theorem dL_law_425 : decode cL_law 425 = .ok (.iload 4, 2) := by decide +kernel
theorem dL_law_427 : decode cL_law 427 = .ok (.iconst 2, 1) := by decide +kernel
theorem dL_law_428 : decode cL_law 428 = .ok (.iadd, 1) := by decide +kernel
theorem dL_law_429 : decode cL_law 429 = .ok (.iaload, 1) := by decide +kernel
theorem dL_law_430 : decode cL_law 430 = .ok (.invokevirtual 39, 3) := by decide +kernel
theorem dL_law_433 : decode cL_law 433 = .ok (.if_icmp .eq 1079, 3) := by decide +kernel
theorem dL_law_436 : decode cL_law 436 = .ok (.iconst 0, 1) := by decide +kernel
theorem dL_law_437 : decode cL_law 437 = .ok (.ireturn, 1) := by decide +kernel
theorem dL_law_438 : decode cL_law 438 = .ok (.aload_n 1, 1) := by decide +kernel
theorem dL_law_439 : decode cL_law 439 = .ok (.aload_n 0, 1) := by decide +kernel
theorem dL_law_440 : decode cL_law 440 = .ok (.iload 4, 2) := by decide +kernel
theorem dL_law_442 : decode cL_law 442 = .ok (.iconst 1, 1) := by decide +kernel
theorem dL_law_443 : decode cL_law 443 = .ok (.iadd, 1) := by decide +kernel
theorem dL_law_444 : decode cL_law 444 = .ok (.iaload, 1) := by decide +kernel
theorem dL_law_445 : decode cL_law 445 = .ok (.invokevirtual 40, 3) := by decide +kernel
theorem dL_law_448 : decode cL_law 448 = .ok (.aload_n 2, 1) := by decide +kernel
theorem dL_law_449 : decode cL_law 449 = .ok (.aload_n 0, 1) := by decide +kernel
theorem dL_law_450 : decode cL_law 450 = .ok (.iload 4, 2) := by decide +kernel
theorem dL_law_452 : decode cL_law 452 = .ok (.iconst 1, 1) := by decide +kernel
theorem dL_law_453 : decode cL_law 453 = .ok (.iadd, 1) := by decide +kernel
theorem dL_law_454 : decode cL_law 454 = .ok (.iaload, 1) := by decide +kernel
theorem dL_law_455 : decode cL_law 455 = .ok (.invokevirtual 44, 3) := by decide +kernel
theorem dL_law_458 : decode cL_law 458 = .ok (.if_icmp .eq 1054, 3) := by decide +kernel
theorem dL_law_461 : decode cL_law 461 = .ok (.iconst 0, 1) := by decide +kernel
theorem dL_law_462 : decode cL_law 462 = .ok (.ireturn, 1) := by decide +kernel
theorem dL_law_463 : decode cL_law 463 = .ok (.aload_n 1, 1) := by decide +kernel
theorem dL_law_464 : decode cL_law 464 = .ok (.invokevirtual 45, 3) := by decide +kernel
theorem dL_law_467 : decode cL_law 467 = .ok (.aload_n 2, 1) := by decide +kernel
theorem dL_law_468 : decode cL_law 468 = .ok (.invokevirtual 48, 3) := by decide +kernel
theorem dL_law_471 : decode cL_law 471 = .ok (.if_icmp .eq 1041, 3) := by decide +kernel
theorem dL_law_474 : decode cL_law 474 = .ok (.iconst 0, 1) := by decide +kernel
theorem dL_law_475 : decode cL_law 475 = .ok (.ireturn, 1) := by decide +kernel
theorem dL_law_476 : decode cL_law 476 = .ok (.aload_n 1, 1) := by decide +kernel
theorem dL_law_477 : decode cL_law 477 = .ok (.aload_n 0, 1) := by decide +kernel
theorem dL_law_478 : decode cL_law 478 = .ok (.iload 4, 2) := by decide +kernel
theorem dL_law_480 : decode cL_law 480 = .ok (.iconst 1, 1) := by decide +kernel
theorem dL_law_481 : decode cL_law 481 = .ok (.iadd, 1) := by decide +kernel
theorem dL_law_482 : decode cL_law 482 = .ok (.iaload, 1) := by decide +kernel
theorem dL_law_483 : decode cL_law 483 = .ok (.aload_n 0, 1) := by decide +kernel
theorem dL_law_484 : decode cL_law 484 = .ok (.iload 4, 2) := by decide +kernel
theorem dL_law_486 : decode cL_law 486 = .ok (.iconst 2, 1) := by decide +kernel
theorem dL_law_487 : decode cL_law 487 = .ok (.iadd, 1) := by decide +kernel
theorem dL_law_488 : decode cL_law 488 = .ok (.iaload, 1) := by decide +kernel
theorem dL_law_489 : decode cL_law 489 = .ok (.invokevirtual 49, 3) := by decide +kernel
theorem dL_law_492 : decode cL_law 492 = .ok (.aload_n 2, 1) := by decide +kernel
theorem dL_law_493 : decode cL_law 493 = .ok (.aload_n 0, 1) := by decide +kernel
theorem dL_law_494 : decode cL_law 494 = .ok (.iload 4, 2) := by decide +kernel
theorem dL_law_496 : decode cL_law 496 = .ok (.iconst 1, 1) := by decide +kernel
theorem dL_law_497 : decode cL_law 497 = .ok (.iadd, 1) := by decide +kernel
theorem dL_law_498 : decode cL_law 498 = .ok (.iaload, 1) := by decide +kernel
theorem dL_law_499 : decode cL_law 499 = .ok (.aload_n 0, 1) := by decide +kernel
theorem dL_law_500 : decode cL_law 500 = .ok (.iload 4, 2) := by decide +kernel
theorem dL_law_502 : decode cL_law 502 = .ok (.iconst 2, 1) := by decide +kernel
theorem dL_law_503 : decode cL_law 503 = .ok (.iadd, 1) := by decide +kernel
theorem dL_law_504 : decode cL_law 504 = .ok (.iaload, 1) := by decide +kernel
theorem dL_law_505 : decode cL_law 505 = .ok (.invokevirtual 52, 3) := by decide +kernel
theorem dL_law_508 : decode cL_law 508 = .ok (.if_icmp .eq 1004, 3) := by decide +kernel
theorem dL_law_511 : decode cL_law 511 = .ok (.iconst 0, 1) := by decide +kernel
theorem dL_law_512 : decode cL_law 512 = .ok (.ireturn, 1) := by decide +kernel
theorem dL_law_513 : decode cL_law 513 = .ok (.aload_n 1, 1) := by decide +kernel
theorem dL_law_514 : decode cL_law 514 = .ok (.aload_n 0, 1) := by decide +kernel
theorem dL_law_515 : decode cL_law 515 = .ok (.iload 4, 2) := by decide +kernel
theorem dL_law_517 : decode cL_law 517 = .ok (.iconst 1, 1) := by decide +kernel
theorem dL_law_518 : decode cL_law 518 = .ok (.iadd, 1) := by decide +kernel
theorem dL_law_519 : decode cL_law 519 = .ok (.iaload, 1) := by decide +kernel
theorem dL_law_520 : decode cL_law 520 = .ok (.invokevirtual 53, 3) := by decide +kernel
theorem dL_law_523 : decode cL_law 523 = .ok (.aload_n 2, 1) := by decide +kernel
theorem dL_law_524 : decode cL_law 524 = .ok (.aload_n 0, 1) := by decide +kernel
theorem dL_law_525 : decode cL_law 525 = .ok (.iload 4, 2) := by decide +kernel
theorem dL_law_527 : decode cL_law 527 = .ok (.iconst 1, 1) := by decide +kernel
theorem dL_law_528 : decode cL_law 528 = .ok (.iadd, 1) := by decide +kernel
theorem dL_law_529 : decode cL_law 529 = .ok (.iaload, 1) := by decide +kernel
theorem dL_law_530 : decode cL_law 530 = .ok (.invokevirtual 56, 3) := by decide +kernel
theorem dL_law_533 : decode cL_law 533 = .ok (.if_icmp .eq 979, 3) := by decide +kernel
theorem dL_law_536 : decode cL_law 536 = .ok (.iconst 0, 1) := by decide +kernel
theorem dL_law_537 : decode cL_law 537 = .ok (.ireturn, 1) := by decide +kernel
theorem dL_law_538 : decode cL_law 538 = .ok (.aload_n 1, 1) := by decide +kernel
theorem dL_law_539 : decode cL_law 539 = .ok (.aload_n 0, 1) := by decide +kernel
theorem dL_law_540 : decode cL_law 540 = .ok (.iload 4, 2) := by decide +kernel
theorem dL_law_542 : decode cL_law 542 = .ok (.iconst 1, 1) := by decide +kernel
theorem dL_law_543 : decode cL_law 543 = .ok (.iadd, 1) := by decide +kernel
theorem dL_law_544 : decode cL_law 544 = .ok (.iaload, 1) := by decide +kernel
theorem dL_law_545 : decode cL_law 545 = .ok (.invokevirtual 57, 3) := by decide +kernel
theorem dL_law_548 : decode cL_law 548 = .ok (.aload_n 2, 1) := by decide +kernel
theorem dL_law_549 : decode cL_law 549 = .ok (.aload_n 0, 1) := by decide +kernel
theorem dL_law_550 : decode cL_law 550 = .ok (.iload 4, 2) := by decide +kernel
theorem dL_law_552 : decode cL_law 552 = .ok (.iconst 1, 1) := by decide +kernel
theorem dL_law_553 : decode cL_law 553 = .ok (.iadd, 1) := by decide +kernel
theorem dL_law_554 : decode cL_law 554 = .ok (.iaload, 1) := by decide +kernel
theorem dL_law_555 : decode cL_law 555 = .ok (.invokevirtual 60, 3) := by decide +kernel
theorem dL_law_558 : decode cL_law 558 = .ok (.if_icmp .eq 954, 3) := by decide +kernel
theorem dL_law_561 : decode cL_law 561 = .ok (.iconst 0, 1) := by decide +kernel
theorem dL_law_562 : decode cL_law 562 = .ok (.ireturn, 1) := by decide +kernel
theorem dL_law_563 : decode cL_law 563 = .ok (.aload_n 1, 1) := by decide +kernel
theorem dL_law_564 : decode cL_law 564 = .ok (.aload_n 0, 1) := by decide +kernel
theorem dL_law_565 : decode cL_law 565 = .ok (.iload 4, 2) := by decide +kernel
theorem dL_law_567 : decode cL_law 567 = .ok (.iconst 1, 1) := by decide +kernel
theorem dL_law_568 : decode cL_law 568 = .ok (.iadd, 1) := by decide +kernel
theorem dL_law_569 : decode cL_law 569 = .ok (.iaload, 1) := by decide +kernel
theorem dL_law_570 : decode cL_law 570 = .ok (.invokevirtual 61, 3) := by decide +kernel
theorem dL_law_573 : decode cL_law 573 = .ok (.aload_n 2, 1) := by decide +kernel
theorem dL_law_574 : decode cL_law 574 = .ok (.aload_n 0, 1) := by decide +kernel
theorem dL_law_575 : decode cL_law 575 = .ok (.iload 4, 2) := by decide +kernel
theorem dL_law_577 : decode cL_law 577 = .ok (.iconst 1, 1) := by decide +kernel
theorem dL_law_578 : decode cL_law 578 = .ok (.iadd, 1) := by decide +kernel
theorem dL_law_579 : decode cL_law 579 = .ok (.iaload, 1) := by decide +kernel
theorem dL_law_580 : decode cL_law 580 = .ok (.invokevirtual 64, 3) := by decide +kernel
theorem dL_law_583 : decode cL_law 583 = .ok (.if_icmp .eq 929, 3) := by decide +kernel
theorem dL_law_586 : decode cL_law 586 = .ok (.iconst 0, 1) := by decide +kernel
theorem dL_law_587 : decode cL_law 587 = .ok (.ireturn, 1) := by decide +kernel
theorem dL_law_588 : decode cL_law 588 = .ok (.aload_n 1, 1) := by decide +kernel
theorem dL_law_589 : decode cL_law 589 = .ok (.invokevirtual 65, 3) := by decide +kernel
theorem dL_law_592 : decode cL_law 592 = .ok (.aload_n 2, 1) := by decide +kernel
theorem dL_law_593 : decode cL_law 593 = .ok (.invokevirtual 69, 3) := by decide +kernel
theorem dL_law_596 : decode cL_law 596 = .ok (.if_icmp .eq 916, 3) := by decide +kernel
theorem dL_law_599 : decode cL_law 599 = .ok (.iconst 0, 1) := by decide +kernel
theorem dL_law_600 : decode cL_law 600 = .ok (.ireturn, 1) := by decide +kernel
theorem dL_law_601 : decode cL_law 601 = .ok (.aload_n 1, 1) := by decide +kernel
theorem dL_law_602 : decode cL_law 602 = .ok (.aload_n 0, 1) := by decide +kernel
theorem dL_law_603 : decode cL_law 603 = .ok (.iload 4, 2) := by decide +kernel
theorem dL_law_605 : decode cL_law 605 = .ok (.iconst 1, 1) := by decide +kernel
theorem dL_law_606 : decode cL_law 606 = .ok (.iadd, 1) := by decide +kernel
theorem dL_law_607 : decode cL_law 607 = .ok (.iaload, 1) := by decide +kernel
theorem dL_law_608 : decode cL_law 608 = .ok (.invokevirtual 70, 3) := by decide +kernel
theorem dL_law_611 : decode cL_law 611 = .ok (.aload_n 2, 1) := by decide +kernel
theorem dL_law_612 : decode cL_law 612 = .ok (.aload_n 0, 1) := by decide +kernel
theorem dL_law_613 : decode cL_law 613 = .ok (.iload 4, 2) := by decide +kernel
theorem dL_law_615 : decode cL_law 615 = .ok (.iconst 1, 1) := by decide +kernel
theorem dL_law_616 : decode cL_law 616 = .ok (.iadd, 1) := by decide +kernel
theorem dL_law_617 : decode cL_law 617 = .ok (.iaload, 1) := by decide +kernel
theorem dL_law_618 : decode cL_law 618 = .ok (.invokevirtual 73, 3) := by decide +kernel
theorem dL_law_621 : decode cL_law 621 = .ok (.if_icmp .eq 891, 3) := by decide +kernel
theorem dL_law_624 : decode cL_law 624 = .ok (.iconst 0, 1) := by decide +kernel
theorem dL_law_625 : decode cL_law 625 = .ok (.ireturn, 1) := by decide +kernel
theorem dL_law_626 : decode cL_law 626 = .ok (.aload_n 1, 1) := by decide +kernel
theorem dL_law_627 : decode cL_law 627 = .ok (.invokevirtual 74, 3) := by decide +kernel
theorem dL_law_630 : decode cL_law 630 = .ok (.aload_n 2, 1) := by decide +kernel
theorem dL_law_631 : decode cL_law 631 = .ok (.invokevirtual 77, 3) := by decide +kernel
theorem dL_law_634 : decode cL_law 634 = .ok (.if_icmp .eq 878, 3) := by decide +kernel
theorem dL_law_637 : decode cL_law 637 = .ok (.iconst 0, 1) := by decide +kernel
theorem dL_law_638 : decode cL_law 638 = .ok (.ireturn, 1) := by decide +kernel
theorem dL_law_639 : decode cL_law 639 = .ok (.aload_n 1, 1) := by decide +kernel
theorem dL_law_640 : decode cL_law 640 = .ok (.aload_n 0, 1) := by decide +kernel
theorem dL_law_641 : decode cL_law 641 = .ok (.iload 4, 2) := by decide +kernel
theorem dL_law_643 : decode cL_law 643 = .ok (.iconst 1, 1) := by decide +kernel
theorem dL_law_644 : decode cL_law 644 = .ok (.iadd, 1) := by decide +kernel
theorem dL_law_645 : decode cL_law 645 = .ok (.iaload, 1) := by decide +kernel
theorem dL_law_646 : decode cL_law 646 = .ok (.invokevirtual 78, 3) := by decide +kernel
theorem dL_law_649 : decode cL_law 649 = .ok (.aload_n 2, 1) := by decide +kernel
theorem dL_law_650 : decode cL_law 650 = .ok (.aload_n 0, 1) := by decide +kernel
theorem dL_law_651 : decode cL_law 651 = .ok (.iload 4, 2) := by decide +kernel
theorem dL_law_653 : decode cL_law 653 = .ok (.iconst 1, 1) := by decide +kernel
theorem dL_law_654 : decode cL_law 654 = .ok (.iadd, 1) := by decide +kernel
theorem dL_law_655 : decode cL_law 655 = .ok (.iaload, 1) := by decide +kernel
theorem dL_law_656 : decode cL_law 656 = .ok (.invokevirtual 81, 3) := by decide +kernel
theorem dL_law_659 : decode cL_law 659 = .ok (.if_icmp .eq 853, 3) := by decide +kernel
theorem dL_law_662 : decode cL_law 662 = .ok (.iconst 0, 1) := by decide +kernel
theorem dL_law_663 : decode cL_law 663 = .ok (.ireturn, 1) := by decide +kernel
theorem dL_law_664 : decode cL_law 664 = .ok (.aload_n 1, 1) := by decide +kernel
theorem dL_law_665 : decode cL_law 665 = .ok (.aload_n 0, 1) := by decide +kernel
theorem dL_law_666 : decode cL_law 666 = .ok (.iload 4, 2) := by decide +kernel
theorem dL_law_668 : decode cL_law 668 = .ok (.iconst 1, 1) := by decide +kernel
theorem dL_law_669 : decode cL_law 669 = .ok (.iadd, 1) := by decide +kernel
theorem dL_law_670 : decode cL_law 670 = .ok (.iaload, 1) := by decide +kernel
theorem dL_law_671 : decode cL_law 671 = .ok (.invokevirtual 82, 3) := by decide +kernel
theorem dL_law_674 : decode cL_law 674 = .ok (.aload_n 2, 1) := by decide +kernel
theorem dL_law_675 : decode cL_law 675 = .ok (.aload_n 0, 1) := by decide +kernel
theorem dL_law_676 : decode cL_law 676 = .ok (.iload 4, 2) := by decide +kernel
theorem dL_law_678 : decode cL_law 678 = .ok (.iconst 1, 1) := by decide +kernel
theorem dL_law_679 : decode cL_law 679 = .ok (.iadd, 1) := by decide +kernel
theorem dL_law_680 : decode cL_law 680 = .ok (.iaload, 1) := by decide +kernel
theorem dL_law_681 : decode cL_law 681 = .ok (.invokevirtual 85, 3) := by decide +kernel
theorem dL_law_684 : decode cL_law 684 = .ok (.if_icmp .eq 828, 3) := by decide +kernel
theorem dL_law_687 : decode cL_law 687 = .ok (.iconst 0, 1) := by decide +kernel
theorem dL_law_688 : decode cL_law 688 = .ok (.ireturn, 1) := by decide +kernel
theorem dL_law_689 : decode cL_law 689 = .ok (.aload_n 1, 1) := by decide +kernel
theorem dL_law_690 : decode cL_law 690 = .ok (.aload_n 0, 1) := by decide +kernel
theorem dL_law_691 : decode cL_law 691 = .ok (.iload 4, 2) := by decide +kernel
theorem dL_law_693 : decode cL_law 693 = .ok (.iconst 1, 1) := by decide +kernel
theorem dL_law_694 : decode cL_law 694 = .ok (.iadd, 1) := by decide +kernel
theorem dL_law_695 : decode cL_law 695 = .ok (.iaload, 1) := by decide +kernel
theorem dL_law_696 : decode cL_law 696 = .ok (.aload_n 0, 1) := by decide +kernel
theorem dL_law_697 : decode cL_law 697 = .ok (.iload 4, 2) := by decide +kernel
theorem dL_law_699 : decode cL_law 699 = .ok (.iconst 2, 1) := by decide +kernel
theorem dL_law_700 : decode cL_law 700 = .ok (.iadd, 1) := by decide +kernel
theorem dL_law_701 : decode cL_law 701 = .ok (.iaload, 1) := by decide +kernel
theorem dL_law_702 : decode cL_law 702 = .ok (.invokevirtual 86, 3) := by decide +kernel
theorem dL_law_705 : decode cL_law 705 = .ok (.aload_n 2, 1) := by decide +kernel
theorem dL_law_706 : decode cL_law 706 = .ok (.aload_n 0, 1) := by decide +kernel
theorem dL_law_707 : decode cL_law 707 = .ok (.iload 4, 2) := by decide +kernel
theorem dL_law_709 : decode cL_law 709 = .ok (.iconst 1, 1) := by decide +kernel
theorem dL_law_710 : decode cL_law 710 = .ok (.iadd, 1) := by decide +kernel
theorem dL_law_711 : decode cL_law 711 = .ok (.iaload, 1) := by decide +kernel
theorem dL_law_712 : decode cL_law 712 = .ok (.aload_n 0, 1) := by decide +kernel
theorem dL_law_713 : decode cL_law 713 = .ok (.iload 4, 2) := by decide +kernel
theorem dL_law_715 : decode cL_law 715 = .ok (.iconst 2, 1) := by decide +kernel
theorem dL_law_716 : decode cL_law 716 = .ok (.iadd, 1) := by decide +kernel
theorem dL_law_717 : decode cL_law 717 = .ok (.iaload, 1) := by decide +kernel
theorem dL_law_718 : decode cL_law 718 = .ok (.invokevirtual 89, 3) := by decide +kernel
theorem dL_law_721 : decode cL_law 721 = .ok (.if_icmp .eq 791, 3) := by decide +kernel
theorem dL_law_724 : decode cL_law 724 = .ok (.iconst 0, 1) := by decide +kernel
theorem dL_law_725 : decode cL_law 725 = .ok (.ireturn, 1) := by decide +kernel
theorem dL_law_726 : decode cL_law 726 = .ok (.aload_n 1, 1) := by decide +kernel
theorem dL_law_727 : decode cL_law 727 = .ok (.aload_n 0, 1) := by decide +kernel
theorem dL_law_728 : decode cL_law 728 = .ok (.iload 4, 2) := by decide +kernel
theorem dL_law_730 : decode cL_law 730 = .ok (.iconst 1, 1) := by decide +kernel
theorem dL_law_731 : decode cL_law 731 = .ok (.iadd, 1) := by decide +kernel
theorem dL_law_732 : decode cL_law 732 = .ok (.iaload, 1) := by decide +kernel
theorem dL_law_733 : decode cL_law 733 = .ok (.invokevirtual 90, 3) := by decide +kernel
theorem dL_law_736 : decode cL_law 736 = .ok (.aload_n 2, 1) := by decide +kernel
theorem dL_law_737 : decode cL_law 737 = .ok (.aload_n 0, 1) := by decide +kernel
theorem dL_law_738 : decode cL_law 738 = .ok (.iload 4, 2) := by decide +kernel
theorem dL_law_740 : decode cL_law 740 = .ok (.iconst 1, 1) := by decide +kernel
theorem dL_law_741 : decode cL_law 741 = .ok (.iadd, 1) := by decide +kernel
theorem dL_law_742 : decode cL_law 742 = .ok (.iaload, 1) := by decide +kernel
theorem dL_law_743 : decode cL_law 743 = .ok (.invokevirtual 93, 3) := by decide +kernel
theorem dL_law_746 : decode cL_law 746 = .ok (.if_icmp .eq 766, 3) := by decide +kernel
theorem dL_law_749 : decode cL_law 749 = .ok (.iconst 0, 1) := by decide +kernel
theorem dL_law_750 : decode cL_law 750 = .ok (.ireturn, 1) := by decide +kernel
theorem dL_law_751 : decode cL_law 751 = .ok (.aload_n 1, 1) := by decide +kernel
theorem dL_law_752 : decode cL_law 752 = .ok (.aload_n 0, 1) := by decide +kernel
theorem dL_law_753 : decode cL_law 753 = .ok (.iload 4, 2) := by decide +kernel
theorem dL_law_755 : decode cL_law 755 = .ok (.iconst 1, 1) := by decide +kernel
theorem dL_law_756 : decode cL_law 756 = .ok (.iadd, 1) := by decide +kernel
theorem dL_law_757 : decode cL_law 757 = .ok (.iaload, 1) := by decide +kernel
theorem dL_law_758 : decode cL_law 758 = .ok (.invokevirtual 94, 3) := by decide +kernel
theorem dL_law_761 : decode cL_law 761 = .ok (.aload_n 2, 1) := by decide +kernel
theorem dL_law_762 : decode cL_law 762 = .ok (.aload_n 0, 1) := by decide +kernel
theorem dL_law_763 : decode cL_law 763 = .ok (.iload 4, 2) := by decide +kernel
theorem dL_law_765 : decode cL_law 765 = .ok (.iconst 1, 1) := by decide +kernel
theorem dL_law_766 : decode cL_law 766 = .ok (.iadd, 1) := by decide +kernel
theorem dL_law_767 : decode cL_law 767 = .ok (.iaload, 1) := by decide +kernel
theorem dL_law_768 : decode cL_law 768 = .ok (.invokevirtual 97, 3) := by decide +kernel
theorem dL_law_771 : decode cL_law 771 = .ok (.if_icmp .eq 741, 3) := by decide +kernel
theorem dL_law_774 : decode cL_law 774 = .ok (.iconst 0, 1) := by decide +kernel
theorem dL_law_775 : decode cL_law 775 = .ok (.ireturn, 1) := by decide +kernel
theorem dL_law_776 : decode cL_law 776 = .ok (.aload_n 1, 1) := by decide +kernel
theorem dL_law_777 : decode cL_law 777 = .ok (.invokevirtual 98, 3) := by decide +kernel
theorem dL_law_780 : decode cL_law 780 = .ok (.aload_n 2, 1) := by decide +kernel
theorem dL_law_781 : decode cL_law 781 = .ok (.invokevirtual 101, 3) := by decide +kernel
theorem dL_law_784 : decode cL_law 784 = .ok (.if_icmp .eq 728, 3) := by decide +kernel
theorem dL_law_787 : decode cL_law 787 = .ok (.iconst 0, 1) := by decide +kernel
theorem dL_law_788 : decode cL_law 788 = .ok (.ireturn, 1) := by decide +kernel
theorem dL_law_789 : decode cL_law 789 = .ok (.aload_n 1, 1) := by decide +kernel
theorem dL_law_790 : decode cL_law 790 = .ok (.invokevirtual 102, 3) := by decide +kernel
theorem dL_law_793 : decode cL_law 793 = .ok (.aload_n 2, 1) := by decide +kernel
theorem dL_law_794 : decode cL_law 794 = .ok (.invokevirtual 105, 3) := by decide +kernel
theorem dL_law_797 : decode cL_law 797 = .ok (.if_icmp .eq 715, 3) := by decide +kernel
theorem dL_law_800 : decode cL_law 800 = .ok (.iconst 0, 1) := by decide +kernel
theorem dL_law_801 : decode cL_law 801 = .ok (.ireturn, 1) := by decide +kernel
theorem dL_law_802 : decode cL_law 802 = .ok (.aload_n 1, 1) := by decide +kernel
theorem dL_law_803 : decode cL_law 803 = .ok (.aload_n 0, 1) := by decide +kernel
theorem dL_law_804 : decode cL_law 804 = .ok (.iload 4, 2) := by decide +kernel
theorem dL_law_806 : decode cL_law 806 = .ok (.iconst 1, 1) := by decide +kernel
theorem dL_law_807 : decode cL_law 807 = .ok (.iadd, 1) := by decide +kernel
theorem dL_law_808 : decode cL_law 808 = .ok (.iaload, 1) := by decide +kernel
theorem dL_law_809 : decode cL_law 809 = .ok (.aload_n 0, 1) := by decide +kernel
theorem dL_law_810 : decode cL_law 810 = .ok (.iload 4, 2) := by decide +kernel
theorem dL_law_812 : decode cL_law 812 = .ok (.iconst 2, 1) := by decide +kernel
theorem dL_law_813 : decode cL_law 813 = .ok (.iadd, 1) := by decide +kernel
theorem dL_law_814 : decode cL_law 814 = .ok (.iaload, 1) := by decide +kernel
theorem dL_law_815 : decode cL_law 815 = .ok (.invokevirtual 106, 3) := by decide +kernel
theorem dL_law_818 : decode cL_law 818 = .ok (.aload_n 2, 1) := by decide +kernel
theorem dL_law_819 : decode cL_law 819 = .ok (.aload_n 0, 1) := by decide +kernel
theorem dL_law_820 : decode cL_law 820 = .ok (.iload 4, 2) := by decide +kernel
theorem dL_law_822 : decode cL_law 822 = .ok (.iconst 1, 1) := by decide +kernel
theorem dL_law_823 : decode cL_law 823 = .ok (.iadd, 1) := by decide +kernel
theorem dL_law_824 : decode cL_law 824 = .ok (.iaload, 1) := by decide +kernel
theorem dL_law_825 : decode cL_law 825 = .ok (.aload_n 0, 1) := by decide +kernel
theorem dL_law_826 : decode cL_law 826 = .ok (.iload 4, 2) := by decide +kernel
theorem dL_law_828 : decode cL_law 828 = .ok (.iconst 2, 1) := by decide +kernel
theorem dL_law_829 : decode cL_law 829 = .ok (.iadd, 1) := by decide +kernel
theorem dL_law_830 : decode cL_law 830 = .ok (.iaload, 1) := by decide +kernel
theorem dL_law_831 : decode cL_law 831 = .ok (.invokevirtual 109, 3) := by decide +kernel
theorem dL_law_834 : decode cL_law 834 = .ok (.if_icmp .eq 678, 3) := by decide +kernel
theorem dL_law_837 : decode cL_law 837 = .ok (.iconst 0, 1) := by decide +kernel
theorem dL_law_838 : decode cL_law 838 = .ok (.ireturn, 1) := by decide +kernel
theorem dL_law_839 : decode cL_law 839 = .ok (.aload_n 1, 1) := by decide +kernel
theorem dL_law_840 : decode cL_law 840 = .ok (.aload_n 0, 1) := by decide +kernel
theorem dL_law_841 : decode cL_law 841 = .ok (.iload 4, 2) := by decide +kernel
theorem dL_law_843 : decode cL_law 843 = .ok (.iconst 1, 1) := by decide +kernel
theorem dL_law_844 : decode cL_law 844 = .ok (.iadd, 1) := by decide +kernel
theorem dL_law_845 : decode cL_law 845 = .ok (.iaload, 1) := by decide +kernel
theorem dL_law_846 : decode cL_law 846 = .ok (.aload_n 0, 1) := by decide +kernel
theorem dL_law_847 : decode cL_law 847 = .ok (.iload 4, 2) := by decide +kernel
theorem dL_law_849 : decode cL_law 849 = .ok (.iconst 2, 1) := by decide +kernel
theorem dL_law_850 : decode cL_law 850 = .ok (.iadd, 1) := by decide +kernel
theorem dL_law_851 : decode cL_law 851 = .ok (.iaload, 1) := by decide +kernel
theorem dL_law_852 : decode cL_law 852 = .ok (.invokevirtual 110, 3) := by decide +kernel
theorem dL_law_855 : decode cL_law 855 = .ok (.aload_n 2, 1) := by decide +kernel
theorem dL_law_856 : decode cL_law 856 = .ok (.aload_n 0, 1) := by decide +kernel
theorem dL_law_857 : decode cL_law 857 = .ok (.iload 4, 2) := by decide +kernel
theorem dL_law_859 : decode cL_law 859 = .ok (.iconst 1, 1) := by decide +kernel
theorem dL_law_860 : decode cL_law 860 = .ok (.iadd, 1) := by decide +kernel
theorem dL_law_861 : decode cL_law 861 = .ok (.iaload, 1) := by decide +kernel
theorem dL_law_862 : decode cL_law 862 = .ok (.aload_n 0, 1) := by decide +kernel
theorem dL_law_863 : decode cL_law 863 = .ok (.iload 4, 2) := by decide +kernel
theorem dL_law_865 : decode cL_law 865 = .ok (.iconst 2, 1) := by decide +kernel
theorem dL_law_866 : decode cL_law 866 = .ok (.iadd, 1) := by decide +kernel
theorem dL_law_867 : decode cL_law 867 = .ok (.iaload, 1) := by decide +kernel
theorem dL_law_868 : decode cL_law 868 = .ok (.invokevirtual 113, 3) := by decide +kernel
theorem dL_law_871 : decode cL_law 871 = .ok (.if_icmp .eq 641, 3) := by decide +kernel
theorem dL_law_874 : decode cL_law 874 = .ok (.iconst 0, 1) := by decide +kernel
theorem dL_law_875 : decode cL_law 875 = .ok (.ireturn, 1) := by decide +kernel
theorem dL_law_876 : decode cL_law 876 = .ok (.aload_n 1, 1) := by decide +kernel
theorem dL_law_877 : decode cL_law 877 = .ok (.aload_n 0, 1) := by decide +kernel
theorem dL_law_878 : decode cL_law 878 = .ok (.iload 4, 2) := by decide +kernel
theorem dL_law_880 : decode cL_law 880 = .ok (.iconst 1, 1) := by decide +kernel
theorem dL_law_881 : decode cL_law 881 = .ok (.iadd, 1) := by decide +kernel
theorem dL_law_882 : decode cL_law 882 = .ok (.iaload, 1) := by decide +kernel
theorem dL_law_883 : decode cL_law 883 = .ok (.aload_n 0, 1) := by decide +kernel
theorem dL_law_884 : decode cL_law 884 = .ok (.iload 4, 2) := by decide +kernel
theorem dL_law_886 : decode cL_law 886 = .ok (.iconst 2, 1) := by decide +kernel
theorem dL_law_887 : decode cL_law 887 = .ok (.iadd, 1) := by decide +kernel
theorem dL_law_888 : decode cL_law 888 = .ok (.iaload, 1) := by decide +kernel
theorem dL_law_889 : decode cL_law 889 = .ok (.invokevirtual 114, 3) := by decide +kernel
theorem dL_law_892 : decode cL_law 892 = .ok (.aload_n 2, 1) := by decide +kernel
theorem dL_law_893 : decode cL_law 893 = .ok (.aload_n 0, 1) := by decide +kernel
theorem dL_law_894 : decode cL_law 894 = .ok (.iload 4, 2) := by decide +kernel
theorem dL_law_896 : decode cL_law 896 = .ok (.iconst 1, 1) := by decide +kernel
theorem dL_law_897 : decode cL_law 897 = .ok (.iadd, 1) := by decide +kernel
theorem dL_law_898 : decode cL_law 898 = .ok (.iaload, 1) := by decide +kernel
theorem dL_law_899 : decode cL_law 899 = .ok (.aload_n 0, 1) := by decide +kernel
theorem dL_law_900 : decode cL_law 900 = .ok (.iload 4, 2) := by decide +kernel
theorem dL_law_902 : decode cL_law 902 = .ok (.iconst 2, 1) := by decide +kernel
theorem dL_law_903 : decode cL_law 903 = .ok (.iadd, 1) := by decide +kernel
theorem dL_law_904 : decode cL_law 904 = .ok (.iaload, 1) := by decide +kernel
theorem dL_law_905 : decode cL_law 905 = .ok (.invokevirtual 117, 3) := by decide +kernel
theorem dL_law_908 : decode cL_law 908 = .ok (.if_icmp .eq 604, 3) := by decide +kernel
theorem dL_law_911 : decode cL_law 911 = .ok (.iconst 0, 1) := by decide +kernel
theorem dL_law_912 : decode cL_law 912 = .ok (.ireturn, 1) := by decide +kernel
theorem dL_law_913 : decode cL_law 913 = .ok (.aload_n 1, 1) := by decide +kernel
theorem dL_law_914 : decode cL_law 914 = .ok (.aload_n 0, 1) := by decide +kernel
theorem dL_law_915 : decode cL_law 915 = .ok (.iload 4, 2) := by decide +kernel
theorem dL_law_917 : decode cL_law 917 = .ok (.iconst 1, 1) := by decide +kernel
theorem dL_law_918 : decode cL_law 918 = .ok (.iadd, 1) := by decide +kernel
theorem dL_law_919 : decode cL_law 919 = .ok (.iaload, 1) := by decide +kernel
theorem dL_law_920 : decode cL_law 920 = .ok (.aload_n 0, 1) := by decide +kernel
theorem dL_law_921 : decode cL_law 921 = .ok (.iload 4, 2) := by decide +kernel
theorem dL_law_923 : decode cL_law 923 = .ok (.iconst 2, 1) := by decide +kernel
theorem dL_law_924 : decode cL_law 924 = .ok (.iadd, 1) := by decide +kernel
theorem dL_law_925 : decode cL_law 925 = .ok (.iaload, 1) := by decide +kernel
theorem dL_law_926 : decode cL_law 926 = .ok (.invokevirtual 118, 3) := by decide +kernel
theorem dL_law_929 : decode cL_law 929 = .ok (.aload_n 2, 1) := by decide +kernel
theorem dL_law_930 : decode cL_law 930 = .ok (.aload_n 0, 1) := by decide +kernel
theorem dL_law_931 : decode cL_law 931 = .ok (.iload 4, 2) := by decide +kernel
theorem dL_law_933 : decode cL_law 933 = .ok (.iconst 1, 1) := by decide +kernel
theorem dL_law_934 : decode cL_law 934 = .ok (.iadd, 1) := by decide +kernel
theorem dL_law_935 : decode cL_law 935 = .ok (.iaload, 1) := by decide +kernel
theorem dL_law_936 : decode cL_law 936 = .ok (.aload_n 0, 1) := by decide +kernel
theorem dL_law_937 : decode cL_law 937 = .ok (.iload 4, 2) := by decide +kernel
theorem dL_law_939 : decode cL_law 939 = .ok (.iconst 2, 1) := by decide +kernel
theorem dL_law_940 : decode cL_law 940 = .ok (.iadd, 1) := by decide +kernel
theorem dL_law_941 : decode cL_law 941 = .ok (.iaload, 1) := by decide +kernel
theorem dL_law_942 : decode cL_law 942 = .ok (.invokevirtual 121, 3) := by decide +kernel
theorem dL_law_945 : decode cL_law 945 = .ok (.if_icmp .eq 567, 3) := by decide +kernel
theorem dL_law_948 : decode cL_law 948 = .ok (.iconst 0, 1) := by decide +kernel
theorem dL_law_949 : decode cL_law 949 = .ok (.ireturn, 1) := by decide +kernel
theorem dL_law_950 : decode cL_law 950 = .ok (.aload_n 1, 1) := by decide +kernel
theorem dL_law_951 : decode cL_law 951 = .ok (.aload_n 0, 1) := by decide +kernel
theorem dL_law_952 : decode cL_law 952 = .ok (.iload 4, 2) := by decide +kernel
theorem dL_law_954 : decode cL_law 954 = .ok (.iconst 1, 1) := by decide +kernel
theorem dL_law_955 : decode cL_law 955 = .ok (.iadd, 1) := by decide +kernel
theorem dL_law_956 : decode cL_law 956 = .ok (.iaload, 1) := by decide +kernel
theorem dL_law_957 : decode cL_law 957 = .ok (.aload_n 0, 1) := by decide +kernel
theorem dL_law_958 : decode cL_law 958 = .ok (.iload 4, 2) := by decide +kernel
theorem dL_law_960 : decode cL_law 960 = .ok (.iconst 2, 1) := by decide +kernel
theorem dL_law_961 : decode cL_law 961 = .ok (.iadd, 1) := by decide +kernel
theorem dL_law_962 : decode cL_law 962 = .ok (.iaload, 1) := by decide +kernel
theorem dL_law_963 : decode cL_law 963 = .ok (.invokevirtual 122, 3) := by decide +kernel
theorem dL_law_966 : decode cL_law 966 = .ok (.aload_n 2, 1) := by decide +kernel
theorem dL_law_967 : decode cL_law 967 = .ok (.aload_n 0, 1) := by decide +kernel
theorem dL_law_968 : decode cL_law 968 = .ok (.iload 4, 2) := by decide +kernel
theorem dL_law_970 : decode cL_law 970 = .ok (.iconst 1, 1) := by decide +kernel
theorem dL_law_971 : decode cL_law 971 = .ok (.iadd, 1) := by decide +kernel
theorem dL_law_972 : decode cL_law 972 = .ok (.iaload, 1) := by decide +kernel
theorem dL_law_973 : decode cL_law 973 = .ok (.aload_n 0, 1) := by decide +kernel
theorem dL_law_974 : decode cL_law 974 = .ok (.iload 4, 2) := by decide +kernel
theorem dL_law_976 : decode cL_law 976 = .ok (.iconst 2, 1) := by decide +kernel
theorem dL_law_977 : decode cL_law 977 = .ok (.iadd, 1) := by decide +kernel
theorem dL_law_978 : decode cL_law 978 = .ok (.iaload, 1) := by decide +kernel
theorem dL_law_979 : decode cL_law 979 = .ok (.invokevirtual 125, 3) := by decide +kernel
theorem dL_law_982 : decode cL_law 982 = .ok (.if_icmp .eq 530, 3) := by decide +kernel
theorem dL_law_985 : decode cL_law 985 = .ok (.iconst 0, 1) := by decide +kernel
theorem dL_law_986 : decode cL_law 986 = .ok (.ireturn, 1) := by decide +kernel
theorem dL_law_987 : decode cL_law 987 = .ok (.aload_n 1, 1) := by decide +kernel
theorem dL_law_988 : decode cL_law 988 = .ok (.aload_n 0, 1) := by decide +kernel
theorem dL_law_989 : decode cL_law 989 = .ok (.iload 4, 2) := by decide +kernel
theorem dL_law_991 : decode cL_law 991 = .ok (.iconst 1, 1) := by decide +kernel
theorem dL_law_992 : decode cL_law 992 = .ok (.iadd, 1) := by decide +kernel
theorem dL_law_993 : decode cL_law 993 = .ok (.iaload, 1) := by decide +kernel
theorem dL_law_994 : decode cL_law 994 = .ok (.aload_n 0, 1) := by decide +kernel
theorem dL_law_995 : decode cL_law 995 = .ok (.iload 4, 2) := by decide +kernel
theorem dL_law_997 : decode cL_law 997 = .ok (.iconst 2, 1) := by decide +kernel
theorem dL_law_998 : decode cL_law 998 = .ok (.iadd, 1) := by decide +kernel
theorem dL_law_999 : decode cL_law 999 = .ok (.iaload, 1) := by decide +kernel
theorem dL_law_1000 : decode cL_law 1000 = .ok (.aload_n 0, 1) := by decide +kernel
theorem dL_law_1001 : decode cL_law 1001 = .ok (.iload 4, 2) := by decide +kernel
theorem dL_law_1003 : decode cL_law 1003 = .ok (.iconst 3, 1) := by decide +kernel
theorem dL_law_1004 : decode cL_law 1004 = .ok (.iadd, 1) := by decide +kernel
theorem dL_law_1005 : decode cL_law 1005 = .ok (.iaload, 1) := by decide +kernel
theorem dL_law_1006 : decode cL_law 1006 = .ok (.ifCond .eq 7, 3) := by decide +kernel
theorem dL_law_1009 : decode cL_law 1009 = .ok (.iconst 1, 1) := by decide +kernel
theorem dL_law_1010 : decode cL_law 1010 = .ok (.goto 4, 3) := by decide +kernel
theorem dL_law_1013 : decode cL_law 1013 = .ok (.iconst 0, 1) := by decide +kernel
theorem dL_law_1014 : decode cL_law 1014 = .ok (.invokevirtual 126, 3) := by decide +kernel
theorem dL_law_1017 : decode cL_law 1017 = .ok (.aload_n 2, 1) := by decide +kernel
theorem dL_law_1018 : decode cL_law 1018 = .ok (.aload_n 0, 1) := by decide +kernel
theorem dL_law_1019 : decode cL_law 1019 = .ok (.iload 4, 2) := by decide +kernel
theorem dL_law_1021 : decode cL_law 1021 = .ok (.iconst 1, 1) := by decide +kernel
theorem dL_law_1022 : decode cL_law 1022 = .ok (.iadd, 1) := by decide +kernel
theorem dL_law_1023 : decode cL_law 1023 = .ok (.iaload, 1) := by decide +kernel
theorem dL_law_1024 : decode cL_law 1024 = .ok (.aload_n 0, 1) := by decide +kernel
theorem dL_law_1025 : decode cL_law 1025 = .ok (.iload 4, 2) := by decide +kernel
theorem dL_law_1027 : decode cL_law 1027 = .ok (.iconst 2, 1) := by decide +kernel
theorem dL_law_1028 : decode cL_law 1028 = .ok (.iadd, 1) := by decide +kernel
theorem dL_law_1029 : decode cL_law 1029 = .ok (.iaload, 1) := by decide +kernel
theorem dL_law_1030 : decode cL_law 1030 = .ok (.aload_n 0, 1) := by decide +kernel
theorem dL_law_1031 : decode cL_law 1031 = .ok (.iload 4, 2) := by decide +kernel
theorem dL_law_1033 : decode cL_law 1033 = .ok (.iconst 3, 1) := by decide +kernel
theorem dL_law_1034 : decode cL_law 1034 = .ok (.iadd, 1) := by decide +kernel
theorem dL_law_1035 : decode cL_law 1035 = .ok (.iaload, 1) := by decide +kernel
theorem dL_law_1036 : decode cL_law 1036 = .ok (.ifCond .eq 7, 3) := by decide +kernel
theorem dL_law_1039 : decode cL_law 1039 = .ok (.iconst 1, 1) := by decide +kernel
theorem dL_law_1040 : decode cL_law 1040 = .ok (.goto 4, 3) := by decide +kernel
theorem dL_law_1043 : decode cL_law 1043 = .ok (.iconst 0, 1) := by decide +kernel
theorem dL_law_1044 : decode cL_law 1044 = .ok (.invokevirtual 130, 3) := by decide +kernel
theorem dL_law_1047 : decode cL_law 1047 = .ok (.if_icmp .eq 465, 3) := by decide +kernel
theorem dL_law_1050 : decode cL_law 1050 = .ok (.iconst 0, 1) := by decide +kernel
theorem dL_law_1051 : decode cL_law 1051 = .ok (.ireturn, 1) := by decide +kernel
theorem dL_law_1052 : decode cL_law 1052 = .ok (.aload_n 1, 1) := by decide +kernel
theorem dL_law_1053 : decode cL_law 1053 = .ok (.invokevirtual 131, 3) := by decide +kernel
theorem dL_law_1056 : decode cL_law 1056 = .ok (.aload_n 2, 1) := by decide +kernel
theorem dL_law_1057 : decode cL_law 1057 = .ok (.invokevirtual 134, 3) := by decide +kernel
theorem dL_law_1060 : decode cL_law 1060 = .ok (.if_icmp .eq 452, 3) := by decide +kernel
theorem dL_law_1063 : decode cL_law 1063 = .ok (.iconst 0, 1) := by decide +kernel
theorem dL_law_1064 : decode cL_law 1064 = .ok (.ireturn, 1) := by decide +kernel
theorem dL_law_1065 : decode cL_law 1065 = .ok (.aload_n 1, 1) := by decide +kernel
theorem dL_law_1066 : decode cL_law 1066 = .ok (.invokevirtual 135, 3) := by decide +kernel
theorem dL_law_1069 : decode cL_law 1069 = .ok (.aload_n 2, 1) := by decide +kernel
theorem dL_law_1070 : decode cL_law 1070 = .ok (.invokevirtual 138, 3) := by decide +kernel
theorem dL_law_1073 : decode cL_law 1073 = .ok (.if_icmp .eq 439, 3) := by decide +kernel
theorem dL_law_1076 : decode cL_law 1076 = .ok (.iconst 0, 1) := by decide +kernel
theorem dL_law_1077 : decode cL_law 1077 = .ok (.ireturn, 1) := by decide +kernel
theorem dL_law_1078 : decode cL_law 1078 = .ok (.aload_n 1, 1) := by decide +kernel
theorem dL_law_1079 : decode cL_law 1079 = .ok (.aload_n 0, 1) := by decide +kernel
theorem dL_law_1080 : decode cL_law 1080 = .ok (.iload 4, 2) := by decide +kernel
theorem dL_law_1082 : decode cL_law 1082 = .ok (.iconst 1, 1) := by decide +kernel
theorem dL_law_1083 : decode cL_law 1083 = .ok (.iadd, 1) := by decide +kernel
theorem dL_law_1084 : decode cL_law 1084 = .ok (.iaload, 1) := by decide +kernel
theorem dL_law_1085 : decode cL_law 1085 = .ok (.aload_n 0, 1) := by decide +kernel
theorem dL_law_1086 : decode cL_law 1086 = .ok (.iload 4, 2) := by decide +kernel
theorem dL_law_1088 : decode cL_law 1088 = .ok (.iconst 2, 1) := by decide +kernel
theorem dL_law_1089 : decode cL_law 1089 = .ok (.iadd, 1) := by decide +kernel
theorem dL_law_1090 : decode cL_law 1090 = .ok (.iaload, 1) := by decide +kernel
theorem dL_law_1091 : decode cL_law 1091 = .ok (.invokevirtual 139, 3) := by decide +kernel
theorem dL_law_1094 : decode cL_law 1094 = .ok (.aload_n 2, 1) := by decide +kernel
theorem dL_law_1095 : decode cL_law 1095 = .ok (.aload_n 0, 1) := by decide +kernel
theorem dL_law_1096 : decode cL_law 1096 = .ok (.iload 4, 2) := by decide +kernel
theorem dL_law_1098 : decode cL_law 1098 = .ok (.iconst 1, 1) := by decide +kernel
theorem dL_law_1099 : decode cL_law 1099 = .ok (.iadd, 1) := by decide +kernel
theorem dL_law_1100 : decode cL_law 1100 = .ok (.iaload, 1) := by decide +kernel
theorem dL_law_1101 : decode cL_law 1101 = .ok (.aload_n 0, 1) := by decide +kernel
theorem dL_law_1102 : decode cL_law 1102 = .ok (.iload 4, 2) := by decide +kernel
theorem dL_law_1104 : decode cL_law 1104 = .ok (.iconst 2, 1) := by decide +kernel
theorem dL_law_1105 : decode cL_law 1105 = .ok (.iadd, 1) := by decide +kernel
theorem dL_law_1106 : decode cL_law 1106 = .ok (.iaload, 1) := by decide +kernel
theorem dL_law_1107 : decode cL_law 1107 = .ok (.invokevirtual 143, 3) := by decide +kernel
theorem dL_law_1110 : decode cL_law 1110 = .ok (.if_icmp .eq 402, 3) := by decide +kernel
theorem dL_law_1113 : decode cL_law 1113 = .ok (.iconst 0, 1) := by decide +kernel
theorem dL_law_1114 : decode cL_law 1114 = .ok (.ireturn, 1) := by decide +kernel
theorem dL_law_1115 : decode cL_law 1115 = .ok (.aload_n 1, 1) := by decide +kernel
theorem dL_law_1116 : decode cL_law 1116 = .ok (.invokevirtual 144, 3) := by decide +kernel
theorem dL_law_1119 : decode cL_law 1119 = .ok (.aload_n 2, 1) := by decide +kernel
theorem dL_law_1120 : decode cL_law 1120 = .ok (.invokevirtual 147, 3) := by decide +kernel
theorem dL_law_1123 : decode cL_law 1123 = .ok (.if_icmp .eq 389, 3) := by decide +kernel
theorem dL_law_1126 : decode cL_law 1126 = .ok (.iconst 0, 1) := by decide +kernel
theorem dL_law_1127 : decode cL_law 1127 = .ok (.ireturn, 1) := by decide +kernel
theorem dL_law_1128 : decode cL_law 1128 = .ok (.aload_n 1, 1) := by decide +kernel
theorem dL_law_1129 : decode cL_law 1129 = .ok (.invokevirtual 148, 3) := by decide +kernel
theorem dL_law_1132 : decode cL_law 1132 = .ok (.aload_n 2, 1) := by decide +kernel
theorem dL_law_1133 : decode cL_law 1133 = .ok (.invokevirtual 151, 3) := by decide +kernel
theorem dL_law_1136 : decode cL_law 1136 = .ok (.if_icmp .eq 376, 3) := by decide +kernel
theorem dL_law_1139 : decode cL_law 1139 = .ok (.iconst 0, 1) := by decide +kernel
theorem dL_law_1140 : decode cL_law 1140 = .ok (.ireturn, 1) := by decide +kernel
theorem dL_law_1141 : decode cL_law 1141 = .ok (.aload_n 1, 1) := by decide +kernel
theorem dL_law_1142 : decode cL_law 1142 = .ok (.invokevirtual 152, 3) := by decide +kernel
theorem dL_law_1145 : decode cL_law 1145 = .ok (.aload_n 2, 1) := by decide +kernel
theorem dL_law_1146 : decode cL_law 1146 = .ok (.invokevirtual 155, 3) := by decide +kernel
theorem dL_law_1149 : decode cL_law 1149 = .ok (.if_icmp .eq 363, 3) := by decide +kernel
theorem dL_law_1152 : decode cL_law 1152 = .ok (.iconst 0, 1) := by decide +kernel
theorem dL_law_1153 : decode cL_law 1153 = .ok (.ireturn, 1) := by decide +kernel
theorem dL_law_1154 : decode cL_law 1154 = .ok (.aload_n 1, 1) := by decide +kernel
theorem dL_law_1155 : decode cL_law 1155 = .ok (.invokevirtual 156, 3) := by decide +kernel
theorem dL_law_1158 : decode cL_law 1158 = .ok (.aload_n 2, 1) := by decide +kernel
theorem dL_law_1159 : decode cL_law 1159 = .ok (.invokevirtual 159, 3) := by decide +kernel
theorem dL_law_1162 : decode cL_law 1162 = .ok (.if_icmp .eq 350, 3) := by decide +kernel
theorem dL_law_1165 : decode cL_law 1165 = .ok (.iconst 0, 1) := by decide +kernel
theorem dL_law_1166 : decode cL_law 1166 = .ok (.ireturn, 1) := by decide +kernel
theorem dL_law_1167 : decode cL_law 1167 = .ok (.aload_n 1, 1) := by decide +kernel
theorem dL_law_1168 : decode cL_law 1168 = .ok (.invokevirtual 160, 3) := by decide +kernel
theorem dL_law_1171 : decode cL_law 1171 = .ok (.aload_n 2, 1) := by decide +kernel
theorem dL_law_1172 : decode cL_law 1172 = .ok (.invokevirtual 163, 3) := by decide +kernel
theorem dL_law_1175 : decode cL_law 1175 = .ok (.if_icmp .eq 337, 3) := by decide +kernel
theorem dL_law_1178 : decode cL_law 1178 = .ok (.iconst 0, 1) := by decide +kernel
theorem dL_law_1179 : decode cL_law 1179 = .ok (.ireturn, 1) := by decide +kernel
theorem dL_law_1180 : decode cL_law 1180 = .ok (.aload_n 1, 1) := by decide +kernel
theorem dL_law_1181 : decode cL_law 1181 = .ok (.invokevirtual 164, 3) := by decide +kernel
theorem dL_law_1184 : decode cL_law 1184 = .ok (.aload_n 2, 1) := by decide +kernel
theorem dL_law_1185 : decode cL_law 1185 = .ok (.invokevirtual 167, 3) := by decide +kernel
theorem dL_law_1188 : decode cL_law 1188 = .ok (.if_icmp .eq 324, 3) := by decide +kernel
theorem dL_law_1191 : decode cL_law 1191 = .ok (.iconst 0, 1) := by decide +kernel
theorem dL_law_1192 : decode cL_law 1192 = .ok (.ireturn, 1) := by decide +kernel
theorem dL_law_1193 : decode cL_law 1193 = .ok (.aload_n 1, 1) := by decide +kernel
theorem dL_law_1194 : decode cL_law 1194 = .ok (.invokevirtual 168, 3) := by decide +kernel
theorem dL_law_1197 : decode cL_law 1197 = .ok (.aload_n 2, 1) := by decide +kernel
theorem dL_law_1198 : decode cL_law 1198 = .ok (.invokevirtual 171, 3) := by decide +kernel
theorem dL_law_1201 : decode cL_law 1201 = .ok (.if_icmp .eq 311, 3) := by decide +kernel
theorem dL_law_1204 : decode cL_law 1204 = .ok (.iconst 0, 1) := by decide +kernel
theorem dL_law_1205 : decode cL_law 1205 = .ok (.ireturn, 1) := by decide +kernel
theorem dL_law_1206 : decode cL_law 1206 = .ok (.aload_n 1, 1) := by decide +kernel
theorem dL_law_1207 : decode cL_law 1207 = .ok (.aload_n 0, 1) := by decide +kernel
theorem dL_law_1208 : decode cL_law 1208 = .ok (.iload 4, 2) := by decide +kernel
theorem dL_law_1210 : decode cL_law 1210 = .ok (.iconst 1, 1) := by decide +kernel
theorem dL_law_1211 : decode cL_law 1211 = .ok (.iadd, 1) := by decide +kernel
theorem dL_law_1212 : decode cL_law 1212 = .ok (.iaload, 1) := by decide +kernel
theorem dL_law_1213 : decode cL_law 1213 = .ok (.invokevirtual 172, 3) := by decide +kernel
theorem dL_law_1216 : decode cL_law 1216 = .ok (.aload_n 2, 1) := by decide +kernel
theorem dL_law_1217 : decode cL_law 1217 = .ok (.aload_n 0, 1) := by decide +kernel
theorem dL_law_1218 : decode cL_law 1218 = .ok (.iload 4, 2) := by decide +kernel
theorem dL_law_1220 : decode cL_law 1220 = .ok (.iconst 1, 1) := by decide +kernel
theorem dL_law_1221 : decode cL_law 1221 = .ok (.iadd, 1) := by decide +kernel
theorem dL_law_1222 : decode cL_law 1222 = .ok (.iaload, 1) := by decide +kernel
theorem dL_law_1223 : decode cL_law 1223 = .ok (.invokevirtual 175, 3) := by decide +kernel
theorem dL_law_1226 : decode cL_law 1226 = .ok (.if_icmp .eq 286, 3) := by decide +kernel
theorem dL_law_1229 : decode cL_law 1229 = .ok (.iconst 0, 1) := by decide +kernel
theorem dL_law_1230 : decode cL_law 1230 = .ok (.ireturn, 1) := by decide +kernel
theorem dL_law_1231 : decode cL_law 1231 = .ok (.aload_n 1, 1) := by decide +kernel
theorem dL_law_1232 : decode cL_law 1232 = .ok (.invokevirtual 176, 3) := by decide +kernel
theorem dL_law_1235 : decode cL_law 1235 = .ok (.aload_n 2, 1) := by decide +kernel
theorem dL_law_1236 : decode cL_law 1236 = .ok (.invokevirtual 179, 3) := by decide +kernel
theorem dL_law_1239 : decode cL_law 1239 = .ok (.if_icmp .eq 273, 3) := by decide +kernel
theorem dL_law_1242 : decode cL_law 1242 = .ok (.iconst 0, 1) := by decide +kernel
theorem dL_law_1243 : decode cL_law 1243 = .ok (.ireturn, 1) := by decide +kernel
theorem dL_law_1244 : decode cL_law 1244 = .ok (.aload_n 1, 1) := by decide +kernel
theorem dL_law_1245 : decode cL_law 1245 = .ok (.aload_n 0, 1) := by decide +kernel
theorem dL_law_1246 : decode cL_law 1246 = .ok (.iload 4, 2) := by decide +kernel
theorem dL_law_1248 : decode cL_law 1248 = .ok (.iconst 1, 1) := by decide +kernel
theorem dL_law_1249 : decode cL_law 1249 = .ok (.iadd, 1) := by decide +kernel
theorem dL_law_1250 : decode cL_law 1250 = .ok (.iaload, 1) := by decide +kernel
theorem dL_law_1251 : decode cL_law 1251 = .ok (.aload_n 0, 1) := by decide +kernel
theorem dL_law_1252 : decode cL_law 1252 = .ok (.iload 4, 2) := by decide +kernel
theorem dL_law_1254 : decode cL_law 1254 = .ok (.iconst 2, 1) := by decide +kernel
theorem dL_law_1255 : decode cL_law 1255 = .ok (.iadd, 1) := by decide +kernel
theorem dL_law_1256 : decode cL_law 1256 = .ok (.iaload, 1) := by decide +kernel
theorem dL_law_1257 : decode cL_law 1257 = .ok (.aload_n 0, 1) := by decide +kernel
theorem dL_law_1258 : decode cL_law 1258 = .ok (.iload 4, 2) := by decide +kernel
theorem dL_law_1260 : decode cL_law 1260 = .ok (.iconst 3, 1) := by decide +kernel
theorem dL_law_1261 : decode cL_law 1261 = .ok (.iadd, 1) := by decide +kernel
theorem dL_law_1262 : decode cL_law 1262 = .ok (.iaload, 1) := by decide +kernel
theorem dL_law_1263 : decode cL_law 1263 = .ok (.invokevirtual 180, 3) := by decide +kernel
theorem dL_law_1266 : decode cL_law 1266 = .ok (.aload_n 2, 1) := by decide +kernel
theorem dL_law_1267 : decode cL_law 1267 = .ok (.aload_n 0, 1) := by decide +kernel
theorem dL_law_1268 : decode cL_law 1268 = .ok (.iload 4, 2) := by decide +kernel
theorem dL_law_1270 : decode cL_law 1270 = .ok (.iconst 1, 1) := by decide +kernel
theorem dL_law_1271 : decode cL_law 1271 = .ok (.iadd, 1) := by decide +kernel
theorem dL_law_1272 : decode cL_law 1272 = .ok (.iaload, 1) := by decide +kernel
theorem dL_law_1273 : decode cL_law 1273 = .ok (.aload_n 0, 1) := by decide +kernel
theorem dL_law_1274 : decode cL_law 1274 = .ok (.iload 4, 2) := by decide +kernel
theorem dL_law_1276 : decode cL_law 1276 = .ok (.iconst 2, 1) := by decide +kernel
theorem dL_law_1277 : decode cL_law 1277 = .ok (.iadd, 1) := by decide +kernel
theorem dL_law_1278 : decode cL_law 1278 = .ok (.iaload, 1) := by decide +kernel
theorem dL_law_1279 : decode cL_law 1279 = .ok (.aload_n 0, 1) := by decide +kernel
theorem dL_law_1280 : decode cL_law 1280 = .ok (.iload 4, 2) := by decide +kernel
theorem dL_law_1282 : decode cL_law 1282 = .ok (.iconst 3, 1) := by decide +kernel
theorem dL_law_1283 : decode cL_law 1283 = .ok (.iadd, 1) := by decide +kernel
theorem dL_law_1284 : decode cL_law 1284 = .ok (.iaload, 1) := by decide +kernel
theorem dL_law_1285 : decode cL_law 1285 = .ok (.invokevirtual 184, 3) := by decide +kernel
theorem dL_law_1288 : decode cL_law 1288 = .ok (.if_icmp .eq 224, 3) := by decide +kernel
theorem dL_law_1291 : decode cL_law 1291 = .ok (.iconst 0, 1) := by decide +kernel
theorem dL_law_1292 : decode cL_law 1292 = .ok (.ireturn, 1) := by decide +kernel
theorem dL_law_1293 : decode cL_law 1293 = .ok (.aload_n 1, 1) := by decide +kernel
theorem dL_law_1294 : decode cL_law 1294 = .ok (.aload_n 0, 1) := by decide +kernel
theorem dL_law_1295 : decode cL_law 1295 = .ok (.iload 4, 2) := by decide +kernel
theorem dL_law_1297 : decode cL_law 1297 = .ok (.iconst 1, 1) := by decide +kernel
theorem dL_law_1298 : decode cL_law 1298 = .ok (.iadd, 1) := by decide +kernel
theorem dL_law_1299 : decode cL_law 1299 = .ok (.iaload, 1) := by decide +kernel
theorem dL_law_1300 : decode cL_law 1300 = .ok (.aload_n 0, 1) := by decide +kernel
theorem dL_law_1301 : decode cL_law 1301 = .ok (.iload 4, 2) := by decide +kernel
theorem dL_law_1303 : decode cL_law 1303 = .ok (.iconst 2, 1) := by decide +kernel
theorem dL_law_1304 : decode cL_law 1304 = .ok (.iadd, 1) := by decide +kernel
theorem dL_law_1305 : decode cL_law 1305 = .ok (.iaload, 1) := by decide +kernel
theorem dL_law_1306 : decode cL_law 1306 = .ok (.aload_n 0, 1) := by decide +kernel
theorem dL_law_1307 : decode cL_law 1307 = .ok (.iload 4, 2) := by decide +kernel
theorem dL_law_1309 : decode cL_law 1309 = .ok (.iconst 3, 1) := by decide +kernel
theorem dL_law_1310 : decode cL_law 1310 = .ok (.iadd, 1) := by decide +kernel
theorem dL_law_1311 : decode cL_law 1311 = .ok (.iaload, 1) := by decide +kernel
theorem dL_law_1312 : decode cL_law 1312 = .ok (.aload_n 0, 1) := by decide +kernel
theorem dL_law_1313 : decode cL_law 1313 = .ok (.iload 4, 2) := by decide +kernel
theorem dL_law_1315 : decode cL_law 1315 = .ok (.iconst 4, 1) := by decide +kernel
theorem dL_law_1316 : decode cL_law 1316 = .ok (.iadd, 1) := by decide +kernel
theorem dL_law_1317 : decode cL_law 1317 = .ok (.iaload, 1) := by decide +kernel
theorem dL_law_1318 : decode cL_law 1318 = .ok (.aload_n 3, 1) := by decide +kernel
theorem dL_law_1319 : decode cL_law 1319 = .ok (.invokestatic 185, 3) := by decide +kernel
theorem dL_law_1322 : decode cL_law 1322 = .ok (.istore 5, 2) := by decide +kernel
theorem dL_law_1324 : decode cL_law 1324 = .ok (.aload_n 2, 1) := by decide +kernel
theorem dL_law_1325 : decode cL_law 1325 = .ok (.aload_n 0, 1) := by decide +kernel
theorem dL_law_1326 : decode cL_law 1326 = .ok (.iload 4, 2) := by decide +kernel
theorem dL_law_1328 : decode cL_law 1328 = .ok (.iconst 1, 1) := by decide +kernel
theorem dL_law_1329 : decode cL_law 1329 = .ok (.iadd, 1) := by decide +kernel
theorem dL_law_1330 : decode cL_law 1330 = .ok (.iaload, 1) := by decide +kernel
theorem dL_law_1331 : decode cL_law 1331 = .ok (.aload_n 0, 1) := by decide +kernel
theorem dL_law_1332 : decode cL_law 1332 = .ok (.iload 4, 2) := by decide +kernel
theorem dL_law_1334 : decode cL_law 1334 = .ok (.iconst 2, 1) := by decide +kernel
theorem dL_law_1335 : decode cL_law 1335 = .ok (.iadd, 1) := by decide +kernel
theorem dL_law_1336 : decode cL_law 1336 = .ok (.iaload, 1) := by decide +kernel
theorem dL_law_1337 : decode cL_law 1337 = .ok (.aload_n 0, 1) := by decide +kernel
theorem dL_law_1338 : decode cL_law 1338 = .ok (.iload 4, 2) := by decide +kernel
theorem dL_law_1340 : decode cL_law 1340 = .ok (.iconst 3, 1) := by decide +kernel
theorem dL_law_1341 : decode cL_law 1341 = .ok (.iadd, 1) := by decide +kernel
theorem dL_law_1342 : decode cL_law 1342 = .ok (.iaload, 1) := by decide +kernel
theorem dL_law_1343 : decode cL_law 1343 = .ok (.aload_n 0, 1) := by decide +kernel
theorem dL_law_1344 : decode cL_law 1344 = .ok (.iload 4, 2) := by decide +kernel
theorem dL_law_1346 : decode cL_law 1346 = .ok (.iconst 4, 1) := by decide +kernel
theorem dL_law_1347 : decode cL_law 1347 = .ok (.iadd, 1) := by decide +kernel
theorem dL_law_1348 : decode cL_law 1348 = .ok (.iaload, 1) := by decide +kernel
theorem dL_law_1349 : decode cL_law 1349 = .ok (.invokevirtual 190, 3) := by decide +kernel
theorem dL_law_1352 : decode cL_law 1352 = .ok (.istore 6, 2) := by decide +kernel
theorem dL_law_1354 : decode cL_law 1354 = .ok (.aload_n 2, 1) := by decide +kernel
theorem dL_law_1355 : decode cL_law 1355 = .ok (.invokevirtual 191, 3) := by decide +kernel
theorem dL_law_1358 : decode cL_law 1358 = .ok (.iload 5, 2) := by decide +kernel
theorem dL_law_1360 : decode cL_law 1360 = .ok (.if_icmp .eq 5, 3) := by decide +kernel
theorem dL_law_1363 : decode cL_law 1363 = .ok (.iconst 0, 1) := by decide +kernel
theorem dL_law_1364 : decode cL_law 1364 = .ok (.ireturn, 1) := by decide +kernel
theorem dL_law_1365 : decode cL_law 1365 = .ok (.iload 5, 2) := by decide +kernel
theorem dL_law_1367 : decode cL_law 1367 = .ok (.ifCond .ne 15, 3) := by decide +kernel
theorem dL_law_1370 : decode cL_law 1370 = .ok (.aload_n 3, 1) := by decide +kernel
theorem dL_law_1371 : decode cL_law 1371 = .ok (.iconst 0, 1) := by decide +kernel
theorem dL_law_1372 : decode cL_law 1372 = .ok (.laload, 1) := by decide +kernel
theorem dL_law_1373 : decode cL_law 1373 = .ok (.iload 6, 2) := by decide +kernel
theorem dL_law_1375 : decode cL_law 1375 = .ok (.i2l, 1) := by decide +kernel
theorem dL_law_1376 : decode cL_law 1376 = .ok (.lcmp, 1) := by decide +kernel
theorem dL_law_1377 : decode cL_law 1377 = .ok (.ifCond .eq 5, 3) := by decide +kernel
theorem dL_law_1380 : decode cL_law 1380 = .ok (.iconst 0, 1) := by decide +kernel
theorem dL_law_1381 : decode cL_law 1381 = .ok (.ireturn, 1) := by decide +kernel
theorem dL_law_1382 : decode cL_law 1382 = .ok (.goto 130, 3) := by decide +kernel
theorem dL_law_1385 : decode cL_law 1385 = .ok (.aload_n 1, 1) := by decide +kernel
theorem dL_law_1386 : decode cL_law 1386 = .ok (.aload_n 0, 1) := by decide +kernel
theorem dL_law_1387 : decode cL_law 1387 = .ok (.iload 4, 2) := by decide +kernel
theorem dL_law_1389 : decode cL_law 1389 = .ok (.iconst 1, 1) := by decide +kernel
theorem dL_law_1390 : decode cL_law 1390 = .ok (.iadd, 1) := by decide +kernel
theorem dL_law_1391 : decode cL_law 1391 = .ok (.iaload, 1) := by decide +kernel
theorem dL_law_1392 : decode cL_law 1392 = .ok (.aload_n 0, 1) := by decide +kernel
theorem dL_law_1393 : decode cL_law 1393 = .ok (.iload 4, 2) := by decide +kernel
theorem dL_law_1395 : decode cL_law 1395 = .ok (.iconst 2, 1) := by decide +kernel
theorem dL_law_1396 : decode cL_law 1396 = .ok (.iadd, 1) := by decide +kernel
theorem dL_law_1397 : decode cL_law 1397 = .ok (.iaload, 1) := by decide +kernel
theorem dL_law_1398 : decode cL_law 1398 = .ok (.aload_n 0, 1) := by decide +kernel
theorem dL_law_1399 : decode cL_law 1399 = .ok (.iload 4, 2) := by decide +kernel
theorem dL_law_1401 : decode cL_law 1401 = .ok (.iconst 3, 1) := by decide +kernel
theorem dL_law_1402 : decode cL_law 1402 = .ok (.iadd, 1) := by decide +kernel
theorem dL_law_1403 : decode cL_law 1403 = .ok (.iaload, 1) := by decide +kernel
theorem dL_law_1404 : decode cL_law 1404 = .ok (.invokevirtual 194, 3) := by decide +kernel
theorem dL_law_1407 : decode cL_law 1407 = .ok (.aload_n 2, 1) := by decide +kernel
theorem dL_law_1408 : decode cL_law 1408 = .ok (.aload_n 0, 1) := by decide +kernel
theorem dL_law_1409 : decode cL_law 1409 = .ok (.iload 4, 2) := by decide +kernel
theorem dL_law_1411 : decode cL_law 1411 = .ok (.iconst 1, 1) := by decide +kernel
theorem dL_law_1412 : decode cL_law 1412 = .ok (.iadd, 1) := by decide +kernel
theorem dL_law_1413 : decode cL_law 1413 = .ok (.iaload, 1) := by decide +kernel
theorem dL_law_1414 : decode cL_law 1414 = .ok (.aload_n 0, 1) := by decide +kernel
theorem dL_law_1415 : decode cL_law 1415 = .ok (.iload 4, 2) := by decide +kernel
theorem dL_law_1417 : decode cL_law 1417 = .ok (.iconst 2, 1) := by decide +kernel
theorem dL_law_1418 : decode cL_law 1418 = .ok (.iadd, 1) := by decide +kernel
theorem dL_law_1419 : decode cL_law 1419 = .ok (.iaload, 1) := by decide +kernel
theorem dL_law_1420 : decode cL_law 1420 = .ok (.aload_n 0, 1) := by decide +kernel
theorem dL_law_1421 : decode cL_law 1421 = .ok (.iload 4, 2) := by decide +kernel
theorem dL_law_1423 : decode cL_law 1423 = .ok (.iconst 3, 1) := by decide +kernel
theorem dL_law_1424 : decode cL_law 1424 = .ok (.iadd, 1) := by decide +kernel
theorem dL_law_1425 : decode cL_law 1425 = .ok (.iaload, 1) := by decide +kernel
theorem dL_law_1426 : decode cL_law 1426 = .ok (.invokevirtual 197, 3) := by decide +kernel
theorem dL_law_1429 : decode cL_law 1429 = .ok (.if_icmp .eq 83, 3) := by decide +kernel
theorem dL_law_1432 : decode cL_law 1432 = .ok (.iconst 0, 1) := by decide +kernel
theorem dL_law_1433 : decode cL_law 1433 = .ok (.ireturn, 1) := by decide +kernel
theorem dL_law_1434 : decode cL_law 1434 = .ok (.aload_n 1, 1) := by decide +kernel
theorem dL_law_1435 : decode cL_law 1435 = .ok (.aload_n 0, 1) := by decide +kernel
theorem dL_law_1436 : decode cL_law 1436 = .ok (.iload 4, 2) := by decide +kernel
theorem dL_law_1438 : decode cL_law 1438 = .ok (.iconst 1, 1) := by decide +kernel
theorem dL_law_1439 : decode cL_law 1439 = .ok (.iadd, 1) := by decide +kernel
theorem dL_law_1440 : decode cL_law 1440 = .ok (.iaload, 1) := by decide +kernel
theorem dL_law_1441 : decode cL_law 1441 = .ok (.aload_n 0, 1) := by decide +kernel
theorem dL_law_1442 : decode cL_law 1442 = .ok (.iload 4, 2) := by decide +kernel
theorem dL_law_1444 : decode cL_law 1444 = .ok (.iconst 2, 1) := by decide +kernel
theorem dL_law_1445 : decode cL_law 1445 = .ok (.iadd, 1) := by decide +kernel
theorem dL_law_1446 : decode cL_law 1446 = .ok (.iaload, 1) := by decide +kernel
theorem dL_law_1447 : decode cL_law 1447 = .ok (.ifCond .eq 7, 3) := by decide +kernel
theorem dL_law_1450 : decode cL_law 1450 = .ok (.iconst 1, 1) := by decide +kernel
theorem dL_law_1451 : decode cL_law 1451 = .ok (.goto 4, 3) := by decide +kernel
theorem dL_law_1454 : decode cL_law 1454 = .ok (.iconst 0, 1) := by decide +kernel
theorem dL_law_1455 : decode cL_law 1455 = .ok (.invokevirtual 198, 3) := by decide +kernel
theorem dL_law_1458 : decode cL_law 1458 = .ok (.aload_n 2, 1) := by decide +kernel
theorem dL_law_1459 : decode cL_law 1459 = .ok (.aload_n 0, 1) := by decide +kernel
theorem dL_law_1460 : decode cL_law 1460 = .ok (.iload 4, 2) := by decide +kernel
theorem dL_law_1462 : decode cL_law 1462 = .ok (.iconst 1, 1) := by decide +kernel
theorem dL_law_1463 : decode cL_law 1463 = .ok (.iadd, 1) := by decide +kernel
theorem dL_law_1464 : decode cL_law 1464 = .ok (.iaload, 1) := by decide +kernel
theorem dL_law_1465 : decode cL_law 1465 = .ok (.aload_n 0, 1) := by decide +kernel
theorem dL_law_1466 : decode cL_law 1466 = .ok (.iload 4, 2) := by decide +kernel
theorem dL_law_1468 : decode cL_law 1468 = .ok (.iconst 2, 1) := by decide +kernel
theorem dL_law_1469 : decode cL_law 1469 = .ok (.iadd, 1) := by decide +kernel
theorem dL_law_1470 : decode cL_law 1470 = .ok (.iaload, 1) := by decide +kernel
theorem dL_law_1471 : decode cL_law 1471 = .ok (.ifCond .eq 7, 3) := by decide +kernel
theorem dL_law_1474 : decode cL_law 1474 = .ok (.iconst 1, 1) := by decide +kernel
theorem dL_law_1475 : decode cL_law 1475 = .ok (.goto 4, 3) := by decide +kernel
theorem dL_law_1478 : decode cL_law 1478 = .ok (.iconst 0, 1) := by decide +kernel
theorem dL_law_1479 : decode cL_law 1479 = .ok (.invokevirtual 202, 3) := by decide +kernel
theorem dL_law_1482 : decode cL_law 1482 = .ok (.if_icmp .eq 30, 3) := by decide +kernel
theorem dL_law_1485 : decode cL_law 1485 = .ok (.iconst 0, 1) := by decide +kernel
theorem dL_law_1486 : decode cL_law 1486 = .ok (.ireturn, 1) := by decide +kernel
theorem dL_law_1487 : decode cL_law 1487 = .ok (.aload_n 1, 1) := by decide +kernel
theorem dL_law_1488 : decode cL_law 1488 = .ok (.aload_n 0, 1) := by decide +kernel
theorem dL_law_1489 : decode cL_law 1489 = .ok (.iload 4, 2) := by decide +kernel
theorem dL_law_1491 : decode cL_law 1491 = .ok (.iconst 1, 1) := by decide +kernel
theorem dL_law_1492 : decode cL_law 1492 = .ok (.iadd, 1) := by decide +kernel
theorem dL_law_1493 : decode cL_law 1493 = .ok (.iaload, 1) := by decide +kernel
theorem dL_law_1494 : decode cL_law 1494 = .ok (.invokevirtual 203, 3) := by decide +kernel
theorem dL_law_1497 : decode cL_law 1497 = .ok (.aload_n 2, 1) := by decide +kernel
theorem dL_law_1498 : decode cL_law 1498 = .ok (.aload_n 0, 1) := by decide +kernel
theorem dL_law_1499 : decode cL_law 1499 = .ok (.iload 4, 2) := by decide +kernel
theorem dL_law_1501 : decode cL_law 1501 = .ok (.iconst 1, 1) := by decide +kernel
theorem dL_law_1502 : decode cL_law 1502 = .ok (.iadd, 1) := by decide +kernel
theorem dL_law_1503 : decode cL_law 1503 = .ok (.iaload, 1) := by decide +kernel
theorem dL_law_1504 : decode cL_law 1504 = .ok (.invokevirtual 206, 3) := by decide +kernel
theorem dL_law_1507 : decode cL_law 1507 = .ok (.if_icmp .eq 5, 3) := by decide +kernel
theorem dL_law_1510 : decode cL_law 1510 = .ok (.iconst 0, 1) := by decide +kernel
theorem dL_law_1511 : decode cL_law 1511 = .ok (.ireturn, 1) := by decide +kernel
theorem dL_law_1512 : decode cL_law 1512 = .ok (.iinc 4 7, 3) := by decide +kernel
theorem dL_law_1515 : decode cL_law 1515 = .ok (.goto (-1492), 3) := by decide +kernel
theorem dL_law_1518 : decode cL_law 1518 = .ok (.iconst 1, 1) := by decide +kernel
theorem dL_law_1519 : decode cL_law 1519 = .ok (.ireturn, 1) := by decide +kernel
def f_L_law_23 (w : Nat) (xs : Nat → Int32) (L : Nat) : Nat → Int32 → mM → Option Unit
  | 0, _, _ => none
  | n + 1, x4, M => (if ((Int32.ofNat L) - 7) < x4 then lwR 1 else chk x4 L ((if ((xs x4.toNatClampNeg) &&& 63).toInt < 0 ∨ 42 < ((xs x4.toNatClampNeg) &&& 63).toInt then (f_L_law_23 w xs L n (x4 + 7) M) else (fun z : Int => if z = 0 then chk (x4 + 1) L (chk (x4 + 2) L (chk (x4 + 3) L (chk (x4 + 4) L (chk (x4 + 5) L (chk (x4 + 6) L (bI (f_X11_feed w 0 ((((xs (x4 + 1).toNatClampNeg).toInt64) <<< ((32 : Int32).toInt64 &&& 63)) ||| (((xs (x4 + 2).toNatClampNeg).toInt64) &&& 4294967295)) ((((xs (x4 + 3).toNatClampNeg).toInt64) <<< ((32 : Int32).toInt64 &&& 63)) ||| (((xs (x4 + 4).toNatClampNeg).toInt64) &&& 4294967295)) ((((xs (x4 + 5).toNatClampNeg).toInt64) <<< ((32 : Int32).toInt64 &&& 63)) ||| (((xs (x4 + 6).toNatClampNeg).toInt64) &&& 4294967295)) M) fun q2 M1 => chk (x4 + 1) L (chk (x4 + 2) L (chk (x4 + 3) L (chk (x4 + 4) L (chk (x4 + 5) L (chk (x4 + 6) L (bI (f_X12_feed w 163 ((((xs (x4 + 1).toNatClampNeg).toInt64) <<< ((32 : Int32).toInt64 &&& 63)) ||| (((xs (x4 + 2).toNatClampNeg).toInt64) &&& 4294967295)) ((((xs (x4 + 3).toNatClampNeg).toInt64) <<< ((32 : Int32).toInt64 &&& 63)) ||| (((xs (x4 + 4).toNatClampNeg).toInt64) &&& 4294967295)) ((((xs (x4 + 5).toNatClampNeg).toInt64) <<< ((32 : Int32).toInt64 &&& 63)) ||| (((xs (x4 + 6).toNatClampNeg).toInt64) &&& 4294967295)) M1) fun q4 M3 => (if q2 = q4 then (f_L_law_23 w xs L n (x4 + 7) M3) else lwR 0))))))))))))) else if z = 1 then bI (f_X11_house w 0 M) fun q6 M5 => bI (f_X12_house w 163 M5) fun q8 M7 => (if q6 = q8 then (f_L_law_23 w xs L n (x4 + 7) M7) else lwR 0) else if z = 2 then bI (f_X11_days w 0 M) fun q10 M9 => bI (f_X12_days w 163 M9) fun q12 M11 => (if q10 = q12 then (f_L_law_23 w xs L n (x4 + 7) M11) else lwR 0) else if z = 3 then chk (x4 + 1) L (chk (x4 + 2) L (bI (f_X11_door w 0 (xs (x4 + 1).toNatClampNeg) (xs (x4 + 2).toNatClampNeg) M) fun q14 M13 => chk (x4 + 1) L (chk (x4 + 2) L (bI (f_X12_door w 163 (xs (x4 + 1).toNatClampNeg) (xs (x4 + 2).toNatClampNeg) M13) fun q16 M15 => (if q14 = q16 then (f_L_law_23 w xs L n (x4 + 7) M15) else lwR 0))))) else if z = 4 then chk (x4 + 1) L (bI (f_X11_person w 0 (xs (x4 + 1).toNatClampNeg) M) fun q18 M17 => chk (x4 + 1) L (bI (f_X12_person w 163 (xs (x4 + 1).toNatClampNeg) M17) fun q20 M19 => (if q18 = q20 then (f_L_law_23 w xs L n (x4 + 7) M19) else lwR 0))) else if z = 5 then bI (f_X11_day w 0 M) fun q22 M21 => bI (f_X12_day w 163 M21) fun q24 M23 => (if q22 = q24 then (f_L_law_23 w xs L n (x4 + 7) M23) else lwR 0) else if z = 6 then chk (x4 + 1) L (chk (x4 + 2) L (bI (f_X11_walk w 0 (xs (x4 + 1).toNatClampNeg) (xs (x4 + 2).toNatClampNeg) M) fun q26 M25 => chk (x4 + 1) L (chk (x4 + 2) L (bI (f_X12_walk w 163 (xs (x4 + 1).toNatClampNeg) (xs (x4 + 2).toNatClampNeg) M25) fun q28 M27 => (if q26 = q28 then (f_L_law_23 w xs L n (x4 + 7) M27) else lwR 0))))) else if z = 7 then chk (x4 + 1) L (bI (f_X11_plane w 0 (xs (x4 + 1).toNatClampNeg) M) fun q30 M29 => chk (x4 + 1) L (bI (f_X12_plane w 163 (xs (x4 + 1).toNatClampNeg) M29) fun q32 M31 => (if q30 = q32 then (f_L_law_23 w xs L n (x4 + 7) M31) else lwR 0))) else if z = 8 then chk (x4 + 1) L (bI (f_X11_wedge w 0 (xs (x4 + 1).toNatClampNeg) M) fun q34 M33 => chk (x4 + 1) L (bI (f_X12_wedge w 163 (xs (x4 + 1).toNatClampNeg) M33) fun q36 M35 => (if q34 = q36 then (f_L_law_23 w xs L n (x4 + 7) M35) else lwR 0))) else if z = 9 then chk (x4 + 1) L (bI (f_X11_force w 0 (xs (x4 + 1).toNatClampNeg) M) fun q38 M37 => chk (x4 + 1) L (bI (f_X12_force w 163 (xs (x4 + 1).toNatClampNeg) M37) fun q40 M39 => (if q38 = q40 then (f_L_law_23 w xs L n (x4 + 7) M39) else lwR 0))) else if z = 10 then bI (f_X11_undo w 0 M) fun q42 M41 => bI (f_X12_undo w 163 M41) fun q44 M43 => (if q42 = q44 then (f_L_law_23 w xs L n (x4 + 7) M43) else lwR 0) else if z = 11 then chk (x4 + 1) L (bI (f_X11_judged w 0 (xs (x4 + 1).toNatClampNeg) M) fun q46 M45 => chk (x4 + 1) L (bI (f_X12_judged w 163 (xs (x4 + 1).toNatClampNeg) M45) fun q48 M47 => (if q46 = q48 then (f_L_law_23 w xs L n (x4 + 7) M47) else lwR 0))) else if z = 12 then bI (f_X11_shut w 0 M) fun q50 M49 => bI (f_X12_shut w 163 M49) fun q52 M51 => (if q50 = q52 then (f_L_law_23 w xs L n (x4 + 7) M51) else lwR 0) else if z = 13 then chk (x4 + 1) L (bI (f_X11_range w 0 (xs (x4 + 1).toNatClampNeg) M) fun q54 M53 => chk (x4 + 1) L (bI (f_X12_range w 163 (xs (x4 + 1).toNatClampNeg) M53) fun q56 M55 => (if q54 = q56 then (f_L_law_23 w xs L n (x4 + 7) M55) else lwR 0))) else if z = 14 then chk (x4 + 1) L (bI (f_X11_company w 0 (xs (x4 + 1).toNatClampNeg) M) fun q58 M57 => chk (x4 + 1) L (bI (f_X12_company w 163 (xs (x4 + 1).toNatClampNeg) M57) fun q60 M59 => (if q58 = q60 then (f_L_law_23 w xs L n (x4 + 7) M59) else lwR 0))) else if z = 15 then chk (x4 + 1) L (chk (x4 + 2) L (bI (f_X11_later w 0 (xs (x4 + 1).toNatClampNeg) (xs (x4 + 2).toNatClampNeg) M) fun q62 M61 => chk (x4 + 1) L (chk (x4 + 2) L (bI (f_X12_later w 163 (xs (x4 + 1).toNatClampNeg) (xs (x4 + 2).toNatClampNeg) M61) fun q64 M63 => (if q62 = q64 then (f_L_law_23 w xs L n (x4 + 7) M63) else lwR 0))))) else if z = 16 then chk (x4 + 1) L (bI (f_X11_closes w 0 (xs (x4 + 1).toNatClampNeg) M) fun q66 M65 => chk (x4 + 1) L (bI (f_X12_closes w 163 (xs (x4 + 1).toNatClampNeg) M65) fun q68 M67 => (if q66 = q68 then (f_L_law_23 w xs L n (x4 + 7) M67) else lwR 0))) else if z = 17 then chk (x4 + 1) L (bI (f_X11_gives w 0 (xs (x4 + 1).toNatClampNeg) M) fun q70 M69 => chk (x4 + 1) L (bI (f_X12_gives w 163 (xs (x4 + 1).toNatClampNeg) M69) fun q72 M71 => (if q70 = q72 then (f_L_law_23 w xs L n (x4 + 7) M71) else lwR 0))) else if z = 18 then bI (f_X11_calm w 0 M) fun q74 M73 => bI (f_X12_calm w 163 M73) fun q76 M75 => (if q74 = q76 then (f_L_law_23 w xs L n (x4 + 7) M75) else lwR 0) else if z = 19 then bI (f_X11_hard w 0 M) fun q78 M77 => bI (f_X12_hard w 163 M77) fun q80 M79 => (if q78 = q80 then (f_L_law_23 w xs L n (x4 + 7) M79) else lwR 0) else if z = 20 then chk (x4 + 1) L (chk (x4 + 2) L (bI (f_X11_arrives w 0 (xs (x4 + 1).toNatClampNeg) (xs (x4 + 2).toNatClampNeg) M) fun q82 M81 => chk (x4 + 1) L (chk (x4 + 2) L (bI (f_X12_arrives w 163 (xs (x4 + 1).toNatClampNeg) (xs (x4 + 2).toNatClampNeg) M81) fun q84 M83 => (if q82 = q84 then (f_L_law_23 w xs L n (x4 + 7) M83) else lwR 0))))) else if z = 21 then chk (x4 + 1) L (chk (x4 + 2) L (bI (f_X11_from w 0 (xs (x4 + 1).toNatClampNeg) (xs (x4 + 2).toNatClampNeg) M) fun q86 M85 => chk (x4 + 1) L (chk (x4 + 2) L (bI (f_X12_from w 163 (xs (x4 + 1).toNatClampNeg) (xs (x4 + 2).toNatClampNeg) M85) fun q88 M87 => (if q86 = q88 then (f_L_law_23 w xs L n (x4 + 7) M87) else lwR 0))))) else if z = 22 then chk (x4 + 1) L (chk (x4 + 2) L (bI (f_X11_both w 0 (xs (x4 + 1).toNatClampNeg) (xs (x4 + 2).toNatClampNeg) M) fun q90 M89 => chk (x4 + 1) L (chk (x4 + 2) L (bI (f_X12_both_ w 163 (xs (x4 + 1).toNatClampNeg) (xs (x4 + 2).toNatClampNeg) M89) fun q92 M91 => (if q90 = q92 then (f_L_law_23 w xs L n (x4 + 7) M91) else lwR 0))))) else if z = 23 then chk (x4 + 1) L (chk (x4 + 2) L (bI (f_X11_cut w 0 (xs (x4 + 1).toNatClampNeg) (xs (x4 + 2).toNatClampNeg) M) fun q94 M93 => chk (x4 + 1) L (chk (x4 + 2) L (bI (f_X12_cut w 163 (xs (x4 + 1).toNatClampNeg) (xs (x4 + 2).toNatClampNeg) M93) fun q96 M95 => (if q94 = q96 then (f_L_law_23 w xs L n (x4 + 7) M95) else lwR 0))))) else if z = 24 then chk (x4 + 1) L (chk (x4 + 2) L (bI (f_X11_planed w 0 (xs (x4 + 1).toNatClampNeg) (xs (x4 + 2).toNatClampNeg) M) fun q98 M97 => chk (x4 + 1) L (chk (x4 + 2) L (bI (f_X12_planed w 163 (xs (x4 + 1).toNatClampNeg) (xs (x4 + 2).toNatClampNeg) M97) fun q100 M99 => (if q98 = q100 then (f_L_law_23 w xs L n (x4 + 7) M99) else lwR 0))))) else if z = 25 then chk (x4 + 1) L (chk (x4 + 2) L (chk (x4 + 3) L ((if (xs (x4 + 3).toNatClampNeg) = 0 then bI (f_X11_feel w 0 (xs (x4 + 1).toNatClampNeg) (xs (x4 + 2).toNatClampNeg) 0 M) fun q102 M101 => chk (x4 + 1) L (chk (x4 + 2) L (chk (x4 + 3) L ((if (xs (x4 + 3).toNatClampNeg) = 0 then bI (f_X12_feel w 163 (xs (x4 + 1).toNatClampNeg) (xs (x4 + 2).toNatClampNeg) 0 M101) fun q104 M103 => (if q102 = q104 then (f_L_law_23 w xs L n (x4 + 7) M103) else lwR 0) else bI (f_X12_feel w 163 (xs (x4 + 1).toNatClampNeg) (xs (x4 + 2).toNatClampNeg) 1 M101) fun q106 M105 => (if q102 = q106 then (f_L_law_23 w xs L n (x4 + 7) M105) else lwR 0))))) else bI (f_X11_feel w 0 (xs (x4 + 1).toNatClampNeg) (xs (x4 + 2).toNatClampNeg) 1 M) fun q108 M107 => chk (x4 + 1) L (chk (x4 + 2) L (chk (x4 + 3) L ((if (xs (x4 + 3).toNatClampNeg) = 0 then bI (f_X12_feel w 163 (xs (x4 + 1).toNatClampNeg) (xs (x4 + 2).toNatClampNeg) 0 M107) fun q110 M109 => (if q108 = q110 then (f_L_law_23 w xs L n (x4 + 7) M109) else lwR 0) else bI (f_X12_feel w 163 (xs (x4 + 1).toNatClampNeg) (xs (x4 + 2).toNatClampNeg) 1 M107) fun q112 M111 => (if q108 = q112 then (f_L_law_23 w xs L n (x4 + 7) M111) else lwR 0))))))))) else if z = 26 then bI (f_X11_wets w 0 M) fun q114 M113 => bI (f_X12_wets w 163 M113) fun q116 M115 => (if q114 = q116 then (f_L_law_23 w xs L n (x4 + 7) M115) else lwR 0) else if z = 27 then bI (f_X11_tries w 0 M) fun q118 M117 => bI (f_X12_tries w 163 M117) fun q120 M119 => (if q118 = q120 then (f_L_law_23 w xs L n (x4 + 7) M119) else lwR 0) else if z = 28 then chk (x4 + 1) L (chk (x4 + 2) L (bI (f_X11_say w 0 (xs (x4 + 1).toNatClampNeg) (xs (x4 + 2).toNatClampNeg) M) fun q122 M121 => chk (x4 + 1) L (chk (x4 + 2) L (bI (f_X12_say w 163 (xs (x4 + 1).toNatClampNeg) (xs (x4 + 2).toNatClampNeg) M121) fun q124 M123 => (if q122 = q124 then (f_L_law_23 w xs L n (x4 + 7) M123) else lwR 0))))) else if z = 29 then bI (f_X11_who w 0 M) fun q126 M125 => bI (f_X12_who w 163 M125) fun q128 M127 => (if q126 = q128 then (f_L_law_23 w xs L n (x4 + 7) M127) else lwR 0) else if z = 30 then bI (f_X11_rattles w 0 M) fun q130 M129 => bI (f_X12_rattles w 163 M129) fun q132 M131 => (if q130 = q132 then (f_L_law_23 w xs L n (x4 + 7) M131) else lwR 0) else if z = 31 then bI (f_X11_parts w 0 M) fun q134 M133 => bI (f_X12_parts w 163 M133) fun q136 M135 => (if q134 = q136 then (f_L_law_23 w xs L n (x4 + 7) M135) else lwR 0) else if z = 32 then bI (f_X11_bride w 0 M) fun q138 M137 => bI (f_X12_bride w 163 M137) fun q140 M139 => (if q138 = q140 then (f_L_law_23 w xs L n (x4 + 7) M139) else lwR 0) else if z = 33 then bI (f_X11_worst w 0 M) fun q142 M141 => bI (f_X12_worst w 163 M141) fun q144 M143 => (if q142 = q144 then (f_L_law_23 w xs L n (x4 + 7) M143) else lwR 0) else if z = 34 then bI (f_X11_spared w 0 M) fun q146 M145 => bI (f_X12_spared w 163 M145) fun q148 M147 => (if q146 = q148 then (f_L_law_23 w xs L n (x4 + 7) M147) else lwR 0) else if z = 35 then bI (f_X11_opened w 0 M) fun q150 M149 => bI (f_X12_opened w 163 M149) fun q152 M151 => (if q150 = q152 then (f_L_law_23 w xs L n (x4 + 7) M151) else lwR 0) else if z = 36 then chk (x4 + 1) L (bI (f_X11_deep w 0 (xs (x4 + 1).toNatClampNeg) M) fun q154 M153 => chk (x4 + 1) L (bI (f_X12_deep w 163 (xs (x4 + 1).toNatClampNeg) M153) fun q156 M155 => (if q154 = q156 then (f_L_law_23 w xs L n (x4 + 7) M155) else lwR 0))) else if z = 37 then bI (f_X11_alone w 0 M) fun q158 M157 => bI (f_X12_alone w 163 M157) fun q160 M159 => (if q158 = q160 then (f_L_law_23 w xs L n (x4 + 7) M159) else lwR 0) else if z = 38 then chk (x4 + 1) L (chk (x4 + 2) L (chk (x4 + 3) L (bI (f_X11_chance w 0 (xs (x4 + 1).toNatClampNeg) (xs (x4 + 2).toNatClampNeg) (xs (x4 + 3).toNatClampNeg) M) fun q162 M161 => chk (x4 + 1) L (chk (x4 + 2) L (chk (x4 + 3) L (bI (f_X12_chance w 163 (xs (x4 + 1).toNatClampNeg) (xs (x4 + 2).toNatClampNeg) (xs (x4 + 3).toNatClampNeg) M161) fun q164 M163 => (if q162 = q164 then (f_L_law_23 w xs L n (x4 + 7) M163) else lwR 0))))))) else if z = 39 then chk (x4 + 1) L (chk (x4 + 2) L (chk (x4 + 3) L (chk (x4 + 4) L (bI (f_L_rests w (xs (x4 + 1).toNatClampNeg) (xs (x4 + 2).toNatClampNeg) (xs (x4 + 3).toNatClampNeg) (xs (x4 + 4).toNatClampNeg) M) fun q166 M165 => chk (x4 + 1) L (chk (x4 + 2) L (chk (x4 + 3) L (chk (x4 + 4) L (bI (f_X12_rests w 163 (xs (x4 + 1).toNatClampNeg) (xs (x4 + 2).toNatClampNeg) (xs (x4 + 3).toNatClampNeg) (xs (x4 + 4).toNatClampNeg) M165) fun q168 M167 => bI (f_X12_thrown w 163 M167) fun q170 M169 => (if q170 = q166 then (if q166 = 0 then (if (lg_cmp (M169.2 185 0) (q168.toInt64)) = 0 then (f_L_law_23 w xs L n (x4 + 7) M169) else lwR 0) else (f_L_law_23 w xs L n (x4 + 7) M169)) else lwR 0))))))))) else if z = 40 then chk (x4 + 1) L (chk (x4 + 2) L (chk (x4 + 3) L (bI (f_X11_years w 0 (xs (x4 + 1).toNatClampNeg) (xs (x4 + 2).toNatClampNeg) (xs (x4 + 3).toNatClampNeg) M) fun q172 M171 => chk (x4 + 1) L (chk (x4 + 2) L (chk (x4 + 3) L (bI (f_X12_years w 163 (xs (x4 + 1).toNatClampNeg) (xs (x4 + 2).toNatClampNeg) (xs (x4 + 3).toNatClampNeg) M171) fun q174 M173 => (if q172 = q174 then (f_L_law_23 w xs L n (x4 + 7) M173) else lwR 0))))))) else if z = 41 then chk (x4 + 1) L (chk (x4 + 2) L ((if (xs (x4 + 2).toNatClampNeg) = 0 then bI (f_X11_mark w 0 (xs (x4 + 1).toNatClampNeg) 0 M) fun q176 M175 => chk (x4 + 1) L (chk (x4 + 2) L ((if (xs (x4 + 2).toNatClampNeg) = 0 then bI (f_X12_mark w 163 (xs (x4 + 1).toNatClampNeg) 0 M175) fun q178 M177 => (if q176 = q178 then (f_L_law_23 w xs L n (x4 + 7) M177) else lwR 0) else bI (f_X12_mark w 163 (xs (x4 + 1).toNatClampNeg) 1 M175) fun q180 M179 => (if q176 = q180 then (f_L_law_23 w xs L n (x4 + 7) M179) else lwR 0)))) else bI (f_X11_mark w 0 (xs (x4 + 1).toNatClampNeg) 1 M) fun q182 M181 => chk (x4 + 1) L (chk (x4 + 2) L ((if (xs (x4 + 2).toNatClampNeg) = 0 then bI (f_X12_mark w 163 (xs (x4 + 1).toNatClampNeg) 0 M181) fun q184 M183 => (if q182 = q184 then (f_L_law_23 w xs L n (x4 + 7) M183) else lwR 0) else bI (f_X12_mark w 163 (xs (x4 + 1).toNatClampNeg) 1 M181) fun q186 M185 => (if q182 = q186 then (f_L_law_23 w xs L n (x4 + 7) M185) else lwR 0))))))) else chk (x4 + 1) L (bI (f_X11_count w 0 (xs (x4 + 1).toNatClampNeg) M) fun q188 M187 => chk (x4 + 1) L (bI (f_X12_count w 163 (xs (x4 + 1).toNatClampNeg) M187) fun q190 M189 => (if q188 = q190 then (f_L_law_23 w xs L n (x4 + 7) M189) else lwR 0)))) ((xs x4.toNatClampNeg) &&& 63).toInt)))
set_option maxHeartbeats 40000000 in
set_option maxRecDepth 1000000 in
theorem s_L_law_23_open {l : Launch} {G : mG} {b L : Nat} {xs : Nat → Int32} (w : Nat) (hR : lawRests w l G b L xs) : ∀ (n kc ks : Nat), kc + n ≤ 600000 → ks + 16 * n ≤ 7000000 → ∀ (x4 : Int32) (M : mM), Go muL_law room_1 kc ks l G skL (finL G b L xs) (f_L_law_23 w xs L n x4 M) 23 [(0, .ref b), (1, .ref (gB G + 0)), (2, .ref (gB G + 163)), (3, .ref (gB G + 185)), (4, .int x4)] [] M := by
  intro n
  induction n with
  | zero =>
    intros
    exact go_none
  | succ n ih =>
    intro kc ks hkc hks x4 M
    have hK1 : kc ≤ room_1.cells ∧ ks ≤ room_1.slots := ⟨by show kc ≤ 600128; omega, by show ks ≤ 7301098; omega⟩
    have hK2 : kc + 1 ≤ room_1.cells ∧ ks + 16 ≤ room_1.slots := ⟨by show kc + 1 ≤ 600128; omega, by show ks + 16 ≤ 7301098; omega⟩
    rw [f_L_law_23]
    refine go_iload 4 25 dL_law_23 rfl rfl ?_
    refine go_aload_n 0 26 dL_law_25 rfl rfl ?_
    refine go_slen 27 dL_law_26 rfl ?_
    refine go_bipush 7 29 dL_law_27 rfl (by decide) ?_
    refine go_isub 30 dL_law_29 rfl ?_
    refine go_icmp_gt 1518 33 dL_law_30 rfl (by decide) (fun _ => ?_) (fun _ => ?_)
    · refine go_iconst 1 1519 dL_law_1518 rfl (by decide) ?_
      exact go_lawret dL_law_1519 hK1
    · refine go_aload_n 0 34 dL_law_33 rfl rfl ?_
      refine go_iload 4 36 dL_law_34 rfl rfl ?_
      refine go_sld 37 dL_law_36 rfl ?_
      refine go_bipush 63 39 dL_law_37 rfl (by decide) ?_
      refine go_iand 40 dL_law_39 rfl ?_
      refine go_tsw (dflt := 1472) (lo := 0) (hi := 42) (offs := #[188, 335, 348, 361, 398, 423, 436, 473, 498, 523, 548, 561, 586, 599, 624, 649, 686, 711, 736, 749, 762, 799, 836, 873, 910, 947, 1012, 1025, 1038, 1075, 1088, 1101, 1114, 1127, 1140, 1153, 1166, 1191, 1204, 1253, 1345, 1394, 1447]) (len := 188) ?_ (fun z : Int => if z = 0 then chk (x4 + 1) L (chk (x4 + 2) L (chk (x4 + 3) L (chk (x4 + 4) L (chk (x4 + 5) L (chk (x4 + 6) L (bI (f_X11_feed w 0 ((((xs (x4 + 1).toNatClampNeg).toInt64) <<< ((32 : Int32).toInt64 &&& 63)) ||| (((xs (x4 + 2).toNatClampNeg).toInt64) &&& 4294967295)) ((((xs (x4 + 3).toNatClampNeg).toInt64) <<< ((32 : Int32).toInt64 &&& 63)) ||| (((xs (x4 + 4).toNatClampNeg).toInt64) &&& 4294967295)) ((((xs (x4 + 5).toNatClampNeg).toInt64) <<< ((32 : Int32).toInt64 &&& 63)) ||| (((xs (x4 + 6).toNatClampNeg).toInt64) &&& 4294967295)) M) fun q2 M1 => chk (x4 + 1) L (chk (x4 + 2) L (chk (x4 + 3) L (chk (x4 + 4) L (chk (x4 + 5) L (chk (x4 + 6) L (bI (f_X12_feed w 163 ((((xs (x4 + 1).toNatClampNeg).toInt64) <<< ((32 : Int32).toInt64 &&& 63)) ||| (((xs (x4 + 2).toNatClampNeg).toInt64) &&& 4294967295)) ((((xs (x4 + 3).toNatClampNeg).toInt64) <<< ((32 : Int32).toInt64 &&& 63)) ||| (((xs (x4 + 4).toNatClampNeg).toInt64) &&& 4294967295)) ((((xs (x4 + 5).toNatClampNeg).toInt64) <<< ((32 : Int32).toInt64 &&& 63)) ||| (((xs (x4 + 6).toNatClampNeg).toInt64) &&& 4294967295)) M1) fun q4 M3 => (if q2 = q4 then (f_L_law_23 w xs L n (x4 + 7) M3) else lwR 0))))))))))))) else if z = 1 then bI (f_X11_house w 0 M) fun q6 M5 => bI (f_X12_house w 163 M5) fun q8 M7 => (if q6 = q8 then (f_L_law_23 w xs L n (x4 + 7) M7) else lwR 0) else if z = 2 then bI (f_X11_days w 0 M) fun q10 M9 => bI (f_X12_days w 163 M9) fun q12 M11 => (if q10 = q12 then (f_L_law_23 w xs L n (x4 + 7) M11) else lwR 0) else if z = 3 then chk (x4 + 1) L (chk (x4 + 2) L (bI (f_X11_door w 0 (xs (x4 + 1).toNatClampNeg) (xs (x4 + 2).toNatClampNeg) M) fun q14 M13 => chk (x4 + 1) L (chk (x4 + 2) L (bI (f_X12_door w 163 (xs (x4 + 1).toNatClampNeg) (xs (x4 + 2).toNatClampNeg) M13) fun q16 M15 => (if q14 = q16 then (f_L_law_23 w xs L n (x4 + 7) M15) else lwR 0))))) else if z = 4 then chk (x4 + 1) L (bI (f_X11_person w 0 (xs (x4 + 1).toNatClampNeg) M) fun q18 M17 => chk (x4 + 1) L (bI (f_X12_person w 163 (xs (x4 + 1).toNatClampNeg) M17) fun q20 M19 => (if q18 = q20 then (f_L_law_23 w xs L n (x4 + 7) M19) else lwR 0))) else if z = 5 then bI (f_X11_day w 0 M) fun q22 M21 => bI (f_X12_day w 163 M21) fun q24 M23 => (if q22 = q24 then (f_L_law_23 w xs L n (x4 + 7) M23) else lwR 0) else if z = 6 then chk (x4 + 1) L (chk (x4 + 2) L (bI (f_X11_walk w 0 (xs (x4 + 1).toNatClampNeg) (xs (x4 + 2).toNatClampNeg) M) fun q26 M25 => chk (x4 + 1) L (chk (x4 + 2) L (bI (f_X12_walk w 163 (xs (x4 + 1).toNatClampNeg) (xs (x4 + 2).toNatClampNeg) M25) fun q28 M27 => (if q26 = q28 then (f_L_law_23 w xs L n (x4 + 7) M27) else lwR 0))))) else if z = 7 then chk (x4 + 1) L (bI (f_X11_plane w 0 (xs (x4 + 1).toNatClampNeg) M) fun q30 M29 => chk (x4 + 1) L (bI (f_X12_plane w 163 (xs (x4 + 1).toNatClampNeg) M29) fun q32 M31 => (if q30 = q32 then (f_L_law_23 w xs L n (x4 + 7) M31) else lwR 0))) else if z = 8 then chk (x4 + 1) L (bI (f_X11_wedge w 0 (xs (x4 + 1).toNatClampNeg) M) fun q34 M33 => chk (x4 + 1) L (bI (f_X12_wedge w 163 (xs (x4 + 1).toNatClampNeg) M33) fun q36 M35 => (if q34 = q36 then (f_L_law_23 w xs L n (x4 + 7) M35) else lwR 0))) else if z = 9 then chk (x4 + 1) L (bI (f_X11_force w 0 (xs (x4 + 1).toNatClampNeg) M) fun q38 M37 => chk (x4 + 1) L (bI (f_X12_force w 163 (xs (x4 + 1).toNatClampNeg) M37) fun q40 M39 => (if q38 = q40 then (f_L_law_23 w xs L n (x4 + 7) M39) else lwR 0))) else if z = 10 then bI (f_X11_undo w 0 M) fun q42 M41 => bI (f_X12_undo w 163 M41) fun q44 M43 => (if q42 = q44 then (f_L_law_23 w xs L n (x4 + 7) M43) else lwR 0) else if z = 11 then chk (x4 + 1) L (bI (f_X11_judged w 0 (xs (x4 + 1).toNatClampNeg) M) fun q46 M45 => chk (x4 + 1) L (bI (f_X12_judged w 163 (xs (x4 + 1).toNatClampNeg) M45) fun q48 M47 => (if q46 = q48 then (f_L_law_23 w xs L n (x4 + 7) M47) else lwR 0))) else if z = 12 then bI (f_X11_shut w 0 M) fun q50 M49 => bI (f_X12_shut w 163 M49) fun q52 M51 => (if q50 = q52 then (f_L_law_23 w xs L n (x4 + 7) M51) else lwR 0) else if z = 13 then chk (x4 + 1) L (bI (f_X11_range w 0 (xs (x4 + 1).toNatClampNeg) M) fun q54 M53 => chk (x4 + 1) L (bI (f_X12_range w 163 (xs (x4 + 1).toNatClampNeg) M53) fun q56 M55 => (if q54 = q56 then (f_L_law_23 w xs L n (x4 + 7) M55) else lwR 0))) else if z = 14 then chk (x4 + 1) L (bI (f_X11_company w 0 (xs (x4 + 1).toNatClampNeg) M) fun q58 M57 => chk (x4 + 1) L (bI (f_X12_company w 163 (xs (x4 + 1).toNatClampNeg) M57) fun q60 M59 => (if q58 = q60 then (f_L_law_23 w xs L n (x4 + 7) M59) else lwR 0))) else if z = 15 then chk (x4 + 1) L (chk (x4 + 2) L (bI (f_X11_later w 0 (xs (x4 + 1).toNatClampNeg) (xs (x4 + 2).toNatClampNeg) M) fun q62 M61 => chk (x4 + 1) L (chk (x4 + 2) L (bI (f_X12_later w 163 (xs (x4 + 1).toNatClampNeg) (xs (x4 + 2).toNatClampNeg) M61) fun q64 M63 => (if q62 = q64 then (f_L_law_23 w xs L n (x4 + 7) M63) else lwR 0))))) else if z = 16 then chk (x4 + 1) L (bI (f_X11_closes w 0 (xs (x4 + 1).toNatClampNeg) M) fun q66 M65 => chk (x4 + 1) L (bI (f_X12_closes w 163 (xs (x4 + 1).toNatClampNeg) M65) fun q68 M67 => (if q66 = q68 then (f_L_law_23 w xs L n (x4 + 7) M67) else lwR 0))) else if z = 17 then chk (x4 + 1) L (bI (f_X11_gives w 0 (xs (x4 + 1).toNatClampNeg) M) fun q70 M69 => chk (x4 + 1) L (bI (f_X12_gives w 163 (xs (x4 + 1).toNatClampNeg) M69) fun q72 M71 => (if q70 = q72 then (f_L_law_23 w xs L n (x4 + 7) M71) else lwR 0))) else if z = 18 then bI (f_X11_calm w 0 M) fun q74 M73 => bI (f_X12_calm w 163 M73) fun q76 M75 => (if q74 = q76 then (f_L_law_23 w xs L n (x4 + 7) M75) else lwR 0) else if z = 19 then bI (f_X11_hard w 0 M) fun q78 M77 => bI (f_X12_hard w 163 M77) fun q80 M79 => (if q78 = q80 then (f_L_law_23 w xs L n (x4 + 7) M79) else lwR 0) else if z = 20 then chk (x4 + 1) L (chk (x4 + 2) L (bI (f_X11_arrives w 0 (xs (x4 + 1).toNatClampNeg) (xs (x4 + 2).toNatClampNeg) M) fun q82 M81 => chk (x4 + 1) L (chk (x4 + 2) L (bI (f_X12_arrives w 163 (xs (x4 + 1).toNatClampNeg) (xs (x4 + 2).toNatClampNeg) M81) fun q84 M83 => (if q82 = q84 then (f_L_law_23 w xs L n (x4 + 7) M83) else lwR 0))))) else if z = 21 then chk (x4 + 1) L (chk (x4 + 2) L (bI (f_X11_from w 0 (xs (x4 + 1).toNatClampNeg) (xs (x4 + 2).toNatClampNeg) M) fun q86 M85 => chk (x4 + 1) L (chk (x4 + 2) L (bI (f_X12_from w 163 (xs (x4 + 1).toNatClampNeg) (xs (x4 + 2).toNatClampNeg) M85) fun q88 M87 => (if q86 = q88 then (f_L_law_23 w xs L n (x4 + 7) M87) else lwR 0))))) else if z = 22 then chk (x4 + 1) L (chk (x4 + 2) L (bI (f_X11_both w 0 (xs (x4 + 1).toNatClampNeg) (xs (x4 + 2).toNatClampNeg) M) fun q90 M89 => chk (x4 + 1) L (chk (x4 + 2) L (bI (f_X12_both_ w 163 (xs (x4 + 1).toNatClampNeg) (xs (x4 + 2).toNatClampNeg) M89) fun q92 M91 => (if q90 = q92 then (f_L_law_23 w xs L n (x4 + 7) M91) else lwR 0))))) else if z = 23 then chk (x4 + 1) L (chk (x4 + 2) L (bI (f_X11_cut w 0 (xs (x4 + 1).toNatClampNeg) (xs (x4 + 2).toNatClampNeg) M) fun q94 M93 => chk (x4 + 1) L (chk (x4 + 2) L (bI (f_X12_cut w 163 (xs (x4 + 1).toNatClampNeg) (xs (x4 + 2).toNatClampNeg) M93) fun q96 M95 => (if q94 = q96 then (f_L_law_23 w xs L n (x4 + 7) M95) else lwR 0))))) else if z = 24 then chk (x4 + 1) L (chk (x4 + 2) L (bI (f_X11_planed w 0 (xs (x4 + 1).toNatClampNeg) (xs (x4 + 2).toNatClampNeg) M) fun q98 M97 => chk (x4 + 1) L (chk (x4 + 2) L (bI (f_X12_planed w 163 (xs (x4 + 1).toNatClampNeg) (xs (x4 + 2).toNatClampNeg) M97) fun q100 M99 => (if q98 = q100 then (f_L_law_23 w xs L n (x4 + 7) M99) else lwR 0))))) else if z = 25 then chk (x4 + 1) L (chk (x4 + 2) L (chk (x4 + 3) L ((if (xs (x4 + 3).toNatClampNeg) = 0 then bI (f_X11_feel w 0 (xs (x4 + 1).toNatClampNeg) (xs (x4 + 2).toNatClampNeg) 0 M) fun q102 M101 => chk (x4 + 1) L (chk (x4 + 2) L (chk (x4 + 3) L ((if (xs (x4 + 3).toNatClampNeg) = 0 then bI (f_X12_feel w 163 (xs (x4 + 1).toNatClampNeg) (xs (x4 + 2).toNatClampNeg) 0 M101) fun q104 M103 => (if q102 = q104 then (f_L_law_23 w xs L n (x4 + 7) M103) else lwR 0) else bI (f_X12_feel w 163 (xs (x4 + 1).toNatClampNeg) (xs (x4 + 2).toNatClampNeg) 1 M101) fun q106 M105 => (if q102 = q106 then (f_L_law_23 w xs L n (x4 + 7) M105) else lwR 0))))) else bI (f_X11_feel w 0 (xs (x4 + 1).toNatClampNeg) (xs (x4 + 2).toNatClampNeg) 1 M) fun q108 M107 => chk (x4 + 1) L (chk (x4 + 2) L (chk (x4 + 3) L ((if (xs (x4 + 3).toNatClampNeg) = 0 then bI (f_X12_feel w 163 (xs (x4 + 1).toNatClampNeg) (xs (x4 + 2).toNatClampNeg) 0 M107) fun q110 M109 => (if q108 = q110 then (f_L_law_23 w xs L n (x4 + 7) M109) else lwR 0) else bI (f_X12_feel w 163 (xs (x4 + 1).toNatClampNeg) (xs (x4 + 2).toNatClampNeg) 1 M107) fun q112 M111 => (if q108 = q112 then (f_L_law_23 w xs L n (x4 + 7) M111) else lwR 0))))))))) else if z = 26 then bI (f_X11_wets w 0 M) fun q114 M113 => bI (f_X12_wets w 163 M113) fun q116 M115 => (if q114 = q116 then (f_L_law_23 w xs L n (x4 + 7) M115) else lwR 0) else if z = 27 then bI (f_X11_tries w 0 M) fun q118 M117 => bI (f_X12_tries w 163 M117) fun q120 M119 => (if q118 = q120 then (f_L_law_23 w xs L n (x4 + 7) M119) else lwR 0) else if z = 28 then chk (x4 + 1) L (chk (x4 + 2) L (bI (f_X11_say w 0 (xs (x4 + 1).toNatClampNeg) (xs (x4 + 2).toNatClampNeg) M) fun q122 M121 => chk (x4 + 1) L (chk (x4 + 2) L (bI (f_X12_say w 163 (xs (x4 + 1).toNatClampNeg) (xs (x4 + 2).toNatClampNeg) M121) fun q124 M123 => (if q122 = q124 then (f_L_law_23 w xs L n (x4 + 7) M123) else lwR 0))))) else if z = 29 then bI (f_X11_who w 0 M) fun q126 M125 => bI (f_X12_who w 163 M125) fun q128 M127 => (if q126 = q128 then (f_L_law_23 w xs L n (x4 + 7) M127) else lwR 0) else if z = 30 then bI (f_X11_rattles w 0 M) fun q130 M129 => bI (f_X12_rattles w 163 M129) fun q132 M131 => (if q130 = q132 then (f_L_law_23 w xs L n (x4 + 7) M131) else lwR 0) else if z = 31 then bI (f_X11_parts w 0 M) fun q134 M133 => bI (f_X12_parts w 163 M133) fun q136 M135 => (if q134 = q136 then (f_L_law_23 w xs L n (x4 + 7) M135) else lwR 0) else if z = 32 then bI (f_X11_bride w 0 M) fun q138 M137 => bI (f_X12_bride w 163 M137) fun q140 M139 => (if q138 = q140 then (f_L_law_23 w xs L n (x4 + 7) M139) else lwR 0) else if z = 33 then bI (f_X11_worst w 0 M) fun q142 M141 => bI (f_X12_worst w 163 M141) fun q144 M143 => (if q142 = q144 then (f_L_law_23 w xs L n (x4 + 7) M143) else lwR 0) else if z = 34 then bI (f_X11_spared w 0 M) fun q146 M145 => bI (f_X12_spared w 163 M145) fun q148 M147 => (if q146 = q148 then (f_L_law_23 w xs L n (x4 + 7) M147) else lwR 0) else if z = 35 then bI (f_X11_opened w 0 M) fun q150 M149 => bI (f_X12_opened w 163 M149) fun q152 M151 => (if q150 = q152 then (f_L_law_23 w xs L n (x4 + 7) M151) else lwR 0) else if z = 36 then chk (x4 + 1) L (bI (f_X11_deep w 0 (xs (x4 + 1).toNatClampNeg) M) fun q154 M153 => chk (x4 + 1) L (bI (f_X12_deep w 163 (xs (x4 + 1).toNatClampNeg) M153) fun q156 M155 => (if q154 = q156 then (f_L_law_23 w xs L n (x4 + 7) M155) else lwR 0))) else if z = 37 then bI (f_X11_alone w 0 M) fun q158 M157 => bI (f_X12_alone w 163 M157) fun q160 M159 => (if q158 = q160 then (f_L_law_23 w xs L n (x4 + 7) M159) else lwR 0) else if z = 38 then chk (x4 + 1) L (chk (x4 + 2) L (chk (x4 + 3) L (bI (f_X11_chance w 0 (xs (x4 + 1).toNatClampNeg) (xs (x4 + 2).toNatClampNeg) (xs (x4 + 3).toNatClampNeg) M) fun q162 M161 => chk (x4 + 1) L (chk (x4 + 2) L (chk (x4 + 3) L (bI (f_X12_chance w 163 (xs (x4 + 1).toNatClampNeg) (xs (x4 + 2).toNatClampNeg) (xs (x4 + 3).toNatClampNeg) M161) fun q164 M163 => (if q162 = q164 then (f_L_law_23 w xs L n (x4 + 7) M163) else lwR 0))))))) else if z = 39 then chk (x4 + 1) L (chk (x4 + 2) L (chk (x4 + 3) L (chk (x4 + 4) L (bI (f_L_rests w (xs (x4 + 1).toNatClampNeg) (xs (x4 + 2).toNatClampNeg) (xs (x4 + 3).toNatClampNeg) (xs (x4 + 4).toNatClampNeg) M) fun q166 M165 => chk (x4 + 1) L (chk (x4 + 2) L (chk (x4 + 3) L (chk (x4 + 4) L (bI (f_X12_rests w 163 (xs (x4 + 1).toNatClampNeg) (xs (x4 + 2).toNatClampNeg) (xs (x4 + 3).toNatClampNeg) (xs (x4 + 4).toNatClampNeg) M165) fun q168 M167 => bI (f_X12_thrown w 163 M167) fun q170 M169 => (if q170 = q166 then (if q166 = 0 then (if (lg_cmp (M169.2 185 0) (q168.toInt64)) = 0 then (f_L_law_23 w xs L n (x4 + 7) M169) else lwR 0) else (f_L_law_23 w xs L n (x4 + 7) M169)) else lwR 0))))))))) else if z = 40 then chk (x4 + 1) L (chk (x4 + 2) L (chk (x4 + 3) L (bI (f_X11_years w 0 (xs (x4 + 1).toNatClampNeg) (xs (x4 + 2).toNatClampNeg) (xs (x4 + 3).toNatClampNeg) M) fun q172 M171 => chk (x4 + 1) L (chk (x4 + 2) L (chk (x4 + 3) L (bI (f_X12_years w 163 (xs (x4 + 1).toNatClampNeg) (xs (x4 + 2).toNatClampNeg) (xs (x4 + 3).toNatClampNeg) M171) fun q174 M173 => (if q172 = q174 then (f_L_law_23 w xs L n (x4 + 7) M173) else lwR 0))))))) else if z = 41 then chk (x4 + 1) L (chk (x4 + 2) L ((if (xs (x4 + 2).toNatClampNeg) = 0 then bI (f_X11_mark w 0 (xs (x4 + 1).toNatClampNeg) 0 M) fun q176 M175 => chk (x4 + 1) L (chk (x4 + 2) L ((if (xs (x4 + 2).toNatClampNeg) = 0 then bI (f_X12_mark w 163 (xs (x4 + 1).toNatClampNeg) 0 M175) fun q178 M177 => (if q176 = q178 then (f_L_law_23 w xs L n (x4 + 7) M177) else lwR 0) else bI (f_X12_mark w 163 (xs (x4 + 1).toNatClampNeg) 1 M175) fun q180 M179 => (if q176 = q180 then (f_L_law_23 w xs L n (x4 + 7) M179) else lwR 0)))) else bI (f_X11_mark w 0 (xs (x4 + 1).toNatClampNeg) 1 M) fun q182 M181 => chk (x4 + 1) L (chk (x4 + 2) L ((if (xs (x4 + 2).toNatClampNeg) = 0 then bI (f_X12_mark w 163 (xs (x4 + 1).toNatClampNeg) 0 M181) fun q184 M183 => (if q182 = q184 then (f_L_law_23 w xs L n (x4 + 7) M183) else lwR 0) else bI (f_X12_mark w 163 (xs (x4 + 1).toNatClampNeg) 1 M181) fun q186 M185 => (if q182 = q186 then (f_L_law_23 w xs L n (x4 + 7) M185) else lwR 0))))))) else chk (x4 + 1) L (bI (f_X11_count w 0 (xs (x4 + 1).toNatClampNeg) M) fun q188 M187 => chk (x4 + 1) L (bI (f_X12_count w 163 (xs (x4 + 1).toNatClampNeg) M187) fun q190 M189 => (if q188 = q190 then (f_L_law_23 w xs L n (x4 + 7) M189) else lwR 0)))) ((f_L_law_23 w xs L n (x4 + 7) M)) 1512 (by decide) (fun _ => ?_) (fun g1 g2 => ?_)
      · exact dL_law_40
      · refine go_iinc (x4 + 7) 4 [(4, .int (x4 + 7)), (0, .ref b), (1, .ref (gB G + 0)), (2, .ref (gB G + 163)), (3, .ref (gB G + 185))] 1515 dL_law_1512 rfl rfl rfl (by decide) rfl ?_
        refine go_goto 23 dL_law_1515 (by decide) ?_
        exact go_lv [1, 2, 3, 4, 0] rfl (ih kc ks (by omega) (by omega) (x4 + 7) M)
      · rcases (show ((xs x4.toNatClampNeg) &&& 63).toInt = 0 ∨ ((xs x4.toNatClampNeg) &&& 63).toInt = 1 ∨ ((xs x4.toNatClampNeg) &&& 63).toInt = 2 ∨ ((xs x4.toNatClampNeg) &&& 63).toInt = 3 ∨ ((xs x4.toNatClampNeg) &&& 63).toInt = 4 ∨ ((xs x4.toNatClampNeg) &&& 63).toInt = 5 ∨ ((xs x4.toNatClampNeg) &&& 63).toInt = 6 ∨ ((xs x4.toNatClampNeg) &&& 63).toInt = 7 ∨ ((xs x4.toNatClampNeg) &&& 63).toInt = 8 ∨ ((xs x4.toNatClampNeg) &&& 63).toInt = 9 ∨ ((xs x4.toNatClampNeg) &&& 63).toInt = 10 ∨ ((xs x4.toNatClampNeg) &&& 63).toInt = 11 ∨ ((xs x4.toNatClampNeg) &&& 63).toInt = 12 ∨ ((xs x4.toNatClampNeg) &&& 63).toInt = 13 ∨ ((xs x4.toNatClampNeg) &&& 63).toInt = 14 ∨ ((xs x4.toNatClampNeg) &&& 63).toInt = 15 ∨ ((xs x4.toNatClampNeg) &&& 63).toInt = 16 ∨ ((xs x4.toNatClampNeg) &&& 63).toInt = 17 ∨ ((xs x4.toNatClampNeg) &&& 63).toInt = 18 ∨ ((xs x4.toNatClampNeg) &&& 63).toInt = 19 ∨ ((xs x4.toNatClampNeg) &&& 63).toInt = 20 ∨ ((xs x4.toNatClampNeg) &&& 63).toInt = 21 ∨ ((xs x4.toNatClampNeg) &&& 63).toInt = 22 ∨ ((xs x4.toNatClampNeg) &&& 63).toInt = 23 ∨ ((xs x4.toNatClampNeg) &&& 63).toInt = 24 ∨ ((xs x4.toNatClampNeg) &&& 63).toInt = 25 ∨ ((xs x4.toNatClampNeg) &&& 63).toInt = 26 ∨ ((xs x4.toNatClampNeg) &&& 63).toInt = 27 ∨ ((xs x4.toNatClampNeg) &&& 63).toInt = 28 ∨ ((xs x4.toNatClampNeg) &&& 63).toInt = 29 ∨ ((xs x4.toNatClampNeg) &&& 63).toInt = 30 ∨ ((xs x4.toNatClampNeg) &&& 63).toInt = 31 ∨ ((xs x4.toNatClampNeg) &&& 63).toInt = 32 ∨ ((xs x4.toNatClampNeg) &&& 63).toInt = 33 ∨ ((xs x4.toNatClampNeg) &&& 63).toInt = 34 ∨ ((xs x4.toNatClampNeg) &&& 63).toInt = 35 ∨ ((xs x4.toNatClampNeg) &&& 63).toInt = 36 ∨ ((xs x4.toNatClampNeg) &&& 63).toInt = 37 ∨ ((xs x4.toNatClampNeg) &&& 63).toInt = 38 ∨ ((xs x4.toNatClampNeg) &&& 63).toInt = 39 ∨ ((xs x4.toNatClampNeg) &&& 63).toInt = 40 ∨ ((xs x4.toNatClampNeg) &&& 63).toInt = 41 ∨ ((xs x4.toNatClampNeg) &&& 63).toInt = 42 by omega) with g | g | g | g | g | g | g | g | g | g | g | g | g | g | g | g | g | g | g | g | g | g | g | g | g | g | g | g | g | g | g | g | g | g | g | g | g | g | g | g | g | g | g
        · refine ⟨188, 228, by rw [g]; rfl, by decide, ?_⟩
          rw [g]
          simp only [if_pos, reduceIte, Int.reduceEq, Int.reduceNeg]
          refine go_aload_n 1 229 dL_law_228 rfl rfl ?_
          refine go_aload_n 0 230 dL_law_229 rfl rfl ?_
          refine go_iload 4 232 dL_law_230 rfl rfl ?_
          refine go_iconst 1 233 dL_law_232 rfl (by decide) ?_
          refine go_iadd 234 dL_law_233 rfl ?_
          refine go_sld 235 dL_law_234 rfl ?_
          refine go_i2l 236 dL_law_235 rfl ?_
          refine go_bipush 32 238 dL_law_236 rfl (by decide) ?_
          refine go_lshl 239 dL_law_238 rfl ?_
          refine go_aload_n 0 240 dL_law_239 rfl rfl ?_
          refine go_iload 4 242 dL_law_240 rfl rfl ?_
          refine go_iconst 2 243 dL_law_242 rfl (by decide) ?_
          refine go_iadd 244 dL_law_243 rfl ?_
          refine go_sld 245 dL_law_244 rfl ?_
          refine go_i2l 246 dL_law_245 rfl ?_
          refine go_ldc2 klL_19 249 dL_law_246 rfl ?_
          refine go_land 250 dL_law_249 rfl ?_
          refine go_lor 251 dL_law_250 rfl ?_
          refine go_aload_n 0 252 dL_law_251 rfl rfl ?_
          refine go_iload 4 254 dL_law_252 rfl rfl ?_
          refine go_iconst 3 255 dL_law_254 rfl (by decide) ?_
          refine go_iadd 256 dL_law_255 rfl ?_
          refine go_sld 257 dL_law_256 rfl ?_
          refine go_i2l 258 dL_law_257 rfl ?_
          refine go_bipush 32 260 dL_law_258 rfl (by decide) ?_
          refine go_lshl 261 dL_law_260 rfl ?_
          refine go_aload_n 0 262 dL_law_261 rfl rfl ?_
          refine go_iload 4 264 dL_law_262 rfl rfl ?_
          refine go_iconst 4 265 dL_law_264 rfl (by decide) ?_
          refine go_iadd 266 dL_law_265 rfl ?_
          refine go_sld 267 dL_law_266 rfl ?_
          refine go_i2l 268 dL_law_267 rfl ?_
          refine go_ldc2 klL_19 271 dL_law_268 rfl ?_
          refine go_land 272 dL_law_271 rfl ?_
          refine go_lor 273 dL_law_272 rfl ?_
          refine go_aload_n 0 274 dL_law_273 rfl rfl ?_
          refine go_iload 4 276 dL_law_274 rfl rfl ?_
          refine go_iconst 5 277 dL_law_276 rfl (by decide) ?_
          refine go_iadd 278 dL_law_277 rfl ?_
          refine go_sld 279 dL_law_278 rfl ?_
          refine go_i2l 280 dL_law_279 rfl ?_
          refine go_bipush 32 282 dL_law_280 rfl (by decide) ?_
          refine go_lshl 283 dL_law_282 rfl ?_
          refine go_aload_n 0 284 dL_law_283 rfl rfl ?_
          refine go_iload 4 286 dL_law_284 rfl rfl ?_
          refine go_bipush 6 288 dL_law_286 rfl (by decide) ?_
          refine go_iadd 289 dL_law_288 rfl ?_
          refine go_sld 290 dL_law_289 rfl ?_
          refine go_i2l 291 dL_law_290 rfl ?_
          refine go_ldc2 klL_19 294 dL_law_291 rfl ?_
          refine go_land 295 dL_law_294 rfl ?_
          refine go_lor 296 dL_law_295 rfl ?_
          refine go_cVI3 2 clX11 cwL_21 (m_X11_feed w 0 isK0 ((((xs (x4 + 1).toNatClampNeg).toInt64) <<< ((32 : Int32).toInt64 &&& 63)) ||| (((xs (x4 + 2).toNatClampNeg).toInt64) &&& 4294967295)) ((((xs (x4 + 3).toNatClampNeg).toInt64) <<< ((32 : Int32).toInt64 &&& 63)) ||| (((xs (x4 + 4).toNatClampNeg).toInt64) &&& 4294967295)) ((((xs (x4 + 5).toNatClampNeg).toInt64) <<< ((32 : Int32).toInt64 &&& 63)) ||| (((xs (x4 + 6).toNatClampNeg).toInt64) &&& 4294967295)) M) isK0 299 dL_law_296 rfl ⟨Nat.le_of_ble_eq_true rfl, Nat.le_of_ble_eq_true rfl⟩ hK1 (Nat.le_of_ble_eq_true rfl) (fun q2 M1 _ => ?_)
          refine go_aload_n 2 300 dL_law_299 rfl rfl ?_
          refine go_aload_n 0 301 dL_law_300 rfl rfl ?_
          refine go_iload 4 303 dL_law_301 rfl rfl ?_
          refine go_iconst 1 304 dL_law_303 rfl (by decide) ?_
          refine go_iadd 305 dL_law_304 rfl ?_
          refine go_sld 306 dL_law_305 rfl ?_
          refine go_i2l 307 dL_law_306 rfl ?_
          refine go_bipush 32 309 dL_law_307 rfl (by decide) ?_
          refine go_lshl 310 dL_law_309 rfl ?_
          refine go_aload_n 0 311 dL_law_310 rfl rfl ?_
          refine go_iload 4 313 dL_law_311 rfl rfl ?_
          refine go_iconst 2 314 dL_law_313 rfl (by decide) ?_
          refine go_iadd 315 dL_law_314 rfl ?_
          refine go_sld 316 dL_law_315 rfl ?_
          refine go_i2l 317 dL_law_316 rfl ?_
          refine go_ldc2 klL_19 320 dL_law_317 rfl ?_
          refine go_land 321 dL_law_320 rfl ?_
          refine go_lor 322 dL_law_321 rfl ?_
          refine go_aload_n 0 323 dL_law_322 rfl rfl ?_
          refine go_iload 4 325 dL_law_323 rfl rfl ?_
          refine go_iconst 3 326 dL_law_325 rfl (by decide) ?_
          refine go_iadd 327 dL_law_326 rfl ?_
          refine go_sld 328 dL_law_327 rfl ?_
          refine go_i2l 329 dL_law_328 rfl ?_
          refine go_bipush 32 331 dL_law_329 rfl (by decide) ?_
          refine go_lshl 332 dL_law_331 rfl ?_
          refine go_aload_n 0 333 dL_law_332 rfl rfl ?_
          refine go_iload 4 335 dL_law_333 rfl rfl ?_
          refine go_iconst 4 336 dL_law_335 rfl (by decide) ?_
          refine go_iadd 337 dL_law_336 rfl ?_
          refine go_sld 338 dL_law_337 rfl ?_
          refine go_i2l 339 dL_law_338 rfl ?_
          refine go_ldc2 klL_19 342 dL_law_339 rfl ?_
          refine go_land 343 dL_law_342 rfl ?_
          refine go_lor 344 dL_law_343 rfl ?_
          refine go_aload_n 0 345 dL_law_344 rfl rfl ?_
          refine go_iload 4 347 dL_law_345 rfl rfl ?_
          refine go_iconst 5 348 dL_law_347 rfl (by decide) ?_
          refine go_iadd 349 dL_law_348 rfl ?_
          refine go_sld 350 dL_law_349 rfl ?_
          refine go_i2l 351 dL_law_350 rfl ?_
          refine go_bipush 32 353 dL_law_351 rfl (by decide) ?_
          refine go_lshl 354 dL_law_353 rfl ?_
          refine go_aload_n 0 355 dL_law_354 rfl rfl ?_
          refine go_iload 4 357 dL_law_355 rfl rfl ?_
          refine go_bipush 6 359 dL_law_357 rfl (by decide) ?_
          refine go_iadd 360 dL_law_359 rfl ?_
          refine go_sld 361 dL_law_360 rfl ?_
          refine go_i2l 362 dL_law_361 rfl ?_
          refine go_ldc2 klL_19 365 dL_law_362 rfl ?_
          refine go_land 366 dL_law_365 rfl ?_
          refine go_lor 367 dL_law_366 rfl ?_
          refine go_cVI3 1 clX12 cwL_25 (m_X12_feed w 163 isK163 ((((xs (x4 + 1).toNatClampNeg).toInt64) <<< ((32 : Int32).toInt64 &&& 63)) ||| (((xs (x4 + 2).toNatClampNeg).toInt64) &&& 4294967295)) ((((xs (x4 + 3).toNatClampNeg).toInt64) <<< ((32 : Int32).toInt64 &&& 63)) ||| (((xs (x4 + 4).toNatClampNeg).toInt64) &&& 4294967295)) ((((xs (x4 + 5).toNatClampNeg).toInt64) <<< ((32 : Int32).toInt64 &&& 63)) ||| (((xs (x4 + 6).toNatClampNeg).toInt64) &&& 4294967295)) M1) isK163 370 dL_law_367 rfl ⟨Nat.le_of_ble_eq_true rfl, Nat.le_of_ble_eq_true rfl⟩ hK1 (Nat.le_of_ble_eq_true rfl) (fun q4 M3 _ => ?_)
          refine go_icmp_eq 1512 373 dL_law_370 rfl (by decide) (fun _ => ?_) (fun _ => ?_)
          · refine go_iinc (x4 + 7) 4 [(4, .int (x4 + 7)), (0, .ref b), (1, .ref (gB G + 0)), (2, .ref (gB G + 163)), (3, .ref (gB G + 185))] 1515 dL_law_1512 rfl rfl rfl (by decide) rfl ?_
            refine go_goto 23 dL_law_1515 (by decide) ?_
            exact go_lv [1, 2, 3, 4, 0] rfl (ih kc ks (by omega) (by omega) (x4 + 7) M3)
          · refine go_iconst 0 374 dL_law_373 rfl (by decide) ?_
            exact go_lawret dL_law_374 hK1
        · refine ⟨335, 375, by rw [g]; rfl, by decide, ?_⟩
          rw [g]
          simp only [if_pos, reduceIte, Int.reduceEq, Int.reduceNeg]
          refine go_aload_n 1 376 dL_law_375 rfl rfl ?_
          refine go_cVI0 68 clX11 cwL_26 (m_X11_house w 0 isK0 M) isK0 379 dL_law_376 rfl ⟨Nat.le_of_ble_eq_true rfl, Nat.le_of_ble_eq_true rfl⟩ hK1 (Nat.le_of_ble_eq_true rfl) (fun q6 M5 _ => ?_)
          refine go_aload_n 2 380 dL_law_379 rfl rfl ?_
          refine go_cVI0 65 clX12 cwL_30 (m_X12_house w 163 isK163 M5) isK163 383 dL_law_380 rfl ⟨Nat.le_of_ble_eq_true rfl, Nat.le_of_ble_eq_true rfl⟩ hK1 (Nat.le_of_ble_eq_true rfl) (fun q8 M7 _ => ?_)
          refine go_icmp_eq 1512 386 dL_law_383 rfl (by decide) (fun _ => ?_) (fun _ => ?_)
          · refine go_iinc (x4 + 7) 4 [(4, .int (x4 + 7)), (0, .ref b), (1, .ref (gB G + 0)), (2, .ref (gB G + 163)), (3, .ref (gB G + 185))] 1515 dL_law_1512 rfl rfl rfl (by decide) rfl ?_
            refine go_goto 23 dL_law_1515 (by decide) ?_
            exact go_lv [1, 2, 3, 4, 0] rfl (ih kc ks (by omega) (by omega) (x4 + 7) M7)
          · refine go_iconst 0 387 dL_law_386 rfl (by decide) ?_
            exact go_lawret dL_law_387 hK1
        · refine ⟨348, 388, by rw [g]; rfl, by decide, ?_⟩
          rw [g]
          simp only [if_pos, reduceIte, Int.reduceEq, Int.reduceNeg]
          refine go_aload_n 1 389 dL_law_388 rfl rfl ?_
          refine go_cVI0 6 clX11 cwL_31 (m_X11_days w 0 isK0 M) isK0 392 dL_law_389 rfl ⟨Nat.le_of_ble_eq_true rfl, Nat.le_of_ble_eq_true rfl⟩ hK1 (Nat.le_of_ble_eq_true rfl) (fun q10 M9 _ => ?_)
          refine go_aload_n 2 393 dL_law_392 rfl rfl ?_
          refine go_cVI0 4 clX12 cwL_34 (m_X12_days w 163 isK163 M9) isK163 396 dL_law_393 rfl ⟨Nat.le_of_ble_eq_true rfl, Nat.le_of_ble_eq_true rfl⟩ hK1 (Nat.le_of_ble_eq_true rfl) (fun q12 M11 _ => ?_)
          refine go_icmp_eq 1512 399 dL_law_396 rfl (by decide) (fun _ => ?_) (fun _ => ?_)
          · refine go_iinc (x4 + 7) 4 [(4, .int (x4 + 7)), (0, .ref b), (1, .ref (gB G + 0)), (2, .ref (gB G + 163)), (3, .ref (gB G + 185))] 1515 dL_law_1512 rfl rfl rfl (by decide) rfl ?_
            refine go_goto 23 dL_law_1515 (by decide) ?_
            exact go_lv [1, 2, 3, 4, 0] rfl (ih kc ks (by omega) (by omega) (x4 + 7) M11)
          · refine go_iconst 0 400 dL_law_399 rfl (by decide) ?_
            exact go_lawret dL_law_400 hK1
        · refine ⟨361, 401, by rw [g]; rfl, by decide, ?_⟩
          rw [g]
          simp only [if_pos, reduceIte, Int.reduceEq, Int.reduceNeg]
          refine go_aload_n 1 402 dL_law_401 rfl rfl ?_
          refine go_aload_n 0 403 dL_law_402 rfl rfl ?_
          refine go_iload 4 405 dL_law_403 rfl rfl ?_
          refine go_iconst 1 406 dL_law_405 rfl (by decide) ?_
          refine go_iadd 407 dL_law_406 rfl ?_
          refine go_sld 408 dL_law_407 rfl ?_
          refine go_aload_n 0 409 dL_law_408 rfl rfl ?_
          refine go_iload 4 411 dL_law_409 rfl rfl ?_
          refine go_iconst 2 412 dL_law_411 rfl (by decide) ?_
          refine go_iadd 413 dL_law_412 rfl ?_
          refine go_sld 414 dL_law_413 rfl ?_
          refine go_cVI2 2 clX11 cwL_35 (m_X11_door w 0 isK0 (xs (x4 + 1).toNatClampNeg) (xs (x4 + 2).toNatClampNeg) M) isK0 417 dL_law_414 rfl ⟨Nat.le_of_ble_eq_true rfl, Nat.le_of_ble_eq_true rfl⟩ hK1 (Nat.le_of_ble_eq_true rfl) (fun q14 M13 _ => ?_)
          refine go_aload_n 2 418 dL_law_417 rfl rfl ?_
          refine go_aload_n 0 419 dL_law_418 rfl rfl ?_
          refine go_iload 4 421 dL_law_419 rfl rfl ?_
          refine go_iconst 1 422 dL_law_421 rfl (by decide) ?_
          refine go_iadd 423 dL_law_422 rfl ?_
          refine go_sld 424 dL_law_423 rfl ?_
          refine go_aload_n 0 425 dL_law_424 rfl rfl ?_
          refine go_iload 4 427 dL_law_425 rfl rfl ?_
          refine go_iconst 2 428 dL_law_427 rfl (by decide) ?_
          refine go_iadd 429 dL_law_428 rfl ?_
          refine go_sld 430 dL_law_429 rfl ?_
          refine go_cVI2 2 clX12 cwL_39 (m_X12_door w 163 isK163 (xs (x4 + 1).toNatClampNeg) (xs (x4 + 2).toNatClampNeg) M13) isK163 433 dL_law_430 rfl ⟨Nat.le_of_ble_eq_true rfl, Nat.le_of_ble_eq_true rfl⟩ hK1 (Nat.le_of_ble_eq_true rfl) (fun q16 M15 _ => ?_)
          refine go_icmp_eq 1512 436 dL_law_433 rfl (by decide) (fun _ => ?_) (fun _ => ?_)
          · refine go_iinc (x4 + 7) 4 [(4, .int (x4 + 7)), (0, .ref b), (1, .ref (gB G + 0)), (2, .ref (gB G + 163)), (3, .ref (gB G + 185))] 1515 dL_law_1512 rfl rfl rfl (by decide) rfl ?_
            refine go_goto 23 dL_law_1515 (by decide) ?_
            exact go_lv [1, 2, 3, 4, 0] rfl (ih kc ks (by omega) (by omega) (x4 + 7) M15)
          · refine go_iconst 0 437 dL_law_436 rfl (by decide) ?_
            exact go_lawret dL_law_437 hK1
        · refine ⟨398, 438, by rw [g]; rfl, by decide, ?_⟩
          rw [g]
          simp only [if_pos, reduceIte, Int.reduceEq, Int.reduceNeg]
          refine go_aload_n 1 439 dL_law_438 rfl rfl ?_
          refine go_aload_n 0 440 dL_law_439 rfl rfl ?_
          refine go_iload 4 442 dL_law_440 rfl rfl ?_
          refine go_iconst 1 443 dL_law_442 rfl (by decide) ?_
          refine go_iadd 444 dL_law_443 rfl ?_
          refine go_sld 445 dL_law_444 rfl ?_
          refine go_cVI1 1 clX11 cwL_40 (m_X11_person w 0 isK0 (xs (x4 + 1).toNatClampNeg) M) isK0 448 dL_law_445 rfl ⟨Nat.le_of_ble_eq_true rfl, Nat.le_of_ble_eq_true rfl⟩ hK1 (Nat.le_of_ble_eq_true rfl) (fun q18 M17 _ => ?_)
          refine go_aload_n 2 449 dL_law_448 rfl rfl ?_
          refine go_aload_n 0 450 dL_law_449 rfl rfl ?_
          refine go_iload 4 452 dL_law_450 rfl rfl ?_
          refine go_iconst 1 453 dL_law_452 rfl (by decide) ?_
          refine go_iadd 454 dL_law_453 rfl ?_
          refine go_sld 455 dL_law_454 rfl ?_
          refine go_cVI1 2 clX12 cwL_44 (m_X12_person w 163 isK163 (xs (x4 + 1).toNatClampNeg) M17) isK163 458 dL_law_455 rfl ⟨Nat.le_of_ble_eq_true rfl, Nat.le_of_ble_eq_true rfl⟩ hK1 (Nat.le_of_ble_eq_true rfl) (fun q20 M19 _ => ?_)
          refine go_icmp_eq 1512 461 dL_law_458 rfl (by decide) (fun _ => ?_) (fun _ => ?_)
          · refine go_iinc (x4 + 7) 4 [(4, .int (x4 + 7)), (0, .ref b), (1, .ref (gB G + 0)), (2, .ref (gB G + 163)), (3, .ref (gB G + 185))] 1515 dL_law_1512 rfl rfl rfl (by decide) rfl ?_
            refine go_goto 23 dL_law_1515 (by decide) ?_
            exact go_lv [1, 2, 3, 4, 0] rfl (ih kc ks (by omega) (by omega) (x4 + 7) M19)
          · refine go_iconst 0 462 dL_law_461 rfl (by decide) ?_
            exact go_lawret dL_law_462 hK1
        · refine ⟨423, 463, by rw [g]; rfl, by decide, ?_⟩
          rw [g]
          simp only [if_pos, reduceIte, Int.reduceEq, Int.reduceNeg]
          refine go_aload_n 1 464 dL_law_463 rfl rfl ?_
          refine go_cVI0 4 clX11 cwL_45 (m_X11_day w 0 isK0 M) isK0 467 dL_law_464 rfl ⟨Nat.le_of_ble_eq_true rfl, Nat.le_of_ble_eq_true rfl⟩ hK1 (Nat.le_of_ble_eq_true rfl) (fun q22 M21 _ => ?_)
          refine go_aload_n 2 468 dL_law_467 rfl rfl ?_
          refine go_cVI0 5 clX12 cwL_48 (m_X12_day w 163 isK163 M21) isK163 471 dL_law_468 rfl ⟨Nat.le_of_ble_eq_true rfl, Nat.le_of_ble_eq_true rfl⟩ hK1 (Nat.le_of_ble_eq_true rfl) (fun q24 M23 _ => ?_)
          refine go_icmp_eq 1512 474 dL_law_471 rfl (by decide) (fun _ => ?_) (fun _ => ?_)
          · refine go_iinc (x4 + 7) 4 [(4, .int (x4 + 7)), (0, .ref b), (1, .ref (gB G + 0)), (2, .ref (gB G + 163)), (3, .ref (gB G + 185))] 1515 dL_law_1512 rfl rfl rfl (by decide) rfl ?_
            refine go_goto 23 dL_law_1515 (by decide) ?_
            exact go_lv [1, 2, 3, 4, 0] rfl (ih kc ks (by omega) (by omega) (x4 + 7) M23)
          · refine go_iconst 0 475 dL_law_474 rfl (by decide) ?_
            exact go_lawret dL_law_475 hK1
        · refine ⟨436, 476, by rw [g]; rfl, by decide, ?_⟩
          rw [g]
          simp only [if_pos, reduceIte, Int.reduceEq, Int.reduceNeg]
          refine go_aload_n 1 477 dL_law_476 rfl rfl ?_
          refine go_aload_n 0 478 dL_law_477 rfl rfl ?_
          refine go_iload 4 480 dL_law_478 rfl rfl ?_
          refine go_iconst 1 481 dL_law_480 rfl (by decide) ?_
          refine go_iadd 482 dL_law_481 rfl ?_
          refine go_sld 483 dL_law_482 rfl ?_
          refine go_aload_n 0 484 dL_law_483 rfl rfl ?_
          refine go_iload 4 486 dL_law_484 rfl rfl ?_
          refine go_iconst 2 487 dL_law_486 rfl (by decide) ?_
          refine go_iadd 488 dL_law_487 rfl ?_
          refine go_sld 489 dL_law_488 rfl ?_
          refine go_cVI2 3 clX11 cwL_49 (m_X11_walk w 0 isK0 (xs (x4 + 1).toNatClampNeg) (xs (x4 + 2).toNatClampNeg) M) isK0 492 dL_law_489 rfl ⟨Nat.le_of_ble_eq_true rfl, Nat.le_of_ble_eq_true rfl⟩ hK1 (Nat.le_of_ble_eq_true rfl) (fun q26 M25 _ => ?_)
          refine go_aload_n 2 493 dL_law_492 rfl rfl ?_
          refine go_aload_n 0 494 dL_law_493 rfl rfl ?_
          refine go_iload 4 496 dL_law_494 rfl rfl ?_
          refine go_iconst 1 497 dL_law_496 rfl (by decide) ?_
          refine go_iadd 498 dL_law_497 rfl ?_
          refine go_sld 499 dL_law_498 rfl ?_
          refine go_aload_n 0 500 dL_law_499 rfl rfl ?_
          refine go_iload 4 502 dL_law_500 rfl rfl ?_
          refine go_iconst 2 503 dL_law_502 rfl (by decide) ?_
          refine go_iadd 504 dL_law_503 rfl ?_
          refine go_sld 505 dL_law_504 rfl ?_
          refine go_cVI2 3 clX12 cwL_52 (m_X12_walk w 163 isK163 (xs (x4 + 1).toNatClampNeg) (xs (x4 + 2).toNatClampNeg) M25) isK163 508 dL_law_505 rfl ⟨Nat.le_of_ble_eq_true rfl, Nat.le_of_ble_eq_true rfl⟩ hK1 (Nat.le_of_ble_eq_true rfl) (fun q28 M27 _ => ?_)
          refine go_icmp_eq 1512 511 dL_law_508 rfl (by decide) (fun _ => ?_) (fun _ => ?_)
          · refine go_iinc (x4 + 7) 4 [(4, .int (x4 + 7)), (0, .ref b), (1, .ref (gB G + 0)), (2, .ref (gB G + 163)), (3, .ref (gB G + 185))] 1515 dL_law_1512 rfl rfl rfl (by decide) rfl ?_
            refine go_goto 23 dL_law_1515 (by decide) ?_
            exact go_lv [1, 2, 3, 4, 0] rfl (ih kc ks (by omega) (by omega) (x4 + 7) M27)
          · refine go_iconst 0 512 dL_law_511 rfl (by decide) ?_
            exact go_lawret dL_law_512 hK1
        · refine ⟨473, 513, by rw [g]; rfl, by decide, ?_⟩
          rw [g]
          simp only [if_pos, reduceIte, Int.reduceEq, Int.reduceNeg]
          refine go_aload_n 1 514 dL_law_513 rfl rfl ?_
          refine go_aload_n 0 515 dL_law_514 rfl rfl ?_
          refine go_iload 4 517 dL_law_515 rfl rfl ?_
          refine go_iconst 1 518 dL_law_517 rfl (by decide) ?_
          refine go_iadd 519 dL_law_518 rfl ?_
          refine go_sld 520 dL_law_519 rfl ?_
          refine go_cVI1 3 clX11 cwL_53 (m_X11_plane w 0 isK0 (xs (x4 + 1).toNatClampNeg) M) isK0 523 dL_law_520 rfl ⟨Nat.le_of_ble_eq_true rfl, Nat.le_of_ble_eq_true rfl⟩ hK1 (Nat.le_of_ble_eq_true rfl) (fun q30 M29 _ => ?_)
          refine go_aload_n 2 524 dL_law_523 rfl rfl ?_
          refine go_aload_n 0 525 dL_law_524 rfl rfl ?_
          refine go_iload 4 527 dL_law_525 rfl rfl ?_
          refine go_iconst 1 528 dL_law_527 rfl (by decide) ?_
          refine go_iadd 529 dL_law_528 rfl ?_
          refine go_sld 530 dL_law_529 rfl ?_
          refine go_cVI1 2 clX12 cwL_56 (m_X12_plane w 163 isK163 (xs (x4 + 1).toNatClampNeg) M29) isK163 533 dL_law_530 rfl ⟨Nat.le_of_ble_eq_true rfl, Nat.le_of_ble_eq_true rfl⟩ hK1 (Nat.le_of_ble_eq_true rfl) (fun q32 M31 _ => ?_)
          refine go_icmp_eq 1512 536 dL_law_533 rfl (by decide) (fun _ => ?_) (fun _ => ?_)
          · refine go_iinc (x4 + 7) 4 [(4, .int (x4 + 7)), (0, .ref b), (1, .ref (gB G + 0)), (2, .ref (gB G + 163)), (3, .ref (gB G + 185))] 1515 dL_law_1512 rfl rfl rfl (by decide) rfl ?_
            refine go_goto 23 dL_law_1515 (by decide) ?_
            exact go_lv [1, 2, 3, 4, 0] rfl (ih kc ks (by omega) (by omega) (x4 + 7) M31)
          · refine go_iconst 0 537 dL_law_536 rfl (by decide) ?_
            exact go_lawret dL_law_537 hK1
        · refine ⟨498, 538, by rw [g]; rfl, by decide, ?_⟩
          rw [g]
          simp only [if_pos, reduceIte, Int.reduceEq, Int.reduceNeg]
          refine go_aload_n 1 539 dL_law_538 rfl rfl ?_
          refine go_aload_n 0 540 dL_law_539 rfl rfl ?_
          refine go_iload 4 542 dL_law_540 rfl rfl ?_
          refine go_iconst 1 543 dL_law_542 rfl (by decide) ?_
          refine go_iadd 544 dL_law_543 rfl ?_
          refine go_sld 545 dL_law_544 rfl ?_
          refine go_cVI1 3 clX11 cwL_57 (m_X11_wedge w 0 isK0 (xs (x4 + 1).toNatClampNeg) M) isK0 548 dL_law_545 rfl ⟨Nat.le_of_ble_eq_true rfl, Nat.le_of_ble_eq_true rfl⟩ hK1 (Nat.le_of_ble_eq_true rfl) (fun q34 M33 _ => ?_)
          refine go_aload_n 2 549 dL_law_548 rfl rfl ?_
          refine go_aload_n 0 550 dL_law_549 rfl rfl ?_
          refine go_iload 4 552 dL_law_550 rfl rfl ?_
          refine go_iconst 1 553 dL_law_552 rfl (by decide) ?_
          refine go_iadd 554 dL_law_553 rfl ?_
          refine go_sld 555 dL_law_554 rfl ?_
          refine go_cVI1 3 clX12 cwL_60 (m_X12_wedge w 163 isK163 (xs (x4 + 1).toNatClampNeg) M33) isK163 558 dL_law_555 rfl ⟨Nat.le_of_ble_eq_true rfl, Nat.le_of_ble_eq_true rfl⟩ hK1 (Nat.le_of_ble_eq_true rfl) (fun q36 M35 _ => ?_)
          refine go_icmp_eq 1512 561 dL_law_558 rfl (by decide) (fun _ => ?_) (fun _ => ?_)
          · refine go_iinc (x4 + 7) 4 [(4, .int (x4 + 7)), (0, .ref b), (1, .ref (gB G + 0)), (2, .ref (gB G + 163)), (3, .ref (gB G + 185))] 1515 dL_law_1512 rfl rfl rfl (by decide) rfl ?_
            refine go_goto 23 dL_law_1515 (by decide) ?_
            exact go_lv [1, 2, 3, 4, 0] rfl (ih kc ks (by omega) (by omega) (x4 + 7) M35)
          · refine go_iconst 0 562 dL_law_561 rfl (by decide) ?_
            exact go_lawret dL_law_562 hK1
        · refine ⟨523, 563, by rw [g]; rfl, by decide, ?_⟩
          rw [g]
          simp only [if_pos, reduceIte, Int.reduceEq, Int.reduceNeg]
          refine go_aload_n 1 564 dL_law_563 rfl rfl ?_
          refine go_aload_n 0 565 dL_law_564 rfl rfl ?_
          refine go_iload 4 567 dL_law_565 rfl rfl ?_
          refine go_iconst 1 568 dL_law_567 rfl (by decide) ?_
          refine go_iadd 569 dL_law_568 rfl ?_
          refine go_sld 570 dL_law_569 rfl ?_
          refine go_cVI1 3 clX11 cwL_61 (m_X11_force w 0 isK0 (xs (x4 + 1).toNatClampNeg) M) isK0 573 dL_law_570 rfl ⟨Nat.le_of_ble_eq_true rfl, Nat.le_of_ble_eq_true rfl⟩ hK1 (Nat.le_of_ble_eq_true rfl) (fun q38 M37 _ => ?_)
          refine go_aload_n 2 574 dL_law_573 rfl rfl ?_
          refine go_aload_n 0 575 dL_law_574 rfl rfl ?_
          refine go_iload 4 577 dL_law_575 rfl rfl ?_
          refine go_iconst 1 578 dL_law_577 rfl (by decide) ?_
          refine go_iadd 579 dL_law_578 rfl ?_
          refine go_sld 580 dL_law_579 rfl ?_
          refine go_cVI1 3 clX12 cwL_64 (m_X12_force w 163 isK163 (xs (x4 + 1).toNatClampNeg) M37) isK163 583 dL_law_580 rfl ⟨Nat.le_of_ble_eq_true rfl, Nat.le_of_ble_eq_true rfl⟩ hK1 (Nat.le_of_ble_eq_true rfl) (fun q40 M39 _ => ?_)
          refine go_icmp_eq 1512 586 dL_law_583 rfl (by decide) (fun _ => ?_) (fun _ => ?_)
          · refine go_iinc (x4 + 7) 4 [(4, .int (x4 + 7)), (0, .ref b), (1, .ref (gB G + 0)), (2, .ref (gB G + 163)), (3, .ref (gB G + 185))] 1515 dL_law_1512 rfl rfl rfl (by decide) rfl ?_
            refine go_goto 23 dL_law_1515 (by decide) ?_
            exact go_lv [1, 2, 3, 4, 0] rfl (ih kc ks (by omega) (by omega) (x4 + 7) M39)
          · refine go_iconst 0 587 dL_law_586 rfl (by decide) ?_
            exact go_lawret dL_law_587 hK1
        · refine ⟨548, 588, by rw [g]; rfl, by decide, ?_⟩
          rw [g]
          simp only [if_pos, reduceIte, Int.reduceEq, Int.reduceNeg]
          refine go_aload_n 1 589 dL_law_588 rfl rfl ?_
          refine go_cVI0 3 clX11 cwL_65 (m_X11_undo w 0 isK0 M) isK0 592 dL_law_589 rfl ⟨Nat.le_of_ble_eq_true rfl, Nat.le_of_ble_eq_true rfl⟩ hK1 (Nat.le_of_ble_eq_true rfl) (fun q42 M41 _ => ?_)
          refine go_aload_n 2 593 dL_law_592 rfl rfl ?_
          refine go_cVI0 1 clX12 cwL_69 (m_X12_undo w 163 isK163 M41) isK163 596 dL_law_593 rfl ⟨Nat.le_of_ble_eq_true rfl, Nat.le_of_ble_eq_true rfl⟩ hK1 (Nat.le_of_ble_eq_true rfl) (fun q44 M43 _ => ?_)
          refine go_icmp_eq 1512 599 dL_law_596 rfl (by decide) (fun _ => ?_) (fun _ => ?_)
          · refine go_iinc (x4 + 7) 4 [(4, .int (x4 + 7)), (0, .ref b), (1, .ref (gB G + 0)), (2, .ref (gB G + 163)), (3, .ref (gB G + 185))] 1515 dL_law_1512 rfl rfl rfl (by decide) rfl ?_
            refine go_goto 23 dL_law_1515 (by decide) ?_
            exact go_lv [1, 2, 3, 4, 0] rfl (ih kc ks (by omega) (by omega) (x4 + 7) M43)
          · refine go_iconst 0 600 dL_law_599 rfl (by decide) ?_
            exact go_lawret dL_law_600 hK1
        · refine ⟨561, 601, by rw [g]; rfl, by decide, ?_⟩
          rw [g]
          simp only [if_pos, reduceIte, Int.reduceEq, Int.reduceNeg]
          refine go_aload_n 1 602 dL_law_601 rfl rfl ?_
          refine go_aload_n 0 603 dL_law_602 rfl rfl ?_
          refine go_iload 4 605 dL_law_603 rfl rfl ?_
          refine go_iconst 1 606 dL_law_605 rfl (by decide) ?_
          refine go_iadd 607 dL_law_606 rfl ?_
          refine go_sld 608 dL_law_607 rfl ?_
          refine go_cVI1 5 clX11 cwL_70 (m_X11_judged w 0 isK0 (xs (x4 + 1).toNatClampNeg) M) isK0 611 dL_law_608 rfl ⟨Nat.le_of_ble_eq_true rfl, Nat.le_of_ble_eq_true rfl⟩ hK1 (Nat.le_of_ble_eq_true rfl) (fun q46 M45 _ => ?_)
          refine go_aload_n 2 612 dL_law_611 rfl rfl ?_
          refine go_aload_n 0 613 dL_law_612 rfl rfl ?_
          refine go_iload 4 615 dL_law_613 rfl rfl ?_
          refine go_iconst 1 616 dL_law_615 rfl (by decide) ?_
          refine go_iadd 617 dL_law_616 rfl ?_
          refine go_sld 618 dL_law_617 rfl ?_
          refine go_cVI1 5 clX12 cwL_73 (m_X12_judged w 163 isK163 (xs (x4 + 1).toNatClampNeg) M45) isK163 621 dL_law_618 rfl ⟨Nat.le_of_ble_eq_true rfl, Nat.le_of_ble_eq_true rfl⟩ hK1 (Nat.le_of_ble_eq_true rfl) (fun q48 M47 _ => ?_)
          refine go_icmp_eq 1512 624 dL_law_621 rfl (by decide) (fun _ => ?_) (fun _ => ?_)
          · refine go_iinc (x4 + 7) 4 [(4, .int (x4 + 7)), (0, .ref b), (1, .ref (gB G + 0)), (2, .ref (gB G + 163)), (3, .ref (gB G + 185))] 1515 dL_law_1512 rfl rfl rfl (by decide) rfl ?_
            refine go_goto 23 dL_law_1515 (by decide) ?_
            exact go_lv [1, 2, 3, 4, 0] rfl (ih kc ks (by omega) (by omega) (x4 + 7) M47)
          · refine go_iconst 0 625 dL_law_624 rfl (by decide) ?_
            exact go_lawret dL_law_625 hK1
        · refine ⟨586, 626, by rw [g]; rfl, by decide, ?_⟩
          rw [g]
          simp only [if_pos, reduceIte, Int.reduceEq, Int.reduceNeg]
          refine go_aload_n 1 627 dL_law_626 rfl rfl ?_
          refine go_cVI0 4 clX11 cwL_74 (m_X11_shut w 0 isK0 M) isK0 630 dL_law_627 rfl ⟨Nat.le_of_ble_eq_true rfl, Nat.le_of_ble_eq_true rfl⟩ hK1 (Nat.le_of_ble_eq_true rfl) (fun q50 M49 _ => ?_)
          refine go_aload_n 2 631 dL_law_630 rfl rfl ?_
          refine go_cVI0 3 clX12 cwL_77 (m_X12_shut w 163 isK163 M49) isK163 634 dL_law_631 rfl ⟨Nat.le_of_ble_eq_true rfl, Nat.le_of_ble_eq_true rfl⟩ hK1 (Nat.le_of_ble_eq_true rfl) (fun q52 M51 _ => ?_)
          refine go_icmp_eq 1512 637 dL_law_634 rfl (by decide) (fun _ => ?_) (fun _ => ?_)
          · refine go_iinc (x4 + 7) 4 [(4, .int (x4 + 7)), (0, .ref b), (1, .ref (gB G + 0)), (2, .ref (gB G + 163)), (3, .ref (gB G + 185))] 1515 dL_law_1512 rfl rfl rfl (by decide) rfl ?_
            refine go_goto 23 dL_law_1515 (by decide) ?_
            exact go_lv [1, 2, 3, 4, 0] rfl (ih kc ks (by omega) (by omega) (x4 + 7) M51)
          · refine go_iconst 0 638 dL_law_637 rfl (by decide) ?_
            exact go_lawret dL_law_638 hK1
        · refine ⟨599, 639, by rw [g]; rfl, by decide, ?_⟩
          rw [g]
          simp only [if_pos, reduceIte, Int.reduceEq, Int.reduceNeg]
          refine go_aload_n 1 640 dL_law_639 rfl rfl ?_
          refine go_aload_n 0 641 dL_law_640 rfl rfl ?_
          refine go_iload 4 643 dL_law_641 rfl rfl ?_
          refine go_iconst 1 644 dL_law_643 rfl (by decide) ?_
          refine go_iadd 645 dL_law_644 rfl ?_
          refine go_sld 646 dL_law_645 rfl ?_
          refine go_cVI1 4 clX11 cwL_78 (m_X11_range w 0 isK0 (xs (x4 + 1).toNatClampNeg) M) isK0 649 dL_law_646 rfl ⟨Nat.le_of_ble_eq_true rfl, Nat.le_of_ble_eq_true rfl⟩ hK1 (Nat.le_of_ble_eq_true rfl) (fun q54 M53 _ => ?_)
          refine go_aload_n 2 650 dL_law_649 rfl rfl ?_
          refine go_aload_n 0 651 dL_law_650 rfl rfl ?_
          refine go_iload 4 653 dL_law_651 rfl rfl ?_
          refine go_iconst 1 654 dL_law_653 rfl (by decide) ?_
          refine go_iadd 655 dL_law_654 rfl ?_
          refine go_sld 656 dL_law_655 rfl ?_
          refine go_cVI1 4 clX12 cwL_81 (m_X12_range w 163 isK163 (xs (x4 + 1).toNatClampNeg) M53) isK163 659 dL_law_656 rfl ⟨Nat.le_of_ble_eq_true rfl, Nat.le_of_ble_eq_true rfl⟩ hK1 (Nat.le_of_ble_eq_true rfl) (fun q56 M55 _ => ?_)
          refine go_icmp_eq 1512 662 dL_law_659 rfl (by decide) (fun _ => ?_) (fun _ => ?_)
          · refine go_iinc (x4 + 7) 4 [(4, .int (x4 + 7)), (0, .ref b), (1, .ref (gB G + 0)), (2, .ref (gB G + 163)), (3, .ref (gB G + 185))] 1515 dL_law_1512 rfl rfl rfl (by decide) rfl ?_
            refine go_goto 23 dL_law_1515 (by decide) ?_
            exact go_lv [1, 2, 3, 4, 0] rfl (ih kc ks (by omega) (by omega) (x4 + 7) M55)
          · refine go_iconst 0 663 dL_law_662 rfl (by decide) ?_
            exact go_lawret dL_law_663 hK1
        · refine ⟨624, 664, by rw [g]; rfl, by decide, ?_⟩
          rw [g]
          simp only [if_pos, reduceIte, Int.reduceEq, Int.reduceNeg]
          refine go_aload_n 1 665 dL_law_664 rfl rfl ?_
          refine go_aload_n 0 666 dL_law_665 rfl rfl ?_
          refine go_iload 4 668 dL_law_666 rfl rfl ?_
          refine go_iconst 1 669 dL_law_668 rfl (by decide) ?_
          refine go_iadd 670 dL_law_669 rfl ?_
          refine go_sld 671 dL_law_670 rfl ?_
          refine go_cVI1 4 clX11 cwL_82 (m_X11_company w 0 isK0 (xs (x4 + 1).toNatClampNeg) M) isK0 674 dL_law_671 rfl ⟨Nat.le_of_ble_eq_true rfl, Nat.le_of_ble_eq_true rfl⟩ hK1 (Nat.le_of_ble_eq_true rfl) (fun q58 M57 _ => ?_)
          refine go_aload_n 2 675 dL_law_674 rfl rfl ?_
          refine go_aload_n 0 676 dL_law_675 rfl rfl ?_
          refine go_iload 4 678 dL_law_676 rfl rfl ?_
          refine go_iconst 1 679 dL_law_678 rfl (by decide) ?_
          refine go_iadd 680 dL_law_679 rfl ?_
          refine go_sld 681 dL_law_680 rfl ?_
          refine go_cVI1 4 clX12 cwL_85 (m_X12_company w 163 isK163 (xs (x4 + 1).toNatClampNeg) M57) isK163 684 dL_law_681 rfl ⟨Nat.le_of_ble_eq_true rfl, Nat.le_of_ble_eq_true rfl⟩ hK1 (Nat.le_of_ble_eq_true rfl) (fun q60 M59 _ => ?_)
          refine go_icmp_eq 1512 687 dL_law_684 rfl (by decide) (fun _ => ?_) (fun _ => ?_)
          · refine go_iinc (x4 + 7) 4 [(4, .int (x4 + 7)), (0, .ref b), (1, .ref (gB G + 0)), (2, .ref (gB G + 163)), (3, .ref (gB G + 185))] 1515 dL_law_1512 rfl rfl rfl (by decide) rfl ?_
            refine go_goto 23 dL_law_1515 (by decide) ?_
            exact go_lv [1, 2, 3, 4, 0] rfl (ih kc ks (by omega) (by omega) (x4 + 7) M59)
          · refine go_iconst 0 688 dL_law_687 rfl (by decide) ?_
            exact go_lawret dL_law_688 hK1
        · refine ⟨649, 689, by rw [g]; rfl, by decide, ?_⟩
          rw [g]
          simp only [if_pos, reduceIte, Int.reduceEq, Int.reduceNeg]
          refine go_aload_n 1 690 dL_law_689 rfl rfl ?_
          refine go_aload_n 0 691 dL_law_690 rfl rfl ?_
          refine go_iload 4 693 dL_law_691 rfl rfl ?_
          refine go_iconst 1 694 dL_law_693 rfl (by decide) ?_
          refine go_iadd 695 dL_law_694 rfl ?_
          refine go_sld 696 dL_law_695 rfl ?_
          refine go_aload_n 0 697 dL_law_696 rfl rfl ?_
          refine go_iload 4 699 dL_law_697 rfl rfl ?_
          refine go_iconst 2 700 dL_law_699 rfl (by decide) ?_
          refine go_iadd 701 dL_law_700 rfl ?_
          refine go_sld 702 dL_law_701 rfl ?_
          refine go_cVI2 4 clX11 cwL_86 (m_X11_later w 0 isK0 (xs (x4 + 1).toNatClampNeg) (xs (x4 + 2).toNatClampNeg) M) isK0 705 dL_law_702 rfl ⟨Nat.le_of_ble_eq_true rfl, Nat.le_of_ble_eq_true rfl⟩ hK1 (Nat.le_of_ble_eq_true rfl) (fun q62 M61 _ => ?_)
          refine go_aload_n 2 706 dL_law_705 rfl rfl ?_
          refine go_aload_n 0 707 dL_law_706 rfl rfl ?_
          refine go_iload 4 709 dL_law_707 rfl rfl ?_
          refine go_iconst 1 710 dL_law_709 rfl (by decide) ?_
          refine go_iadd 711 dL_law_710 rfl ?_
          refine go_sld 712 dL_law_711 rfl ?_
          refine go_aload_n 0 713 dL_law_712 rfl rfl ?_
          refine go_iload 4 715 dL_law_713 rfl rfl ?_
          refine go_iconst 2 716 dL_law_715 rfl (by decide) ?_
          refine go_iadd 717 dL_law_716 rfl ?_
          refine go_sld 718 dL_law_717 rfl ?_
          refine go_cVI2 5 clX12 cwL_89 (m_X12_later w 163 isK163 (xs (x4 + 1).toNatClampNeg) (xs (x4 + 2).toNatClampNeg) M61) isK163 721 dL_law_718 rfl ⟨Nat.le_of_ble_eq_true rfl, Nat.le_of_ble_eq_true rfl⟩ hK1 (Nat.le_of_ble_eq_true rfl) (fun q64 M63 _ => ?_)
          refine go_icmp_eq 1512 724 dL_law_721 rfl (by decide) (fun _ => ?_) (fun _ => ?_)
          · refine go_iinc (x4 + 7) 4 [(4, .int (x4 + 7)), (0, .ref b), (1, .ref (gB G + 0)), (2, .ref (gB G + 163)), (3, .ref (gB G + 185))] 1515 dL_law_1512 rfl rfl rfl (by decide) rfl ?_
            refine go_goto 23 dL_law_1515 (by decide) ?_
            exact go_lv [1, 2, 3, 4, 0] rfl (ih kc ks (by omega) (by omega) (x4 + 7) M63)
          · refine go_iconst 0 725 dL_law_724 rfl (by decide) ?_
            exact go_lawret dL_law_725 hK1
        · refine ⟨686, 726, by rw [g]; rfl, by decide, ?_⟩
          rw [g]
          simp only [if_pos, reduceIte, Int.reduceEq, Int.reduceNeg]
          refine go_aload_n 1 727 dL_law_726 rfl rfl ?_
          refine go_aload_n 0 728 dL_law_727 rfl rfl ?_
          refine go_iload 4 730 dL_law_728 rfl rfl ?_
          refine go_iconst 1 731 dL_law_730 rfl (by decide) ?_
          refine go_iadd 732 dL_law_731 rfl ?_
          refine go_sld 733 dL_law_732 rfl ?_
          refine go_cVI1 6 clX11 cwL_90 (m_X11_closes w 0 isK0 (xs (x4 + 1).toNatClampNeg) M) isK0 736 dL_law_733 rfl ⟨Nat.le_of_ble_eq_true rfl, Nat.le_of_ble_eq_true rfl⟩ hK1 (Nat.le_of_ble_eq_true rfl) (fun q66 M65 _ => ?_)
          refine go_aload_n 2 737 dL_law_736 rfl rfl ?_
          refine go_aload_n 0 738 dL_law_737 rfl rfl ?_
          refine go_iload 4 740 dL_law_738 rfl rfl ?_
          refine go_iconst 1 741 dL_law_740 rfl (by decide) ?_
          refine go_iadd 742 dL_law_741 rfl ?_
          refine go_sld 743 dL_law_742 rfl ?_
          refine go_cVI1 6 clX12 cwL_93 (m_X12_closes w 163 isK163 (xs (x4 + 1).toNatClampNeg) M65) isK163 746 dL_law_743 rfl ⟨Nat.le_of_ble_eq_true rfl, Nat.le_of_ble_eq_true rfl⟩ hK1 (Nat.le_of_ble_eq_true rfl) (fun q68 M67 _ => ?_)
          refine go_icmp_eq 1512 749 dL_law_746 rfl (by decide) (fun _ => ?_) (fun _ => ?_)
          · refine go_iinc (x4 + 7) 4 [(4, .int (x4 + 7)), (0, .ref b), (1, .ref (gB G + 0)), (2, .ref (gB G + 163)), (3, .ref (gB G + 185))] 1515 dL_law_1512 rfl rfl rfl (by decide) rfl ?_
            refine go_goto 23 dL_law_1515 (by decide) ?_
            exact go_lv [1, 2, 3, 4, 0] rfl (ih kc ks (by omega) (by omega) (x4 + 7) M67)
          · refine go_iconst 0 750 dL_law_749 rfl (by decide) ?_
            exact go_lawret dL_law_750 hK1
        · refine ⟨711, 751, by rw [g]; rfl, by decide, ?_⟩
          rw [g]
          simp only [if_pos, reduceIte, Int.reduceEq, Int.reduceNeg]
          refine go_aload_n 1 752 dL_law_751 rfl rfl ?_
          refine go_aload_n 0 753 dL_law_752 rfl rfl ?_
          refine go_iload 4 755 dL_law_753 rfl rfl ?_
          refine go_iconst 1 756 dL_law_755 rfl (by decide) ?_
          refine go_iadd 757 dL_law_756 rfl ?_
          refine go_sld 758 dL_law_757 rfl ?_
          refine go_cVI1 6 clX11 cwL_94 (m_X11_gives w 0 isK0 (xs (x4 + 1).toNatClampNeg) M) isK0 761 dL_law_758 rfl ⟨Nat.le_of_ble_eq_true rfl, Nat.le_of_ble_eq_true rfl⟩ hK1 (Nat.le_of_ble_eq_true rfl) (fun q70 M69 _ => ?_)
          refine go_aload_n 2 762 dL_law_761 rfl rfl ?_
          refine go_aload_n 0 763 dL_law_762 rfl rfl ?_
          refine go_iload 4 765 dL_law_763 rfl rfl ?_
          refine go_iconst 1 766 dL_law_765 rfl (by decide) ?_
          refine go_iadd 767 dL_law_766 rfl ?_
          refine go_sld 768 dL_law_767 rfl ?_
          refine go_cVI1 6 clX12 cwL_97 (m_X12_gives w 163 isK163 (xs (x4 + 1).toNatClampNeg) M69) isK163 771 dL_law_768 rfl ⟨Nat.le_of_ble_eq_true rfl, Nat.le_of_ble_eq_true rfl⟩ hK1 (Nat.le_of_ble_eq_true rfl) (fun q72 M71 _ => ?_)
          refine go_icmp_eq 1512 774 dL_law_771 rfl (by decide) (fun _ => ?_) (fun _ => ?_)
          · refine go_iinc (x4 + 7) 4 [(4, .int (x4 + 7)), (0, .ref b), (1, .ref (gB G + 0)), (2, .ref (gB G + 163)), (3, .ref (gB G + 185))] 1515 dL_law_1512 rfl rfl rfl (by decide) rfl ?_
            refine go_goto 23 dL_law_1515 (by decide) ?_
            exact go_lv [1, 2, 3, 4, 0] rfl (ih kc ks (by omega) (by omega) (x4 + 7) M71)
          · refine go_iconst 0 775 dL_law_774 rfl (by decide) ?_
            exact go_lawret dL_law_775 hK1
        · refine ⟨736, 776, by rw [g]; rfl, by decide, ?_⟩
          rw [g]
          simp only [if_pos, reduceIte, Int.reduceEq, Int.reduceNeg]
          refine go_aload_n 1 777 dL_law_776 rfl rfl ?_
          refine go_cVI0 6 clX11 cwL_98 (m_X11_calm w 0 isK0 M) isK0 780 dL_law_777 rfl ⟨Nat.le_of_ble_eq_true rfl, Nat.le_of_ble_eq_true rfl⟩ hK1 (Nat.le_of_ble_eq_true rfl) (fun q74 M73 _ => ?_)
          refine go_aload_n 2 781 dL_law_780 rfl rfl ?_
          refine go_cVI0 6 clX12 cwL_101 (m_X12_calm w 163 isK163 M73) isK163 784 dL_law_781 rfl ⟨Nat.le_of_ble_eq_true rfl, Nat.le_of_ble_eq_true rfl⟩ hK1 (Nat.le_of_ble_eq_true rfl) (fun q76 M75 _ => ?_)
          refine go_icmp_eq 1512 787 dL_law_784 rfl (by decide) (fun _ => ?_) (fun _ => ?_)
          · refine go_iinc (x4 + 7) 4 [(4, .int (x4 + 7)), (0, .ref b), (1, .ref (gB G + 0)), (2, .ref (gB G + 163)), (3, .ref (gB G + 185))] 1515 dL_law_1512 rfl rfl rfl (by decide) rfl ?_
            refine go_goto 23 dL_law_1515 (by decide) ?_
            exact go_lv [1, 2, 3, 4, 0] rfl (ih kc ks (by omega) (by omega) (x4 + 7) M75)
          · refine go_iconst 0 788 dL_law_787 rfl (by decide) ?_
            exact go_lawret dL_law_788 hK1
        · refine ⟨749, 789, by rw [g]; rfl, by decide, ?_⟩
          rw [g]
          simp only [if_pos, reduceIte, Int.reduceEq, Int.reduceNeg]
          refine go_aload_n 1 790 dL_law_789 rfl rfl ?_
          refine go_cVI0 6 clX11 cwL_102 (m_X11_hard w 0 isK0 M) isK0 793 dL_law_790 rfl ⟨Nat.le_of_ble_eq_true rfl, Nat.le_of_ble_eq_true rfl⟩ hK1 (Nat.le_of_ble_eq_true rfl) (fun q78 M77 _ => ?_)
          refine go_aload_n 2 794 dL_law_793 rfl rfl ?_
          refine go_cVI0 5 clX12 cwL_105 (m_X12_hard w 163 isK163 M77) isK163 797 dL_law_794 rfl ⟨Nat.le_of_ble_eq_true rfl, Nat.le_of_ble_eq_true rfl⟩ hK1 (Nat.le_of_ble_eq_true rfl) (fun q80 M79 _ => ?_)
          refine go_icmp_eq 1512 800 dL_law_797 rfl (by decide) (fun _ => ?_) (fun _ => ?_)
          · refine go_iinc (x4 + 7) 4 [(4, .int (x4 + 7)), (0, .ref b), (1, .ref (gB G + 0)), (2, .ref (gB G + 163)), (3, .ref (gB G + 185))] 1515 dL_law_1512 rfl rfl rfl (by decide) rfl ?_
            refine go_goto 23 dL_law_1515 (by decide) ?_
            exact go_lv [1, 2, 3, 4, 0] rfl (ih kc ks (by omega) (by omega) (x4 + 7) M79)
          · refine go_iconst 0 801 dL_law_800 rfl (by decide) ?_
            exact go_lawret dL_law_801 hK1
        · refine ⟨762, 802, by rw [g]; rfl, by decide, ?_⟩
          rw [g]
          simp only [if_pos, reduceIte, Int.reduceEq, Int.reduceNeg]
          refine go_aload_n 1 803 dL_law_802 rfl rfl ?_
          refine go_aload_n 0 804 dL_law_803 rfl rfl ?_
          refine go_iload 4 806 dL_law_804 rfl rfl ?_
          refine go_iconst 1 807 dL_law_806 rfl (by decide) ?_
          refine go_iadd 808 dL_law_807 rfl ?_
          refine go_sld 809 dL_law_808 rfl ?_
          refine go_aload_n 0 810 dL_law_809 rfl rfl ?_
          refine go_iload 4 812 dL_law_810 rfl rfl ?_
          refine go_iconst 2 813 dL_law_812 rfl (by decide) ?_
          refine go_iadd 814 dL_law_813 rfl ?_
          refine go_sld 815 dL_law_814 rfl ?_
          refine go_cVI2 6 clX11 cwL_106 (m_X11_arrives w 0 isK0 (xs (x4 + 1).toNatClampNeg) (xs (x4 + 2).toNatClampNeg) M) isK0 818 dL_law_815 rfl ⟨Nat.le_of_ble_eq_true rfl, Nat.le_of_ble_eq_true rfl⟩ hK1 (Nat.le_of_ble_eq_true rfl) (fun q82 M81 _ => ?_)
          refine go_aload_n 2 819 dL_law_818 rfl rfl ?_
          refine go_aload_n 0 820 dL_law_819 rfl rfl ?_
          refine go_iload 4 822 dL_law_820 rfl rfl ?_
          refine go_iconst 1 823 dL_law_822 rfl (by decide) ?_
          refine go_iadd 824 dL_law_823 rfl ?_
          refine go_sld 825 dL_law_824 rfl ?_
          refine go_aload_n 0 826 dL_law_825 rfl rfl ?_
          refine go_iload 4 828 dL_law_826 rfl rfl ?_
          refine go_iconst 2 829 dL_law_828 rfl (by decide) ?_
          refine go_iadd 830 dL_law_829 rfl ?_
          refine go_sld 831 dL_law_830 rfl ?_
          refine go_cVI2 6 clX12 cwL_109 (m_X12_arrives w 163 isK163 (xs (x4 + 1).toNatClampNeg) (xs (x4 + 2).toNatClampNeg) M81) isK163 834 dL_law_831 rfl ⟨Nat.le_of_ble_eq_true rfl, Nat.le_of_ble_eq_true rfl⟩ hK1 (Nat.le_of_ble_eq_true rfl) (fun q84 M83 _ => ?_)
          refine go_icmp_eq 1512 837 dL_law_834 rfl (by decide) (fun _ => ?_) (fun _ => ?_)
          · refine go_iinc (x4 + 7) 4 [(4, .int (x4 + 7)), (0, .ref b), (1, .ref (gB G + 0)), (2, .ref (gB G + 163)), (3, .ref (gB G + 185))] 1515 dL_law_1512 rfl rfl rfl (by decide) rfl ?_
            refine go_goto 23 dL_law_1515 (by decide) ?_
            exact go_lv [1, 2, 3, 4, 0] rfl (ih kc ks (by omega) (by omega) (x4 + 7) M83)
          · refine go_iconst 0 838 dL_law_837 rfl (by decide) ?_
            exact go_lawret dL_law_838 hK1
        · refine ⟨799, 839, by rw [g]; rfl, by decide, ?_⟩
          rw [g]
          simp only [if_pos, reduceIte, Int.reduceEq, Int.reduceNeg]
          refine go_aload_n 1 840 dL_law_839 rfl rfl ?_
          refine go_aload_n 0 841 dL_law_840 rfl rfl ?_
          refine go_iload 4 843 dL_law_841 rfl rfl ?_
          refine go_iconst 1 844 dL_law_843 rfl (by decide) ?_
          refine go_iadd 845 dL_law_844 rfl ?_
          refine go_sld 846 dL_law_845 rfl ?_
          refine go_aload_n 0 847 dL_law_846 rfl rfl ?_
          refine go_iload 4 849 dL_law_847 rfl rfl ?_
          refine go_iconst 2 850 dL_law_849 rfl (by decide) ?_
          refine go_iadd 851 dL_law_850 rfl ?_
          refine go_sld 852 dL_law_851 rfl ?_
          refine go_cVI2 6 clX11 cwL_110 (m_X11_from w 0 isK0 (xs (x4 + 1).toNatClampNeg) (xs (x4 + 2).toNatClampNeg) M) isK0 855 dL_law_852 rfl ⟨Nat.le_of_ble_eq_true rfl, Nat.le_of_ble_eq_true rfl⟩ hK1 (Nat.le_of_ble_eq_true rfl) (fun q86 M85 _ => ?_)
          refine go_aload_n 2 856 dL_law_855 rfl rfl ?_
          refine go_aload_n 0 857 dL_law_856 rfl rfl ?_
          refine go_iload 4 859 dL_law_857 rfl rfl ?_
          refine go_iconst 1 860 dL_law_859 rfl (by decide) ?_
          refine go_iadd 861 dL_law_860 rfl ?_
          refine go_sld 862 dL_law_861 rfl ?_
          refine go_aload_n 0 863 dL_law_862 rfl rfl ?_
          refine go_iload 4 865 dL_law_863 rfl rfl ?_
          refine go_iconst 2 866 dL_law_865 rfl (by decide) ?_
          refine go_iadd 867 dL_law_866 rfl ?_
          refine go_sld 868 dL_law_867 rfl ?_
          refine go_cVI2 6 clX12 cwL_113 (m_X12_from w 163 isK163 (xs (x4 + 1).toNatClampNeg) (xs (x4 + 2).toNatClampNeg) M85) isK163 871 dL_law_868 rfl ⟨Nat.le_of_ble_eq_true rfl, Nat.le_of_ble_eq_true rfl⟩ hK1 (Nat.le_of_ble_eq_true rfl) (fun q88 M87 _ => ?_)
          refine go_icmp_eq 1512 874 dL_law_871 rfl (by decide) (fun _ => ?_) (fun _ => ?_)
          · refine go_iinc (x4 + 7) 4 [(4, .int (x4 + 7)), (0, .ref b), (1, .ref (gB G + 0)), (2, .ref (gB G + 163)), (3, .ref (gB G + 185))] 1515 dL_law_1512 rfl rfl rfl (by decide) rfl ?_
            refine go_goto 23 dL_law_1515 (by decide) ?_
            exact go_lv [1, 2, 3, 4, 0] rfl (ih kc ks (by omega) (by omega) (x4 + 7) M87)
          · refine go_iconst 0 875 dL_law_874 rfl (by decide) ?_
            exact go_lawret dL_law_875 hK1
        · refine ⟨836, 876, by rw [g]; rfl, by decide, ?_⟩
          rw [g]
          simp only [if_pos, reduceIte, Int.reduceEq, Int.reduceNeg]
          refine go_aload_n 1 877 dL_law_876 rfl rfl ?_
          refine go_aload_n 0 878 dL_law_877 rfl rfl ?_
          refine go_iload 4 880 dL_law_878 rfl rfl ?_
          refine go_iconst 1 881 dL_law_880 rfl (by decide) ?_
          refine go_iadd 882 dL_law_881 rfl ?_
          refine go_sld 883 dL_law_882 rfl ?_
          refine go_aload_n 0 884 dL_law_883 rfl rfl ?_
          refine go_iload 4 886 dL_law_884 rfl rfl ?_
          refine go_iconst 2 887 dL_law_886 rfl (by decide) ?_
          refine go_iadd 888 dL_law_887 rfl ?_
          refine go_sld 889 dL_law_888 rfl ?_
          refine go_cVI2 6 clX11 cwL_114 (m_X11_both w 0 isK0 (xs (x4 + 1).toNatClampNeg) (xs (x4 + 2).toNatClampNeg) M) isK0 892 dL_law_889 rfl ⟨Nat.le_of_ble_eq_true rfl, Nat.le_of_ble_eq_true rfl⟩ hK1 (Nat.le_of_ble_eq_true rfl) (fun q90 M89 _ => ?_)
          refine go_aload_n 2 893 dL_law_892 rfl rfl ?_
          refine go_aload_n 0 894 dL_law_893 rfl rfl ?_
          refine go_iload 4 896 dL_law_894 rfl rfl ?_
          refine go_iconst 1 897 dL_law_896 rfl (by decide) ?_
          refine go_iadd 898 dL_law_897 rfl ?_
          refine go_sld 899 dL_law_898 rfl ?_
          refine go_aload_n 0 900 dL_law_899 rfl rfl ?_
          refine go_iload 4 902 dL_law_900 rfl rfl ?_
          refine go_iconst 2 903 dL_law_902 rfl (by decide) ?_
          refine go_iadd 904 dL_law_903 rfl ?_
          refine go_sld 905 dL_law_904 rfl ?_
          refine go_cVI2 6 clX12 cwL_117 (m_X12_both_ w 163 isK163 (xs (x4 + 1).toNatClampNeg) (xs (x4 + 2).toNatClampNeg) M89) isK163 908 dL_law_905 rfl ⟨Nat.le_of_ble_eq_true rfl, Nat.le_of_ble_eq_true rfl⟩ hK1 (Nat.le_of_ble_eq_true rfl) (fun q92 M91 _ => ?_)
          refine go_icmp_eq 1512 911 dL_law_908 rfl (by decide) (fun _ => ?_) (fun _ => ?_)
          · refine go_iinc (x4 + 7) 4 [(4, .int (x4 + 7)), (0, .ref b), (1, .ref (gB G + 0)), (2, .ref (gB G + 163)), (3, .ref (gB G + 185))] 1515 dL_law_1512 rfl rfl rfl (by decide) rfl ?_
            refine go_goto 23 dL_law_1515 (by decide) ?_
            exact go_lv [1, 2, 3, 4, 0] rfl (ih kc ks (by omega) (by omega) (x4 + 7) M91)
          · refine go_iconst 0 912 dL_law_911 rfl (by decide) ?_
            exact go_lawret dL_law_912 hK1
        · refine ⟨873, 913, by rw [g]; rfl, by decide, ?_⟩
          rw [g]
          simp only [if_pos, reduceIte, Int.reduceEq, Int.reduceNeg]
          refine go_aload_n 1 914 dL_law_913 rfl rfl ?_
          refine go_aload_n 0 915 dL_law_914 rfl rfl ?_
          refine go_iload 4 917 dL_law_915 rfl rfl ?_
          refine go_iconst 1 918 dL_law_917 rfl (by decide) ?_
          refine go_iadd 919 dL_law_918 rfl ?_
          refine go_sld 920 dL_law_919 rfl ?_
          refine go_aload_n 0 921 dL_law_920 rfl rfl ?_
          refine go_iload 4 923 dL_law_921 rfl rfl ?_
          refine go_iconst 2 924 dL_law_923 rfl (by decide) ?_
          refine go_iadd 925 dL_law_924 rfl ?_
          refine go_sld 926 dL_law_925 rfl ?_
          refine go_cVI2 4 clX11 cwL_118 (m_X11_cut w 0 isK0 (xs (x4 + 1).toNatClampNeg) (xs (x4 + 2).toNatClampNeg) M) isK0 929 dL_law_926 rfl ⟨Nat.le_of_ble_eq_true rfl, Nat.le_of_ble_eq_true rfl⟩ hK1 (Nat.le_of_ble_eq_true rfl) (fun q94 M93 _ => ?_)
          refine go_aload_n 2 930 dL_law_929 rfl rfl ?_
          refine go_aload_n 0 931 dL_law_930 rfl rfl ?_
          refine go_iload 4 933 dL_law_931 rfl rfl ?_
          refine go_iconst 1 934 dL_law_933 rfl (by decide) ?_
          refine go_iadd 935 dL_law_934 rfl ?_
          refine go_sld 936 dL_law_935 rfl ?_
          refine go_aload_n 0 937 dL_law_936 rfl rfl ?_
          refine go_iload 4 939 dL_law_937 rfl rfl ?_
          refine go_iconst 2 940 dL_law_939 rfl (by decide) ?_
          refine go_iadd 941 dL_law_940 rfl ?_
          refine go_sld 942 dL_law_941 rfl ?_
          refine go_cVI2 4 clX12 cwL_121 (m_X12_cut w 163 isK163 (xs (x4 + 1).toNatClampNeg) (xs (x4 + 2).toNatClampNeg) M93) isK163 945 dL_law_942 rfl ⟨Nat.le_of_ble_eq_true rfl, Nat.le_of_ble_eq_true rfl⟩ hK1 (Nat.le_of_ble_eq_true rfl) (fun q96 M95 _ => ?_)
          refine go_icmp_eq 1512 948 dL_law_945 rfl (by decide) (fun _ => ?_) (fun _ => ?_)
          · refine go_iinc (x4 + 7) 4 [(4, .int (x4 + 7)), (0, .ref b), (1, .ref (gB G + 0)), (2, .ref (gB G + 163)), (3, .ref (gB G + 185))] 1515 dL_law_1512 rfl rfl rfl (by decide) rfl ?_
            refine go_goto 23 dL_law_1515 (by decide) ?_
            exact go_lv [1, 2, 3, 4, 0] rfl (ih kc ks (by omega) (by omega) (x4 + 7) M95)
          · refine go_iconst 0 949 dL_law_948 rfl (by decide) ?_
            exact go_lawret dL_law_949 hK1
        · refine ⟨910, 950, by rw [g]; rfl, by decide, ?_⟩
          rw [g]
          simp only [if_pos, reduceIte, Int.reduceEq, Int.reduceNeg]
          refine go_aload_n 1 951 dL_law_950 rfl rfl ?_
          refine go_aload_n 0 952 dL_law_951 rfl rfl ?_
          refine go_iload 4 954 dL_law_952 rfl rfl ?_
          refine go_iconst 1 955 dL_law_954 rfl (by decide) ?_
          refine go_iadd 956 dL_law_955 rfl ?_
          refine go_sld 957 dL_law_956 rfl ?_
          refine go_aload_n 0 958 dL_law_957 rfl rfl ?_
          refine go_iload 4 960 dL_law_958 rfl rfl ?_
          refine go_iconst 2 961 dL_law_960 rfl (by decide) ?_
          refine go_iadd 962 dL_law_961 rfl ?_
          refine go_sld 963 dL_law_962 rfl ?_
          refine go_cVI2 6 clX11 cwL_122 (m_X11_planed w 0 isK0 (xs (x4 + 1).toNatClampNeg) (xs (x4 + 2).toNatClampNeg) M) isK0 966 dL_law_963 rfl ⟨Nat.le_of_ble_eq_true rfl, Nat.le_of_ble_eq_true rfl⟩ hK1 (Nat.le_of_ble_eq_true rfl) (fun q98 M97 _ => ?_)
          refine go_aload_n 2 967 dL_law_966 rfl rfl ?_
          refine go_aload_n 0 968 dL_law_967 rfl rfl ?_
          refine go_iload 4 970 dL_law_968 rfl rfl ?_
          refine go_iconst 1 971 dL_law_970 rfl (by decide) ?_
          refine go_iadd 972 dL_law_971 rfl ?_
          refine go_sld 973 dL_law_972 rfl ?_
          refine go_aload_n 0 974 dL_law_973 rfl rfl ?_
          refine go_iload 4 976 dL_law_974 rfl rfl ?_
          refine go_iconst 2 977 dL_law_976 rfl (by decide) ?_
          refine go_iadd 978 dL_law_977 rfl ?_
          refine go_sld 979 dL_law_978 rfl ?_
          refine go_cVI2 67 clX12 cwL_125 (m_X12_planed w 163 isK163 (xs (x4 + 1).toNatClampNeg) (xs (x4 + 2).toNatClampNeg) M97) isK163 982 dL_law_979 rfl ⟨Nat.le_of_ble_eq_true rfl, Nat.le_of_ble_eq_true rfl⟩ hK1 (Nat.le_of_ble_eq_true rfl) (fun q100 M99 _ => ?_)
          refine go_icmp_eq 1512 985 dL_law_982 rfl (by decide) (fun _ => ?_) (fun _ => ?_)
          · refine go_iinc (x4 + 7) 4 [(4, .int (x4 + 7)), (0, .ref b), (1, .ref (gB G + 0)), (2, .ref (gB G + 163)), (3, .ref (gB G + 185))] 1515 dL_law_1512 rfl rfl rfl (by decide) rfl ?_
            refine go_goto 23 dL_law_1515 (by decide) ?_
            exact go_lv [1, 2, 3, 4, 0] rfl (ih kc ks (by omega) (by omega) (x4 + 7) M99)
          · refine go_iconst 0 986 dL_law_985 rfl (by decide) ?_
            exact go_lawret dL_law_986 hK1
        · refine ⟨947, 987, by rw [g]; rfl, by decide, ?_⟩
          rw [g]
          simp only [if_pos, reduceIte, Int.reduceEq, Int.reduceNeg]
          refine go_aload_n 1 988 dL_law_987 rfl rfl ?_
          refine go_aload_n 0 989 dL_law_988 rfl rfl ?_
          refine go_iload 4 991 dL_law_989 rfl rfl ?_
          refine go_iconst 1 992 dL_law_991 rfl (by decide) ?_
          refine go_iadd 993 dL_law_992 rfl ?_
          refine go_sld 994 dL_law_993 rfl ?_
          refine go_aload_n 0 995 dL_law_994 rfl rfl ?_
          refine go_iload 4 997 dL_law_995 rfl rfl ?_
          refine go_iconst 2 998 dL_law_997 rfl (by decide) ?_
          refine go_iadd 999 dL_law_998 rfl ?_
          refine go_sld 1000 dL_law_999 rfl ?_
          refine go_aload_n 0 1001 dL_law_1000 rfl rfl ?_
          refine go_iload 4 1003 dL_law_1001 rfl rfl ?_
          refine go_iconst 3 1004 dL_law_1003 rfl (by decide) ?_
          refine go_iadd 1005 dL_law_1004 rfl ?_
          refine go_sld 1006 dL_law_1005 rfl ?_
          refine go_if_eq 1013 1009 dL_law_1006 rfl (by decide) (fun _ => ?_) (fun _ => ?_)
          · refine go_iconst 0 1014 dL_law_1013 rfl (by decide) ?_
            refine go_cVI3 1 clX11 cwL_126 (m_X11_feel w 0 isK0 (xs (x4 + 1).toNatClampNeg) (xs (x4 + 2).toNatClampNeg) 0 M) isK0 1017 dL_law_1014 rfl ⟨Nat.le_of_ble_eq_true rfl, Nat.le_of_ble_eq_true rfl⟩ hK1 (Nat.le_of_ble_eq_true rfl) (fun q102 M101 _ => ?_)
            refine go_aload_n 2 1018 dL_law_1017 rfl rfl ?_
            refine go_aload_n 0 1019 dL_law_1018 rfl rfl ?_
            refine go_iload 4 1021 dL_law_1019 rfl rfl ?_
            refine go_iconst 1 1022 dL_law_1021 rfl (by decide) ?_
            refine go_iadd 1023 dL_law_1022 rfl ?_
            refine go_sld 1024 dL_law_1023 rfl ?_
            refine go_aload_n 0 1025 dL_law_1024 rfl rfl ?_
            refine go_iload 4 1027 dL_law_1025 rfl rfl ?_
            refine go_iconst 2 1028 dL_law_1027 rfl (by decide) ?_
            refine go_iadd 1029 dL_law_1028 rfl ?_
            refine go_sld 1030 dL_law_1029 rfl ?_
            refine go_aload_n 0 1031 dL_law_1030 rfl rfl ?_
            refine go_iload 4 1033 dL_law_1031 rfl rfl ?_
            refine go_iconst 3 1034 dL_law_1033 rfl (by decide) ?_
            refine go_iadd 1035 dL_law_1034 rfl ?_
            refine go_sld 1036 dL_law_1035 rfl ?_
            refine go_if_eq 1043 1039 dL_law_1036 rfl (by decide) (fun _ => ?_) (fun _ => ?_)
            · refine go_iconst 0 1044 dL_law_1043 rfl (by decide) ?_
              refine go_cVI3 2 clX12 cwL_130 (m_X12_feel w 163 isK163 (xs (x4 + 1).toNatClampNeg) (xs (x4 + 2).toNatClampNeg) 0 M101) isK163 1047 dL_law_1044 rfl ⟨Nat.le_of_ble_eq_true rfl, Nat.le_of_ble_eq_true rfl⟩ hK1 (Nat.le_of_ble_eq_true rfl) (fun q104 M103 _ => ?_)
              refine go_icmp_eq 1512 1050 dL_law_1047 rfl (by decide) (fun _ => ?_) (fun _ => ?_)
              · refine go_iinc (x4 + 7) 4 [(4, .int (x4 + 7)), (0, .ref b), (1, .ref (gB G + 0)), (2, .ref (gB G + 163)), (3, .ref (gB G + 185))] 1515 dL_law_1512 rfl rfl rfl (by decide) rfl ?_
                refine go_goto 23 dL_law_1515 (by decide) ?_
                exact go_lv [1, 2, 3, 4, 0] rfl (ih kc ks (by omega) (by omega) (x4 + 7) M103)
              · refine go_iconst 0 1051 dL_law_1050 rfl (by decide) ?_
                exact go_lawret dL_law_1051 hK1
            · refine go_iconst 1 1040 dL_law_1039 rfl (by decide) ?_
              refine go_goto 1044 dL_law_1040 (by decide) ?_
              refine go_cVI3 2 clX12 cwL_130 (m_X12_feel w 163 isK163 (xs (x4 + 1).toNatClampNeg) (xs (x4 + 2).toNatClampNeg) 1 M101) isK163 1047 dL_law_1044 rfl ⟨Nat.le_of_ble_eq_true rfl, Nat.le_of_ble_eq_true rfl⟩ hK1 (Nat.le_of_ble_eq_true rfl) (fun q106 M105 _ => ?_)
              refine go_icmp_eq 1512 1050 dL_law_1047 rfl (by decide) (fun _ => ?_) (fun _ => ?_)
              · refine go_iinc (x4 + 7) 4 [(4, .int (x4 + 7)), (0, .ref b), (1, .ref (gB G + 0)), (2, .ref (gB G + 163)), (3, .ref (gB G + 185))] 1515 dL_law_1512 rfl rfl rfl (by decide) rfl ?_
                refine go_goto 23 dL_law_1515 (by decide) ?_
                exact go_lv [1, 2, 3, 4, 0] rfl (ih kc ks (by omega) (by omega) (x4 + 7) M105)
              · refine go_iconst 0 1051 dL_law_1050 rfl (by decide) ?_
                exact go_lawret dL_law_1051 hK1
          · refine go_iconst 1 1010 dL_law_1009 rfl (by decide) ?_
            refine go_goto 1014 dL_law_1010 (by decide) ?_
            refine go_cVI3 1 clX11 cwL_126 (m_X11_feel w 0 isK0 (xs (x4 + 1).toNatClampNeg) (xs (x4 + 2).toNatClampNeg) 1 M) isK0 1017 dL_law_1014 rfl ⟨Nat.le_of_ble_eq_true rfl, Nat.le_of_ble_eq_true rfl⟩ hK1 (Nat.le_of_ble_eq_true rfl) (fun q108 M107 _ => ?_)
            refine go_aload_n 2 1018 dL_law_1017 rfl rfl ?_
            refine go_aload_n 0 1019 dL_law_1018 rfl rfl ?_
            refine go_iload 4 1021 dL_law_1019 rfl rfl ?_
            refine go_iconst 1 1022 dL_law_1021 rfl (by decide) ?_
            refine go_iadd 1023 dL_law_1022 rfl ?_
            refine go_sld 1024 dL_law_1023 rfl ?_
            refine go_aload_n 0 1025 dL_law_1024 rfl rfl ?_
            refine go_iload 4 1027 dL_law_1025 rfl rfl ?_
            refine go_iconst 2 1028 dL_law_1027 rfl (by decide) ?_
            refine go_iadd 1029 dL_law_1028 rfl ?_
            refine go_sld 1030 dL_law_1029 rfl ?_
            refine go_aload_n 0 1031 dL_law_1030 rfl rfl ?_
            refine go_iload 4 1033 dL_law_1031 rfl rfl ?_
            refine go_iconst 3 1034 dL_law_1033 rfl (by decide) ?_
            refine go_iadd 1035 dL_law_1034 rfl ?_
            refine go_sld 1036 dL_law_1035 rfl ?_
            refine go_if_eq 1043 1039 dL_law_1036 rfl (by decide) (fun _ => ?_) (fun _ => ?_)
            · refine go_iconst 0 1044 dL_law_1043 rfl (by decide) ?_
              refine go_cVI3 2 clX12 cwL_130 (m_X12_feel w 163 isK163 (xs (x4 + 1).toNatClampNeg) (xs (x4 + 2).toNatClampNeg) 0 M107) isK163 1047 dL_law_1044 rfl ⟨Nat.le_of_ble_eq_true rfl, Nat.le_of_ble_eq_true rfl⟩ hK1 (Nat.le_of_ble_eq_true rfl) (fun q110 M109 _ => ?_)
              refine go_icmp_eq 1512 1050 dL_law_1047 rfl (by decide) (fun _ => ?_) (fun _ => ?_)
              · refine go_iinc (x4 + 7) 4 [(4, .int (x4 + 7)), (0, .ref b), (1, .ref (gB G + 0)), (2, .ref (gB G + 163)), (3, .ref (gB G + 185))] 1515 dL_law_1512 rfl rfl rfl (by decide) rfl ?_
                refine go_goto 23 dL_law_1515 (by decide) ?_
                exact go_lv [1, 2, 3, 4, 0] rfl (ih kc ks (by omega) (by omega) (x4 + 7) M109)
              · refine go_iconst 0 1051 dL_law_1050 rfl (by decide) ?_
                exact go_lawret dL_law_1051 hK1
            · refine go_iconst 1 1040 dL_law_1039 rfl (by decide) ?_
              refine go_goto 1044 dL_law_1040 (by decide) ?_
              refine go_cVI3 2 clX12 cwL_130 (m_X12_feel w 163 isK163 (xs (x4 + 1).toNatClampNeg) (xs (x4 + 2).toNatClampNeg) 1 M107) isK163 1047 dL_law_1044 rfl ⟨Nat.le_of_ble_eq_true rfl, Nat.le_of_ble_eq_true rfl⟩ hK1 (Nat.le_of_ble_eq_true rfl) (fun q112 M111 _ => ?_)
              refine go_icmp_eq 1512 1050 dL_law_1047 rfl (by decide) (fun _ => ?_) (fun _ => ?_)
              · refine go_iinc (x4 + 7) 4 [(4, .int (x4 + 7)), (0, .ref b), (1, .ref (gB G + 0)), (2, .ref (gB G + 163)), (3, .ref (gB G + 185))] 1515 dL_law_1512 rfl rfl rfl (by decide) rfl ?_
                refine go_goto 23 dL_law_1515 (by decide) ?_
                exact go_lv [1, 2, 3, 4, 0] rfl (ih kc ks (by omega) (by omega) (x4 + 7) M111)
              · refine go_iconst 0 1051 dL_law_1050 rfl (by decide) ?_
                exact go_lawret dL_law_1051 hK1
        · refine ⟨1012, 1052, by rw [g]; rfl, by decide, ?_⟩
          rw [g]
          simp only [if_pos, reduceIte, Int.reduceEq, Int.reduceNeg]
          refine go_aload_n 1 1053 dL_law_1052 rfl rfl ?_
          refine go_cVI0 6 clX11 cwL_131 (m_X11_wets w 0 isK0 M) isK0 1056 dL_law_1053 rfl ⟨Nat.le_of_ble_eq_true rfl, Nat.le_of_ble_eq_true rfl⟩ hK1 (Nat.le_of_ble_eq_true rfl) (fun q114 M113 _ => ?_)
          refine go_aload_n 2 1057 dL_law_1056 rfl rfl ?_
          refine go_cVI0 5 clX12 cwL_134 (m_X12_wets w 163 isK163 M113) isK163 1060 dL_law_1057 rfl ⟨Nat.le_of_ble_eq_true rfl, Nat.le_of_ble_eq_true rfl⟩ hK1 (Nat.le_of_ble_eq_true rfl) (fun q116 M115 _ => ?_)
          refine go_icmp_eq 1512 1063 dL_law_1060 rfl (by decide) (fun _ => ?_) (fun _ => ?_)
          · refine go_iinc (x4 + 7) 4 [(4, .int (x4 + 7)), (0, .ref b), (1, .ref (gB G + 0)), (2, .ref (gB G + 163)), (3, .ref (gB G + 185))] 1515 dL_law_1512 rfl rfl rfl (by decide) rfl ?_
            refine go_goto 23 dL_law_1515 (by decide) ?_
            exact go_lv [1, 2, 3, 4, 0] rfl (ih kc ks (by omega) (by omega) (x4 + 7) M115)
          · refine go_iconst 0 1064 dL_law_1063 rfl (by decide) ?_
            exact go_lawret dL_law_1064 hK1
        · refine ⟨1025, 1065, by rw [g]; rfl, by decide, ?_⟩
          rw [g]
          simp only [if_pos, reduceIte, Int.reduceEq, Int.reduceNeg]
          refine go_aload_n 1 1066 dL_law_1065 rfl rfl ?_
          refine go_cVI0 6 clX11 cwL_135 (m_X11_tries w 0 isK0 M) isK0 1069 dL_law_1066 rfl ⟨Nat.le_of_ble_eq_true rfl, Nat.le_of_ble_eq_true rfl⟩ hK1 (Nat.le_of_ble_eq_true rfl) (fun q118 M117 _ => ?_)
          refine go_aload_n 2 1070 dL_law_1069 rfl rfl ?_
          refine go_cVI0 5 clX12 cwL_138 (m_X12_tries w 163 isK163 M117) isK163 1073 dL_law_1070 rfl ⟨Nat.le_of_ble_eq_true rfl, Nat.le_of_ble_eq_true rfl⟩ hK1 (Nat.le_of_ble_eq_true rfl) (fun q120 M119 _ => ?_)
          refine go_icmp_eq 1512 1076 dL_law_1073 rfl (by decide) (fun _ => ?_) (fun _ => ?_)
          · refine go_iinc (x4 + 7) 4 [(4, .int (x4 + 7)), (0, .ref b), (1, .ref (gB G + 0)), (2, .ref (gB G + 163)), (3, .ref (gB G + 185))] 1515 dL_law_1512 rfl rfl rfl (by decide) rfl ?_
            refine go_goto 23 dL_law_1515 (by decide) ?_
            exact go_lv [1, 2, 3, 4, 0] rfl (ih kc ks (by omega) (by omega) (x4 + 7) M119)
          · refine go_iconst 0 1077 dL_law_1076 rfl (by decide) ?_
            exact go_lawret dL_law_1077 hK1
        · refine ⟨1038, 1078, by rw [g]; rfl, by decide, ?_⟩
          rw [g]
          simp only [if_pos, reduceIte, Int.reduceEq, Int.reduceNeg]
          refine go_aload_n 1 1079 dL_law_1078 rfl rfl ?_
          refine go_aload_n 0 1080 dL_law_1079 rfl rfl ?_
          refine go_iload 4 1082 dL_law_1080 rfl rfl ?_
          refine go_iconst 1 1083 dL_law_1082 rfl (by decide) ?_
          refine go_iadd 1084 dL_law_1083 rfl ?_
          refine go_sld 1085 dL_law_1084 rfl ?_
          refine go_aload_n 0 1086 dL_law_1085 rfl rfl ?_
          refine go_iload 4 1088 dL_law_1086 rfl rfl ?_
          refine go_iconst 2 1089 dL_law_1088 rfl (by decide) ?_
          refine go_iadd 1090 dL_law_1089 rfl ?_
          refine go_sld 1091 dL_law_1090 rfl ?_
          refine go_cVI2 1 clX11 cwL_139 (m_X11_say w 0 isK0 (xs (x4 + 1).toNatClampNeg) (xs (x4 + 2).toNatClampNeg) M) isK0 1094 dL_law_1091 rfl ⟨Nat.le_of_ble_eq_true rfl, Nat.le_of_ble_eq_true rfl⟩ hK1 (Nat.le_of_ble_eq_true rfl) (fun q122 M121 _ => ?_)
          refine go_aload_n 2 1095 dL_law_1094 rfl rfl ?_
          refine go_aload_n 0 1096 dL_law_1095 rfl rfl ?_
          refine go_iload 4 1098 dL_law_1096 rfl rfl ?_
          refine go_iconst 1 1099 dL_law_1098 rfl (by decide) ?_
          refine go_iadd 1100 dL_law_1099 rfl ?_
          refine go_sld 1101 dL_law_1100 rfl ?_
          refine go_aload_n 0 1102 dL_law_1101 rfl rfl ?_
          refine go_iload 4 1104 dL_law_1102 rfl rfl ?_
          refine go_iconst 2 1105 dL_law_1104 rfl (by decide) ?_
          refine go_iadd 1106 dL_law_1105 rfl ?_
          refine go_sld 1107 dL_law_1106 rfl ?_
          refine go_cVI2 2 clX12 cwL_143 (m_X12_say w 163 isK163 (xs (x4 + 1).toNatClampNeg) (xs (x4 + 2).toNatClampNeg) M121) isK163 1110 dL_law_1107 rfl ⟨Nat.le_of_ble_eq_true rfl, Nat.le_of_ble_eq_true rfl⟩ hK1 (Nat.le_of_ble_eq_true rfl) (fun q124 M123 _ => ?_)
          refine go_icmp_eq 1512 1113 dL_law_1110 rfl (by decide) (fun _ => ?_) (fun _ => ?_)
          · refine go_iinc (x4 + 7) 4 [(4, .int (x4 + 7)), (0, .ref b), (1, .ref (gB G + 0)), (2, .ref (gB G + 163)), (3, .ref (gB G + 185))] 1515 dL_law_1512 rfl rfl rfl (by decide) rfl ?_
            refine go_goto 23 dL_law_1515 (by decide) ?_
            exact go_lv [1, 2, 3, 4, 0] rfl (ih kc ks (by omega) (by omega) (x4 + 7) M123)
          · refine go_iconst 0 1114 dL_law_1113 rfl (by decide) ?_
            exact go_lawret dL_law_1114 hK1
        · refine ⟨1075, 1115, by rw [g]; rfl, by decide, ?_⟩
          rw [g]
          simp only [if_pos, reduceIte, Int.reduceEq, Int.reduceNeg]
          refine go_aload_n 1 1116 dL_law_1115 rfl rfl ?_
          refine go_cVI0 6 clX11 cwL_144 (m_X11_who w 0 isK0 M) isK0 1119 dL_law_1116 rfl ⟨Nat.le_of_ble_eq_true rfl, Nat.le_of_ble_eq_true rfl⟩ hK1 (Nat.le_of_ble_eq_true rfl) (fun q126 M125 _ => ?_)
          refine go_aload_n 2 1120 dL_law_1119 rfl rfl ?_
          refine go_cVI0 6 clX12 cwL_147 (m_X12_who w 163 isK163 M125) isK163 1123 dL_law_1120 rfl ⟨Nat.le_of_ble_eq_true rfl, Nat.le_of_ble_eq_true rfl⟩ hK1 (Nat.le_of_ble_eq_true rfl) (fun q128 M127 _ => ?_)
          refine go_icmp_eq 1512 1126 dL_law_1123 rfl (by decide) (fun _ => ?_) (fun _ => ?_)
          · refine go_iinc (x4 + 7) 4 [(4, .int (x4 + 7)), (0, .ref b), (1, .ref (gB G + 0)), (2, .ref (gB G + 163)), (3, .ref (gB G + 185))] 1515 dL_law_1512 rfl rfl rfl (by decide) rfl ?_
            refine go_goto 23 dL_law_1515 (by decide) ?_
            exact go_lv [1, 2, 3, 4, 0] rfl (ih kc ks (by omega) (by omega) (x4 + 7) M127)
          · refine go_iconst 0 1127 dL_law_1126 rfl (by decide) ?_
            exact go_lawret dL_law_1127 hK1
        · refine ⟨1088, 1128, by rw [g]; rfl, by decide, ?_⟩
          rw [g]
          simp only [if_pos, reduceIte, Int.reduceEq, Int.reduceNeg]
          refine go_aload_n 1 1129 dL_law_1128 rfl rfl ?_
          refine go_cVI0 0 clX11 cwL_148 (m_X11_rattles w 0 isK0 M) isK0 1132 dL_law_1129 rfl ⟨Nat.le_of_ble_eq_true rfl, Nat.le_of_ble_eq_true rfl⟩ hK1 (Nat.le_of_ble_eq_true rfl) (fun q130 M129 _ => ?_)
          refine go_aload_n 2 1133 dL_law_1132 rfl rfl ?_
          refine go_cVI0 1 clX12 cwL_151 (m_X12_rattles w 163 isK163 M129) isK163 1136 dL_law_1133 rfl ⟨Nat.le_of_ble_eq_true rfl, Nat.le_of_ble_eq_true rfl⟩ hK1 (Nat.le_of_ble_eq_true rfl) (fun q132 M131 _ => ?_)
          refine go_icmp_eq 1512 1139 dL_law_1136 rfl (by decide) (fun _ => ?_) (fun _ => ?_)
          · refine go_iinc (x4 + 7) 4 [(4, .int (x4 + 7)), (0, .ref b), (1, .ref (gB G + 0)), (2, .ref (gB G + 163)), (3, .ref (gB G + 185))] 1515 dL_law_1512 rfl rfl rfl (by decide) rfl ?_
            refine go_goto 23 dL_law_1515 (by decide) ?_
            exact go_lv [1, 2, 3, 4, 0] rfl (ih kc ks (by omega) (by omega) (x4 + 7) M131)
          · refine go_iconst 0 1140 dL_law_1139 rfl (by decide) ?_
            exact go_lawret dL_law_1140 hK1
        · refine ⟨1101, 1141, by rw [g]; rfl, by decide, ?_⟩
          rw [g]
          simp only [if_pos, reduceIte, Int.reduceEq, Int.reduceNeg]
          refine go_aload_n 1 1142 dL_law_1141 rfl rfl ?_
          refine go_cVI0 4 clX11 cwL_152 (m_X11_parts w 0 isK0 M) isK0 1145 dL_law_1142 rfl ⟨Nat.le_of_ble_eq_true rfl, Nat.le_of_ble_eq_true rfl⟩ hK1 (Nat.le_of_ble_eq_true rfl) (fun q134 M133 _ => ?_)
          refine go_aload_n 2 1146 dL_law_1145 rfl rfl ?_
          refine go_cVI0 4 clX12 cwL_155 (m_X12_parts w 163 isK163 M133) isK163 1149 dL_law_1146 rfl ⟨Nat.le_of_ble_eq_true rfl, Nat.le_of_ble_eq_true rfl⟩ hK1 (Nat.le_of_ble_eq_true rfl) (fun q136 M135 _ => ?_)
          refine go_icmp_eq 1512 1152 dL_law_1149 rfl (by decide) (fun _ => ?_) (fun _ => ?_)
          · refine go_iinc (x4 + 7) 4 [(4, .int (x4 + 7)), (0, .ref b), (1, .ref (gB G + 0)), (2, .ref (gB G + 163)), (3, .ref (gB G + 185))] 1515 dL_law_1512 rfl rfl rfl (by decide) rfl ?_
            refine go_goto 23 dL_law_1515 (by decide) ?_
            exact go_lv [1, 2, 3, 4, 0] rfl (ih kc ks (by omega) (by omega) (x4 + 7) M135)
          · refine go_iconst 0 1153 dL_law_1152 rfl (by decide) ?_
            exact go_lawret dL_law_1153 hK1
        · refine ⟨1114, 1154, by rw [g]; rfl, by decide, ?_⟩
          rw [g]
          simp only [if_pos, reduceIte, Int.reduceEq, Int.reduceNeg]
          refine go_aload_n 1 1155 dL_law_1154 rfl rfl ?_
          refine go_cVI0 4 clX11 cwL_156 (m_X11_bride w 0 isK0 M) isK0 1158 dL_law_1155 rfl ⟨Nat.le_of_ble_eq_true rfl, Nat.le_of_ble_eq_true rfl⟩ hK1 (Nat.le_of_ble_eq_true rfl) (fun q138 M137 _ => ?_)
          refine go_aload_n 2 1159 dL_law_1158 rfl rfl ?_
          refine go_cVI0 4 clX12 cwL_159 (m_X12_bride w 163 isK163 M137) isK163 1162 dL_law_1159 rfl ⟨Nat.le_of_ble_eq_true rfl, Nat.le_of_ble_eq_true rfl⟩ hK1 (Nat.le_of_ble_eq_true rfl) (fun q140 M139 _ => ?_)
          refine go_icmp_eq 1512 1165 dL_law_1162 rfl (by decide) (fun _ => ?_) (fun _ => ?_)
          · refine go_iinc (x4 + 7) 4 [(4, .int (x4 + 7)), (0, .ref b), (1, .ref (gB G + 0)), (2, .ref (gB G + 163)), (3, .ref (gB G + 185))] 1515 dL_law_1512 rfl rfl rfl (by decide) rfl ?_
            refine go_goto 23 dL_law_1515 (by decide) ?_
            exact go_lv [1, 2, 3, 4, 0] rfl (ih kc ks (by omega) (by omega) (x4 + 7) M139)
          · refine go_iconst 0 1166 dL_law_1165 rfl (by decide) ?_
            exact go_lawret dL_law_1166 hK1
        · refine ⟨1127, 1167, by rw [g]; rfl, by decide, ?_⟩
          rw [g]
          simp only [if_pos, reduceIte, Int.reduceEq, Int.reduceNeg]
          refine go_aload_n 1 1168 dL_law_1167 rfl rfl ?_
          refine go_cVI0 2 clX11 cwL_160 (m_X11_worst w 0 isK0 M) isK0 1171 dL_law_1168 rfl ⟨Nat.le_of_ble_eq_true rfl, Nat.le_of_ble_eq_true rfl⟩ hK1 (Nat.le_of_ble_eq_true rfl) (fun q142 M141 _ => ?_)
          refine go_aload_n 2 1172 dL_law_1171 rfl rfl ?_
          refine go_cVI0 2 clX12 cwL_163 (m_X12_worst w 163 isK163 M141) isK163 1175 dL_law_1172 rfl ⟨Nat.le_of_ble_eq_true rfl, Nat.le_of_ble_eq_true rfl⟩ hK1 (Nat.le_of_ble_eq_true rfl) (fun q144 M143 _ => ?_)
          refine go_icmp_eq 1512 1178 dL_law_1175 rfl (by decide) (fun _ => ?_) (fun _ => ?_)
          · refine go_iinc (x4 + 7) 4 [(4, .int (x4 + 7)), (0, .ref b), (1, .ref (gB G + 0)), (2, .ref (gB G + 163)), (3, .ref (gB G + 185))] 1515 dL_law_1512 rfl rfl rfl (by decide) rfl ?_
            refine go_goto 23 dL_law_1515 (by decide) ?_
            exact go_lv [1, 2, 3, 4, 0] rfl (ih kc ks (by omega) (by omega) (x4 + 7) M143)
          · refine go_iconst 0 1179 dL_law_1178 rfl (by decide) ?_
            exact go_lawret dL_law_1179 hK1
        · refine ⟨1140, 1180, by rw [g]; rfl, by decide, ?_⟩
          rw [g]
          simp only [if_pos, reduceIte, Int.reduceEq, Int.reduceNeg]
          refine go_aload_n 1 1181 dL_law_1180 rfl rfl ?_
          refine go_cVI0 4 clX11 cwL_164 (m_X11_spared w 0 isK0 M) isK0 1184 dL_law_1181 rfl ⟨Nat.le_of_ble_eq_true rfl, Nat.le_of_ble_eq_true rfl⟩ hK1 (Nat.le_of_ble_eq_true rfl) (fun q146 M145 _ => ?_)
          refine go_aload_n 2 1185 dL_law_1184 rfl rfl ?_
          refine go_cVI0 4 clX12 cwL_167 (m_X12_spared w 163 isK163 M145) isK163 1188 dL_law_1185 rfl ⟨Nat.le_of_ble_eq_true rfl, Nat.le_of_ble_eq_true rfl⟩ hK1 (Nat.le_of_ble_eq_true rfl) (fun q148 M147 _ => ?_)
          refine go_icmp_eq 1512 1191 dL_law_1188 rfl (by decide) (fun _ => ?_) (fun _ => ?_)
          · refine go_iinc (x4 + 7) 4 [(4, .int (x4 + 7)), (0, .ref b), (1, .ref (gB G + 0)), (2, .ref (gB G + 163)), (3, .ref (gB G + 185))] 1515 dL_law_1512 rfl rfl rfl (by decide) rfl ?_
            refine go_goto 23 dL_law_1515 (by decide) ?_
            exact go_lv [1, 2, 3, 4, 0] rfl (ih kc ks (by omega) (by omega) (x4 + 7) M147)
          · refine go_iconst 0 1192 dL_law_1191 rfl (by decide) ?_
            exact go_lawret dL_law_1192 hK1
        · refine ⟨1153, 1193, by rw [g]; rfl, by decide, ?_⟩
          rw [g]
          simp only [if_pos, reduceIte, Int.reduceEq, Int.reduceNeg]
          refine go_aload_n 1 1194 dL_law_1193 rfl rfl ?_
          refine go_cVI0 4 clX11 cwL_168 (m_X11_opened w 0 isK0 M) isK0 1197 dL_law_1194 rfl ⟨Nat.le_of_ble_eq_true rfl, Nat.le_of_ble_eq_true rfl⟩ hK1 (Nat.le_of_ble_eq_true rfl) (fun q150 M149 _ => ?_)
          refine go_aload_n 2 1198 dL_law_1197 rfl rfl ?_
          refine go_cVI0 5 clX12 cwL_171 (m_X12_opened w 163 isK163 M149) isK163 1201 dL_law_1198 rfl ⟨Nat.le_of_ble_eq_true rfl, Nat.le_of_ble_eq_true rfl⟩ hK1 (Nat.le_of_ble_eq_true rfl) (fun q152 M151 _ => ?_)
          refine go_icmp_eq 1512 1204 dL_law_1201 rfl (by decide) (fun _ => ?_) (fun _ => ?_)
          · refine go_iinc (x4 + 7) 4 [(4, .int (x4 + 7)), (0, .ref b), (1, .ref (gB G + 0)), (2, .ref (gB G + 163)), (3, .ref (gB G + 185))] 1515 dL_law_1512 rfl rfl rfl (by decide) rfl ?_
            refine go_goto 23 dL_law_1515 (by decide) ?_
            exact go_lv [1, 2, 3, 4, 0] rfl (ih kc ks (by omega) (by omega) (x4 + 7) M151)
          · refine go_iconst 0 1205 dL_law_1204 rfl (by decide) ?_
            exact go_lawret dL_law_1205 hK1
        · refine ⟨1166, 1206, by rw [g]; rfl, by decide, ?_⟩
          rw [g]
          simp only [if_pos, reduceIte, Int.reduceEq, Int.reduceNeg]
          refine go_aload_n 1 1207 dL_law_1206 rfl rfl ?_
          refine go_aload_n 0 1208 dL_law_1207 rfl rfl ?_
          refine go_iload 4 1210 dL_law_1208 rfl rfl ?_
          refine go_iconst 1 1211 dL_law_1210 rfl (by decide) ?_
          refine go_iadd 1212 dL_law_1211 rfl ?_
          refine go_sld 1213 dL_law_1212 rfl ?_
          refine go_cVI1 4 clX11 cwL_172 (m_X11_deep w 0 isK0 (xs (x4 + 1).toNatClampNeg) M) isK0 1216 dL_law_1213 rfl ⟨Nat.le_of_ble_eq_true rfl, Nat.le_of_ble_eq_true rfl⟩ hK1 (Nat.le_of_ble_eq_true rfl) (fun q154 M153 _ => ?_)
          refine go_aload_n 2 1217 dL_law_1216 rfl rfl ?_
          refine go_aload_n 0 1218 dL_law_1217 rfl rfl ?_
          refine go_iload 4 1220 dL_law_1218 rfl rfl ?_
          refine go_iconst 1 1221 dL_law_1220 rfl (by decide) ?_
          refine go_iadd 1222 dL_law_1221 rfl ?_
          refine go_sld 1223 dL_law_1222 rfl ?_
          refine go_cVI1 4 clX12 cwL_175 (m_X12_deep w 163 isK163 (xs (x4 + 1).toNatClampNeg) M153) isK163 1226 dL_law_1223 rfl ⟨Nat.le_of_ble_eq_true rfl, Nat.le_of_ble_eq_true rfl⟩ hK1 (Nat.le_of_ble_eq_true rfl) (fun q156 M155 _ => ?_)
          refine go_icmp_eq 1512 1229 dL_law_1226 rfl (by decide) (fun _ => ?_) (fun _ => ?_)
          · refine go_iinc (x4 + 7) 4 [(4, .int (x4 + 7)), (0, .ref b), (1, .ref (gB G + 0)), (2, .ref (gB G + 163)), (3, .ref (gB G + 185))] 1515 dL_law_1512 rfl rfl rfl (by decide) rfl ?_
            refine go_goto 23 dL_law_1515 (by decide) ?_
            exact go_lv [1, 2, 3, 4, 0] rfl (ih kc ks (by omega) (by omega) (x4 + 7) M155)
          · refine go_iconst 0 1230 dL_law_1229 rfl (by decide) ?_
            exact go_lawret dL_law_1230 hK1
        · refine ⟨1191, 1231, by rw [g]; rfl, by decide, ?_⟩
          rw [g]
          simp only [if_pos, reduceIte, Int.reduceEq, Int.reduceNeg]
          refine go_aload_n 1 1232 dL_law_1231 rfl rfl ?_
          refine go_cVI0 4 clX11 cwL_176 (m_X11_alone w 0 isK0 M) isK0 1235 dL_law_1232 rfl ⟨Nat.le_of_ble_eq_true rfl, Nat.le_of_ble_eq_true rfl⟩ hK1 (Nat.le_of_ble_eq_true rfl) (fun q158 M157 _ => ?_)
          refine go_aload_n 2 1236 dL_law_1235 rfl rfl ?_
          refine go_cVI0 4 clX12 cwL_179 (m_X12_alone w 163 isK163 M157) isK163 1239 dL_law_1236 rfl ⟨Nat.le_of_ble_eq_true rfl, Nat.le_of_ble_eq_true rfl⟩ hK1 (Nat.le_of_ble_eq_true rfl) (fun q160 M159 _ => ?_)
          refine go_icmp_eq 1512 1242 dL_law_1239 rfl (by decide) (fun _ => ?_) (fun _ => ?_)
          · refine go_iinc (x4 + 7) 4 [(4, .int (x4 + 7)), (0, .ref b), (1, .ref (gB G + 0)), (2, .ref (gB G + 163)), (3, .ref (gB G + 185))] 1515 dL_law_1512 rfl rfl rfl (by decide) rfl ?_
            refine go_goto 23 dL_law_1515 (by decide) ?_
            exact go_lv [1, 2, 3, 4, 0] rfl (ih kc ks (by omega) (by omega) (x4 + 7) M159)
          · refine go_iconst 0 1243 dL_law_1242 rfl (by decide) ?_
            exact go_lawret dL_law_1243 hK1
        · refine ⟨1204, 1244, by rw [g]; rfl, by decide, ?_⟩
          rw [g]
          simp only [if_pos, reduceIte, Int.reduceEq, Int.reduceNeg]
          refine go_aload_n 1 1245 dL_law_1244 rfl rfl ?_
          refine go_aload_n 0 1246 dL_law_1245 rfl rfl ?_
          refine go_iload 4 1248 dL_law_1246 rfl rfl ?_
          refine go_iconst 1 1249 dL_law_1248 rfl (by decide) ?_
          refine go_iadd 1250 dL_law_1249 rfl ?_
          refine go_sld 1251 dL_law_1250 rfl ?_
          refine go_aload_n 0 1252 dL_law_1251 rfl rfl ?_
          refine go_iload 4 1254 dL_law_1252 rfl rfl ?_
          refine go_iconst 2 1255 dL_law_1254 rfl (by decide) ?_
          refine go_iadd 1256 dL_law_1255 rfl ?_
          refine go_sld 1257 dL_law_1256 rfl ?_
          refine go_aload_n 0 1258 dL_law_1257 rfl rfl ?_
          refine go_iload 4 1260 dL_law_1258 rfl rfl ?_
          refine go_iconst 3 1261 dL_law_1260 rfl (by decide) ?_
          refine go_iadd 1262 dL_law_1261 rfl ?_
          refine go_sld 1263 dL_law_1262 rfl ?_
          refine go_cVI3 4 clX11 cwL_180 (m_X11_chance w 0 isK0 (xs (x4 + 1).toNatClampNeg) (xs (x4 + 2).toNatClampNeg) (xs (x4 + 3).toNatClampNeg) M) isK0 1266 dL_law_1263 rfl ⟨Nat.le_of_ble_eq_true rfl, Nat.le_of_ble_eq_true rfl⟩ hK1 (Nat.le_of_ble_eq_true rfl) (fun q162 M161 _ => ?_)
          refine go_aload_n 2 1267 dL_law_1266 rfl rfl ?_
          refine go_aload_n 0 1268 dL_law_1267 rfl rfl ?_
          refine go_iload 4 1270 dL_law_1268 rfl rfl ?_
          refine go_iconst 1 1271 dL_law_1270 rfl (by decide) ?_
          refine go_iadd 1272 dL_law_1271 rfl ?_
          refine go_sld 1273 dL_law_1272 rfl ?_
          refine go_aload_n 0 1274 dL_law_1273 rfl rfl ?_
          refine go_iload 4 1276 dL_law_1274 rfl rfl ?_
          refine go_iconst 2 1277 dL_law_1276 rfl (by decide) ?_
          refine go_iadd 1278 dL_law_1277 rfl ?_
          refine go_sld 1279 dL_law_1278 rfl ?_
          refine go_aload_n 0 1280 dL_law_1279 rfl rfl ?_
          refine go_iload 4 1282 dL_law_1280 rfl rfl ?_
          refine go_iconst 3 1283 dL_law_1282 rfl (by decide) ?_
          refine go_iadd 1284 dL_law_1283 rfl ?_
          refine go_sld 1285 dL_law_1284 rfl ?_
          refine go_cVI3 4 clX12 cwL_184 (m_X12_chance w 163 isK163 (xs (x4 + 1).toNatClampNeg) (xs (x4 + 2).toNatClampNeg) (xs (x4 + 3).toNatClampNeg) M161) isK163 1288 dL_law_1285 rfl ⟨Nat.le_of_ble_eq_true rfl, Nat.le_of_ble_eq_true rfl⟩ hK1 (Nat.le_of_ble_eq_true rfl) (fun q164 M163 _ => ?_)
          refine go_icmp_eq 1512 1291 dL_law_1288 rfl (by decide) (fun _ => ?_) (fun _ => ?_)
          · refine go_iinc (x4 + 7) 4 [(4, .int (x4 + 7)), (0, .ref b), (1, .ref (gB G + 0)), (2, .ref (gB G + 163)), (3, .ref (gB G + 185))] 1515 dL_law_1512 rfl rfl rfl (by decide) rfl ?_
            refine go_goto 23 dL_law_1515 (by decide) ?_
            exact go_lv [1, 2, 3, 4, 0] rfl (ih kc ks (by omega) (by omega) (x4 + 7) M163)
          · refine go_iconst 0 1292 dL_law_1291 rfl (by decide) ?_
            exact go_lawret dL_law_1292 hK1
        · refine ⟨1253, 1293, by rw [g]; rfl, by decide, ?_⟩
          rw [g]
          simp only [if_pos, reduceIte, Int.reduceEq, Int.reduceNeg]
          refine go_aload_n 1 1294 dL_law_1293 rfl rfl ?_
          refine go_aload_n 0 1295 dL_law_1294 rfl rfl ?_
          refine go_iload 4 1297 dL_law_1295 rfl rfl ?_
          refine go_iconst 1 1298 dL_law_1297 rfl (by decide) ?_
          refine go_iadd 1299 dL_law_1298 rfl ?_
          refine go_sld 1300 dL_law_1299 rfl ?_
          refine go_aload_n 0 1301 dL_law_1300 rfl rfl ?_
          refine go_iload 4 1303 dL_law_1301 rfl rfl ?_
          refine go_iconst 2 1304 dL_law_1303 rfl (by decide) ?_
          refine go_iadd 1305 dL_law_1304 rfl ?_
          refine go_sld 1306 dL_law_1305 rfl ?_
          refine go_aload_n 0 1307 dL_law_1306 rfl rfl ?_
          refine go_iload 4 1309 dL_law_1307 rfl rfl ?_
          refine go_iconst 3 1310 dL_law_1309 rfl (by decide) ?_
          refine go_iadd 1311 dL_law_1310 rfl ?_
          refine go_sld 1312 dL_law_1311 rfl ?_
          refine go_aload_n 0 1313 dL_law_1312 rfl rfl ?_
          refine go_iload 4 1315 dL_law_1313 rfl rfl ?_
          refine go_iconst 4 1316 dL_law_1315 rfl (by decide) ?_
          refine go_iadd 1317 dL_law_1316 rfl ?_
          refine go_sld 1318 dL_law_1317 rfl ?_
          refine go_aload_n 3 1319 dL_law_1318 rfl rfl ?_
          refine hR kc ks (xs (x4 + 1).toNatClampNeg) (xs (x4 + 2).toNatClampNeg) (xs (x4 + 3).toNatClampNeg) (xs (x4 + 4).toNatClampNeg) M hK2 1322 dL_law_1319 rfl (fun q166 M165 _ => ?_)
          refine go_istore [(5, .int q166), (0, .ref b), (1, .ref (gB G + 0)), (2, .ref (gB G + 163)), (3, .ref (gB G + 185)), (4, .int x4)] 1324 dL_law_1322 rfl (by decide) rfl ?_
          refine go_aload_n 3 1325 dL_law_1324 rfl rfl ?_
          refine go_aload_n 1 1326 dL_law_1325 rfl rfl ?_
          refine go_iload 5 1328 dL_law_1326 rfl rfl ?_
          refine go_iconst 1 1329 dL_law_1328 rfl (by decide) ?_
          refine go_iadd 1330 dL_law_1329 rfl ?_
          refine go_sld 1331 dL_law_1330 rfl ?_
          refine go_aload_n 1 1332 dL_law_1331 rfl rfl ?_
          refine go_iload 5 1334 dL_law_1332 rfl rfl ?_
          refine go_iconst 2 1335 dL_law_1334 rfl (by decide) ?_
          refine go_iadd 1336 dL_law_1335 rfl ?_
          refine go_sld 1337 dL_law_1336 rfl ?_
          refine go_aload_n 1 1338 dL_law_1337 rfl rfl ?_
          refine go_iload 5 1340 dL_law_1338 rfl rfl ?_
          refine go_iconst 3 1341 dL_law_1340 rfl (by decide) ?_
          refine go_iadd 1342 dL_law_1341 rfl ?_
          refine go_sld 1343 dL_law_1342 rfl ?_
          refine go_aload_n 1 1344 dL_law_1343 rfl rfl ?_
          refine go_iload 5 1346 dL_law_1344 rfl rfl ?_
          refine go_iconst 4 1347 dL_law_1346 rfl (by decide) ?_
          refine go_iadd 1348 dL_law_1347 rfl ?_
          refine go_sld 1349 dL_law_1348 rfl ?_
          refine go_cVI4 1 clX12 cwL_190 (m_X12_rests w 163 isK163 (xs (x4 + 1).toNatClampNeg) (xs (x4 + 2).toNatClampNeg) (xs (x4 + 3).toNatClampNeg) (xs (x4 + 4).toNatClampNeg) M165) isK163 1352 dL_law_1349 rfl ⟨Nat.le_of_ble_eq_true rfl, Nat.le_of_ble_eq_true rfl⟩ hK2 (Nat.le_of_ble_eq_true rfl) (fun q168 M167 _ => ?_)
          refine go_istore [(6, .int q168), (5, .int q166), (0, .ref b), (1, .ref (gB G + 0)), (2, .ref (gB G + 163)), (3, .ref (gB G + 185)), (4, .int x4)] 1354 dL_law_1352 rfl (by decide) rfl ?_
          refine go_aload_n 4 1355 dL_law_1354 rfl rfl ?_
          refine go_cVI0 0 clX12 cwL_191 (m_X12_thrown w 163 isK163 M167) isK163 1358 dL_law_1355 rfl ⟨Nat.le_of_ble_eq_true rfl, Nat.le_of_ble_eq_true rfl⟩ hK2 (Nat.le_of_ble_eq_true rfl) (fun q170 M169 _ => ?_)
          refine go_iload 1 1360 dL_law_1358 rfl rfl ?_
          refine go_icmp_eq 1365 1363 dL_law_1360 rfl (by decide) (fun _ => ?_) (fun _ => ?_)
          · refine go_iload 1 1367 dL_law_1365 rfl rfl ?_
            refine go_if_ne 1382 1370 dL_law_1367 rfl (by decide) (fun _ => ?_) (fun _ => ?_)
            · refine go_goto 1512 dL_law_1382 (by decide) ?_
              refine go_iinc (x4 + 7) 6 [(4, .int (x4 + 7)), (6, .int q168), (5, .int q166), (0, .ref b), (1, .ref (gB G + 0)), (2, .ref (gB G + 163)), (3, .ref (gB G + 185))] 1515 dL_law_1512 rfl rfl rfl (by decide) rfl ?_
              refine go_goto 23 dL_law_1515 (by decide) ?_
              exact go_lv [3, 4, 5, 6, 0] rfl (ih (kc + 1) (ks + 16) (by omega) (by omega) (x4 + 7) M169)
            · refine go_aload_n 5 1371 dL_law_1370 rfl rfl ?_
              refine go_iconst 0 1372 dL_law_1371 rfl (by decide) ?_
              refine go_outld 1373 dL_law_1372 rfl ?_
              refine go_iload 0 1375 dL_law_1373 rfl rfl ?_
              refine go_i2l 1376 dL_law_1375 rfl ?_
              refine go_lcmp 1377 dL_law_1376 rfl ?_
              refine go_if_eq 1382 1380 dL_law_1377 rfl (by decide) (fun _ => ?_) (fun _ => ?_)
              · refine go_goto 1512 dL_law_1382 (by decide) ?_
                refine go_iinc (x4 + 7) 6 [(4, .int (x4 + 7)), (6, .int q168), (5, .int q166), (0, .ref b), (1, .ref (gB G + 0)), (2, .ref (gB G + 163)), (3, .ref (gB G + 185))] 1515 dL_law_1512 rfl rfl rfl (by decide) rfl ?_
                refine go_goto 23 dL_law_1515 (by decide) ?_
                exact go_lv [3, 4, 5, 6, 0] rfl (ih (kc + 1) (ks + 16) (by omega) (by omega) (x4 + 7) M169)
              · refine go_iconst 0 1381 dL_law_1380 rfl (by decide) ?_
                exact go_lawret dL_law_1381 hK2
          · refine go_iconst 0 1364 dL_law_1363 rfl (by decide) ?_
            exact go_lawret dL_law_1364 hK2
        · refine ⟨1345, 1385, by rw [g]; rfl, by decide, ?_⟩
          rw [g]
          simp only [if_pos, reduceIte, Int.reduceEq, Int.reduceNeg]
          refine go_aload_n 1 1386 dL_law_1385 rfl rfl ?_
          refine go_aload_n 0 1387 dL_law_1386 rfl rfl ?_
          refine go_iload 4 1389 dL_law_1387 rfl rfl ?_
          refine go_iconst 1 1390 dL_law_1389 rfl (by decide) ?_
          refine go_iadd 1391 dL_law_1390 rfl ?_
          refine go_sld 1392 dL_law_1391 rfl ?_
          refine go_aload_n 0 1393 dL_law_1392 rfl rfl ?_
          refine go_iload 4 1395 dL_law_1393 rfl rfl ?_
          refine go_iconst 2 1396 dL_law_1395 rfl (by decide) ?_
          refine go_iadd 1397 dL_law_1396 rfl ?_
          refine go_sld 1398 dL_law_1397 rfl ?_
          refine go_aload_n 0 1399 dL_law_1398 rfl rfl ?_
          refine go_iload 4 1401 dL_law_1399 rfl rfl ?_
          refine go_iconst 3 1402 dL_law_1401 rfl (by decide) ?_
          refine go_iadd 1403 dL_law_1402 rfl ?_
          refine go_sld 1404 dL_law_1403 rfl ?_
          refine go_cVI3 5 clX11 cwL_194 (m_X11_years w 0 isK0 (xs (x4 + 1).toNatClampNeg) (xs (x4 + 2).toNatClampNeg) (xs (x4 + 3).toNatClampNeg) M) isK0 1407 dL_law_1404 rfl ⟨Nat.le_of_ble_eq_true rfl, Nat.le_of_ble_eq_true rfl⟩ hK1 (Nat.le_of_ble_eq_true rfl) (fun q172 M171 _ => ?_)
          refine go_aload_n 2 1408 dL_law_1407 rfl rfl ?_
          refine go_aload_n 0 1409 dL_law_1408 rfl rfl ?_
          refine go_iload 4 1411 dL_law_1409 rfl rfl ?_
          refine go_iconst 1 1412 dL_law_1411 rfl (by decide) ?_
          refine go_iadd 1413 dL_law_1412 rfl ?_
          refine go_sld 1414 dL_law_1413 rfl ?_
          refine go_aload_n 0 1415 dL_law_1414 rfl rfl ?_
          refine go_iload 4 1417 dL_law_1415 rfl rfl ?_
          refine go_iconst 2 1418 dL_law_1417 rfl (by decide) ?_
          refine go_iadd 1419 dL_law_1418 rfl ?_
          refine go_sld 1420 dL_law_1419 rfl ?_
          refine go_aload_n 0 1421 dL_law_1420 rfl rfl ?_
          refine go_iload 4 1423 dL_law_1421 rfl rfl ?_
          refine go_iconst 3 1424 dL_law_1423 rfl (by decide) ?_
          refine go_iadd 1425 dL_law_1424 rfl ?_
          refine go_sld 1426 dL_law_1425 rfl ?_
          refine go_cVI3 5 clX12 cwL_197 (m_X12_years w 163 isK163 (xs (x4 + 1).toNatClampNeg) (xs (x4 + 2).toNatClampNeg) (xs (x4 + 3).toNatClampNeg) M171) isK163 1429 dL_law_1426 rfl ⟨Nat.le_of_ble_eq_true rfl, Nat.le_of_ble_eq_true rfl⟩ hK1 (Nat.le_of_ble_eq_true rfl) (fun q174 M173 _ => ?_)
          refine go_icmp_eq 1512 1432 dL_law_1429 rfl (by decide) (fun _ => ?_) (fun _ => ?_)
          · refine go_iinc (x4 + 7) 4 [(4, .int (x4 + 7)), (0, .ref b), (1, .ref (gB G + 0)), (2, .ref (gB G + 163)), (3, .ref (gB G + 185))] 1515 dL_law_1512 rfl rfl rfl (by decide) rfl ?_
            refine go_goto 23 dL_law_1515 (by decide) ?_
            exact go_lv [1, 2, 3, 4, 0] rfl (ih kc ks (by omega) (by omega) (x4 + 7) M173)
          · refine go_iconst 0 1433 dL_law_1432 rfl (by decide) ?_
            exact go_lawret dL_law_1433 hK1
        · refine ⟨1394, 1434, by rw [g]; rfl, by decide, ?_⟩
          rw [g]
          simp only [if_pos, reduceIte, Int.reduceEq, Int.reduceNeg]
          refine go_aload_n 1 1435 dL_law_1434 rfl rfl ?_
          refine go_aload_n 0 1436 dL_law_1435 rfl rfl ?_
          refine go_iload 4 1438 dL_law_1436 rfl rfl ?_
          refine go_iconst 1 1439 dL_law_1438 rfl (by decide) ?_
          refine go_iadd 1440 dL_law_1439 rfl ?_
          refine go_sld 1441 dL_law_1440 rfl ?_
          refine go_aload_n 0 1442 dL_law_1441 rfl rfl ?_
          refine go_iload 4 1444 dL_law_1442 rfl rfl ?_
          refine go_iconst 2 1445 dL_law_1444 rfl (by decide) ?_
          refine go_iadd 1446 dL_law_1445 rfl ?_
          refine go_sld 1447 dL_law_1446 rfl ?_
          refine go_if_eq 1454 1450 dL_law_1447 rfl (by decide) (fun _ => ?_) (fun _ => ?_)
          · refine go_iconst 0 1455 dL_law_1454 rfl (by decide) ?_
            refine go_cVI2 3 clX11 cwL_198 (m_X11_mark w 0 isK0 (xs (x4 + 1).toNatClampNeg) 0 M) isK0 1458 dL_law_1455 rfl ⟨Nat.le_of_ble_eq_true rfl, Nat.le_of_ble_eq_true rfl⟩ hK1 (Nat.le_of_ble_eq_true rfl) (fun q176 M175 _ => ?_)
            refine go_aload_n 2 1459 dL_law_1458 rfl rfl ?_
            refine go_aload_n 0 1460 dL_law_1459 rfl rfl ?_
            refine go_iload 4 1462 dL_law_1460 rfl rfl ?_
            refine go_iconst 1 1463 dL_law_1462 rfl (by decide) ?_
            refine go_iadd 1464 dL_law_1463 rfl ?_
            refine go_sld 1465 dL_law_1464 rfl ?_
            refine go_aload_n 0 1466 dL_law_1465 rfl rfl ?_
            refine go_iload 4 1468 dL_law_1466 rfl rfl ?_
            refine go_iconst 2 1469 dL_law_1468 rfl (by decide) ?_
            refine go_iadd 1470 dL_law_1469 rfl ?_
            refine go_sld 1471 dL_law_1470 rfl ?_
            refine go_if_eq 1478 1474 dL_law_1471 rfl (by decide) (fun _ => ?_) (fun _ => ?_)
            · refine go_iconst 0 1479 dL_law_1478 rfl (by decide) ?_
              refine go_cVI2 1 clX12 cwL_202 (m_X12_mark w 163 isK163 (xs (x4 + 1).toNatClampNeg) 0 M175) isK163 1482 dL_law_1479 rfl ⟨Nat.le_of_ble_eq_true rfl, Nat.le_of_ble_eq_true rfl⟩ hK1 (Nat.le_of_ble_eq_true rfl) (fun q178 M177 _ => ?_)
              refine go_icmp_eq 1512 1485 dL_law_1482 rfl (by decide) (fun _ => ?_) (fun _ => ?_)
              · refine go_iinc (x4 + 7) 4 [(4, .int (x4 + 7)), (0, .ref b), (1, .ref (gB G + 0)), (2, .ref (gB G + 163)), (3, .ref (gB G + 185))] 1515 dL_law_1512 rfl rfl rfl (by decide) rfl ?_
                refine go_goto 23 dL_law_1515 (by decide) ?_
                exact go_lv [1, 2, 3, 4, 0] rfl (ih kc ks (by omega) (by omega) (x4 + 7) M177)
              · refine go_iconst 0 1486 dL_law_1485 rfl (by decide) ?_
                exact go_lawret dL_law_1486 hK1
            · refine go_iconst 1 1475 dL_law_1474 rfl (by decide) ?_
              refine go_goto 1479 dL_law_1475 (by decide) ?_
              refine go_cVI2 1 clX12 cwL_202 (m_X12_mark w 163 isK163 (xs (x4 + 1).toNatClampNeg) 1 M175) isK163 1482 dL_law_1479 rfl ⟨Nat.le_of_ble_eq_true rfl, Nat.le_of_ble_eq_true rfl⟩ hK1 (Nat.le_of_ble_eq_true rfl) (fun q180 M179 _ => ?_)
              refine go_icmp_eq 1512 1485 dL_law_1482 rfl (by decide) (fun _ => ?_) (fun _ => ?_)
              · refine go_iinc (x4 + 7) 4 [(4, .int (x4 + 7)), (0, .ref b), (1, .ref (gB G + 0)), (2, .ref (gB G + 163)), (3, .ref (gB G + 185))] 1515 dL_law_1512 rfl rfl rfl (by decide) rfl ?_
                refine go_goto 23 dL_law_1515 (by decide) ?_
                exact go_lv [1, 2, 3, 4, 0] rfl (ih kc ks (by omega) (by omega) (x4 + 7) M179)
              · refine go_iconst 0 1486 dL_law_1485 rfl (by decide) ?_
                exact go_lawret dL_law_1486 hK1
          · refine go_iconst 1 1451 dL_law_1450 rfl (by decide) ?_
            refine go_goto 1455 dL_law_1451 (by decide) ?_
            refine go_cVI2 3 clX11 cwL_198 (m_X11_mark w 0 isK0 (xs (x4 + 1).toNatClampNeg) 1 M) isK0 1458 dL_law_1455 rfl ⟨Nat.le_of_ble_eq_true rfl, Nat.le_of_ble_eq_true rfl⟩ hK1 (Nat.le_of_ble_eq_true rfl) (fun q182 M181 _ => ?_)
            refine go_aload_n 2 1459 dL_law_1458 rfl rfl ?_
            refine go_aload_n 0 1460 dL_law_1459 rfl rfl ?_
            refine go_iload 4 1462 dL_law_1460 rfl rfl ?_
            refine go_iconst 1 1463 dL_law_1462 rfl (by decide) ?_
            refine go_iadd 1464 dL_law_1463 rfl ?_
            refine go_sld 1465 dL_law_1464 rfl ?_
            refine go_aload_n 0 1466 dL_law_1465 rfl rfl ?_
            refine go_iload 4 1468 dL_law_1466 rfl rfl ?_
            refine go_iconst 2 1469 dL_law_1468 rfl (by decide) ?_
            refine go_iadd 1470 dL_law_1469 rfl ?_
            refine go_sld 1471 dL_law_1470 rfl ?_
            refine go_if_eq 1478 1474 dL_law_1471 rfl (by decide) (fun _ => ?_) (fun _ => ?_)
            · refine go_iconst 0 1479 dL_law_1478 rfl (by decide) ?_
              refine go_cVI2 1 clX12 cwL_202 (m_X12_mark w 163 isK163 (xs (x4 + 1).toNatClampNeg) 0 M181) isK163 1482 dL_law_1479 rfl ⟨Nat.le_of_ble_eq_true rfl, Nat.le_of_ble_eq_true rfl⟩ hK1 (Nat.le_of_ble_eq_true rfl) (fun q184 M183 _ => ?_)
              refine go_icmp_eq 1512 1485 dL_law_1482 rfl (by decide) (fun _ => ?_) (fun _ => ?_)
              · refine go_iinc (x4 + 7) 4 [(4, .int (x4 + 7)), (0, .ref b), (1, .ref (gB G + 0)), (2, .ref (gB G + 163)), (3, .ref (gB G + 185))] 1515 dL_law_1512 rfl rfl rfl (by decide) rfl ?_
                refine go_goto 23 dL_law_1515 (by decide) ?_
                exact go_lv [1, 2, 3, 4, 0] rfl (ih kc ks (by omega) (by omega) (x4 + 7) M183)
              · refine go_iconst 0 1486 dL_law_1485 rfl (by decide) ?_
                exact go_lawret dL_law_1486 hK1
            · refine go_iconst 1 1475 dL_law_1474 rfl (by decide) ?_
              refine go_goto 1479 dL_law_1475 (by decide) ?_
              refine go_cVI2 1 clX12 cwL_202 (m_X12_mark w 163 isK163 (xs (x4 + 1).toNatClampNeg) 1 M181) isK163 1482 dL_law_1479 rfl ⟨Nat.le_of_ble_eq_true rfl, Nat.le_of_ble_eq_true rfl⟩ hK1 (Nat.le_of_ble_eq_true rfl) (fun q186 M185 _ => ?_)
              refine go_icmp_eq 1512 1485 dL_law_1482 rfl (by decide) (fun _ => ?_) (fun _ => ?_)
              · refine go_iinc (x4 + 7) 4 [(4, .int (x4 + 7)), (0, .ref b), (1, .ref (gB G + 0)), (2, .ref (gB G + 163)), (3, .ref (gB G + 185))] 1515 dL_law_1512 rfl rfl rfl (by decide) rfl ?_
                refine go_goto 23 dL_law_1515 (by decide) ?_
                exact go_lv [1, 2, 3, 4, 0] rfl (ih kc ks (by omega) (by omega) (x4 + 7) M185)
              · refine go_iconst 0 1486 dL_law_1485 rfl (by decide) ?_
                exact go_lawret dL_law_1486 hK1
        · refine ⟨1447, 1487, by rw [g]; rfl, by decide, ?_⟩
          rw [g]
          simp only [if_pos, reduceIte, Int.reduceEq, Int.reduceNeg]
          refine go_aload_n 1 1488 dL_law_1487 rfl rfl ?_
          refine go_aload_n 0 1489 dL_law_1488 rfl rfl ?_
          refine go_iload 4 1491 dL_law_1489 rfl rfl ?_
          refine go_iconst 1 1492 dL_law_1491 rfl (by decide) ?_
          refine go_iadd 1493 dL_law_1492 rfl ?_
          refine go_sld 1494 dL_law_1493 rfl ?_
          refine go_cVI1 3 clX11 cwL_203 (m_X11_count w 0 isK0 (xs (x4 + 1).toNatClampNeg) M) isK0 1497 dL_law_1494 rfl ⟨Nat.le_of_ble_eq_true rfl, Nat.le_of_ble_eq_true rfl⟩ hK1 (Nat.le_of_ble_eq_true rfl) (fun q188 M187 _ => ?_)
          refine go_aload_n 2 1498 dL_law_1497 rfl rfl ?_
          refine go_aload_n 0 1499 dL_law_1498 rfl rfl ?_
          refine go_iload 4 1501 dL_law_1499 rfl rfl ?_
          refine go_iconst 1 1502 dL_law_1501 rfl (by decide) ?_
          refine go_iadd 1503 dL_law_1502 rfl ?_
          refine go_sld 1504 dL_law_1503 rfl ?_
          refine go_cVI1 3 clX12 cwL_206 (m_X12_count w 163 isK163 (xs (x4 + 1).toNatClampNeg) M187) isK163 1507 dL_law_1504 rfl ⟨Nat.le_of_ble_eq_true rfl, Nat.le_of_ble_eq_true rfl⟩ hK1 (Nat.le_of_ble_eq_true rfl) (fun q190 M189 _ => ?_)
          refine go_icmp_eq 1512 1510 dL_law_1507 rfl (by decide) (fun _ => ?_) (fun _ => ?_)
          · refine go_iinc (x4 + 7) 4 [(4, .int (x4 + 7)), (0, .ref b), (1, .ref (gB G + 0)), (2, .ref (gB G + 163)), (3, .ref (gB G + 185))] 1515 dL_law_1512 rfl rfl rfl (by decide) rfl ?_
            refine go_goto 23 dL_law_1515 (by decide) ?_
            exact go_lv [1, 2, 3, 4, 0] rfl (ih kc ks (by omega) (by omega) (x4 + 7) M189)
          · refine go_iconst 0 1511 dL_law_1510 rfl (by decide) ?_
            exact go_lawret dL_law_1511 hK1
