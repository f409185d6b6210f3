/-! the law: its cases -/
theorem dL_law_0 : decode cL_law 0 = .ok (.new 8, 3) := by decide +kernel
theorem dL_law_3 : decode cL_law 3 = .ok (.dup, 1) := by decide +kernel
theorem dL_law_4 : decode cL_law 4 = .ok (.invokespecial 110, 3) := by decide +kernel
theorem dL_law_7 : decode cL_law 7 = .ok (.astore_n 1, 1) := by decide +kernel
theorem dL_law_8 : decode cL_law 8 = .ok (.new 111, 3) := by decide +kernel
theorem dL_law_11 : decode cL_law 11 = .ok (.dup, 1) := by decide +kernel
theorem dL_law_12 : decode cL_law 12 = .ok (.invokespecial 113, 3) := by decide +kernel
theorem dL_law_15 : decode cL_law 15 = .ok (.astore_n 2, 1) := by decide +kernel
theorem dL_law_16 : decode cL_law 16 = .ok (.iconst 1, 1) := by decide +kernel
theorem dL_law_17 : decode cL_law 17 = .ok (.newarray .long, 2) := by decide +kernel
theorem dL_law_19 : decode cL_law 19 = .ok (.astore_n 3, 1) := by decide +kernel
theorem dL_law_20 : decode cL_law 20 = .ok (.iconst 0, 1) := by decide +kernel
theorem dL_law_21 : decode cL_law 21 = .ok (.istore 4, 2) := by decide +kernel
theorem dL_law_23 : decode cL_law 23 = .ok (.iload 4, 2) := by decide +kernel
theorem dL_law_25 : decode cL_law 25 = .ok (.aload_n 0, 1) := by decide +kernel
theorem dL_law_26 : decode cL_law 26 = .ok (.arraylength, 1) := by decide +kernel
theorem dL_law_27 : decode cL_law 27 = .ok (.bipush 6, 2) := by decide +kernel
theorem dL_law_29 : decode cL_law 29 = .ok (.isub, 1) := by decide +kernel
theorem dL_law_30 : decode cL_law 30 = .ok (.if_icmp .gt 2568, 3) := by decide +kernel
theorem dL_law_33 : decode cL_law 33 = .ok (.aload_n 0, 1) := by decide +kernel
theorem dL_law_34 : decode cL_law 34 = .ok (.iload 4, 2) := by decide +kernel
theorem dL_law_36 : decode cL_law 36 = .ok (.iaload, 1) := by decide +kernel
theorem dL_law_37 : decode cL_law 37 = .ok (.bipush 63, 2) := by decide +kernel
theorem dL_law_39 : decode cL_law 39 = .ok (.iand, 1) := by decide +kernel
theorem dL_law_40 : decode cL_law 40 = .ok (.tableswitch 2552 0 52 #[228, 301, 326, 339, 352, 365, 390, 415, 428, 496, 509, 577, 633, 689, 757, 825, 905, 973, 1041, 1109, 1122, 1135, 1148, 1162, 1218, 1231, 1299, 1355, 1368, 1409, 1452, 1508, 1521, 1577, 1632, 1688, 1701, 1805, 1896, 1964, 2039, 2095, 2108, 2164, 2220, 2233, 2301, 2345, 2358, 2414, 2470, 2495, 2508], 228) := by decide +kernel
theorem dL_law_268 : decode cL_law 268 = .ok (.aload_n 1, 1) := by decide +kernel
theorem dL_law_269 : decode cL_law 269 = .ok (.aload_n 0, 1) := by decide +kernel
theorem dL_law_270 : decode cL_law 270 = .ok (.iload 4, 2) := by decide +kernel
theorem dL_law_272 : decode cL_law 272 = .ok (.iconst 1, 1) := by decide +kernel
theorem dL_law_273 : decode cL_law 273 = .ok (.iadd, 1) := by decide +kernel
theorem dL_law_274 : decode cL_law 274 = .ok (.iaload, 1) := by decide +kernel
theorem dL_law_275 : decode cL_law 275 = .ok (.aload_n 0, 1) := by decide +kernel
theorem dL_law_276 : decode cL_law 276 = .ok (.iload 4, 2) := by decide +kernel
theorem dL_law_278 : decode cL_law 278 = .ok (.iconst 2, 1) := by decide +kernel
theorem dL_law_279 : decode cL_law 279 = .ok (.iadd, 1) := by decide +kernel
theorem dL_law_280 : decode cL_law 280 = .ok (.iaload, 1) := by decide +kernel
theorem dL_law_281 : decode cL_law 281 = .ok (.aload_n 0, 1) := by decide +kernel
theorem dL_law_282 : decode cL_law 282 = .ok (.iload 4, 2) := by decide +kernel
theorem dL_law_284 : decode cL_law 284 = .ok (.iconst 3, 1) := by decide +kernel
theorem dL_law_285 : decode cL_law 285 = .ok (.iadd, 1) := by decide +kernel
theorem dL_law_286 : decode cL_law 286 = .ok (.iaload, 1) := by decide +kernel
theorem dL_law_287 : decode cL_law 287 = .ok (.aload_n 0, 1) := by decide +kernel
theorem dL_law_288 : decode cL_law 288 = .ok (.iload 4, 2) := by decide +kernel
theorem dL_law_290 : decode cL_law 290 = .ok (.iconst 4, 1) := by decide +kernel
theorem dL_law_291 : decode cL_law 291 = .ok (.iadd, 1) := by decide +kernel
theorem dL_law_292 : decode cL_law 292 = .ok (.iaload, 1) := by decide +kernel
theorem dL_law_293 : decode cL_law 293 = .ok (.aload_n 0, 1) := by decide +kernel
theorem dL_law_294 : decode cL_law 294 = .ok (.iload 4, 2) := by decide +kernel
theorem dL_law_296 : decode cL_law 296 = .ok (.iconst 5, 1) := by decide +kernel
theorem dL_law_297 : decode cL_law 297 = .ok (.iadd, 1) := by decide +kernel
theorem dL_law_298 : decode cL_law 298 = .ok (.iaload, 1) := by decide +kernel
theorem dL_law_299 : decode cL_law 299 = .ok (.invokevirtual 114, 3) := by decide +kernel
theorem dL_law_302 : decode cL_law 302 = .ok (.aload_n 2, 1) := by decide +kernel
theorem dL_law_303 : decode cL_law 303 = .ok (.aload_n 0, 1) := by decide +kernel
theorem dL_law_304 : decode cL_law 304 = .ok (.iload 4, 2) := by decide +kernel
theorem dL_law_306 : decode cL_law 306 = .ok (.iconst 1, 1) := by decide +kernel
theorem dL_law_307 : decode cL_law 307 = .ok (.iadd, 1) := by decide +kernel
theorem dL_law_308 : decode cL_law 308 = .ok (.iaload, 1) := by decide +kernel
theorem dL_law_309 : decode cL_law 309 = .ok (.aload_n 0, 1) := by decide +kernel
theorem dL_law_310 : decode cL_law 310 = .ok (.iload 4, 2) := by decide +kernel
theorem dL_law_312 : decode cL_law 312 = .ok (.iconst 2, 1) := by decide +kernel
theorem dL_law_313 : decode cL_law 313 = .ok (.iadd, 1) := by decide +kernel
theorem dL_law_314 : decode cL_law 314 = .ok (.iaload, 1) := by decide +kernel
theorem dL_law_315 : decode cL_law 315 = .ok (.aload_n 0, 1) := by decide +kernel
theorem dL_law_316 : decode cL_law 316 = .ok (.iload 4, 2) := by decide +kernel
theorem dL_law_318 : decode cL_law 318 = .ok (.iconst 3, 1) := by decide +kernel
theorem dL_law_319 : decode cL_law 319 = .ok (.iadd, 1) := by decide +kernel
theorem dL_law_320 : decode cL_law 320 = .ok (.iaload, 1) := by decide +kernel
theorem dL_law_321 : decode cL_law 321 = .ok (.aload_n 0, 1) := by decide +kernel
theorem dL_law_322 : decode cL_law 322 = .ok (.iload 4, 2) := by decide +kernel
theorem dL_law_324 : decode cL_law 324 = .ok (.iconst 4, 1) := by decide +kernel
theorem dL_law_325 : decode cL_law 325 = .ok (.iadd, 1) := by decide +kernel
theorem dL_law_326 : decode cL_law 326 = .ok (.iaload, 1) := by decide +kernel
theorem dL_law_327 : decode cL_law 327 = .ok (.aload_n 0, 1) := by decide +kernel
theorem dL_law_328 : decode cL_law 328 = .ok (.iload 4, 2) := by decide +kernel
theorem dL_law_330 : decode cL_law 330 = .ok (.iconst 5, 1) := by decide +kernel
theorem dL_law_331 : decode cL_law 331 = .ok (.iadd, 1) := by decide +kernel
theorem dL_law_332 : decode cL_law 332 = .ok (.iaload, 1) := by decide +kernel
theorem dL_law_333 : decode cL_law 333 = .ok (.invokevirtual 117, 3) := by decide +kernel
theorem dL_law_336 : decode cL_law 336 = .ok (.if_icmp .eq 2256, 3) := by decide +kernel
theorem dL_law_339 : decode cL_law 339 = .ok (.iconst 0, 1) := by decide +kernel
theorem dL_law_340 : decode cL_law 340 = .ok (.ireturn, 1) := by decide +kernel
theorem dL_law_341 : decode cL_law 341 = .ok (.aload_n 1, 1) := by decide +kernel
theorem dL_law_342 : decode cL_law 342 = .ok (.aload_n 0, 1) := by decide +kernel
theorem dL_law_343 : decode cL_law 343 = .ok (.iload 4, 2) := by decide +kernel
theorem dL_law_345 : decode cL_law 345 = .ok (.iconst 1, 1) := by decide +kernel
theorem dL_law_346 : decode cL_law 346 = .ok (.iadd, 1) := by decide +kernel
theorem dL_law_347 : decode cL_law 347 = .ok (.iaload, 1) := by decide +kernel
theorem dL_law_348 : decode cL_law 348 = .ok (.invokevirtual 118, 3) := by decide +kernel
theorem dL_law_351 : decode cL_law 351 = .ok (.aload_n 2, 1) := by decide +kernel
theorem dL_law_352 : decode cL_law 352 = .ok (.aload_n 0, 1) := by decide +kernel
theorem dL_law_353 : decode cL_law 353 = .ok (.iload 4, 2) := by decide +kernel
theorem dL_law_355 : decode cL_law 355 = .ok (.iconst 1, 1) := by decide +kernel
theorem dL_law_356 : decode cL_law 356 = .ok (.iadd, 1) := by decide +kernel
theorem dL_law_357 : decode cL_law 357 = .ok (.iaload, 1) := by decide +kernel
theorem dL_law_358 : decode cL_law 358 = .ok (.invokevirtual 122, 3) := by decide +kernel
theorem dL_law_361 : decode cL_law 361 = .ok (.if_icmp .eq 2231, 3) := by decide +kernel
theorem dL_law_364 : decode cL_law 364 = .ok (.iconst 0, 1) := by decide +kernel
theorem dL_law_365 : decode cL_law 365 = .ok (.ireturn, 1) := by decide +kernel
theorem dL_law_366 : decode cL_law 366 = .ok (.aload_n 1, 1) := by decide +kernel
theorem dL_law_367 : decode cL_law 367 = .ok (.invokevirtual 123, 3) := by decide +kernel
theorem dL_law_370 : decode cL_law 370 = .ok (.aload_n 2, 1) := by decide +kernel
theorem dL_law_371 : decode cL_law 371 = .ok (.invokevirtual 126, 3) := by decide +kernel
theorem dL_law_374 : decode cL_law 374 = .ok (.if_icmp .eq 2218, 3) := by decide +kernel
theorem dL_law_377 : decode cL_law 377 = .ok (.iconst 0, 1) := by decide +kernel
theorem dL_law_378 : decode cL_law 378 = .ok (.ireturn, 1) := by decide +kernel
theorem dL_law_379 : decode cL_law 379 = .ok (.aload_n 1, 1) := by decide +kernel
theorem dL_law_380 : decode cL_law 380 = .ok (.invokevirtual 127, 3) := by decide +kernel
theorem dL_law_383 : decode cL_law 383 = .ok (.aload_n 2, 1) := by decide +kernel
theorem dL_law_384 : decode cL_law 384 = .ok (.invokevirtual 130, 3) := by decide +kernel
theorem dL_law_387 : decode cL_law 387 = .ok (.if_icmp .eq 2205, 3) := by decide +kernel
theorem dL_law_390 : decode cL_law 390 = .ok (.iconst 0, 1) := by decide +kernel
theorem dL_law_391 : decode cL_law 391 = .ok (.ireturn, 1) := by decide +kernel
theorem dL_law_392 : decode cL_law 392 = .ok (.aload_n 1, 1) := by decide +kernel
theorem dL_law_393 : decode cL_law 393 = .ok (.invokevirtual 131, 3) := by decide +kernel
theorem dL_law_396 : decode cL_law 396 = .ok (.aload_n 2, 1) := by decide +kernel
theorem dL_law_397 : decode cL_law 397 = .ok (.invokevirtual 134, 3) := by decide +kernel
theorem dL_law_400 : decode cL_law 400 = .ok (.if_icmp .eq 2192, 3) := by decide +kernel
theorem dL_law_403 : decode cL_law 403 = .ok (.iconst 0, 1) := by decide +kernel
theorem dL_law_404 : decode cL_law 404 = .ok (.ireturn, 1) := by decide +kernel
theorem dL_law_405 : decode cL_law 405 = .ok (.aload_n 1, 1) := by decide +kernel
theorem dL_law_406 : decode cL_law 406 = .ok (.aload_n 0, 1) := by decide +kernel
theorem dL_law_407 : decode cL_law 407 = .ok (.iload 4, 2) := by decide +kernel
theorem dL_law_409 : decode cL_law 409 = .ok (.iconst 1, 1) := by decide +kernel
theorem dL_law_410 : decode cL_law 410 = .ok (.iadd, 1) := by decide +kernel
theorem dL_law_411 : decode cL_law 411 = .ok (.iaload, 1) := by decide +kernel
theorem dL_law_412 : decode cL_law 412 = .ok (.invokevirtual 135, 3) := by decide +kernel
theorem dL_law_415 : decode cL_law 415 = .ok (.aload_n 2, 1) := by decide +kernel
theorem dL_law_416 : decode cL_law 416 = .ok (.aload_n 0, 1) := by decide +kernel
theorem dL_law_417 : decode cL_law 417 = .ok (.iload 4, 2) := by decide +kernel
theorem dL_law_419 : decode cL_law 419 = .ok (.iconst 1, 1) := by decide +kernel
theorem dL_law_420 : decode cL_law 420 = .ok (.iadd, 1) := by decide +kernel
theorem dL_law_421 : decode cL_law 421 = .ok (.iaload, 1) := by decide +kernel
theorem dL_law_422 : decode cL_law 422 = .ok (.invokevirtual 138, 3) := by decide +kernel
theorem dL_law_425 : decode cL_law 425 = .ok (.if_icmp .eq 2167, 3) := by decide +kernel
theorem dL_law_428 : decode cL_law 428 = .ok (.iconst 0, 1) := by decide +kernel
theorem dL_law_429 : decode cL_law 429 = .ok (.ireturn, 1) := by decide +kernel
theorem dL_law_430 : decode cL_law 430 = .ok (.aload_n 1, 1) := by decide +kernel
theorem dL_law_431 : decode cL_law 431 = .ok (.aload_n 0, 1) := by decide +kernel
theorem dL_law_432 : decode cL_law 432 = .ok (.iload 4, 2) := by decide +kernel
theorem dL_law_434 : decode cL_law 434 = .ok (.iconst 1, 1) := by decide +kernel
theorem dL_law_435 : decode cL_law 435 = .ok (.iadd, 1) := by decide +kernel
theorem dL_law_436 : decode cL_law 436 = .ok (.iaload, 1) := by decide +kernel
theorem dL_law_437 : decode cL_law 437 = .ok (.invokevirtual 139, 3) := by decide +kernel
theorem dL_law_440 : decode cL_law 440 = .ok (.aload_n 2, 1) := by decide +kernel
theorem dL_law_441 : decode cL_law 441 = .ok (.aload_n 0, 1) := by decide +kernel
theorem dL_law_442 : decode cL_law 442 = .ok (.iload 4, 2) := by decide +kernel
theorem dL_law_444 : decode cL_law 444 = .ok (.iconst 1, 1) := by decide +kernel
theorem dL_law_445 : decode cL_law 445 = .ok (.iadd, 1) := by decide +kernel
theorem dL_law_446 : decode cL_law 446 = .ok (.iaload, 1) := by decide +kernel
theorem dL_law_447 : decode cL_law 447 = .ok (.invokevirtual 142, 3) := by decide +kernel
theorem dL_law_450 : decode cL_law 450 = .ok (.if_icmp .eq 2142, 3) := by decide +kernel
theorem dL_law_453 : decode cL_law 453 = .ok (.iconst 0, 1) := by decide +kernel
theorem dL_law_454 : decode cL_law 454 = .ok (.ireturn, 1) := by decide +kernel
theorem dL_law_455 : decode cL_law 455 = .ok (.aload_n 1, 1) := by decide +kernel
theorem dL_law_456 : decode cL_law 456 = .ok (.invokevirtual 143, 3) := by decide +kernel
theorem dL_law_459 : decode cL_law 459 = .ok (.aload_n 2, 1) := by decide +kernel
theorem dL_law_460 : decode cL_law 460 = .ok (.invokevirtual 146, 3) := by decide +kernel
theorem dL_law_463 : decode cL_law 463 = .ok (.if_icmp .eq 2129, 3) := by decide +kernel
theorem dL_law_466 : decode cL_law 466 = .ok (.iconst 0, 1) := by decide +kernel
theorem dL_law_467 : decode cL_law 467 = .ok (.ireturn, 1) := by decide +kernel
theorem dL_law_468 : decode cL_law 468 = .ok (.aload_n 1, 1) := by decide +kernel
theorem dL_law_469 : decode cL_law 469 = .ok (.aload_n 0, 1) := by decide +kernel
theorem dL_law_470 : decode cL_law 470 = .ok (.iload 4, 2) := by decide +kernel
theorem dL_law_472 : decode cL_law 472 = .ok (.iconst 1, 1) := by decide +kernel
theorem dL_law_473 : decode cL_law 473 = .ok (.iadd, 1) := by decide +kernel
theorem dL_law_474 : decode cL_law 474 = .ok (.iaload, 1) := by decide +kernel
theorem dL_law_475 : decode cL_law 475 = .ok (.aload_n 0, 1) := by decide +kernel
theorem dL_law_476 : decode cL_law 476 = .ok (.iload 4, 2) := by decide +kernel
theorem dL_law_478 : decode cL_law 478 = .ok (.iconst 2, 1) := by decide +kernel
theorem dL_law_479 : decode cL_law 479 = .ok (.iadd, 1) := by decide +kernel
theorem dL_law_480 : decode cL_law 480 = .ok (.iaload, 1) := by decide +kernel
theorem dL_law_481 : decode cL_law 481 = .ok (.aload_n 3, 1) := by decide +kernel
theorem dL_law_482 : decode cL_law 482 = .ok (.invokestatic 147, 3) := by decide +kernel
theorem dL_law_485 : decode cL_law 485 = .ok (.istore 5, 2) := by decide +kernel
theorem dL_law_487 : decode cL_law 487 = .ok (.aload_n 2, 1) := by decide +kernel
theorem dL_law_488 : decode cL_law 488 = .ok (.aload_n 0, 1) := by decide +kernel
theorem dL_law_489 : decode cL_law 489 = .ok (.iload 4, 2) := by decide +kernel
theorem dL_law_491 : decode cL_law 491 = .ok (.iconst 1, 1) := by decide +kernel
theorem dL_law_492 : decode cL_law 492 = .ok (.iadd, 1) := by decide +kernel
theorem dL_law_493 : decode cL_law 493 = .ok (.iaload, 1) := by decide +kernel
theorem dL_law_494 : decode cL_law 494 = .ok (.aload_n 0, 1) := by decide +kernel
theorem dL_law_495 : decode cL_law 495 = .ok (.iload 4, 2) := by decide +kernel
theorem dL_law_497 : decode cL_law 497 = .ok (.iconst 2, 1) := by decide +kernel
theorem dL_law_498 : decode cL_law 498 = .ok (.iadd, 1) := by decide +kernel
theorem dL_law_499 : decode cL_law 499 = .ok (.iaload, 1) := by decide +kernel
theorem dL_law_500 : decode cL_law 500 = .ok (.invokevirtual 152, 3) := by decide +kernel
theorem dL_law_503 : decode cL_law 503 = .ok (.istore 6, 2) := by decide +kernel
theorem dL_law_505 : decode cL_law 505 = .ok (.aload_n 2, 1) := by decide +kernel
theorem dL_law_506 : decode cL_law 506 = .ok (.invokevirtual 153, 3) := by decide +kernel
theorem dL_law_509 : decode cL_law 509 = .ok (.iload 5, 2) := by decide +kernel
theorem dL_law_511 : decode cL_law 511 = .ok (.if_icmp .eq 5, 3) := by decide +kernel
theorem dL_law_514 : decode cL_law 514 = .ok (.iconst 0, 1) := by decide +kernel
theorem dL_law_515 : decode cL_law 515 = .ok (.ireturn, 1) := by decide +kernel
theorem dL_law_516 : decode cL_law 516 = .ok (.iload 5, 2) := by decide +kernel
theorem dL_law_518 : decode cL_law 518 = .ok (.ifCond .ne 15, 3) := by decide +kernel
theorem dL_law_521 : decode cL_law 521 = .ok (.aload_n 3, 1) := by decide +kernel
theorem dL_law_522 : decode cL_law 522 = .ok (.iconst 0, 1) := by decide +kernel
theorem dL_law_523 : decode cL_law 523 = .ok (.laload, 1) := by decide +kernel
theorem dL_law_524 : decode cL_law 524 = .ok (.iload 6, 2) := by decide +kernel
theorem dL_law_526 : decode cL_law 526 = .ok (.i2l, 1) := by decide +kernel
theorem dL_law_527 : decode cL_law 527 = .ok (.lcmp, 1) := by decide +kernel
theorem dL_law_528 : decode cL_law 528 = .ok (.ifCond .eq 5, 3) := by decide +kernel
theorem dL_law_531 : decode cL_law 531 = .ok (.iconst 0, 1) := by decide +kernel
theorem dL_law_532 : decode cL_law 532 = .ok (.ireturn, 1) := by decide +kernel
theorem dL_law_533 : decode cL_law 533 = .ok (.goto 2059, 3) := by decide +kernel
theorem dL_law_536 : decode cL_law 536 = .ok (.aload_n 1, 1) := by decide +kernel
theorem dL_law_537 : decode cL_law 537 = .ok (.invokevirtual 156, 3) := by decide +kernel
theorem dL_law_540 : decode cL_law 540 = .ok (.aload_n 2, 1) := by decide +kernel
theorem dL_law_541 : decode cL_law 541 = .ok (.invokevirtual 159, 3) := by decide +kernel
theorem dL_law_544 : decode cL_law 544 = .ok (.if_icmp .eq 2048, 3) := by decide +kernel
theorem dL_law_547 : decode cL_law 547 = .ok (.iconst 0, 1) := by decide +kernel
theorem dL_law_548 : decode cL_law 548 = .ok (.ireturn, 1) := by decide +kernel
theorem dL_law_549 : decode cL_law 549 = .ok (.aload_n 1, 1) := by decide +kernel
theorem dL_law_550 : decode cL_law 550 = .ok (.aload_n 0, 1) := by decide +kernel
theorem dL_law_551 : decode cL_law 551 = .ok (.iload 4, 2) := by decide +kernel
theorem dL_law_553 : decode cL_law 553 = .ok (.iconst 1, 1) := by decide +kernel
theorem dL_law_554 : decode cL_law 554 = .ok (.iadd, 1) := by decide +kernel
theorem dL_law_555 : decode cL_law 555 = .ok (.iaload, 1) := by decide +kernel
theorem dL_law_556 : decode cL_law 556 = .ok (.aload_n 0, 1) := by decide +kernel
theorem dL_law_557 : decode cL_law 557 = .ok (.iload 4, 2) := by decide +kernel
theorem dL_law_559 : decode cL_law 559 = .ok (.iconst 2, 1) := by decide +kernel
theorem dL_law_560 : decode cL_law 560 = .ok (.iadd, 1) := by decide +kernel
theorem dL_law_561 : decode cL_law 561 = .ok (.iaload, 1) := by decide +kernel
theorem dL_law_562 : decode cL_law 562 = .ok (.aload_n 3, 1) := by decide +kernel
theorem dL_law_563 : decode cL_law 563 = .ok (.invokestatic 160, 3) := by decide +kernel
theorem dL_law_566 : decode cL_law 566 = .ok (.istore 5, 2) := by decide +kernel
theorem dL_law_568 : decode cL_law 568 = .ok (.aload_n 2, 1) := by decide +kernel
theorem dL_law_569 : decode cL_law 569 = .ok (.aload_n 0, 1) := by decide +kernel
theorem dL_law_570 : decode cL_law 570 = .ok (.iload 4, 2) := by decide +kernel
theorem dL_law_572 : decode cL_law 572 = .ok (.iconst 1, 1) := by decide +kernel
theorem dL_law_573 : decode cL_law 573 = .ok (.iadd, 1) := by decide +kernel
theorem dL_law_574 : decode cL_law 574 = .ok (.iaload, 1) := by decide +kernel
theorem dL_law_575 : decode cL_law 575 = .ok (.aload_n 0, 1) := by decide +kernel
theorem dL_law_576 : decode cL_law 576 = .ok (.iload 4, 2) := by decide +kernel
theorem dL_law_578 : decode cL_law 578 = .ok (.iconst 2, 1) := by decide +kernel
theorem dL_law_579 : decode cL_law 579 = .ok (.iadd, 1) := by decide +kernel
theorem dL_law_580 : decode cL_law 580 = .ok (.iaload, 1) := by decide +kernel
theorem dL_law_581 : decode cL_law 581 = .ok (.invokevirtual 162, 3) := by decide +kernel
theorem dL_law_584 : decode cL_law 584 = .ok (.istore 6, 2) := by decide +kernel
theorem dL_law_586 : decode cL_law 586 = .ok (.aload_n 2, 1) := by decide +kernel
theorem dL_law_587 : decode cL_law 587 = .ok (.invokevirtual 153, 3) := by decide +kernel
theorem dL_law_590 : decode cL_law 590 = .ok (.iload 5, 2) := by decide +kernel
theorem dL_law_592 : decode cL_law 592 = .ok (.if_icmp .eq 5, 3) := by decide +kernel
theorem dL_law_595 : decode cL_law 595 = .ok (.iconst 0, 1) := by decide +kernel
theorem dL_law_596 : decode cL_law 596 = .ok (.ireturn, 1) := by decide +kernel
theorem dL_law_597 : decode cL_law 597 = .ok (.iload 5, 2) := by decide +kernel
theorem dL_law_599 : decode cL_law 599 = .ok (.ifCond .ne 15, 3) := by decide +kernel
theorem dL_law_602 : decode cL_law 602 = .ok (.aload_n 3, 1) := by decide +kernel
theorem dL_law_603 : decode cL_law 603 = .ok (.iconst 0, 1) := by decide +kernel
theorem dL_law_604 : decode cL_law 604 = .ok (.laload, 1) := by decide +kernel
theorem dL_law_605 : decode cL_law 605 = .ok (.iload 6, 2) := by decide +kernel
theorem dL_law_607 : decode cL_law 607 = .ok (.i2l, 1) := by decide +kernel
theorem dL_law_608 : decode cL_law 608 = .ok (.lcmp, 1) := by decide +kernel
theorem dL_law_609 : decode cL_law 609 = .ok (.ifCond .eq 5, 3) := by decide +kernel
theorem dL_law_612 : decode cL_law 612 = .ok (.iconst 0, 1) := by decide +kernel
theorem dL_law_613 : decode cL_law 613 = .ok (.ireturn, 1) := by decide +kernel
theorem dL_law_614 : decode cL_law 614 = .ok (.goto 1978, 3) := by decide +kernel
theorem dL_law_617 : decode cL_law 617 = .ok (.aload_n 1, 1) := by decide +kernel
theorem dL_law_618 : decode cL_law 618 = .ok (.aload_n 0, 1) := by decide +kernel
theorem dL_law_619 : decode cL_law 619 = .ok (.iload 4, 2) := by decide +kernel
theorem dL_law_621 : decode cL_law 621 = .ok (.iconst 1, 1) := by decide +kernel
theorem dL_law_622 : decode cL_law 622 = .ok (.iadd, 1) := by decide +kernel
theorem dL_law_623 : decode cL_law 623 = .ok (.iaload, 1) := by decide +kernel
theorem dL_law_624 : decode cL_law 624 = .ok (.aload_n 3, 1) := by decide +kernel
theorem dL_law_625 : decode cL_law 625 = .ok (.invokestatic 163, 3) := by decide +kernel
theorem dL_law_628 : decode cL_law 628 = .ok (.istore 5, 2) := by decide +kernel
theorem dL_law_630 : decode cL_law 630 = .ok (.aload_n 2, 1) := by decide +kernel
theorem dL_law_631 : decode cL_law 631 = .ok (.aload_n 0, 1) := by decide +kernel
theorem dL_law_632 : decode cL_law 632 = .ok (.iload 4, 2) := by decide +kernel
theorem dL_law_634 : decode cL_law 634 = .ok (.iconst 1, 1) := by decide +kernel
theorem dL_law_635 : decode cL_law 635 = .ok (.iadd, 1) := by decide +kernel
theorem dL_law_636 : decode cL_law 636 = .ok (.iaload, 1) := by decide +kernel
theorem dL_law_637 : decode cL_law 637 = .ok (.invokevirtual 166, 3) := by decide +kernel
theorem dL_law_640 : decode cL_law 640 = .ok (.istore 6, 2) := by decide +kernel
theorem dL_law_642 : decode cL_law 642 = .ok (.aload_n 2, 1) := by decide +kernel
theorem dL_law_643 : decode cL_law 643 = .ok (.invokevirtual 153, 3) := by decide +kernel
theorem dL_law_646 : decode cL_law 646 = .ok (.iload 5, 2) := by decide +kernel
theorem dL_law_648 : decode cL_law 648 = .ok (.if_icmp .eq 5, 3) := by decide +kernel
theorem dL_law_651 : decode cL_law 651 = .ok (.iconst 0, 1) := by decide +kernel
theorem dL_law_652 : decode cL_law 652 = .ok (.ireturn, 1) := by decide +kernel
theorem dL_law_653 : decode cL_law 653 = .ok (.iload 5, 2) := by decide +kernel
theorem dL_law_655 : decode cL_law 655 = .ok (.ifCond .ne 15, 3) := by decide +kernel
theorem dL_law_658 : decode cL_law 658 = .ok (.aload_n 3, 1) := by decide +kernel
theorem dL_law_659 : decode cL_law 659 = .ok (.iconst 0, 1) := by decide +kernel
theorem dL_law_660 : decode cL_law 660 = .ok (.laload, 1) := by decide +kernel
theorem dL_law_661 : decode cL_law 661 = .ok (.iload 6, 2) := by decide +kernel
theorem dL_law_663 : decode cL_law 663 = .ok (.i2l, 1) := by decide +kernel
theorem dL_law_664 : decode cL_law 664 = .ok (.lcmp, 1) := by decide +kernel
theorem dL_law_665 : decode cL_law 665 = .ok (.ifCond .eq 5, 3) := by decide +kernel
theorem dL_law_668 : decode cL_law 668 = .ok (.iconst 0, 1) := by decide +kernel
theorem dL_law_669 : decode cL_law 669 = .ok (.ireturn, 1) := by decide +kernel
theorem dL_law_670 : decode cL_law 670 = .ok (.goto 1922, 3) := by decide +kernel
theorem dL_law_673 : decode cL_law 673 = .ok (.aload_n 1, 1) := by decide +kernel
theorem dL_law_674 : decode cL_law 674 = .ok (.aload_n 0, 1) := by decide +kernel
theorem dL_law_675 : decode cL_law 675 = .ok (.iload 4, 2) := by decide +kernel
theorem dL_law_677 : decode cL_law 677 = .ok (.iconst 1, 1) := by decide +kernel
theorem dL_law_678 : decode cL_law 678 = .ok (.iadd, 1) := by decide +kernel
theorem dL_law_679 : decode cL_law 679 = .ok (.iaload, 1) := by decide +kernel
theorem dL_law_680 : decode cL_law 680 = .ok (.aload_n 3, 1) := by decide +kernel
theorem dL_law_681 : decode cL_law 681 = .ok (.invokestatic 167, 3) := by decide +kernel
theorem dL_law_684 : decode cL_law 684 = .ok (.istore 5, 2) := by decide +kernel
theorem dL_law_686 : decode cL_law 686 = .ok (.aload_n 2, 1) := by decide +kernel
theorem dL_law_687 : decode cL_law 687 = .ok (.aload_n 0, 1) := by decide +kernel
theorem dL_law_688 : decode cL_law 688 = .ok (.iload 4, 2) := by decide +kernel
theorem dL_law_690 : decode cL_law 690 = .ok (.iconst 1, 1) := by decide +kernel
theorem dL_law_691 : decode cL_law 691 = .ok (.iadd, 1) := by decide +kernel
theorem dL_law_692 : decode cL_law 692 = .ok (.iaload, 1) := by decide +kernel
theorem dL_law_693 : decode cL_law 693 = .ok (.invokevirtual 169, 3) := by decide +kernel
theorem dL_law_696 : decode cL_law 696 = .ok (.istore 6, 2) := by decide +kernel
theorem dL_law_698 : decode cL_law 698 = .ok (.aload_n 2, 1) := by decide +kernel
theorem dL_law_699 : decode cL_law 699 = .ok (.invokevirtual 153, 3) := by decide +kernel
theorem dL_law_702 : decode cL_law 702 = .ok (.iload 5, 2) := by decide +kernel
theorem dL_law_704 : decode cL_law 704 = .ok (.if_icmp .eq 5, 3) := by decide +kernel
theorem dL_law_707 : decode cL_law 707 = .ok (.iconst 0, 1) := by decide +kernel
theorem dL_law_708 : decode cL_law 708 = .ok (.ireturn, 1) := by decide +kernel
theorem dL_law_709 : decode cL_law 709 = .ok (.iload 5, 2) := by decide +kernel
theorem dL_law_711 : decode cL_law 711 = .ok (.ifCond .ne 15, 3) := by decide +kernel
theorem dL_law_714 : decode cL_law 714 = .ok (.aload_n 3, 1) := by decide +kernel
theorem dL_law_715 : decode cL_law 715 = .ok (.iconst 0, 1) := by decide +kernel
theorem dL_law_716 : decode cL_law 716 = .ok (.laload, 1) := by decide +kernel
theorem dL_law_717 : decode cL_law 717 = .ok (.iload 6, 2) := by decide +kernel
theorem dL_law_719 : decode cL_law 719 = .ok (.i2l, 1) := by decide +kernel
theorem dL_law_720 : decode cL_law 720 = .ok (.lcmp, 1) := by decide +kernel
theorem dL_law_721 : decode cL_law 721 = .ok (.ifCond .eq 5, 3) := by decide +kernel
theorem dL_law_724 : decode cL_law 724 = .ok (.iconst 0, 1) := by decide +kernel
theorem dL_law_725 : decode cL_law 725 = .ok (.ireturn, 1) := by decide +kernel
theorem dL_law_726 : decode cL_law 726 = .ok (.goto 1866, 3) := by decide +kernel
theorem dL_law_729 : decode cL_law 729 = .ok (.aload_n 1, 1) := by decide +kernel
theorem dL_law_730 : decode cL_law 730 = .ok (.aload_n 0, 1) := by decide +kernel
theorem dL_law_731 : decode cL_law 731 = .ok (.iload 4, 2) := by decide +kernel
theorem dL_law_733 : decode cL_law 733 = .ok (.iconst 1, 1) := by decide +kernel
theorem dL_law_734 : decode cL_law 734 = .ok (.iadd, 1) := by decide +kernel
theorem dL_law_735 : decode cL_law 735 = .ok (.iaload, 1) := by decide +kernel
theorem dL_law_736 : decode cL_law 736 = .ok (.aload_n 0, 1) := by decide +kernel
theorem dL_law_737 : decode cL_law 737 = .ok (.iload 4, 2) := by decide +kernel
theorem dL_law_739 : decode cL_law 739 = .ok (.iconst 2, 1) := by decide +kernel
theorem dL_law_740 : decode cL_law 740 = .ok (.iadd, 1) := by decide +kernel
theorem dL_law_741 : decode cL_law 741 = .ok (.iaload, 1) := by decide +kernel
theorem dL_law_742 : decode cL_law 742 = .ok (.aload_n 3, 1) := by decide +kernel
theorem dL_law_743 : decode cL_law 743 = .ok (.invokestatic 170, 3) := by decide +kernel
theorem dL_law_746 : decode cL_law 746 = .ok (.istore 5, 2) := by decide +kernel
theorem dL_law_748 : decode cL_law 748 = .ok (.aload_n 2, 1) := by decide +kernel
theorem dL_law_749 : decode cL_law 749 = .ok (.aload_n 0, 1) := by decide +kernel
theorem dL_law_750 : decode cL_law 750 = .ok (.iload 4, 2) := by decide +kernel
theorem dL_law_752 : decode cL_law 752 = .ok (.iconst 1, 1) := by decide +kernel
theorem dL_law_753 : decode cL_law 753 = .ok (.iadd, 1) := by decide +kernel
theorem dL_law_754 : decode cL_law 754 = .ok (.iaload, 1) := by decide +kernel
theorem dL_law_755 : decode cL_law 755 = .ok (.aload_n 0, 1) := by decide +kernel
theorem dL_law_756 : decode cL_law 756 = .ok (.iload 4, 2) := by decide +kernel
theorem dL_law_758 : decode cL_law 758 = .ok (.iconst 2, 1) := by decide +kernel
theorem dL_law_759 : decode cL_law 759 = .ok (.iadd, 1) := by decide +kernel
theorem dL_law_760 : decode cL_law 760 = .ok (.iaload, 1) := by decide +kernel
theorem dL_law_761 : decode cL_law 761 = .ok (.invokevirtual 172, 3) := by decide +kernel
theorem dL_law_764 : decode cL_law 764 = .ok (.istore 6, 2) := by decide +kernel
theorem dL_law_766 : decode cL_law 766 = .ok (.aload_n 2, 1) := by decide +kernel
theorem dL_law_767 : decode cL_law 767 = .ok (.invokevirtual 153, 3) := by decide +kernel
theorem dL_law_770 : decode cL_law 770 = .ok (.iload 5, 2) := by decide +kernel
theorem dL_law_772 : decode cL_law 772 = .ok (.if_icmp .eq 5, 3) := by decide +kernel
theorem dL_law_775 : decode cL_law 775 = .ok (.iconst 0, 1) := by decide +kernel
theorem dL_law_776 : decode cL_law 776 = .ok (.ireturn, 1) := by decide +kernel
theorem dL_law_777 : decode cL_law 777 = .ok (.iload 5, 2) := by decide +kernel
theorem dL_law_779 : decode cL_law 779 = .ok (.ifCond .ne 15, 3) := by decide +kernel
theorem dL_law_782 : decode cL_law 782 = .ok (.aload_n 3, 1) := by decide +kernel
theorem dL_law_783 : decode cL_law 783 = .ok (.iconst 0, 1) := by decide +kernel
theorem dL_law_784 : decode cL_law 784 = .ok (.laload, 1) := by decide +kernel
theorem dL_law_785 : decode cL_law 785 = .ok (.iload 6, 2) := by decide +kernel
theorem dL_law_787 : decode cL_law 787 = .ok (.i2l, 1) := by decide +kernel
theorem dL_law_788 : decode cL_law 788 = .ok (.lcmp, 1) := by decide +kernel
theorem dL_law_789 : decode cL_law 789 = .ok (.ifCond .eq 5, 3) := by decide +kernel
theorem dL_law_792 : decode cL_law 792 = .ok (.iconst 0, 1) := by decide +kernel
theorem dL_law_793 : decode cL_law 793 = .ok (.ireturn, 1) := by decide +kernel
theorem dL_law_794 : decode cL_law 794 = .ok (.goto 1798, 3) := by decide +kernel
theorem dL_law_797 : decode cL_law 797 = .ok (.aload_n 1, 1) := by decide +kernel
theorem dL_law_798 : decode cL_law 798 = .ok (.aload_n 0, 1) := by decide +kernel
theorem dL_law_799 : decode cL_law 799 = .ok (.iload 4, 2) := by decide +kernel
theorem dL_law_801 : decode cL_law 801 = .ok (.iconst 1, 1) := by decide +kernel
theorem dL_law_802 : decode cL_law 802 = .ok (.iadd, 1) := by decide +kernel
theorem dL_law_803 : decode cL_law 803 = .ok (.iaload, 1) := by decide +kernel
theorem dL_law_804 : decode cL_law 804 = .ok (.aload_n 0, 1) := by decide +kernel
theorem dL_law_805 : decode cL_law 805 = .ok (.iload 4, 2) := by decide +kernel
theorem dL_law_807 : decode cL_law 807 = .ok (.iconst 2, 1) := by decide +kernel
theorem dL_law_808 : decode cL_law 808 = .ok (.iadd, 1) := by decide +kernel
theorem dL_law_809 : decode cL_law 809 = .ok (.iaload, 1) := by decide +kernel
theorem dL_law_810 : decode cL_law 810 = .ok (.aload_n 3, 1) := by decide +kernel
theorem dL_law_811 : decode cL_law 811 = .ok (.invokestatic 173, 3) := by decide +kernel
theorem dL_law_814 : decode cL_law 814 = .ok (.istore 5, 2) := by decide +kernel
theorem dL_law_816 : decode cL_law 816 = .ok (.aload_n 2, 1) := by decide +kernel
theorem dL_law_817 : decode cL_law 817 = .ok (.aload_n 0, 1) := by decide +kernel
theorem dL_law_818 : decode cL_law 818 = .ok (.iload 4, 2) := by decide +kernel
theorem dL_law_820 : decode cL_law 820 = .ok (.iconst 1, 1) := by decide +kernel
theorem dL_law_821 : decode cL_law 821 = .ok (.iadd, 1) := by decide +kernel
theorem dL_law_822 : decode cL_law 822 = .ok (.iaload, 1) := by decide +kernel
theorem dL_law_823 : decode cL_law 823 = .ok (.aload_n 0, 1) := by decide +kernel
theorem dL_law_824 : decode cL_law 824 = .ok (.iload 4, 2) := by decide +kernel
theorem dL_law_826 : decode cL_law 826 = .ok (.iconst 2, 1) := by decide +kernel
theorem dL_law_827 : decode cL_law 827 = .ok (.iadd, 1) := by decide +kernel
theorem dL_law_828 : decode cL_law 828 = .ok (.iaload, 1) := by decide +kernel
theorem dL_law_829 : decode cL_law 829 = .ok (.invokevirtual 175, 3) := by decide +kernel
theorem dL_law_832 : decode cL_law 832 = .ok (.istore 6, 2) := by decide +kernel
theorem dL_law_834 : decode cL_law 834 = .ok (.aload_n 2, 1) := by decide +kernel
theorem dL_law_835 : decode cL_law 835 = .ok (.invokevirtual 153, 3) := by decide +kernel
theorem dL_law_838 : decode cL_law 838 = .ok (.iload 5, 2) := by decide +kernel
theorem dL_law_840 : decode cL_law 840 = .ok (.if_icmp .eq 5, 3) := by decide +kernel
theorem dL_law_843 : decode cL_law 843 = .ok (.iconst 0, 1) := by decide +kernel
theorem dL_law_844 : decode cL_law 844 = .ok (.ireturn, 1) := by decide +kernel
theorem dL_law_845 : decode cL_law 845 = .ok (.iload 5, 2) := by decide +kernel
theorem dL_law_847 : decode cL_law 847 = .ok (.ifCond .ne 15, 3) := by decide +kernel
theorem dL_law_850 : decode cL_law 850 = .ok (.aload_n 3, 1) := by decide +kernel
theorem dL_law_851 : decode cL_law 851 = .ok (.iconst 0, 1) := by decide +kernel
theorem dL_law_852 : decode cL_law 852 = .ok (.laload, 1) := by decide +kernel
theorem dL_law_853 : decode cL_law 853 = .ok (.iload 6, 2) := by decide +kernel
theorem dL_law_855 : decode cL_law 855 = .ok (.i2l, 1) := by decide +kernel
theorem dL_law_856 : decode cL_law 856 = .ok (.lcmp, 1) := by decide +kernel
theorem dL_law_857 : decode cL_law 857 = .ok (.ifCond .eq 5, 3) := by decide +kernel
theorem dL_law_860 : decode cL_law 860 = .ok (.iconst 0, 1) := by decide +kernel
theorem dL_law_861 : decode cL_law 861 = .ok (.ireturn, 1) := by decide +kernel
theorem dL_law_862 : decode cL_law 862 = .ok (.goto 1730, 3) := by decide +kernel
theorem dL_law_865 : decode cL_law 865 = .ok (.aload_n 1, 1) := by decide +kernel
theorem dL_law_866 : decode cL_law 866 = .ok (.aload_n 0, 1) := by decide +kernel
theorem dL_law_867 : decode cL_law 867 = .ok (.iload 4, 2) := by decide +kernel
theorem dL_law_869 : decode cL_law 869 = .ok (.iconst 1, 1) := by decide +kernel
theorem dL_law_870 : decode cL_law 870 = .ok (.iadd, 1) := by decide +kernel
theorem dL_law_871 : decode cL_law 871 = .ok (.iaload, 1) := by decide +kernel
theorem dL_law_872 : decode cL_law 872 = .ok (.aload_n 0, 1) := by decide +kernel
theorem dL_law_873 : decode cL_law 873 = .ok (.iload 4, 2) := by decide +kernel
theorem dL_law_875 : decode cL_law 875 = .ok (.iconst 2, 1) := by decide +kernel
theorem dL_law_876 : decode cL_law 876 = .ok (.iadd, 1) := by decide +kernel
theorem dL_law_877 : decode cL_law 877 = .ok (.iaload, 1) := by decide +kernel
theorem dL_law_878 : decode cL_law 878 = .ok (.aload_n 0, 1) := by decide +kernel
theorem dL_law_879 : decode cL_law 879 = .ok (.iload 4, 2) := by decide +kernel
theorem dL_law_881 : decode cL_law 881 = .ok (.iconst 3, 1) := by decide +kernel
theorem dL_law_882 : decode cL_law 882 = .ok (.iadd, 1) := by decide +kernel
theorem dL_law_883 : decode cL_law 883 = .ok (.iaload, 1) := by decide +kernel
theorem dL_law_884 : decode cL_law 884 = .ok (.aload_n 3, 1) := by decide +kernel
theorem dL_law_885 : decode cL_law 885 = .ok (.invokestatic 176, 3) := by decide +kernel
theorem dL_law_888 : decode cL_law 888 = .ok (.istore 5, 2) := by decide +kernel
theorem dL_law_890 : decode cL_law 890 = .ok (.aload_n 2, 1) := by decide +kernel
theorem dL_law_891 : decode cL_law 891 = .ok (.aload_n 0, 1) := by decide +kernel
theorem dL_law_892 : decode cL_law 892 = .ok (.iload 4, 2) := by decide +kernel
theorem dL_law_894 : decode cL_law 894 = .ok (.iconst 1, 1) := by decide +kernel
theorem dL_law_895 : decode cL_law 895 = .ok (.iadd, 1) := by decide +kernel
theorem dL_law_896 : decode cL_law 896 = .ok (.iaload, 1) := by decide +kernel
theorem dL_law_897 : decode cL_law 897 = .ok (.aload_n 0, 1) := by decide +kernel
theorem dL_law_898 : decode cL_law 898 = .ok (.iload 4, 2) := by decide +kernel
theorem dL_law_900 : decode cL_law 900 = .ok (.iconst 2, 1) := by decide +kernel
theorem dL_law_901 : decode cL_law 901 = .ok (.iadd, 1) := by decide +kernel
theorem dL_law_902 : decode cL_law 902 = .ok (.iaload, 1) := by decide +kernel
theorem dL_law_903 : decode cL_law 903 = .ok (.aload_n 0, 1) := by decide +kernel
theorem dL_law_904 : decode cL_law 904 = .ok (.iload 4, 2) := by decide +kernel
theorem dL_law_906 : decode cL_law 906 = .ok (.iconst 3, 1) := by decide +kernel
theorem dL_law_907 : decode cL_law 907 = .ok (.iadd, 1) := by decide +kernel
theorem dL_law_908 : decode cL_law 908 = .ok (.iaload, 1) := by decide +kernel
theorem dL_law_909 : decode cL_law 909 = .ok (.invokevirtual 179, 3) := by decide +kernel
theorem dL_law_912 : decode cL_law 912 = .ok (.istore 6, 2) := by decide +kernel
theorem dL_law_914 : decode cL_law 914 = .ok (.aload_n 2, 1) := by decide +kernel
theorem dL_law_915 : decode cL_law 915 = .ok (.invokevirtual 153, 3) := by decide +kernel
theorem dL_law_918 : decode cL_law 918 = .ok (.iload 5, 2) := by decide +kernel
theorem dL_law_920 : decode cL_law 920 = .ok (.if_icmp .eq 5, 3) := by decide +kernel
theorem dL_law_923 : decode cL_law 923 = .ok (.iconst 0, 1) := by decide +kernel
theorem dL_law_924 : decode cL_law 924 = .ok (.ireturn, 1) := by decide +kernel
theorem dL_law_925 : decode cL_law 925 = .ok (.iload 5, 2) := by decide +kernel
theorem dL_law_927 : decode cL_law 927 = .ok (.ifCond .ne 15, 3) := by decide +kernel
theorem dL_law_930 : decode cL_law 930 = .ok (.aload_n 3, 1) := by decide +kernel
theorem dL_law_931 : decode cL_law 931 = .ok (.iconst 0, 1) := by decide +kernel
theorem dL_law_932 : decode cL_law 932 = .ok (.laload, 1) := by decide +kernel
theorem dL_law_933 : decode cL_law 933 = .ok (.iload 6, 2) := by decide +kernel
theorem dL_law_935 : decode cL_law 935 = .ok (.i2l, 1) := by decide +kernel
theorem dL_law_936 : decode cL_law 936 = .ok (.lcmp, 1) := by decide +kernel
theorem dL_law_937 : decode cL_law 937 = .ok (.ifCond .eq 5, 3) := by decide +kernel
theorem dL_law_940 : decode cL_law 940 = .ok (.iconst 0, 1) := by decide +kernel
theorem dL_law_941 : decode cL_law 941 = .ok (.ireturn, 1) := by decide +kernel
theorem dL_law_942 : decode cL_law 942 = .ok (.goto 1650, 3) := by decide +kernel
theorem dL_law_945 : decode cL_law 945 = .ok (.aload_n 1, 1) := by decide +kernel
theorem dL_law_946 : decode cL_law 946 = .ok (.aload_n 0, 1) := by decide +kernel
theorem dL_law_947 : decode cL_law 947 = .ok (.iload 4, 2) := by decide +kernel
theorem dL_law_949 : decode cL_law 949 = .ok (.iconst 1, 1) := by decide +kernel
theorem dL_law_950 : decode cL_law 950 = .ok (.iadd, 1) := by decide +kernel
theorem dL_law_951 : decode cL_law 951 = .ok (.iaload, 1) := by decide +kernel
theorem dL_law_952 : decode cL_law 952 = .ok (.aload_n 0, 1) := by decide +kernel
theorem dL_law_953 : decode cL_law 953 = .ok (.iload 4, 2) := by decide +kernel
theorem dL_law_955 : decode cL_law 955 = .ok (.iconst 2, 1) := by decide +kernel
theorem dL_law_956 : decode cL_law 956 = .ok (.iadd, 1) := by decide +kernel
theorem dL_law_957 : decode cL_law 957 = .ok (.iaload, 1) := by decide +kernel
theorem dL_law_958 : decode cL_law 958 = .ok (.aload_n 3, 1) := by decide +kernel
theorem dL_law_959 : decode cL_law 959 = .ok (.invokestatic 180, 3) := by decide +kernel
theorem dL_law_962 : decode cL_law 962 = .ok (.istore 5, 2) := by decide +kernel
theorem dL_law_964 : decode cL_law 964 = .ok (.aload_n 2, 1) := by decide +kernel
theorem dL_law_965 : decode cL_law 965 = .ok (.aload_n 0, 1) := by decide +kernel
theorem dL_law_966 : decode cL_law 966 = .ok (.iload 4, 2) := by decide +kernel
theorem dL_law_968 : decode cL_law 968 = .ok (.iconst 1, 1) := by decide +kernel
theorem dL_law_969 : decode cL_law 969 = .ok (.iadd, 1) := by decide +kernel
theorem dL_law_970 : decode cL_law 970 = .ok (.iaload, 1) := by decide +kernel
theorem dL_law_971 : decode cL_law 971 = .ok (.aload_n 0, 1) := by decide +kernel
theorem dL_law_972 : decode cL_law 972 = .ok (.iload 4, 2) := by decide +kernel
theorem dL_law_974 : decode cL_law 974 = .ok (.iconst 2, 1) := by decide +kernel
theorem dL_law_975 : decode cL_law 975 = .ok (.iadd, 1) := by decide +kernel
theorem dL_law_976 : decode cL_law 976 = .ok (.iaload, 1) := by decide +kernel
theorem dL_law_977 : decode cL_law 977 = .ok (.invokevirtual 182, 3) := by decide +kernel
theorem dL_law_980 : decode cL_law 980 = .ok (.istore 6, 2) := by decide +kernel
theorem dL_law_982 : decode cL_law 982 = .ok (.aload_n 2, 1) := by decide +kernel
theorem dL_law_983 : decode cL_law 983 = .ok (.invokevirtual 153, 3) := by decide +kernel
theorem dL_law_986 : decode cL_law 986 = .ok (.iload 5, 2) := by decide +kernel
theorem dL_law_988 : decode cL_law 988 = .ok (.if_icmp .eq 5, 3) := by decide +kernel
theorem dL_law_991 : decode cL_law 991 = .ok (.iconst 0, 1) := by decide +kernel
theorem dL_law_992 : decode cL_law 992 = .ok (.ireturn, 1) := by decide +kernel
theorem dL_law_993 : decode cL_law 993 = .ok (.iload 5, 2) := by decide +kernel
theorem dL_law_995 : decode cL_law 995 = .ok (.ifCond .ne 15, 3) := by decide +kernel
theorem dL_law_998 : decode cL_law 998 = .ok (.aload_n 3, 1) := by decide +kernel
theorem dL_law_999 : decode cL_law 999 = .ok (.iconst 0, 1) := by decide +kernel
theorem dL_law_1000 : decode cL_law 1000 = .ok (.laload, 1) := by decide +kernel
theorem dL_law_1001 : decode cL_law 1001 = .ok (.iload 6, 2) := by decide +kernel
theorem dL_law_1003 : decode cL_law 1003 = .ok (.i2l, 1) := by decide +kernel
theorem dL_law_1004 : decode cL_law 1004 = .ok (.lcmp, 1) := by decide +kernel
theorem dL_law_1005 : decode cL_law 1005 = .ok (.ifCond .eq 5, 3) := by decide +kernel
theorem dL_law_1008 : decode cL_law 1008 = .ok (.iconst 0, 1) := by decide +kernel
theorem dL_law_1009 : decode cL_law 1009 = .ok (.ireturn, 1) := by decide +kernel
theorem dL_law_1010 : decode cL_law 1010 = .ok (.goto 1582, 3) := by decide +kernel
theorem dL_law_1013 : decode cL_law 1013 = .ok (.aload_n 1, 1) := by decide +kernel
theorem dL_law_1014 : decode cL_law 1014 = .ok (.aload_n 0, 1) := by decide +kernel
theorem dL_law_1015 : decode cL_law 1015 = .ok (.iload 4, 2) := by decide +kernel
theorem dL_law_1017 : decode cL_law 1017 = .ok (.iconst 1, 1) := by decide +kernel
theorem dL_law_1018 : decode cL_law 1018 = .ok (.iadd, 1) := by decide +kernel
theorem dL_law_1019 : decode cL_law 1019 = .ok (.iaload, 1) := by decide +kernel
theorem dL_law_1020 : decode cL_law 1020 = .ok (.aload_n 0, 1) := by decide +kernel
theorem dL_law_1021 : decode cL_law 1021 = .ok (.iload 4, 2) := by decide +kernel
theorem dL_law_1023 : decode cL_law 1023 = .ok (.iconst 2, 1) := by decide +kernel
theorem dL_law_1024 : decode cL_law 1024 = .ok (.iadd, 1) := by decide +kernel
theorem dL_law_1025 : decode cL_law 1025 = .ok (.iaload, 1) := by decide +kernel
theorem dL_law_1026 : decode cL_law 1026 = .ok (.aload_n 3, 1) := by decide +kernel
theorem dL_law_1027 : decode cL_law 1027 = .ok (.invokestatic 183, 3) := by decide +kernel
theorem dL_law_1030 : decode cL_law 1030 = .ok (.istore 5, 2) := by decide +kernel
theorem dL_law_1032 : decode cL_law 1032 = .ok (.aload_n 2, 1) := by decide +kernel
theorem dL_law_1033 : decode cL_law 1033 = .ok (.aload_n 0, 1) := by decide +kernel
theorem dL_law_1034 : decode cL_law 1034 = .ok (.iload 4, 2) := by decide +kernel
theorem dL_law_1036 : decode cL_law 1036 = .ok (.iconst 1, 1) := by decide +kernel
theorem dL_law_1037 : decode cL_law 1037 = .ok (.iadd, 1) := by decide +kernel
theorem dL_law_1038 : decode cL_law 1038 = .ok (.iaload, 1) := by decide +kernel
theorem dL_law_1039 : decode cL_law 1039 = .ok (.aload_n 0, 1) := by decide +kernel
theorem dL_law_1040 : decode cL_law 1040 = .ok (.iload 4, 2) := by decide +kernel
theorem dL_law_1042 : decode cL_law 1042 = .ok (.iconst 2, 1) := by decide +kernel
theorem dL_law_1043 : decode cL_law 1043 = .ok (.iadd, 1) := by decide +kernel
theorem dL_law_1044 : decode cL_law 1044 = .ok (.iaload, 1) := by decide +kernel
theorem dL_law_1045 : decode cL_law 1045 = .ok (.invokevirtual 185, 3) := by decide +kernel
theorem dL_law_1048 : decode cL_law 1048 = .ok (.istore 6, 2) := by decide +kernel
theorem dL_law_1050 : decode cL_law 1050 = .ok (.aload_n 2, 1) := by decide +kernel
theorem dL_law_1051 : decode cL_law 1051 = .ok (.invokevirtual 153, 3) := by decide +kernel
theorem dL_law_1054 : decode cL_law 1054 = .ok (.iload 5, 2) := by decide +kernel
theorem dL_law_1056 : decode cL_law 1056 = .ok (.if_icmp .eq 5, 3) := by decide +kernel
theorem dL_law_1059 : decode cL_law 1059 = .ok (.iconst 0, 1) := by decide +kernel
theorem dL_law_1060 : decode cL_law 1060 = .ok (.ireturn, 1) := by decide +kernel
theorem dL_law_1061 : decode cL_law 1061 = .ok (.iload 5, 2) := by decide +kernel
theorem dL_law_1063 : decode cL_law 1063 = .ok (.ifCond .ne 15, 3) := by decide +kernel
theorem dL_law_1066 : decode cL_law 1066 = .ok (.aload_n 3, 1) := by decide +kernel
theorem dL_law_1067 : decode cL_law 1067 = .ok (.iconst 0, 1) := by decide +kernel
theorem dL_law_1068 : decode cL_law 1068 = .ok (.laload, 1) := by decide +kernel
theorem dL_law_1069 : decode cL_law 1069 = .ok (.iload 6, 2) := by decide +kernel
theorem dL_law_1071 : decode cL_law 1071 = .ok (.i2l, 1) := by decide +kernel
theorem dL_law_1072 : decode cL_law 1072 = .ok (.lcmp, 1) := by decide +kernel
theorem dL_law_1073 : decode cL_law 1073 = .ok (.ifCond .eq 5, 3) := by decide +kernel
theorem dL_law_1076 : decode cL_law 1076 = .ok (.iconst 0, 1) := by decide +kernel
theorem dL_law_1077 : decode cL_law 1077 = .ok (.ireturn, 1) := by decide +kernel
theorem dL_law_1078 : decode cL_law 1078 = .ok (.goto 1514, 3) := by decide +kernel
theorem dL_law_1081 : decode cL_law 1081 = .ok (.aload_n 1, 1) := by decide +kernel
theorem dL_law_1082 : decode cL_law 1082 = .ok (.aload_n 0, 1) := by decide +kernel
theorem dL_law_1083 : decode cL_law 1083 = .ok (.iload 4, 2) := by decide +kernel
theorem dL_law_1085 : decode cL_law 1085 = .ok (.iconst 1, 1) := by decide +kernel
theorem dL_law_1086 : decode cL_law 1086 = .ok (.iadd, 1) := by decide +kernel
theorem dL_law_1087 : decode cL_law 1087 = .ok (.iaload, 1) := by decide +kernel
theorem dL_law_1088 : decode cL_law 1088 = .ok (.aload_n 0, 1) := by decide +kernel
theorem dL_law_1089 : decode cL_law 1089 = .ok (.iload 4, 2) := by decide +kernel
theorem dL_law_1091 : decode cL_law 1091 = .ok (.iconst 2, 1) := by decide +kernel
theorem dL_law_1092 : decode cL_law 1092 = .ok (.iadd, 1) := by decide +kernel
theorem dL_law_1093 : decode cL_law 1093 = .ok (.iaload, 1) := by decide +kernel
theorem dL_law_1094 : decode cL_law 1094 = .ok (.aload_n 3, 1) := by decide +kernel
theorem dL_law_1095 : decode cL_law 1095 = .ok (.invokestatic 186, 3) := by decide +kernel
theorem dL_law_1098 : decode cL_law 1098 = .ok (.istore 5, 2) := by decide +kernel
theorem dL_law_1100 : decode cL_law 1100 = .ok (.aload_n 2, 1) := by decide +kernel
theorem dL_law_1101 : decode cL_law 1101 = .ok (.aload_n 0, 1) := by decide +kernel
theorem dL_law_1102 : decode cL_law 1102 = .ok (.iload 4, 2) := by decide +kernel
theorem dL_law_1104 : decode cL_law 1104 = .ok (.iconst 1, 1) := by decide +kernel
theorem dL_law_1105 : decode cL_law 1105 = .ok (.iadd, 1) := by decide +kernel
theorem dL_law_1106 : decode cL_law 1106 = .ok (.iaload, 1) := by decide +kernel
theorem dL_law_1107 : decode cL_law 1107 = .ok (.aload_n 0, 1) := by decide +kernel
theorem dL_law_1108 : decode cL_law 1108 = .ok (.iload 4, 2) := by decide +kernel
theorem dL_law_1110 : decode cL_law 1110 = .ok (.iconst 2, 1) := by decide +kernel
theorem dL_law_1111 : decode cL_law 1111 = .ok (.iadd, 1) := by decide +kernel
theorem dL_law_1112 : decode cL_law 1112 = .ok (.iaload, 1) := by decide +kernel
theorem dL_law_1113 : decode cL_law 1113 = .ok (.invokevirtual 188, 3) := by decide +kernel
theorem dL_law_1116 : decode cL_law 1116 = .ok (.istore 6, 2) := by decide +kernel
theorem dL_law_1118 : decode cL_law 1118 = .ok (.aload_n 2, 1) := by decide +kernel
theorem dL_law_1119 : decode cL_law 1119 = .ok (.invokevirtual 153, 3) := by decide +kernel
theorem dL_law_1122 : decode cL_law 1122 = .ok (.iload 5, 2) := by decide +kernel
theorem dL_law_1124 : decode cL_law 1124 = .ok (.if_icmp .eq 5, 3) := by decide +kernel
theorem dL_law_1127 : decode cL_law 1127 = .ok (.iconst 0, 1) := by decide +kernel
theorem dL_law_1128 : decode cL_law 1128 = .ok (.ireturn, 1) := by decide +kernel
theorem dL_law_1129 : decode cL_law 1129 = .ok (.iload 5, 2) := by decide +kernel
theorem dL_law_1131 : decode cL_law 1131 = .ok (.ifCond .ne 15, 3) := by decide +kernel
theorem dL_law_1134 : decode cL_law 1134 = .ok (.aload_n 3, 1) := by decide +kernel
theorem dL_law_1135 : decode cL_law 1135 = .ok (.iconst 0, 1) := by decide +kernel
theorem dL_law_1136 : decode cL_law 1136 = .ok (.laload, 1) := by decide +kernel
theorem dL_law_1137 : decode cL_law 1137 = .ok (.iload 6, 2) := by decide +kernel
theorem dL_law_1139 : decode cL_law 1139 = .ok (.i2l, 1) := by decide +kernel
theorem dL_law_1140 : decode cL_law 1140 = .ok (.lcmp, 1) := by decide +kernel
theorem dL_law_1141 : decode cL_law 1141 = .ok (.ifCond .eq 5, 3) := by decide +kernel
theorem dL_law_1144 : decode cL_law 1144 = .ok (.iconst 0, 1) := by decide +kernel
theorem dL_law_1145 : decode cL_law 1145 = .ok (.ireturn, 1) := by decide +kernel
theorem dL_law_1146 : decode cL_law 1146 = .ok (.goto 1446, 3) := by decide +kernel
theorem dL_law_1149 : decode cL_law 1149 = .ok (.aload_n 1, 1) := by decide +kernel
theorem dL_law_1150 : decode cL_law 1150 = .ok (.invokevirtual 189, 3) := by decide +kernel
theorem dL_law_1153 : decode cL_law 1153 = .ok (.aload_n 2, 1) := by decide +kernel
theorem dL_law_1154 : decode cL_law 1154 = .ok (.invokevirtual 192, 3) := by decide +kernel
theorem dL_law_1157 : decode cL_law 1157 = .ok (.if_icmp .eq 1435, 3) := by decide +kernel
theorem dL_law_1160 : decode cL_law 1160 = .ok (.iconst 0, 1) := by decide +kernel
theorem dL_law_1161 : decode cL_law 1161 = .ok (.ireturn, 1) := by decide +kernel
theorem dL_law_1162 : decode cL_law 1162 = .ok (.aload_n 1, 1) := by decide +kernel
theorem dL_law_1163 : decode cL_law 1163 = .ok (.invokevirtual 193, 3) := by decide +kernel
theorem dL_law_1166 : decode cL_law 1166 = .ok (.aload_n 2, 1) := by decide +kernel
theorem dL_law_1167 : decode cL_law 1167 = .ok (.invokevirtual 196, 3) := by decide +kernel
theorem dL_law_1170 : decode cL_law 1170 = .ok (.if_icmp .eq 1422, 3) := by decide +kernel
theorem dL_law_1173 : decode cL_law 1173 = .ok (.iconst 0, 1) := by decide +kernel
theorem dL_law_1174 : decode cL_law 1174 = .ok (.ireturn, 1) := by decide +kernel
theorem dL_law_1175 : decode cL_law 1175 = .ok (.aload_n 1, 1) := by decide +kernel
theorem dL_law_1176 : decode cL_law 1176 = .ok (.invokevirtual 197, 3) := by decide +kernel
theorem dL_law_1179 : decode cL_law 1179 = .ok (.aload_n 2, 1) := by decide +kernel
theorem dL_law_1180 : decode cL_law 1180 = .ok (.invokevirtual 200, 3) := by decide +kernel
theorem dL_law_1183 : decode cL_law 1183 = .ok (.if_icmp .eq 1409, 3) := by decide +kernel
theorem dL_law_1186 : decode cL_law 1186 = .ok (.iconst 0, 1) := by decide +kernel
theorem dL_law_1187 : decode cL_law 1187 = .ok (.ireturn, 1) := by decide +kernel
theorem dL_law_1188 : decode cL_law 1188 = .ok (.aload_n 1, 1) := by decide +kernel
theorem dL_law_1189 : decode cL_law 1189 = .ok (.invokevirtual 201, 3) := by decide +kernel
theorem dL_law_1192 : decode cL_law 1192 = .ok (.aload_n 2, 1) := by decide +kernel
theorem dL_law_1193 : decode cL_law 1193 = .ok (.invokevirtual 205, 3) := by decide +kernel
theorem dL_law_1196 : decode cL_law 1196 = .ok (.lcmp, 1) := by decide +kernel
theorem dL_law_1197 : decode cL_law 1197 = .ok (.ifCond .eq 1395, 3) := by decide +kernel
theorem dL_law_1200 : decode cL_law 1200 = .ok (.iconst 0, 1) := by decide +kernel
theorem dL_law_1201 : decode cL_law 1201 = .ok (.ireturn, 1) := by decide +kernel
theorem dL_law_1202 : decode cL_law 1202 = .ok (.aload_n 1, 1) := by decide +kernel
theorem dL_law_1203 : decode cL_law 1203 = .ok (.aload_n 0, 1) := by decide +kernel
theorem dL_law_1204 : decode cL_law 1204 = .ok (.iload 4, 2) := by decide +kernel
theorem dL_law_1206 : decode cL_law 1206 = .ok (.iconst 1, 1) := by decide +kernel
theorem dL_law_1207 : decode cL_law 1207 = .ok (.iadd, 1) := by decide +kernel
theorem dL_law_1208 : decode cL_law 1208 = .ok (.iaload, 1) := by decide +kernel
theorem dL_law_1209 : decode cL_law 1209 = .ok (.aload_n 3, 1) := by decide +kernel
theorem dL_law_1210 : decode cL_law 1210 = .ok (.invokestatic 206, 3) := by decide +kernel
theorem dL_law_1213 : decode cL_law 1213 = .ok (.istore 5, 2) := by decide +kernel
theorem dL_law_1215 : decode cL_law 1215 = .ok (.aload_n 2, 1) := by decide +kernel
theorem dL_law_1216 : decode cL_law 1216 = .ok (.aload_n 0, 1) := by decide +kernel
theorem dL_law_1217 : decode cL_law 1217 = .ok (.iload 4, 2) := by decide +kernel
theorem dL_law_1219 : decode cL_law 1219 = .ok (.iconst 1, 1) := by decide +kernel
theorem dL_law_1220 : decode cL_law 1220 = .ok (.iadd, 1) := by decide +kernel
theorem dL_law_1221 : decode cL_law 1221 = .ok (.iaload, 1) := by decide +kernel
theorem dL_law_1222 : decode cL_law 1222 = .ok (.invokevirtual 208, 3) := by decide +kernel
theorem dL_law_1225 : decode cL_law 1225 = .ok (.istore 6, 2) := by decide +kernel
theorem dL_law_1227 : decode cL_law 1227 = .ok (.aload_n 2, 1) := by decide +kernel
theorem dL_law_1228 : decode cL_law 1228 = .ok (.invokevirtual 153, 3) := by decide +kernel
theorem dL_law_1231 : decode cL_law 1231 = .ok (.iload 5, 2) := by decide +kernel
theorem dL_law_1233 : decode cL_law 1233 = .ok (.if_icmp .eq 5, 3) := by decide +kernel
theorem dL_law_1236 : decode cL_law 1236 = .ok (.iconst 0, 1) := by decide +kernel
theorem dL_law_1237 : decode cL_law 1237 = .ok (.ireturn, 1) := by decide +kernel
theorem dL_law_1238 : decode cL_law 1238 = .ok (.iload 5, 2) := by decide +kernel
theorem dL_law_1240 : decode cL_law 1240 = .ok (.ifCond .ne 15, 3) := by decide +kernel
theorem dL_law_1243 : decode cL_law 1243 = .ok (.aload_n 3, 1) := by decide +kernel
theorem dL_law_1244 : decode cL_law 1244 = .ok (.iconst 0, 1) := by decide +kernel
theorem dL_law_1245 : decode cL_law 1245 = .ok (.laload, 1) := by decide +kernel
theorem dL_law_1246 : decode cL_law 1246 = .ok (.iload 6, 2) := by decide +kernel
theorem dL_law_1248 : decode cL_law 1248 = .ok (.i2l, 1) := by decide +kernel
theorem dL_law_1249 : decode cL_law 1249 = .ok (.lcmp, 1) := by decide +kernel
theorem dL_law_1250 : decode cL_law 1250 = .ok (.ifCond .eq 5, 3) := by decide +kernel
theorem dL_law_1253 : decode cL_law 1253 = .ok (.iconst 0, 1) := by decide +kernel
theorem dL_law_1254 : decode cL_law 1254 = .ok (.ireturn, 1) := by decide +kernel
theorem dL_law_1255 : decode cL_law 1255 = .ok (.goto 1337, 3) := by decide +kernel
theorem dL_law_1258 : decode cL_law 1258 = .ok (.aload_n 1, 1) := by decide +kernel
theorem dL_law_1259 : decode cL_law 1259 = .ok (.invokevirtual 209, 3) := by decide +kernel
theorem dL_law_1262 : decode cL_law 1262 = .ok (.aload_n 2, 1) := by decide +kernel
theorem dL_law_1263 : decode cL_law 1263 = .ok (.invokevirtual 212, 3) := by decide +kernel
theorem dL_law_1266 : decode cL_law 1266 = .ok (.if_icmp .eq 1326, 3) := by decide +kernel
theorem dL_law_1269 : decode cL_law 1269 = .ok (.iconst 0, 1) := by decide +kernel
theorem dL_law_1270 : decode cL_law 1270 = .ok (.ireturn, 1) := by decide +kernel
theorem dL_law_1271 : decode cL_law 1271 = .ok (.aload_n 1, 1) := by decide +kernel
theorem dL_law_1272 : decode cL_law 1272 = .ok (.aload_n 0, 1) := by decide +kernel
theorem dL_law_1273 : decode cL_law 1273 = .ok (.iload 4, 2) := by decide +kernel
theorem dL_law_1275 : decode cL_law 1275 = .ok (.iconst 1, 1) := by decide +kernel
theorem dL_law_1276 : decode cL_law 1276 = .ok (.iadd, 1) := by decide +kernel
theorem dL_law_1277 : decode cL_law 1277 = .ok (.iaload, 1) := by decide +kernel
theorem dL_law_1278 : decode cL_law 1278 = .ok (.aload_n 0, 1) := by decide +kernel
theorem dL_law_1279 : decode cL_law 1279 = .ok (.iload 4, 2) := by decide +kernel
theorem dL_law_1281 : decode cL_law 1281 = .ok (.iconst 2, 1) := by decide +kernel
theorem dL_law_1282 : decode cL_law 1282 = .ok (.iadd, 1) := by decide +kernel
theorem dL_law_1283 : decode cL_law 1283 = .ok (.iaload, 1) := by decide +kernel
theorem dL_law_1284 : decode cL_law 1284 = .ok (.aload_n 3, 1) := by decide +kernel
theorem dL_law_1285 : decode cL_law 1285 = .ok (.invokestatic 213, 3) := by decide +kernel
theorem dL_law_1288 : decode cL_law 1288 = .ok (.istore 5, 2) := by decide +kernel
theorem dL_law_1290 : decode cL_law 1290 = .ok (.aload_n 2, 1) := by decide +kernel
theorem dL_law_1291 : decode cL_law 1291 = .ok (.aload_n 0, 1) := by decide +kernel
theorem dL_law_1292 : decode cL_law 1292 = .ok (.iload 4, 2) := by decide +kernel
theorem dL_law_1294 : decode cL_law 1294 = .ok (.iconst 1, 1) := by decide +kernel
theorem dL_law_1295 : decode cL_law 1295 = .ok (.iadd, 1) := by decide +kernel
theorem dL_law_1296 : decode cL_law 1296 = .ok (.iaload, 1) := by decide +kernel
theorem dL_law_1297 : decode cL_law 1297 = .ok (.aload_n 0, 1) := by decide +kernel
theorem dL_law_1298 : decode cL_law 1298 = .ok (.iload 4, 2) := by decide +kernel
theorem dL_law_1300 : decode cL_law 1300 = .ok (.iconst 2, 1) := by decide +kernel
theorem dL_law_1301 : decode cL_law 1301 = .ok (.iadd, 1) := by decide +kernel
theorem dL_law_1302 : decode cL_law 1302 = .ok (.iaload, 1) := by decide +kernel
theorem dL_law_1303 : decode cL_law 1303 = .ok (.invokevirtual 215, 3) := by decide +kernel
theorem dL_law_1306 : decode cL_law 1306 = .ok (.istore 6, 2) := by decide +kernel
theorem dL_law_1308 : decode cL_law 1308 = .ok (.aload_n 2, 1) := by decide +kernel
theorem dL_law_1309 : decode cL_law 1309 = .ok (.invokevirtual 153, 3) := by decide +kernel
theorem dL_law_1312 : decode cL_law 1312 = .ok (.iload 5, 2) := by decide +kernel
theorem dL_law_1314 : decode cL_law 1314 = .ok (.if_icmp .eq 5, 3) := by decide +kernel
theorem dL_law_1317 : decode cL_law 1317 = .ok (.iconst 0, 1) := by decide +kernel
theorem dL_law_1318 : decode cL_law 1318 = .ok (.ireturn, 1) := by decide +kernel
theorem dL_law_1319 : decode cL_law 1319 = .ok (.iload 5, 2) := by decide +kernel
theorem dL_law_1321 : decode cL_law 1321 = .ok (.ifCond .ne 15, 3) := by decide +kernel
theorem dL_law_1324 : decode cL_law 1324 = .ok (.aload_n 3, 1) := by decide +kernel
theorem dL_law_1325 : decode cL_law 1325 = .ok (.iconst 0, 1) := by decide +kernel
theorem dL_law_1326 : decode cL_law 1326 = .ok (.laload, 1) := by decide +kernel
theorem dL_law_1327 : decode cL_law 1327 = .ok (.iload 6, 2) := by decide +kernel
theorem dL_law_1329 : decode cL_law 1329 = .ok (.i2l, 1) := by decide +kernel
theorem dL_law_1330 : decode cL_law 1330 = .ok (.lcmp, 1) := by decide +kernel
theorem dL_law_1331 : decode cL_law 1331 = .ok (.ifCond .eq 5, 3) := by decide +kernel
theorem dL_law_1334 : decode cL_law 1334 = .ok (.iconst 0, 1) := by decide +kernel
theorem dL_law_1335 : decode cL_law 1335 = .ok (.ireturn, 1) := by decide +kernel
theorem dL_law_1336 : decode cL_law 1336 = .ok (.goto 1256, 3) := by decide +kernel
theorem dL_law_1339 : decode cL_law 1339 = .ok (.aload_n 1, 1) := by decide +kernel
theorem dL_law_1340 : decode cL_law 1340 = .ok (.aload_n 0, 1) := by decide +kernel
theorem dL_law_1341 : decode cL_law 1341 = .ok (.iload 4, 2) := by decide +kernel
theorem dL_law_1343 : decode cL_law 1343 = .ok (.iconst 1, 1) := by decide +kernel
theorem dL_law_1344 : decode cL_law 1344 = .ok (.iadd, 1) := by decide +kernel
theorem dL_law_1345 : decode cL_law 1345 = .ok (.iaload, 1) := by decide +kernel
theorem dL_law_1346 : decode cL_law 1346 = .ok (.aload_n 3, 1) := by decide +kernel
theorem dL_law_1347 : decode cL_law 1347 = .ok (.invokestatic 216, 3) := by decide +kernel
theorem dL_law_1350 : decode cL_law 1350 = .ok (.istore 5, 2) := by decide +kernel
theorem dL_law_1352 : decode cL_law 1352 = .ok (.aload_n 2, 1) := by decide +kernel
theorem dL_law_1353 : decode cL_law 1353 = .ok (.aload_n 0, 1) := by decide +kernel
theorem dL_law_1354 : decode cL_law 1354 = .ok (.iload 4, 2) := by decide +kernel
theorem dL_law_1356 : decode cL_law 1356 = .ok (.iconst 1, 1) := by decide +kernel
theorem dL_law_1357 : decode cL_law 1357 = .ok (.iadd, 1) := by decide +kernel
theorem dL_law_1358 : decode cL_law 1358 = .ok (.iaload, 1) := by decide +kernel
theorem dL_law_1359 : decode cL_law 1359 = .ok (.invokevirtual 218, 3) := by decide +kernel
theorem dL_law_1362 : decode cL_law 1362 = .ok (.istore 6, 2) := by decide +kernel
theorem dL_law_1364 : decode cL_law 1364 = .ok (.aload_n 2, 1) := by decide +kernel
theorem dL_law_1365 : decode cL_law 1365 = .ok (.invokevirtual 153, 3) := by decide +kernel
theorem dL_law_1368 : decode cL_law 1368 = .ok (.iload 5, 2) := by decide +kernel
theorem dL_law_1370 : decode cL_law 1370 = .ok (.if_icmp .eq 5, 3) := by decide +kernel
theorem dL_law_1373 : decode cL_law 1373 = .ok (.iconst 0, 1) := by decide +kernel
theorem dL_law_1374 : decode cL_law 1374 = .ok (.ireturn, 1) := by decide +kernel
theorem dL_law_1375 : decode cL_law 1375 = .ok (.iload 5, 2) := by decide +kernel
theorem dL_law_1377 : decode cL_law 1377 = .ok (.ifCond .ne 15, 3) := by decide +kernel
theorem dL_law_1380 : decode cL_law 1380 = .ok (.aload_n 3, 1) := by decide +kernel
theorem dL_law_1381 : decode cL_law 1381 = .ok (.iconst 0, 1) := by decide +kernel
theorem dL_law_1382 : decode cL_law 1382 = .ok (.laload, 1) := by decide +kernel
theorem dL_law_1383 : decode cL_law 1383 = .ok (.iload 6, 2) := by decide +kernel
theorem dL_law_1385 : decode cL_law 1385 = .ok (.i2l, 1) := by decide +kernel
theorem dL_law_1386 : decode cL_law 1386 = .ok (.lcmp, 1) := by decide +kernel
theorem dL_law_1387 : decode cL_law 1387 = .ok (.ifCond .eq 5, 3) := by decide +kernel
theorem dL_law_1390 : decode cL_law 1390 = .ok (.iconst 0, 1) := by decide +kernel
theorem dL_law_1391 : decode cL_law 1391 = .ok (.ireturn, 1) := by decide +kernel
theorem dL_law_1392 : decode cL_law 1392 = .ok (.goto 1200, 3) := by decide +kernel
theorem dL_law_1395 : decode cL_law 1395 = .ok (.aload_n 1, 1) := by decide +kernel
theorem dL_law_1396 : decode cL_law 1396 = .ok (.invokevirtual 219, 3) := by decide +kernel
theorem dL_law_1399 : decode cL_law 1399 = .ok (.aload_n 2, 1) := by decide +kernel
theorem dL_law_1400 : decode cL_law 1400 = .ok (.invokevirtual 222, 3) := by decide +kernel
theorem dL_law_1403 : decode cL_law 1403 = .ok (.if_icmp .eq 1189, 3) := by decide +kernel
theorem dL_law_1406 : decode cL_law 1406 = .ok (.iconst 0, 1) := by decide +kernel
theorem dL_law_1407 : decode cL_law 1407 = .ok (.ireturn, 1) := by decide +kernel
theorem dL_law_1408 : decode cL_law 1408 = .ok (.aload_n 1, 1) := by decide +kernel
theorem dL_law_1409 : decode cL_law 1409 = .ok (.invokevirtual 223, 3) := by decide +kernel
theorem dL_law_1412 : decode cL_law 1412 = .ok (.dstore 5, 2) := by decide +kernel
theorem dL_law_1414 : decode cL_law 1414 = .ok (.aload_n 2, 1) := by decide +kernel
theorem dL_law_1415 : decode cL_law 1415 = .ok (.invokevirtual 227, 3) := by decide +kernel
theorem dL_law_1418 : decode cL_law 1418 = .ok (.dstore 7, 2) := by decide +kernel
theorem dL_law_1420 : decode cL_law 1420 = .ok (.dload 5, 2) := by decide +kernel
theorem dL_law_1422 : decode cL_law 1422 = .ok (.dload 7, 2) := by decide +kernel
theorem dL_law_1424 : decode cL_law 1424 = .ok (.dcmp .l, 1) := by decide +kernel
theorem dL_law_1425 : decode cL_law 1425 = .ok (.ifCond .eq 21, 3) := by decide +kernel
theorem dL_law_1428 : decode cL_law 1428 = .ok (.dload 5, 2) := by decide +kernel
theorem dL_law_1430 : decode cL_law 1430 = .ok (.dload 5, 2) := by decide +kernel
theorem dL_law_1432 : decode cL_law 1432 = .ok (.dcmp .l, 1) := by decide +kernel
theorem dL_law_1433 : decode cL_law 1433 = .ok (.ifCond .eq 11, 3) := by decide +kernel
theorem dL_law_1436 : decode cL_law 1436 = .ok (.dload 7, 2) := by decide +kernel
theorem dL_law_1438 : decode cL_law 1438 = .ok (.dload 7, 2) := by decide +kernel
theorem dL_law_1440 : decode cL_law 1440 = .ok (.dcmp .l, 1) := by decide +kernel
theorem dL_law_1441 : decode cL_law 1441 = .ok (.ifCond .ne 5, 3) := by decide +kernel
theorem dL_law_1444 : decode cL_law 1444 = .ok (.iconst 0, 1) := by decide +kernel
theorem dL_law_1445 : decode cL_law 1445 = .ok (.ireturn, 1) := by decide +kernel
theorem dL_law_1446 : decode cL_law 1446 = .ok (.goto 1146, 3) := by decide +kernel
theorem dL_law_1449 : decode cL_law 1449 = .ok (.aload_n 1, 1) := by decide +kernel
theorem dL_law_1450 : decode cL_law 1450 = .ok (.invokevirtual 228, 3) := by decide +kernel
theorem dL_law_1453 : decode cL_law 1453 = .ok (.f2d, 1) := by decide +kernel
theorem dL_law_1454 : decode cL_law 1454 = .ok (.dstore 5, 2) := by decide +kernel
theorem dL_law_1456 : decode cL_law 1456 = .ok (.aload_n 2, 1) := by decide +kernel
theorem dL_law_1457 : decode cL_law 1457 = .ok (.invokevirtual 232, 3) := by decide +kernel
theorem dL_law_1460 : decode cL_law 1460 = .ok (.f2d, 1) := by decide +kernel
theorem dL_law_1461 : decode cL_law 1461 = .ok (.dstore 7, 2) := by decide +kernel
theorem dL_law_1463 : decode cL_law 1463 = .ok (.dload 5, 2) := by decide +kernel
theorem dL_law_1465 : decode cL_law 1465 = .ok (.dload 7, 2) := by decide +kernel
theorem dL_law_1467 : decode cL_law 1467 = .ok (.dcmp .l, 1) := by decide +kernel
theorem dL_law_1468 : decode cL_law 1468 = .ok (.ifCond .eq 21, 3) := by decide +kernel
theorem dL_law_1471 : decode cL_law 1471 = .ok (.dload 5, 2) := by decide +kernel
theorem dL_law_1473 : decode cL_law 1473 = .ok (.dload 5, 2) := by decide +kernel
theorem dL_law_1475 : decode cL_law 1475 = .ok (.dcmp .l, 1) := by decide +kernel
theorem dL_law_1476 : decode cL_law 1476 = .ok (.ifCond .eq 11, 3) := by decide +kernel
theorem dL_law_1479 : decode cL_law 1479 = .ok (.dload 7, 2) := by decide +kernel
theorem dL_law_1481 : decode cL_law 1481 = .ok (.dload 7, 2) := by decide +kernel
theorem dL_law_1483 : decode cL_law 1483 = .ok (.dcmp .l, 1) := by decide +kernel
theorem dL_law_1484 : decode cL_law 1484 = .ok (.ifCond .ne 5, 3) := by decide +kernel
theorem dL_law_1487 : decode cL_law 1487 = .ok (.iconst 0, 1) := by decide +kernel
theorem dL_law_1488 : decode cL_law 1488 = .ok (.ireturn, 1) := by decide +kernel
theorem dL_law_1489 : decode cL_law 1489 = .ok (.goto 1103, 3) := by decide +kernel
theorem dL_law_1492 : decode cL_law 1492 = .ok (.aload_n 1, 1) := by decide +kernel
theorem dL_law_1493 : decode cL_law 1493 = .ok (.aload_n 0, 1) := by decide +kernel
theorem dL_law_1494 : decode cL_law 1494 = .ok (.iload 4, 2) := by decide +kernel
theorem dL_law_1496 : decode cL_law 1496 = .ok (.iconst 1, 1) := by decide +kernel
theorem dL_law_1497 : decode cL_law 1497 = .ok (.iadd, 1) := by decide +kernel
theorem dL_law_1498 : decode cL_law 1498 = .ok (.iaload, 1) := by decide +kernel
theorem dL_law_1499 : decode cL_law 1499 = .ok (.aload_n 3, 1) := by decide +kernel
theorem dL_law_1500 : decode cL_law 1500 = .ok (.invokestatic 233, 3) := by decide +kernel
theorem dL_law_1503 : decode cL_law 1503 = .ok (.istore 5, 2) := by decide +kernel
theorem dL_law_1505 : decode cL_law 1505 = .ok (.aload_n 2, 1) := by decide +kernel
theorem dL_law_1506 : decode cL_law 1506 = .ok (.aload_n 0, 1) := by decide +kernel
theorem dL_law_1507 : decode cL_law 1507 = .ok (.iload 4, 2) := by decide +kernel
theorem dL_law_1509 : decode cL_law 1509 = .ok (.iconst 1, 1) := by decide +kernel
theorem dL_law_1510 : decode cL_law 1510 = .ok (.iadd, 1) := by decide +kernel
theorem dL_law_1511 : decode cL_law 1511 = .ok (.iaload, 1) := by decide +kernel
theorem dL_law_1512 : decode cL_law 1512 = .ok (.invokevirtual 235, 3) := by decide +kernel
theorem dL_law_1515 : decode cL_law 1515 = .ok (.istore 6, 2) := by decide +kernel
theorem dL_law_1517 : decode cL_law 1517 = .ok (.aload_n 2, 1) := by decide +kernel
theorem dL_law_1518 : decode cL_law 1518 = .ok (.invokevirtual 153, 3) := by decide +kernel
theorem dL_law_1521 : decode cL_law 1521 = .ok (.iload 5, 2) := by decide +kernel
theorem dL_law_1523 : decode cL_law 1523 = .ok (.if_icmp .eq 5, 3) := by decide +kernel
theorem dL_law_1526 : decode cL_law 1526 = .ok (.iconst 0, 1) := by decide +kernel
theorem dL_law_1527 : decode cL_law 1527 = .ok (.ireturn, 1) := by decide +kernel
theorem dL_law_1528 : decode cL_law 1528 = .ok (.iload 5, 2) := by decide +kernel
theorem dL_law_1530 : decode cL_law 1530 = .ok (.ifCond .ne 15, 3) := by decide +kernel
theorem dL_law_1533 : decode cL_law 1533 = .ok (.aload_n 3, 1) := by decide +kernel
theorem dL_law_1534 : decode cL_law 1534 = .ok (.iconst 0, 1) := by decide +kernel
theorem dL_law_1535 : decode cL_law 1535 = .ok (.laload, 1) := by decide +kernel
theorem dL_law_1536 : decode cL_law 1536 = .ok (.iload 6, 2) := by decide +kernel
theorem dL_law_1538 : decode cL_law 1538 = .ok (.i2l, 1) := by decide +kernel
theorem dL_law_1539 : decode cL_law 1539 = .ok (.lcmp, 1) := by decide +kernel
theorem dL_law_1540 : decode cL_law 1540 = .ok (.ifCond .eq 5, 3) := by decide +kernel
theorem dL_law_1543 : decode cL_law 1543 = .ok (.iconst 0, 1) := by decide +kernel
theorem dL_law_1544 : decode cL_law 1544 = .ok (.ireturn, 1) := by decide +kernel
theorem dL_law_1545 : decode cL_law 1545 = .ok (.goto 1047, 3) := by decide +kernel
theorem dL_law_1548 : decode cL_law 1548 = .ok (.aload_n 1, 1) := by decide +kernel
theorem dL_law_1549 : decode cL_law 1549 = .ok (.invokevirtual 236, 3) := by decide +kernel
theorem dL_law_1552 : decode cL_law 1552 = .ok (.aload_n 2, 1) := by decide +kernel
theorem dL_law_1553 : decode cL_law 1553 = .ok (.invokevirtual 239, 3) := by decide +kernel
theorem dL_law_1556 : decode cL_law 1556 = .ok (.if_icmp .eq 1036, 3) := by decide +kernel
theorem dL_law_1559 : decode cL_law 1559 = .ok (.iconst 0, 1) := by decide +kernel
theorem dL_law_1560 : decode cL_law 1560 = .ok (.ireturn, 1) := by decide +kernel
theorem dL_law_1561 : decode cL_law 1561 = .ok (.aload_n 1, 1) := by decide +kernel
theorem dL_law_1562 : decode cL_law 1562 = .ok (.aload_n 0, 1) := by decide +kernel
theorem dL_law_1563 : decode cL_law 1563 = .ok (.iload 4, 2) := by decide +kernel
theorem dL_law_1565 : decode cL_law 1565 = .ok (.iconst 1, 1) := by decide +kernel
theorem dL_law_1566 : decode cL_law 1566 = .ok (.iadd, 1) := by decide +kernel
theorem dL_law_1567 : decode cL_law 1567 = .ok (.iaload, 1) := by decide +kernel
theorem dL_law_1568 : decode cL_law 1568 = .ok (.aload_n 3, 1) := by decide +kernel
theorem dL_law_1569 : decode cL_law 1569 = .ok (.invokestatic 240, 3) := by decide +kernel
theorem dL_law_1572 : decode cL_law 1572 = .ok (.istore 5, 2) := by decide +kernel
theorem dL_law_1574 : decode cL_law 1574 = .ok (.aload_n 2, 1) := by decide +kernel
theorem dL_law_1575 : decode cL_law 1575 = .ok (.aload_n 0, 1) := by decide +kernel
theorem dL_law_1576 : decode cL_law 1576 = .ok (.iload 4, 2) := by decide +kernel
theorem dL_law_1578 : decode cL_law 1578 = .ok (.iconst 1, 1) := by decide +kernel
theorem dL_law_1579 : decode cL_law 1579 = .ok (.iadd, 1) := by decide +kernel
theorem dL_law_1580 : decode cL_law 1580 = .ok (.iaload, 1) := by decide +kernel
theorem dL_law_1581 : decode cL_law 1581 = .ok (.invokevirtual 242, 3) := by decide +kernel
theorem dL_law_1584 : decode cL_law 1584 = .ok (.istore 6, 2) := by decide +kernel
theorem dL_law_1586 : decode cL_law 1586 = .ok (.aload_n 2, 1) := by decide +kernel
theorem dL_law_1587 : decode cL_law 1587 = .ok (.invokevirtual 153, 3) := by decide +kernel
theorem dL_law_1590 : decode cL_law 1590 = .ok (.iload 5, 2) := by decide +kernel
theorem dL_law_1592 : decode cL_law 1592 = .ok (.if_icmp .eq 5, 3) := by decide +kernel
theorem dL_law_1595 : decode cL_law 1595 = .ok (.iconst 0, 1) := by decide +kernel
theorem dL_law_1596 : decode cL_law 1596 = .ok (.ireturn, 1) := by decide +kernel
theorem dL_law_1597 : decode cL_law 1597 = .ok (.iload 5, 2) := by decide +kernel
theorem dL_law_1599 : decode cL_law 1599 = .ok (.ifCond .ne 15, 3) := by decide +kernel
theorem dL_law_1602 : decode cL_law 1602 = .ok (.aload_n 3, 1) := by decide +kernel
theorem dL_law_1603 : decode cL_law 1603 = .ok (.iconst 0, 1) := by decide +kernel
theorem dL_law_1604 : decode cL_law 1604 = .ok (.laload, 1) := by decide +kernel
theorem dL_law_1605 : decode cL_law 1605 = .ok (.iload 6, 2) := by decide +kernel
theorem dL_law_1607 : decode cL_law 1607 = .ok (.i2l, 1) := by decide +kernel
theorem dL_law_1608 : decode cL_law 1608 = .ok (.lcmp, 1) := by decide +kernel
theorem dL_law_1609 : decode cL_law 1609 = .ok (.ifCond .eq 5, 3) := by decide +kernel
theorem dL_law_1612 : decode cL_law 1612 = .ok (.iconst 0, 1) := by decide +kernel
theorem dL_law_1613 : decode cL_law 1613 = .ok (.ireturn, 1) := by decide +kernel
theorem dL_law_1614 : decode cL_law 1614 = .ok (.goto 978, 3) := by decide +kernel
theorem dL_law_1617 : decode cL_law 1617 = .ok (.aload_n 1, 1) := by decide +kernel
theorem dL_law_1618 : decode cL_law 1618 = .ok (.aload_n 0, 1) := by decide +kernel
theorem dL_law_1619 : decode cL_law 1619 = .ok (.iload 4, 2) := by decide +kernel
theorem dL_law_1621 : decode cL_law 1621 = .ok (.iconst 1, 1) := by decide +kernel
theorem dL_law_1622 : decode cL_law 1622 = .ok (.iadd, 1) := by decide +kernel
theorem dL_law_1623 : decode cL_law 1623 = .ok (.iaload, 1) := by decide +kernel
theorem dL_law_1624 : decode cL_law 1624 = .ok (.aload_n 3, 1) := by decide +kernel
theorem dL_law_1625 : decode cL_law 1625 = .ok (.invokestatic 243, 3) := by decide +kernel
theorem dL_law_1628 : decode cL_law 1628 = .ok (.istore 5, 2) := by decide +kernel
theorem dL_law_1630 : decode cL_law 1630 = .ok (.aload_n 2, 1) := by decide +kernel
theorem dL_law_1631 : decode cL_law 1631 = .ok (.aload_n 0, 1) := by decide +kernel
theorem dL_law_1632 : decode cL_law 1632 = .ok (.iload 4, 2) := by decide +kernel
theorem dL_law_1634 : decode cL_law 1634 = .ok (.iconst 1, 1) := by decide +kernel
theorem dL_law_1635 : decode cL_law 1635 = .ok (.iadd, 1) := by decide +kernel
theorem dL_law_1636 : decode cL_law 1636 = .ok (.iaload, 1) := by decide +kernel
theorem dL_law_1637 : decode cL_law 1637 = .ok (.invokevirtual 245, 3) := by decide +kernel
theorem dL_law_1640 : decode cL_law 1640 = .ok (.lstore 6, 2) := by decide +kernel
theorem dL_law_1642 : decode cL_law 1642 = .ok (.aload_n 2, 1) := by decide +kernel
theorem dL_law_1643 : decode cL_law 1643 = .ok (.invokevirtual 153, 3) := by decide +kernel
theorem dL_law_1646 : decode cL_law 1646 = .ok (.iload 5, 2) := by decide +kernel
theorem dL_law_1648 : decode cL_law 1648 = .ok (.if_icmp .eq 5, 3) := by decide +kernel
theorem dL_law_1651 : decode cL_law 1651 = .ok (.iconst 0, 1) := by decide +kernel
theorem dL_law_1652 : decode cL_law 1652 = .ok (.ireturn, 1) := by decide +kernel
theorem dL_law_1653 : decode cL_law 1653 = .ok (.iload 5, 2) := by decide +kernel
theorem dL_law_1655 : decode cL_law 1655 = .ok (.ifCond .ne 14, 3) := by decide +kernel
theorem dL_law_1658 : decode cL_law 1658 = .ok (.aload_n 3, 1) := by decide +kernel
theorem dL_law_1659 : decode cL_law 1659 = .ok (.iconst 0, 1) := by decide +kernel
theorem dL_law_1660 : decode cL_law 1660 = .ok (.laload, 1) := by decide +kernel
theorem dL_law_1661 : decode cL_law 1661 = .ok (.lload 6, 2) := by decide +kernel
theorem dL_law_1663 : decode cL_law 1663 = .ok (.lcmp, 1) := by decide +kernel
theorem dL_law_1664 : decode cL_law 1664 = .ok (.ifCond .eq 5, 3) := by decide +kernel
theorem dL_law_1667 : decode cL_law 1667 = .ok (.iconst 0, 1) := by decide +kernel
theorem dL_law_1668 : decode cL_law 1668 = .ok (.ireturn, 1) := by decide +kernel
theorem dL_law_1669 : decode cL_law 1669 = .ok (.goto 923, 3) := by decide +kernel
theorem dL_law_1672 : decode cL_law 1672 = .ok (.aload_n 1, 1) := by decide +kernel
theorem dL_law_1673 : decode cL_law 1673 = .ok (.aload_n 0, 1) := by decide +kernel
theorem dL_law_1674 : decode cL_law 1674 = .ok (.iload 4, 2) := by decide +kernel
theorem dL_law_1676 : decode cL_law 1676 = .ok (.iconst 1, 1) := by decide +kernel
theorem dL_law_1677 : decode cL_law 1677 = .ok (.iadd, 1) := by decide +kernel
theorem dL_law_1678 : decode cL_law 1678 = .ok (.iaload, 1) := by decide +kernel
theorem dL_law_1679 : decode cL_law 1679 = .ok (.aload_n 3, 1) := by decide +kernel
theorem dL_law_1680 : decode cL_law 1680 = .ok (.invokestatic 246, 3) := by decide +kernel
theorem dL_law_1683 : decode cL_law 1683 = .ok (.istore 5, 2) := by decide +kernel
theorem dL_law_1685 : decode cL_law 1685 = .ok (.aload_n 2, 1) := by decide +kernel
theorem dL_law_1686 : decode cL_law 1686 = .ok (.aload_n 0, 1) := by decide +kernel
theorem dL_law_1687 : decode cL_law 1687 = .ok (.iload 4, 2) := by decide +kernel
theorem dL_law_1689 : decode cL_law 1689 = .ok (.iconst 1, 1) := by decide +kernel
theorem dL_law_1690 : decode cL_law 1690 = .ok (.iadd, 1) := by decide +kernel
theorem dL_law_1691 : decode cL_law 1691 = .ok (.iaload, 1) := by decide +kernel
theorem dL_law_1692 : decode cL_law 1692 = .ok (.invokevirtual 248, 3) := by decide +kernel
theorem dL_law_1695 : decode cL_law 1695 = .ok (.istore 6, 2) := by decide +kernel
theorem dL_law_1697 : decode cL_law 1697 = .ok (.aload_n 2, 1) := by decide +kernel
theorem dL_law_1698 : decode cL_law 1698 = .ok (.invokevirtual 153, 3) := by decide +kernel
theorem dL_law_1701 : decode cL_law 1701 = .ok (.iload 5, 2) := by decide +kernel
theorem dL_law_1703 : decode cL_law 1703 = .ok (.if_icmp .eq 5, 3) := by decide +kernel
theorem dL_law_1706 : decode cL_law 1706 = .ok (.iconst 0, 1) := by decide +kernel
theorem dL_law_1707 : decode cL_law 1707 = .ok (.ireturn, 1) := by decide +kernel
theorem dL_law_1708 : decode cL_law 1708 = .ok (.iload 5, 2) := by decide +kernel
theorem dL_law_1710 : decode cL_law 1710 = .ok (.ifCond .ne 15, 3) := by decide +kernel
theorem dL_law_1713 : decode cL_law 1713 = .ok (.aload_n 3, 1) := by decide +kernel
theorem dL_law_1714 : decode cL_law 1714 = .ok (.iconst 0, 1) := by decide +kernel
theorem dL_law_1715 : decode cL_law 1715 = .ok (.laload, 1) := by decide +kernel
theorem dL_law_1716 : decode cL_law 1716 = .ok (.iload 6, 2) := by decide +kernel
theorem dL_law_1718 : decode cL_law 1718 = .ok (.i2l, 1) := by decide +kernel
theorem dL_law_1719 : decode cL_law 1719 = .ok (.lcmp, 1) := by decide +kernel
theorem dL_law_1720 : decode cL_law 1720 = .ok (.ifCond .eq 5, 3) := by decide +kernel
theorem dL_law_1723 : decode cL_law 1723 = .ok (.iconst 0, 1) := by decide +kernel
theorem dL_law_1724 : decode cL_law 1724 = .ok (.ireturn, 1) := by decide +kernel
theorem dL_law_1725 : decode cL_law 1725 = .ok (.goto 867, 3) := by decide +kernel
theorem dL_law_1728 : decode cL_law 1728 = .ok (.aload_n 1, 1) := by decide +kernel
theorem dL_law_1729 : decode cL_law 1729 = .ok (.invokevirtual 249, 3) := by decide +kernel
theorem dL_law_1732 : decode cL_law 1732 = .ok (.aload_n 2, 1) := by decide +kernel
theorem dL_law_1733 : decode cL_law 1733 = .ok (.invokevirtual 252, 3) := by decide +kernel
theorem dL_law_1736 : decode cL_law 1736 = .ok (.if_icmp .eq 856, 3) := by decide +kernel
theorem dL_law_1739 : decode cL_law 1739 = .ok (.iconst 0, 1) := by decide +kernel
theorem dL_law_1740 : decode cL_law 1740 = .ok (.ireturn, 1) := by decide +kernel
theorem dL_law_1741 : decode cL_law 1741 = .ok (.aload_n 1, 1) := by decide +kernel
theorem dL_law_1742 : decode cL_law 1742 = .ok (.aload_n 0, 1) := by decide +kernel
theorem dL_law_1743 : decode cL_law 1743 = .ok (.iload 4, 2) := by decide +kernel
theorem dL_law_1745 : decode cL_law 1745 = .ok (.iconst 1, 1) := by decide +kernel
theorem dL_law_1746 : decode cL_law 1746 = .ok (.iadd, 1) := by decide +kernel
theorem dL_law_1747 : decode cL_law 1747 = .ok (.iaload, 1) := by decide +kernel
theorem dL_law_1748 : decode cL_law 1748 = .ok (.aload_n 0, 1) := by decide +kernel
theorem dL_law_1749 : decode cL_law 1749 = .ok (.iload 4, 2) := by decide +kernel
theorem dL_law_1751 : decode cL_law 1751 = .ok (.iconst 2, 1) := by decide +kernel
theorem dL_law_1752 : decode cL_law 1752 = .ok (.iadd, 1) := by decide +kernel
theorem dL_law_1753 : decode cL_law 1753 = .ok (.iaload, 1) := by decide +kernel
theorem dL_law_1754 : decode cL_law 1754 = .ok (.aload_n 0, 1) := by decide +kernel
theorem dL_law_1755 : decode cL_law 1755 = .ok (.iload 4, 2) := by decide +kernel
theorem dL_law_1757 : decode cL_law 1757 = .ok (.iconst 3, 1) := by decide +kernel
theorem dL_law_1758 : decode cL_law 1758 = .ok (.iadd, 1) := by decide +kernel
theorem dL_law_1759 : decode cL_law 1759 = .ok (.iaload, 1) := by decide +kernel
theorem dL_law_1760 : decode cL_law 1760 = .ok (.aload_n 0, 1) := by decide +kernel
theorem dL_law_1761 : decode cL_law 1761 = .ok (.iload 4, 2) := by decide +kernel
theorem dL_law_1763 : decode cL_law 1763 = .ok (.iconst 4, 1) := by decide +kernel
theorem dL_law_1764 : decode cL_law 1764 = .ok (.iadd, 1) := by decide +kernel
theorem dL_law_1765 : decode cL_law 1765 = .ok (.iaload, 1) := by decide +kernel
theorem dL_law_1766 : decode cL_law 1766 = .ok (.aload_n 0, 1) := by decide +kernel
theorem dL_law_1767 : decode cL_law 1767 = .ok (.iload 4, 2) := by decide +kernel
theorem dL_law_1769 : decode cL_law 1769 = .ok (.iconst 5, 1) := by decide +kernel
theorem dL_law_1770 : decode cL_law 1770 = .ok (.iadd, 1) := by decide +kernel
theorem dL_law_1771 : decode cL_law 1771 = .ok (.iaload, 1) := by decide +kernel
theorem dL_law_1772 : decode cL_law 1772 = .ok (.aload_n 3, 1) := by decide +kernel
theorem dL_law_1773 : decode cL_law 1773 = .ok (.invokestatic 253, 3) := by decide +kernel
theorem dL_law_1776 : decode cL_law 1776 = .ok (.istore 5, 2) := by decide +kernel
theorem dL_law_1778 : decode cL_law 1778 = .ok (.aload_n 2, 1) := by decide +kernel
theorem dL_law_1779 : decode cL_law 1779 = .ok (.aload_n 0, 1) := by decide +kernel
theorem dL_law_1780 : decode cL_law 1780 = .ok (.iload 4, 2) := by decide +kernel
theorem dL_law_1782 : decode cL_law 1782 = .ok (.iconst 1, 1) := by decide +kernel
theorem dL_law_1783 : decode cL_law 1783 = .ok (.iadd, 1) := by decide +kernel
theorem dL_law_1784 : decode cL_law 1784 = .ok (.iaload, 1) := by decide +kernel
theorem dL_law_1785 : decode cL_law 1785 = .ok (.aload_n 0, 1) := by decide +kernel
theorem dL_law_1786 : decode cL_law 1786 = .ok (.iload 4, 2) := by decide +kernel
theorem dL_law_1788 : decode cL_law 1788 = .ok (.iconst 2, 1) := by decide +kernel
theorem dL_law_1789 : decode cL_law 1789 = .ok (.iadd, 1) := by decide +kernel
theorem dL_law_1790 : decode cL_law 1790 = .ok (.iaload, 1) := by decide +kernel
theorem dL_law_1791 : decode cL_law 1791 = .ok (.aload_n 0, 1) := by decide +kernel
theorem dL_law_1792 : decode cL_law 1792 = .ok (.iload 4, 2) := by decide +kernel
theorem dL_law_1794 : decode cL_law 1794 = .ok (.iconst 3, 1) := by decide +kernel
theorem dL_law_1795 : decode cL_law 1795 = .ok (.iadd, 1) := by decide +kernel
theorem dL_law_1796 : decode cL_law 1796 = .ok (.iaload, 1) := by decide +kernel
theorem dL_law_1797 : decode cL_law 1797 = .ok (.aload_n 0, 1) := by decide +kernel
theorem dL_law_1798 : decode cL_law 1798 = .ok (.iload 4, 2) := by decide +kernel
theorem dL_law_1800 : decode cL_law 1800 = .ok (.iconst 4, 1) := by decide +kernel
theorem dL_law_1801 : decode cL_law 1801 = .ok (.iadd, 1) := by decide +kernel
theorem dL_law_1802 : decode cL_law 1802 = .ok (.iaload, 1) := by decide +kernel
theorem dL_law_1803 : decode cL_law 1803 = .ok (.aload_n 0, 1) := by decide +kernel
theorem dL_law_1804 : decode cL_law 1804 = .ok (.iload 4, 2) := by decide +kernel
theorem dL_law_1806 : decode cL_law 1806 = .ok (.iconst 5, 1) := by decide +kernel
theorem dL_law_1807 : decode cL_law 1807 = .ok (.iadd, 1) := by decide +kernel
theorem dL_law_1808 : decode cL_law 1808 = .ok (.iaload, 1) := by decide +kernel
theorem dL_law_1809 : decode cL_law 1809 = .ok (.invokevirtual 256, 3) := by decide +kernel
theorem dL_law_1812 : decode cL_law 1812 = .ok (.istore 6, 2) := by decide +kernel
theorem dL_law_1814 : decode cL_law 1814 = .ok (.aload_n 2, 1) := by decide +kernel
theorem dL_law_1815 : decode cL_law 1815 = .ok (.invokevirtual 153, 3) := by decide +kernel
theorem dL_law_1818 : decode cL_law 1818 = .ok (.iload 5, 2) := by decide +kernel
theorem dL_law_1820 : decode cL_law 1820 = .ok (.if_icmp .eq 5, 3) := by decide +kernel
theorem dL_law_1823 : decode cL_law 1823 = .ok (.iconst 0, 1) := by decide +kernel
theorem dL_law_1824 : decode cL_law 1824 = .ok (.ireturn, 1) := by decide +kernel
theorem dL_law_1825 : decode cL_law 1825 = .ok (.iload 5, 2) := by decide +kernel
theorem dL_law_1827 : decode cL_law 1827 = .ok (.ifCond .ne 15, 3) := by decide +kernel
theorem dL_law_1830 : decode cL_law 1830 = .ok (.aload_n 3, 1) := by decide +kernel
theorem dL_law_1831 : decode cL_law 1831 = .ok (.iconst 0, 1) := by decide +kernel
theorem dL_law_1832 : decode cL_law 1832 = .ok (.laload, 1) := by decide +kernel
theorem dL_law_1833 : decode cL_law 1833 = .ok (.iload 6, 2) := by decide +kernel
theorem dL_law_1835 : decode cL_law 1835 = .ok (.i2l, 1) := by decide +kernel
theorem dL_law_1836 : decode cL_law 1836 = .ok (.lcmp, 1) := by decide +kernel
theorem dL_law_1837 : decode cL_law 1837 = .ok (.ifCond .eq 5, 3) := by decide +kernel
theorem dL_law_1840 : decode cL_law 1840 = .ok (.iconst 0, 1) := by decide +kernel
theorem dL_law_1841 : decode cL_law 1841 = .ok (.ireturn, 1) := by decide +kernel
theorem dL_law_1842 : decode cL_law 1842 = .ok (.goto 750, 3) := by decide +kernel
theorem dL_law_1845 : decode cL_law 1845 = .ok (.aload_n 1, 1) := by decide +kernel
theorem dL_law_1846 : decode cL_law 1846 = .ok (.aload_n 0, 1) := by decide +kernel
theorem dL_law_1847 : decode cL_law 1847 = .ok (.iload 4, 2) := by decide +kernel
theorem dL_law_1849 : decode cL_law 1849 = .ok (.iconst 1, 1) := by decide +kernel
theorem dL_law_1850 : decode cL_law 1850 = .ok (.iadd, 1) := by decide +kernel
theorem dL_law_1851 : decode cL_law 1851 = .ok (.iaload, 1) := by decide +kernel
theorem dL_law_1852 : decode cL_law 1852 = .ok (.aload_n 0, 1) := by decide +kernel
theorem dL_law_1853 : decode cL_law 1853 = .ok (.iload 4, 2) := by decide +kernel
theorem dL_law_1855 : decode cL_law 1855 = .ok (.iconst 2, 1) := by decide +kernel
theorem dL_law_1856 : decode cL_law 1856 = .ok (.iadd, 1) := by decide +kernel
theorem dL_law_1857 : decode cL_law 1857 = .ok (.iaload, 1) := by decide +kernel
theorem dL_law_1858 : decode cL_law 1858 = .ok (.ifCond .eq 7, 3) := by decide +kernel
theorem dL_law_1861 : decode cL_law 1861 = .ok (.iconst 1, 1) := by decide +kernel
theorem dL_law_1862 : decode cL_law 1862 = .ok (.goto 4, 3) := by decide +kernel
theorem dL_law_1865 : decode cL_law 1865 = .ok (.iconst 0, 1) := by decide +kernel
theorem dL_law_1866 : decode cL_law 1866 = .ok (.aload_n 3, 1) := by decide +kernel
theorem dL_law_1867 : decode cL_law 1867 = .ok (.invokestatic 257, 3) := by decide +kernel
theorem dL_law_1870 : decode cL_law 1870 = .ok (.istore 5, 2) := by decide +kernel
theorem dL_law_1872 : decode cL_law 1872 = .ok (.aload_n 2, 1) := by decide +kernel
theorem dL_law_1873 : decode cL_law 1873 = .ok (.aload_n 0, 1) := by decide +kernel
theorem dL_law_1874 : decode cL_law 1874 = .ok (.iload 4, 2) := by decide +kernel
theorem dL_law_1876 : decode cL_law 1876 = .ok (.iconst 1, 1) := by decide +kernel
theorem dL_law_1877 : decode cL_law 1877 = .ok (.iadd, 1) := by decide +kernel
theorem dL_law_1878 : decode cL_law 1878 = .ok (.iaload, 1) := by decide +kernel
theorem dL_law_1879 : decode cL_law 1879 = .ok (.aload_n 0, 1) := by decide +kernel
theorem dL_law_1880 : decode cL_law 1880 = .ok (.iload 4, 2) := by decide +kernel
theorem dL_law_1882 : decode cL_law 1882 = .ok (.iconst 2, 1) := by decide +kernel
theorem dL_law_1883 : decode cL_law 1883 = .ok (.iadd, 1) := by decide +kernel
theorem dL_law_1884 : decode cL_law 1884 = .ok (.iaload, 1) := by decide +kernel
theorem dL_law_1885 : decode cL_law 1885 = .ok (.ifCond .eq 7, 3) := by decide +kernel
theorem dL_law_1888 : decode cL_law 1888 = .ok (.iconst 1, 1) := by decide +kernel
theorem dL_law_1889 : decode cL_law 1889 = .ok (.goto 4, 3) := by decide +kernel
theorem dL_law_1892 : decode cL_law 1892 = .ok (.iconst 0, 1) := by decide +kernel
theorem dL_law_1893 : decode cL_law 1893 = .ok (.invokevirtual 260, 3) := by decide +kernel
theorem dL_law_1896 : decode cL_law 1896 = .ok (.istore 6, 2) := by decide +kernel
theorem dL_law_1898 : decode cL_law 1898 = .ok (.aload_n 2, 1) := by decide +kernel
theorem dL_law_1899 : decode cL_law 1899 = .ok (.invokevirtual 153, 3) := by decide +kernel
theorem dL_law_1902 : decode cL_law 1902 = .ok (.iload 5, 2) := by decide +kernel
theorem dL_law_1904 : decode cL_law 1904 = .ok (.if_icmp .eq 5, 3) := by decide +kernel
theorem dL_law_1907 : decode cL_law 1907 = .ok (.iconst 0, 1) := by decide +kernel
theorem dL_law_1908 : decode cL_law 1908 = .ok (.ireturn, 1) := by decide +kernel
theorem dL_law_1909 : decode cL_law 1909 = .ok (.iload 5, 2) := by decide +kernel
theorem dL_law_1911 : decode cL_law 1911 = .ok (.ifCond .ne 22, 3) := by decide +kernel
theorem dL_law_1914 : decode cL_law 1914 = .ok (.aload_n 3, 1) := by decide +kernel
theorem dL_law_1915 : decode cL_law 1915 = .ok (.iconst 0, 1) := by decide +kernel
theorem dL_law_1916 : decode cL_law 1916 = .ok (.laload, 1) := by decide +kernel
theorem dL_law_1917 : decode cL_law 1917 = .ok (.iload 6, 2) := by decide +kernel
theorem dL_law_1919 : decode cL_law 1919 = .ok (.ifCond .eq 7, 3) := by decide +kernel
theorem dL_law_1922 : decode cL_law 1922 = .ok (.lconst 1, 1) := by decide +kernel
theorem dL_law_1923 : decode cL_law 1923 = .ok (.goto 4, 3) := by decide +kernel
theorem dL_law_1926 : decode cL_law 1926 = .ok (.lconst 0, 1) := by decide +kernel
theorem dL_law_1927 : decode cL_law 1927 = .ok (.lcmp, 1) := by decide +kernel
theorem dL_law_1928 : decode cL_law 1928 = .ok (.ifCond .eq 5, 3) := by decide +kernel
theorem dL_law_1931 : decode cL_law 1931 = .ok (.iconst 0, 1) := by decide +kernel
theorem dL_law_1932 : decode cL_law 1932 = .ok (.ireturn, 1) := by decide +kernel
theorem dL_law_1933 : decode cL_law 1933 = .ok (.goto 659, 3) := by decide +kernel
theorem dL_law_1936 : decode cL_law 1936 = .ok (.aload_n 1, 1) := by decide +kernel
theorem dL_law_1937 : decode cL_law 1937 = .ok (.aload_n 0, 1) := by decide +kernel
theorem dL_law_1938 : decode cL_law 1938 = .ok (.iload 4, 2) := by decide +kernel
theorem dL_law_1940 : decode cL_law 1940 = .ok (.iconst 1, 1) := by decide +kernel
theorem dL_law_1941 : decode cL_law 1941 = .ok (.iadd, 1) := by decide +kernel
theorem dL_law_1942 : decode cL_law 1942 = .ok (.iaload, 1) := by decide +kernel
theorem dL_law_1943 : decode cL_law 1943 = .ok (.aload_n 0, 1) := by decide +kernel
theorem dL_law_1944 : decode cL_law 1944 = .ok (.iload 4, 2) := by decide +kernel
theorem dL_law_1946 : decode cL_law 1946 = .ok (.iconst 2, 1) := by decide +kernel
theorem dL_law_1947 : decode cL_law 1947 = .ok (.iadd, 1) := by decide +kernel
theorem dL_law_1948 : decode cL_law 1948 = .ok (.iaload, 1) := by decide +kernel
theorem dL_law_1949 : decode cL_law 1949 = .ok (.aload_n 3, 1) := by decide +kernel
theorem dL_law_1950 : decode cL_law 1950 = .ok (.invokestatic 261, 3) := by decide +kernel
theorem dL_law_1953 : decode cL_law 1953 = .ok (.istore 5, 2) := by decide +kernel
theorem dL_law_1955 : decode cL_law 1955 = .ok (.aload_n 2, 1) := by decide +kernel
theorem dL_law_1956 : decode cL_law 1956 = .ok (.aload_n 0, 1) := by decide +kernel
theorem dL_law_1957 : decode cL_law 1957 = .ok (.iload 4, 2) := by decide +kernel
theorem dL_law_1959 : decode cL_law 1959 = .ok (.iconst 1, 1) := by decide +kernel
theorem dL_law_1960 : decode cL_law 1960 = .ok (.iadd, 1) := by decide +kernel
theorem dL_law_1961 : decode cL_law 1961 = .ok (.iaload, 1) := by decide +kernel
theorem dL_law_1962 : decode cL_law 1962 = .ok (.aload_n 0, 1) := by decide +kernel
theorem dL_law_1963 : decode cL_law 1963 = .ok (.iload 4, 2) := by decide +kernel
theorem dL_law_1965 : decode cL_law 1965 = .ok (.iconst 2, 1) := by decide +kernel
theorem dL_law_1966 : decode cL_law 1966 = .ok (.iadd, 1) := by decide +kernel
theorem dL_law_1967 : decode cL_law 1967 = .ok (.iaload, 1) := by decide +kernel
theorem dL_law_1968 : decode cL_law 1968 = .ok (.invokevirtual 263, 3) := by decide +kernel
theorem dL_law_1971 : decode cL_law 1971 = .ok (.istore 6, 2) := by decide +kernel
theorem dL_law_1973 : decode cL_law 1973 = .ok (.aload_n 2, 1) := by decide +kernel
theorem dL_law_1974 : decode cL_law 1974 = .ok (.invokevirtual 153, 3) := by decide +kernel
theorem dL_law_1977 : decode cL_law 1977 = .ok (.iload 5, 2) := by decide +kernel
theorem dL_law_1979 : decode cL_law 1979 = .ok (.if_icmp .eq 5, 3) := by decide +kernel
theorem dL_law_1982 : decode cL_law 1982 = .ok (.iconst 0, 1) := by decide +kernel
theorem dL_law_1983 : decode cL_law 1983 = .ok (.ireturn, 1) := by decide +kernel
theorem dL_law_1984 : decode cL_law 1984 = .ok (.iload 5, 2) := by decide +kernel
theorem dL_law_1986 : decode cL_law 1986 = .ok (.ifCond .ne 15, 3) := by decide +kernel
theorem dL_law_1989 : decode cL_law 1989 = .ok (.aload_n 3, 1) := by decide +kernel
theorem dL_law_1990 : decode cL_law 1990 = .ok (.iconst 0, 1) := by decide +kernel
theorem dL_law_1991 : decode cL_law 1991 = .ok (.laload, 1) := by decide +kernel
theorem dL_law_1992 : decode cL_law 1992 = .ok (.iload 6, 2) := by decide +kernel
theorem dL_law_1994 : decode cL_law 1994 = .ok (.i2l, 1) := by decide +kernel
theorem dL_law_1995 : decode cL_law 1995 = .ok (.lcmp, 1) := by decide +kernel
theorem dL_law_1996 : decode cL_law 1996 = .ok (.ifCond .eq 5, 3) := by decide +kernel
theorem dL_law_1999 : decode cL_law 1999 = .ok (.iconst 0, 1) := by decide +kernel
theorem dL_law_2000 : decode cL_law 2000 = .ok (.ireturn, 1) := by decide +kernel
theorem dL_law_2001 : decode cL_law 2001 = .ok (.goto 591, 3) := by decide +kernel
theorem dL_law_2004 : decode cL_law 2004 = .ok (.aload_n 1, 1) := by decide +kernel
theorem dL_law_2005 : decode cL_law 2005 = .ok (.aload_n 0, 1) := by decide +kernel
theorem dL_law_2006 : decode cL_law 2006 = .ok (.iload 4, 2) := by decide +kernel
theorem dL_law_2008 : decode cL_law 2008 = .ok (.iconst 1, 1) := by decide +kernel
theorem dL_law_2009 : decode cL_law 2009 = .ok (.iadd, 1) := by decide +kernel
theorem dL_law_2010 : decode cL_law 2010 = .ok (.iaload, 1) := by decide +kernel
theorem dL_law_2011 : decode cL_law 2011 = .ok (.aload_n 0, 1) := by decide +kernel
theorem dL_law_2012 : decode cL_law 2012 = .ok (.iload 4, 2) := by decide +kernel
theorem dL_law_2014 : decode cL_law 2014 = .ok (.iconst 2, 1) := by decide +kernel
theorem dL_law_2015 : decode cL_law 2015 = .ok (.iadd, 1) := by decide +kernel
theorem dL_law_2016 : decode cL_law 2016 = .ok (.iaload, 1) := by decide +kernel
theorem dL_law_2017 : decode cL_law 2017 = .ok (.aload_n 3, 1) := by decide +kernel
theorem dL_law_2018 : decode cL_law 2018 = .ok (.invokestatic 264, 3) := by decide +kernel
theorem dL_law_2021 : decode cL_law 2021 = .ok (.istore 5, 2) := by decide +kernel
theorem dL_law_2023 : decode cL_law 2023 = .ok (.aload_n 2, 1) := by decide +kernel
theorem dL_law_2024 : decode cL_law 2024 = .ok (.aload_n 0, 1) := by decide +kernel
theorem dL_law_2025 : decode cL_law 2025 = .ok (.iload 4, 2) := by decide +kernel
theorem dL_law_2027 : decode cL_law 2027 = .ok (.iconst 1, 1) := by decide +kernel
theorem dL_law_2028 : decode cL_law 2028 = .ok (.iadd, 1) := by decide +kernel
theorem dL_law_2029 : decode cL_law 2029 = .ok (.iaload, 1) := by decide +kernel
theorem dL_law_2030 : decode cL_law 2030 = .ok (.aload_n 0, 1) := by decide +kernel
theorem dL_law_2031 : decode cL_law 2031 = .ok (.iload 4, 2) := by decide +kernel
theorem dL_law_2033 : decode cL_law 2033 = .ok (.iconst 2, 1) := by decide +kernel
theorem dL_law_2034 : decode cL_law 2034 = .ok (.iadd, 1) := by decide +kernel
theorem dL_law_2035 : decode cL_law 2035 = .ok (.iaload, 1) := by decide +kernel
theorem dL_law_2036 : decode cL_law 2036 = .ok (.invokevirtual 266, 3) := by decide +kernel
theorem dL_law_2039 : decode cL_law 2039 = .ok (.istore 6, 2) := by decide +kernel
theorem dL_law_2041 : decode cL_law 2041 = .ok (.aload_n 2, 1) := by decide +kernel
theorem dL_law_2042 : decode cL_law 2042 = .ok (.invokevirtual 153, 3) := by decide +kernel
theorem dL_law_2045 : decode cL_law 2045 = .ok (.iload 5, 2) := by decide +kernel
theorem dL_law_2047 : decode cL_law 2047 = .ok (.if_icmp .eq 5, 3) := by decide +kernel
theorem dL_law_2050 : decode cL_law 2050 = .ok (.iconst 0, 1) := by decide +kernel
theorem dL_law_2051 : decode cL_law 2051 = .ok (.ireturn, 1) := by decide +kernel
theorem dL_law_2052 : decode cL_law 2052 = .ok (.iload 5, 2) := by decide +kernel
theorem dL_law_2054 : decode cL_law 2054 = .ok (.ifCond .ne 22, 3) := by decide +kernel
theorem dL_law_2057 : decode cL_law 2057 = .ok (.aload_n 3, 1) := by decide +kernel
theorem dL_law_2058 : decode cL_law 2058 = .ok (.iconst 0, 1) := by decide +kernel
theorem dL_law_2059 : decode cL_law 2059 = .ok (.laload, 1) := by decide +kernel
theorem dL_law_2060 : decode cL_law 2060 = .ok (.iload 6, 2) := by decide +kernel
theorem dL_law_2062 : decode cL_law 2062 = .ok (.ifCond .eq 7, 3) := by decide +kernel
theorem dL_law_2065 : decode cL_law 2065 = .ok (.lconst 1, 1) := by decide +kernel
theorem dL_law_2066 : decode cL_law 2066 = .ok (.goto 4, 3) := by decide +kernel
theorem dL_law_2069 : decode cL_law 2069 = .ok (.lconst 0, 1) := by decide +kernel
theorem dL_law_2070 : decode cL_law 2070 = .ok (.lcmp, 1) := by decide +kernel
theorem dL_law_2071 : decode cL_law 2071 = .ok (.ifCond .eq 5, 3) := by decide +kernel
theorem dL_law_2074 : decode cL_law 2074 = .ok (.iconst 0, 1) := by decide +kernel
theorem dL_law_2075 : decode cL_law 2075 = .ok (.ireturn, 1) := by decide +kernel
theorem dL_law_2076 : decode cL_law 2076 = .ok (.goto 516, 3) := by decide +kernel
theorem dL_law_2079 : decode cL_law 2079 = .ok (.aload_n 1, 1) := by decide +kernel
theorem dL_law_2080 : decode cL_law 2080 = .ok (.aload_n 0, 1) := by decide +kernel
theorem dL_law_2081 : decode cL_law 2081 = .ok (.iload 4, 2) := by decide +kernel
theorem dL_law_2083 : decode cL_law 2083 = .ok (.iconst 1, 1) := by decide +kernel
theorem dL_law_2084 : decode cL_law 2084 = .ok (.iadd, 1) := by decide +kernel
theorem dL_law_2085 : decode cL_law 2085 = .ok (.iaload, 1) := by decide +kernel
theorem dL_law_2086 : decode cL_law 2086 = .ok (.aload_n 3, 1) := by decide +kernel
theorem dL_law_2087 : decode cL_law 2087 = .ok (.invokestatic 267, 3) := by decide +kernel
theorem dL_law_2090 : decode cL_law 2090 = .ok (.istore 5, 2) := by decide +kernel
theorem dL_law_2092 : decode cL_law 2092 = .ok (.aload_n 2, 1) := by decide +kernel
theorem dL_law_2093 : decode cL_law 2093 = .ok (.aload_n 0, 1) := by decide +kernel
theorem dL_law_2094 : decode cL_law 2094 = .ok (.iload 4, 2) := by decide +kernel
theorem dL_law_2096 : decode cL_law 2096 = .ok (.iconst 1, 1) := by decide +kernel
theorem dL_law_2097 : decode cL_law 2097 = .ok (.iadd, 1) := by decide +kernel
theorem dL_law_2098 : decode cL_law 2098 = .ok (.iaload, 1) := by decide +kernel
theorem dL_law_2099 : decode cL_law 2099 = .ok (.invokevirtual 269, 3) := by decide +kernel
theorem dL_law_2102 : decode cL_law 2102 = .ok (.istore 6, 2) := by decide +kernel
theorem dL_law_2104 : decode cL_law 2104 = .ok (.aload_n 2, 1) := by decide +kernel
theorem dL_law_2105 : decode cL_law 2105 = .ok (.invokevirtual 153, 3) := by decide +kernel
theorem dL_law_2108 : decode cL_law 2108 = .ok (.iload 5, 2) := by decide +kernel
theorem dL_law_2110 : decode cL_law 2110 = .ok (.if_icmp .eq 5, 3) := by decide +kernel
theorem dL_law_2113 : decode cL_law 2113 = .ok (.iconst 0, 1) := by decide +kernel
theorem dL_law_2114 : decode cL_law 2114 = .ok (.ireturn, 1) := by decide +kernel
theorem dL_law_2115 : decode cL_law 2115 = .ok (.iload 5, 2) := by decide +kernel
theorem dL_law_2117 : decode cL_law 2117 = .ok (.ifCond .ne 15, 3) := by decide +kernel
theorem dL_law_2120 : decode cL_law 2120 = .ok (.aload_n 3, 1) := by decide +kernel
theorem dL_law_2121 : decode cL_law 2121 = .ok (.iconst 0, 1) := by decide +kernel
theorem dL_law_2122 : decode cL_law 2122 = .ok (.laload, 1) := by decide +kernel
theorem dL_law_2123 : decode cL_law 2123 = .ok (.iload 6, 2) := by decide +kernel
theorem dL_law_2125 : decode cL_law 2125 = .ok (.i2l, 1) := by decide +kernel
theorem dL_law_2126 : decode cL_law 2126 = .ok (.lcmp, 1) := by decide +kernel
theorem dL_law_2127 : decode cL_law 2127 = .ok (.ifCond .eq 5, 3) := by decide +kernel
theorem dL_law_2130 : decode cL_law 2130 = .ok (.iconst 0, 1) := by decide +kernel
theorem dL_law_2131 : decode cL_law 2131 = .ok (.ireturn, 1) := by decide +kernel
theorem dL_law_2132 : decode cL_law 2132 = .ok (.goto 460, 3) := by decide +kernel
theorem dL_law_2135 : decode cL_law 2135 = .ok (.aload_n 1, 1) := by decide +kernel
theorem dL_law_2136 : decode cL_law 2136 = .ok (.invokevirtual 270, 3) := by decide +kernel
theorem dL_law_2139 : decode cL_law 2139 = .ok (.aload_n 2, 1) := by decide +kernel
theorem dL_law_2140 : decode cL_law 2140 = .ok (.invokevirtual 273, 3) := by decide +kernel
theorem dL_law_2143 : decode cL_law 2143 = .ok (.if_icmp .eq 449, 3) := by decide +kernel
theorem dL_law_2146 : decode cL_law 2146 = .ok (.iconst 0, 1) := by decide +kernel
theorem dL_law_2147 : decode cL_law 2147 = .ok (.ireturn, 1) := by decide +kernel
theorem dL_law_2148 : decode cL_law 2148 = .ok (.aload_n 1, 1) := by decide +kernel
theorem dL_law_2149 : decode cL_law 2149 = .ok (.aload_n 0, 1) := by decide +kernel
theorem dL_law_2150 : decode cL_law 2150 = .ok (.iload 4, 2) := by decide +kernel
theorem dL_law_2152 : decode cL_law 2152 = .ok (.iconst 1, 1) := by decide +kernel
theorem dL_law_2153 : decode cL_law 2153 = .ok (.iadd, 1) := by decide +kernel
theorem dL_law_2154 : decode cL_law 2154 = .ok (.iaload, 1) := by decide +kernel
theorem dL_law_2155 : decode cL_law 2155 = .ok (.aload_n 3, 1) := by decide +kernel
theorem dL_law_2156 : decode cL_law 2156 = .ok (.invokestatic 274, 3) := by decide +kernel
theorem dL_law_2159 : decode cL_law 2159 = .ok (.istore 5, 2) := by decide +kernel
theorem dL_law_2161 : decode cL_law 2161 = .ok (.aload_n 2, 1) := by decide +kernel
theorem dL_law_2162 : decode cL_law 2162 = .ok (.aload_n 0, 1) := by decide +kernel
theorem dL_law_2163 : decode cL_law 2163 = .ok (.iload 4, 2) := by decide +kernel
theorem dL_law_2165 : decode cL_law 2165 = .ok (.iconst 1, 1) := by decide +kernel
theorem dL_law_2166 : decode cL_law 2166 = .ok (.iadd, 1) := by decide +kernel
theorem dL_law_2167 : decode cL_law 2167 = .ok (.iaload, 1) := by decide +kernel
theorem dL_law_2168 : decode cL_law 2168 = .ok (.invokevirtual 276, 3) := by decide +kernel
theorem dL_law_2171 : decode cL_law 2171 = .ok (.istore 6, 2) := by decide +kernel
theorem dL_law_2173 : decode cL_law 2173 = .ok (.aload_n 2, 1) := by decide +kernel
theorem dL_law_2174 : decode cL_law 2174 = .ok (.invokevirtual 153, 3) := by decide +kernel
theorem dL_law_2177 : decode cL_law 2177 = .ok (.iload 5, 2) := by decide +kernel
theorem dL_law_2179 : decode cL_law 2179 = .ok (.if_icmp .eq 5, 3) := by decide +kernel
theorem dL_law_2182 : decode cL_law 2182 = .ok (.iconst 0, 1) := by decide +kernel
theorem dL_law_2183 : decode cL_law 2183 = .ok (.ireturn, 1) := by decide +kernel
theorem dL_law_2184 : decode cL_law 2184 = .ok (.iload 5, 2) := by decide +kernel
theorem dL_law_2186 : decode cL_law 2186 = .ok (.ifCond .ne 15, 3) := by decide +kernel
theorem dL_law_2189 : decode cL_law 2189 = .ok (.aload_n 3, 1) := by decide +kernel
theorem dL_law_2190 : decode cL_law 2190 = .ok (.iconst 0, 1) := by decide +kernel
theorem dL_law_2191 : decode cL_law 2191 = .ok (.laload, 1) := by decide +kernel
theorem dL_law_2192 : decode cL_law 2192 = .ok (.iload 6, 2) := by decide +kernel
theorem dL_law_2194 : decode cL_law 2194 = .ok (.i2l, 1) := by decide +kernel
theorem dL_law_2195 : decode cL_law 2195 = .ok (.lcmp, 1) := by decide +kernel
theorem dL_law_2196 : decode cL_law 2196 = .ok (.ifCond .eq 5, 3) := by decide +kernel
theorem dL_law_2199 : decode cL_law 2199 = .ok (.iconst 0, 1) := by decide +kernel
theorem dL_law_2200 : decode cL_law 2200 = .ok (.ireturn, 1) := by decide +kernel
theorem dL_law_2201 : decode cL_law 2201 = .ok (.goto 391, 3) := by decide +kernel
theorem dL_law_2204 : decode cL_law 2204 = .ok (.aload_n 1, 1) := by decide +kernel
theorem dL_law_2205 : decode cL_law 2205 = .ok (.aload_n 0, 1) := by decide +kernel
theorem dL_law_2206 : decode cL_law 2206 = .ok (.iload 4, 2) := by decide +kernel
theorem dL_law_2208 : decode cL_law 2208 = .ok (.iconst 1, 1) := by decide +kernel
theorem dL_law_2209 : decode cL_law 2209 = .ok (.iadd, 1) := by decide +kernel
theorem dL_law_2210 : decode cL_law 2210 = .ok (.iaload, 1) := by decide +kernel
theorem dL_law_2211 : decode cL_law 2211 = .ok (.aload_n 3, 1) := by decide +kernel
theorem dL_law_2212 : decode cL_law 2212 = .ok (.invokestatic 277, 3) := by decide +kernel
theorem dL_law_2215 : decode cL_law 2215 = .ok (.istore 5, 2) := by decide +kernel
theorem dL_law_2217 : decode cL_law 2217 = .ok (.aload_n 2, 1) := by decide +kernel
theorem dL_law_2218 : decode cL_law 2218 = .ok (.aload_n 0, 1) := by decide +kernel
theorem dL_law_2219 : decode cL_law 2219 = .ok (.iload 4, 2) := by decide +kernel
theorem dL_law_2221 : decode cL_law 2221 = .ok (.iconst 1, 1) := by decide +kernel
theorem dL_law_2222 : decode cL_law 2222 = .ok (.iadd, 1) := by decide +kernel
theorem dL_law_2223 : decode cL_law 2223 = .ok (.iaload, 1) := by decide +kernel
theorem dL_law_2224 : decode cL_law 2224 = .ok (.invokevirtual 279, 3) := by decide +kernel
theorem dL_law_2227 : decode cL_law 2227 = .ok (.istore 6, 2) := by decide +kernel
theorem dL_law_2229 : decode cL_law 2229 = .ok (.aload_n 2, 1) := by decide +kernel
theorem dL_law_2230 : decode cL_law 2230 = .ok (.invokevirtual 153, 3) := by decide +kernel
theorem dL_law_2233 : decode cL_law 2233 = .ok (.iload 5, 2) := by decide +kernel
theorem dL_law_2235 : decode cL_law 2235 = .ok (.if_icmp .eq 5, 3) := by decide +kernel
theorem dL_law_2238 : decode cL_law 2238 = .ok (.iconst 0, 1) := by decide +kernel
theorem dL_law_2239 : decode cL_law 2239 = .ok (.ireturn, 1) := by decide +kernel
theorem dL_law_2240 : decode cL_law 2240 = .ok (.iload 5, 2) := by decide +kernel
theorem dL_law_2242 : decode cL_law 2242 = .ok (.ifCond .ne 15, 3) := by decide +kernel
theorem dL_law_2245 : decode cL_law 2245 = .ok (.aload_n 3, 1) := by decide +kernel
theorem dL_law_2246 : decode cL_law 2246 = .ok (.iconst 0, 1) := by decide +kernel
theorem dL_law_2247 : decode cL_law 2247 = .ok (.laload, 1) := by decide +kernel
theorem dL_law_2248 : decode cL_law 2248 = .ok (.iload 6, 2) := by decide +kernel
theorem dL_law_2250 : decode cL_law 2250 = .ok (.i2l, 1) := by decide +kernel
theorem dL_law_2251 : decode cL_law 2251 = .ok (.lcmp, 1) := by decide +kernel
theorem dL_law_2252 : decode cL_law 2252 = .ok (.ifCond .eq 5, 3) := by decide +kernel
theorem dL_law_2255 : decode cL_law 2255 = .ok (.iconst 0, 1) := by decide +kernel
theorem dL_law_2256 : decode cL_law 2256 = .ok (.ireturn, 1) := by decide +kernel
theorem dL_law_2257 : decode cL_law 2257 = .ok (.goto 335, 3) := by decide +kernel
theorem dL_law_2260 : decode cL_law 2260 = .ok (.aload_n 1, 1) := by decide +kernel
theorem dL_law_2261 : decode cL_law 2261 = .ok (.invokevirtual 280, 3) := by decide +kernel
theorem dL_law_2264 : decode cL_law 2264 = .ok (.aload_n 2, 1) := by decide +kernel
theorem dL_law_2265 : decode cL_law 2265 = .ok (.invokevirtual 283, 3) := by decide +kernel
theorem dL_law_2268 : decode cL_law 2268 = .ok (.if_icmp .eq 324, 3) := by decide +kernel
theorem dL_law_2271 : decode cL_law 2271 = .ok (.iconst 0, 1) := by decide +kernel
theorem dL_law_2272 : decode cL_law 2272 = .ok (.ireturn, 1) := by decide +kernel
theorem dL_law_2273 : decode cL_law 2273 = .ok (.aload_n 1, 1) := by decide +kernel
theorem dL_law_2274 : decode cL_law 2274 = .ok (.aload_n 0, 1) := by decide +kernel
theorem dL_law_2275 : decode cL_law 2275 = .ok (.iload 4, 2) := by decide +kernel
theorem dL_law_2277 : decode cL_law 2277 = .ok (.iconst 1, 1) := by decide +kernel
theorem dL_law_2278 : decode cL_law 2278 = .ok (.iadd, 1) := by decide +kernel
theorem dL_law_2279 : decode cL_law 2279 = .ok (.iaload, 1) := by decide +kernel
theorem dL_law_2280 : decode cL_law 2280 = .ok (.aload_n 0, 1) := by decide +kernel
theorem dL_law_2281 : decode cL_law 2281 = .ok (.iload 4, 2) := by decide +kernel
theorem dL_law_2283 : decode cL_law 2283 = .ok (.iconst 2, 1) := by decide +kernel
theorem dL_law_2284 : decode cL_law 2284 = .ok (.iadd, 1) := by decide +kernel
theorem dL_law_2285 : decode cL_law 2285 = .ok (.iaload, 1) := by decide +kernel
theorem dL_law_2286 : decode cL_law 2286 = .ok (.aload_n 3, 1) := by decide +kernel
theorem dL_law_2287 : decode cL_law 2287 = .ok (.invokestatic 284, 3) := by decide +kernel
theorem dL_law_2290 : decode cL_law 2290 = .ok (.istore 5, 2) := by decide +kernel
theorem dL_law_2292 : decode cL_law 2292 = .ok (.aload_n 2, 1) := by decide +kernel
theorem dL_law_2293 : decode cL_law 2293 = .ok (.aload_n 0, 1) := by decide +kernel
theorem dL_law_2294 : decode cL_law 2294 = .ok (.iload 4, 2) := by decide +kernel
theorem dL_law_2296 : decode cL_law 2296 = .ok (.iconst 1, 1) := by decide +kernel
theorem dL_law_2297 : decode cL_law 2297 = .ok (.iadd, 1) := by decide +kernel
theorem dL_law_2298 : decode cL_law 2298 = .ok (.iaload, 1) := by decide +kernel
theorem dL_law_2299 : decode cL_law 2299 = .ok (.aload_n 0, 1) := by decide +kernel
theorem dL_law_2300 : decode cL_law 2300 = .ok (.iload 4, 2) := by decide +kernel
theorem dL_law_2302 : decode cL_law 2302 = .ok (.iconst 2, 1) := by decide +kernel
theorem dL_law_2303 : decode cL_law 2303 = .ok (.iadd, 1) := by decide +kernel
theorem dL_law_2304 : decode cL_law 2304 = .ok (.iaload, 1) := by decide +kernel
theorem dL_law_2305 : decode cL_law 2305 = .ok (.invokevirtual 286, 3) := by decide +kernel
theorem dL_law_2308 : decode cL_law 2308 = .ok (.istore 6, 2) := by decide +kernel
theorem dL_law_2310 : decode cL_law 2310 = .ok (.aload_n 2, 1) := by decide +kernel
theorem dL_law_2311 : decode cL_law 2311 = .ok (.invokevirtual 153, 3) := by decide +kernel
theorem dL_law_2314 : decode cL_law 2314 = .ok (.iload 5, 2) := by decide +kernel
theorem dL_law_2316 : decode cL_law 2316 = .ok (.if_icmp .eq 5, 3) := by decide +kernel
theorem dL_law_2319 : decode cL_law 2319 = .ok (.iconst 0, 1) := by decide +kernel
theorem dL_law_2320 : decode cL_law 2320 = .ok (.ireturn, 1) := by decide +kernel
theorem dL_law_2321 : decode cL_law 2321 = .ok (.iload 5, 2) := by decide +kernel
theorem dL_law_2323 : decode cL_law 2323 = .ok (.ifCond .ne 15, 3) := by decide +kernel
theorem dL_law_2326 : decode cL_law 2326 = .ok (.aload_n 3, 1) := by decide +kernel
theorem dL_law_2327 : decode cL_law 2327 = .ok (.iconst 0, 1) := by decide +kernel
theorem dL_law_2328 : decode cL_law 2328 = .ok (.laload, 1) := by decide +kernel
theorem dL_law_2329 : decode cL_law 2329 = .ok (.iload 6, 2) := by decide +kernel
theorem dL_law_2331 : decode cL_law 2331 = .ok (.i2l, 1) := by decide +kernel
theorem dL_law_2332 : decode cL_law 2332 = .ok (.lcmp, 1) := by decide +kernel
theorem dL_law_2333 : decode cL_law 2333 = .ok (.ifCond .eq 5, 3) := by decide +kernel
theorem dL_law_2336 : decode cL_law 2336 = .ok (.iconst 0, 1) := by decide +kernel
theorem dL_law_2337 : decode cL_law 2337 = .ok (.ireturn, 1) := by decide +kernel
theorem dL_law_2338 : decode cL_law 2338 = .ok (.goto 254, 3) := by decide +kernel
theorem dL_law_2341 : decode cL_law 2341 = .ok (.aload_n 1, 1) := by decide +kernel
theorem dL_law_2342 : decode cL_law 2342 = .ok (.aload_n 3, 1) := by decide +kernel
theorem dL_law_2343 : decode cL_law 2343 = .ok (.invokestatic 287, 3) := by decide +kernel
theorem dL_law_2346 : decode cL_law 2346 = .ok (.istore 5, 2) := by decide +kernel
theorem dL_law_2348 : decode cL_law 2348 = .ok (.aload_n 2, 1) := by decide +kernel
theorem dL_law_2349 : decode cL_law 2349 = .ok (.invokevirtual 290, 3) := by decide +kernel
theorem dL_law_2352 : decode cL_law 2352 = .ok (.istore 6, 2) := by decide +kernel
theorem dL_law_2354 : decode cL_law 2354 = .ok (.aload_n 2, 1) := by decide +kernel
theorem dL_law_2355 : decode cL_law 2355 = .ok (.invokevirtual 153, 3) := by decide +kernel
theorem dL_law_2358 : decode cL_law 2358 = .ok (.iload 5, 2) := by decide +kernel
theorem dL_law_2360 : decode cL_law 2360 = .ok (.if_icmp .eq 5, 3) := by decide +kernel
theorem dL_law_2363 : decode cL_law 2363 = .ok (.iconst 0, 1) := by decide +kernel
theorem dL_law_2364 : decode cL_law 2364 = .ok (.ireturn, 1) := by decide +kernel
theorem dL_law_2365 : decode cL_law 2365 = .ok (.iload 5, 2) := by decide +kernel
theorem dL_law_2367 : decode cL_law 2367 = .ok (.ifCond .ne 15, 3) := by decide +kernel
theorem dL_law_2370 : decode cL_law 2370 = .ok (.aload_n 3, 1) := by decide +kernel
theorem dL_law_2371 : decode cL_law 2371 = .ok (.iconst 0, 1) := by decide +kernel
theorem dL_law_2372 : decode cL_law 2372 = .ok (.laload, 1) := by decide +kernel
theorem dL_law_2373 : decode cL_law 2373 = .ok (.iload 6, 2) := by decide +kernel
theorem dL_law_2375 : decode cL_law 2375 = .ok (.i2l, 1) := by decide +kernel
theorem dL_law_2376 : decode cL_law 2376 = .ok (.lcmp, 1) := by decide +kernel
theorem dL_law_2377 : decode cL_law 2377 = .ok (.ifCond .eq 5, 3) := by decide +kernel
theorem dL_law_2380 : decode cL_law 2380 = .ok (.iconst 0, 1) := by decide +kernel
theorem dL_law_2381 : decode cL_law 2381 = .ok (.ireturn, 1) := by decide +kernel
theorem dL_law_2382 : decode cL_law 2382 = .ok (.goto 210, 3) := by decide +kernel
theorem dL_law_2385 : decode cL_law 2385 = .ok (.aload_n 1, 1) := by decide +kernel
theorem dL_law_2386 : decode cL_law 2386 = .ok (.invokevirtual 291, 3) := by decide +kernel
theorem dL_law_2389 : decode cL_law 2389 = .ok (.aload_n 2, 1) := by decide +kernel
theorem dL_law_2390 : decode cL_law 2390 = .ok (.invokevirtual 294, 3) := by decide +kernel
theorem dL_law_2393 : decode cL_law 2393 = .ok (.if_icmp .eq 199, 3) := by decide +kernel
theorem dL_law_2396 : decode cL_law 2396 = .ok (.iconst 0, 1) := by decide +kernel
theorem dL_law_2397 : decode cL_law 2397 = .ok (.ireturn, 1) := by decide +kernel
theorem dL_law_2398 : decode cL_law 2398 = .ok (.aload_n 1, 1) := by decide +kernel
theorem dL_law_2399 : decode cL_law 2399 = .ok (.aload_n 0, 1) := by decide +kernel
theorem dL_law_2400 : decode cL_law 2400 = .ok (.iload 4, 2) := by decide +kernel
theorem dL_law_2402 : decode cL_law 2402 = .ok (.iconst 1, 1) := by decide +kernel
theorem dL_law_2403 : decode cL_law 2403 = .ok (.iadd, 1) := by decide +kernel
theorem dL_law_2404 : decode cL_law 2404 = .ok (.iaload, 1) := by decide +kernel
theorem dL_law_2405 : decode cL_law 2405 = .ok (.aload_n 3, 1) := by decide +kernel
theorem dL_law_2406 : decode cL_law 2406 = .ok (.invokestatic 295, 3) := by decide +kernel
theorem dL_law_2409 : decode cL_law 2409 = .ok (.istore 5, 2) := by decide +kernel
theorem dL_law_2411 : decode cL_law 2411 = .ok (.aload_n 2, 1) := by decide +kernel
theorem dL_law_2412 : decode cL_law 2412 = .ok (.aload_n 0, 1) := by decide +kernel
theorem dL_law_2413 : decode cL_law 2413 = .ok (.iload 4, 2) := by decide +kernel
theorem dL_law_2415 : decode cL_law 2415 = .ok (.iconst 1, 1) := by decide +kernel
theorem dL_law_2416 : decode cL_law 2416 = .ok (.iadd, 1) := by decide +kernel
theorem dL_law_2417 : decode cL_law 2417 = .ok (.iaload, 1) := by decide +kernel
theorem dL_law_2418 : decode cL_law 2418 = .ok (.invokevirtual 297, 3) := by decide +kernel
theorem dL_law_2421 : decode cL_law 2421 = .ok (.istore 6, 2) := by decide +kernel
theorem dL_law_2423 : decode cL_law 2423 = .ok (.aload_n 2, 1) := by decide +kernel
theorem dL_law_2424 : decode cL_law 2424 = .ok (.invokevirtual 153, 3) := by decide +kernel
theorem dL_law_2427 : decode cL_law 2427 = .ok (.iload 5, 2) := by decide +kernel
theorem dL_law_2429 : decode cL_law 2429 = .ok (.if_icmp .eq 5, 3) := by decide +kernel
theorem dL_law_2432 : decode cL_law 2432 = .ok (.iconst 0, 1) := by decide +kernel
theorem dL_law_2433 : decode cL_law 2433 = .ok (.ireturn, 1) := by decide +kernel
theorem dL_law_2434 : decode cL_law 2434 = .ok (.iload 5, 2) := by decide +kernel
theorem dL_law_2436 : decode cL_law 2436 = .ok (.ifCond .ne 15, 3) := by decide +kernel
theorem dL_law_2439 : decode cL_law 2439 = .ok (.aload_n 3, 1) := by decide +kernel
theorem dL_law_2440 : decode cL_law 2440 = .ok (.iconst 0, 1) := by decide +kernel
theorem dL_law_2441 : decode cL_law 2441 = .ok (.laload, 1) := by decide +kernel
theorem dL_law_2442 : decode cL_law 2442 = .ok (.iload 6, 2) := by decide +kernel
theorem dL_law_2444 : decode cL_law 2444 = .ok (.i2l, 1) := by decide +kernel
theorem dL_law_2445 : decode cL_law 2445 = .ok (.lcmp, 1) := by decide +kernel
theorem dL_law_2446 : decode cL_law 2446 = .ok (.ifCond .eq 5, 3) := by decide +kernel
theorem dL_law_2449 : decode cL_law 2449 = .ok (.iconst 0, 1) := by decide +kernel
theorem dL_law_2450 : decode cL_law 2450 = .ok (.ireturn, 1) := by decide +kernel
theorem dL_law_2451 : decode cL_law 2451 = .ok (.goto 141, 3) := by decide +kernel
theorem dL_law_2454 : decode cL_law 2454 = .ok (.aload_n 1, 1) := by decide +kernel
theorem dL_law_2455 : decode cL_law 2455 = .ok (.aload_n 0, 1) := by decide +kernel
theorem dL_law_2456 : decode cL_law 2456 = .ok (.iload 4, 2) := by decide +kernel
theorem dL_law_2458 : decode cL_law 2458 = .ok (.iconst 1, 1) := by decide +kernel
theorem dL_law_2459 : decode cL_law 2459 = .ok (.iadd, 1) := by decide +kernel
theorem dL_law_2460 : decode cL_law 2460 = .ok (.iaload, 1) := by decide +kernel
theorem dL_law_2461 : decode cL_law 2461 = .ok (.aload_n 3, 1) := by decide +kernel
theorem dL_law_2462 : decode cL_law 2462 = .ok (.invokestatic 298, 3) := by decide +kernel
theorem dL_law_2465 : decode cL_law 2465 = .ok (.istore 5, 2) := by decide +kernel
theorem dL_law_2467 : decode cL_law 2467 = .ok (.aload_n 2, 1) := by decide +kernel
theorem dL_law_2468 : decode cL_law 2468 = .ok (.aload_n 0, 1) := by decide +kernel
theorem dL_law_2469 : decode cL_law 2469 = .ok (.iload 4, 2) := by decide +kernel
theorem dL_law_2471 : decode cL_law 2471 = .ok (.iconst 1, 1) := by decide +kernel
theorem dL_law_2472 : decode cL_law 2472 = .ok (.iadd, 1) := by decide +kernel
theorem dL_law_2473 : decode cL_law 2473 = .ok (.iaload, 1) := by decide +kernel
theorem dL_law_2474 : decode cL_law 2474 = .ok (.invokevirtual 300, 3) := by decide +kernel
theorem dL_law_2477 : decode cL_law 2477 = .ok (.istore 6, 2) := by decide +kernel
theorem dL_law_2479 : decode cL_law 2479 = .ok (.aload_n 2, 1) := by decide +kernel
theorem dL_law_2480 : decode cL_law 2480 = .ok (.invokevirtual 153, 3) := by decide +kernel
theorem dL_law_2483 : decode cL_law 2483 = .ok (.iload 5, 2) := by decide +kernel
theorem dL_law_2485 : decode cL_law 2485 = .ok (.if_icmp .eq 5, 3) := by decide +kernel
theorem dL_law_2488 : decode cL_law 2488 = .ok (.iconst 0, 1) := by decide +kernel
theorem dL_law_2489 : decode cL_law 2489 = .ok (.ireturn, 1) := by decide +kernel
theorem dL_law_2490 : decode cL_law 2490 = .ok (.iload 5, 2) := by decide +kernel
theorem dL_law_2492 : decode cL_law 2492 = .ok (.ifCond .ne 15, 3) := by decide +kernel
theorem dL_law_2495 : decode cL_law 2495 = .ok (.aload_n 3, 1) := by decide +kernel
theorem dL_law_2496 : decode cL_law 2496 = .ok (.iconst 0, 1) := by decide +kernel
theorem dL_law_2497 : decode cL_law 2497 = .ok (.laload, 1) := by decide +kernel
theorem dL_law_2498 : decode cL_law 2498 = .ok (.iload 6, 2) := by decide +kernel
theorem dL_law_2500 : decode cL_law 2500 = .ok (.i2l, 1) := by decide +kernel
theorem dL_law_2501 : decode cL_law 2501 = .ok (.lcmp, 1) := by decide +kernel
theorem dL_law_2502 : decode cL_law 2502 = .ok (.ifCond .eq 5, 3) := by decide +kernel
theorem dL_law_2505 : decode cL_law 2505 = .ok (.iconst 0, 1) := by decide +kernel
theorem dL_law_2506 : decode cL_law 2506 = .ok (.ireturn, 1) := by decide +kernel
theorem dL_law_2507 : decode cL_law 2507 = .ok (.goto 85, 3) := by decide +kernel
theorem dL_law_2510 : decode cL_law 2510 = .ok (.aload_n 1, 1) := by decide +kernel
theorem dL_law_2511 : decode cL_law 2511 = .ok (.aload_n 0, 1) := by decide +kernel
theorem dL_law_2512 : decode cL_law 2512 = .ok (.iload 4, 2) := by decide +kernel
theorem dL_law_2514 : decode cL_law 2514 = .ok (.iconst 1, 1) := by decide +kernel
theorem dL_law_2515 : decode cL_law 2515 = .ok (.iadd, 1) := by decide +kernel
theorem dL_law_2516 : decode cL_law 2516 = .ok (.iaload, 1) := by decide +kernel
theorem dL_law_2517 : decode cL_law 2517 = .ok (.invokevirtual 301, 3) := by decide +kernel
theorem dL_law_2520 : decode cL_law 2520 = .ok (.aload_n 2, 1) := by decide +kernel
theorem dL_law_2521 : decode cL_law 2521 = .ok (.aload_n 0, 1) := by decide +kernel
theorem dL_law_2522 : decode cL_law 2522 = .ok (.iload 4, 2) := by decide +kernel
theorem dL_law_2524 : decode cL_law 2524 = .ok (.iconst 1, 1) := by decide +kernel
theorem dL_law_2525 : decode cL_law 2525 = .ok (.iadd, 1) := by decide +kernel
theorem dL_law_2526 : decode cL_law 2526 = .ok (.iaload, 1) := by decide +kernel
theorem dL_law_2527 : decode cL_law 2527 = .ok (.invokevirtual 304, 3) := by decide +kernel
theorem dL_law_2530 : decode cL_law 2530 = .ok (.if_icmp .eq 62, 3) := by decide +kernel
theorem dL_law_2533 : decode cL_law 2533 = .ok (.iconst 0, 1) := by decide +kernel
theorem dL_law_2534 : decode cL_law 2534 = .ok (.ireturn, 1) := by decide +kernel
theorem dL_law_2535 : decode cL_law 2535 = .ok (.aload_n 1, 1) := by decide +kernel
theorem dL_law_2536 : decode cL_law 2536 = .ok (.invokevirtual 305, 3) := by decide +kernel
theorem dL_law_2539 : decode cL_law 2539 = .ok (.aload_n 2, 1) := by decide +kernel
theorem dL_law_2540 : decode cL_law 2540 = .ok (.invokevirtual 308, 3) := by decide +kernel
theorem dL_law_2543 : decode cL_law 2543 = .ok (.if_icmp .eq 49, 3) := by decide +kernel
theorem dL_law_2546 : decode cL_law 2546 = .ok (.iconst 0, 1) := by decide +kernel
theorem dL_law_2547 : decode cL_law 2547 = .ok (.ireturn, 1) := by decide +kernel
theorem dL_law_2548 : decode cL_law 2548 = .ok (.aload_n 1, 1) := by decide +kernel
theorem dL_law_2549 : decode cL_law 2549 = .ok (.aload_n 3, 1) := by decide +kernel
theorem dL_law_2550 : decode cL_law 2550 = .ok (.invokestatic 309, 3) := by decide +kernel
theorem dL_law_2553 : decode cL_law 2553 = .ok (.istore 5, 2) := by decide +kernel
theorem dL_law_2555 : decode cL_law 2555 = .ok (.aload_n 2, 1) := by decide +kernel
theorem dL_law_2556 : decode cL_law 2556 = .ok (.invokevirtual 311, 3) := by decide +kernel
theorem dL_law_2559 : decode cL_law 2559 = .ok (.istore 6, 2) := by decide +kernel
theorem dL_law_2561 : decode cL_law 2561 = .ok (.aload_n 2, 1) := by decide +kernel
theorem dL_law_2562 : decode cL_law 2562 = .ok (.invokevirtual 153, 3) := by decide +kernel
theorem dL_law_2565 : decode cL_law 2565 = .ok (.iload 5, 2) := by decide +kernel
theorem dL_law_2567 : decode cL_law 2567 = .ok (.if_icmp .eq 5, 3) := by decide +kernel
theorem dL_law_2570 : decode cL_law 2570 = .ok (.iconst 0, 1) := by decide +kernel
theorem dL_law_2571 : decode cL_law 2571 = .ok (.ireturn, 1) := by decide +kernel
theorem dL_law_2572 : decode cL_law 2572 = .ok (.iload 5, 2) := by decide +kernel
theorem dL_law_2574 : decode cL_law 2574 = .ok (.ifCond .ne 15, 3) := by decide +kernel
theorem dL_law_2577 : decode cL_law 2577 = .ok (.aload_n 3, 1) := by decide +kernel
theorem dL_law_2578 : decode cL_law 2578 = .ok (.iconst 0, 1) := by decide +kernel
theorem dL_law_2579 : decode cL_law 2579 = .ok (.laload, 1) := by decide +kernel
theorem dL_law_2580 : decode cL_law 2580 = .ok (.iload 6, 2) := by decide +kernel
theorem dL_law_2582 : decode cL_law 2582 = .ok (.i2l, 1) := by decide +kernel
theorem dL_law_2583 : decode cL_law 2583 = .ok (.lcmp, 1) := by decide +kernel
theorem dL_law_2584 : decode cL_law 2584 = .ok (.ifCond .eq 5, 3) := by decide +kernel
theorem dL_law_2587 : decode cL_law 2587 = .ok (.iconst 0, 1) := by decide +kernel
theorem dL_law_2588 : decode cL_law 2588 = .ok (.ireturn, 1) := by decide +kernel
theorem dL_law_2589 : decode cL_law 2589 = .ok (.goto 3, 3) := by decide +kernel
theorem dL_law_2592 : decode cL_law 2592 = .ok (.iinc 4 6, 3) := by decide +kernel
theorem dL_law_2595 : decode cL_law 2595 = .ok (.goto (-2572), 3) := by decide +kernel
theorem dL_law_2598 : decode cL_law 2598 = .ok (.iconst 1, 1) := by decide +kernel
theorem dL_law_2599 : decode cL_law 2599 = .ok (.ireturn, 1) := by decide +kernel
abbrev LT : Type := Nat → Nat → Nat → Int32 → Sem
def cl0 (L : Nat) (xs : Nat → Int32) (J : LT) (x1 x2 x3 : Nat) (x4 : Int32) : Sem :=
    sld L xs (x4 + 1) fun v1 =>
    sld L xs (x4 + 2) fun v2 =>
    sld L xs (x4 + 3) fun v3 =>
    sld L xs (x4 + 4) fun v4 =>
    sld L xs (x4 + 5) fun v5 =>
    ob 10 x1 (cI SX10_feed [.ref x1, .int v1, .int v2, .int v3, .int v4, .int v5] fun v6 =>
    sld L xs (x4 + 1) fun v7 =>
    sld L xs (x4 + 2) fun v8 =>
    sld L xs (x4 + 3) fun v9 =>
    sld L xs (x4 + 4) fun v10 =>
    sld L xs (x4 + 5) fun v11 =>
    ob 11 x2 (cI SX11_feed [.ref x2, .int v7, .int v8, .int v9, .int v10, .int v11] fun v12 =>
    br (v6 = v12)
    (J x1 x2 x3 (x4 + 6))
    (rZ 0)))
theorem pcl0 {Γ : CT} (hC : Ctx Γ "SpiritWallLaw" cL_law 9 (some .boolean) room_1) (hnt : NT Γ) (hN : NcA (kS Γ)) {L : Nat} {xs : Nat → Int32} (hX : Scr Γ L xs) (J : LT) {cn sn x1 x2 x3 : Nat} {x4 : Int32} (h1 : cn + 100 ≤ 601024) (h2 : sn + 1000 ≤ 7293034)
    (hJ : Cor Γ 9 (cn + 100) (sn + 1000) 23 [(0, .ref 1900), (1, .ref x1), (2, .ref x2), (3, .ref x3), (4, .int (x4 + 6))] [] (J x1 x2 x3 (x4 + 6))) : Cor Γ 9 cn sn 268 [(0, .ref 1900), (1, .ref x1), (2, .ref x2), (3, .ref x3), (4, .int x4)] [] (cl0 L xs J x1 x2 x3 x4) := by
  unfold cl0
  refine q_aload_n hC 1 dL_law_268 rfl rfl ?_
  refine q_aload_n hC 0 dL_law_269 rfl rfl ?_
  refine q_iload hC 4 dL_law_270 rfl ?_
  refine q_iconst hC dL_law_272 rfl ?_
  refine q_iadd hC dL_law_273 ?_
  refine q_sld hC hX dL_law_274 (fun v1 => ?_)
  refine q_aload_n hC 0 dL_law_275 rfl rfl ?_
  refine q_iload hC 4 dL_law_276 rfl ?_
  refine q_iconst hC dL_law_278 rfl ?_
  refine q_iadd hC dL_law_279 ?_
  refine q_sld hC hX dL_law_280 (fun v2 => ?_)
  refine q_aload_n hC 0 dL_law_281 rfl rfl ?_
  refine q_iload hC 4 dL_law_282 rfl ?_
  refine q_iconst hC dL_law_284 rfl ?_
  refine q_iadd hC dL_law_285 ?_
  refine q_sld hC hX dL_law_286 (fun v3 => ?_)
  refine q_aload_n hC 0 dL_law_287 rfl rfl ?_
  refine q_iload hC 4 dL_law_288 rfl ?_
  refine q_iconst hC dL_law_290 rfl ?_
  refine q_iadd hC dL_law_291 ?_
  refine q_sld hC hX dL_law_292 (fun v4 => ?_)
  refine q_aload_n hC 0 dL_law_293 rfl rfl ?_
  refine q_iload hC 4 dL_law_294 rfl ?_
  refine q_iconst hC dL_law_296 rfl ?_
  refine q_iadd hC dL_law_297 ?_
  refine q_sld hC hX dL_law_298 (fun v5 => ?_)
  refine q_cVI hC hnt (stk := []) (as := [.int v1, .int v2, .int v3, .int v4, .int v5]) sX10_feed (ci := 10) (by decide) rfl nX10_feed (roomOk_of (by simp only [rmX10_feed, rmX11_feed, rmk, room_1]; omega)) w_1410 w_1412 w_1413 w_27 w_1411 (Nat.le_of_ble_eq_true rfl) dL_law_299 rfl (fun v6 => ?_)
  refine q_aload_n hC 2 dL_law_302 rfl rfl ?_
  refine q_aload_n hC 0 dL_law_303 rfl rfl ?_
  refine q_iload hC 4 dL_law_304 rfl ?_
  refine q_iconst hC dL_law_306 rfl ?_
  refine q_iadd hC dL_law_307 ?_
  refine q_sld hC hX dL_law_308 (fun v7 => ?_)
  refine q_aload_n hC 0 dL_law_309 rfl rfl ?_
  refine q_iload hC 4 dL_law_310 rfl ?_
  refine q_iconst hC dL_law_312 rfl ?_
  refine q_iadd hC dL_law_313 ?_
  refine q_sld hC hX dL_law_314 (fun v8 => ?_)
  refine q_aload_n hC 0 dL_law_315 rfl rfl ?_
  refine q_iload hC 4 dL_law_316 rfl ?_
  refine q_iconst hC dL_law_318 rfl ?_
  refine q_iadd hC dL_law_319 ?_
  refine q_sld hC hX dL_law_320 (fun v9 => ?_)
  refine q_aload_n hC 0 dL_law_321 rfl rfl ?_
  refine q_iload hC 4 dL_law_322 rfl ?_
  refine q_iconst hC dL_law_324 rfl ?_
  refine q_iadd hC dL_law_325 ?_
  refine q_sld hC hX dL_law_326 (fun v10 => ?_)
  refine q_aload_n hC 0 dL_law_327 rfl rfl ?_
  refine q_iload hC 4 dL_law_328 rfl ?_
  refine q_iconst hC dL_law_330 rfl ?_
  refine q_iadd hC dL_law_331 ?_
  refine q_sld hC hX dL_law_332 (fun v11 => ?_)
  refine q_cVI hC hnt (stk := [.int v6]) (as := [.int v7, .int v8, .int v9, .int v10, .int v11]) sX11_feed (ci := 11) (by decide) rfl nX11_feed (roomOk_of (by simp only [rmX10_feed, rmX11_feed, rmk, room_1]; omega)) w_1414 w_1416 w_1417 w_830 w_1415 (Nat.le_of_ble_eq_true rfl) dL_law_333 rfl (fun v12 => ?_)
  refine q_ic_eq hC 2592 dL_law_336 rfl ?_ ?_
  · refine q_iincA hC (loc' := [(4, .int (x4 + 6)), (0, .ref 1900), (1, .ref x1), (2, .ref x2), (3, .ref x3)]) 4 6 dL_law_2592 rfl rfl (Nat.le_of_ble_eq_true rfl) rfl ?_
    refine q_goto hC 23 dL_law_2595 rfl ?_
    exact c_widen (by simp only [rmX10_feed, rmX11_feed, rmk, room_1]; omega) (by simp only [rmX10_feed, rmX11_feed, rmk, room_1]; omega) (c_sub [1, 2, 3, 4, 0] rfl hJ)
  · refine q_iconst hC dL_law_339 rfl ?_
    exact q_zret hC dL_law_340 (by simp only [rmX10_feed, rmX11_feed, rmk, room_1]; omega) (by simp only [rmX10_feed, rmX11_feed, rmk, room_1]; omega)
def cl1 (L : Nat) (xs : Nat → Int32) (J : LT) (x1 x2 x3 : Nat) (x4 : Int32) : Sem :=
    sld L xs (x4 + 1) fun v1 =>
    ob 10 x1 (cI SX10_truncate [.ref x1, .int v1] fun v2 =>
    sld L xs (x4 + 1) fun v3 =>
    ob 11 x2 (cI SX11_truncate [.ref x2, .int v3] fun v4 =>
    br (v2 = v4)
    (J x1 x2 x3 (x4 + 6))
    (rZ 0)))
theorem pcl1 {Γ : CT} (hC : Ctx Γ "SpiritWallLaw" cL_law 9 (some .boolean) room_1) (hnt : NT Γ) (hN : NcA (kS Γ)) {L : Nat} {xs : Nat → Int32} (hX : Scr Γ L xs) (J : LT) {cn sn x1 x2 x3 : Nat} {x4 : Int32} (h1 : cn + 100 ≤ 601024) (h2 : sn + 1000 ≤ 7293034)
    (hJ : Cor Γ 9 (cn + 100) (sn + 1000) 23 [(0, .ref 1900), (1, .ref x1), (2, .ref x2), (3, .ref x3), (4, .int (x4 + 6))] [] (J x1 x2 x3 (x4 + 6))) : Cor Γ 9 cn sn 341 [(0, .ref 1900), (1, .ref x1), (2, .ref x2), (3, .ref x3), (4, .int x4)] [] (cl1 L xs J x1 x2 x3 x4) := by
  unfold cl1
  refine q_aload_n hC 1 dL_law_341 rfl rfl ?_
  refine q_aload_n hC 0 dL_law_342 rfl rfl ?_
  refine q_iload hC 4 dL_law_343 rfl ?_
  refine q_iconst hC dL_law_345 rfl ?_
  refine q_iadd hC dL_law_346 ?_
  refine q_sld hC hX dL_law_347 (fun v1 => ?_)
  refine q_cVI hC hnt (stk := []) (as := [.int v1]) sX10_truncate (ci := 10) (by decide) rfl nX10_truncate (roomOk_of (by simp only [rmX10_truncate, rmX11_truncate, rmk, room_1]; omega)) w_1418 w_1420 w_1421 w_27 w_1419 (Nat.le_of_ble_eq_true rfl) dL_law_348 rfl (fun v2 => ?_)
  refine q_aload_n hC 2 dL_law_351 rfl rfl ?_
  refine q_aload_n hC 0 dL_law_352 rfl rfl ?_
  refine q_iload hC 4 dL_law_353 rfl ?_
  refine q_iconst hC dL_law_355 rfl ?_
  refine q_iadd hC dL_law_356 ?_
  refine q_sld hC hX dL_law_357 (fun v3 => ?_)
  refine q_cVI hC hnt (stk := [.int v2]) (as := [.int v3]) sX11_truncate (ci := 11) (by decide) rfl nX11_truncate (roomOk_of (by simp only [rmX10_truncate, rmX11_truncate, rmk, room_1]; omega)) w_1422 w_1424 w_1425 w_830 w_1423 (Nat.le_of_ble_eq_true rfl) dL_law_358 rfl (fun v4 => ?_)
  refine q_ic_eq hC 2592 dL_law_361 rfl ?_ ?_
  · refine q_iincA hC (loc' := [(4, .int (x4 + 6)), (0, .ref 1900), (1, .ref x1), (2, .ref x2), (3, .ref x3)]) 4 6 dL_law_2592 rfl rfl (Nat.le_of_ble_eq_true rfl) rfl ?_
    refine q_goto hC 23 dL_law_2595 rfl ?_
    exact c_widen (by simp only [rmX10_truncate, rmX11_truncate, rmk, room_1]; omega) (by simp only [rmX10_truncate, rmX11_truncate, rmk, room_1]; omega) (c_sub [1, 2, 3, 4, 0] rfl hJ)
  · refine q_iconst hC dL_law_364 rfl ?_
    exact q_zret hC dL_law_365 (by simp only [rmX10_truncate, rmX11_truncate, rmk, room_1]; omega) (by simp only [rmX10_truncate, rmX11_truncate, rmk, room_1]; omega)
def cl2 (L : Nat) (xs : Nat → Int32) (J : LT) (x1 x2 x3 : Nat) (x4 : Int32) : Sem :=
    ob 10 x1 (cI SX10_parse [.ref x1] fun v1 =>
    ob 11 x2 (cI SX11_parse [.ref x2] fun v2 =>
    br (v1 = v2)
    (J x1 x2 x3 (x4 + 6))
    (rZ 0)))
theorem pcl2 {Γ : CT} (hC : Ctx Γ "SpiritWallLaw" cL_law 9 (some .boolean) room_1) (hnt : NT Γ) (hN : NcA (kS Γ)) {L : Nat} {xs : Nat → Int32} (hX : Scr Γ L xs) (J : LT) {cn sn x1 x2 x3 : Nat} {x4 : Int32} (h1 : cn + 100 ≤ 601024) (h2 : sn + 1000 ≤ 7293034)
    (hJ : Cor Γ 9 (cn + 100) (sn + 1000) 23 [(0, .ref 1900), (1, .ref x1), (2, .ref x2), (3, .ref x3), (4, .int (x4 + 6))] [] (J x1 x2 x3 (x4 + 6))) : Cor Γ 9 cn sn 366 [(0, .ref 1900), (1, .ref x1), (2, .ref x2), (3, .ref x3), (4, .int x4)] [] (cl2 L xs J x1 x2 x3 x4) := by
  unfold cl2
  refine q_aload_n hC 1 dL_law_366 rfl rfl ?_
  refine q_cVI hC hnt (stk := []) (as := []) sX10_parse (ci := 10) (by decide) rfl nX10_parse (roomOk_of (by simp only [rmX10_parse, rmX11_parse, rmk, room_1]; omega)) w_1426 w_1428 w_1429 w_27 w_1427 (Nat.le_of_ble_eq_true rfl) dL_law_367 rfl (fun v1 => ?_)
  refine q_aload_n hC 2 dL_law_370 rfl rfl ?_
  refine q_cVI hC hnt (stk := [.int v1]) (as := []) sX11_parse (ci := 11) (by decide) rfl nX11_parse (roomOk_of (by simp only [rmX10_parse, rmX11_parse, rmk, room_1]; omega)) w_1430 w_1432 w_1433 w_830 w_1431 (Nat.le_of_ble_eq_true rfl) dL_law_371 rfl (fun v2 => ?_)
  refine q_ic_eq hC 2592 dL_law_374 rfl ?_ ?_
  · refine q_iincA hC (loc' := [(4, .int (x4 + 6)), (0, .ref 1900), (1, .ref x1), (2, .ref x2), (3, .ref x3)]) 4 6 dL_law_2592 rfl rfl (Nat.le_of_ble_eq_true rfl) rfl ?_
    refine q_goto hC 23 dL_law_2595 rfl ?_
    exact c_widen (by simp only [rmX10_parse, rmX11_parse, rmk, room_1]; omega) (by simp only [rmX10_parse, rmX11_parse, rmk, room_1]; omega) (c_sub [1, 2, 3, 4, 0] rfl hJ)
  · refine q_iconst hC dL_law_377 rfl ?_
    exact q_zret hC dL_law_378 (by simp only [rmX10_parse, rmX11_parse, rmk, room_1]; omega) (by simp only [rmX10_parse, rmX11_parse, rmk, room_1]; omega)
def cl3 (L : Nat) (xs : Nat → Int32) (J : LT) (x1 x2 x3 : Nat) (x4 : Int32) : Sem :=
    ob 10 x1 (cI SX10_errorCode [.ref x1] fun v1 =>
    ob 11 x2 (cI SX11_errorCode [.ref x2] fun v2 =>
    br (v1 = v2)
    (J x1 x2 x3 (x4 + 6))
    (rZ 0)))
theorem pcl3 {Γ : CT} (hC : Ctx Γ "SpiritWallLaw" cL_law 9 (some .boolean) room_1) (hnt : NT Γ) (hN : NcA (kS Γ)) {L : Nat} {xs : Nat → Int32} (hX : Scr Γ L xs) (J : LT) {cn sn x1 x2 x3 : Nat} {x4 : Int32} (h1 : cn + 100 ≤ 601024) (h2 : sn + 1000 ≤ 7293034)
    (hJ : Cor Γ 9 (cn + 100) (sn + 1000) 23 [(0, .ref 1900), (1, .ref x1), (2, .ref x2), (3, .ref x3), (4, .int (x4 + 6))] [] (J x1 x2 x3 (x4 + 6))) : Cor Γ 9 cn sn 379 [(0, .ref 1900), (1, .ref x1), (2, .ref x2), (3, .ref x3), (4, .int x4)] [] (cl3 L xs J x1 x2 x3 x4) := by
  unfold cl3
  refine q_aload_n hC 1 dL_law_379 rfl rfl ?_
  refine q_cVI hC hnt (stk := []) (as := []) sX10_errorCode (ci := 10) (by decide) rfl nX10_errorCode (roomOk_of (by simp only [rmX10_errorCode, rmX11_errorCode, rmk, room_1]; omega)) w_1434 w_1436 w_1437 w_27 w_1435 (Nat.le_of_ble_eq_true rfl) dL_law_380 rfl (fun v1 => ?_)
  refine q_aload_n hC 2 dL_law_383 rfl rfl ?_
  refine q_cVI hC hnt (stk := [.int v1]) (as := []) sX11_errorCode (ci := 11) (by decide) rfl nX11_errorCode (roomOk_of (by simp only [rmX10_errorCode, rmX11_errorCode, rmk, room_1]; omega)) w_1438 w_1440 w_1441 w_830 w_1439 (Nat.le_of_ble_eq_true rfl) dL_law_384 rfl (fun v2 => ?_)
  refine q_ic_eq hC 2592 dL_law_387 rfl ?_ ?_
  · refine q_iincA hC (loc' := [(4, .int (x4 + 6)), (0, .ref 1900), (1, .ref x1), (2, .ref x2), (3, .ref x3)]) 4 6 dL_law_2592 rfl rfl (Nat.le_of_ble_eq_true rfl) rfl ?_
    refine q_goto hC 23 dL_law_2595 rfl ?_
    exact c_widen (by simp only [rmX10_errorCode, rmX11_errorCode, rmk, room_1]; omega) (by simp only [rmX10_errorCode, rmX11_errorCode, rmk, room_1]; omega) (c_sub [1, 2, 3, 4, 0] rfl hJ)
  · refine q_iconst hC dL_law_390 rfl ?_
    exact q_zret hC dL_law_391 (by simp only [rmX10_errorCode, rmX11_errorCode, rmk, room_1]; omega) (by simp only [rmX10_errorCode, rmX11_errorCode, rmk, room_1]; omega)
def cl4 (L : Nat) (xs : Nat → Int32) (J : LT) (x1 x2 x3 : Nat) (x4 : Int32) : Sem :=
    ob 10 x1 (cI SX10_errorOffset [.ref x1] fun v1 =>
    ob 11 x2 (cI SX11_errorOffset [.ref x2] fun v2 =>
    br (v1 = v2)
    (J x1 x2 x3 (x4 + 6))
    (rZ 0)))
theorem pcl4 {Γ : CT} (hC : Ctx Γ "SpiritWallLaw" cL_law 9 (some .boolean) room_1) (hnt : NT Γ) (hN : NcA (kS Γ)) {L : Nat} {xs : Nat → Int32} (hX : Scr Γ L xs) (J : LT) {cn sn x1 x2 x3 : Nat} {x4 : Int32} (h1 : cn + 100 ≤ 601024) (h2 : sn + 1000 ≤ 7293034)
    (hJ : Cor Γ 9 (cn + 100) (sn + 1000) 23 [(0, .ref 1900), (1, .ref x1), (2, .ref x2), (3, .ref x3), (4, .int (x4 + 6))] [] (J x1 x2 x3 (x4 + 6))) : Cor Γ 9 cn sn 392 [(0, .ref 1900), (1, .ref x1), (2, .ref x2), (3, .ref x3), (4, .int x4)] [] (cl4 L xs J x1 x2 x3 x4) := by
  unfold cl4
  refine q_aload_n hC 1 dL_law_392 rfl rfl ?_
  refine q_cVI hC hnt (stk := []) (as := []) sX10_errorOffset (ci := 10) (by decide) rfl nX10_errorOffset (roomOk_of (by simp only [rmX10_errorOffset, rmX11_errorOffset, rmk, room_1]; omega)) w_1442 w_1444 w_1445 w_27 w_1443 (Nat.le_of_ble_eq_true rfl) dL_law_393 rfl (fun v1 => ?_)
  refine q_aload_n hC 2 dL_law_396 rfl rfl ?_
  refine q_cVI hC hnt (stk := [.int v1]) (as := []) sX11_errorOffset (ci := 11) (by decide) rfl nX11_errorOffset (roomOk_of (by simp only [rmX10_errorOffset, rmX11_errorOffset, rmk, room_1]; omega)) w_1446 w_1448 w_1449 w_830 w_1447 (Nat.le_of_ble_eq_true rfl) dL_law_397 rfl (fun v2 => ?_)
  refine q_ic_eq hC 2592 dL_law_400 rfl ?_ ?_
  · refine q_iincA hC (loc' := [(4, .int (x4 + 6)), (0, .ref 1900), (1, .ref x1), (2, .ref x2), (3, .ref x3)]) 4 6 dL_law_2592 rfl rfl (Nat.le_of_ble_eq_true rfl) rfl ?_
    refine q_goto hC 23 dL_law_2595 rfl ?_
    exact c_widen (by simp only [rmX10_errorOffset, rmX11_errorOffset, rmk, room_1]; omega) (by simp only [rmX10_errorOffset, rmX11_errorOffset, rmk, room_1]; omega) (c_sub [1, 2, 3, 4, 0] rfl hJ)
  · refine q_iconst hC dL_law_403 rfl ?_
    exact q_zret hC dL_law_404 (by simp only [rmX10_errorOffset, rmX11_errorOffset, rmk, room_1]; omega) (by simp only [rmX10_errorOffset, rmX11_errorOffset, rmk, room_1]; omega)
def cl5 (L : Nat) (xs : Nat → Int32) (J : LT) (x1 x2 x3 : Nat) (x4 : Int32) : Sem :=
    sld L xs (x4 + 1) fun v1 =>
    ob 10 x1 (cI SX10_count [.ref x1, .int v1] fun v2 =>
    sld L xs (x4 + 1) fun v3 =>
    ob 11 x2 (cI SX11_count [.ref x2, .int v3] fun v4 =>
    br (v2 = v4)
    (J x1 x2 x3 (x4 + 6))
    (rZ 0)))
theorem pcl5 {Γ : CT} (hC : Ctx Γ "SpiritWallLaw" cL_law 9 (some .boolean) room_1) (hnt : NT Γ) (hN : NcA (kS Γ)) {L : Nat} {xs : Nat → Int32} (hX : Scr Γ L xs) (J : LT) {cn sn x1 x2 x3 : Nat} {x4 : Int32} (h1 : cn + 100 ≤ 601024) (h2 : sn + 1000 ≤ 7293034)
    (hJ : Cor Γ 9 (cn + 100) (sn + 1000) 23 [(0, .ref 1900), (1, .ref x1), (2, .ref x2), (3, .ref x3), (4, .int (x4 + 6))] [] (J x1 x2 x3 (x4 + 6))) : Cor Γ 9 cn sn 405 [(0, .ref 1900), (1, .ref x1), (2, .ref x2), (3, .ref x3), (4, .int x4)] [] (cl5 L xs J x1 x2 x3 x4) := by
  unfold cl5
  refine q_aload_n hC 1 dL_law_405 rfl rfl ?_
  refine q_aload_n hC 0 dL_law_406 rfl rfl ?_
  refine q_iload hC 4 dL_law_407 rfl ?_
  refine q_iconst hC dL_law_409 rfl ?_
  refine q_iadd hC dL_law_410 ?_
  refine q_sld hC hX dL_law_411 (fun v1 => ?_)
  refine q_cVI hC hnt (stk := []) (as := [.int v1]) sX10_count (ci := 10) (by decide) rfl nX10_count (roomOk_of (by simp only [rmX10_count, rmX11_count, rmk, room_1]; omega)) w_1450 w_1452 w_1453 w_27 w_1451 (Nat.le_of_ble_eq_true rfl) dL_law_412 rfl (fun v2 => ?_)
  refine q_aload_n hC 2 dL_law_415 rfl rfl ?_
  refine q_aload_n hC 0 dL_law_416 rfl rfl ?_
  refine q_iload hC 4 dL_law_417 rfl ?_
  refine q_iconst hC dL_law_419 rfl ?_
  refine q_iadd hC dL_law_420 ?_
  refine q_sld hC hX dL_law_421 (fun v3 => ?_)
  refine q_cVI hC hnt (stk := [.int v2]) (as := [.int v3]) sX11_count (ci := 11) (by decide) rfl nX11_count (roomOk_of (by simp only [rmX10_count, rmX11_count, rmk, room_1]; omega)) w_1454 w_1456 w_1457 w_830 w_1455 (Nat.le_of_ble_eq_true rfl) dL_law_422 rfl (fun v4 => ?_)
  refine q_ic_eq hC 2592 dL_law_425 rfl ?_ ?_
  · refine q_iincA hC (loc' := [(4, .int (x4 + 6)), (0, .ref 1900), (1, .ref x1), (2, .ref x2), (3, .ref x3)]) 4 6 dL_law_2592 rfl rfl (Nat.le_of_ble_eq_true rfl) rfl ?_
    refine q_goto hC 23 dL_law_2595 rfl ?_
    exact c_widen (by simp only [rmX10_count, rmX11_count, rmk, room_1]; omega) (by simp only [rmX10_count, rmX11_count, rmk, room_1]; omega) (c_sub [1, 2, 3, 4, 0] rfl hJ)
  · refine q_iconst hC dL_law_428 rfl ?_
    exact q_zret hC dL_law_429 (by simp only [rmX10_count, rmX11_count, rmk, room_1]; omega) (by simp only [rmX10_count, rmX11_count, rmk, room_1]; omega)
def cl6 (L : Nat) (xs : Nat → Int32) (J : LT) (x1 x2 x3 : Nat) (x4 : Int32) : Sem :=
    sld L xs (x4 + 1) fun v1 =>
    ob 10 x1 (cI SX10_setting [.ref x1, .int v1] fun v2 =>
    sld L xs (x4 + 1) fun v3 =>
    ob 11 x2 (cI SX11_setting [.ref x2, .int v3] fun v4 =>
    br (v2 = v4)
    (J x1 x2 x3 (x4 + 6))
    (rZ 0)))
theorem pcl6 {Γ : CT} (hC : Ctx Γ "SpiritWallLaw" cL_law 9 (some .boolean) room_1) (hnt : NT Γ) (hN : NcA (kS Γ)) {L : Nat} {xs : Nat → Int32} (hX : Scr Γ L xs) (J : LT) {cn sn x1 x2 x3 : Nat} {x4 : Int32} (h1 : cn + 100 ≤ 601024) (h2 : sn + 1000 ≤ 7293034)
    (hJ : Cor Γ 9 (cn + 100) (sn + 1000) 23 [(0, .ref 1900), (1, .ref x1), (2, .ref x2), (3, .ref x3), (4, .int (x4 + 6))] [] (J x1 x2 x3 (x4 + 6))) : Cor Γ 9 cn sn 430 [(0, .ref 1900), (1, .ref x1), (2, .ref x2), (3, .ref x3), (4, .int x4)] [] (cl6 L xs J x1 x2 x3 x4) := by
  unfold cl6
  refine q_aload_n hC 1 dL_law_430 rfl rfl ?_
  refine q_aload_n hC 0 dL_law_431 rfl rfl ?_
  refine q_iload hC 4 dL_law_432 rfl ?_
  refine q_iconst hC dL_law_434 rfl ?_
  refine q_iadd hC dL_law_435 ?_
  refine q_sld hC hX dL_law_436 (fun v1 => ?_)
  refine q_cVI hC hnt (stk := []) (as := [.int v1]) sX10_setting (ci := 10) (by decide) rfl nX10_setting (roomOk_of (by simp only [rmX10_setting, rmX11_setting, rmk, room_1]; omega)) w_1458 w_1460 w_1461 w_27 w_1459 (Nat.le_of_ble_eq_true rfl) dL_law_437 rfl (fun v2 => ?_)
  refine q_aload_n hC 2 dL_law_440 rfl rfl ?_
  refine q_aload_n hC 0 dL_law_441 rfl rfl ?_
  refine q_iload hC 4 dL_law_442 rfl ?_
  refine q_iconst hC dL_law_444 rfl ?_
  refine q_iadd hC dL_law_445 ?_
  refine q_sld hC hX dL_law_446 (fun v3 => ?_)
  refine q_cVI hC hnt (stk := [.int v2]) (as := [.int v3]) sX11_setting (ci := 11) (by decide) rfl nX11_setting (roomOk_of (by simp only [rmX10_setting, rmX11_setting, rmk, room_1]; omega)) w_1462 w_1464 w_1465 w_830 w_1463 (Nat.le_of_ble_eq_true rfl) dL_law_447 rfl (fun v4 => ?_)
  refine q_ic_eq hC 2592 dL_law_450 rfl ?_ ?_
  · refine q_iincA hC (loc' := [(4, .int (x4 + 6)), (0, .ref 1900), (1, .ref x1), (2, .ref x2), (3, .ref x3)]) 4 6 dL_law_2592 rfl rfl (Nat.le_of_ble_eq_true rfl) rfl ?_
    refine q_goto hC 23 dL_law_2595 rfl ?_
    exact c_widen (by simp only [rmX10_setting, rmX11_setting, rmk, room_1]; omega) (by simp only [rmX10_setting, rmX11_setting, rmk, room_1]; omega) (c_sub [1, 2, 3, 4, 0] rfl hJ)
  · refine q_iconst hC dL_law_453 rfl ?_
    exact q_zret hC dL_law_454 (by simp only [rmX10_setting, rmX11_setting, rmk, room_1]; omega) (by simp only [rmX10_setting, rmX11_setting, rmk, room_1]; omega)
def cl7 (L : Nat) (xs : Nat → Int32) (J : LT) (x1 x2 x3 : Nat) (x4 : Int32) : Sem :=
    ob 10 x1 (cI SX10_levelError [.ref x1] fun v1 =>
    ob 11 x2 (cI SX11_levelError [.ref x2] fun v2 =>
    br (v1 = v2)
    (J x1 x2 x3 (x4 + 6))
    (rZ 0)))
theorem pcl7 {Γ : CT} (hC : Ctx Γ "SpiritWallLaw" cL_law 9 (some .boolean) room_1) (hnt : NT Γ) (hN : NcA (kS Γ)) {L : Nat} {xs : Nat → Int32} (hX : Scr Γ L xs) (J : LT) {cn sn x1 x2 x3 : Nat} {x4 : Int32} (h1 : cn + 100 ≤ 601024) (h2 : sn + 1000 ≤ 7293034)
    (hJ : Cor Γ 9 (cn + 100) (sn + 1000) 23 [(0, .ref 1900), (1, .ref x1), (2, .ref x2), (3, .ref x3), (4, .int (x4 + 6))] [] (J x1 x2 x3 (x4 + 6))) : Cor Γ 9 cn sn 455 [(0, .ref 1900), (1, .ref x1), (2, .ref x2), (3, .ref x3), (4, .int x4)] [] (cl7 L xs J x1 x2 x3 x4) := by
  unfold cl7
  refine q_aload_n hC 1 dL_law_455 rfl rfl ?_
  refine q_cVI hC hnt (stk := []) (as := []) sX10_levelError (ci := 10) (by decide) rfl nX10_levelError (roomOk_of (by simp only [rmX10_levelError, rmX11_levelError, rmk, room_1]; omega)) w_1466 w_777 w_778 w_27 w_776 (Nat.le_of_ble_eq_true rfl) dL_law_456 rfl (fun v1 => ?_)
  refine q_aload_n hC 2 dL_law_459 rfl rfl ?_
  refine q_cVI hC hnt (stk := [.int v1]) (as := []) sX11_levelError (ci := 11) (by decide) rfl nX11_levelError (roomOk_of (by simp only [rmX10_levelError, rmX11_levelError, rmk, room_1]; omega)) w_1467 w_1469 w_1470 w_830 w_1468 (Nat.le_of_ble_eq_true rfl) dL_law_460 rfl (fun v2 => ?_)
  refine q_ic_eq hC 2592 dL_law_463 rfl ?_ ?_
  · refine q_iincA hC (loc' := [(4, .int (x4 + 6)), (0, .ref 1900), (1, .ref x1), (2, .ref x2), (3, .ref x3)]) 4 6 dL_law_2592 rfl rfl (Nat.le_of_ble_eq_true rfl) rfl ?_
    refine q_goto hC 23 dL_law_2595 rfl ?_
    exact c_widen (by simp only [rmX10_levelError, rmX11_levelError, rmk, room_1]; omega) (by simp only [rmX10_levelError, rmX11_levelError, rmk, room_1]; omega) (c_sub [1, 2, 3, 4, 0] rfl hJ)
  · refine q_iconst hC dL_law_466 rfl ?_
    exact q_zret hC dL_law_467 (by simp only [rmX10_levelError, rmX11_levelError, rmk, room_1]; omega) (by simp only [rmX10_levelError, rmX11_levelError, rmk, room_1]; omega)
def cl8 (L : Nat) (xs : Nat → Int32) (J : LT) (x1 x2 x3 : Nat) (x4 : Int32) : Sem :=
    sld L xs (x4 + 1) fun v1 =>
    sld L xs (x4 + 2) fun v2 =>
    cI SL_estimate [.ref x1, .int v1, .int v2, .ref x3] fun v3 =>
    sld L xs (x4 + 1) fun v4 =>
    sld L xs (x4 + 2) fun v5 =>
    ob 11 x2 (cI SX11_estimate [.ref x2, .int v4, .int v5] fun v6 =>
    ob 11 x2 (cI SX11_thrown [.ref x2] fun v7 =>
    br (v7 = v3)
    (br (v3 = 0)
    (aJ x3 0 fun v8 =>
    br ((lg_cmp v8 (v6.toInt64)) = 0)
    (J x1 x2 x3 (x4 + 6))
    (rZ 0))
    (J x1 x2 x3 (x4 + 6)))
    (rZ 0)))
theorem pcl8 {Γ : CT} (hC : Ctx Γ "SpiritWallLaw" cL_law 9 (some .boolean) room_1) (hnt : NT Γ) (hN : NcA (kS Γ)) {L : Nat} {xs : Nat → Int32} (hX : Scr Γ L xs) (J : LT) {cn sn x1 x2 x3 : Nat} {x4 : Int32} (h1 : cn + 100 ≤ 601024) (h2 : sn + 1000 ≤ 7293034)
    (hJ : Cor Γ 9 (cn + 100) (sn + 1000) 23 [(0, .ref 1900), (1, .ref x1), (2, .ref x2), (3, .ref x3), (4, .int (x4 + 6))] [] (J x1 x2 x3 (x4 + 6))) : Cor Γ 9 cn sn 468 [(0, .ref 1900), (1, .ref x1), (2, .ref x2), (3, .ref x3), (4, .int x4)] [] (cl8 L xs J x1 x2 x3 x4) := by
  unfold cl8
  refine q_aload_n hC 1 dL_law_468 rfl rfl ?_
  refine q_aload_n hC 0 dL_law_469 rfl rfl ?_
  refine q_iload hC 4 dL_law_470 rfl ?_
  refine q_iconst hC dL_law_472 rfl ?_
  refine q_iadd hC dL_law_473 ?_
  refine q_sld hC hX dL_law_474 (fun v1 => ?_)
  refine q_aload_n hC 0 dL_law_475 rfl rfl ?_
  refine q_iload hC 4 dL_law_476 rfl ?_
  refine q_iconst hC dL_law_478 rfl ?_
  refine q_iadd hC dL_law_479 ?_
  refine q_sld hC hX dL_law_480 (fun v2 => ?_)
  refine q_aload_n hC 3 dL_law_481 rfl rfl ?_
  refine q_cSXI hC hnt hN (stk := []) (as := [.ref x1, .int v1, .int v2, .ref x3]) sL_estimate nL_estimate (roomOk_of (by simp only [rmL_estimate, rmX11_estimate, rmX11_thrown, rmk, room_1]; omega)) w_1479 w_1480 w_1481 w_1482 (Nat.le_of_ble_eq_true rfl) dL_law_482 rfl (fun v3 => ?_)
  refine q_istoreA hC (loc' := [(5, .int v3), (0, .ref 1900), (1, .ref x1), (2, .ref x2), (3, .ref x3), (4, .int x4)]) dL_law_485 (Nat.le_of_ble_eq_true rfl) rfl ?_
  refine q_aload_n hC 3 dL_law_487 rfl rfl ?_
  refine q_aload_n hC 1 dL_law_488 rfl rfl ?_
  refine q_iload hC 5 dL_law_489 rfl ?_
  refine q_iconst hC dL_law_491 rfl ?_
  refine q_iadd hC dL_law_492 ?_
  refine q_sld hC hX dL_law_493 (fun v4 => ?_)
  refine q_aload_n hC 1 dL_law_494 rfl rfl ?_
  refine q_iload hC 5 dL_law_495 rfl ?_
  refine q_iconst hC dL_law_497 rfl ?_
  refine q_iadd hC dL_law_498 ?_
  refine q_sld hC hX dL_law_499 (fun v5 => ?_)
  refine q_cVI hC hnt (stk := []) (as := [.int v4, .int v5]) sX11_estimate (ci := 11) (by decide) rfl nX11_estimate (roomOk_of (by simp only [rmL_estimate, rmX11_estimate, rmX11_thrown, rmk, room_1]; omega)) w_1471 w_1473 w_1474 w_830 w_1472 (Nat.le_of_ble_eq_true rfl) dL_law_500 rfl (fun v6 => ?_)
  refine q_istoreA hC (loc' := [(6, .int v6), (5, .int v3), (0, .ref 1900), (1, .ref x1), (2, .ref x2), (3, .ref x3), (4, .int x4)]) dL_law_503 (Nat.le_of_ble_eq_true rfl) rfl ?_
  refine q_aload_n hC 4 dL_law_505 rfl rfl ?_
  refine q_cVI hC hnt (stk := []) (as := []) sX11_thrown (ci := 11) (by decide) rfl nX11_thrown (roomOk_of (by simp only [rmL_estimate, rmX11_estimate, rmX11_thrown, rmk, room_1]; omega)) w_1475 w_1477 w_1478 w_830 w_1476 (Nat.le_of_ble_eq_true rfl) dL_law_506 rfl (fun v7 => ?_)
  refine q_iload hC 1 dL_law_509 rfl ?_
  refine q_ic_eq hC 516 dL_law_511 rfl ?_ ?_
  · refine q_iload hC 1 dL_law_516 rfl ?_
    refine q_if_ne hC 533 dL_law_518 rfl ?_ ?_
    · refine q_goto hC 2592 dL_law_533 rfl ?_
      refine q_iincA hC (loc' := [(4, .int (x4 + 6)), (6, .int v6), (5, .int v3), (0, .ref 1900), (1, .ref x1), (2, .ref x2), (3, .ref x3)]) 6 6 dL_law_2592 rfl rfl (Nat.le_of_ble_eq_true rfl) rfl ?_
      refine q_goto hC 23 dL_law_2595 rfl ?_
      exact c_widen (by simp only [rmL_estimate, rmX11_estimate, rmX11_thrown, rmk, room_1]; omega) (by simp only [rmL_estimate, rmX11_estimate, rmX11_thrown, rmk, room_1]; omega) (c_sub [3, 4, 5, 6, 0] rfl hJ)
    · refine q_aload_n hC 5 dL_law_521 rfl rfl ?_
      refine q_iconst hC dL_law_522 rfl ?_
      refine q_lald hC dL_law_523 (fun v8 => ?_)
      refine q_iload hC 0 dL_law_524 rfl ?_
      refine q_i2l hC dL_law_526 ?_
      refine q_lcmp hC dL_law_527 ?_
      refine q_if_eq hC 533 dL_law_528 rfl ?_ ?_
      · refine q_goto hC 2592 dL_law_533 rfl ?_
        refine q_iincA hC (loc' := [(4, .int (x4 + 6)), (6, .int v6), (5, .int v3), (0, .ref 1900), (1, .ref x1), (2, .ref x2), (3, .ref x3)]) 6 6 dL_law_2592 rfl rfl (Nat.le_of_ble_eq_true rfl) rfl ?_
        refine q_goto hC 23 dL_law_2595 rfl ?_
        exact c_widen (by simp only [rmL_estimate, rmX11_estimate, rmX11_thrown, rmk, room_1]; omega) (by simp only [rmL_estimate, rmX11_estimate, rmX11_thrown, rmk, room_1]; omega) (c_sub [3, 4, 5, 6, 0] rfl hJ)
      · refine q_iconst hC dL_law_531 rfl ?_
        exact q_zret hC dL_law_532 (by simp only [rmL_estimate, rmX11_estimate, rmX11_thrown, rmk, room_1]; omega) (by simp only [rmL_estimate, rmX11_estimate, rmX11_thrown, rmk, room_1]; omega)
  · refine q_iconst hC dL_law_514 rfl ?_
    exact q_zret hC dL_law_515 (by simp only [rmL_estimate, rmX11_estimate, rmX11_thrown, rmk, room_1]; omega) (by simp only [rmL_estimate, rmX11_estimate, rmX11_thrown, rmk, room_1]; omega)
def cl9 (L : Nat) (xs : Nat → Int32) (J : LT) (x1 x2 x3 : Nat) (x4 : Int32) : Sem :=
    ob 10 x1 (cI SX10_find [.ref x1] fun v1 =>
    ob 11 x2 (cI SX11_find [.ref x2] fun v2 =>
    br (v1 = v2)
    (J x1 x2 x3 (x4 + 6))
    (rZ 0)))
theorem pcl9 {Γ : CT} (hC : Ctx Γ "SpiritWallLaw" cL_law 9 (some .boolean) room_1) (hnt : NT Γ) (hN : NcA (kS Γ)) {L : Nat} {xs : Nat → Int32} (hX : Scr Γ L xs) (J : LT) {cn sn x1 x2 x3 : Nat} {x4 : Int32} (h1 : cn + 100 ≤ 601024) (h2 : sn + 1000 ≤ 7293034)
    (hJ : Cor Γ 9 (cn + 100) (sn + 1000) 23 [(0, .ref 1900), (1, .ref x1), (2, .ref x2), (3, .ref x3), (4, .int (x4 + 6))] [] (J x1 x2 x3 (x4 + 6))) : Cor Γ 9 cn sn 536 [(0, .ref 1900), (1, .ref x1), (2, .ref x2), (3, .ref x3), (4, .int x4)] [] (cl9 L xs J x1 x2 x3 x4) := by
  unfold cl9
  refine q_aload_n hC 1 dL_law_536 rfl rfl ?_
  refine q_cVI hC hnt (stk := []) (as := []) sX10_find (ci := 10) (by decide) rfl nX10_find (roomOk_of (by simp only [rmX10_find, rmX11_find, rmk, room_1]; omega)) w_1483 w_1485 w_1486 w_27 w_1484 (Nat.le_of_ble_eq_true rfl) dL_law_537 rfl (fun v1 => ?_)
  refine q_aload_n hC 2 dL_law_540 rfl rfl ?_
  refine q_cVI hC hnt (stk := [.int v1]) (as := []) sX11_find (ci := 11) (by decide) rfl nX11_find (roomOk_of (by simp only [rmX10_find, rmX11_find, rmk, room_1]; omega)) w_1487 w_1489 w_1490 w_830 w_1488 (Nat.le_of_ble_eq_true rfl) dL_law_541 rfl (fun v2 => ?_)
  refine q_ic_eq hC 2592 dL_law_544 rfl ?_ ?_
  · refine q_iincA hC (loc' := [(4, .int (x4 + 6)), (0, .ref 1900), (1, .ref x1), (2, .ref x2), (3, .ref x3)]) 4 6 dL_law_2592 rfl rfl (Nat.le_of_ble_eq_true rfl) rfl ?_
    refine q_goto hC 23 dL_law_2595 rfl ?_
    exact c_widen (by simp only [rmX10_find, rmX11_find, rmk, room_1]; omega) (by simp only [rmX10_find, rmX11_find, rmk, room_1]; omega) (c_sub [1, 2, 3, 4, 0] rfl hJ)
  · refine q_iconst hC dL_law_547 rfl ?_
    exact q_zret hC dL_law_548 (by simp only [rmX10_find, rmX11_find, rmk, room_1]; omega) (by simp only [rmX10_find, rmX11_find, rmk, room_1]; omega)
def cl10 (L : Nat) (xs : Nat → Int32) (J : LT) (x1 x2 x3 : Nat) (x4 : Int32) : Sem :=
    sld L xs (x4 + 1) fun v1 =>
    sld L xs (x4 + 2) fun v2 =>
    cI SL_mark [.ref x1, .int v1, .int v2, .ref x3] fun v3 =>
    sld L xs (x4 + 1) fun v4 =>
    sld L xs (x4 + 2) fun v5 =>
    ob 11 x2 (cI SX11_mark [.ref x2, .int v4, .int v5] fun v6 =>
    ob 11 x2 (cI SX11_thrown [.ref x2] fun v7 =>
    br (v7 = v3)
    (br (v3 = 0)
    (aJ x3 0 fun v8 =>
    br ((lg_cmp v8 (v6.toInt64)) = 0)
    (J x1 x2 x3 (x4 + 6))
    (rZ 0))
    (J x1 x2 x3 (x4 + 6)))
    (rZ 0)))
theorem pcl10 {Γ : CT} (hC : Ctx Γ "SpiritWallLaw" cL_law 9 (some .boolean) room_1) (hnt : NT Γ) (hN : NcA (kS Γ)) {L : Nat} {xs : Nat → Int32} (hX : Scr Γ L xs) (J : LT) {cn sn x1 x2 x3 : Nat} {x4 : Int32} (h1 : cn + 100 ≤ 601024) (h2 : sn + 1000 ≤ 7293034)
    (hJ : Cor Γ 9 (cn + 100) (sn + 1000) 23 [(0, .ref 1900), (1, .ref x1), (2, .ref x2), (3, .ref x3), (4, .int (x4 + 6))] [] (J x1 x2 x3 (x4 + 6))) : Cor Γ 9 cn sn 549 [(0, .ref 1900), (1, .ref x1), (2, .ref x2), (3, .ref x3), (4, .int x4)] [] (cl10 L xs J x1 x2 x3 x4) := by
  unfold cl10
  refine q_aload_n hC 1 dL_law_549 rfl rfl ?_
  refine q_aload_n hC 0 dL_law_550 rfl rfl ?_
  refine q_iload hC 4 dL_law_551 rfl ?_
  refine q_iconst hC dL_law_553 rfl ?_
  refine q_iadd hC dL_law_554 ?_
  refine q_sld hC hX dL_law_555 (fun v1 => ?_)
  refine q_aload_n hC 0 dL_law_556 rfl rfl ?_
  refine q_iload hC 4 dL_law_557 rfl ?_
  refine q_iconst hC dL_law_559 rfl ?_
  refine q_iadd hC dL_law_560 ?_
  refine q_sld hC hX dL_law_561 (fun v2 => ?_)
  refine q_aload_n hC 3 dL_law_562 rfl rfl ?_
  refine q_cSXI hC hnt hN (stk := []) (as := [.ref x1, .int v1, .int v2, .ref x3]) sL_mark nL_mark (roomOk_of (by simp only [rmL_mark, rmX11_mark, rmX11_thrown, rmk, room_1]; omega)) w_1495 w_1496 w_1481 w_1497 (Nat.le_of_ble_eq_true rfl) dL_law_563 rfl (fun v3 => ?_)
  refine q_istoreA hC (loc' := [(5, .int v3), (0, .ref 1900), (1, .ref x1), (2, .ref x2), (3, .ref x3), (4, .int x4)]) dL_law_566 (Nat.le_of_ble_eq_true rfl) rfl ?_
  refine q_aload_n hC 3 dL_law_568 rfl rfl ?_
  refine q_aload_n hC 1 dL_law_569 rfl rfl ?_
  refine q_iload hC 5 dL_law_570 rfl ?_
  refine q_iconst hC dL_law_572 rfl ?_
  refine q_iadd hC dL_law_573 ?_
  refine q_sld hC hX dL_law_574 (fun v4 => ?_)
  refine q_aload_n hC 1 dL_law_575 rfl rfl ?_
  refine q_iload hC 5 dL_law_576 rfl ?_
  refine q_iconst hC dL_law_578 rfl ?_
  refine q_iadd hC dL_law_579 ?_
  refine q_sld hC hX dL_law_580 (fun v5 => ?_)
  refine q_cVI hC hnt (stk := []) (as := [.int v4, .int v5]) sX11_mark (ci := 11) (by decide) rfl nX11_mark (roomOk_of (by simp only [rmL_mark, rmX11_mark, rmX11_thrown, rmk, room_1]; omega)) w_1491 w_1493 w_1494 w_830 w_1492 (Nat.le_of_ble_eq_true rfl) dL_law_581 rfl (fun v6 => ?_)
  refine q_istoreA hC (loc' := [(6, .int v6), (5, .int v3), (0, .ref 1900), (1, .ref x1), (2, .ref x2), (3, .ref x3), (4, .int x4)]) dL_law_584 (Nat.le_of_ble_eq_true rfl) rfl ?_
  refine q_aload_n hC 4 dL_law_586 rfl rfl ?_
  refine q_cVI hC hnt (stk := []) (as := []) sX11_thrown (ci := 11) (by decide) rfl nX11_thrown (roomOk_of (by simp only [rmL_mark, rmX11_mark, rmX11_thrown, rmk, room_1]; omega)) w_1475 w_1477 w_1478 w_830 w_1476 (Nat.le_of_ble_eq_true rfl) dL_law_587 rfl (fun v7 => ?_)
  refine q_iload hC 1 dL_law_590 rfl ?_
  refine q_ic_eq hC 597 dL_law_592 rfl ?_ ?_
  · refine q_iload hC 1 dL_law_597 rfl ?_
    refine q_if_ne hC 614 dL_law_599 rfl ?_ ?_
    · refine q_goto hC 2592 dL_law_614 rfl ?_
      refine q_iincA hC (loc' := [(4, .int (x4 + 6)), (6, .int v6), (5, .int v3), (0, .ref 1900), (1, .ref x1), (2, .ref x2), (3, .ref x3)]) 6 6 dL_law_2592 rfl rfl (Nat.le_of_ble_eq_true rfl) rfl ?_
      refine q_goto hC 23 dL_law_2595 rfl ?_
      exact c_widen (by simp only [rmL_mark, rmX11_mark, rmX11_thrown, rmk, room_1]; omega) (by simp only [rmL_mark, rmX11_mark, rmX11_thrown, rmk, room_1]; omega) (c_sub [3, 4, 5, 6, 0] rfl hJ)
    · refine q_aload_n hC 5 dL_law_602 rfl rfl ?_
      refine q_iconst hC dL_law_603 rfl ?_
      refine q_lald hC dL_law_604 (fun v8 => ?_)
      refine q_iload hC 0 dL_law_605 rfl ?_
      refine q_i2l hC dL_law_607 ?_
      refine q_lcmp hC dL_law_608 ?_
      refine q_if_eq hC 614 dL_law_609 rfl ?_ ?_
      · refine q_goto hC 2592 dL_law_614 rfl ?_
        refine q_iincA hC (loc' := [(4, .int (x4 + 6)), (6, .int v6), (5, .int v3), (0, .ref 1900), (1, .ref x1), (2, .ref x2), (3, .ref x3)]) 6 6 dL_law_2592 rfl rfl (Nat.le_of_ble_eq_true rfl) rfl ?_
        refine q_goto hC 23 dL_law_2595 rfl ?_
        exact c_widen (by simp only [rmL_mark, rmX11_mark, rmX11_thrown, rmk, room_1]; omega) (by simp only [rmL_mark, rmX11_mark, rmX11_thrown, rmk, room_1]; omega) (c_sub [3, 4, 5, 6, 0] rfl hJ)
      · refine q_iconst hC dL_law_612 rfl ?_
        exact q_zret hC dL_law_613 (by simp only [rmL_mark, rmX11_mark, rmX11_thrown, rmk, room_1]; omega) (by simp only [rmL_mark, rmX11_mark, rmX11_thrown, rmk, room_1]; omega)
  · refine q_iconst hC dL_law_595 rfl ?_
    exact q_zret hC dL_law_596 (by simp only [rmL_mark, rmX11_mark, rmX11_thrown, rmk, room_1]; omega) (by simp only [rmL_mark, rmX11_mark, rmX11_thrown, rmk, room_1]; omega)
def cl11 (L : Nat) (xs : Nat → Int32) (J : LT) (x1 x2 x3 : Nat) (x4 : Int32) : Sem :=
    sld L xs (x4 + 1) fun v1 =>
    cI SL_height [.ref x1, .int v1, .ref x3] fun v2 =>
    sld L xs (x4 + 1) fun v3 =>
    ob 11 x2 (cI SX11_height [.ref x2, .int v3] fun v4 =>
    ob 11 x2 (cI SX11_thrown [.ref x2] fun v5 =>
    br (v5 = v2)
    (br (v2 = 0)
    (aJ x3 0 fun v6 =>
    br ((lg_cmp v6 (v4.toInt64)) = 0)
    (J x1 x2 x3 (x4 + 6))
    (rZ 0))
    (J x1 x2 x3 (x4 + 6)))
    (rZ 0)))
theorem pcl11 {Γ : CT} (hC : Ctx Γ "SpiritWallLaw" cL_law 9 (some .boolean) room_1) (hnt : NT Γ) (hN : NcA (kS Γ)) {L : Nat} {xs : Nat → Int32} (hX : Scr Γ L xs) (J : LT) {cn sn x1 x2 x3 : Nat} {x4 : Int32} (h1 : cn + 100 ≤ 601024) (h2 : sn + 1000 ≤ 7293034)
    (hJ : Cor Γ 9 (cn + 100) (sn + 1000) 23 [(0, .ref 1900), (1, .ref x1), (2, .ref x2), (3, .ref x3), (4, .int (x4 + 6))] [] (J x1 x2 x3 (x4 + 6))) : Cor Γ 9 cn sn 617 [(0, .ref 1900), (1, .ref x1), (2, .ref x2), (3, .ref x3), (4, .int x4)] [] (cl11 L xs J x1 x2 x3 x4) := by
  unfold cl11
  refine q_aload_n hC 1 dL_law_617 rfl rfl ?_
  refine q_aload_n hC 0 dL_law_618 rfl rfl ?_
  refine q_iload hC 4 dL_law_619 rfl ?_
  refine q_iconst hC dL_law_621 rfl ?_
  refine q_iadd hC dL_law_622 ?_
  refine q_sld hC hX dL_law_623 (fun v1 => ?_)
  refine q_aload_n hC 3 dL_law_624 rfl rfl ?_
  refine q_cSXI hC hnt hN (stk := []) (as := [.ref x1, .int v1, .ref x3]) sL_height nL_height (roomOk_of (by simp only [rmL_height, rmX11_height, rmX11_thrown, rmk, room_1]; omega)) w_1502 w_1503 w_1481 w_1504 (Nat.le_of_ble_eq_true rfl) dL_law_625 rfl (fun v2 => ?_)
  refine q_istoreA hC (loc' := [(5, .int v2), (0, .ref 1900), (1, .ref x1), (2, .ref x2), (3, .ref x3), (4, .int x4)]) dL_law_628 (Nat.le_of_ble_eq_true rfl) rfl ?_
  refine q_aload_n hC 3 dL_law_630 rfl rfl ?_
  refine q_aload_n hC 1 dL_law_631 rfl rfl ?_
  refine q_iload hC 5 dL_law_632 rfl ?_
  refine q_iconst hC dL_law_634 rfl ?_
  refine q_iadd hC dL_law_635 ?_
  refine q_sld hC hX dL_law_636 (fun v3 => ?_)
  refine q_cVI hC hnt (stk := []) (as := [.int v3]) sX11_height (ci := 11) (by decide) rfl nX11_height (roomOk_of (by simp only [rmL_height, rmX11_height, rmX11_thrown, rmk, room_1]; omega)) w_1498 w_1500 w_1501 w_830 w_1499 (Nat.le_of_ble_eq_true rfl) dL_law_637 rfl (fun v4 => ?_)
  refine q_istoreA hC (loc' := [(6, .int v4), (5, .int v2), (0, .ref 1900), (1, .ref x1), (2, .ref x2), (3, .ref x3), (4, .int x4)]) dL_law_640 (Nat.le_of_ble_eq_true rfl) rfl ?_
  refine q_aload_n hC 4 dL_law_642 rfl rfl ?_
  refine q_cVI hC hnt (stk := []) (as := []) sX11_thrown (ci := 11) (by decide) rfl nX11_thrown (roomOk_of (by simp only [rmL_height, rmX11_height, rmX11_thrown, rmk, room_1]; omega)) w_1475 w_1477 w_1478 w_830 w_1476 (Nat.le_of_ble_eq_true rfl) dL_law_643 rfl (fun v5 => ?_)
  refine q_iload hC 1 dL_law_646 rfl ?_
  refine q_ic_eq hC 653 dL_law_648 rfl ?_ ?_
  · refine q_iload hC 1 dL_law_653 rfl ?_
    refine q_if_ne hC 670 dL_law_655 rfl ?_ ?_
    · refine q_goto hC 2592 dL_law_670 rfl ?_
      refine q_iincA hC (loc' := [(4, .int (x4 + 6)), (6, .int v4), (5, .int v2), (0, .ref 1900), (1, .ref x1), (2, .ref x2), (3, .ref x3)]) 6 6 dL_law_2592 rfl rfl (Nat.le_of_ble_eq_true rfl) rfl ?_
      refine q_goto hC 23 dL_law_2595 rfl ?_
      exact c_widen (by simp only [rmL_height, rmX11_height, rmX11_thrown, rmk, room_1]; omega) (by simp only [rmL_height, rmX11_height, rmX11_thrown, rmk, room_1]; omega) (c_sub [3, 4, 5, 6, 0] rfl hJ)
    · refine q_aload_n hC 5 dL_law_658 rfl rfl ?_
      refine q_iconst hC dL_law_659 rfl ?_
      refine q_lald hC dL_law_660 (fun v6 => ?_)
      refine q_iload hC 0 dL_law_661 rfl ?_
      refine q_i2l hC dL_law_663 ?_
      refine q_lcmp hC dL_law_664 ?_
      refine q_if_eq hC 670 dL_law_665 rfl ?_ ?_
      · refine q_goto hC 2592 dL_law_670 rfl ?_
        refine q_iincA hC (loc' := [(4, .int (x4 + 6)), (6, .int v4), (5, .int v2), (0, .ref 1900), (1, .ref x1), (2, .ref x2), (3, .ref x3)]) 6 6 dL_law_2592 rfl rfl (Nat.le_of_ble_eq_true rfl) rfl ?_
        refine q_goto hC 23 dL_law_2595 rfl ?_
        exact c_widen (by simp only [rmL_height, rmX11_height, rmX11_thrown, rmk, room_1]; omega) (by simp only [rmL_height, rmX11_height, rmX11_thrown, rmk, room_1]; omega) (c_sub [3, 4, 5, 6, 0] rfl hJ)
      · refine q_iconst hC dL_law_668 rfl ?_
        exact q_zret hC dL_law_669 (by simp only [rmL_height, rmX11_height, rmX11_thrown, rmk, room_1]; omega) (by simp only [rmL_height, rmX11_height, rmX11_thrown, rmk, room_1]; omega)
  · refine q_iconst hC dL_law_651 rfl ?_
    exact q_zret hC dL_law_652 (by simp only [rmL_height, rmX11_height, rmX11_thrown, rmk, room_1]; omega) (by simp only [rmL_height, rmX11_height, rmX11_thrown, rmk, room_1]; omega)
def cl12 (L : Nat) (xs : Nat → Int32) (J : LT) (x1 x2 x3 : Nat) (x4 : Int32) : Sem :=
    sld L xs (x4 + 1) fun v1 =>
    cI SL_whyNone [.ref x1, .int v1, .ref x3] fun v2 =>
    sld L xs (x4 + 1) fun v3 =>
    ob 11 x2 (cI SX11_whyNone [.ref x2, .int v3] fun v4 =>
    ob 11 x2 (cI SX11_thrown [.ref x2] fun v5 =>
    br (v5 = v2)
    (br (v2 = 0)
    (aJ x3 0 fun v6 =>
    br ((lg_cmp v6 (v4.toInt64)) = 0)
    (J x1 x2 x3 (x4 + 6))
    (rZ 0))
    (J x1 x2 x3 (x4 + 6)))
    (rZ 0)))
theorem pcl12 {Γ : CT} (hC : Ctx Γ "SpiritWallLaw" cL_law 9 (some .boolean) room_1) (hnt : NT Γ) (hN : NcA (kS Γ)) {L : Nat} {xs : Nat → Int32} (hX : Scr Γ L xs) (J : LT) {cn sn x1 x2 x3 : Nat} {x4 : Int32} (h1 : cn + 100 ≤ 601024) (h2 : sn + 1000 ≤ 7293034)
    (hJ : Cor Γ 9 (cn + 100) (sn + 1000) 23 [(0, .ref 1900), (1, .ref x1), (2, .ref x2), (3, .ref x3), (4, .int (x4 + 6))] [] (J x1 x2 x3 (x4 + 6))) : Cor Γ 9 cn sn 673 [(0, .ref 1900), (1, .ref x1), (2, .ref x2), (3, .ref x3), (4, .int x4)] [] (cl12 L xs J x1 x2 x3 x4) := by
  unfold cl12
  refine q_aload_n hC 1 dL_law_673 rfl rfl ?_
  refine q_aload_n hC 0 dL_law_674 rfl rfl ?_
  refine q_iload hC 4 dL_law_675 rfl ?_
  refine q_iconst hC dL_law_677 rfl ?_
  refine q_iadd hC dL_law_678 ?_
  refine q_sld hC hX dL_law_679 (fun v1 => ?_)
  refine q_aload_n hC 3 dL_law_680 rfl rfl ?_
  refine q_cSXI hC hnt hN (stk := []) (as := [.ref x1, .int v1, .ref x3]) sL_whyNone nL_whyNone (roomOk_of (by simp only [rmL_whyNone, rmX11_thrown, rmX11_whyNone, rmk, room_1]; omega)) w_1509 w_1510 w_1481 w_1511 (Nat.le_of_ble_eq_true rfl) dL_law_681 rfl (fun v2 => ?_)
  refine q_istoreA hC (loc' := [(5, .int v2), (0, .ref 1900), (1, .ref x1), (2, .ref x2), (3, .ref x3), (4, .int x4)]) dL_law_684 (Nat.le_of_ble_eq_true rfl) rfl ?_
  refine q_aload_n hC 3 dL_law_686 rfl rfl ?_
  refine q_aload_n hC 1 dL_law_687 rfl rfl ?_
  refine q_iload hC 5 dL_law_688 rfl ?_
  refine q_iconst hC dL_law_690 rfl ?_
  refine q_iadd hC dL_law_691 ?_
  refine q_sld hC hX dL_law_692 (fun v3 => ?_)
  refine q_cVI hC hnt (stk := []) (as := [.int v3]) sX11_whyNone (ci := 11) (by decide) rfl nX11_whyNone (roomOk_of (by simp only [rmL_whyNone, rmX11_thrown, rmX11_whyNone, rmk, room_1]; omega)) w_1505 w_1507 w_1508 w_830 w_1506 (Nat.le_of_ble_eq_true rfl) dL_law_693 rfl (fun v4 => ?_)
  refine q_istoreA hC (loc' := [(6, .int v4), (5, .int v2), (0, .ref 1900), (1, .ref x1), (2, .ref x2), (3, .ref x3), (4, .int x4)]) dL_law_696 (Nat.le_of_ble_eq_true rfl) rfl ?_
  refine q_aload_n hC 4 dL_law_698 rfl rfl ?_
  refine q_cVI hC hnt (stk := []) (as := []) sX11_thrown (ci := 11) (by decide) rfl nX11_thrown (roomOk_of (by simp only [rmL_whyNone, rmX11_thrown, rmX11_whyNone, rmk, room_1]; omega)) w_1475 w_1477 w_1478 w_830 w_1476 (Nat.le_of_ble_eq_true rfl) dL_law_699 rfl (fun v5 => ?_)
  refine q_iload hC 1 dL_law_702 rfl ?_
  refine q_ic_eq hC 709 dL_law_704 rfl ?_ ?_
  · refine q_iload hC 1 dL_law_709 rfl ?_
    refine q_if_ne hC 726 dL_law_711 rfl ?_ ?_
    · refine q_goto hC 2592 dL_law_726 rfl ?_
      refine q_iincA hC (loc' := [(4, .int (x4 + 6)), (6, .int v4), (5, .int v2), (0, .ref 1900), (1, .ref x1), (2, .ref x2), (3, .ref x3)]) 6 6 dL_law_2592 rfl rfl (Nat.le_of_ble_eq_true rfl) rfl ?_
      refine q_goto hC 23 dL_law_2595 rfl ?_
      exact c_widen (by simp only [rmL_whyNone, rmX11_thrown, rmX11_whyNone, rmk, room_1]; omega) (by simp only [rmL_whyNone, rmX11_thrown, rmX11_whyNone, rmk, room_1]; omega) (c_sub [3, 4, 5, 6, 0] rfl hJ)
    · refine q_aload_n hC 5 dL_law_714 rfl rfl ?_
      refine q_iconst hC dL_law_715 rfl ?_
      refine q_lald hC dL_law_716 (fun v6 => ?_)
      refine q_iload hC 0 dL_law_717 rfl ?_
      refine q_i2l hC dL_law_719 ?_
      refine q_lcmp hC dL_law_720 ?_
      refine q_if_eq hC 726 dL_law_721 rfl ?_ ?_
      · refine q_goto hC 2592 dL_law_726 rfl ?_
        refine q_iincA hC (loc' := [(4, .int (x4 + 6)), (6, .int v4), (5, .int v2), (0, .ref 1900), (1, .ref x1), (2, .ref x2), (3, .ref x3)]) 6 6 dL_law_2592 rfl rfl (Nat.le_of_ble_eq_true rfl) rfl ?_
        refine q_goto hC 23 dL_law_2595 rfl ?_
        exact c_widen (by simp only [rmL_whyNone, rmX11_thrown, rmX11_whyNone, rmk, room_1]; omega) (by simp only [rmL_whyNone, rmX11_thrown, rmX11_whyNone, rmk, room_1]; omega) (c_sub [3, 4, 5, 6, 0] rfl hJ)
      · refine q_iconst hC dL_law_724 rfl ?_
        exact q_zret hC dL_law_725 (by simp only [rmL_whyNone, rmX11_thrown, rmX11_whyNone, rmk, room_1]; omega) (by simp only [rmL_whyNone, rmX11_thrown, rmX11_whyNone, rmk, room_1]; omega)
  · refine q_iconst hC dL_law_707 rfl ?_
    exact q_zret hC dL_law_708 (by simp only [rmL_whyNone, rmX11_thrown, rmX11_whyNone, rmk, room_1]; omega) (by simp only [rmL_whyNone, rmX11_thrown, rmX11_whyNone, rmk, room_1]; omega)
def cl13 (L : Nat) (xs : Nat → Int32) (J : LT) (x1 x2 x3 : Nat) (x4 : Int32) : Sem :=
    sld L xs (x4 + 1) fun v1 =>
    sld L xs (x4 + 2) fun v2 =>
    cI SL_sight [.ref x1, .int v1, .int v2, .ref x3] fun v3 =>
    sld L xs (x4 + 1) fun v4 =>
    sld L xs (x4 + 2) fun v5 =>
    ob 11 x2 (cI SX11_sight [.ref x2, .int v4, .int v5] fun v6 =>
    ob 11 x2 (cI SX11_thrown [.ref x2] fun v7 =>
    br (v7 = v3)
    (br (v3 = 0)
    (aJ x3 0 fun v8 =>
    br ((lg_cmp v8 (v6.toInt64)) = 0)
    (J x1 x2 x3 (x4 + 6))
    (rZ 0))
    (J x1 x2 x3 (x4 + 6)))
    (rZ 0)))
theorem pcl13 {Γ : CT} (hC : Ctx Γ "SpiritWallLaw" cL_law 9 (some .boolean) room_1) (hnt : NT Γ) (hN : NcA (kS Γ)) {L : Nat} {xs : Nat → Int32} (hX : Scr Γ L xs) (J : LT) {cn sn x1 x2 x3 : Nat} {x4 : Int32} (h1 : cn + 100 ≤ 601024) (h2 : sn + 1000 ≤ 7293034)
    (hJ : Cor Γ 9 (cn + 100) (sn + 1000) 23 [(0, .ref 1900), (1, .ref x1), (2, .ref x2), (3, .ref x3), (4, .int (x4 + 6))] [] (J x1 x2 x3 (x4 + 6))) : Cor Γ 9 cn sn 729 [(0, .ref 1900), (1, .ref x1), (2, .ref x2), (3, .ref x3), (4, .int x4)] [] (cl13 L xs J x1 x2 x3 x4) := by
  unfold cl13
  refine q_aload_n hC 1 dL_law_729 rfl rfl ?_
  refine q_aload_n hC 0 dL_law_730 rfl rfl ?_
  refine q_iload hC 4 dL_law_731 rfl ?_
  refine q_iconst hC dL_law_733 rfl ?_
  refine q_iadd hC dL_law_734 ?_
  refine q_sld hC hX dL_law_735 (fun v1 => ?_)
  refine q_aload_n hC 0 dL_law_736 rfl rfl ?_
  refine q_iload hC 4 dL_law_737 rfl ?_
  refine q_iconst hC dL_law_739 rfl ?_
  refine q_iadd hC dL_law_740 ?_
  refine q_sld hC hX dL_law_741 (fun v2 => ?_)
  refine q_aload_n hC 3 dL_law_742 rfl rfl ?_
  refine q_cSXI hC hnt hN (stk := []) (as := [.ref x1, .int v1, .int v2, .ref x3]) sL_sight nL_sight (roomOk_of (by simp only [rmL_sight, rmX11_sight, rmX11_thrown, rmk, room_1]; omega)) w_1516 w_1517 w_1481 w_1518 (Nat.le_of_ble_eq_true rfl) dL_law_743 rfl (fun v3 => ?_)
  refine q_istoreA hC (loc' := [(5, .int v3), (0, .ref 1900), (1, .ref x1), (2, .ref x2), (3, .ref x3), (4, .int x4)]) dL_law_746 (Nat.le_of_ble_eq_true rfl) rfl ?_
  refine q_aload_n hC 3 dL_law_748 rfl rfl ?_
  refine q_aload_n hC 1 dL_law_749 rfl rfl ?_
  refine q_iload hC 5 dL_law_750 rfl ?_
  refine q_iconst hC dL_law_752 rfl ?_
  refine q_iadd hC dL_law_753 ?_
  refine q_sld hC hX dL_law_754 (fun v4 => ?_)
  refine q_aload_n hC 1 dL_law_755 rfl rfl ?_
  refine q_iload hC 5 dL_law_756 rfl ?_
  refine q_iconst hC dL_law_758 rfl ?_
  refine q_iadd hC dL_law_759 ?_
  refine q_sld hC hX dL_law_760 (fun v5 => ?_)
  refine q_cVI hC hnt (stk := []) (as := [.int v4, .int v5]) sX11_sight (ci := 11) (by decide) rfl nX11_sight (roomOk_of (by simp only [rmL_sight, rmX11_sight, rmX11_thrown, rmk, room_1]; omega)) w_1512 w_1514 w_1515 w_830 w_1513 (Nat.le_of_ble_eq_true rfl) dL_law_761 rfl (fun v6 => ?_)
  refine q_istoreA hC (loc' := [(6, .int v6), (5, .int v3), (0, .ref 1900), (1, .ref x1), (2, .ref x2), (3, .ref x3), (4, .int x4)]) dL_law_764 (Nat.le_of_ble_eq_true rfl) rfl ?_
  refine q_aload_n hC 4 dL_law_766 rfl rfl ?_
  refine q_cVI hC hnt (stk := []) (as := []) sX11_thrown (ci := 11) (by decide) rfl nX11_thrown (roomOk_of (by simp only [rmL_sight, rmX11_sight, rmX11_thrown, rmk, room_1]; omega)) w_1475 w_1477 w_1478 w_830 w_1476 (Nat.le_of_ble_eq_true rfl) dL_law_767 rfl (fun v7 => ?_)
  refine q_iload hC 1 dL_law_770 rfl ?_
  refine q_ic_eq hC 777 dL_law_772 rfl ?_ ?_
  · refine q_iload hC 1 dL_law_777 rfl ?_
    refine q_if_ne hC 794 dL_law_779 rfl ?_ ?_
    · refine q_goto hC 2592 dL_law_794 rfl ?_
      refine q_iincA hC (loc' := [(4, .int (x4 + 6)), (6, .int v6), (5, .int v3), (0, .ref 1900), (1, .ref x1), (2, .ref x2), (3, .ref x3)]) 6 6 dL_law_2592 rfl rfl (Nat.le_of_ble_eq_true rfl) rfl ?_
      refine q_goto hC 23 dL_law_2595 rfl ?_
      exact c_widen (by simp only [rmL_sight, rmX11_sight, rmX11_thrown, rmk, room_1]; omega) (by simp only [rmL_sight, rmX11_sight, rmX11_thrown, rmk, room_1]; omega) (c_sub [3, 4, 5, 6, 0] rfl hJ)
    · refine q_aload_n hC 5 dL_law_782 rfl rfl ?_
      refine q_iconst hC dL_law_783 rfl ?_
      refine q_lald hC dL_law_784 (fun v8 => ?_)
      refine q_iload hC 0 dL_law_785 rfl ?_
      refine q_i2l hC dL_law_787 ?_
      refine q_lcmp hC dL_law_788 ?_
      refine q_if_eq hC 794 dL_law_789 rfl ?_ ?_
      · refine q_goto hC 2592 dL_law_794 rfl ?_
        refine q_iincA hC (loc' := [(4, .int (x4 + 6)), (6, .int v6), (5, .int v3), (0, .ref 1900), (1, .ref x1), (2, .ref x2), (3, .ref x3)]) 6 6 dL_law_2592 rfl rfl (Nat.le_of_ble_eq_true rfl) rfl ?_
        refine q_goto hC 23 dL_law_2595 rfl ?_
        exact c_widen (by simp only [rmL_sight, rmX11_sight, rmX11_thrown, rmk, room_1]; omega) (by simp only [rmL_sight, rmX11_sight, rmX11_thrown, rmk, room_1]; omega) (c_sub [3, 4, 5, 6, 0] rfl hJ)
      · refine q_iconst hC dL_law_792 rfl ?_
        exact q_zret hC dL_law_793 (by simp only [rmL_sight, rmX11_sight, rmX11_thrown, rmk, room_1]; omega) (by simp only [rmL_sight, rmX11_sight, rmX11_thrown, rmk, room_1]; omega)
  · refine q_iconst hC dL_law_775 rfl ?_
    exact q_zret hC dL_law_776 (by simp only [rmL_sight, rmX11_sight, rmX11_thrown, rmk, room_1]; omega) (by simp only [rmL_sight, rmX11_sight, rmX11_thrown, rmk, room_1]; omega)
def cl14 (L : Nat) (xs : Nat → Int32) (J : LT) (x1 x2 x3 : Nat) (x4 : Int32) : Sem :=
    sld L xs (x4 + 1) fun v1 =>
    sld L xs (x4 + 2) fun v2 =>
    cI SL_rise [.ref x1, .int v1, .int v2, .ref x3] fun v3 =>
    sld L xs (x4 + 1) fun v4 =>
    sld L xs (x4 + 2) fun v5 =>
    ob 11 x2 (cI SX11_rise [.ref x2, .int v4, .int v5] fun v6 =>
    ob 11 x2 (cI SX11_thrown [.ref x2] fun v7 =>
    br (v7 = v3)
    (br (v3 = 0)
    (aJ x3 0 fun v8 =>
    br ((lg_cmp v8 (v6.toInt64)) = 0)
    (J x1 x2 x3 (x4 + 6))
    (rZ 0))
    (J x1 x2 x3 (x4 + 6)))
    (rZ 0)))
theorem pcl14 {Γ : CT} (hC : Ctx Γ "SpiritWallLaw" cL_law 9 (some .boolean) room_1) (hnt : NT Γ) (hN : NcA (kS Γ)) {L : Nat} {xs : Nat → Int32} (hX : Scr Γ L xs) (J : LT) {cn sn x1 x2 x3 : Nat} {x4 : Int32} (h1 : cn + 100 ≤ 601024) (h2 : sn + 1000 ≤ 7293034)
    (hJ : Cor Γ 9 (cn + 100) (sn + 1000) 23 [(0, .ref 1900), (1, .ref x1), (2, .ref x2), (3, .ref x3), (4, .int (x4 + 6))] [] (J x1 x2 x3 (x4 + 6))) : Cor Γ 9 cn sn 797 [(0, .ref 1900), (1, .ref x1), (2, .ref x2), (3, .ref x3), (4, .int x4)] [] (cl14 L xs J x1 x2 x3 x4) := by
  unfold cl14
  refine q_aload_n hC 1 dL_law_797 rfl rfl ?_
  refine q_aload_n hC 0 dL_law_798 rfl rfl ?_
  refine q_iload hC 4 dL_law_799 rfl ?_
  refine q_iconst hC dL_law_801 rfl ?_
  refine q_iadd hC dL_law_802 ?_
  refine q_sld hC hX dL_law_803 (fun v1 => ?_)
  refine q_aload_n hC 0 dL_law_804 rfl rfl ?_
  refine q_iload hC 4 dL_law_805 rfl ?_
  refine q_iconst hC dL_law_807 rfl ?_
  refine q_iadd hC dL_law_808 ?_
  refine q_sld hC hX dL_law_809 (fun v2 => ?_)
  refine q_aload_n hC 3 dL_law_810 rfl rfl ?_
  refine q_cSXI hC hnt hN (stk := []) (as := [.ref x1, .int v1, .int v2, .ref x3]) sL_rise nL_rise (roomOk_of (by simp only [rmL_rise, rmX11_rise, rmX11_thrown, rmk, room_1]; omega)) w_1523 w_1524 w_1481 w_1525 (Nat.le_of_ble_eq_true rfl) dL_law_811 rfl (fun v3 => ?_)
  refine q_istoreA hC (loc' := [(5, .int v3), (0, .ref 1900), (1, .ref x1), (2, .ref x2), (3, .ref x3), (4, .int x4)]) dL_law_814 (Nat.le_of_ble_eq_true rfl) rfl ?_
  refine q_aload_n hC 3 dL_law_816 rfl rfl ?_
  refine q_aload_n hC 1 dL_law_817 rfl rfl ?_
  refine q_iload hC 5 dL_law_818 rfl ?_
  refine q_iconst hC dL_law_820 rfl ?_
  refine q_iadd hC dL_law_821 ?_
  refine q_sld hC hX dL_law_822 (fun v4 => ?_)
  refine q_aload_n hC 1 dL_law_823 rfl rfl ?_
  refine q_iload hC 5 dL_law_824 rfl ?_
  refine q_iconst hC dL_law_826 rfl ?_
  refine q_iadd hC dL_law_827 ?_
  refine q_sld hC hX dL_law_828 (fun v5 => ?_)
  refine q_cVI hC hnt (stk := []) (as := [.int v4, .int v5]) sX11_rise (ci := 11) (by decide) rfl nX11_rise (roomOk_of (by simp only [rmL_rise, rmX11_rise, rmX11_thrown, rmk, room_1]; omega)) w_1519 w_1521 w_1522 w_830 w_1520 (Nat.le_of_ble_eq_true rfl) dL_law_829 rfl (fun v6 => ?_)
  refine q_istoreA hC (loc' := [(6, .int v6), (5, .int v3), (0, .ref 1900), (1, .ref x1), (2, .ref x2), (3, .ref x3), (4, .int x4)]) dL_law_832 (Nat.le_of_ble_eq_true rfl) rfl ?_
  refine q_aload_n hC 4 dL_law_834 rfl rfl ?_
  refine q_cVI hC hnt (stk := []) (as := []) sX11_thrown (ci := 11) (by decide) rfl nX11_thrown (roomOk_of (by simp only [rmL_rise, rmX11_rise, rmX11_thrown, rmk, room_1]; omega)) w_1475 w_1477 w_1478 w_830 w_1476 (Nat.le_of_ble_eq_true rfl) dL_law_835 rfl (fun v7 => ?_)
  refine q_iload hC 1 dL_law_838 rfl ?_
  refine q_ic_eq hC 845 dL_law_840 rfl ?_ ?_
  · refine q_iload hC 1 dL_law_845 rfl ?_
    refine q_if_ne hC 862 dL_law_847 rfl ?_ ?_
    · refine q_goto hC 2592 dL_law_862 rfl ?_
      refine q_iincA hC (loc' := [(4, .int (x4 + 6)), (6, .int v6), (5, .int v3), (0, .ref 1900), (1, .ref x1), (2, .ref x2), (3, .ref x3)]) 6 6 dL_law_2592 rfl rfl (Nat.le_of_ble_eq_true rfl) rfl ?_
      refine q_goto hC 23 dL_law_2595 rfl ?_
      exact c_widen (by simp only [rmL_rise, rmX11_rise, rmX11_thrown, rmk, room_1]; omega) (by simp only [rmL_rise, rmX11_rise, rmX11_thrown, rmk, room_1]; omega) (c_sub [3, 4, 5, 6, 0] rfl hJ)
    · refine q_aload_n hC 5 dL_law_850 rfl rfl ?_
      refine q_iconst hC dL_law_851 rfl ?_
      refine q_lald hC dL_law_852 (fun v8 => ?_)
      refine q_iload hC 0 dL_law_853 rfl ?_
      refine q_i2l hC dL_law_855 ?_
      refine q_lcmp hC dL_law_856 ?_
      refine q_if_eq hC 862 dL_law_857 rfl ?_ ?_
      · refine q_goto hC 2592 dL_law_862 rfl ?_
        refine q_iincA hC (loc' := [(4, .int (x4 + 6)), (6, .int v6), (5, .int v3), (0, .ref 1900), (1, .ref x1), (2, .ref x2), (3, .ref x3)]) 6 6 dL_law_2592 rfl rfl (Nat.le_of_ble_eq_true rfl) rfl ?_
        refine q_goto hC 23 dL_law_2595 rfl ?_
        exact c_widen (by simp only [rmL_rise, rmX11_rise, rmX11_thrown, rmk, room_1]; omega) (by simp only [rmL_rise, rmX11_rise, rmX11_thrown, rmk, room_1]; omega) (c_sub [3, 4, 5, 6, 0] rfl hJ)
      · refine q_iconst hC dL_law_860 rfl ?_
        exact q_zret hC dL_law_861 (by simp only [rmL_rise, rmX11_rise, rmX11_thrown, rmk, room_1]; omega) (by simp only [rmL_rise, rmX11_rise, rmX11_thrown, rmk, room_1]; omega)
  · refine q_iconst hC dL_law_843 rfl ?_
    exact q_zret hC dL_law_844 (by simp only [rmL_rise, rmX11_rise, rmX11_thrown, rmk, room_1]; omega) (by simp only [rmL_rise, rmX11_rise, rmX11_thrown, rmk, room_1]; omega)
def cl15 (L : Nat) (xs : Nat → Int32) (J : LT) (x1 x2 x3 : Nat) (x4 : Int32) : Sem :=
    sld L xs (x4 + 1) fun v1 =>
    sld L xs (x4 + 2) fun v2 =>
    sld L xs (x4 + 3) fun v3 =>
    cI SL_edge [.ref x1, .int v1, .int v2, .int v3, .ref x3] fun v4 =>
    sld L xs (x4 + 1) fun v5 =>
    sld L xs (x4 + 2) fun v6 =>
    sld L xs (x4 + 3) fun v7 =>
    ob 11 x2 (cI SX11_edge [.ref x2, .int v5, .int v6, .int v7] fun v8 =>
    ob 11 x2 (cI SX11_thrown [.ref x2] fun v9 =>
    br (v9 = v4)
    (br (v4 = 0)
    (aJ x3 0 fun v10 =>
    br ((lg_cmp v10 (v8.toInt64)) = 0)
    (J x1 x2 x3 (x4 + 6))
    (rZ 0))
    (J x1 x2 x3 (x4 + 6)))
    (rZ 0)))
theorem pcl15 {Γ : CT} (hC : Ctx Γ "SpiritWallLaw" cL_law 9 (some .boolean) room_1) (hnt : NT Γ) (hN : NcA (kS Γ)) {L : Nat} {xs : Nat → Int32} (hX : Scr Γ L xs) (J : LT) {cn sn x1 x2 x3 : Nat} {x4 : Int32} (h1 : cn + 100 ≤ 601024) (h2 : sn + 1000 ≤ 7293034)
    (hJ : Cor Γ 9 (cn + 100) (sn + 1000) 23 [(0, .ref 1900), (1, .ref x1), (2, .ref x2), (3, .ref x3), (4, .int (x4 + 6))] [] (J x1 x2 x3 (x4 + 6))) : Cor Γ 9 cn sn 865 [(0, .ref 1900), (1, .ref x1), (2, .ref x2), (3, .ref x3), (4, .int x4)] [] (cl15 L xs J x1 x2 x3 x4) := by
  unfold cl15
  refine q_aload_n hC 1 dL_law_865 rfl rfl ?_
  refine q_aload_n hC 0 dL_law_866 rfl rfl ?_
  refine q_iload hC 4 dL_law_867 rfl ?_
  refine q_iconst hC dL_law_869 rfl ?_
  refine q_iadd hC dL_law_870 ?_
  refine q_sld hC hX dL_law_871 (fun v1 => ?_)
  refine q_aload_n hC 0 dL_law_872 rfl rfl ?_
  refine q_iload hC 4 dL_law_873 rfl ?_
  refine q_iconst hC dL_law_875 rfl ?_
  refine q_iadd hC dL_law_876 ?_
  refine q_sld hC hX dL_law_877 (fun v2 => ?_)
  refine q_aload_n hC 0 dL_law_878 rfl rfl ?_
  refine q_iload hC 4 dL_law_879 rfl ?_
  refine q_iconst hC dL_law_881 rfl ?_
  refine q_iadd hC dL_law_882 ?_
  refine q_sld hC hX dL_law_883 (fun v3 => ?_)
  refine q_aload_n hC 3 dL_law_884 rfl rfl ?_
  refine q_cSXI hC hnt hN (stk := []) (as := [.ref x1, .int v1, .int v2, .int v3, .ref x3]) sL_edge nL_edge (roomOk_of (by simp only [rmL_edge, rmX11_edge, rmX11_thrown, rmk, room_1]; omega)) w_1530 w_1531 w_1481 w_1532 (Nat.le_of_ble_eq_true rfl) dL_law_885 rfl (fun v4 => ?_)
  refine q_istoreA hC (loc' := [(5, .int v4), (0, .ref 1900), (1, .ref x1), (2, .ref x2), (3, .ref x3), (4, .int x4)]) dL_law_888 (Nat.le_of_ble_eq_true rfl) rfl ?_
  refine q_aload_n hC 3 dL_law_890 rfl rfl ?_
  refine q_aload_n hC 1 dL_law_891 rfl rfl ?_
  refine q_iload hC 5 dL_law_892 rfl ?_
  refine q_iconst hC dL_law_894 rfl ?_
  refine q_iadd hC dL_law_895 ?_
  refine q_sld hC hX dL_law_896 (fun v5 => ?_)
  refine q_aload_n hC 1 dL_law_897 rfl rfl ?_
  refine q_iload hC 5 dL_law_898 rfl ?_
  refine q_iconst hC dL_law_900 rfl ?_
  refine q_iadd hC dL_law_901 ?_
  refine q_sld hC hX dL_law_902 (fun v6 => ?_)
  refine q_aload_n hC 1 dL_law_903 rfl rfl ?_
  refine q_iload hC 5 dL_law_904 rfl ?_
  refine q_iconst hC dL_law_906 rfl ?_
  refine q_iadd hC dL_law_907 ?_
  refine q_sld hC hX dL_law_908 (fun v7 => ?_)
  refine q_cVI hC hnt (stk := []) (as := [.int v5, .int v6, .int v7]) sX11_edge (ci := 11) (by decide) rfl nX11_edge (roomOk_of (by simp only [rmL_edge, rmX11_edge, rmX11_thrown, rmk, room_1]; omega)) w_1526 w_1528 w_1529 w_830 w_1527 (Nat.le_of_ble_eq_true rfl) dL_law_909 rfl (fun v8 => ?_)
  refine q_istoreA hC (loc' := [(6, .int v8), (5, .int v4), (0, .ref 1900), (1, .ref x1), (2, .ref x2), (3, .ref x3), (4, .int x4)]) dL_law_912 (Nat.le_of_ble_eq_true rfl) rfl ?_
  refine q_aload_n hC 4 dL_law_914 rfl rfl ?_
  refine q_cVI hC hnt (stk := []) (as := []) sX11_thrown (ci := 11) (by decide) rfl nX11_thrown (roomOk_of (by simp only [rmL_edge, rmX11_edge, rmX11_thrown, rmk, room_1]; omega)) w_1475 w_1477 w_1478 w_830 w_1476 (Nat.le_of_ble_eq_true rfl) dL_law_915 rfl (fun v9 => ?_)
  refine q_iload hC 1 dL_law_918 rfl ?_
  refine q_ic_eq hC 925 dL_law_920 rfl ?_ ?_
  · refine q_iload hC 1 dL_law_925 rfl ?_
    refine q_if_ne hC 942 dL_law_927 rfl ?_ ?_
    · refine q_goto hC 2592 dL_law_942 rfl ?_
      refine q_iincA hC (loc' := [(4, .int (x4 + 6)), (6, .int v8), (5, .int v4), (0, .ref 1900), (1, .ref x1), (2, .ref x2), (3, .ref x3)]) 6 6 dL_law_2592 rfl rfl (Nat.le_of_ble_eq_true rfl) rfl ?_
      refine q_goto hC 23 dL_law_2595 rfl ?_
      exact c_widen (by simp only [rmL_edge, rmX11_edge, rmX11_thrown, rmk, room_1]; omega) (by simp only [rmL_edge, rmX11_edge, rmX11_thrown, rmk, room_1]; omega) (c_sub [3, 4, 5, 6, 0] rfl hJ)
    · refine q_aload_n hC 5 dL_law_930 rfl rfl ?_
      refine q_iconst hC dL_law_931 rfl ?_
      refine q_lald hC dL_law_932 (fun v10 => ?_)
      refine q_iload hC 0 dL_law_933 rfl ?_
      refine q_i2l hC dL_law_935 ?_
      refine q_lcmp hC dL_law_936 ?_
      refine q_if_eq hC 942 dL_law_937 rfl ?_ ?_
      · refine q_goto hC 2592 dL_law_942 rfl ?_
        refine q_iincA hC (loc' := [(4, .int (x4 + 6)), (6, .int v8), (5, .int v4), (0, .ref 1900), (1, .ref x1), (2, .ref x2), (3, .ref x3)]) 6 6 dL_law_2592 rfl rfl (Nat.le_of_ble_eq_true rfl) rfl ?_
        refine q_goto hC 23 dL_law_2595 rfl ?_
        exact c_widen (by simp only [rmL_edge, rmX11_edge, rmX11_thrown, rmk, room_1]; omega) (by simp only [rmL_edge, rmX11_edge, rmX11_thrown, rmk, room_1]; omega) (c_sub [3, 4, 5, 6, 0] rfl hJ)
      · refine q_iconst hC dL_law_940 rfl ?_
        exact q_zret hC dL_law_941 (by simp only [rmL_edge, rmX11_edge, rmX11_thrown, rmk, room_1]; omega) (by simp only [rmL_edge, rmX11_edge, rmX11_thrown, rmk, room_1]; omega)
  · refine q_iconst hC dL_law_923 rfl ?_
    exact q_zret hC dL_law_924 (by simp only [rmL_edge, rmX11_edge, rmX11_thrown, rmk, room_1]; omega) (by simp only [rmL_edge, rmX11_edge, rmX11_thrown, rmk, room_1]; omega)
def cl16 (L : Nat) (xs : Nat → Int32) (J : LT) (x1 x2 x3 : Nat) (x4 : Int32) : Sem :=
    sld L xs (x4 + 1) fun v1 =>
    sld L xs (x4 + 2) fun v2 =>
    cI SL_along [.ref x1, .int v1, .int v2, .ref x3] fun v3 =>
    sld L xs (x4 + 1) fun v4 =>
    sld L xs (x4 + 2) fun v5 =>
    ob 11 x2 (cI SX11_along [.ref x2, .int v4, .int v5] fun v6 =>
    ob 11 x2 (cI SX11_thrown [.ref x2] fun v7 =>
    br (v7 = v3)
    (br (v3 = 0)
    (aJ x3 0 fun v8 =>
    br ((lg_cmp v8 (v6.toInt64)) = 0)
    (J x1 x2 x3 (x4 + 6))
    (rZ 0))
    (J x1 x2 x3 (x4 + 6)))
    (rZ 0)))
theorem pcl16 {Γ : CT} (hC : Ctx Γ "SpiritWallLaw" cL_law 9 (some .boolean) room_1) (hnt : NT Γ) (hN : NcA (kS Γ)) {L : Nat} {xs : Nat → Int32} (hX : Scr Γ L xs) (J : LT) {cn sn x1 x2 x3 : Nat} {x4 : Int32} (h1 : cn + 100 ≤ 601024) (h2 : sn + 1000 ≤ 7293034)
    (hJ : Cor Γ 9 (cn + 100) (sn + 1000) 23 [(0, .ref 1900), (1, .ref x1), (2, .ref x2), (3, .ref x3), (4, .int (x4 + 6))] [] (J x1 x2 x3 (x4 + 6))) : Cor Γ 9 cn sn 945 [(0, .ref 1900), (1, .ref x1), (2, .ref x2), (3, .ref x3), (4, .int x4)] [] (cl16 L xs J x1 x2 x3 x4) := by
  unfold cl16
  refine q_aload_n hC 1 dL_law_945 rfl rfl ?_
  refine q_aload_n hC 0 dL_law_946 rfl rfl ?_
  refine q_iload hC 4 dL_law_947 rfl ?_
  refine q_iconst hC dL_law_949 rfl ?_
  refine q_iadd hC dL_law_950 ?_
  refine q_sld hC hX dL_law_951 (fun v1 => ?_)
  refine q_aload_n hC 0 dL_law_952 rfl rfl ?_
  refine q_iload hC 4 dL_law_953 rfl ?_
  refine q_iconst hC dL_law_955 rfl ?_
  refine q_iadd hC dL_law_956 ?_
  refine q_sld hC hX dL_law_957 (fun v2 => ?_)
  refine q_aload_n hC 3 dL_law_958 rfl rfl ?_
  refine q_cSXI hC hnt hN (stk := []) (as := [.ref x1, .int v1, .int v2, .ref x3]) sL_along nL_along (roomOk_of (by simp only [rmL_along, rmX11_along, rmX11_thrown, rmk, room_1]; omega)) w_1537 w_1538 w_1481 w_1539 (Nat.le_of_ble_eq_true rfl) dL_law_959 rfl (fun v3 => ?_)
  refine q_istoreA hC (loc' := [(5, .int v3), (0, .ref 1900), (1, .ref x1), (2, .ref x2), (3, .ref x3), (4, .int x4)]) dL_law_962 (Nat.le_of_ble_eq_true rfl) rfl ?_
  refine q_aload_n hC 3 dL_law_964 rfl rfl ?_
  refine q_aload_n hC 1 dL_law_965 rfl rfl ?_
  refine q_iload hC 5 dL_law_966 rfl ?_
  refine q_iconst hC dL_law_968 rfl ?_
  refine q_iadd hC dL_law_969 ?_
  refine q_sld hC hX dL_law_970 (fun v4 => ?_)
  refine q_aload_n hC 1 dL_law_971 rfl rfl ?_
  refine q_iload hC 5 dL_law_972 rfl ?_
  refine q_iconst hC dL_law_974 rfl ?_
  refine q_iadd hC dL_law_975 ?_
  refine q_sld hC hX dL_law_976 (fun v5 => ?_)
  refine q_cVI hC hnt (stk := []) (as := [.int v4, .int v5]) sX11_along (ci := 11) (by decide) rfl nX11_along (roomOk_of (by simp only [rmL_along, rmX11_along, rmX11_thrown, rmk, room_1]; omega)) w_1533 w_1535 w_1536 w_830 w_1534 (Nat.le_of_ble_eq_true rfl) dL_law_977 rfl (fun v6 => ?_)
  refine q_istoreA hC (loc' := [(6, .int v6), (5, .int v3), (0, .ref 1900), (1, .ref x1), (2, .ref x2), (3, .ref x3), (4, .int x4)]) dL_law_980 (Nat.le_of_ble_eq_true rfl) rfl ?_
  refine q_aload_n hC 4 dL_law_982 rfl rfl ?_
  refine q_cVI hC hnt (stk := []) (as := []) sX11_thrown (ci := 11) (by decide) rfl nX11_thrown (roomOk_of (by simp only [rmL_along, rmX11_along, rmX11_thrown, rmk, room_1]; omega)) w_1475 w_1477 w_1478 w_830 w_1476 (Nat.le_of_ble_eq_true rfl) dL_law_983 rfl (fun v7 => ?_)
  refine q_iload hC 1 dL_law_986 rfl ?_
  refine q_ic_eq hC 993 dL_law_988 rfl ?_ ?_
  · refine q_iload hC 1 dL_law_993 rfl ?_
    refine q_if_ne hC 1010 dL_law_995 rfl ?_ ?_
    · refine q_goto hC 2592 dL_law_1010 rfl ?_
      refine q_iincA hC (loc' := [(4, .int (x4 + 6)), (6, .int v6), (5, .int v3), (0, .ref 1900), (1, .ref x1), (2, .ref x2), (3, .ref x3)]) 6 6 dL_law_2592 rfl rfl (Nat.le_of_ble_eq_true rfl) rfl ?_
      refine q_goto hC 23 dL_law_2595 rfl ?_
      exact c_widen (by simp only [rmL_along, rmX11_along, rmX11_thrown, rmk, room_1]; omega) (by simp only [rmL_along, rmX11_along, rmX11_thrown, rmk, room_1]; omega) (c_sub [3, 4, 5, 6, 0] rfl hJ)
    · refine q_aload_n hC 5 dL_law_998 rfl rfl ?_
      refine q_iconst hC dL_law_999 rfl ?_
      refine q_lald hC dL_law_1000 (fun v8 => ?_)
      refine q_iload hC 0 dL_law_1001 rfl ?_
      refine q_i2l hC dL_law_1003 ?_
      refine q_lcmp hC dL_law_1004 ?_
      refine q_if_eq hC 1010 dL_law_1005 rfl ?_ ?_
      · refine q_goto hC 2592 dL_law_1010 rfl ?_
        refine q_iincA hC (loc' := [(4, .int (x4 + 6)), (6, .int v6), (5, .int v3), (0, .ref 1900), (1, .ref x1), (2, .ref x2), (3, .ref x3)]) 6 6 dL_law_2592 rfl rfl (Nat.le_of_ble_eq_true rfl) rfl ?_
        refine q_goto hC 23 dL_law_2595 rfl ?_
        exact c_widen (by simp only [rmL_along, rmX11_along, rmX11_thrown, rmk, room_1]; omega) (by simp only [rmL_along, rmX11_along, rmX11_thrown, rmk, room_1]; omega) (c_sub [3, 4, 5, 6, 0] rfl hJ)
      · refine q_iconst hC dL_law_1008 rfl ?_
        exact q_zret hC dL_law_1009 (by simp only [rmL_along, rmX11_along, rmX11_thrown, rmk, room_1]; omega) (by simp only [rmL_along, rmX11_along, rmX11_thrown, rmk, room_1]; omega)
  · refine q_iconst hC dL_law_991 rfl ?_
    exact q_zret hC dL_law_992 (by simp only [rmL_along, rmX11_along, rmX11_thrown, rmk, room_1]; omega) (by simp only [rmL_along, rmX11_along, rmX11_thrown, rmk, room_1]; omega)
def cl17 (L : Nat) (xs : Nat → Int32) (J : LT) (x1 x2 x3 : Nat) (x4 : Int32) : Sem :=
    sld L xs (x4 + 1) fun v1 =>
    sld L xs (x4 + 2) fun v2 =>
    cI SL_loop [.ref x1, .int v1, .int v2, .ref x3] fun v3 =>
    sld L xs (x4 + 1) fun v4 =>
    sld L xs (x4 + 2) fun v5 =>
    ob 11 x2 (cI SX11_loop [.ref x2, .int v4, .int v5] fun v6 =>
    ob 11 x2 (cI SX11_thrown [.ref x2] fun v7 =>
    br (v7 = v3)
    (br (v3 = 0)
    (aJ x3 0 fun v8 =>
    br ((lg_cmp v8 (v6.toInt64)) = 0)
    (J x1 x2 x3 (x4 + 6))
    (rZ 0))
    (J x1 x2 x3 (x4 + 6)))
    (rZ 0)))
theorem pcl17 {Γ : CT} (hC : Ctx Γ "SpiritWallLaw" cL_law 9 (some .boolean) room_1) (hnt : NT Γ) (hN : NcA (kS Γ)) {L : Nat} {xs : Nat → Int32} (hX : Scr Γ L xs) (J : LT) {cn sn x1 x2 x3 : Nat} {x4 : Int32} (h1 : cn + 100 ≤ 601024) (h2 : sn + 1000 ≤ 7293034)
    (hJ : Cor Γ 9 (cn + 100) (sn + 1000) 23 [(0, .ref 1900), (1, .ref x1), (2, .ref x2), (3, .ref x3), (4, .int (x4 + 6))] [] (J x1 x2 x3 (x4 + 6))) : Cor Γ 9 cn sn 1013 [(0, .ref 1900), (1, .ref x1), (2, .ref x2), (3, .ref x3), (4, .int x4)] [] (cl17 L xs J x1 x2 x3 x4) := by
  unfold cl17
  refine q_aload_n hC 1 dL_law_1013 rfl rfl ?_
  refine q_aload_n hC 0 dL_law_1014 rfl rfl ?_
  refine q_iload hC 4 dL_law_1015 rfl ?_
  refine q_iconst hC dL_law_1017 rfl ?_
  refine q_iadd hC dL_law_1018 ?_
  refine q_sld hC hX dL_law_1019 (fun v1 => ?_)
  refine q_aload_n hC 0 dL_law_1020 rfl rfl ?_
  refine q_iload hC 4 dL_law_1021 rfl ?_
  refine q_iconst hC dL_law_1023 rfl ?_
  refine q_iadd hC dL_law_1024 ?_
  refine q_sld hC hX dL_law_1025 (fun v2 => ?_)
  refine q_aload_n hC 3 dL_law_1026 rfl rfl ?_
  refine q_cSXI hC hnt hN (stk := []) (as := [.ref x1, .int v1, .int v2, .ref x3]) sL_loop nL_loop (roomOk_of (by simp only [rmL_loop, rmX11_loop, rmX11_thrown, rmk, room_1]; omega)) w_1544 w_1545 w_1481 w_1546 (Nat.le_of_ble_eq_true rfl) dL_law_1027 rfl (fun v3 => ?_)
  refine q_istoreA hC (loc' := [(5, .int v3), (0, .ref 1900), (1, .ref x1), (2, .ref x2), (3, .ref x3), (4, .int x4)]) dL_law_1030 (Nat.le_of_ble_eq_true rfl) rfl ?_
  refine q_aload_n hC 3 dL_law_1032 rfl rfl ?_
  refine q_aload_n hC 1 dL_law_1033 rfl rfl ?_
  refine q_iload hC 5 dL_law_1034 rfl ?_
  refine q_iconst hC dL_law_1036 rfl ?_
  refine q_iadd hC dL_law_1037 ?_
  refine q_sld hC hX dL_law_1038 (fun v4 => ?_)
  refine q_aload_n hC 1 dL_law_1039 rfl rfl ?_
  refine q_iload hC 5 dL_law_1040 rfl ?_
  refine q_iconst hC dL_law_1042 rfl ?_
  refine q_iadd hC dL_law_1043 ?_
  refine q_sld hC hX dL_law_1044 (fun v5 => ?_)
  refine q_cVI hC hnt (stk := []) (as := [.int v4, .int v5]) sX11_loop (ci := 11) (by decide) rfl nX11_loop (roomOk_of (by simp only [rmL_loop, rmX11_loop, rmX11_thrown, rmk, room_1]; omega)) w_1540 w_1542 w_1543 w_830 w_1541 (Nat.le_of_ble_eq_true rfl) dL_law_1045 rfl (fun v6 => ?_)
  refine q_istoreA hC (loc' := [(6, .int v6), (5, .int v3), (0, .ref 1900), (1, .ref x1), (2, .ref x2), (3, .ref x3), (4, .int x4)]) dL_law_1048 (Nat.le_of_ble_eq_true rfl) rfl ?_
  refine q_aload_n hC 4 dL_law_1050 rfl rfl ?_
  refine q_cVI hC hnt (stk := []) (as := []) sX11_thrown (ci := 11) (by decide) rfl nX11_thrown (roomOk_of (by simp only [rmL_loop, rmX11_loop, rmX11_thrown, rmk, room_1]; omega)) w_1475 w_1477 w_1478 w_830 w_1476 (Nat.le_of_ble_eq_true rfl) dL_law_1051 rfl (fun v7 => ?_)
  refine q_iload hC 1 dL_law_1054 rfl ?_
  refine q_ic_eq hC 1061 dL_law_1056 rfl ?_ ?_
  · refine q_iload hC 1 dL_law_1061 rfl ?_
    refine q_if_ne hC 1078 dL_law_1063 rfl ?_ ?_
    · refine q_goto hC 2592 dL_law_1078 rfl ?_
      refine q_iincA hC (loc' := [(4, .int (x4 + 6)), (6, .int v6), (5, .int v3), (0, .ref 1900), (1, .ref x1), (2, .ref x2), (3, .ref x3)]) 6 6 dL_law_2592 rfl rfl (Nat.le_of_ble_eq_true rfl) rfl ?_
      refine q_goto hC 23 dL_law_2595 rfl ?_
      exact c_widen (by simp only [rmL_loop, rmX11_loop, rmX11_thrown, rmk, room_1]; omega) (by simp only [rmL_loop, rmX11_loop, rmX11_thrown, rmk, room_1]; omega) (c_sub [3, 4, 5, 6, 0] rfl hJ)
    · refine q_aload_n hC 5 dL_law_1066 rfl rfl ?_
      refine q_iconst hC dL_law_1067 rfl ?_
      refine q_lald hC dL_law_1068 (fun v8 => ?_)
      refine q_iload hC 0 dL_law_1069 rfl ?_
      refine q_i2l hC dL_law_1071 ?_
      refine q_lcmp hC dL_law_1072 ?_
      refine q_if_eq hC 1078 dL_law_1073 rfl ?_ ?_
      · refine q_goto hC 2592 dL_law_1078 rfl ?_
        refine q_iincA hC (loc' := [(4, .int (x4 + 6)), (6, .int v6), (5, .int v3), (0, .ref 1900), (1, .ref x1), (2, .ref x2), (3, .ref x3)]) 6 6 dL_law_2592 rfl rfl (Nat.le_of_ble_eq_true rfl) rfl ?_
        refine q_goto hC 23 dL_law_2595 rfl ?_
        exact c_widen (by simp only [rmL_loop, rmX11_loop, rmX11_thrown, rmk, room_1]; omega) (by simp only [rmL_loop, rmX11_loop, rmX11_thrown, rmk, room_1]; omega) (c_sub [3, 4, 5, 6, 0] rfl hJ)
      · refine q_iconst hC dL_law_1076 rfl ?_
        exact q_zret hC dL_law_1077 (by simp only [rmL_loop, rmX11_loop, rmX11_thrown, rmk, room_1]; omega) (by simp only [rmL_loop, rmX11_loop, rmX11_thrown, rmk, room_1]; omega)
  · refine q_iconst hC dL_law_1059 rfl ?_
    exact q_zret hC dL_law_1060 (by simp only [rmL_loop, rmX11_loop, rmX11_thrown, rmk, room_1]; omega) (by simp only [rmL_loop, rmX11_loop, rmX11_thrown, rmk, room_1]; omega)
def cl18 (L : Nat) (xs : Nat → Int32) (J : LT) (x1 x2 x3 : Nat) (x4 : Int32) : Sem :=
    sld L xs (x4 + 1) fun v1 =>
    sld L xs (x4 + 2) fun v2 =>
    cI SL_loopMark [.ref x1, .int v1, .int v2, .ref x3] fun v3 =>
    sld L xs (x4 + 1) fun v4 =>
    sld L xs (x4 + 2) fun v5 =>
    ob 11 x2 (cI SX11_loopMark [.ref x2, .int v4, .int v5] fun v6 =>
    ob 11 x2 (cI SX11_thrown [.ref x2] fun v7 =>
    br (v7 = v3)
    (br (v3 = 0)
    (aJ x3 0 fun v8 =>
    br ((lg_cmp v8 (v6.toInt64)) = 0)
    (J x1 x2 x3 (x4 + 6))
    (rZ 0))
    (J x1 x2 x3 (x4 + 6)))
    (rZ 0)))
theorem pcl18 {Γ : CT} (hC : Ctx Γ "SpiritWallLaw" cL_law 9 (some .boolean) room_1) (hnt : NT Γ) (hN : NcA (kS Γ)) {L : Nat} {xs : Nat → Int32} (hX : Scr Γ L xs) (J : LT) {cn sn x1 x2 x3 : Nat} {x4 : Int32} (h1 : cn + 100 ≤ 601024) (h2 : sn + 1000 ≤ 7293034)
    (hJ : Cor Γ 9 (cn + 100) (sn + 1000) 23 [(0, .ref 1900), (1, .ref x1), (2, .ref x2), (3, .ref x3), (4, .int (x4 + 6))] [] (J x1 x2 x3 (x4 + 6))) : Cor Γ 9 cn sn 1081 [(0, .ref 1900), (1, .ref x1), (2, .ref x2), (3, .ref x3), (4, .int x4)] [] (cl18 L xs J x1 x2 x3 x4) := by
  unfold cl18
  refine q_aload_n hC 1 dL_law_1081 rfl rfl ?_
  refine q_aload_n hC 0 dL_law_1082 rfl rfl ?_
  refine q_iload hC 4 dL_law_1083 rfl ?_
  refine q_iconst hC dL_law_1085 rfl ?_
  refine q_iadd hC dL_law_1086 ?_
  refine q_sld hC hX dL_law_1087 (fun v1 => ?_)
  refine q_aload_n hC 0 dL_law_1088 rfl rfl ?_
  refine q_iload hC 4 dL_law_1089 rfl ?_
  refine q_iconst hC dL_law_1091 rfl ?_
  refine q_iadd hC dL_law_1092 ?_
  refine q_sld hC hX dL_law_1093 (fun v2 => ?_)
  refine q_aload_n hC 3 dL_law_1094 rfl rfl ?_
  refine q_cSXI hC hnt hN (stk := []) (as := [.ref x1, .int v1, .int v2, .ref x3]) sL_loopMark nL_loopMark (roomOk_of (by simp only [rmL_loopMark, rmX11_loopMark, rmX11_thrown, rmk, room_1]; omega)) w_1551 w_1552 w_1481 w_1553 (Nat.le_of_ble_eq_true rfl) dL_law_1095 rfl (fun v3 => ?_)
  refine q_istoreA hC (loc' := [(5, .int v3), (0, .ref 1900), (1, .ref x1), (2, .ref x2), (3, .ref x3), (4, .int x4)]) dL_law_1098 (Nat.le_of_ble_eq_true rfl) rfl ?_
  refine q_aload_n hC 3 dL_law_1100 rfl rfl ?_
  refine q_aload_n hC 1 dL_law_1101 rfl rfl ?_
  refine q_iload hC 5 dL_law_1102 rfl ?_
  refine q_iconst hC dL_law_1104 rfl ?_
  refine q_iadd hC dL_law_1105 ?_
  refine q_sld hC hX dL_law_1106 (fun v4 => ?_)
  refine q_aload_n hC 1 dL_law_1107 rfl rfl ?_
  refine q_iload hC 5 dL_law_1108 rfl ?_
  refine q_iconst hC dL_law_1110 rfl ?_
  refine q_iadd hC dL_law_1111 ?_
  refine q_sld hC hX dL_law_1112 (fun v5 => ?_)
  refine q_cVI hC hnt (stk := []) (as := [.int v4, .int v5]) sX11_loopMark (ci := 11) (by decide) rfl nX11_loopMark (roomOk_of (by simp only [rmL_loopMark, rmX11_loopMark, rmX11_thrown, rmk, room_1]; omega)) w_1547 w_1549 w_1550 w_830 w_1548 (Nat.le_of_ble_eq_true rfl) dL_law_1113 rfl (fun v6 => ?_)
  refine q_istoreA hC (loc' := [(6, .int v6), (5, .int v3), (0, .ref 1900), (1, .ref x1), (2, .ref x2), (3, .ref x3), (4, .int x4)]) dL_law_1116 (Nat.le_of_ble_eq_true rfl) rfl ?_
  refine q_aload_n hC 4 dL_law_1118 rfl rfl ?_
  refine q_cVI hC hnt (stk := []) (as := []) sX11_thrown (ci := 11) (by decide) rfl nX11_thrown (roomOk_of (by simp only [rmL_loopMark, rmX11_loopMark, rmX11_thrown, rmk, room_1]; omega)) w_1475 w_1477 w_1478 w_830 w_1476 (Nat.le_of_ble_eq_true rfl) dL_law_1119 rfl (fun v7 => ?_)
  refine q_iload hC 1 dL_law_1122 rfl ?_
  refine q_ic_eq hC 1129 dL_law_1124 rfl ?_ ?_
  · refine q_iload hC 1 dL_law_1129 rfl ?_
    refine q_if_ne hC 1146 dL_law_1131 rfl ?_ ?_
    · refine q_goto hC 2592 dL_law_1146 rfl ?_
      refine q_iincA hC (loc' := [(4, .int (x4 + 6)), (6, .int v6), (5, .int v3), (0, .ref 1900), (1, .ref x1), (2, .ref x2), (3, .ref x3)]) 6 6 dL_law_2592 rfl rfl (Nat.le_of_ble_eq_true rfl) rfl ?_
      refine q_goto hC 23 dL_law_2595 rfl ?_
      exact c_widen (by simp only [rmL_loopMark, rmX11_loopMark, rmX11_thrown, rmk, room_1]; omega) (by simp only [rmL_loopMark, rmX11_loopMark, rmX11_thrown, rmk, room_1]; omega) (c_sub [3, 4, 5, 6, 0] rfl hJ)
    · refine q_aload_n hC 5 dL_law_1134 rfl rfl ?_
      refine q_iconst hC dL_law_1135 rfl ?_
      refine q_lald hC dL_law_1136 (fun v8 => ?_)
      refine q_iload hC 0 dL_law_1137 rfl ?_
      refine q_i2l hC dL_law_1139 ?_
      refine q_lcmp hC dL_law_1140 ?_
      refine q_if_eq hC 1146 dL_law_1141 rfl ?_ ?_
      · refine q_goto hC 2592 dL_law_1146 rfl ?_
        refine q_iincA hC (loc' := [(4, .int (x4 + 6)), (6, .int v6), (5, .int v3), (0, .ref 1900), (1, .ref x1), (2, .ref x2), (3, .ref x3)]) 6 6 dL_law_2592 rfl rfl (Nat.le_of_ble_eq_true rfl) rfl ?_
        refine q_goto hC 23 dL_law_2595 rfl ?_
        exact c_widen (by simp only [rmL_loopMark, rmX11_loopMark, rmX11_thrown, rmk, room_1]; omega) (by simp only [rmL_loopMark, rmX11_loopMark, rmX11_thrown, rmk, room_1]; omega) (c_sub [3, 4, 5, 6, 0] rfl hJ)
      · refine q_iconst hC dL_law_1144 rfl ?_
        exact q_zret hC dL_law_1145 (by simp only [rmL_loopMark, rmX11_loopMark, rmX11_thrown, rmk, room_1]; omega) (by simp only [rmL_loopMark, rmX11_loopMark, rmX11_thrown, rmk, room_1]; omega)
  · refine q_iconst hC dL_law_1127 rfl ?_
    exact q_zret hC dL_law_1128 (by simp only [rmL_loopMark, rmX11_loopMark, rmX11_thrown, rmk, room_1]; omega) (by simp only [rmL_loopMark, rmX11_loopMark, rmX11_thrown, rmk, room_1]; omega)
def cl19 (L : Nat) (xs : Nat → Int32) (J : LT) (x1 x2 x3 : Nat) (x4 : Int32) : Sem :=
    ob 10 x1 (cI SX10_worstLoop [.ref x1] fun v1 =>
    ob 11 x2 (cI SX11_worstLoop [.ref x2] fun v2 =>
    br (v1 = v2)
    (J x1 x2 x3 (x4 + 6))
    (rZ 0)))
theorem pcl19 {Γ : CT} (hC : Ctx Γ "SpiritWallLaw" cL_law 9 (some .boolean) room_1) (hnt : NT Γ) (hN : NcA (kS Γ)) {L : Nat} {xs : Nat → Int32} (hX : Scr Γ L xs) (J : LT) {cn sn x1 x2 x3 : Nat} {x4 : Int32} (h1 : cn + 100 ≤ 601024) (h2 : sn + 1000 ≤ 7293034)
    (hJ : Cor Γ 9 (cn + 100) (sn + 1000) 23 [(0, .ref 1900), (1, .ref x1), (2, .ref x2), (3, .ref x3), (4, .int (x4 + 6))] [] (J x1 x2 x3 (x4 + 6))) : Cor Γ 9 cn sn 1149 [(0, .ref 1900), (1, .ref x1), (2, .ref x2), (3, .ref x3), (4, .int x4)] [] (cl19 L xs J x1 x2 x3 x4) := by
  unfold cl19
  refine q_aload_n hC 1 dL_law_1149 rfl rfl ?_
  refine q_cVI hC hnt (stk := []) (as := []) sX10_worstLoop (ci := 10) (by decide) rfl nX10_worstLoop (roomOk_of (by simp only [rmX10_worstLoop, rmX11_worstLoop, rmk, room_1]; omega)) w_1554 w_1556 w_1557 w_27 w_1555 (Nat.le_of_ble_eq_true rfl) dL_law_1150 rfl (fun v1 => ?_)
  refine q_aload_n hC 2 dL_law_1153 rfl rfl ?_
  refine q_cVI hC hnt (stk := [.int v1]) (as := []) sX11_worstLoop (ci := 11) (by decide) rfl nX11_worstLoop (roomOk_of (by simp only [rmX10_worstLoop, rmX11_worstLoop, rmk, room_1]; omega)) w_1558 w_1560 w_1561 w_830 w_1559 (Nat.le_of_ble_eq_true rfl) dL_law_1154 rfl (fun v2 => ?_)
  refine q_ic_eq hC 2592 dL_law_1157 rfl ?_ ?_
  · refine q_iincA hC (loc' := [(4, .int (x4 + 6)), (0, .ref 1900), (1, .ref x1), (2, .ref x2), (3, .ref x3)]) 4 6 dL_law_2592 rfl rfl (Nat.le_of_ble_eq_true rfl) rfl ?_
    refine q_goto hC 23 dL_law_2595 rfl ?_
    exact c_widen (by simp only [rmX10_worstLoop, rmX11_worstLoop, rmk, room_1]; omega) (by simp only [rmX10_worstLoop, rmX11_worstLoop, rmk, room_1]; omega) (c_sub [1, 2, 3, 4, 0] rfl hJ)
  · refine q_iconst hC dL_law_1160 rfl ?_
    exact q_zret hC dL_law_1161 (by simp only [rmX10_worstLoop, rmX11_worstLoop, rmk, room_1]; omega) (by simp only [rmX10_worstLoop, rmX11_worstLoop, rmk, room_1]; omega)
def cl20 (L : Nat) (xs : Nat → Int32) (J : LT) (x1 x2 x3 : Nat) (x4 : Int32) : Sem :=
    ob 10 x1 (cI SX10_suspect [.ref x1] fun v1 =>
    ob 11 x2 (cI SX11_suspect [.ref x2] fun v2 =>
    br (v1 = v2)
    (J x1 x2 x3 (x4 + 6))
    (rZ 0)))
theorem pcl20 {Γ : CT} (hC : Ctx Γ "SpiritWallLaw" cL_law 9 (some .boolean) room_1) (hnt : NT Γ) (hN : NcA (kS Γ)) {L : Nat} {xs : Nat → Int32} (hX : Scr Γ L xs) (J : LT) {cn sn x1 x2 x3 : Nat} {x4 : Int32} (h1 : cn + 100 ≤ 601024) (h2 : sn + 1000 ≤ 7293034)
    (hJ : Cor Γ 9 (cn + 100) (sn + 1000) 23 [(0, .ref 1900), (1, .ref x1), (2, .ref x2), (3, .ref x3), (4, .int (x4 + 6))] [] (J x1 x2 x3 (x4 + 6))) : Cor Γ 9 cn sn 1162 [(0, .ref 1900), (1, .ref x1), (2, .ref x2), (3, .ref x3), (4, .int x4)] [] (cl20 L xs J x1 x2 x3 x4) := by
  unfold cl20
  refine q_aload_n hC 1 dL_law_1162 rfl rfl ?_
  refine q_cVI hC hnt (stk := []) (as := []) sX10_suspect (ci := 10) (by decide) rfl nX10_suspect (roomOk_of (by simp only [rmX10_suspect, rmX11_suspect, rmk, room_1]; omega)) w_1562 w_1564 w_1565 w_27 w_1563 (Nat.le_of_ble_eq_true rfl) dL_law_1163 rfl (fun v1 => ?_)
  refine q_aload_n hC 2 dL_law_1166 rfl rfl ?_
  refine q_cVI hC hnt (stk := [.int v1]) (as := []) sX11_suspect (ci := 11) (by decide) rfl nX11_suspect (roomOk_of (by simp only [rmX10_suspect, rmX11_suspect, rmk, room_1]; omega)) w_1566 w_1568 w_1569 w_830 w_1567 (Nat.le_of_ble_eq_true rfl) dL_law_1167 rfl (fun v2 => ?_)
  refine q_ic_eq hC 2592 dL_law_1170 rfl ?_ ?_
  · refine q_iincA hC (loc' := [(4, .int (x4 + 6)), (0, .ref 1900), (1, .ref x1), (2, .ref x2), (3, .ref x3)]) 4 6 dL_law_2592 rfl rfl (Nat.le_of_ble_eq_true rfl) rfl ?_
    refine q_goto hC 23 dL_law_2595 rfl ?_
    exact c_widen (by simp only [rmX10_suspect, rmX11_suspect, rmk, room_1]; omega) (by simp only [rmX10_suspect, rmX11_suspect, rmk, room_1]; omega) (c_sub [1, 2, 3, 4, 0] rfl hJ)
  · refine q_iconst hC dL_law_1173 rfl ?_
    exact q_zret hC dL_law_1174 (by simp only [rmX10_suspect, rmX11_suspect, rmk, room_1]; omega) (by simp only [rmX10_suspect, rmX11_suspect, rmk, room_1]; omega)
def cl21 (L : Nat) (xs : Nat → Int32) (J : LT) (x1 x2 x3 : Nat) (x4 : Int32) : Sem :=
    ob 10 x1 (cI SX10_outlier [.ref x1] fun v1 =>
    ob 11 x2 (cI SX11_outlier [.ref x2] fun v2 =>
    br (v1 = v2)
    (J x1 x2 x3 (x4 + 6))
    (rZ 0)))
theorem pcl21 {Γ : CT} (hC : Ctx Γ "SpiritWallLaw" cL_law 9 (some .boolean) room_1) (hnt : NT Γ) (hN : NcA (kS Γ)) {L : Nat} {xs : Nat → Int32} (hX : Scr Γ L xs) (J : LT) {cn sn x1 x2 x3 : Nat} {x4 : Int32} (h1 : cn + 100 ≤ 601024) (h2 : sn + 1000 ≤ 7293034)
    (hJ : Cor Γ 9 (cn + 100) (sn + 1000) 23 [(0, .ref 1900), (1, .ref x1), (2, .ref x2), (3, .ref x3), (4, .int (x4 + 6))] [] (J x1 x2 x3 (x4 + 6))) : Cor Γ 9 cn sn 1175 [(0, .ref 1900), (1, .ref x1), (2, .ref x2), (3, .ref x3), (4, .int x4)] [] (cl21 L xs J x1 x2 x3 x4) := by
  unfold cl21
  refine q_aload_n hC 1 dL_law_1175 rfl rfl ?_
  refine q_cVI hC hnt (stk := []) (as := []) sX10_outlier (ci := 10) (by decide) rfl nX10_outlier (roomOk_of (by simp only [rmX10_outlier, rmX11_outlier, rmk, room_1]; omega)) w_1570 w_1572 w_1573 w_27 w_1571 (Nat.le_of_ble_eq_true rfl) dL_law_1176 rfl (fun v1 => ?_)
  refine q_aload_n hC 2 dL_law_1179 rfl rfl ?_
  refine q_cVI hC hnt (stk := [.int v1]) (as := []) sX11_outlier (ci := 11) (by decide) rfl nX11_outlier (roomOk_of (by simp only [rmX10_outlier, rmX11_outlier, rmk, room_1]; omega)) w_1574 w_1576 w_1577 w_830 w_1575 (Nat.le_of_ble_eq_true rfl) dL_law_1180 rfl (fun v2 => ?_)
  refine q_ic_eq hC 2592 dL_law_1183 rfl ?_ ?_
  · refine q_iincA hC (loc' := [(4, .int (x4 + 6)), (0, .ref 1900), (1, .ref x1), (2, .ref x2), (3, .ref x3)]) 4 6 dL_law_2592 rfl rfl (Nat.le_of_ble_eq_true rfl) rfl ?_
    refine q_goto hC 23 dL_law_2595 rfl ?_
    exact c_widen (by simp only [rmX10_outlier, rmX11_outlier, rmk, room_1]; omega) (by simp only [rmX10_outlier, rmX11_outlier, rmk, room_1]; omega) (c_sub [1, 2, 3, 4, 0] rfl hJ)
  · refine q_iconst hC dL_law_1186 rfl ?_
    exact q_zret hC dL_law_1187 (by simp only [rmX10_outlier, rmX11_outlier, rmk, room_1]; omega) (by simp only [rmX10_outlier, rmX11_outlier, rmk, room_1]; omega)
def cl22 (L : Nat) (xs : Nat → Int32) (J : LT) (x1 x2 x3 : Nat) (x4 : Int32) : Sem :=
    ob 10 x1 (cJ SX10_misfit [.ref x1] fun v1 =>
    ob 11 x2 (cJ SX11_misfit [.ref x2] fun v2 =>
    br ((lg_cmp v1 v2) = 0)
    (J x1 x2 x3 (x4 + 6))
    (rZ 0)))
theorem pcl22 {Γ : CT} (hC : Ctx Γ "SpiritWallLaw" cL_law 9 (some .boolean) room_1) (hnt : NT Γ) (hN : NcA (kS Γ)) {L : Nat} {xs : Nat → Int32} (hX : Scr Γ L xs) (J : LT) {cn sn x1 x2 x3 : Nat} {x4 : Int32} (h1 : cn + 100 ≤ 601024) (h2 : sn + 1000 ≤ 7293034)
    (hJ : Cor Γ 9 (cn + 100) (sn + 1000) 23 [(0, .ref 1900), (1, .ref x1), (2, .ref x2), (3, .ref x3), (4, .int (x4 + 6))] [] (J x1 x2 x3 (x4 + 6))) : Cor Γ 9 cn sn 1188 [(0, .ref 1900), (1, .ref x1), (2, .ref x2), (3, .ref x3), (4, .int x4)] [] (cl22 L xs J x1 x2 x3 x4) := by
  unfold cl22
  refine q_aload_n hC 1 dL_law_1188 rfl rfl ?_
  refine q_cVJ hC hnt (stk := []) (as := []) sX10_misfit (ci := 10) (by decide) rfl nX10_misfit (roomOk_of (by simp only [rmX10_misfit, rmX11_misfit, rmk, room_1]; omega)) w_1578 w_1580 w_1581 w_27 w_1579 (Nat.le_of_ble_eq_true rfl) dL_law_1189 rfl (fun v1 => ?_)
  refine q_aload_n hC 2 dL_law_1192 rfl rfl ?_
  refine q_cVJ hC hnt (stk := [.long v1]) (as := []) sX11_misfit (ci := 11) (by decide) rfl nX11_misfit (roomOk_of (by simp only [rmX10_misfit, rmX11_misfit, rmk, room_1]; omega)) w_1582 w_1584 w_1585 w_830 w_1583 (Nat.le_of_ble_eq_true rfl) dL_law_1193 rfl (fun v2 => ?_)
  refine q_lcmp hC dL_law_1196 ?_
  refine q_if_eq hC 2592 dL_law_1197 rfl ?_ ?_
  · refine q_iincA hC (loc' := [(4, .int (x4 + 6)), (0, .ref 1900), (1, .ref x1), (2, .ref x2), (3, .ref x3)]) 4 6 dL_law_2592 rfl rfl (Nat.le_of_ble_eq_true rfl) rfl ?_
    refine q_goto hC 23 dL_law_2595 rfl ?_
    exact c_widen (by simp only [rmX10_misfit, rmX11_misfit, rmk, room_1]; omega) (by simp only [rmX10_misfit, rmX11_misfit, rmk, room_1]; omega) (c_sub [1, 2, 3, 4, 0] rfl hJ)
  · refine q_iconst hC dL_law_1200 rfl ?_
    exact q_zret hC dL_law_1201 (by simp only [rmX10_misfit, rmX11_misfit, rmk, room_1]; omega) (by simp only [rmX10_misfit, rmX11_misfit, rmk, room_1]; omega)
def cl23 (L : Nat) (xs : Nat → Int32) (J : LT) (x1 x2 x3 : Nat) (x4 : Int32) : Sem :=
    sld L xs (x4 + 1) fun v1 =>
    cI SL_tension [.ref x1, .int v1, .ref x3] fun v2 =>
    sld L xs (x4 + 1) fun v3 =>
    ob 11 x2 (cI SX11_tension [.ref x2, .int v3] fun v4 =>
    ob 11 x2 (cI SX11_thrown [.ref x2] fun v5 =>
    br (v5 = v2)
    (br (v2 = 0)
    (aJ x3 0 fun v6 =>
    br ((lg_cmp v6 (v4.toInt64)) = 0)
    (J x1 x2 x3 (x4 + 6))
    (rZ 0))
    (J x1 x2 x3 (x4 + 6)))
    (rZ 0)))
theorem pcl23 {Γ : CT} (hC : Ctx Γ "SpiritWallLaw" cL_law 9 (some .boolean) room_1) (hnt : NT Γ) (hN : NcA (kS Γ)) {L : Nat} {xs : Nat → Int32} (hX : Scr Γ L xs) (J : LT) {cn sn x1 x2 x3 : Nat} {x4 : Int32} (h1 : cn + 100 ≤ 601024) (h2 : sn + 1000 ≤ 7293034)
    (hJ : Cor Γ 9 (cn + 100) (sn + 1000) 23 [(0, .ref 1900), (1, .ref x1), (2, .ref x2), (3, .ref x3), (4, .int (x4 + 6))] [] (J x1 x2 x3 (x4 + 6))) : Cor Γ 9 cn sn 1202 [(0, .ref 1900), (1, .ref x1), (2, .ref x2), (3, .ref x3), (4, .int x4)] [] (cl23 L xs J x1 x2 x3 x4) := by
  unfold cl23
  refine q_aload_n hC 1 dL_law_1202 rfl rfl ?_
  refine q_aload_n hC 0 dL_law_1203 rfl rfl ?_
  refine q_iload hC 4 dL_law_1204 rfl ?_
  refine q_iconst hC dL_law_1206 rfl ?_
  refine q_iadd hC dL_law_1207 ?_
  refine q_sld hC hX dL_law_1208 (fun v1 => ?_)
  refine q_aload_n hC 3 dL_law_1209 rfl rfl ?_
  refine q_cSXI hC hnt hN (stk := []) (as := [.ref x1, .int v1, .ref x3]) sL_tension nL_tension (roomOk_of (by simp only [rmL_tension, rmX11_tension, rmX11_thrown, rmk, room_1]; omega)) w_1590 w_1591 w_1481 w_1592 (Nat.le_of_ble_eq_true rfl) dL_law_1210 rfl (fun v2 => ?_)
  refine q_istoreA hC (loc' := [(5, .int v2), (0, .ref 1900), (1, .ref x1), (2, .ref x2), (3, .ref x3), (4, .int x4)]) dL_law_1213 (Nat.le_of_ble_eq_true rfl) rfl ?_
  refine q_aload_n hC 3 dL_law_1215 rfl rfl ?_
  refine q_aload_n hC 1 dL_law_1216 rfl rfl ?_
  refine q_iload hC 5 dL_law_1217 rfl ?_
  refine q_iconst hC dL_law_1219 rfl ?_
  refine q_iadd hC dL_law_1220 ?_
  refine q_sld hC hX dL_law_1221 (fun v3 => ?_)
  refine q_cVI hC hnt (stk := []) (as := [.int v3]) sX11_tension (ci := 11) (by decide) rfl nX11_tension (roomOk_of (by simp only [rmL_tension, rmX11_tension, rmX11_thrown, rmk, room_1]; omega)) w_1586 w_1588 w_1589 w_830 w_1587 (Nat.le_of_ble_eq_true rfl) dL_law_1222 rfl (fun v4 => ?_)
  refine q_istoreA hC (loc' := [(6, .int v4), (5, .int v2), (0, .ref 1900), (1, .ref x1), (2, .ref x2), (3, .ref x3), (4, .int x4)]) dL_law_1225 (Nat.le_of_ble_eq_true rfl) rfl ?_
  refine q_aload_n hC 4 dL_law_1227 rfl rfl ?_
  refine q_cVI hC hnt (stk := []) (as := []) sX11_thrown (ci := 11) (by decide) rfl nX11_thrown (roomOk_of (by simp only [rmL_tension, rmX11_tension, rmX11_thrown, rmk, room_1]; omega)) w_1475 w_1477 w_1478 w_830 w_1476 (Nat.le_of_ble_eq_true rfl) dL_law_1228 rfl (fun v5 => ?_)
  refine q_iload hC 1 dL_law_1231 rfl ?_
  refine q_ic_eq hC 1238 dL_law_1233 rfl ?_ ?_
  · refine q_iload hC 1 dL_law_1238 rfl ?_
    refine q_if_ne hC 1255 dL_law_1240 rfl ?_ ?_
    · refine q_goto hC 2592 dL_law_1255 rfl ?_
      refine q_iincA hC (loc' := [(4, .int (x4 + 6)), (6, .int v4), (5, .int v2), (0, .ref 1900), (1, .ref x1), (2, .ref x2), (3, .ref x3)]) 6 6 dL_law_2592 rfl rfl (Nat.le_of_ble_eq_true rfl) rfl ?_
      refine q_goto hC 23 dL_law_2595 rfl ?_
      exact c_widen (by simp only [rmL_tension, rmX11_tension, rmX11_thrown, rmk, room_1]; omega) (by simp only [rmL_tension, rmX11_tension, rmX11_thrown, rmk, room_1]; omega) (c_sub [3, 4, 5, 6, 0] rfl hJ)
    · refine q_aload_n hC 5 dL_law_1243 rfl rfl ?_
      refine q_iconst hC dL_law_1244 rfl ?_
      refine q_lald hC dL_law_1245 (fun v6 => ?_)
      refine q_iload hC 0 dL_law_1246 rfl ?_
      refine q_i2l hC dL_law_1248 ?_
      refine q_lcmp hC dL_law_1249 ?_
      refine q_if_eq hC 1255 dL_law_1250 rfl ?_ ?_
      · refine q_goto hC 2592 dL_law_1255 rfl ?_
        refine q_iincA hC (loc' := [(4, .int (x4 + 6)), (6, .int v4), (5, .int v2), (0, .ref 1900), (1, .ref x1), (2, .ref x2), (3, .ref x3)]) 6 6 dL_law_2592 rfl rfl (Nat.le_of_ble_eq_true rfl) rfl ?_
        refine q_goto hC 23 dL_law_2595 rfl ?_
        exact c_widen (by simp only [rmL_tension, rmX11_tension, rmX11_thrown, rmk, room_1]; omega) (by simp only [rmL_tension, rmX11_tension, rmX11_thrown, rmk, room_1]; omega) (c_sub [3, 4, 5, 6, 0] rfl hJ)
      · refine q_iconst hC dL_law_1253 rfl ?_
        exact q_zret hC dL_law_1254 (by simp only [rmL_tension, rmX11_tension, rmX11_thrown, rmk, room_1]; omega) (by simp only [rmL_tension, rmX11_tension, rmX11_thrown, rmk, room_1]; omega)
  · refine q_iconst hC dL_law_1236 rfl ?_
    exact q_zret hC dL_law_1237 (by simp only [rmL_tension, rmX11_tension, rmX11_thrown, rmk, room_1]; omega) (by simp only [rmL_tension, rmX11_tension, rmX11_thrown, rmk, room_1]; omega)
def cl24 (L : Nat) (xs : Nat → Int32) (J : LT) (x1 x2 x3 : Nat) (x4 : Int32) : Sem :=
    ob 10 x1 (cI SX10_tensest [.ref x1] fun v1 =>
    ob 11 x2 (cI SX11_tensest [.ref x2] fun v2 =>
    br (v1 = v2)
    (J x1 x2 x3 (x4 + 6))
    (rZ 0)))
theorem pcl24 {Γ : CT} (hC : Ctx Γ "SpiritWallLaw" cL_law 9 (some .boolean) room_1) (hnt : NT Γ) (hN : NcA (kS Γ)) {L : Nat} {xs : Nat → Int32} (hX : Scr Γ L xs) (J : LT) {cn sn x1 x2 x3 : Nat} {x4 : Int32} (h1 : cn + 100 ≤ 601024) (h2 : sn + 1000 ≤ 7293034)
    (hJ : Cor Γ 9 (cn + 100) (sn + 1000) 23 [(0, .ref 1900), (1, .ref x1), (2, .ref x2), (3, .ref x3), (4, .int (x4 + 6))] [] (J x1 x2 x3 (x4 + 6))) : Cor Γ 9 cn sn 1258 [(0, .ref 1900), (1, .ref x1), (2, .ref x2), (3, .ref x3), (4, .int x4)] [] (cl24 L xs J x1 x2 x3 x4) := by
  unfold cl24
  refine q_aload_n hC 1 dL_law_1258 rfl rfl ?_
  refine q_cVI hC hnt (stk := []) (as := []) sX10_tensest (ci := 10) (by decide) rfl nX10_tensest (roomOk_of (by simp only [rmX10_tensest, rmX11_tensest, rmk, room_1]; omega)) w_1593 w_1595 w_1596 w_27 w_1594 (Nat.le_of_ble_eq_true rfl) dL_law_1259 rfl (fun v1 => ?_)
  refine q_aload_n hC 2 dL_law_1262 rfl rfl ?_
  refine q_cVI hC hnt (stk := [.int v1]) (as := []) sX11_tensest (ci := 11) (by decide) rfl nX11_tensest (roomOk_of (by simp only [rmX10_tensest, rmX11_tensest, rmk, room_1]; omega)) w_1597 w_1599 w_1600 w_830 w_1598 (Nat.le_of_ble_eq_true rfl) dL_law_1263 rfl (fun v2 => ?_)
  refine q_ic_eq hC 2592 dL_law_1266 rfl ?_ ?_
  · refine q_iincA hC (loc' := [(4, .int (x4 + 6)), (0, .ref 1900), (1, .ref x1), (2, .ref x2), (3, .ref x3)]) 4 6 dL_law_2592 rfl rfl (Nat.le_of_ble_eq_true rfl) rfl ?_
    refine q_goto hC 23 dL_law_2595 rfl ?_
    exact c_widen (by simp only [rmX10_tensest, rmX11_tensest, rmk, room_1]; omega) (by simp only [rmX10_tensest, rmX11_tensest, rmk, room_1]; omega) (c_sub [1, 2, 3, 4, 0] rfl hJ)
  · refine q_iconst hC dL_law_1269 rfl ?_
    exact q_zret hC dL_law_1270 (by simp only [rmX10_tensest, rmX11_tensest, rmk, room_1]; omega) (by simp only [rmX10_tensest, rmX11_tensest, rmk, room_1]; omega)
def cl25 (L : Nat) (xs : Nat → Int32) (J : LT) (x1 x2 x3 : Nat) (x4 : Int32) : Sem :=
    sld L xs (x4 + 1) fun v1 =>
    sld L xs (x4 + 2) fun v2 =>
    cI SL_neighbour [.ref x1, .int v1, .int v2, .ref x3] fun v3 =>
    sld L xs (x4 + 1) fun v4 =>
    sld L xs (x4 + 2) fun v5 =>
    ob 11 x2 (cI SX11_neighbour [.ref x2, .int v4, .int v5] fun v6 =>
    ob 11 x2 (cI SX11_thrown [.ref x2] fun v7 =>
    br (v7 = v3)
    (br (v3 = 0)
    (aJ x3 0 fun v8 =>
    br ((lg_cmp v8 (v6.toInt64)) = 0)
    (J x1 x2 x3 (x4 + 6))
    (rZ 0))
    (J x1 x2 x3 (x4 + 6)))
    (rZ 0)))
theorem pcl25 {Γ : CT} (hC : Ctx Γ "SpiritWallLaw" cL_law 9 (some .boolean) room_1) (hnt : NT Γ) (hN : NcA (kS Γ)) {L : Nat} {xs : Nat → Int32} (hX : Scr Γ L xs) (J : LT) {cn sn x1 x2 x3 : Nat} {x4 : Int32} (h1 : cn + 100 ≤ 601024) (h2 : sn + 1000 ≤ 7293034)
    (hJ : Cor Γ 9 (cn + 100) (sn + 1000) 23 [(0, .ref 1900), (1, .ref x1), (2, .ref x2), (3, .ref x3), (4, .int (x4 + 6))] [] (J x1 x2 x3 (x4 + 6))) : Cor Γ 9 cn sn 1271 [(0, .ref 1900), (1, .ref x1), (2, .ref x2), (3, .ref x3), (4, .int x4)] [] (cl25 L xs J x1 x2 x3 x4) := by
  unfold cl25
  refine q_aload_n hC 1 dL_law_1271 rfl rfl ?_
  refine q_aload_n hC 0 dL_law_1272 rfl rfl ?_
  refine q_iload hC 4 dL_law_1273 rfl ?_
  refine q_iconst hC dL_law_1275 rfl ?_
  refine q_iadd hC dL_law_1276 ?_
  refine q_sld hC hX dL_law_1277 (fun v1 => ?_)
  refine q_aload_n hC 0 dL_law_1278 rfl rfl ?_
  refine q_iload hC 4 dL_law_1279 rfl ?_
  refine q_iconst hC dL_law_1281 rfl ?_
  refine q_iadd hC dL_law_1282 ?_
  refine q_sld hC hX dL_law_1283 (fun v2 => ?_)
  refine q_aload_n hC 3 dL_law_1284 rfl rfl ?_
  refine q_cSXI hC hnt hN (stk := []) (as := [.ref x1, .int v1, .int v2, .ref x3]) sL_neighbour nL_neighbour (roomOk_of (by simp only [rmL_neighbour, rmX11_neighbour, rmX11_thrown, rmk, room_1]; omega)) w_1605 w_1606 w_1481 w_1607 (Nat.le_of_ble_eq_true rfl) dL_law_1285 rfl (fun v3 => ?_)
  refine q_istoreA hC (loc' := [(5, .int v3), (0, .ref 1900), (1, .ref x1), (2, .ref x2), (3, .ref x3), (4, .int x4)]) dL_law_1288 (Nat.le_of_ble_eq_true rfl) rfl ?_
  refine q_aload_n hC 3 dL_law_1290 rfl rfl ?_
  refine q_aload_n hC 1 dL_law_1291 rfl rfl ?_
  refine q_iload hC 5 dL_law_1292 rfl ?_
  refine q_iconst hC dL_law_1294 rfl ?_
  refine q_iadd hC dL_law_1295 ?_
  refine q_sld hC hX dL_law_1296 (fun v4 => ?_)
  refine q_aload_n hC 1 dL_law_1297 rfl rfl ?_
  refine q_iload hC 5 dL_law_1298 rfl ?_
  refine q_iconst hC dL_law_1300 rfl ?_
  refine q_iadd hC dL_law_1301 ?_
  refine q_sld hC hX dL_law_1302 (fun v5 => ?_)
  refine q_cVI hC hnt (stk := []) (as := [.int v4, .int v5]) sX11_neighbour (ci := 11) (by decide) rfl nX11_neighbour (roomOk_of (by simp only [rmL_neighbour, rmX11_neighbour, rmX11_thrown, rmk, room_1]; omega)) w_1601 w_1603 w_1604 w_830 w_1602 (Nat.le_of_ble_eq_true rfl) dL_law_1303 rfl (fun v6 => ?_)
  refine q_istoreA hC (loc' := [(6, .int v6), (5, .int v3), (0, .ref 1900), (1, .ref x1), (2, .ref x2), (3, .ref x3), (4, .int x4)]) dL_law_1306 (Nat.le_of_ble_eq_true rfl) rfl ?_
  refine q_aload_n hC 4 dL_law_1308 rfl rfl ?_
  refine q_cVI hC hnt (stk := []) (as := []) sX11_thrown (ci := 11) (by decide) rfl nX11_thrown (roomOk_of (by simp only [rmL_neighbour, rmX11_neighbour, rmX11_thrown, rmk, room_1]; omega)) w_1475 w_1477 w_1478 w_830 w_1476 (Nat.le_of_ble_eq_true rfl) dL_law_1309 rfl (fun v7 => ?_)
  refine q_iload hC 1 dL_law_1312 rfl ?_
  refine q_ic_eq hC 1319 dL_law_1314 rfl ?_ ?_
  · refine q_iload hC 1 dL_law_1319 rfl ?_
    refine q_if_ne hC 1336 dL_law_1321 rfl ?_ ?_
    · refine q_goto hC 2592 dL_law_1336 rfl ?_
      refine q_iincA hC (loc' := [(4, .int (x4 + 6)), (6, .int v6), (5, .int v3), (0, .ref 1900), (1, .ref x1), (2, .ref x2), (3, .ref x3)]) 6 6 dL_law_2592 rfl rfl (Nat.le_of_ble_eq_true rfl) rfl ?_
      refine q_goto hC 23 dL_law_2595 rfl ?_
      exact c_widen (by simp only [rmL_neighbour, rmX11_neighbour, rmX11_thrown, rmk, room_1]; omega) (by simp only [rmL_neighbour, rmX11_neighbour, rmX11_thrown, rmk, room_1]; omega) (c_sub [3, 4, 5, 6, 0] rfl hJ)
    · refine q_aload_n hC 5 dL_law_1324 rfl rfl ?_
      refine q_iconst hC dL_law_1325 rfl ?_
      refine q_lald hC dL_law_1326 (fun v8 => ?_)
      refine q_iload hC 0 dL_law_1327 rfl ?_
      refine q_i2l hC dL_law_1329 ?_
      refine q_lcmp hC dL_law_1330 ?_
      refine q_if_eq hC 1336 dL_law_1331 rfl ?_ ?_
      · refine q_goto hC 2592 dL_law_1336 rfl ?_
        refine q_iincA hC (loc' := [(4, .int (x4 + 6)), (6, .int v6), (5, .int v3), (0, .ref 1900), (1, .ref x1), (2, .ref x2), (3, .ref x3)]) 6 6 dL_law_2592 rfl rfl (Nat.le_of_ble_eq_true rfl) rfl ?_
        refine q_goto hC 23 dL_law_2595 rfl ?_
        exact c_widen (by simp only [rmL_neighbour, rmX11_neighbour, rmX11_thrown, rmk, room_1]; omega) (by simp only [rmL_neighbour, rmX11_neighbour, rmX11_thrown, rmk, room_1]; omega) (c_sub [3, 4, 5, 6, 0] rfl hJ)
      · refine q_iconst hC dL_law_1334 rfl ?_
        exact q_zret hC dL_law_1335 (by simp only [rmL_neighbour, rmX11_neighbour, rmX11_thrown, rmk, room_1]; omega) (by simp only [rmL_neighbour, rmX11_neighbour, rmX11_thrown, rmk, room_1]; omega)
  · refine q_iconst hC dL_law_1317 rfl ?_
    exact q_zret hC dL_law_1318 (by simp only [rmL_neighbour, rmX11_neighbour, rmX11_thrown, rmk, room_1]; omega) (by simp only [rmL_neighbour, rmX11_neighbour, rmX11_thrown, rmk, room_1]; omega)
def cl26 (L : Nat) (xs : Nat → Int32) (J : LT) (x1 x2 x3 : Nat) (x4 : Int32) : Sem :=
    sld L xs (x4 + 1) fun v1 =>
    cI SL_loopsOf [.ref x1, .int v1, .ref x3] fun v2 =>
    sld L xs (x4 + 1) fun v3 =>
    ob 11 x2 (cI SX11_loopsOf [.ref x2, .int v3] fun v4 =>
    ob 11 x2 (cI SX11_thrown [.ref x2] fun v5 =>
    br (v5 = v2)
    (br (v2 = 0)
    (aJ x3 0 fun v6 =>
    br ((lg_cmp v6 (v4.toInt64)) = 0)
    (J x1 x2 x3 (x4 + 6))
    (rZ 0))
    (J x1 x2 x3 (x4 + 6)))
    (rZ 0)))
theorem pcl26 {Γ : CT} (hC : Ctx Γ "SpiritWallLaw" cL_law 9 (some .boolean) room_1) (hnt : NT Γ) (hN : NcA (kS Γ)) {L : Nat} {xs : Nat → Int32} (hX : Scr Γ L xs) (J : LT) {cn sn x1 x2 x3 : Nat} {x4 : Int32} (h1 : cn + 100 ≤ 601024) (h2 : sn + 1000 ≤ 7293034)
    (hJ : Cor Γ 9 (cn + 100) (sn + 1000) 23 [(0, .ref 1900), (1, .ref x1), (2, .ref x2), (3, .ref x3), (4, .int (x4 + 6))] [] (J x1 x2 x3 (x4 + 6))) : Cor Γ 9 cn sn 1339 [(0, .ref 1900), (1, .ref x1), (2, .ref x2), (3, .ref x3), (4, .int x4)] [] (cl26 L xs J x1 x2 x3 x4) := by
  unfold cl26
  refine q_aload_n hC 1 dL_law_1339 rfl rfl ?_
  refine q_aload_n hC 0 dL_law_1340 rfl rfl ?_
  refine q_iload hC 4 dL_law_1341 rfl ?_
  refine q_iconst hC dL_law_1343 rfl ?_
  refine q_iadd hC dL_law_1344 ?_
  refine q_sld hC hX dL_law_1345 (fun v1 => ?_)
  refine q_aload_n hC 3 dL_law_1346 rfl rfl ?_
  refine q_cSXI hC hnt hN (stk := []) (as := [.ref x1, .int v1, .ref x3]) sL_loopsOf nL_loopsOf (roomOk_of (by simp only [rmL_loopsOf, rmX11_loopsOf, rmX11_thrown, rmk, room_1]; omega)) w_1612 w_1613 w_1481 w_1614 (Nat.le_of_ble_eq_true rfl) dL_law_1347 rfl (fun v2 => ?_)
  refine q_istoreA hC (loc' := [(5, .int v2), (0, .ref 1900), (1, .ref x1), (2, .ref x2), (3, .ref x3), (4, .int x4)]) dL_law_1350 (Nat.le_of_ble_eq_true rfl) rfl ?_
  refine q_aload_n hC 3 dL_law_1352 rfl rfl ?_
  refine q_aload_n hC 1 dL_law_1353 rfl rfl ?_
  refine q_iload hC 5 dL_law_1354 rfl ?_
  refine q_iconst hC dL_law_1356 rfl ?_
  refine q_iadd hC dL_law_1357 ?_
  refine q_sld hC hX dL_law_1358 (fun v3 => ?_)
  refine q_cVI hC hnt (stk := []) (as := [.int v3]) sX11_loopsOf (ci := 11) (by decide) rfl nX11_loopsOf (roomOk_of (by simp only [rmL_loopsOf, rmX11_loopsOf, rmX11_thrown, rmk, room_1]; omega)) w_1608 w_1610 w_1611 w_830 w_1609 (Nat.le_of_ble_eq_true rfl) dL_law_1359 rfl (fun v4 => ?_)
  refine q_istoreA hC (loc' := [(6, .int v4), (5, .int v2), (0, .ref 1900), (1, .ref x1), (2, .ref x2), (3, .ref x3), (4, .int x4)]) dL_law_1362 (Nat.le_of_ble_eq_true rfl) rfl ?_
  refine q_aload_n hC 4 dL_law_1364 rfl rfl ?_
  refine q_cVI hC hnt (stk := []) (as := []) sX11_thrown (ci := 11) (by decide) rfl nX11_thrown (roomOk_of (by simp only [rmL_loopsOf, rmX11_loopsOf, rmX11_thrown, rmk, room_1]; omega)) w_1475 w_1477 w_1478 w_830 w_1476 (Nat.le_of_ble_eq_true rfl) dL_law_1365 rfl (fun v5 => ?_)
  refine q_iload hC 1 dL_law_1368 rfl ?_
  refine q_ic_eq hC 1375 dL_law_1370 rfl ?_ ?_
  · refine q_iload hC 1 dL_law_1375 rfl ?_
    refine q_if_ne hC 1392 dL_law_1377 rfl ?_ ?_
    · refine q_goto hC 2592 dL_law_1392 rfl ?_
      refine q_iincA hC (loc' := [(4, .int (x4 + 6)), (6, .int v4), (5, .int v2), (0, .ref 1900), (1, .ref x1), (2, .ref x2), (3, .ref x3)]) 6 6 dL_law_2592 rfl rfl (Nat.le_of_ble_eq_true rfl) rfl ?_
      refine q_goto hC 23 dL_law_2595 rfl ?_
      exact c_widen (by simp only [rmL_loopsOf, rmX11_loopsOf, rmX11_thrown, rmk, room_1]; omega) (by simp only [rmL_loopsOf, rmX11_loopsOf, rmX11_thrown, rmk, room_1]; omega) (c_sub [3, 4, 5, 6, 0] rfl hJ)
    · refine q_aload_n hC 5 dL_law_1380 rfl rfl ?_
      refine q_iconst hC dL_law_1381 rfl ?_
      refine q_lald hC dL_law_1382 (fun v6 => ?_)
      refine q_iload hC 0 dL_law_1383 rfl ?_
      refine q_i2l hC dL_law_1385 ?_
      refine q_lcmp hC dL_law_1386 ?_
      refine q_if_eq hC 1392 dL_law_1387 rfl ?_ ?_
      · refine q_goto hC 2592 dL_law_1392 rfl ?_
        refine q_iincA hC (loc' := [(4, .int (x4 + 6)), (6, .int v4), (5, .int v2), (0, .ref 1900), (1, .ref x1), (2, .ref x2), (3, .ref x3)]) 6 6 dL_law_2592 rfl rfl (Nat.le_of_ble_eq_true rfl) rfl ?_
        refine q_goto hC 23 dL_law_2595 rfl ?_
        exact c_widen (by simp only [rmL_loopsOf, rmX11_loopsOf, rmX11_thrown, rmk, room_1]; omega) (by simp only [rmL_loopsOf, rmX11_loopsOf, rmX11_thrown, rmk, room_1]; omega) (c_sub [3, 4, 5, 6, 0] rfl hJ)
      · refine q_iconst hC dL_law_1390 rfl ?_
        exact q_zret hC dL_law_1391 (by simp only [rmL_loopsOf, rmX11_loopsOf, rmX11_thrown, rmk, room_1]; omega) (by simp only [rmL_loopsOf, rmX11_loopsOf, rmX11_thrown, rmk, room_1]; omega)
  · refine q_iconst hC dL_law_1373 rfl ?_
    exact q_zret hC dL_law_1374 (by simp only [rmL_loopsOf, rmX11_loopsOf, rmX11_thrown, rmk, room_1]; omega) (by simp only [rmL_loopsOf, rmX11_loopsOf, rmX11_thrown, rmk, room_1]; omega)
