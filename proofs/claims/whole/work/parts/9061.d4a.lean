/-! decode rows: the law -/
theorem d290_0 : decode code 0 = .ok (.new 8, 3) := by decide +kernel
theorem d290_3 : decode code 3 = .ok (.dup, 1) := by decide +kernel
theorem d290_4 : decode code 4 = .ok (.invokespecial 162, 3) := by decide +kernel
theorem d290_7 : decode code 7 = .ok (.astore_n 1, 1) := by decide +kernel
theorem d290_8 : decode code 8 = .ok (.new 163, 3) := by decide +kernel
theorem d290_11 : decode code 11 = .ok (.dup, 1) := by decide +kernel
theorem d290_12 : decode code 12 = .ok (.invokespecial 165, 3) := by decide +kernel
theorem d290_15 : decode code 15 = .ok (.astore_n 2, 1) := by decide +kernel
theorem d290_16 : decode code 16 = .ok (.iconst 1, 1) := by decide +kernel
theorem d290_17 : decode code 17 = .ok (.newarray .long, 2) := by decide +kernel
theorem d290_19 : decode code 19 = .ok (.astore_n 3, 1) := by decide +kernel
theorem d290_20 : decode code 20 = .ok (.iconst 1, 1) := by decide +kernel
theorem d290_21 : decode code 21 = .ok (.newarray .double, 2) := by decide +kernel
theorem d290_23 : decode code 23 = .ok (.astore 4, 2) := by decide +kernel
theorem d290_25 : decode code 25 = .ok (.iconst 0, 1) := by decide +kernel
theorem d290_26 : decode code 26 = .ok (.istore 5, 2) := by decide +kernel
theorem d290_28 : decode code 28 = .ok (.iload 5, 2) := by decide +kernel
theorem d290_30 : decode code 30 = .ok (.aload_n 0, 1) := by decide +kernel
theorem d290_31 : decode code 31 = .ok (.arraylength, 1) := by decide +kernel
theorem d290_32 : decode code 32 = .ok (.bipush 7, 2) := by decide +kernel
theorem d290_34 : decode code 34 = .ok (.isub, 1) := by decide +kernel
theorem d290_35 : decode code 35 = .ok (.if_icmp .gt 2972, 3) := by decide +kernel
theorem d290_38 : decode code 38 = .ok (.aload_n 0, 1) := by decide +kernel
theorem d290_39 : decode code 39 = .ok (.iload 5, 2) := by decide +kernel
theorem d290_41 : decode code 41 = .ok (.iaload, 1) := by decide +kernel
theorem d290_42 : decode code 42 = .ok (.bipush 63, 2) := by decide +kernel
theorem d290_44 : decode code 44 = .ok (.iand, 1) := by decide +kernel
theorem d290_45 : decode code 45 = .ok (.tableswitch 2956 0 50 #[219, 339, 395, 463, 519, 589, 671, 739, 807, 875, 931, 999, 1012, 1037, 1093, 1149, 1205, 1261, 1317, 1375, 1445, 1501, 1557, 1613, 1669, 1725, 1788, 1844, 1919, 1987, 2043, 2099, 2155, 2223, 2279, 2293, 2307, 2320, 2385, 2428, 2484, 2497, 2553, 2609, 2665, 2723, 2767, 2811, 2855, 2899, 2912], 219) := by decide +kernel
theorem d290_264 : decode code 264 = .ok (.aload_n 1, 1) := by decide +kernel
theorem d290_265 : decode code 265 = .ok (.aload_n 0, 1) := by decide +kernel
theorem d290_266 : decode code 266 = .ok (.iload 5, 2) := by decide +kernel
theorem d290_268 : decode code 268 = .ok (.iconst 1, 1) := by decide +kernel
theorem d290_269 : decode code 269 = .ok (.iadd, 1) := by decide +kernel
theorem d290_270 : decode code 270 = .ok (.iaload, 1) := by decide +kernel
theorem d290_271 : decode code 271 = .ok (.aload_n 0, 1) := by decide +kernel
theorem d290_272 : decode code 272 = .ok (.iload 5, 2) := by decide +kernel
theorem d290_274 : decode code 274 = .ok (.iconst 2, 1) := by decide +kernel
theorem d290_275 : decode code 275 = .ok (.iadd, 1) := by decide +kernel
theorem d290_276 : decode code 276 = .ok (.iaload, 1) := by decide +kernel
theorem d290_277 : decode code 277 = .ok (.aload_n 0, 1) := by decide +kernel
theorem d290_278 : decode code 278 = .ok (.iload 5, 2) := by decide +kernel
theorem d290_280 : decode code 280 = .ok (.iconst 3, 1) := by decide +kernel
theorem d290_281 : decode code 281 = .ok (.iadd, 1) := by decide +kernel
theorem d290_282 : decode code 282 = .ok (.iaload, 1) := by decide +kernel
theorem d290_283 : decode code 283 = .ok (.i2c, 1) := by decide +kernel
theorem d290_284 : decode code 284 = .ok (.aload_n 0, 1) := by decide +kernel
theorem d290_285 : decode code 285 = .ok (.iload 5, 2) := by decide +kernel
theorem d290_287 : decode code 287 = .ok (.iconst 4, 1) := by decide +kernel
theorem d290_288 : decode code 288 = .ok (.iadd, 1) := by decide +kernel
theorem d290_289 : decode code 289 = .ok (.iaload, 1) := by decide +kernel
theorem d290_290 : decode code 290 = .ok (.aload_n 0, 1) := by decide +kernel
theorem d290_291 : decode code 291 = .ok (.iload 5, 2) := by decide +kernel
theorem d290_293 : decode code 293 = .ok (.iconst 5, 1) := by decide +kernel
theorem d290_294 : decode code 294 = .ok (.iadd, 1) := by decide +kernel
theorem d290_295 : decode code 295 = .ok (.iaload, 1) := by decide +kernel
theorem d290_296 : decode code 296 = .ok (.aload_n 0, 1) := by decide +kernel
theorem d290_297 : decode code 297 = .ok (.iload 5, 2) := by decide +kernel
theorem d290_299 : decode code 299 = .ok (.bipush 6, 2) := by decide +kernel
theorem d290_301 : decode code 301 = .ok (.iadd, 1) := by decide +kernel
theorem d290_302 : decode code 302 = .ok (.iaload, 1) := by decide +kernel
theorem d290_303 : decode code 303 = .ok (.aload_n 3, 1) := by decide +kernel
theorem d290_304 : decode code 304 = .ok (.invokestatic 166, 3) := by decide +kernel
theorem d290_307 : decode code 307 = .ok (.istore 6, 2) := by decide +kernel
theorem d290_309 : decode code 309 = .ok (.aload_n 2, 1) := by decide +kernel
theorem d290_310 : decode code 310 = .ok (.aload_n 0, 1) := by decide +kernel
theorem d290_311 : decode code 311 = .ok (.iload 5, 2) := by decide +kernel
theorem d290_313 : decode code 313 = .ok (.iconst 1, 1) := by decide +kernel
theorem d290_314 : decode code 314 = .ok (.iadd, 1) := by decide +kernel
theorem d290_315 : decode code 315 = .ok (.iaload, 1) := by decide +kernel
theorem d290_316 : decode code 316 = .ok (.aload_n 0, 1) := by decide +kernel
theorem d290_317 : decode code 317 = .ok (.iload 5, 2) := by decide +kernel
theorem d290_319 : decode code 319 = .ok (.iconst 2, 1) := by decide +kernel
theorem d290_320 : decode code 320 = .ok (.iadd, 1) := by decide +kernel
theorem d290_321 : decode code 321 = .ok (.iaload, 1) := by decide +kernel
theorem d290_322 : decode code 322 = .ok (.aload_n 0, 1) := by decide +kernel
theorem d290_323 : decode code 323 = .ok (.iload 5, 2) := by decide +kernel
theorem d290_325 : decode code 325 = .ok (.iconst 3, 1) := by decide +kernel
theorem d290_326 : decode code 326 = .ok (.iadd, 1) := by decide +kernel
theorem d290_327 : decode code 327 = .ok (.iaload, 1) := by decide +kernel
theorem d290_328 : decode code 328 = .ok (.i2c, 1) := by decide +kernel
theorem d290_329 : decode code 329 = .ok (.aload_n 0, 1) := by decide +kernel
theorem d290_330 : decode code 330 = .ok (.iload 5, 2) := by decide +kernel
theorem d290_332 : decode code 332 = .ok (.iconst 4, 1) := by decide +kernel
theorem d290_333 : decode code 333 = .ok (.iadd, 1) := by decide +kernel
theorem d290_334 : decode code 334 = .ok (.iaload, 1) := by decide +kernel
theorem d290_335 : decode code 335 = .ok (.aload_n 0, 1) := by decide +kernel
theorem d290_336 : decode code 336 = .ok (.iload 5, 2) := by decide +kernel
theorem d290_338 : decode code 338 = .ok (.iconst 5, 1) := by decide +kernel
theorem d290_339 : decode code 339 = .ok (.iadd, 1) := by decide +kernel
theorem d290_340 : decode code 340 = .ok (.iaload, 1) := by decide +kernel
theorem d290_341 : decode code 341 = .ok (.aload_n 0, 1) := by decide +kernel
theorem d290_342 : decode code 342 = .ok (.iload 5, 2) := by decide +kernel
theorem d290_344 : decode code 344 = .ok (.bipush 6, 2) := by decide +kernel
theorem d290_346 : decode code 346 = .ok (.iadd, 1) := by decide +kernel
theorem d290_347 : decode code 347 = .ok (.iaload, 1) := by decide +kernel
theorem d290_348 : decode code 348 = .ok (.invokevirtual 171, 3) := by decide +kernel
theorem d290_351 : decode code 351 = .ok (.istore 7, 2) := by decide +kernel
theorem d290_353 : decode code 353 = .ok (.aload_n 2, 1) := by decide +kernel
theorem d290_354 : decode code 354 = .ok (.invokevirtual 172, 3) := by decide +kernel
theorem d290_357 : decode code 357 = .ok (.iload 6, 2) := by decide +kernel
theorem d290_359 : decode code 359 = .ok (.if_icmp .eq 5, 3) := by decide +kernel
theorem d290_362 : decode code 362 = .ok (.iconst 0, 1) := by decide +kernel
theorem d290_363 : decode code 363 = .ok (.ireturn, 1) := by decide +kernel
theorem d290_364 : decode code 364 = .ok (.iload 6, 2) := by decide +kernel
theorem d290_366 : decode code 366 = .ok (.ifCond .ne 15, 3) := by decide +kernel
theorem d290_369 : decode code 369 = .ok (.aload_n 3, 1) := by decide +kernel
theorem d290_370 : decode code 370 = .ok (.iconst 0, 1) := by decide +kernel
theorem d290_371 : decode code 371 = .ok (.laload, 1) := by decide +kernel
theorem d290_372 : decode code 372 = .ok (.iload 7, 2) := by decide +kernel
theorem d290_374 : decode code 374 = .ok (.i2l, 1) := by decide +kernel
theorem d290_375 : decode code 375 = .ok (.lcmp, 1) := by decide +kernel
theorem d290_376 : decode code 376 = .ok (.ifCond .eq 5, 3) := by decide +kernel
theorem d290_379 : decode code 379 = .ok (.iconst 0, 1) := by decide +kernel
theorem d290_380 : decode code 380 = .ok (.ireturn, 1) := by decide +kernel
theorem d290_381 : decode code 381 = .ok (.goto 2620, 3) := by decide +kernel
theorem d290_384 : decode code 384 = .ok (.aload_n 1, 1) := by decide +kernel
theorem d290_385 : decode code 385 = .ok (.aload_n 0, 1) := by decide +kernel
theorem d290_386 : decode code 386 = .ok (.iload 5, 2) := by decide +kernel
theorem d290_388 : decode code 388 = .ok (.iconst 1, 1) := by decide +kernel
theorem d290_389 : decode code 389 = .ok (.iadd, 1) := by decide +kernel
theorem d290_390 : decode code 390 = .ok (.iaload, 1) := by decide +kernel
theorem d290_391 : decode code 391 = .ok (.aload_n 3, 1) := by decide +kernel
theorem d290_392 : decode code 392 = .ok (.invokestatic 175, 3) := by decide +kernel
theorem d290_395 : decode code 395 = .ok (.istore 6, 2) := by decide +kernel
theorem d290_397 : decode code 397 = .ok (.aload_n 2, 1) := by decide +kernel
theorem d290_398 : decode code 398 = .ok (.aload_n 0, 1) := by decide +kernel
theorem d290_399 : decode code 399 = .ok (.iload 5, 2) := by decide +kernel
theorem d290_401 : decode code 401 = .ok (.iconst 1, 1) := by decide +kernel
theorem d290_402 : decode code 402 = .ok (.iadd, 1) := by decide +kernel
theorem d290_403 : decode code 403 = .ok (.iaload, 1) := by decide +kernel
theorem d290_404 : decode code 404 = .ok (.invokevirtual 178, 3) := by decide +kernel
theorem d290_407 : decode code 407 = .ok (.istore 7, 2) := by decide +kernel
theorem d290_409 : decode code 409 = .ok (.aload_n 2, 1) := by decide +kernel
theorem d290_410 : decode code 410 = .ok (.invokevirtual 172, 3) := by decide +kernel
theorem d290_413 : decode code 413 = .ok (.iload 6, 2) := by decide +kernel
theorem d290_415 : decode code 415 = .ok (.if_icmp .eq 5, 3) := by decide +kernel
theorem d290_418 : decode code 418 = .ok (.iconst 0, 1) := by decide +kernel
theorem d290_419 : decode code 419 = .ok (.ireturn, 1) := by decide +kernel
theorem d290_420 : decode code 420 = .ok (.iload 6, 2) := by decide +kernel
theorem d290_422 : decode code 422 = .ok (.ifCond .ne 15, 3) := by decide +kernel
theorem d290_425 : decode code 425 = .ok (.aload_n 3, 1) := by decide +kernel
theorem d290_426 : decode code 426 = .ok (.iconst 0, 1) := by decide +kernel
theorem d290_427 : decode code 427 = .ok (.laload, 1) := by decide +kernel
theorem d290_428 : decode code 428 = .ok (.iload 7, 2) := by decide +kernel
theorem d290_430 : decode code 430 = .ok (.i2l, 1) := by decide +kernel
theorem d290_431 : decode code 431 = .ok (.lcmp, 1) := by decide +kernel
theorem d290_432 : decode code 432 = .ok (.ifCond .eq 5, 3) := by decide +kernel
theorem d290_435 : decode code 435 = .ok (.iconst 0, 1) := by decide +kernel
theorem d290_436 : decode code 436 = .ok (.ireturn, 1) := by decide +kernel
theorem d290_437 : decode code 437 = .ok (.goto 2564, 3) := by decide +kernel
theorem d290_440 : decode code 440 = .ok (.aload_n 1, 1) := by decide +kernel
theorem d290_441 : decode code 441 = .ok (.aload_n 0, 1) := by decide +kernel
theorem d290_442 : decode code 442 = .ok (.iload 5, 2) := by decide +kernel
theorem d290_444 : decode code 444 = .ok (.iconst 1, 1) := by decide +kernel
theorem d290_445 : decode code 445 = .ok (.iadd, 1) := by decide +kernel
theorem d290_446 : decode code 446 = .ok (.iaload, 1) := by decide +kernel
theorem d290_447 : decode code 447 = .ok (.aload_n 0, 1) := by decide +kernel
theorem d290_448 : decode code 448 = .ok (.iload 5, 2) := by decide +kernel
theorem d290_450 : decode code 450 = .ok (.iconst 2, 1) := by decide +kernel
theorem d290_451 : decode code 451 = .ok (.iadd, 1) := by decide +kernel
theorem d290_452 : decode code 452 = .ok (.iaload, 1) := by decide +kernel
theorem d290_453 : decode code 453 = .ok (.aload_n 3, 1) := by decide +kernel
theorem d290_454 : decode code 454 = .ok (.invokestatic 179, 3) := by decide +kernel
theorem d290_457 : decode code 457 = .ok (.istore 6, 2) := by decide +kernel
theorem d290_459 : decode code 459 = .ok (.aload_n 2, 1) := by decide +kernel
theorem d290_460 : decode code 460 = .ok (.aload_n 0, 1) := by decide +kernel
theorem d290_461 : decode code 461 = .ok (.iload 5, 2) := by decide +kernel
theorem d290_463 : decode code 463 = .ok (.iconst 1, 1) := by decide +kernel
theorem d290_464 : decode code 464 = .ok (.iadd, 1) := by decide +kernel
theorem d290_465 : decode code 465 = .ok (.iaload, 1) := by decide +kernel
theorem d290_466 : decode code 466 = .ok (.aload_n 0, 1) := by decide +kernel
theorem d290_467 : decode code 467 = .ok (.iload 5, 2) := by decide +kernel
theorem d290_469 : decode code 469 = .ok (.iconst 2, 1) := by decide +kernel
theorem d290_470 : decode code 470 = .ok (.iadd, 1) := by decide +kernel
theorem d290_471 : decode code 471 = .ok (.iaload, 1) := by decide +kernel
theorem d290_472 : decode code 472 = .ok (.invokevirtual 182, 3) := by decide +kernel
theorem d290_475 : decode code 475 = .ok (.istore 7, 2) := by decide +kernel
theorem d290_477 : decode code 477 = .ok (.aload_n 2, 1) := by decide +kernel
theorem d290_478 : decode code 478 = .ok (.invokevirtual 172, 3) := by decide +kernel
theorem d290_481 : decode code 481 = .ok (.iload 6, 2) := by decide +kernel
theorem d290_483 : decode code 483 = .ok (.if_icmp .eq 5, 3) := by decide +kernel
theorem d290_486 : decode code 486 = .ok (.iconst 0, 1) := by decide +kernel
theorem d290_487 : decode code 487 = .ok (.ireturn, 1) := by decide +kernel
theorem d290_488 : decode code 488 = .ok (.iload 6, 2) := by decide +kernel
theorem d290_490 : decode code 490 = .ok (.ifCond .ne 15, 3) := by decide +kernel
theorem d290_493 : decode code 493 = .ok (.aload_n 3, 1) := by decide +kernel
theorem d290_494 : decode code 494 = .ok (.iconst 0, 1) := by decide +kernel
theorem d290_495 : decode code 495 = .ok (.laload, 1) := by decide +kernel
theorem d290_496 : decode code 496 = .ok (.iload 7, 2) := by decide +kernel
theorem d290_498 : decode code 498 = .ok (.i2l, 1) := by decide +kernel
theorem d290_499 : decode code 499 = .ok (.lcmp, 1) := by decide +kernel
theorem d290_500 : decode code 500 = .ok (.ifCond .eq 5, 3) := by decide +kernel
theorem d290_503 : decode code 503 = .ok (.iconst 0, 1) := by decide +kernel
theorem d290_504 : decode code 504 = .ok (.ireturn, 1) := by decide +kernel
theorem d290_505 : decode code 505 = .ok (.goto 2496, 3) := by decide +kernel
theorem d290_508 : decode code 508 = .ok (.aload_n 1, 1) := by decide +kernel
theorem d290_509 : decode code 509 = .ok (.aload_n 0, 1) := by decide +kernel
theorem d290_510 : decode code 510 = .ok (.iload 5, 2) := by decide +kernel
theorem d290_512 : decode code 512 = .ok (.iconst 1, 1) := by decide +kernel
theorem d290_513 : decode code 513 = .ok (.iadd, 1) := by decide +kernel
theorem d290_514 : decode code 514 = .ok (.iaload, 1) := by decide +kernel
theorem d290_515 : decode code 515 = .ok (.aload_n 3, 1) := by decide +kernel
theorem d290_516 : decode code 516 = .ok (.invokestatic 183, 3) := by decide +kernel
theorem d290_519 : decode code 519 = .ok (.istore 6, 2) := by decide +kernel
theorem d290_521 : decode code 521 = .ok (.aload_n 2, 1) := by decide +kernel
theorem d290_522 : decode code 522 = .ok (.aload_n 0, 1) := by decide +kernel
theorem d290_523 : decode code 523 = .ok (.iload 5, 2) := by decide +kernel
theorem d290_525 : decode code 525 = .ok (.iconst 1, 1) := by decide +kernel
theorem d290_526 : decode code 526 = .ok (.iadd, 1) := by decide +kernel
theorem d290_527 : decode code 527 = .ok (.iaload, 1) := by decide +kernel
theorem d290_528 : decode code 528 = .ok (.invokevirtual 185, 3) := by decide +kernel
theorem d290_531 : decode code 531 = .ok (.istore 7, 2) := by decide +kernel
theorem d290_533 : decode code 533 = .ok (.aload_n 2, 1) := by decide +kernel
theorem d290_534 : decode code 534 = .ok (.invokevirtual 172, 3) := by decide +kernel
theorem d290_537 : decode code 537 = .ok (.iload 6, 2) := by decide +kernel
theorem d290_539 : decode code 539 = .ok (.if_icmp .eq 5, 3) := by decide +kernel
theorem d290_542 : decode code 542 = .ok (.iconst 0, 1) := by decide +kernel
theorem d290_543 : decode code 543 = .ok (.ireturn, 1) := by decide +kernel
theorem d290_544 : decode code 544 = .ok (.iload 6, 2) := by decide +kernel
theorem d290_546 : decode code 546 = .ok (.ifCond .ne 15, 3) := by decide +kernel
theorem d290_549 : decode code 549 = .ok (.aload_n 3, 1) := by decide +kernel
theorem d290_550 : decode code 550 = .ok (.iconst 0, 1) := by decide +kernel
theorem d290_551 : decode code 551 = .ok (.laload, 1) := by decide +kernel
theorem d290_552 : decode code 552 = .ok (.iload 7, 2) := by decide +kernel
theorem d290_554 : decode code 554 = .ok (.i2l, 1) := by decide +kernel
theorem d290_555 : decode code 555 = .ok (.lcmp, 1) := by decide +kernel
theorem d290_556 : decode code 556 = .ok (.ifCond .eq 5, 3) := by decide +kernel
theorem d290_559 : decode code 559 = .ok (.iconst 0, 1) := by decide +kernel
theorem d290_560 : decode code 560 = .ok (.ireturn, 1) := by decide +kernel
theorem d290_561 : decode code 561 = .ok (.goto 2440, 3) := by decide +kernel
theorem d290_564 : decode code 564 = .ok (.aload_n 1, 1) := by decide +kernel
theorem d290_565 : decode code 565 = .ok (.aload_n 0, 1) := by decide +kernel
theorem d290_566 : decode code 566 = .ok (.iload 5, 2) := by decide +kernel
theorem d290_568 : decode code 568 = .ok (.iconst 1, 1) := by decide +kernel
theorem d290_569 : decode code 569 = .ok (.iadd, 1) := by decide +kernel
theorem d290_570 : decode code 570 = .ok (.iaload, 1) := by decide +kernel
theorem d290_571 : decode code 571 = .ok (.i2c, 1) := by decide +kernel
theorem d290_572 : decode code 572 = .ok (.aload_n 0, 1) := by decide +kernel
theorem d290_573 : decode code 573 = .ok (.iload 5, 2) := by decide +kernel
theorem d290_575 : decode code 575 = .ok (.iconst 2, 1) := by decide +kernel
theorem d290_576 : decode code 576 = .ok (.iadd, 1) := by decide +kernel
theorem d290_577 : decode code 577 = .ok (.iaload, 1) := by decide +kernel
theorem d290_578 : decode code 578 = .ok (.aload_n 3, 1) := by decide +kernel
theorem d290_579 : decode code 579 = .ok (.invokestatic 186, 3) := by decide +kernel
theorem d290_582 : decode code 582 = .ok (.istore 6, 2) := by decide +kernel
theorem d290_584 : decode code 584 = .ok (.aload_n 2, 1) := by decide +kernel
theorem d290_585 : decode code 585 = .ok (.aload_n 0, 1) := by decide +kernel
theorem d290_586 : decode code 586 = .ok (.iload 5, 2) := by decide +kernel
theorem d290_588 : decode code 588 = .ok (.iconst 1, 1) := by decide +kernel
theorem d290_589 : decode code 589 = .ok (.iadd, 1) := by decide +kernel
theorem d290_590 : decode code 590 = .ok (.iaload, 1) := by decide +kernel
theorem d290_591 : decode code 591 = .ok (.i2c, 1) := by decide +kernel
theorem d290_592 : decode code 592 = .ok (.aload_n 0, 1) := by decide +kernel
theorem d290_593 : decode code 593 = .ok (.iload 5, 2) := by decide +kernel
theorem d290_595 : decode code 595 = .ok (.iconst 2, 1) := by decide +kernel
theorem d290_596 : decode code 596 = .ok (.iadd, 1) := by decide +kernel
theorem d290_597 : decode code 597 = .ok (.iaload, 1) := by decide +kernel
theorem d290_598 : decode code 598 = .ok (.invokevirtual 189, 3) := by decide +kernel
theorem d290_601 : decode code 601 = .ok (.istore 7, 2) := by decide +kernel
theorem d290_603 : decode code 603 = .ok (.aload_n 2, 1) := by decide +kernel
theorem d290_604 : decode code 604 = .ok (.invokevirtual 172, 3) := by decide +kernel
theorem d290_607 : decode code 607 = .ok (.iload 6, 2) := by decide +kernel
theorem d290_609 : decode code 609 = .ok (.if_icmp .eq 5, 3) := by decide +kernel
theorem d290_612 : decode code 612 = .ok (.iconst 0, 1) := by decide +kernel
theorem d290_613 : decode code 613 = .ok (.ireturn, 1) := by decide +kernel
theorem d290_614 : decode code 614 = .ok (.iload 6, 2) := by decide +kernel
theorem d290_616 : decode code 616 = .ok (.ifCond .ne 15, 3) := by decide +kernel
theorem d290_619 : decode code 619 = .ok (.aload_n 3, 1) := by decide +kernel
theorem d290_620 : decode code 620 = .ok (.iconst 0, 1) := by decide +kernel
theorem d290_621 : decode code 621 = .ok (.laload, 1) := by decide +kernel
theorem d290_622 : decode code 622 = .ok (.iload 7, 2) := by decide +kernel
theorem d290_624 : decode code 624 = .ok (.i2l, 1) := by decide +kernel
theorem d290_625 : decode code 625 = .ok (.lcmp, 1) := by decide +kernel
theorem d290_626 : decode code 626 = .ok (.ifCond .eq 5, 3) := by decide +kernel
theorem d290_629 : decode code 629 = .ok (.iconst 0, 1) := by decide +kernel
theorem d290_630 : decode code 630 = .ok (.ireturn, 1) := by decide +kernel
theorem d290_631 : decode code 631 = .ok (.goto 2370, 3) := by decide +kernel
theorem d290_634 : decode code 634 = .ok (.aload_n 1, 1) := by decide +kernel
theorem d290_635 : decode code 635 = .ok (.aload_n 0, 1) := by decide +kernel
theorem d290_636 : decode code 636 = .ok (.iload 5, 2) := by decide +kernel
theorem d290_638 : decode code 638 = .ok (.iconst 1, 1) := by decide +kernel
theorem d290_639 : decode code 639 = .ok (.iadd, 1) := by decide +kernel
theorem d290_640 : decode code 640 = .ok (.iaload, 1) := by decide +kernel
theorem d290_641 : decode code 641 = .ok (.aload_n 0, 1) := by decide +kernel
theorem d290_642 : decode code 642 = .ok (.iload 5, 2) := by decide +kernel
theorem d290_644 : decode code 644 = .ok (.iconst 2, 1) := by decide +kernel
theorem d290_645 : decode code 645 = .ok (.iadd, 1) := by decide +kernel
theorem d290_646 : decode code 646 = .ok (.iaload, 1) := by decide +kernel
theorem d290_647 : decode code 647 = .ok (.i2c, 1) := by decide +kernel
theorem d290_648 : decode code 648 = .ok (.aload_n 0, 1) := by decide +kernel
theorem d290_649 : decode code 649 = .ok (.iload 5, 2) := by decide +kernel
theorem d290_651 : decode code 651 = .ok (.iconst 3, 1) := by decide +kernel
theorem d290_652 : decode code 652 = .ok (.iadd, 1) := by decide +kernel
theorem d290_653 : decode code 653 = .ok (.iaload, 1) := by decide +kernel
theorem d290_654 : decode code 654 = .ok (.aload_n 3, 1) := by decide +kernel
theorem d290_655 : decode code 655 = .ok (.invokestatic 190, 3) := by decide +kernel
theorem d290_658 : decode code 658 = .ok (.istore 6, 2) := by decide +kernel
theorem d290_660 : decode code 660 = .ok (.aload_n 2, 1) := by decide +kernel
theorem d290_661 : decode code 661 = .ok (.aload_n 0, 1) := by decide +kernel
theorem d290_662 : decode code 662 = .ok (.iload 5, 2) := by decide +kernel
theorem d290_664 : decode code 664 = .ok (.iconst 1, 1) := by decide +kernel
theorem d290_665 : decode code 665 = .ok (.iadd, 1) := by decide +kernel
theorem d290_666 : decode code 666 = .ok (.iaload, 1) := by decide +kernel
theorem d290_667 : decode code 667 = .ok (.aload_n 0, 1) := by decide +kernel
theorem d290_668 : decode code 668 = .ok (.iload 5, 2) := by decide +kernel
theorem d290_670 : decode code 670 = .ok (.iconst 2, 1) := by decide +kernel
theorem d290_671 : decode code 671 = .ok (.iadd, 1) := by decide +kernel
theorem d290_672 : decode code 672 = .ok (.iaload, 1) := by decide +kernel
theorem d290_673 : decode code 673 = .ok (.i2c, 1) := by decide +kernel
theorem d290_674 : decode code 674 = .ok (.aload_n 0, 1) := by decide +kernel
theorem d290_675 : decode code 675 = .ok (.iload 5, 2) := by decide +kernel
theorem d290_677 : decode code 677 = .ok (.iconst 3, 1) := by decide +kernel
theorem d290_678 : decode code 678 = .ok (.iadd, 1) := by decide +kernel
theorem d290_679 : decode code 679 = .ok (.iaload, 1) := by decide +kernel
theorem d290_680 : decode code 680 = .ok (.invokevirtual 193, 3) := by decide +kernel
theorem d290_683 : decode code 683 = .ok (.istore 7, 2) := by decide +kernel
theorem d290_685 : decode code 685 = .ok (.aload_n 2, 1) := by decide +kernel
theorem d290_686 : decode code 686 = .ok (.invokevirtual 172, 3) := by decide +kernel
theorem d290_689 : decode code 689 = .ok (.iload 6, 2) := by decide +kernel
theorem d290_691 : decode code 691 = .ok (.if_icmp .eq 5, 3) := by decide +kernel
theorem d290_694 : decode code 694 = .ok (.iconst 0, 1) := by decide +kernel
theorem d290_695 : decode code 695 = .ok (.ireturn, 1) := by decide +kernel
theorem d290_696 : decode code 696 = .ok (.iload 6, 2) := by decide +kernel
theorem d290_698 : decode code 698 = .ok (.ifCond .ne 15, 3) := by decide +kernel
theorem d290_701 : decode code 701 = .ok (.aload_n 3, 1) := by decide +kernel
theorem d290_702 : decode code 702 = .ok (.iconst 0, 1) := by decide +kernel
theorem d290_703 : decode code 703 = .ok (.laload, 1) := by decide +kernel
theorem d290_704 : decode code 704 = .ok (.iload 7, 2) := by decide +kernel
theorem d290_706 : decode code 706 = .ok (.i2l, 1) := by decide +kernel
theorem d290_707 : decode code 707 = .ok (.lcmp, 1) := by decide +kernel
theorem d290_708 : decode code 708 = .ok (.ifCond .eq 5, 3) := by decide +kernel
theorem d290_711 : decode code 711 = .ok (.iconst 0, 1) := by decide +kernel
theorem d290_712 : decode code 712 = .ok (.ireturn, 1) := by decide +kernel
theorem d290_713 : decode code 713 = .ok (.goto 2288, 3) := by decide +kernel
theorem d290_716 : decode code 716 = .ok (.aload_n 1, 1) := by decide +kernel
theorem d290_717 : decode code 717 = .ok (.aload_n 0, 1) := by decide +kernel
theorem d290_718 : decode code 718 = .ok (.iload 5, 2) := by decide +kernel
theorem d290_720 : decode code 720 = .ok (.iconst 1, 1) := by decide +kernel
theorem d290_721 : decode code 721 = .ok (.iadd, 1) := by decide +kernel
theorem d290_722 : decode code 722 = .ok (.iaload, 1) := by decide +kernel
theorem d290_723 : decode code 723 = .ok (.aload_n 0, 1) := by decide +kernel
theorem d290_724 : decode code 724 = .ok (.iload 5, 2) := by decide +kernel
theorem d290_726 : decode code 726 = .ok (.iconst 2, 1) := by decide +kernel
theorem d290_727 : decode code 727 = .ok (.iadd, 1) := by decide +kernel
theorem d290_728 : decode code 728 = .ok (.iaload, 1) := by decide +kernel
theorem d290_729 : decode code 729 = .ok (.aload_n 3, 1) := by decide +kernel
theorem d290_730 : decode code 730 = .ok (.invokestatic 194, 3) := by decide +kernel
theorem d290_733 : decode code 733 = .ok (.istore 6, 2) := by decide +kernel
theorem d290_735 : decode code 735 = .ok (.aload_n 2, 1) := by decide +kernel
theorem d290_736 : decode code 736 = .ok (.aload_n 0, 1) := by decide +kernel
theorem d290_737 : decode code 737 = .ok (.iload 5, 2) := by decide +kernel
theorem d290_739 : decode code 739 = .ok (.iconst 1, 1) := by decide +kernel
theorem d290_740 : decode code 740 = .ok (.iadd, 1) := by decide +kernel
theorem d290_741 : decode code 741 = .ok (.iaload, 1) := by decide +kernel
theorem d290_742 : decode code 742 = .ok (.aload_n 0, 1) := by decide +kernel
theorem d290_743 : decode code 743 = .ok (.iload 5, 2) := by decide +kernel
theorem d290_745 : decode code 745 = .ok (.iconst 2, 1) := by decide +kernel
theorem d290_746 : decode code 746 = .ok (.iadd, 1) := by decide +kernel
theorem d290_747 : decode code 747 = .ok (.iaload, 1) := by decide +kernel
theorem d290_748 : decode code 748 = .ok (.invokevirtual 196, 3) := by decide +kernel
theorem d290_751 : decode code 751 = .ok (.istore 7, 2) := by decide +kernel
theorem d290_753 : decode code 753 = .ok (.aload_n 2, 1) := by decide +kernel
theorem d290_754 : decode code 754 = .ok (.invokevirtual 172, 3) := by decide +kernel
theorem d290_757 : decode code 757 = .ok (.iload 6, 2) := by decide +kernel
theorem d290_759 : decode code 759 = .ok (.if_icmp .eq 5, 3) := by decide +kernel
theorem d290_762 : decode code 762 = .ok (.iconst 0, 1) := by decide +kernel
theorem d290_763 : decode code 763 = .ok (.ireturn, 1) := by decide +kernel
theorem d290_764 : decode code 764 = .ok (.iload 6, 2) := by decide +kernel
theorem d290_766 : decode code 766 = .ok (.ifCond .ne 15, 3) := by decide +kernel
theorem d290_769 : decode code 769 = .ok (.aload_n 3, 1) := by decide +kernel
theorem d290_770 : decode code 770 = .ok (.iconst 0, 1) := by decide +kernel
theorem d290_771 : decode code 771 = .ok (.laload, 1) := by decide +kernel
theorem d290_772 : decode code 772 = .ok (.iload 7, 2) := by decide +kernel
theorem d290_774 : decode code 774 = .ok (.i2l, 1) := by decide +kernel
theorem d290_775 : decode code 775 = .ok (.lcmp, 1) := by decide +kernel
theorem d290_776 : decode code 776 = .ok (.ifCond .eq 5, 3) := by decide +kernel
theorem d290_779 : decode code 779 = .ok (.iconst 0, 1) := by decide +kernel
theorem d290_780 : decode code 780 = .ok (.ireturn, 1) := by decide +kernel
theorem d290_781 : decode code 781 = .ok (.goto 2220, 3) := by decide +kernel
theorem d290_784 : decode code 784 = .ok (.aload_n 1, 1) := by decide +kernel
theorem d290_785 : decode code 785 = .ok (.aload_n 0, 1) := by decide +kernel
theorem d290_786 : decode code 786 = .ok (.iload 5, 2) := by decide +kernel
theorem d290_788 : decode code 788 = .ok (.iconst 1, 1) := by decide +kernel
theorem d290_789 : decode code 789 = .ok (.iadd, 1) := by decide +kernel
theorem d290_790 : decode code 790 = .ok (.iaload, 1) := by decide +kernel
theorem d290_791 : decode code 791 = .ok (.aload_n 0, 1) := by decide +kernel
theorem d290_792 : decode code 792 = .ok (.iload 5, 2) := by decide +kernel
theorem d290_794 : decode code 794 = .ok (.iconst 2, 1) := by decide +kernel
theorem d290_795 : decode code 795 = .ok (.iadd, 1) := by decide +kernel
theorem d290_796 : decode code 796 = .ok (.iaload, 1) := by decide +kernel
theorem d290_797 : decode code 797 = .ok (.aload_n 3, 1) := by decide +kernel
theorem d290_798 : decode code 798 = .ok (.invokestatic 197, 3) := by decide +kernel
theorem d290_801 : decode code 801 = .ok (.istore 6, 2) := by decide +kernel
theorem d290_803 : decode code 803 = .ok (.aload_n 2, 1) := by decide +kernel
theorem d290_804 : decode code 804 = .ok (.aload_n 0, 1) := by decide +kernel
theorem d290_805 : decode code 805 = .ok (.iload 5, 2) := by decide +kernel
theorem d290_807 : decode code 807 = .ok (.iconst 1, 1) := by decide +kernel
theorem d290_808 : decode code 808 = .ok (.iadd, 1) := by decide +kernel
theorem d290_809 : decode code 809 = .ok (.iaload, 1) := by decide +kernel
theorem d290_810 : decode code 810 = .ok (.aload_n 0, 1) := by decide +kernel
theorem d290_811 : decode code 811 = .ok (.iload 5, 2) := by decide +kernel
theorem d290_813 : decode code 813 = .ok (.iconst 2, 1) := by decide +kernel
theorem d290_814 : decode code 814 = .ok (.iadd, 1) := by decide +kernel
theorem d290_815 : decode code 815 = .ok (.iaload, 1) := by decide +kernel
theorem d290_816 : decode code 816 = .ok (.invokevirtual 199, 3) := by decide +kernel
theorem d290_819 : decode code 819 = .ok (.istore 7, 2) := by decide +kernel
theorem d290_821 : decode code 821 = .ok (.aload_n 2, 1) := by decide +kernel
theorem d290_822 : decode code 822 = .ok (.invokevirtual 172, 3) := by decide +kernel
theorem d290_825 : decode code 825 = .ok (.iload 6, 2) := by decide +kernel
theorem d290_827 : decode code 827 = .ok (.if_icmp .eq 5, 3) := by decide +kernel
theorem d290_830 : decode code 830 = .ok (.iconst 0, 1) := by decide +kernel
theorem d290_831 : decode code 831 = .ok (.ireturn, 1) := by decide +kernel
theorem d290_832 : decode code 832 = .ok (.iload 6, 2) := by decide +kernel
theorem d290_834 : decode code 834 = .ok (.ifCond .ne 15, 3) := by decide +kernel
theorem d290_837 : decode code 837 = .ok (.aload_n 3, 1) := by decide +kernel
theorem d290_838 : decode code 838 = .ok (.iconst 0, 1) := by decide +kernel
theorem d290_839 : decode code 839 = .ok (.laload, 1) := by decide +kernel
theorem d290_840 : decode code 840 = .ok (.iload 7, 2) := by decide +kernel
theorem d290_842 : decode code 842 = .ok (.i2l, 1) := by decide +kernel
theorem d290_843 : decode code 843 = .ok (.lcmp, 1) := by decide +kernel
theorem d290_844 : decode code 844 = .ok (.ifCond .eq 5, 3) := by decide +kernel
theorem d290_847 : decode code 847 = .ok (.iconst 0, 1) := by decide +kernel
theorem d290_848 : decode code 848 = .ok (.ireturn, 1) := by decide +kernel
theorem d290_849 : decode code 849 = .ok (.goto 2152, 3) := by decide +kernel
theorem d290_852 : decode code 852 = .ok (.aload_n 1, 1) := by decide +kernel
theorem d290_853 : decode code 853 = .ok (.aload_n 0, 1) := by decide +kernel
theorem d290_854 : decode code 854 = .ok (.iload 5, 2) := by decide +kernel
theorem d290_856 : decode code 856 = .ok (.iconst 1, 1) := by decide +kernel
theorem d290_857 : decode code 857 = .ok (.iadd, 1) := by decide +kernel
theorem d290_858 : decode code 858 = .ok (.iaload, 1) := by decide +kernel
theorem d290_859 : decode code 859 = .ok (.aload_n 0, 1) := by decide +kernel
theorem d290_860 : decode code 860 = .ok (.iload 5, 2) := by decide +kernel
theorem d290_862 : decode code 862 = .ok (.iconst 2, 1) := by decide +kernel
theorem d290_863 : decode code 863 = .ok (.iadd, 1) := by decide +kernel
theorem d290_864 : decode code 864 = .ok (.iaload, 1) := by decide +kernel
theorem d290_865 : decode code 865 = .ok (.aload_n 3, 1) := by decide +kernel
theorem d290_866 : decode code 866 = .ok (.invokestatic 200, 3) := by decide +kernel
theorem d290_869 : decode code 869 = .ok (.istore 6, 2) := by decide +kernel
theorem d290_871 : decode code 871 = .ok (.aload_n 2, 1) := by decide +kernel
theorem d290_872 : decode code 872 = .ok (.aload_n 0, 1) := by decide +kernel
