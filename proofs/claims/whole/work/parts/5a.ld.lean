abbrev mb_Law_law : ByteArray := code
theorem rd_Law_law_0 : decode mb_Law_law 0 = .ok (.new 8, 3) := by decide +kernel
theorem rd_Law_law_3 : decode mb_Law_law 3 = .ok (.dup, 1) := by decide +kernel
theorem rd_Law_law_4 : decode mb_Law_law 4 = .ok (.invokespecial 130, 3) := by decide +kernel
theorem rd_Law_law_7 : decode mb_Law_law 7 = .ok (.astore_n 1, 1) := by decide +kernel
theorem rd_Law_law_8 : decode mb_Law_law 8 = .ok (.new 131, 3) := by decide +kernel
theorem rd_Law_law_11 : decode mb_Law_law 11 = .ok (.dup, 1) := by decide +kernel
theorem rd_Law_law_12 : decode mb_Law_law 12 = .ok (.invokespecial 133, 3) := by decide +kernel
theorem rd_Law_law_15 : decode mb_Law_law 15 = .ok (.astore_n 2, 1) := by decide +kernel
theorem rd_Law_law_16 : decode mb_Law_law 16 = .ok (.iconst 1, 1) := by decide +kernel
theorem rd_Law_law_17 : decode mb_Law_law 17 = .ok (.newarray .long, 2) := by decide +kernel
theorem rd_Law_law_19 : decode mb_Law_law 19 = .ok (.astore_n 3, 1) := by decide +kernel
theorem rd_Law_law_20 : decode mb_Law_law 20 = .ok (.iconst 0, 1) := by decide +kernel
theorem rd_Law_law_21 : decode mb_Law_law 21 = .ok (.istore 4, 2) := by decide +kernel
theorem rd_Law_law_23 : decode mb_Law_law 23 = .ok (.iload 4, 2) := by decide +kernel
theorem rd_Law_law_25 : decode mb_Law_law 25 = .ok (.aload_n 0, 1) := by decide +kernel
theorem rd_Law_law_26 : decode mb_Law_law 26 = .ok (.arraylength, 1) := by decide +kernel
theorem rd_Law_law_27 : decode mb_Law_law 27 = .ok (.bipush 6, 2) := by decide +kernel
theorem rd_Law_law_29 : decode mb_Law_law 29 = .ok (.isub, 1) := by decide +kernel
theorem rd_Law_law_30 : decode mb_Law_law 30 = .ok (.if_icmp .gt 2760, 3) := by decide +kernel
theorem rd_Law_law_33 : decode mb_Law_law 33 = .ok (.aload_n 0, 1) := by decide +kernel
theorem rd_Law_law_34 : decode mb_Law_law 34 = .ok (.iload 4, 2) := by decide +kernel
theorem rd_Law_law_36 : decode mb_Law_law 36 = .ok (.iaload, 1) := by decide +kernel
theorem rd_Law_law_37 : decode mb_Law_law 37 = .ok (.bipush 63, 2) := by decide +kernel
theorem rd_Law_law_39 : decode mb_Law_law 39 = .ok (.iand, 1) := by decide +kernel
theorem rd_Law_law_40 : decode mb_Law_law 40 = .ok (.tableswitch 2744 0 54 #[236, 309, 334, 347, 360, 373, 386, 399, 412, 425, 438, 451, 464, 532, 588, 644, 700, 756, 812, 868, 924, 980, 1036, 1104, 1167, 1223, 1279, 1335, 1391, 1447, 1503, 1559, 1615, 1671, 1727, 1783, 1839, 1852, 1865, 1906, 1949, 1962, 2006, 2086, 2166, 2222, 2290, 2370, 2438, 2506, 2562, 2606, 2662, 2687, 2700], 236) := by decide +kernel
theorem rd_Law_law_276 : decode mb_Law_law 276 = .ok (.aload_n 1, 1) := by decide +kernel
theorem rd_Law_law_277 : decode mb_Law_law 277 = .ok (.aload_n 0, 1) := by decide +kernel
theorem rd_Law_law_278 : decode mb_Law_law 278 = .ok (.iload 4, 2) := by decide +kernel
theorem rd_Law_law_280 : decode mb_Law_law 280 = .ok (.iconst 1, 1) := by decide +kernel
theorem rd_Law_law_281 : decode mb_Law_law 281 = .ok (.iadd, 1) := by decide +kernel
theorem rd_Law_law_282 : decode mb_Law_law 282 = .ok (.iaload, 1) := by decide +kernel
theorem rd_Law_law_283 : decode mb_Law_law 283 = .ok (.aload_n 0, 1) := by decide +kernel
theorem rd_Law_law_284 : decode mb_Law_law 284 = .ok (.iload 4, 2) := by decide +kernel
theorem rd_Law_law_286 : decode mb_Law_law 286 = .ok (.iconst 2, 1) := by decide +kernel
theorem rd_Law_law_287 : decode mb_Law_law 287 = .ok (.iadd, 1) := by decide +kernel
theorem rd_Law_law_288 : decode mb_Law_law 288 = .ok (.iaload, 1) := by decide +kernel
theorem rd_Law_law_289 : decode mb_Law_law 289 = .ok (.aload_n 0, 1) := by decide +kernel
theorem rd_Law_law_290 : decode mb_Law_law 290 = .ok (.iload 4, 2) := by decide +kernel
theorem rd_Law_law_292 : decode mb_Law_law 292 = .ok (.iconst 3, 1) := by decide +kernel
theorem rd_Law_law_293 : decode mb_Law_law 293 = .ok (.iadd, 1) := by decide +kernel
theorem rd_Law_law_294 : decode mb_Law_law 294 = .ok (.iaload, 1) := by decide +kernel
theorem rd_Law_law_295 : decode mb_Law_law 295 = .ok (.aload_n 0, 1) := by decide +kernel
theorem rd_Law_law_296 : decode mb_Law_law 296 = .ok (.iload 4, 2) := by decide +kernel
theorem rd_Law_law_298 : decode mb_Law_law 298 = .ok (.iconst 4, 1) := by decide +kernel
theorem rd_Law_law_299 : decode mb_Law_law 299 = .ok (.iadd, 1) := by decide +kernel
theorem rd_Law_law_300 : decode mb_Law_law 300 = .ok (.iaload, 1) := by decide +kernel
theorem rd_Law_law_301 : decode mb_Law_law 301 = .ok (.aload_n 0, 1) := by decide +kernel
theorem rd_Law_law_302 : decode mb_Law_law 302 = .ok (.iload 4, 2) := by decide +kernel
theorem rd_Law_law_304 : decode mb_Law_law 304 = .ok (.iconst 5, 1) := by decide +kernel
theorem rd_Law_law_305 : decode mb_Law_law 305 = .ok (.iadd, 1) := by decide +kernel
theorem rd_Law_law_306 : decode mb_Law_law 306 = .ok (.iaload, 1) := by decide +kernel
theorem rd_Law_law_307 : decode mb_Law_law 307 = .ok (.invokevirtual 134, 3) := by decide +kernel
theorem rd_Law_law_310 : decode mb_Law_law 310 = .ok (.aload_n 2, 1) := by decide +kernel
theorem rd_Law_law_311 : decode mb_Law_law 311 = .ok (.aload_n 0, 1) := by decide +kernel
theorem rd_Law_law_312 : decode mb_Law_law 312 = .ok (.iload 4, 2) := by decide +kernel
theorem rd_Law_law_314 : decode mb_Law_law 314 = .ok (.iconst 1, 1) := by decide +kernel
theorem rd_Law_law_315 : decode mb_Law_law 315 = .ok (.iadd, 1) := by decide +kernel
theorem rd_Law_law_316 : decode mb_Law_law 316 = .ok (.iaload, 1) := by decide +kernel
theorem rd_Law_law_317 : decode mb_Law_law 317 = .ok (.aload_n 0, 1) := by decide +kernel
theorem rd_Law_law_318 : decode mb_Law_law 318 = .ok (.iload 4, 2) := by decide +kernel
theorem rd_Law_law_320 : decode mb_Law_law 320 = .ok (.iconst 2, 1) := by decide +kernel
theorem rd_Law_law_321 : decode mb_Law_law 321 = .ok (.iadd, 1) := by decide +kernel
theorem rd_Law_law_322 : decode mb_Law_law 322 = .ok (.iaload, 1) := by decide +kernel
theorem rd_Law_law_323 : decode mb_Law_law 323 = .ok (.aload_n 0, 1) := by decide +kernel
theorem rd_Law_law_324 : decode mb_Law_law 324 = .ok (.iload 4, 2) := by decide +kernel
theorem rd_Law_law_326 : decode mb_Law_law 326 = .ok (.iconst 3, 1) := by decide +kernel
theorem rd_Law_law_327 : decode mb_Law_law 327 = .ok (.iadd, 1) := by decide +kernel
theorem rd_Law_law_328 : decode mb_Law_law 328 = .ok (.iaload, 1) := by decide +kernel
theorem rd_Law_law_329 : decode mb_Law_law 329 = .ok (.aload_n 0, 1) := by decide +kernel
theorem rd_Law_law_330 : decode mb_Law_law 330 = .ok (.iload 4, 2) := by decide +kernel
theorem rd_Law_law_332 : decode mb_Law_law 332 = .ok (.iconst 4, 1) := by decide +kernel
theorem rd_Law_law_333 : decode mb_Law_law 333 = .ok (.iadd, 1) := by decide +kernel
theorem rd_Law_law_334 : decode mb_Law_law 334 = .ok (.iaload, 1) := by decide +kernel
theorem rd_Law_law_335 : decode mb_Law_law 335 = .ok (.aload_n 0, 1) := by decide +kernel
theorem rd_Law_law_336 : decode mb_Law_law 336 = .ok (.iload 4, 2) := by decide +kernel
theorem rd_Law_law_338 : decode mb_Law_law 338 = .ok (.iconst 5, 1) := by decide +kernel
theorem rd_Law_law_339 : decode mb_Law_law 339 = .ok (.iadd, 1) := by decide +kernel
theorem rd_Law_law_340 : decode mb_Law_law 340 = .ok (.iaload, 1) := by decide +kernel
theorem rd_Law_law_341 : decode mb_Law_law 341 = .ok (.invokevirtual 138, 3) := by decide +kernel
theorem rd_Law_law_344 : decode mb_Law_law 344 = .ok (.if_icmp .eq 2440, 3) := by decide +kernel
theorem rd_Law_law_349 : decode mb_Law_law 349 = .ok (.aload_n 1, 1) := by decide +kernel
theorem rd_Law_law_350 : decode mb_Law_law 350 = .ok (.aload_n 0, 1) := by decide +kernel
theorem rd_Law_law_351 : decode mb_Law_law 351 = .ok (.iload 4, 2) := by decide +kernel
theorem rd_Law_law_353 : decode mb_Law_law 353 = .ok (.iconst 1, 1) := by decide +kernel
theorem rd_Law_law_354 : decode mb_Law_law 354 = .ok (.iadd, 1) := by decide +kernel
theorem rd_Law_law_355 : decode mb_Law_law 355 = .ok (.iaload, 1) := by decide +kernel
theorem rd_Law_law_356 : decode mb_Law_law 356 = .ok (.invokevirtual 139, 3) := by decide +kernel
theorem rd_Law_law_359 : decode mb_Law_law 359 = .ok (.aload_n 2, 1) := by decide +kernel
theorem rd_Law_law_360 : decode mb_Law_law 360 = .ok (.aload_n 0, 1) := by decide +kernel
theorem rd_Law_law_361 : decode mb_Law_law 361 = .ok (.iload 4, 2) := by decide +kernel
theorem rd_Law_law_363 : decode mb_Law_law 363 = .ok (.iconst 1, 1) := by decide +kernel
theorem rd_Law_law_364 : decode mb_Law_law 364 = .ok (.iadd, 1) := by decide +kernel
theorem rd_Law_law_365 : decode mb_Law_law 365 = .ok (.iaload, 1) := by decide +kernel
theorem rd_Law_law_366 : decode mb_Law_law 366 = .ok (.invokevirtual 142, 3) := by decide +kernel
theorem rd_Law_law_369 : decode mb_Law_law 369 = .ok (.if_icmp .eq 2415, 3) := by decide +kernel
theorem rd_Law_law_374 : decode mb_Law_law 374 = .ok (.aload_n 1, 1) := by decide +kernel
theorem rd_Law_law_375 : decode mb_Law_law 375 = .ok (.invokevirtual 143, 3) := by decide +kernel
theorem rd_Law_law_378 : decode mb_Law_law 378 = .ok (.aload_n 2, 1) := by decide +kernel
theorem rd_Law_law_379 : decode mb_Law_law 379 = .ok (.invokevirtual 146, 3) := by decide +kernel
theorem rd_Law_law_382 : decode mb_Law_law 382 = .ok (.if_icmp .eq 2402, 3) := by decide +kernel
theorem rd_Law_law_387 : decode mb_Law_law 387 = .ok (.aload_n 1, 1) := by decide +kernel
theorem rd_Law_law_388 : decode mb_Law_law 388 = .ok (.invokevirtual 147, 3) := by decide +kernel
theorem rd_Law_law_391 : decode mb_Law_law 391 = .ok (.aload_n 2, 1) := by decide +kernel
theorem rd_Law_law_392 : decode mb_Law_law 392 = .ok (.invokevirtual 150, 3) := by decide +kernel
theorem rd_Law_law_395 : decode mb_Law_law 395 = .ok (.if_icmp .eq 2389, 3) := by decide +kernel
theorem rd_Law_law_400 : decode mb_Law_law 400 = .ok (.aload_n 1, 1) := by decide +kernel
theorem rd_Law_law_401 : decode mb_Law_law 401 = .ok (.invokevirtual 151, 3) := by decide +kernel
theorem rd_Law_law_404 : decode mb_Law_law 404 = .ok (.aload_n 2, 1) := by decide +kernel
theorem rd_Law_law_405 : decode mb_Law_law 405 = .ok (.invokevirtual 154, 3) := by decide +kernel
theorem rd_Law_law_408 : decode mb_Law_law 408 = .ok (.if_icmp .eq 2376, 3) := by decide +kernel
theorem rd_Law_law_413 : decode mb_Law_law 413 = .ok (.aload_n 1, 1) := by decide +kernel
theorem rd_Law_law_414 : decode mb_Law_law 414 = .ok (.invokevirtual 155, 3) := by decide +kernel
theorem rd_Law_law_417 : decode mb_Law_law 417 = .ok (.aload_n 2, 1) := by decide +kernel
theorem rd_Law_law_418 : decode mb_Law_law 418 = .ok (.invokevirtual 158, 3) := by decide +kernel
theorem rd_Law_law_421 : decode mb_Law_law 421 = .ok (.if_icmp .eq 2363, 3) := by decide +kernel
theorem rd_Law_law_426 : decode mb_Law_law 426 = .ok (.aload_n 1, 1) := by decide +kernel
theorem rd_Law_law_427 : decode mb_Law_law 427 = .ok (.invokevirtual 159, 3) := by decide +kernel
theorem rd_Law_law_430 : decode mb_Law_law 430 = .ok (.aload_n 2, 1) := by decide +kernel
theorem rd_Law_law_431 : decode mb_Law_law 431 = .ok (.invokevirtual 162, 3) := by decide +kernel
theorem rd_Law_law_434 : decode mb_Law_law 434 = .ok (.if_icmp .eq 2350, 3) := by decide +kernel
theorem rd_Law_law_439 : decode mb_Law_law 439 = .ok (.aload_n 1, 1) := by decide +kernel
theorem rd_Law_law_440 : decode mb_Law_law 440 = .ok (.invokevirtual 163, 3) := by decide +kernel
theorem rd_Law_law_443 : decode mb_Law_law 443 = .ok (.aload_n 2, 1) := by decide +kernel
theorem rd_Law_law_444 : decode mb_Law_law 444 = .ok (.invokevirtual 166, 3) := by decide +kernel
theorem rd_Law_law_447 : decode mb_Law_law 447 = .ok (.if_icmp .eq 2337, 3) := by decide +kernel
theorem rd_Law_law_452 : decode mb_Law_law 452 = .ok (.aload_n 1, 1) := by decide +kernel
theorem rd_Law_law_453 : decode mb_Law_law 453 = .ok (.invokevirtual 167, 3) := by decide +kernel
theorem rd_Law_law_456 : decode mb_Law_law 456 = .ok (.aload_n 2, 1) := by decide +kernel
theorem rd_Law_law_457 : decode mb_Law_law 457 = .ok (.invokevirtual 170, 3) := by decide +kernel
theorem rd_Law_law_460 : decode mb_Law_law 460 = .ok (.if_icmp .eq 2324, 3) := by decide +kernel
theorem rd_Law_law_465 : decode mb_Law_law 465 = .ok (.aload_n 1, 1) := by decide +kernel
theorem rd_Law_law_466 : decode mb_Law_law 466 = .ok (.invokevirtual 171, 3) := by decide +kernel
theorem rd_Law_law_469 : decode mb_Law_law 469 = .ok (.aload_n 2, 1) := by decide +kernel
theorem rd_Law_law_470 : decode mb_Law_law 470 = .ok (.invokevirtual 174, 3) := by decide +kernel
theorem rd_Law_law_473 : decode mb_Law_law 473 = .ok (.if_icmp .eq 2311, 3) := by decide +kernel
theorem rd_Law_law_478 : decode mb_Law_law 478 = .ok (.aload_n 1, 1) := by decide +kernel
theorem rd_Law_law_479 : decode mb_Law_law 479 = .ok (.invokevirtual 175, 3) := by decide +kernel
theorem rd_Law_law_482 : decode mb_Law_law 482 = .ok (.aload_n 2, 1) := by decide +kernel
theorem rd_Law_law_483 : decode mb_Law_law 483 = .ok (.invokevirtual 178, 3) := by decide +kernel
theorem rd_Law_law_486 : decode mb_Law_law 486 = .ok (.if_icmp .eq 2298, 3) := by decide +kernel
theorem rd_Law_law_491 : decode mb_Law_law 491 = .ok (.aload_n 1, 1) := by decide +kernel
theorem rd_Law_law_492 : decode mb_Law_law 492 = .ok (.invokevirtual 179, 3) := by decide +kernel
theorem rd_Law_law_495 : decode mb_Law_law 495 = .ok (.aload_n 2, 1) := by decide +kernel
theorem rd_Law_law_496 : decode mb_Law_law 496 = .ok (.invokevirtual 182, 3) := by decide +kernel
theorem rd_Law_law_499 : decode mb_Law_law 499 = .ok (.if_icmp .eq 2285, 3) := by decide +kernel
theorem rd_Law_law_504 : decode mb_Law_law 504 = .ok (.aload_n 1, 1) := by decide +kernel
theorem rd_Law_law_505 : decode mb_Law_law 505 = .ok (.aload_n 0, 1) := by decide +kernel
theorem rd_Law_law_506 : decode mb_Law_law 506 = .ok (.iload 4, 2) := by decide +kernel
theorem rd_Law_law_508 : decode mb_Law_law 508 = .ok (.iconst 1, 1) := by decide +kernel
theorem rd_Law_law_509 : decode mb_Law_law 509 = .ok (.iadd, 1) := by decide +kernel
theorem rd_Law_law_510 : decode mb_Law_law 510 = .ok (.iaload, 1) := by decide +kernel
theorem rd_Law_law_511 : decode mb_Law_law 511 = .ok (.aload_n 0, 1) := by decide +kernel
theorem rd_Law_law_512 : decode mb_Law_law 512 = .ok (.iload 4, 2) := by decide +kernel
theorem rd_Law_law_514 : decode mb_Law_law 514 = .ok (.iconst 2, 1) := by decide +kernel
theorem rd_Law_law_515 : decode mb_Law_law 515 = .ok (.iadd, 1) := by decide +kernel
theorem rd_Law_law_516 : decode mb_Law_law 516 = .ok (.iaload, 1) := by decide +kernel
theorem rd_Law_law_517 : decode mb_Law_law 517 = .ok (.aload_n 3, 1) := by decide +kernel
theorem rd_Law_law_518 : decode mb_Law_law 518 = .ok (.invokestatic 183, 3) := by decide +kernel
theorem rd_Law_law_521 : decode mb_Law_law 521 = .ok (.istore 5, 2) := by decide +kernel
theorem rd_Law_law_523 : decode mb_Law_law 523 = .ok (.aload_n 2, 1) := by decide +kernel
theorem rd_Law_law_524 : decode mb_Law_law 524 = .ok (.aload_n 0, 1) := by decide +kernel
theorem rd_Law_law_525 : decode mb_Law_law 525 = .ok (.iload 4, 2) := by decide +kernel
theorem rd_Law_law_527 : decode mb_Law_law 527 = .ok (.iconst 1, 1) := by decide +kernel
theorem rd_Law_law_528 : decode mb_Law_law 528 = .ok (.iadd, 1) := by decide +kernel
theorem rd_Law_law_529 : decode mb_Law_law 529 = .ok (.iaload, 1) := by decide +kernel
theorem rd_Law_law_530 : decode mb_Law_law 530 = .ok (.aload_n 0, 1) := by decide +kernel
theorem rd_Law_law_531 : decode mb_Law_law 531 = .ok (.iload 4, 2) := by decide +kernel
theorem rd_Law_law_533 : decode mb_Law_law 533 = .ok (.iconst 2, 1) := by decide +kernel
theorem rd_Law_law_534 : decode mb_Law_law 534 = .ok (.iadd, 1) := by decide +kernel
theorem rd_Law_law_535 : decode mb_Law_law 535 = .ok (.iaload, 1) := by decide +kernel
theorem rd_Law_law_536 : decode mb_Law_law 536 = .ok (.invokevirtual 188, 3) := by decide +kernel
theorem rd_Law_law_539 : decode mb_Law_law 539 = .ok (.istore 6, 2) := by decide +kernel
theorem rd_Law_law_541 : decode mb_Law_law 541 = .ok (.aload_n 2, 1) := by decide +kernel
theorem rd_Law_law_542 : decode mb_Law_law 542 = .ok (.invokevirtual 189, 3) := by decide +kernel
theorem rd_Law_law_545 : decode mb_Law_law 545 = .ok (.iload 5, 2) := by decide +kernel
theorem rd_Law_law_547 : decode mb_Law_law 547 = .ok (.if_icmp .eq 5, 3) := by decide +kernel
theorem rd_Law_law_552 : decode mb_Law_law 552 = .ok (.iload 5, 2) := by decide +kernel
theorem rd_Law_law_554 : decode mb_Law_law 554 = .ok (.ifCond .ne 15, 3) := by decide +kernel
theorem rd_Law_law_557 : decode mb_Law_law 557 = .ok (.aload_n 3, 1) := by decide +kernel
theorem rd_Law_law_558 : decode mb_Law_law 558 = .ok (.iconst 0, 1) := by decide +kernel
theorem rd_Law_law_559 : decode mb_Law_law 559 = .ok (.laload, 1) := by decide +kernel
theorem rd_Law_law_560 : decode mb_Law_law 560 = .ok (.iload 6, 2) := by decide +kernel
theorem rd_Law_law_562 : decode mb_Law_law 562 = .ok (.i2l, 1) := by decide +kernel
theorem rd_Law_law_563 : decode mb_Law_law 563 = .ok (.lcmp, 1) := by decide +kernel
theorem rd_Law_law_564 : decode mb_Law_law 564 = .ok (.ifCond .eq 5, 3) := by decide +kernel
theorem rd_Law_law_569 : decode mb_Law_law 569 = .ok (.goto 2215, 3) := by decide +kernel
theorem rd_Law_law_572 : decode mb_Law_law 572 = .ok (.aload_n 1, 1) := by decide +kernel
theorem rd_Law_law_573 : decode mb_Law_law 573 = .ok (.aload_n 0, 1) := by decide +kernel
theorem rd_Law_law_574 : decode mb_Law_law 574 = .ok (.iload 4, 2) := by decide +kernel
theorem rd_Law_law_576 : decode mb_Law_law 576 = .ok (.iconst 1, 1) := by decide +kernel
theorem rd_Law_law_577 : decode mb_Law_law 577 = .ok (.iadd, 1) := by decide +kernel
theorem rd_Law_law_578 : decode mb_Law_law 578 = .ok (.iaload, 1) := by decide +kernel
theorem rd_Law_law_579 : decode mb_Law_law 579 = .ok (.aload_n 3, 1) := by decide +kernel
theorem rd_Law_law_580 : decode mb_Law_law 580 = .ok (.invokestatic 192, 3) := by decide +kernel
theorem rd_Law_law_583 : decode mb_Law_law 583 = .ok (.istore 5, 2) := by decide +kernel
theorem rd_Law_law_585 : decode mb_Law_law 585 = .ok (.aload_n 2, 1) := by decide +kernel
theorem rd_Law_law_586 : decode mb_Law_law 586 = .ok (.aload_n 0, 1) := by decide +kernel
theorem rd_Law_law_587 : decode mb_Law_law 587 = .ok (.iload 4, 2) := by decide +kernel
theorem rd_Law_law_589 : decode mb_Law_law 589 = .ok (.iconst 1, 1) := by decide +kernel
theorem rd_Law_law_590 : decode mb_Law_law 590 = .ok (.iadd, 1) := by decide +kernel
theorem rd_Law_law_591 : decode mb_Law_law 591 = .ok (.iaload, 1) := by decide +kernel
theorem rd_Law_law_592 : decode mb_Law_law 592 = .ok (.invokevirtual 195, 3) := by decide +kernel
theorem rd_Law_law_595 : decode mb_Law_law 595 = .ok (.istore 6, 2) := by decide +kernel
theorem rd_Law_law_597 : decode mb_Law_law 597 = .ok (.aload_n 2, 1) := by decide +kernel
theorem rd_Law_law_598 : decode mb_Law_law 598 = .ok (.invokevirtual 189, 3) := by decide +kernel
theorem rd_Law_law_601 : decode mb_Law_law 601 = .ok (.iload 5, 2) := by decide +kernel
theorem rd_Law_law_603 : decode mb_Law_law 603 = .ok (.if_icmp .eq 5, 3) := by decide +kernel
theorem rd_Law_law_608 : decode mb_Law_law 608 = .ok (.iload 5, 2) := by decide +kernel
theorem rd_Law_law_610 : decode mb_Law_law 610 = .ok (.ifCond .ne 15, 3) := by decide +kernel
theorem rd_Law_law_613 : decode mb_Law_law 613 = .ok (.aload_n 3, 1) := by decide +kernel
theorem rd_Law_law_614 : decode mb_Law_law 614 = .ok (.iconst 0, 1) := by decide +kernel
theorem rd_Law_law_615 : decode mb_Law_law 615 = .ok (.laload, 1) := by decide +kernel
theorem rd_Law_law_616 : decode mb_Law_law 616 = .ok (.iload 6, 2) := by decide +kernel
theorem rd_Law_law_618 : decode mb_Law_law 618 = .ok (.i2l, 1) := by decide +kernel
theorem rd_Law_law_619 : decode mb_Law_law 619 = .ok (.lcmp, 1) := by decide +kernel
theorem rd_Law_law_620 : decode mb_Law_law 620 = .ok (.ifCond .eq 5, 3) := by decide +kernel
theorem rd_Law_law_625 : decode mb_Law_law 625 = .ok (.goto 2159, 3) := by decide +kernel
theorem rd_Law_law_628 : decode mb_Law_law 628 = .ok (.aload_n 1, 1) := by decide +kernel
theorem rd_Law_law_629 : decode mb_Law_law 629 = .ok (.aload_n 0, 1) := by decide +kernel
theorem rd_Law_law_630 : decode mb_Law_law 630 = .ok (.iload 4, 2) := by decide +kernel
