theorem rd_Lw_event_0 : decode mb_Lw_event 0 = .ok (.iload_n 2, 1) := by decide +kernel
theorem rd_Lw_event_1 : decode mb_Lw_event 1 = .ok (.bipush 10, 2) := by decide +kernel
theorem rd_Lw_event_3 : decode mb_Lw_event 3 = .ok (.iconst 4, 1) := by decide +kernel
theorem rd_Lw_event_4 : decode mb_Lw_event 4 = .ok (.invokestatic 156, 3) := by decide +kernel
theorem rd_Lw_event_7 : decode mb_Lw_event 7 = .ok (.ifCond .ne 9, 3) := by decide +kernel
theorem rd_Lw_event_10 : decode mb_Lw_event 10 = .ok (.sipush 9999, 3) := by decide +kernel
theorem rd_Lw_event_13 : decode mb_Lw_event 13 = .ok (.goto 11, 3) := by decide +kernel
theorem rd_Lw_event_16 : decode mb_Lw_event 16 = .ok (.iload_n 2, 1) := by decide +kernel
theorem rd_Lw_event_17 : decode mb_Lw_event 17 = .ok (.bipush 14, 2) := by decide +kernel
theorem rd_Lw_event_19 : decode mb_Lw_event 19 = .ok (.bipush 7, 2) := by decide +kernel
theorem rd_Lw_event_21 : decode mb_Lw_event 21 = .ok (.invokestatic 156, 3) := by decide +kernel
theorem rd_Lw_event_24 : decode mb_Lw_event 24 = .ok (.istore_n 3, 1) := by decide +kernel
theorem rd_Lw_event_25 : decode mb_Lw_event 25 = .ok (.iload_n 2, 1) := by decide +kernel
theorem rd_Lw_event_26 : decode mb_Lw_event 26 = .ok (.bipush 21, 2) := by decide +kernel
theorem rd_Lw_event_28 : decode mb_Lw_event 28 = .ok (.iconst 1, 1) := by decide +kernel
theorem rd_Lw_event_29 : decode mb_Lw_event 29 = .ok (.invokestatic 156, 3) := by decide +kernel
theorem rd_Lw_event_32 : decode mb_Lw_event 32 = .ok (.istore 4, 2) := by decide +kernel
theorem rd_Lw_event_34 : decode mb_Lw_event 34 = .ok (.iload_n 2, 1) := by decide +kernel
theorem rd_Lw_event_35 : decode mb_Lw_event 35 = .ok (.iconst 4, 1) := by decide +kernel
theorem rd_Lw_event_36 : decode mb_Lw_event 36 = .ok (.iconst 3, 1) := by decide +kernel
theorem rd_Lw_event_37 : decode mb_Lw_event 37 = .ok (.invokestatic 156, 3) := by decide +kernel
theorem rd_Lw_event_40 : decode mb_Lw_event 40 = .ok (.aload_n 1, 1) := by decide +kernel
theorem rd_Lw_event_41 : decode mb_Lw_event 41 = .ok (.getfield 35, 3) := by decide +kernel
theorem rd_Lw_event_44 : decode mb_Lw_event 44 = .ok (.invokeinterface 39 1, 5) := by decide +kernel
theorem rd_Lw_event_49 : decode mb_Lw_event 49 = .ok (.irem, 1) := by decide +kernel
theorem rd_Lw_event_50 : decode mb_Lw_event 50 = .ok (.istore 5, 2) := by decide +kernel
theorem rd_Lw_event_52 : decode mb_Lw_event 52 = .ok (.aload_n 1, 1) := by decide +kernel
theorem rd_Lw_event_53 : decode mb_Lw_event 53 = .ok (.getfield 35, 3) := by decide +kernel
theorem rd_Lw_event_56 : decode mb_Lw_event 56 = .ok (.iload 5, 2) := by decide +kernel
theorem rd_Lw_event_58 : decode mb_Lw_event 58 = .ok (.invokeinterface 50 2, 5) := by decide +kernel
theorem rd_Lw_event_63 : decode mb_Lw_event 63 = .ok (.checkcast 119, 3) := by decide +kernel
theorem rd_Lw_event_66 : decode mb_Lw_event 66 = .ok (.astore 6, 2) := by decide +kernel
theorem rd_Lw_event_68 : decode mb_Lw_event 68 = .ok (.iload_n 2, 1) := by decide +kernel
theorem rd_Lw_event_69 : decode mb_Lw_event 69 = .ok (.iconst 0, 1) := by decide +kernel
theorem rd_Lw_event_70 : decode mb_Lw_event 70 = .ok (.iconst 4, 1) := by decide +kernel
theorem rd_Lw_event_71 : decode mb_Lw_event 71 = .ok (.invokestatic 156, 3) := by decide +kernel
theorem rd_Lw_event_74 : decode mb_Lw_event 74 = .ok (.istore 7, 2) := by decide +kernel
theorem rd_Lw_event_76 : decode mb_Lw_event 76 = .ok (.iload 7, 2) := by decide +kernel
theorem rd_Lw_event_78 : decode mb_Lw_event 78 = .ok (.iconst 3, 1) := by decide +kernel
theorem rd_Lw_event_79 : decode mb_Lw_event 79 = .ok (.if_icmp .lt 15, 3) := by decide +kernel
theorem rd_Lw_event_82 : decode mb_Lw_event 82 = .ok (.aload_n 1, 1) := by decide +kernel
theorem rd_Lw_event_83 : decode mb_Lw_event 83 = .ok (.getfield 47, 3) := by decide +kernel
theorem rd_Lw_event_86 : decode mb_Lw_event 86 = .ok (.invokeinterface 162 1, 5) := by decide +kernel
theorem rd_Lw_event_91 : decode mb_Lw_event 91 = .ok (.ifCond .eq 85, 3) := by decide +kernel
theorem rd_Lw_event_94 : decode mb_Lw_event 94 = .ok (.aload_n 1, 1) := by decide +kernel
theorem rd_Lw_event_95 : decode mb_Lw_event 95 = .ok (.getfield 47, 3) := by decide +kernel
theorem rd_Lw_event_98 : decode mb_Lw_event 98 = .ok (.invokeinterface 39 1, 5) := by decide +kernel
theorem rd_Lw_event_103 : decode mb_Lw_event 103 = .ok (.bipush 40, 2) := by decide +kernel
theorem rd_Lw_event_105 : decode mb_Lw_event 105 = .ok (.if_icmp .ne 18, 3) := by decide +kernel
theorem rd_Lw_event_108 : decode mb_Lw_event 108 = .ok (.aload_n 0, 1) := by decide +kernel
theorem rd_Lw_event_109 : decode mb_Lw_event 109 = .ok (.invokevirtual 44, 3) := by decide +kernel
theorem rd_Lw_event_112 : decode mb_Lw_event 112 = .ok (.bipush 40, 2) := by decide +kernel
theorem rd_Lw_event_114 : decode mb_Lw_event 114 = .ok (.if_icmp .ne 7, 3) := by decide +kernel
theorem rd_Lw_event_117 : decode mb_Lw_event 117 = .ok (.iconst 1, 1) := by decide +kernel
theorem rd_Lw_event_118 : decode mb_Lw_event 118 = .ok (.goto 4, 3) := by decide +kernel
theorem rd_Lw_event_121 : decode mb_Lw_event 121 = .ok (.iconst 0, 1) := by decide +kernel
theorem rd_Lw_event_122 : decode mb_Lw_event 122 = .ok (.ireturn, 1) := by decide +kernel
theorem rd_Lw_event_123 : decode mb_Lw_event 123 = .ok (.new 54, 3) := by decide +kernel
theorem rd_Lw_event_126 : decode mb_Lw_event 126 = .ok (.dup, 1) := by decide +kernel
theorem rd_Lw_event_127 : decode mb_Lw_event 127 = .ok (.iload 4, 2) := by decide +kernel
theorem rd_Lw_event_129 : decode mb_Lw_event 129 = .ok (.iload_n 3, 1) := by decide +kernel
theorem rd_Lw_event_130 : decode mb_Lw_event 130 = .ok (.invokespecial 166, 3) := by decide +kernel
theorem rd_Lw_event_133 : decode mb_Lw_event 133 = .ok (.astore 8, 2) := by decide +kernel
theorem rd_Lw_event_135 : decode mb_Lw_event 135 = .ok (.aload 6, 2) := by decide +kernel
theorem rd_Lw_event_137 : decode mb_Lw_event 137 = .ok (.getfield 136, 3) := by decide +kernel
theorem rd_Lw_event_140 : decode mb_Lw_event 140 = .ok (.aload 8, 2) := by decide +kernel
theorem rd_Lw_event_142 : decode mb_Lw_event 142 = .ok (.invokeinterface 169 2, 5) := by decide +kernel
theorem rd_Lw_event_147 : decode mb_Lw_event 147 = .ok (.pop, 1) := by decide +kernel
theorem rd_Lw_event_148 : decode mb_Lw_event 148 = .ok (.aload_n 1, 1) := by decide +kernel
theorem rd_Lw_event_149 : decode mb_Lw_event 149 = .ok (.invokevirtual 27, 3) := by decide +kernel
theorem rd_Lw_event_152 : decode mb_Lw_event 152 = .ok (.aload_n 0, 1) := by decide +kernel
theorem rd_Lw_event_153 : decode mb_Lw_event 153 = .ok (.iload 5, 2) := by decide +kernel
theorem rd_Lw_event_155 : decode mb_Lw_event 155 = .ok (.iload 4, 2) := by decide +kernel
theorem rd_Lw_event_157 : decode mb_Lw_event 157 = .ok (.iload_n 3, 1) := by decide +kernel
theorem rd_Lw_event_158 : decode mb_Lw_event 158 = .ok (.invokevirtual 173, 3) := by decide +kernel
theorem rd_Lw_event_161 : decode mb_Lw_event 161 = .ok (.aload_n 1, 1) := by decide +kernel
theorem rd_Lw_event_162 : decode mb_Lw_event 162 = .ok (.aload 8, 2) := by decide +kernel
theorem rd_Lw_event_164 : decode mb_Lw_event 164 = .ok (.invokevirtual 146, 3) := by decide +kernel
theorem rd_Lw_event_167 : decode mb_Lw_event 167 = .ok (.if_icmp .ne 7, 3) := by decide +kernel
theorem rd_Lw_event_170 : decode mb_Lw_event 170 = .ok (.iconst 1, 1) := by decide +kernel
theorem rd_Lw_event_171 : decode mb_Lw_event 171 = .ok (.goto 4, 3) := by decide +kernel
theorem rd_Lw_event_174 : decode mb_Lw_event 174 = .ok (.iconst 0, 1) := by decide +kernel
theorem rd_Lw_event_175 : decode mb_Lw_event 175 = .ok (.ireturn, 1) := by decide +kernel
theorem rd_Lw_event_176 : decode mb_Lw_event 176 = .ok (.iload_n 2, 1) := by decide +kernel
theorem rd_Lw_event_177 : decode mb_Lw_event 177 = .ok (.iconst 4, 1) := by decide +kernel
theorem rd_Lw_event_178 : decode mb_Lw_event 178 = .ok (.bipush 6, 2) := by decide +kernel
theorem rd_Lw_event_180 : decode mb_Lw_event 180 = .ok (.invokestatic 156, 3) := by decide +kernel
theorem rd_Lw_event_183 : decode mb_Lw_event 183 = .ok (.aload_n 1, 1) := by decide +kernel
theorem rd_Lw_event_184 : decode mb_Lw_event 184 = .ok (.getfield 47, 3) := by decide +kernel
theorem rd_Lw_event_187 : decode mb_Lw_event 187 = .ok (.invokeinterface 39 1, 5) := by decide +kernel
theorem rd_Lw_event_192 : decode mb_Lw_event 192 = .ok (.irem, 1) := by decide +kernel
theorem rd_Lw_event_193 : decode mb_Lw_event 193 = .ok (.istore 8, 2) := by decide +kernel
theorem rd_Lw_event_195 : decode mb_Lw_event 195 = .ok (.aload_n 1, 1) := by decide +kernel
theorem rd_Lw_event_196 : decode mb_Lw_event 196 = .ok (.getfield 47, 3) := by decide +kernel
theorem rd_Lw_event_199 : decode mb_Lw_event 199 = .ok (.iload 8, 2) := by decide +kernel
theorem rd_Lw_event_201 : decode mb_Lw_event 201 = .ok (.invokeinterface 50 2, 5) := by decide +kernel
theorem rd_Lw_event_206 : decode mb_Lw_event 206 = .ok (.checkcast 54, 3) := by decide +kernel
theorem rd_Lw_event_209 : decode mb_Lw_event 209 = .ok (.astore 9, 2) := by decide +kernel
theorem rd_Lw_event_211 : decode mb_Lw_event 211 = .ok (.iload 7, 2) := by decide +kernel
theorem rd_Lw_event_213 : decode mb_Lw_event 213 = .ok (.tableswitch 642 3 13 #[59, 59, 59, 189, 219, 219, 337, 427, 427, 539, 572], 59) := by decide +kernel
theorem rd_Lw_event_272 : decode mb_Lw_event 272 = .ok (.aload_n 1, 1) := by decide +kernel
theorem rd_Lw_event_273 : decode mb_Lw_event 273 = .ok (.getfield 71, 3) := by decide +kernel
theorem rd_Lw_event_276 : decode mb_Lw_event 276 = .ok (.iload 8, 2) := by decide +kernel
theorem rd_Lw_event_278 : decode mb_Lw_event 278 = .ok (.invokeinterface 50 2, 5) := by decide +kernel
theorem rd_Lw_event_283 : decode mb_Lw_event 283 = .ok (.checkcast 63, 3) := by decide +kernel
theorem rd_Lw_event_286 : decode mb_Lw_event 286 = .ok (.invokevirtual 65, 3) := by decide +kernel
theorem rd_Lw_event_289 : decode mb_Lw_event 289 = .ok (.ifCond .eq 38, 3) := by decide +kernel
theorem rd_Lw_event_292 : decode mb_Lw_event 292 = .ok (.aload_n 1, 1) := by decide +kernel
theorem rd_Lw_event_293 : decode mb_Lw_event 293 = .ok (.getfield 71, 3) := by decide +kernel
theorem rd_Lw_event_296 : decode mb_Lw_event 296 = .ok (.iload 8, 2) := by decide +kernel
theorem rd_Lw_event_298 : decode mb_Lw_event 298 = .ok (.invokeinterface 50 2, 5) := by decide +kernel
theorem rd_Lw_event_303 : decode mb_Lw_event 303 = .ok (.checkcast 63, 3) := by decide +kernel
theorem rd_Lw_event_306 : decode mb_Lw_event 306 = .ok (.invokevirtual 65, 3) := by decide +kernel
theorem rd_Lw_event_309 : decode mb_Lw_event 309 = .ok (.iconst 3, 1) := by decide +kernel
theorem rd_Lw_event_310 : decode mb_Lw_event 310 = .ok (.if_icmp .eq 17, 3) := by decide +kernel
theorem rd_Lw_event_313 : decode mb_Lw_event 313 = .ok (.aload_n 1, 1) := by decide +kernel
theorem rd_Lw_event_314 : decode mb_Lw_event 314 = .ok (.getfield 47, 3) := by decide +kernel
theorem rd_Lw_event_317 : decode mb_Lw_event 317 = .ok (.invokeinterface 39 1, 5) := by decide +kernel
theorem rd_Lw_event_322 : decode mb_Lw_event 322 = .ok (.bipush 40, 2) := by decide +kernel
theorem rd_Lw_event_324 : decode mb_Lw_event 324 = .ok (.if_icmp .ne 25, 3) := by decide +kernel
theorem rd_Lw_event_327 : decode mb_Lw_event 327 = .ok (.aload_n 0, 1) := by decide +kernel
theorem rd_Lw_event_328 : decode mb_Lw_event 328 = .ok (.invokevirtual 44, 3) := by decide +kernel
theorem rd_Lw_event_331 : decode mb_Lw_event 331 = .ok (.aload_n 1, 1) := by decide +kernel
theorem rd_Lw_event_332 : decode mb_Lw_event 332 = .ok (.getfield 47, 3) := by decide +kernel
theorem rd_Lw_event_335 : decode mb_Lw_event 335 = .ok (.invokeinterface 39 1, 5) := by decide +kernel
theorem rd_Lw_event_340 : decode mb_Lw_event 340 = .ok (.if_icmp .ne 7, 3) := by decide +kernel
theorem rd_Lw_event_343 : decode mb_Lw_event 343 = .ok (.iconst 1, 1) := by decide +kernel
theorem rd_Lw_event_344 : decode mb_Lw_event 344 = .ok (.goto 4, 3) := by decide +kernel
theorem rd_Lw_event_347 : decode mb_Lw_event 347 = .ok (.iconst 0, 1) := by decide +kernel
theorem rd_Lw_event_348 : decode mb_Lw_event 348 = .ok (.ireturn, 1) := by decide +kernel
theorem rd_Lw_event_349 : decode mb_Lw_event 349 = .ok (.new 54, 3) := by decide +kernel
theorem rd_Lw_event_352 : decode mb_Lw_event 352 = .ok (.dup, 1) := by decide +kernel
theorem rd_Lw_event_353 : decode mb_Lw_event 353 = .ok (.iload 4, 2) := by decide +kernel
theorem rd_Lw_event_355 : decode mb_Lw_event 355 = .ok (.iload_n 3, 1) := by decide +kernel
theorem rd_Lw_event_356 : decode mb_Lw_event 356 = .ok (.invokespecial 166, 3) := by decide +kernel
theorem rd_Lw_event_359 : decode mb_Lw_event 359 = .ok (.astore 10, 2) := by decide +kernel
theorem rd_Lw_event_361 : decode mb_Lw_event 361 = .ok (.aload 9, 2) := by decide +kernel
theorem rd_Lw_event_363 : decode mb_Lw_event 363 = .ok (.getfield 96, 3) := by decide +kernel
theorem rd_Lw_event_366 : decode mb_Lw_event 366 = .ok (.aload 10, 2) := by decide +kernel
theorem rd_Lw_event_368 : decode mb_Lw_event 368 = .ok (.invokeinterface 169 2, 5) := by decide +kernel
theorem rd_Lw_event_373 : decode mb_Lw_event 373 = .ok (.pop, 1) := by decide +kernel
theorem rd_Lw_event_374 : decode mb_Lw_event 374 = .ok (.aload_n 1, 1) := by decide +kernel
theorem rd_Lw_event_375 : decode mb_Lw_event 375 = .ok (.invokevirtual 27, 3) := by decide +kernel
theorem rd_Lw_event_378 : decode mb_Lw_event 378 = .ok (.aload_n 0, 1) := by decide +kernel
theorem rd_Lw_event_379 : decode mb_Lw_event 379 = .ok (.iload 8, 2) := by decide +kernel
theorem rd_Lw_event_381 : decode mb_Lw_event 381 = .ok (.iload 4, 2) := by decide +kernel
theorem rd_Lw_event_383 : decode mb_Lw_event 383 = .ok (.iload_n 3, 1) := by decide +kernel
theorem rd_Lw_event_384 : decode mb_Lw_event 384 = .ok (.invokevirtual 176, 3) := by decide +kernel
theorem rd_Lw_event_387 : decode mb_Lw_event 387 = .ok (.aload_n 1, 1) := by decide +kernel
theorem rd_Lw_event_388 : decode mb_Lw_event 388 = .ok (.aload 10, 2) := by decide +kernel
theorem rd_Lw_event_390 : decode mb_Lw_event 390 = .ok (.invokevirtual 146, 3) := by decide +kernel
theorem rd_Lw_event_393 : decode mb_Lw_event 393 = .ok (.if_icmp .ne 7, 3) := by decide +kernel
theorem rd_Lw_event_396 : decode mb_Lw_event 396 = .ok (.iconst 1, 1) := by decide +kernel
theorem rd_Lw_event_397 : decode mb_Lw_event 397 = .ok (.goto 4, 3) := by decide +kernel
theorem rd_Lw_event_400 : decode mb_Lw_event 400 = .ok (.iconst 0, 1) := by decide +kernel
theorem rd_Lw_event_401 : decode mb_Lw_event 401 = .ok (.ireturn, 1) := by decide +kernel
theorem rd_Lw_event_402 : decode mb_Lw_event 402 = .ok (.aload 9, 2) := by decide +kernel
theorem rd_Lw_event_404 : decode mb_Lw_event 404 = .ok (.invokevirtual 179, 3) := by decide +kernel
theorem rd_Lw_event_407 : decode mb_Lw_event 407 = .ok (.istore 10, 2) := by decide +kernel
theorem rd_Lw_event_409 : decode mb_Lw_event 409 = .ok (.aload_n 1, 1) := by decide +kernel
theorem rd_Lw_event_410 : decode mb_Lw_event 410 = .ok (.aload 9, 2) := by decide +kernel
theorem rd_Lw_event_412 : decode mb_Lw_event 412 = .ok (.invokevirtual 182, 3) := by decide +kernel
theorem rd_Lw_event_415 : decode mb_Lw_event 415 = .ok (.aload_n 0, 1) := by decide +kernel
theorem rd_Lw_event_416 : decode mb_Lw_event 416 = .ok (.iload 8, 2) := by decide +kernel
theorem rd_Lw_event_418 : decode mb_Lw_event 418 = .ok (.invokevirtual 186, 3) := by decide +kernel
theorem rd_Lw_event_421 : decode mb_Lw_event 421 = .ok (.iload 10, 2) := by decide +kernel
theorem rd_Lw_event_423 : decode mb_Lw_event 423 = .ok (.if_icmp .ne 7, 3) := by decide +kernel
theorem rd_Lw_event_426 : decode mb_Lw_event 426 = .ok (.iconst 1, 1) := by decide +kernel
theorem rd_Lw_event_427 : decode mb_Lw_event 427 = .ok (.goto 4, 3) := by decide +kernel
theorem rd_Lw_event_430 : decode mb_Lw_event 430 = .ok (.iconst 0, 1) := by decide +kernel
theorem rd_Lw_event_431 : decode mb_Lw_event 431 = .ok (.ireturn, 1) := by decide +kernel
theorem rd_Lw_event_432 : decode mb_Lw_event 432 = .ok (.aload 6, 2) := by decide +kernel
theorem rd_Lw_event_434 : decode mb_Lw_event 434 = .ok (.invokevirtual 189, 3) := by decide +kernel
theorem rd_Lw_event_437 : decode mb_Lw_event 437 = .ok (.istore 10, 2) := by decide +kernel
theorem rd_Lw_event_439 : decode mb_Lw_event 439 = .ok (.aload 6, 2) := by decide +kernel
theorem rd_Lw_event_441 : decode mb_Lw_event 441 = .ok (.getfield 142, 3) := by decide +kernel
theorem rd_Lw_event_444 : decode mb_Lw_event 444 = .ok (.ifnonnull 46, 3) := by decide +kernel
theorem rd_Lw_event_447 : decode mb_Lw_event 447 = .ok (.aload 6, 2) := by decide +kernel
theorem rd_Lw_event_449 : decode mb_Lw_event 449 = .ok (.getfield 136, 3) := by decide +kernel
theorem rd_Lw_event_452 : decode mb_Lw_event 452 = .ok (.invokeinterface 162 1, 5) := by decide +kernel
theorem rd_Lw_event_457 : decode mb_Lw_event 457 = .ok (.ifCond .ne 33, 3) := by decide +kernel
theorem rd_Lw_event_460 : decode mb_Lw_event 460 = .ok (.aload 6, 2) := by decide +kernel
theorem rd_Lw_event_462 : decode mb_Lw_event 462 = .ok (.invokevirtual 192, 3) := by decide +kernel
theorem rd_Lw_event_465 : decode mb_Lw_event 465 = .ok (.ifCond .gt 25, 3) := by decide +kernel
theorem rd_Lw_event_468 : decode mb_Lw_event 468 = .ok (.iload 10, 2) := by decide +kernel
theorem rd_Lw_event_470 : decode mb_Lw_event 470 = .ok (.sipush 9999, 3) := by decide +kernel
theorem rd_Lw_event_473 : decode mb_Lw_event 473 = .ok (.if_icmp .gt 17, 3) := by decide +kernel
theorem rd_Lw_event_476 : decode mb_Lw_event 476 = .ok (.aload_n 1, 1) := by decide +kernel
theorem rd_Lw_event_477 : decode mb_Lw_event 477 = .ok (.getfield 47, 3) := by decide +kernel
theorem rd_Lw_event_480 : decode mb_Lw_event 480 = .ok (.invokeinterface 39 1, 5) := by decide +kernel
theorem rd_Lw_event_485 : decode mb_Lw_event 485 = .ok (.bipush 40, 2) := by decide +kernel
theorem rd_Lw_event_487 : decode mb_Lw_event 487 = .ok (.if_icmp .ne 28, 3) := by decide +kernel
theorem rd_Lw_event_490 : decode mb_Lw_event 490 = .ok (.aload_n 0, 1) := by decide +kernel
theorem rd_Lw_event_491 : decode mb_Lw_event 491 = .ok (.iload 5, 2) := by decide +kernel
theorem rd_Lw_event_493 : decode mb_Lw_event 493 = .ok (.invokevirtual 133, 3) := by decide +kernel
theorem rd_Lw_event_496 : decode mb_Lw_event 496 = .ok (.aload 6, 2) := by decide +kernel
theorem rd_Lw_event_498 : decode mb_Lw_event 498 = .ok (.getfield 136, 3) := by decide +kernel
theorem rd_Lw_event_501 : decode mb_Lw_event 501 = .ok (.invokeinterface 39 1, 5) := by decide +kernel
theorem rd_Lw_event_506 : decode mb_Lw_event 506 = .ok (.if_icmp .ne 7, 3) := by decide +kernel
theorem rd_Lw_event_509 : decode mb_Lw_event 509 = .ok (.iconst 1, 1) := by decide +kernel
theorem rd_Lw_event_510 : decode mb_Lw_event 510 = .ok (.goto 4, 3) := by decide +kernel
theorem rd_Lw_event_513 : decode mb_Lw_event 513 = .ok (.iconst 0, 1) := by decide +kernel
