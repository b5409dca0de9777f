theorem rd_Lw_law_0 : decode code 0 = .ok (.new 18, 3) := by decide +kernel
theorem rd_Lw_law_3 : decode code 3 = .ok (.dup, 1) := by decide +kernel
theorem rd_Lw_law_4 : decode code 4 = .ok (.invokespecial 220, 3) := by decide +kernel
theorem rd_Lw_law_7 : decode code 7 = .ok (.astore_n 1, 1) := by decide +kernel
theorem rd_Lw_law_8 : decode code 8 = .ok (.new 28, 3) := by decide +kernel
theorem rd_Lw_law_11 : decode code 11 = .ok (.dup, 1) := by decide +kernel
theorem rd_Lw_law_12 : decode code 12 = .ok (.invokespecial 221, 3) := by decide +kernel
theorem rd_Lw_law_15 : decode code 15 = .ok (.astore_n 2, 1) := by decide +kernel
theorem rd_Lw_law_16 : decode code 16 = .ok (.aload_n 0, 1) := by decide +kernel
theorem rd_Lw_law_17 : decode code 17 = .ok (.iconst 0, 1) := by decide +kernel
theorem rd_Lw_law_18 : decode code 18 = .ok (.invokestatic 222, 3) := by decide +kernel
theorem rd_Lw_law_21 : decode code 21 = .ok (.istore_n 3, 1) := by decide +kernel
theorem rd_Lw_law_22 : decode code 22 = .ok (.new 226, 3) := by decide +kernel
theorem rd_Lw_law_25 : decode code 25 = .ok (.dup, 1) := by decide +kernel
theorem rd_Lw_law_26 : decode code 26 = .ok (.ldc 228, 2) := by decide +kernel
theorem rd_Lw_law_28 : decode code 28 = .ok (.invokespecial 230, 3) := by decide +kernel
theorem rd_Lw_law_31 : decode code 31 = .ok (.astore 4, 2) := by decide +kernel
theorem rd_Lw_law_33 : decode code 33 = .ok (.iconst 1, 1) := by decide +kernel
theorem rd_Lw_law_34 : decode code 34 = .ok (.iload_n 3, 1) := by decide +kernel
theorem rd_Lw_law_35 : decode code 35 = .ok (.iconst 0, 1) := by decide +kernel
theorem rd_Lw_law_36 : decode code 36 = .ok (.iconst 2, 1) := by decide +kernel
theorem rd_Lw_law_37 : decode code 37 = .ok (.invokestatic 156, 3) := by decide +kernel
theorem rd_Lw_law_40 : decode code 40 = .ok (.iadd, 1) := by decide +kernel
theorem rd_Lw_law_41 : decode code 41 = .ok (.istore 5, 2) := by decide +kernel
theorem rd_Lw_law_43 : decode code 43 = .ok (.iconst 1, 1) := by decide +kernel
theorem rd_Lw_law_44 : decode code 44 = .ok (.istore 6, 2) := by decide +kernel
theorem rd_Lw_law_46 : decode code 46 = .ok (.iconst 0, 1) := by decide +kernel
theorem rd_Lw_law_47 : decode code 47 = .ok (.istore 7, 2) := by decide +kernel
theorem rd_Lw_law_49 : decode code 49 = .ok (.iload 7, 2) := by decide +kernel
theorem rd_Lw_law_51 : decode code 51 = .ok (.iload 5, 2) := by decide +kernel
theorem rd_Lw_law_53 : decode code 53 = .ok (.if_icmp .ge 344, 3) := by decide +kernel
theorem rd_Lw_law_56 : decode code 56 = .ok (.new 119, 3) := by decide +kernel
theorem rd_Lw_law_59 : decode code 59 = .ok (.dup, 1) := by decide +kernel
theorem rd_Lw_law_60 : decode code 60 = .ok (.invokespecial 205, 3) := by decide +kernel
theorem rd_Lw_law_63 : decode code 63 = .ok (.astore 8, 2) := by decide +kernel
theorem rd_Lw_law_65 : decode code 65 = .ok (.aload 4, 2) := by decide +kernel
theorem rd_Lw_law_67 : decode code 67 = .ok (.ldc 233, 2) := by decide +kernel
theorem rd_Lw_law_69 : decode code 69 = .ok (.invokevirtual 235, 3) := by decide +kernel
theorem rd_Lw_law_72 : decode code 72 = .ok (.pop, 1) := by decide +kernel
theorem rd_Lw_law_73 : decode code 73 = .ok (.iload_n 3, 1) := by decide +kernel
theorem rd_Lw_law_74 : decode code 74 = .ok (.iconst 2, 1) := by decide +kernel
theorem rd_Lw_law_75 : decode code 75 = .ok (.iconst 2, 1) := by decide +kernel
theorem rd_Lw_law_76 : decode code 76 = .ok (.iload 7, 2) := by decide +kernel
theorem rd_Lw_law_78 : decode code 78 = .ok (.imul, 1) := by decide +kernel
theorem rd_Lw_law_79 : decode code 79 = .ok (.iadd, 1) := by decide +kernel
theorem rd_Lw_law_80 : decode code 80 = .ok (.iconst 2, 1) := by decide +kernel
theorem rd_Lw_law_81 : decode code 81 = .ok (.invokestatic 156, 3) := by decide +kernel
theorem rd_Lw_law_84 : decode code 84 = .ok (.istore 9, 2) := by decide +kernel
theorem rd_Lw_law_86 : decode code 86 = .ok (.iconst 0, 1) := by decide +kernel
theorem rd_Lw_law_87 : decode code 87 = .ok (.istore 10, 2) := by decide +kernel
theorem rd_Lw_law_89 : decode code 89 = .ok (.iload 10, 2) := by decide +kernel
theorem rd_Lw_law_91 : decode code 91 = .ok (.iload 9, 2) := by decide +kernel
theorem rd_Lw_law_93 : decode code 93 = .ok (.if_icmp .ge 229, 3) := by decide +kernel
theorem rd_Lw_law_96 : decode code 96 = .ok (.aload_n 0, 1) := by decide +kernel
theorem rd_Lw_law_97 : decode code 97 = .ok (.iload 6, 2) := by decide +kernel
theorem rd_Lw_law_99 : decode code 99 = .ok (.invokestatic 222, 3) := by decide +kernel
theorem rd_Lw_law_102 : decode code 102 = .ok (.istore 11, 2) := by decide +kernel
theorem rd_Lw_law_104 : decode code 104 = .ok (.iinc 6 1, 3) := by decide +kernel
theorem rd_Lw_law_107 : decode code 107 = .ok (.new 54, 3) := by decide +kernel
theorem rd_Lw_law_110 : decode code 110 = .ok (.dup, 1) := by decide +kernel
theorem rd_Lw_law_111 : decode code 111 = .ok (.iload 11, 2) := by decide +kernel
theorem rd_Lw_law_113 : decode code 113 = .ok (.iconst 0, 1) := by decide +kernel
theorem rd_Lw_law_114 : decode code 114 = .ok (.iconst 1, 1) := by decide +kernel
theorem rd_Lw_law_115 : decode code 115 = .ok (.invokestatic 156, 3) := by decide +kernel
theorem rd_Lw_law_118 : decode code 118 = .ok (.iload 11, 2) := by decide +kernel
theorem rd_Lw_law_120 : decode code 120 = .ok (.iconst 1, 1) := by decide +kernel
theorem rd_Lw_law_121 : decode code 121 = .ok (.bipush 7, 2) := by decide +kernel
theorem rd_Lw_law_123 : decode code 123 = .ok (.invokestatic 156, 3) := by decide +kernel
theorem rd_Lw_law_126 : decode code 126 = .ok (.invokespecial 166, 3) := by decide +kernel
theorem rd_Lw_law_129 : decode code 129 = .ok (.astore 12, 2) := by decide +kernel
theorem rd_Lw_law_131 : decode code 131 = .ok (.aload 4, 2) := by decide +kernel
theorem rd_Lw_law_133 : decode code 133 = .ok (.ldc 239, 2) := by decide +kernel
theorem rd_Lw_law_135 : decode code 135 = .ok (.invokevirtual 235, 3) := by decide +kernel
theorem rd_Lw_law_138 : decode code 138 = .ok (.bipush 97, 2) := by decide +kernel
theorem rd_Lw_law_140 : decode code 140 = .ok (.aload 12, 2) := by decide +kernel
theorem rd_Lw_law_142 : decode code 142 = .ok (.getfield 77, 3) := by decide +kernel
theorem rd_Lw_law_145 : decode code 145 = .ok (.iadd, 1) := by decide +kernel
theorem rd_Lw_law_146 : decode code 146 = .ok (.i2c, 1) := by decide +kernel
theorem rd_Lw_law_147 : decode code 147 = .ok (.invokevirtual 241, 3) := by decide +kernel
theorem rd_Lw_law_150 : decode code 150 = .ok (.bipush 32, 2) := by decide +kernel
theorem rd_Lw_law_152 : decode code 152 = .ok (.invokevirtual 241, 3) := by decide +kernel
theorem rd_Lw_law_155 : decode code 155 = .ok (.iload 11, 2) := by decide +kernel
theorem rd_Lw_law_157 : decode code 157 = .ok (.iconst 1, 1) := by decide +kernel
theorem rd_Lw_law_158 : decode code 158 = .ok (.bipush 7, 2) := by decide +kernel
theorem rd_Lw_law_160 : decode code 160 = .ok (.invokestatic 156, 3) := by decide +kernel
theorem rd_Lw_law_163 : decode code 163 = .ok (.invokevirtual 244, 3) := by decide +kernel
theorem rd_Lw_law_166 : decode code 166 = .ok (.pop, 1) := by decide +kernel
theorem rd_Lw_law_167 : decode code 167 = .ok (.iload 11, 2) := by decide +kernel
theorem rd_Lw_law_169 : decode code 169 = .ok (.bipush 8, 2) := by decide +kernel
theorem rd_Lw_law_171 : decode code 171 = .ok (.iconst 3, 1) := by decide +kernel
theorem rd_Lw_law_172 : decode code 172 = .ok (.invokestatic 156, 3) := by decide +kernel
theorem rd_Lw_law_175 : decode code 175 = .ok (.ifCond .ne 25, 3) := by decide +kernel
theorem rd_Lw_law_178 : decode code 178 = .ok (.aload 12, 2) := by decide +kernel
theorem rd_Lw_law_180 : decode code 180 = .ok (.iconst 1, 1) := by decide +kernel
theorem rd_Lw_law_181 : decode code 181 = .ok (.putfield 90, 3) := by decide +kernel
theorem rd_Lw_law_184 : decode code 184 = .ok (.aload 12, 2) := by decide +kernel
theorem rd_Lw_law_186 : decode code 186 = .ok (.getfield 115, 3) := by decide +kernel
theorem rd_Lw_law_189 : decode code 189 = .ok (.iconst 0, 1) := by decide +kernel
theorem rd_Lw_law_190 : decode code 190 = .ok (.iconst 0, 1) := by decide +kernel
theorem rd_Lw_law_191 : decode code 191 = .ok (.iastore, 1) := by decide +kernel
theorem rd_Lw_law_192 : decode code 192 = .ok (.aload 4, 2) := by decide +kernel
theorem rd_Lw_law_194 : decode code 194 = .ok (.ldc 247, 2) := by decide +kernel
theorem rd_Lw_law_196 : decode code 196 = .ok (.invokevirtual 235, 3) := by decide +kernel
theorem rd_Lw_law_199 : decode code 199 = .ok (.pop, 1) := by decide +kernel
theorem rd_Lw_law_200 : decode code 200 = .ok (.aload 4, 2) := by decide +kernel
theorem rd_Lw_law_202 : decode code 202 = .ok (.bipush 59, 2) := by decide +kernel
theorem rd_Lw_law_204 : decode code 204 = .ok (.invokevirtual 241, 3) := by decide +kernel
theorem rd_Lw_law_207 : decode code 207 = .ok (.pop, 1) := by decide +kernel
theorem rd_Lw_law_208 : decode code 208 = .ok (.aload 8, 2) := by decide +kernel
theorem rd_Lw_law_210 : decode code 210 = .ok (.getfield 136, 3) := by decide +kernel
theorem rd_Lw_law_213 : decode code 213 = .ok (.aload 12, 2) := by decide +kernel
theorem rd_Lw_law_215 : decode code 215 = .ok (.invokeinterface 169 2, 5) := by decide +kernel
theorem rd_Lw_law_220 : decode code 220 = .ok (.pop, 1) := by decide +kernel
theorem rd_Lw_law_221 : decode code 221 = .ok (.iload 11, 2) := by decide +kernel
theorem rd_Lw_law_223 : decode code 223 = .ok (.bipush 11, 2) := by decide +kernel
theorem rd_Lw_law_225 : decode code 225 = .ok (.iconst 1, 1) := by decide +kernel
theorem rd_Lw_law_226 : decode code 226 = .ok (.invokestatic 156, 3) := by decide +kernel
theorem rd_Lw_law_229 : decode code 229 = .ok (.ifCond .ne 6, 3) := by decide +kernel
theorem rd_Lw_law_232 : decode code 232 = .ok (.goto 84, 3) := by decide +kernel
theorem rd_Lw_law_235 : decode code 235 = .ok (.new 54, 3) := by decide +kernel
theorem rd_Lw_law_238 : decode code 238 = .ok (.dup, 1) := by decide +kernel
theorem rd_Lw_law_239 : decode code 239 = .ok (.iload 11, 2) := by decide +kernel
theorem rd_Lw_law_241 : decode code 241 = .ok (.bipush 12, 2) := by decide +kernel
theorem rd_Lw_law_243 : decode code 243 = .ok (.iconst 1, 1) := by decide +kernel
theorem rd_Lw_law_244 : decode code 244 = .ok (.invokestatic 156, 3) := by decide +kernel
theorem rd_Lw_law_247 : decode code 247 = .ok (.iload 11, 2) := by decide +kernel
theorem rd_Lw_law_249 : decode code 249 = .ok (.bipush 13, 2) := by decide +kernel
theorem rd_Lw_law_251 : decode code 251 = .ok (.bipush 6, 2) := by decide +kernel
theorem rd_Lw_law_253 : decode code 253 = .ok (.invokestatic 156, 3) := by decide +kernel
theorem rd_Lw_law_256 : decode code 256 = .ok (.invokespecial 166, 3) := by decide +kernel
theorem rd_Lw_law_259 : decode code 259 = .ok (.astore 13, 2) := by decide +kernel
theorem rd_Lw_law_261 : decode code 261 = .ok (.aload 4, 2) := by decide +kernel
theorem rd_Lw_law_263 : decode code 263 = .ok (.ldc 249, 2) := by decide +kernel
theorem rd_Lw_law_265 : decode code 265 = .ok (.invokevirtual 235, 3) := by decide +kernel
theorem rd_Lw_law_268 : decode code 268 = .ok (.bipush 97, 2) := by decide +kernel
theorem rd_Lw_law_270 : decode code 270 = .ok (.aload 13, 2) := by decide +kernel
theorem rd_Lw_law_272 : decode code 272 = .ok (.getfield 77, 3) := by decide +kernel
theorem rd_Lw_law_275 : decode code 275 = .ok (.iadd, 1) := by decide +kernel
theorem rd_Lw_law_276 : decode code 276 = .ok (.i2c, 1) := by decide +kernel
theorem rd_Lw_law_277 : decode code 277 = .ok (.invokevirtual 241, 3) := by decide +kernel
theorem rd_Lw_law_280 : decode code 280 = .ok (.bipush 32, 2) := by decide +kernel
theorem rd_Lw_law_282 : decode code 282 = .ok (.invokevirtual 241, 3) := by decide +kernel
theorem rd_Lw_law_285 : decode code 285 = .ok (.iload 11, 2) := by decide +kernel
theorem rd_Lw_law_287 : decode code 287 = .ok (.bipush 13, 2) := by decide +kernel
theorem rd_Lw_law_289 : decode code 289 = .ok (.bipush 6, 2) := by decide +kernel
theorem rd_Lw_law_291 : decode code 291 = .ok (.invokestatic 156, 3) := by decide +kernel
theorem rd_Lw_law_294 : decode code 294 = .ok (.invokevirtual 244, 3) := by decide +kernel
theorem rd_Lw_law_297 : decode code 297 = .ok (.bipush 59, 2) := by decide +kernel
theorem rd_Lw_law_299 : decode code 299 = .ok (.invokevirtual 241, 3) := by decide +kernel
theorem rd_Lw_law_302 : decode code 302 = .ok (.pop, 1) := by decide +kernel
theorem rd_Lw_law_303 : decode code 303 = .ok (.aload 12, 2) := by decide +kernel
theorem rd_Lw_law_305 : decode code 305 = .ok (.getfield 96, 3) := by decide +kernel
theorem rd_Lw_law_308 : decode code 308 = .ok (.aload 13, 2) := by decide +kernel
theorem rd_Lw_law_310 : decode code 310 = .ok (.invokeinterface 169 2, 5) := by decide +kernel
theorem rd_Lw_law_315 : decode code 315 = .ok (.pop, 1) := by decide +kernel
theorem rd_Lw_law_316 : decode code 316 = .ok (.iinc 10 1, 3) := by decide +kernel
theorem rd_Lw_law_319 : decode code 319 = .ok (.goto (-230), 3) := by decide +kernel
theorem rd_Lw_law_322 : decode code 322 = .ok (.iload 9, 2) := by decide +kernel
theorem rd_Lw_law_324 : decode code 324 = .ok (.ifCond .le 55, 3) := by decide +kernel
theorem rd_Lw_law_327 : decode code 327 = .ok (.iload_n 3, 1) := by decide +kernel
theorem rd_Lw_law_328 : decode code 328 = .ok (.bipush 10, 2) := by decide +kernel
theorem rd_Lw_law_330 : decode code 330 = .ok (.iload 7, 2) := by decide +kernel
theorem rd_Lw_law_332 : decode code 332 = .ok (.iadd, 1) := by decide +kernel
theorem rd_Lw_law_333 : decode code 333 = .ok (.iconst 1, 1) := by decide +kernel
theorem rd_Lw_law_334 : decode code 334 = .ok (.invokestatic 156, 3) := by decide +kernel
theorem rd_Lw_law_337 : decode code 337 = .ok (.ifCond .ne 42, 3) := by decide +kernel
theorem rd_Lw_law_340 : decode code 340 = .ok (.aload 8, 2) := by decide +kernel
theorem rd_Lw_law_342 : decode code 342 = .ok (.new 54, 3) := by decide +kernel
theorem rd_Lw_law_345 : decode code 345 = .ok (.dup, 1) := by decide +kernel
theorem rd_Lw_law_346 : decode code 346 = .ok (.iconst 0, 1) := by decide +kernel
theorem rd_Lw_law_347 : decode code 347 = .ok (.aload 8, 2) := by decide +kernel
theorem rd_Lw_law_349 : decode code 349 = .ok (.invokevirtual 189, 3) := by decide +kernel
theorem rd_Lw_law_352 : decode code 352 = .ok (.invokespecial 166, 3) := by decide +kernel
theorem rd_Lw_law_355 : decode code 355 = .ok (.putfield 142, 3) := by decide +kernel
theorem rd_Lw_law_358 : decode code 358 = .ok (.aload 4, 2) := by decide +kernel
theorem rd_Lw_law_360 : decode code 360 = .ok (.ldc 251, 2) := by decide +kernel
theorem rd_Lw_law_362 : decode code 362 = .ok (.invokevirtual 235, 3) := by decide +kernel
theorem rd_Lw_law_365 : decode code 365 = .ok (.aload 8, 2) := by decide +kernel
theorem rd_Lw_law_367 : decode code 367 = .ok (.invokevirtual 189, 3) := by decide +kernel
theorem rd_Lw_law_370 : decode code 370 = .ok (.invokevirtual 244, 3) := by decide +kernel
theorem rd_Lw_law_373 : decode code 373 = .ok (.bipush 59, 2) := by decide +kernel
theorem rd_Lw_law_375 : decode code 375 = .ok (.invokevirtual 241, 3) := by decide +kernel
theorem rd_Lw_law_378 : decode code 378 = .ok (.pop, 1) := by decide +kernel
theorem rd_Lw_law_379 : decode code 379 = .ok (.aload_n 2, 1) := by decide +kernel
theorem rd_Lw_law_380 : decode code 380 = .ok (.getfield 35, 3) := by decide +kernel
theorem rd_Lw_law_383 : decode code 383 = .ok (.aload 8, 2) := by decide +kernel
theorem rd_Lw_law_385 : decode code 385 = .ok (.invokeinterface 169 2, 5) := by decide +kernel
theorem rd_Lw_law_390 : decode code 390 = .ok (.pop, 1) := by decide +kernel
theorem rd_Lw_law_391 : decode code 391 = .ok (.iinc 7 1, 3) := by decide +kernel
theorem rd_Lw_law_394 : decode code 394 = .ok (.goto (-345), 3) := by decide +kernel
theorem rd_Lw_law_397 : decode code 397 = .ok (.aload_n 1, 1) := by decide +kernel
theorem rd_Lw_law_398 : decode code 398 = .ok (.aload 4, 2) := by decide +kernel
theorem rd_Lw_law_400 : decode code 400 = .ok (.invokevirtual 253, 3) := by decide +kernel
theorem rd_Lw_law_403 : decode code 403 = .ok (.invokestatic 257, 3) := by decide +kernel
theorem rd_Lw_law_406 : decode code 406 = .ok (.aload_n 2, 1) := by decide +kernel
theorem rd_Lw_law_407 : decode code 407 = .ok (.invokevirtual 27, 3) := by decide +kernel
theorem rd_Lw_law_410 : decode code 410 = .ok (.aload_n 1, 1) := by decide +kernel
theorem rd_Lw_law_411 : decode code 411 = .ok (.invokevirtual 261, 3) := by decide +kernel
theorem rd_Lw_law_414 : decode code 414 = .ok (.aload_n 2, 1) := by decide +kernel
theorem rd_Lw_law_415 : decode code 415 = .ok (.getfield 47, 3) := by decide +kernel
theorem rd_Lw_law_418 : decode code 418 = .ok (.invokeinterface 39 1, 5) := by decide +kernel
theorem rd_Lw_law_423 : decode code 423 = .ok (.if_icmp .ne 11, 3) := by decide +kernel
theorem rd_Lw_law_426 : decode code 426 = .ok (.aload_n 1, 1) := by decide +kernel
theorem rd_Lw_law_427 : decode code 427 = .ok (.aload_n 2, 1) := by decide +kernel
theorem rd_Lw_law_428 : decode code 428 = .ok (.invokestatic 264, 3) := by decide +kernel
theorem rd_Lw_law_431 : decode code 431 = .ok (.ifCond .ne 5, 3) := by decide +kernel
theorem rd_Lw_law_434 : decode code 434 = .ok (.iconst 0, 1) := by decide +kernel
theorem rd_Lw_law_435 : decode code 435 = .ok (.ireturn, 1) := by decide +kernel
theorem rd_Lw_law_436 : decode code 436 = .ok (.iconst 0, 1) := by decide +kernel
theorem rd_Lw_law_437 : decode code 437 = .ok (.istore 7, 2) := by decide +kernel
theorem rd_Lw_law_439 : decode code 439 = .ok (.iload 7, 2) := by decide +kernel
theorem rd_Lw_law_441 : decode code 441 = .ok (.bipush 28, 2) := by decide +kernel
theorem rd_Lw_law_443 : decode code 443 = .ok (.if_icmp .ge 36, 3) := by decide +kernel
theorem rd_Lw_law_446 : decode code 446 = .ok (.aload_n 1, 1) := by decide +kernel
theorem rd_Lw_law_447 : decode code 447 = .ok (.aload_n 2, 1) := by decide +kernel
theorem rd_Lw_law_448 : decode code 448 = .ok (.aload_n 0, 1) := by decide +kernel
theorem rd_Lw_law_449 : decode code 449 = .ok (.bipush 13, 2) := by decide +kernel
theorem rd_Lw_law_451 : decode code 451 = .ok (.iload 7, 2) := by decide +kernel
theorem rd_Lw_law_453 : decode code 453 = .ok (.iadd, 1) := by decide +kernel
theorem rd_Lw_law_454 : decode code 454 = .ok (.invokestatic 222, 3) := by decide +kernel
theorem rd_Lw_law_457 : decode code 457 = .ok (.invokestatic 268, 3) := by decide +kernel
theorem rd_Lw_law_460 : decode code 460 = .ok (.ifCond .eq 11, 3) := by decide +kernel
theorem rd_Lw_law_463 : decode code 463 = .ok (.aload_n 1, 1) := by decide +kernel
theorem rd_Lw_law_464 : decode code 464 = .ok (.aload_n 2, 1) := by decide +kernel
theorem rd_Lw_law_465 : decode code 465 = .ok (.invokestatic 264, 3) := by decide +kernel
theorem rd_Lw_law_468 : decode code 468 = .ok (.ifCond .ne 5, 3) := by decide +kernel
theorem rd_Lw_law_471 : decode code 471 = .ok (.iconst 0, 1) := by decide +kernel
theorem rd_Lw_law_472 : decode code 472 = .ok (.ireturn, 1) := by decide +kernel
theorem rd_Lw_law_473 : decode code 473 = .ok (.iinc 7 1, 3) := by decide +kernel
theorem rd_Lw_law_476 : decode code 476 = .ok (.goto (-37), 3) := by decide +kernel
theorem rd_Lw_law_479 : decode code 479 = .ok (.aload_n 1, 1) := by decide +kernel
theorem rd_Lw_law_480 : decode code 480 = .ok (.invokevirtual 272, 3) := by decide +kernel
theorem rd_Lw_law_483 : decode code 483 = .ok (.ireturn, 1) := by decide +kernel
