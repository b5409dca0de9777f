theorem rd_Lw_isWhole_0 : decode mb_Lw_isWhole 0 = .ok (.aload_n 1, 1) := by decide +kernel
theorem rd_Lw_isWhole_1 : decode mb_Lw_isWhole 1 = .ok (.invokevirtual 27, 3) := by decide +kernel
theorem rd_Lw_isWhole_4 : decode mb_Lw_isWhole 4 = .ok (.aload_n 0, 1) := by decide +kernel
theorem rd_Lw_isWhole_5 : decode mb_Lw_isWhole 5 = .ok (.invokevirtual 32, 3) := by decide +kernel
theorem rd_Lw_isWhole_8 : decode mb_Lw_isWhole 8 = .ok (.aload_n 1, 1) := by decide +kernel
theorem rd_Lw_isWhole_9 : decode mb_Lw_isWhole 9 = .ok (.getfield 35, 3) := by decide +kernel
theorem rd_Lw_isWhole_12 : decode mb_Lw_isWhole 12 = .ok (.invokeinterface 39 1, 5) := by decide +kernel
theorem rd_Lw_isWhole_17 : decode mb_Lw_isWhole 17 = .ok (.if_icmp .ne 19, 3) := by decide +kernel
theorem rd_Lw_isWhole_20 : decode mb_Lw_isWhole 20 = .ok (.aload_n 0, 1) := by decide +kernel
theorem rd_Lw_isWhole_21 : decode mb_Lw_isWhole 21 = .ok (.invokevirtual 44, 3) := by decide +kernel
theorem rd_Lw_isWhole_24 : decode mb_Lw_isWhole 24 = .ok (.aload_n 1, 1) := by decide +kernel
theorem rd_Lw_isWhole_25 : decode mb_Lw_isWhole 25 = .ok (.getfield 47, 3) := by decide +kernel
theorem rd_Lw_isWhole_28 : decode mb_Lw_isWhole 28 = .ok (.invokeinterface 39 1, 5) := by decide +kernel
theorem rd_Lw_isWhole_33 : decode mb_Lw_isWhole 33 = .ok (.if_icmp .eq 5, 3) := by decide +kernel
theorem rd_Lw_isWhole_36 : decode mb_Lw_isWhole 36 = .ok (.iconst 0, 1) := by decide +kernel
theorem rd_Lw_isWhole_37 : decode mb_Lw_isWhole 37 = .ok (.ireturn, 1) := by decide +kernel
theorem rd_Lw_isWhole_38 : decode mb_Lw_isWhole 38 = .ok (.iconst 0, 1) := by decide +kernel
theorem rd_Lw_isWhole_39 : decode mb_Lw_isWhole 39 = .ok (.istore_n 2, 1) := by decide +kernel
theorem rd_Lw_isWhole_40 : decode mb_Lw_isWhole 40 = .ok (.iload_n 2, 1) := by decide +kernel
theorem rd_Lw_isWhole_41 : decode mb_Lw_isWhole 41 = .ok (.aload_n 1, 1) := by decide +kernel
theorem rd_Lw_isWhole_42 : decode mb_Lw_isWhole 42 = .ok (.getfield 47, 3) := by decide +kernel
theorem rd_Lw_isWhole_45 : decode mb_Lw_isWhole 45 = .ok (.invokeinterface 39 1, 5) := by decide +kernel
theorem rd_Lw_isWhole_50 : decode mb_Lw_isWhole 50 = .ok (.if_icmp .ge 205, 3) := by decide +kernel
theorem rd_Lw_isWhole_53 : decode mb_Lw_isWhole 53 = .ok (.aload_n 1, 1) := by decide +kernel
theorem rd_Lw_isWhole_54 : decode mb_Lw_isWhole 54 = .ok (.getfield 47, 3) := by decide +kernel
theorem rd_Lw_isWhole_57 : decode mb_Lw_isWhole 57 = .ok (.iload_n 2, 1) := by decide +kernel
theorem rd_Lw_isWhole_58 : decode mb_Lw_isWhole 58 = .ok (.invokeinterface 50 2, 5) := by decide +kernel
theorem rd_Lw_isWhole_63 : decode mb_Lw_isWhole 63 = .ok (.checkcast 54, 3) := by decide +kernel
theorem rd_Lw_isWhole_66 : decode mb_Lw_isWhole 66 = .ok (.astore_n 3, 1) := by decide +kernel
theorem rd_Lw_isWhole_67 : decode mb_Lw_isWhole 67 = .ok (.aload_n 0, 1) := by decide +kernel
theorem rd_Lw_isWhole_68 : decode mb_Lw_isWhole 68 = .ok (.iload_n 2, 1) := by decide +kernel
theorem rd_Lw_isWhole_69 : decode mb_Lw_isWhole 69 = .ok (.invokevirtual 56, 3) := by decide +kernel
theorem rd_Lw_isWhole_72 : decode mb_Lw_isWhole 72 = .ok (.aload_n 1, 1) := by decide +kernel
theorem rd_Lw_isWhole_73 : decode mb_Lw_isWhole 73 = .ok (.getfield 60, 3) := by decide +kernel
theorem rd_Lw_isWhole_76 : decode mb_Lw_isWhole 76 = .ok (.iload_n 2, 1) := by decide +kernel
theorem rd_Lw_isWhole_77 : decode mb_Lw_isWhole 77 = .ok (.invokeinterface 50 2, 5) := by decide +kernel
theorem rd_Lw_isWhole_82 : decode mb_Lw_isWhole 82 = .ok (.checkcast 63, 3) := by decide +kernel
theorem rd_Lw_isWhole_85 : decode mb_Lw_isWhole 85 = .ok (.invokevirtual 65, 3) := by decide +kernel
theorem rd_Lw_isWhole_88 : decode mb_Lw_isWhole 88 = .ok (.if_icmp .ne 112, 3) := by decide +kernel
theorem rd_Lw_isWhole_91 : decode mb_Lw_isWhole 91 = .ok (.aload_n 0, 1) := by decide +kernel
theorem rd_Lw_isWhole_92 : decode mb_Lw_isWhole 92 = .ok (.iload_n 2, 1) := by decide +kernel
theorem rd_Lw_isWhole_93 : decode mb_Lw_isWhole 93 = .ok (.invokevirtual 68, 3) := by decide +kernel
theorem rd_Lw_isWhole_96 : decode mb_Lw_isWhole 96 = .ok (.aload_n 1, 1) := by decide +kernel
theorem rd_Lw_isWhole_97 : decode mb_Lw_isWhole 97 = .ok (.getfield 71, 3) := by decide +kernel
theorem rd_Lw_isWhole_100 : decode mb_Lw_isWhole 100 = .ok (.iload_n 2, 1) := by decide +kernel
theorem rd_Lw_isWhole_101 : decode mb_Lw_isWhole 101 = .ok (.invokeinterface 50 2, 5) := by decide +kernel
theorem rd_Lw_isWhole_106 : decode mb_Lw_isWhole 106 = .ok (.checkcast 63, 3) := by decide +kernel
theorem rd_Lw_isWhole_109 : decode mb_Lw_isWhole 109 = .ok (.invokevirtual 65, 3) := by decide +kernel
theorem rd_Lw_isWhole_112 : decode mb_Lw_isWhole 112 = .ok (.if_icmp .ne 88, 3) := by decide +kernel
theorem rd_Lw_isWhole_115 : decode mb_Lw_isWhole 115 = .ok (.aload_n 0, 1) := by decide +kernel
theorem rd_Lw_isWhole_116 : decode mb_Lw_isWhole 116 = .ok (.iload_n 2, 1) := by decide +kernel
theorem rd_Lw_isWhole_117 : decode mb_Lw_isWhole 117 = .ok (.invokevirtual 74, 3) := by decide +kernel
theorem rd_Lw_isWhole_120 : decode mb_Lw_isWhole 120 = .ok (.aload_n 3, 1) := by decide +kernel
theorem rd_Lw_isWhole_121 : decode mb_Lw_isWhole 121 = .ok (.getfield 77, 3) := by decide +kernel
theorem rd_Lw_isWhole_124 : decode mb_Lw_isWhole 124 = .ok (.if_icmp .ne 76, 3) := by decide +kernel
theorem rd_Lw_isWhole_127 : decode mb_Lw_isWhole 127 = .ok (.aload_n 0, 1) := by decide +kernel
theorem rd_Lw_isWhole_128 : decode mb_Lw_isWhole 128 = .ok (.iload_n 2, 1) := by decide +kernel
theorem rd_Lw_isWhole_129 : decode mb_Lw_isWhole 129 = .ok (.invokevirtual 81, 3) := by decide +kernel
theorem rd_Lw_isWhole_132 : decode mb_Lw_isWhole 132 = .ok (.aload_n 3, 1) := by decide +kernel
theorem rd_Lw_isWhole_133 : decode mb_Lw_isWhole 133 = .ok (.invokevirtual 84, 3) := by decide +kernel
theorem rd_Lw_isWhole_136 : decode mb_Lw_isWhole 136 = .ok (.if_icmp .ne 64, 3) := by decide +kernel
theorem rd_Lw_isWhole_139 : decode mb_Lw_isWhole 139 = .ok (.aload_n 0, 1) := by decide +kernel
theorem rd_Lw_isWhole_140 : decode mb_Lw_isWhole 140 = .ok (.iload_n 2, 1) := by decide +kernel
theorem rd_Lw_isWhole_141 : decode mb_Lw_isWhole 141 = .ok (.invokevirtual 87, 3) := by decide +kernel
theorem rd_Lw_isWhole_144 : decode mb_Lw_isWhole 144 = .ok (.aload_n 3, 1) := by decide +kernel
theorem rd_Lw_isWhole_145 : decode mb_Lw_isWhole 145 = .ok (.getfield 90, 3) := by decide +kernel
theorem rd_Lw_isWhole_148 : decode mb_Lw_isWhole 148 = .ok (.if_icmp .ne 52, 3) := by decide +kernel
theorem rd_Lw_isWhole_151 : decode mb_Lw_isWhole 151 = .ok (.aload_n 0, 1) := by decide +kernel
theorem rd_Lw_isWhole_152 : decode mb_Lw_isWhole 152 = .ok (.iload_n 2, 1) := by decide +kernel
theorem rd_Lw_isWhole_153 : decode mb_Lw_isWhole 153 = .ok (.invokevirtual 93, 3) := by decide +kernel
theorem rd_Lw_isWhole_156 : decode mb_Lw_isWhole 156 = .ok (.aload_n 3, 1) := by decide +kernel
theorem rd_Lw_isWhole_157 : decode mb_Lw_isWhole 157 = .ok (.getfield 96, 3) := by decide +kernel
theorem rd_Lw_isWhole_160 : decode mb_Lw_isWhole 160 = .ok (.invokeinterface 39 1, 5) := by decide +kernel
theorem rd_Lw_isWhole_165 : decode mb_Lw_isWhole 165 = .ok (.if_icmp .ne 35, 3) := by decide +kernel
theorem rd_Lw_isWhole_168 : decode mb_Lw_isWhole 168 = .ok (.aload_n 0, 1) := by decide +kernel
theorem rd_Lw_isWhole_169 : decode mb_Lw_isWhole 169 = .ok (.iload_n 2, 1) := by decide +kernel
theorem rd_Lw_isWhole_170 : decode mb_Lw_isWhole 170 = .ok (.invokevirtual 99, 3) := by decide +kernel
theorem rd_Lw_isWhole_173 : decode mb_Lw_isWhole 173 = .ok (.aload_n 3, 1) := by decide +kernel
theorem rd_Lw_isWhole_174 : decode mb_Lw_isWhole 174 = .ok (.invokevirtual 102, 3) := by decide +kernel
theorem rd_Lw_isWhole_177 : decode mb_Lw_isWhole 177 = .ok (.if_icmp .ne 23, 3) := by decide +kernel
theorem rd_Lw_isWhole_180 : decode mb_Lw_isWhole 180 = .ok (.aload_n 0, 1) := by decide +kernel
theorem rd_Lw_isWhole_181 : decode mb_Lw_isWhole 181 = .ok (.iload_n 2, 1) := by decide +kernel
theorem rd_Lw_isWhole_182 : decode mb_Lw_isWhole 182 = .ok (.invokevirtual 105, 3) := by decide +kernel
theorem rd_Lw_isWhole_185 : decode mb_Lw_isWhole 185 = .ok (.aload_n 3, 1) := by decide +kernel
theorem rd_Lw_isWhole_186 : decode mb_Lw_isWhole 186 = .ok (.invokevirtual 108, 3) := by decide +kernel
theorem rd_Lw_isWhole_189 : decode mb_Lw_isWhole 189 = .ok (.ifCond .ne 7, 3) := by decide +kernel
theorem rd_Lw_isWhole_192 : decode mb_Lw_isWhole 192 = .ok (.iconst 1, 1) := by decide +kernel
theorem rd_Lw_isWhole_193 : decode mb_Lw_isWhole 193 = .ok (.goto 4, 3) := by decide +kernel
theorem rd_Lw_isWhole_196 : decode mb_Lw_isWhole 196 = .ok (.iconst 0, 1) := by decide +kernel
theorem rd_Lw_isWhole_197 : decode mb_Lw_isWhole 197 = .ok (.if_icmp .eq 5, 3) := by decide +kernel
theorem rd_Lw_isWhole_200 : decode mb_Lw_isWhole 200 = .ok (.iconst 0, 1) := by decide +kernel
theorem rd_Lw_isWhole_201 : decode mb_Lw_isWhole 201 = .ok (.ireturn, 1) := by decide +kernel
theorem rd_Lw_isWhole_202 : decode mb_Lw_isWhole 202 = .ok (.iconst 0, 1) := by decide +kernel
theorem rd_Lw_isWhole_203 : decode mb_Lw_isWhole 203 = .ok (.istore 4, 2) := by decide +kernel
theorem rd_Lw_isWhole_205 : decode mb_Lw_isWhole 205 = .ok (.iload 4, 2) := by decide +kernel
theorem rd_Lw_isWhole_207 : decode mb_Lw_isWhole 207 = .ok (.iconst 4, 1) := by decide +kernel
theorem rd_Lw_isWhole_208 : decode mb_Lw_isWhole 208 = .ok (.if_icmp .ge 41, 3) := by decide +kernel
theorem rd_Lw_isWhole_211 : decode mb_Lw_isWhole 211 = .ok (.aload_n 0, 1) := by decide +kernel
theorem rd_Lw_isWhole_212 : decode mb_Lw_isWhole 212 = .ok (.iload_n 2, 1) := by decide +kernel
theorem rd_Lw_isWhole_213 : decode mb_Lw_isWhole 213 = .ok (.iload 4, 2) := by decide +kernel
theorem rd_Lw_isWhole_215 : decode mb_Lw_isWhole 215 = .ok (.invokevirtual 111, 3) := by decide +kernel
theorem rd_Lw_isWhole_218 : decode mb_Lw_isWhole 218 = .ok (.iload 4, 2) := by decide +kernel
theorem rd_Lw_isWhole_220 : decode mb_Lw_isWhole 220 = .ok (.aload_n 3, 1) := by decide +kernel
theorem rd_Lw_isWhole_221 : decode mb_Lw_isWhole 221 = .ok (.getfield 90, 3) := by decide +kernel
theorem rd_Lw_isWhole_224 : decode mb_Lw_isWhole 224 = .ok (.if_icmp .ge 7, 3) := by decide +kernel
theorem rd_Lw_isWhole_227 : decode mb_Lw_isWhole 227 = .ok (.iconst (-1), 1) := by decide +kernel
theorem rd_Lw_isWhole_228 : decode mb_Lw_isWhole 228 = .ok (.goto 10, 3) := by decide +kernel
theorem rd_Lw_isWhole_231 : decode mb_Lw_isWhole 231 = .ok (.aload_n 3, 1) := by decide +kernel
theorem rd_Lw_isWhole_232 : decode mb_Lw_isWhole 232 = .ok (.getfield 115, 3) := by decide +kernel
theorem rd_Lw_isWhole_235 : decode mb_Lw_isWhole 235 = .ok (.iload 4, 2) := by decide +kernel
theorem rd_Lw_isWhole_237 : decode mb_Lw_isWhole 237 = .ok (.iaload, 1) := by decide +kernel
theorem rd_Lw_isWhole_238 : decode mb_Lw_isWhole 238 = .ok (.if_icmp .eq 5, 3) := by decide +kernel
theorem rd_Lw_isWhole_241 : decode mb_Lw_isWhole 241 = .ok (.iconst 0, 1) := by decide +kernel
theorem rd_Lw_isWhole_242 : decode mb_Lw_isWhole 242 = .ok (.ireturn, 1) := by decide +kernel
theorem rd_Lw_isWhole_243 : decode mb_Lw_isWhole 243 = .ok (.iinc 4 1, 3) := by decide +kernel
theorem rd_Lw_isWhole_246 : decode mb_Lw_isWhole 246 = .ok (.goto (-41), 3) := by decide +kernel
theorem rd_Lw_isWhole_249 : decode mb_Lw_isWhole 249 = .ok (.iinc 2 1, 3) := by decide +kernel
theorem rd_Lw_isWhole_252 : decode mb_Lw_isWhole 252 = .ok (.goto (-212), 3) := by decide +kernel
theorem rd_Lw_isWhole_255 : decode mb_Lw_isWhole 255 = .ok (.iconst 0, 1) := by decide +kernel
theorem rd_Lw_isWhole_256 : decode mb_Lw_isWhole 256 = .ok (.istore_n 2, 1) := by decide +kernel
theorem rd_Lw_isWhole_257 : decode mb_Lw_isWhole 257 = .ok (.iload_n 2, 1) := by decide +kernel
theorem rd_Lw_isWhole_258 : decode mb_Lw_isWhole 258 = .ok (.aload_n 1, 1) := by decide +kernel
theorem rd_Lw_isWhole_259 : decode mb_Lw_isWhole 259 = .ok (.getfield 35, 3) := by decide +kernel
theorem rd_Lw_isWhole_262 : decode mb_Lw_isWhole 262 = .ok (.invokeinterface 39 1, 5) := by decide +kernel
theorem rd_Lw_isWhole_267 : decode mb_Lw_isWhole 267 = .ok (.if_icmp .ge 115, 3) := by decide +kernel
theorem rd_Lw_isWhole_270 : decode mb_Lw_isWhole 270 = .ok (.aload_n 1, 1) := by decide +kernel
theorem rd_Lw_isWhole_271 : decode mb_Lw_isWhole 271 = .ok (.getfield 35, 3) := by decide +kernel
theorem rd_Lw_isWhole_274 : decode mb_Lw_isWhole 274 = .ok (.iload_n 2, 1) := by decide +kernel
theorem rd_Lw_isWhole_275 : decode mb_Lw_isWhole 275 = .ok (.invokeinterface 50 2, 5) := by decide +kernel
theorem rd_Lw_isWhole_280 : decode mb_Lw_isWhole 280 = .ok (.checkcast 119, 3) := by decide +kernel
theorem rd_Lw_isWhole_283 : decode mb_Lw_isWhole 283 = .ok (.astore_n 3, 1) := by decide +kernel
theorem rd_Lw_isWhole_284 : decode mb_Lw_isWhole 284 = .ok (.aload_n 0, 1) := by decide +kernel
theorem rd_Lw_isWhole_285 : decode mb_Lw_isWhole 285 = .ok (.iload_n 2, 1) := by decide +kernel
theorem rd_Lw_isWhole_286 : decode mb_Lw_isWhole 286 = .ok (.invokevirtual 121, 3) := by decide +kernel
theorem rd_Lw_isWhole_289 : decode mb_Lw_isWhole 289 = .ok (.aload_n 3, 1) := by decide +kernel
theorem rd_Lw_isWhole_290 : decode mb_Lw_isWhole 290 = .ok (.invokevirtual 124, 3) := by decide +kernel
theorem rd_Lw_isWhole_293 : decode mb_Lw_isWhole 293 = .ok (.if_icmp .ne 81, 3) := by decide +kernel
theorem rd_Lw_isWhole_296 : decode mb_Lw_isWhole 296 = .ok (.aload_n 0, 1) := by decide +kernel
theorem rd_Lw_isWhole_297 : decode mb_Lw_isWhole 297 = .ok (.iload_n 2, 1) := by decide +kernel
theorem rd_Lw_isWhole_298 : decode mb_Lw_isWhole 298 = .ok (.invokevirtual 127, 3) := by decide +kernel
theorem rd_Lw_isWhole_301 : decode mb_Lw_isWhole 301 = .ok (.aload_n 1, 1) := by decide +kernel
theorem rd_Lw_isWhole_302 : decode mb_Lw_isWhole 302 = .ok (.iload_n 2, 1) := by decide +kernel
theorem rd_Lw_isWhole_303 : decode mb_Lw_isWhole 303 = .ok (.invokevirtual 130, 3) := by decide +kernel
theorem rd_Lw_isWhole_306 : decode mb_Lw_isWhole 306 = .ok (.if_icmp .ne 68, 3) := by decide +kernel
theorem rd_Lw_isWhole_309 : decode mb_Lw_isWhole 309 = .ok (.aload_n 0, 1) := by decide +kernel
theorem rd_Lw_isWhole_310 : decode mb_Lw_isWhole 310 = .ok (.iload_n 2, 1) := by decide +kernel
theorem rd_Lw_isWhole_311 : decode mb_Lw_isWhole 311 = .ok (.invokevirtual 133, 3) := by decide +kernel
theorem rd_Lw_isWhole_314 : decode mb_Lw_isWhole 314 = .ok (.aload_n 3, 1) := by decide +kernel
theorem rd_Lw_isWhole_315 : decode mb_Lw_isWhole 315 = .ok (.getfield 136, 3) := by decide +kernel
theorem rd_Lw_isWhole_318 : decode mb_Lw_isWhole 318 = .ok (.invokeinterface 39 1, 5) := by decide +kernel
theorem rd_Lw_isWhole_323 : decode mb_Lw_isWhole 323 = .ok (.if_icmp .ne 51, 3) := by decide +kernel
theorem rd_Lw_isWhole_326 : decode mb_Lw_isWhole 326 = .ok (.aload_n 0, 1) := by decide +kernel
theorem rd_Lw_isWhole_327 : decode mb_Lw_isWhole 327 = .ok (.iload_n 2, 1) := by decide +kernel
theorem rd_Lw_isWhole_328 : decode mb_Lw_isWhole 328 = .ok (.invokevirtual 139, 3) := by decide +kernel
theorem rd_Lw_isWhole_331 : decode mb_Lw_isWhole 331 = .ok (.aload_n 3, 1) := by decide +kernel
theorem rd_Lw_isWhole_332 : decode mb_Lw_isWhole 332 = .ok (.getfield 142, 3) := by decide +kernel
theorem rd_Lw_isWhole_335 : decode mb_Lw_isWhole 335 = .ok (.ifnonnull 7, 3) := by decide +kernel
theorem rd_Lw_isWhole_338 : decode mb_Lw_isWhole 338 = .ok (.iconst (-1), 1) := by decide +kernel
theorem rd_Lw_isWhole_339 : decode mb_Lw_isWhole 339 = .ok (.goto 11, 3) := by decide +kernel
theorem rd_Lw_isWhole_342 : decode mb_Lw_isWhole 342 = .ok (.aload_n 1, 1) := by decide +kernel
theorem rd_Lw_isWhole_343 : decode mb_Lw_isWhole 343 = .ok (.aload_n 3, 1) := by decide +kernel
theorem rd_Lw_isWhole_344 : decode mb_Lw_isWhole 344 = .ok (.getfield 142, 3) := by decide +kernel
theorem rd_Lw_isWhole_347 : decode mb_Lw_isWhole 347 = .ok (.invokevirtual 146, 3) := by decide +kernel
theorem rd_Lw_isWhole_350 : decode mb_Lw_isWhole 350 = .ok (.if_icmp .ne 24, 3) := by decide +kernel
theorem rd_Lw_isWhole_353 : decode mb_Lw_isWhole 353 = .ok (.aload_n 1, 1) := by decide +kernel
theorem rd_Lw_isWhole_354 : decode mb_Lw_isWhole 354 = .ok (.iload_n 2, 1) := by decide +kernel
theorem rd_Lw_isWhole_355 : decode mb_Lw_isWhole 355 = .ok (.invokevirtual 130, 3) := by decide +kernel
theorem rd_Lw_isWhole_358 : decode mb_Lw_isWhole 358 = .ok (.ifCond .ne 18, 3) := by decide +kernel
theorem rd_Lw_isWhole_361 : decode mb_Lw_isWhole 361 = .ok (.aload_n 0, 1) := by decide +kernel
theorem rd_Lw_isWhole_362 : decode mb_Lw_isWhole 362 = .ok (.iload_n 2, 1) := by decide +kernel
theorem rd_Lw_isWhole_363 : decode mb_Lw_isWhole 363 = .ok (.invokevirtual 150, 3) := by decide +kernel
theorem rd_Lw_isWhole_366 : decode mb_Lw_isWhole 366 = .ok (.aload_n 1, 1) := by decide +kernel
theorem rd_Lw_isWhole_367 : decode mb_Lw_isWhole 367 = .ok (.iload_n 2, 1) := by decide +kernel
theorem rd_Lw_isWhole_368 : decode mb_Lw_isWhole 368 = .ok (.invokevirtual 153, 3) := by decide +kernel
theorem rd_Lw_isWhole_371 : decode mb_Lw_isWhole 371 = .ok (.if_icmp .eq 5, 3) := by decide +kernel
theorem rd_Lw_isWhole_374 : decode mb_Lw_isWhole 374 = .ok (.iconst 0, 1) := by decide +kernel
theorem rd_Lw_isWhole_375 : decode mb_Lw_isWhole 375 = .ok (.ireturn, 1) := by decide +kernel
theorem rd_Lw_isWhole_376 : decode mb_Lw_isWhole 376 = .ok (.iinc 2 1, 3) := by decide +kernel
theorem rd_Lw_isWhole_379 : decode mb_Lw_isWhole 379 = .ok (.goto (-122), 3) := by decide +kernel
theorem rd_Lw_isWhole_382 : decode mb_Lw_isWhole 382 = .ok (.iconst 1, 1) := by decide +kernel
theorem rd_Lw_isWhole_383 : decode mb_Lw_isWhole 383 = .ok (.ireturn, 1) := by decide +kernel
