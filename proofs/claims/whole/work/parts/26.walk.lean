theorem rd_Md_does_0 : decode mb_Md_does 0 = .ok (.aload_n 0, 1) := by decide +kernel
theorem rd_Md_does_1 : decode mb_Md_does 1 = .ok (.getfield 35, 3) := by decide +kernel
theorem rd_Md_does_4 : decode mb_Md_does 4 = .ok (.iconst 3, 1) := by decide +kernel
theorem rd_Md_does_5 : decode mb_Md_does 5 = .ok (.iload_n 1, 1) := by decide +kernel
theorem rd_Md_does_6 : decode mb_Md_does 6 = .ok (.imul, 1) := by decide +kernel
theorem rd_Md_does_7 : decode mb_Md_does 7 = .ok (.iaload, 1) := by decide +kernel
theorem rd_Md_does_8 : decode mb_Md_does 8 = .ok (.istore_n 2, 1) := by decide +kernel
theorem rd_Md_does_9 : decode mb_Md_does 9 = .ok (.aload_n 0, 1) := by decide +kernel
theorem rd_Md_does_10 : decode mb_Md_does 10 = .ok (.getfield 35, 3) := by decide +kernel
theorem rd_Md_does_13 : decode mb_Md_does 13 = .ok (.iconst 3, 1) := by decide +kernel
theorem rd_Md_does_14 : decode mb_Md_does 14 = .ok (.iload_n 1, 1) := by decide +kernel
theorem rd_Md_does_15 : decode mb_Md_does 15 = .ok (.imul, 1) := by decide +kernel
theorem rd_Md_does_16 : decode mb_Md_does 16 = .ok (.iconst 1, 1) := by decide +kernel
theorem rd_Md_does_17 : decode mb_Md_does 17 = .ok (.iadd, 1) := by decide +kernel
theorem rd_Md_does_18 : decode mb_Md_does 18 = .ok (.iaload, 1) := by decide +kernel
theorem rd_Md_does_19 : decode mb_Md_does 19 = .ok (.istore_n 3, 1) := by decide +kernel
theorem rd_Md_does_20 : decode mb_Md_does 20 = .ok (.aload_n 0, 1) := by decide +kernel
theorem rd_Md_does_21 : decode mb_Md_does 21 = .ok (.getfield 35, 3) := by decide +kernel
theorem rd_Md_does_24 : decode mb_Md_does 24 = .ok (.iconst 3, 1) := by decide +kernel
theorem rd_Md_does_25 : decode mb_Md_does 25 = .ok (.iload_n 1, 1) := by decide +kernel
theorem rd_Md_does_26 : decode mb_Md_does 26 = .ok (.imul, 1) := by decide +kernel
theorem rd_Md_does_27 : decode mb_Md_does 27 = .ok (.iconst 2, 1) := by decide +kernel
theorem rd_Md_does_28 : decode mb_Md_does 28 = .ok (.iadd, 1) := by decide +kernel
theorem rd_Md_does_29 : decode mb_Md_does 29 = .ok (.iaload, 1) := by decide +kernel
theorem rd_Md_does_30 : decode mb_Md_does 30 = .ok (.istore 4, 2) := by decide +kernel
theorem rd_Md_does_32 : decode mb_Md_does 32 = .ok (.aload_n 0, 1) := by decide +kernel
theorem rd_Md_does_33 : decode mb_Md_does 33 = .ok (.getfield 32, 3) := by decide +kernel
theorem rd_Md_does_36 : decode mb_Md_does 36 = .ok (.iload_n 1, 1) := by decide +kernel
theorem rd_Md_does_37 : decode mb_Md_does 37 = .ok (.iaload, 1) := by decide +kernel
theorem rd_Md_does_38 : decode mb_Md_does 38 = .ok (.tableswitch 279 1 8 #[46, 70, 102, 135, 157, 188, 223, 256], 46) := by decide +kernel
theorem rd_Md_does_84 : decode mb_Md_does 84 = .ok (.aload_n 0, 1) := by decide +kernel
theorem rd_Md_does_85 : decode mb_Md_does 85 = .ok (.getfield 7, 3) := by decide +kernel
theorem rd_Md_does_88 : decode mb_Md_does 88 = .ok (.iconst 1, 1) := by decide +kernel
theorem rd_Md_does_89 : decode mb_Md_does 89 = .ok (.iaload, 1) := by decide +kernel
theorem rd_Md_does_90 : decode mb_Md_does 90 = .ok (.bipush 6, 2) := by decide +kernel
theorem rd_Md_does_92 : decode mb_Md_does 92 = .ok (.if_icmp .ge 14, 3) := by decide +kernel
theorem rd_Md_does_95 : decode mb_Md_does 95 = .ok (.aload_n 0, 1) := by decide +kernel
theorem rd_Md_does_96 : decode mb_Md_does 96 = .ok (.invokevirtual 293, 3) := by decide +kernel
theorem rd_Md_does_99 : decode mb_Md_does 99 = .ok (.ifCond .lt 7, 3) := by decide +kernel
theorem rd_Md_does_102 : decode mb_Md_does 102 = .ok (.iconst 1, 1) := by decide +kernel
theorem rd_Md_does_103 : decode mb_Md_does 103 = .ok (.goto 4, 3) := by decide +kernel
theorem rd_Md_does_106 : decode mb_Md_does 106 = .ok (.iconst 0, 1) := by decide +kernel
theorem rd_Md_does_107 : decode mb_Md_does 107 = .ok (.ireturn, 1) := by decide +kernel
theorem rd_Md_does_108 : decode mb_Md_does 108 = .ok (.aload_n 0, 1) := by decide +kernel
theorem rd_Md_does_109 : decode mb_Md_does 109 = .ok (.iload_n 2, 1) := by decide +kernel
theorem rd_Md_does_110 : decode mb_Md_does 110 = .ok (.invokevirtual 296, 3) := by decide +kernel
theorem rd_Md_does_113 : decode mb_Md_does 113 = .ok (.ifCond .eq 25, 3) := by decide +kernel
theorem rd_Md_does_116 : decode mb_Md_does 116 = .ok (.aload_n 0, 1) := by decide +kernel
theorem rd_Md_does_117 : decode mb_Md_does 117 = .ok (.invokevirtual 122, 3) := by decide +kernel
theorem rd_Md_does_120 : decode mb_Md_does 120 = .ok (.ifCond .eq 18, 3) := by decide +kernel
theorem rd_Md_does_123 : decode mb_Md_does 123 = .ok (.aload_n 0, 1) := by decide +kernel
theorem rd_Md_does_124 : decode mb_Md_does 124 = .ok (.iload_n 2, 1) := by decide +kernel
theorem rd_Md_does_125 : decode mb_Md_does 125 = .ok (.iload_n 3, 1) := by decide +kernel
theorem rd_Md_does_126 : decode mb_Md_does 126 = .ok (.iload 4, 2) := by decide +kernel
theorem rd_Md_does_128 : decode mb_Md_does 128 = .ok (.invokevirtual 299, 3) := by decide +kernel
theorem rd_Md_does_131 : decode mb_Md_does 131 = .ok (.ifCond .lt 7, 3) := by decide +kernel
theorem rd_Md_does_134 : decode mb_Md_does 134 = .ok (.iconst 1, 1) := by decide +kernel
theorem rd_Md_does_135 : decode mb_Md_does 135 = .ok (.goto 4, 3) := by decide +kernel
theorem rd_Md_does_138 : decode mb_Md_does 138 = .ok (.iconst 0, 1) := by decide +kernel
theorem rd_Md_does_139 : decode mb_Md_does 139 = .ok (.ireturn, 1) := by decide +kernel
theorem rd_Md_does_140 : decode mb_Md_does 140 = .ok (.aload_n 0, 1) := by decide +kernel
theorem rd_Md_does_141 : decode mb_Md_does 141 = .ok (.iload_n 2, 1) := by decide +kernel
theorem rd_Md_does_142 : decode mb_Md_does 142 = .ok (.invokevirtual 303, 3) := by decide +kernel
theorem rd_Md_does_145 : decode mb_Md_does 145 = .ok (.ifCond .eq 26, 3) := by decide +kernel
theorem rd_Md_does_148 : decode mb_Md_does 148 = .ok (.aload_n 0, 1) := by decide +kernel
theorem rd_Md_does_149 : decode mb_Md_does 149 = .ok (.iload_n 2, 1) := by decide +kernel
theorem rd_Md_does_150 : decode mb_Md_does 150 = .ok (.invokevirtual 306, 3) := by decide +kernel
theorem rd_Md_does_153 : decode mb_Md_does 153 = .ok (.ifCond .eq 18, 3) := by decide +kernel
theorem rd_Md_does_156 : decode mb_Md_does 156 = .ok (.aload_n 0, 1) := by decide +kernel
theorem rd_Md_does_157 : decode mb_Md_does 157 = .ok (.iload_n 2, 1) := by decide +kernel
theorem rd_Md_does_158 : decode mb_Md_does 158 = .ok (.iload_n 3, 1) := by decide +kernel
theorem rd_Md_does_159 : decode mb_Md_does 159 = .ok (.iload 4, 2) := by decide +kernel
theorem rd_Md_does_161 : decode mb_Md_does 161 = .ok (.invokevirtual 309, 3) := by decide +kernel
theorem rd_Md_does_164 : decode mb_Md_does 164 = .ok (.ifCond .lt 7, 3) := by decide +kernel
theorem rd_Md_does_167 : decode mb_Md_does 167 = .ok (.iconst 1, 1) := by decide +kernel
theorem rd_Md_does_168 : decode mb_Md_does 168 = .ok (.goto 4, 3) := by decide +kernel
theorem rd_Md_does_171 : decode mb_Md_does 171 = .ok (.iconst 0, 1) := by decide +kernel
theorem rd_Md_does_172 : decode mb_Md_does 172 = .ok (.ireturn, 1) := by decide +kernel
theorem rd_Md_does_173 : decode mb_Md_does 173 = .ok (.aload_n 0, 1) := by decide +kernel
theorem rd_Md_does_174 : decode mb_Md_does 174 = .ok (.iload_n 2, 1) := by decide +kernel
theorem rd_Md_does_175 : decode mb_Md_does 175 = .ok (.invokevirtual 303, 3) := by decide +kernel
theorem rd_Md_does_178 : decode mb_Md_does 178 = .ok (.ifCond .eq 15, 3) := by decide +kernel
theorem rd_Md_does_181 : decode mb_Md_does 181 = .ok (.aload_n 0, 1) := by decide +kernel
theorem rd_Md_does_182 : decode mb_Md_does 182 = .ok (.iload_n 2, 1) := by decide +kernel
theorem rd_Md_does_183 : decode mb_Md_does 183 = .ok (.invokevirtual 312, 3) := by decide +kernel
theorem rd_Md_does_186 : decode mb_Md_does 186 = .ok (.ifCond .lt 7, 3) := by decide +kernel
theorem rd_Md_does_189 : decode mb_Md_does 189 = .ok (.iconst 1, 1) := by decide +kernel
theorem rd_Md_does_190 : decode mb_Md_does 190 = .ok (.goto 4, 3) := by decide +kernel
theorem rd_Md_does_193 : decode mb_Md_does 193 = .ok (.iconst 0, 1) := by decide +kernel
theorem rd_Md_does_194 : decode mb_Md_does 194 = .ok (.ireturn, 1) := by decide +kernel
theorem rd_Md_does_195 : decode mb_Md_does 195 = .ok (.aload_n 0, 1) := by decide +kernel
theorem rd_Md_does_196 : decode mb_Md_does 196 = .ok (.iload_n 2, 1) := by decide +kernel
theorem rd_Md_does_197 : decode mb_Md_does 197 = .ok (.invokevirtual 296, 3) := by decide +kernel
theorem rd_Md_does_200 : decode mb_Md_does 200 = .ok (.ifCond .eq 24, 3) := by decide +kernel
theorem rd_Md_does_203 : decode mb_Md_does 203 = .ok (.aload_n 0, 1) := by decide +kernel
theorem rd_Md_does_204 : decode mb_Md_does 204 = .ok (.iload_n 2, 1) := by decide +kernel
theorem rd_Md_does_205 : decode mb_Md_does 205 = .ok (.invokevirtual 315, 3) := by decide +kernel
theorem rd_Md_does_208 : decode mb_Md_does 208 = .ok (.ifCond .eq 16, 3) := by decide +kernel
theorem rd_Md_does_211 : decode mb_Md_does 211 = .ok (.aload_n 0, 1) := by decide +kernel
theorem rd_Md_does_212 : decode mb_Md_does 212 = .ok (.iload_n 2, 1) := by decide +kernel
theorem rd_Md_does_213 : decode mb_Md_does 213 = .ok (.iload_n 3, 1) := by decide +kernel
theorem rd_Md_does_214 : decode mb_Md_does 214 = .ok (.invokevirtual 318, 3) := by decide +kernel
theorem rd_Md_does_217 : decode mb_Md_does 217 = .ok (.ifCond .lt 7, 3) := by decide +kernel
theorem rd_Md_does_220 : decode mb_Md_does 220 = .ok (.iconst 1, 1) := by decide +kernel
theorem rd_Md_does_221 : decode mb_Md_does 221 = .ok (.goto 4, 3) := by decide +kernel
theorem rd_Md_does_224 : decode mb_Md_does 224 = .ok (.iconst 0, 1) := by decide +kernel
theorem rd_Md_does_225 : decode mb_Md_does 225 = .ok (.ireturn, 1) := by decide +kernel
theorem rd_Md_does_226 : decode mb_Md_does 226 = .ok (.aload_n 0, 1) := by decide +kernel
theorem rd_Md_does_227 : decode mb_Md_does 227 = .ok (.iload_n 2, 1) := by decide +kernel
theorem rd_Md_does_228 : decode mb_Md_does 228 = .ok (.invokevirtual 303, 3) := by decide +kernel
theorem rd_Md_does_231 : decode mb_Md_does 231 = .ok (.ifCond .eq 28, 3) := by decide +kernel
theorem rd_Md_does_234 : decode mb_Md_does 234 = .ok (.iload_n 3, 1) := by decide +kernel
theorem rd_Md_does_235 : decode mb_Md_does 235 = .ok (.aload_n 0, 1) := by decide +kernel
theorem rd_Md_does_236 : decode mb_Md_does 236 = .ok (.iload_n 2, 1) := by decide +kernel
theorem rd_Md_does_237 : decode mb_Md_does 237 = .ok (.iconst 4, 1) := by decide +kernel
theorem rd_Md_does_238 : decode mb_Md_does 238 = .ok (.invokevirtual 63, 3) := by decide +kernel
theorem rd_Md_does_241 : decode mb_Md_does 241 = .ok (.if_icmp .lt 18, 3) := by decide +kernel
theorem rd_Md_does_244 : decode mb_Md_does 244 = .ok (.aload_n 0, 1) := by decide +kernel
theorem rd_Md_does_245 : decode mb_Md_does 245 = .ok (.iload_n 2, 1) := by decide +kernel
theorem rd_Md_does_246 : decode mb_Md_does 246 = .ok (.iload_n 3, 1) := by decide +kernel
theorem rd_Md_does_247 : decode mb_Md_does 247 = .ok (.iload 4, 2) := by decide +kernel
theorem rd_Md_does_249 : decode mb_Md_does 249 = .ok (.invokevirtual 321, 3) := by decide +kernel
theorem rd_Md_does_252 : decode mb_Md_does 252 = .ok (.ifCond .lt 7, 3) := by decide +kernel
theorem rd_Md_does_255 : decode mb_Md_does 255 = .ok (.iconst 1, 1) := by decide +kernel
theorem rd_Md_does_256 : decode mb_Md_does 256 = .ok (.goto 4, 3) := by decide +kernel
theorem rd_Md_does_259 : decode mb_Md_does 259 = .ok (.iconst 0, 1) := by decide +kernel
theorem rd_Md_does_260 : decode mb_Md_does 260 = .ok (.ireturn, 1) := by decide +kernel
theorem rd_Md_does_261 : decode mb_Md_does 261 = .ok (.aload_n 0, 1) := by decide +kernel
theorem rd_Md_does_262 : decode mb_Md_does 262 = .ok (.iload_n 2, 1) := by decide +kernel
theorem rd_Md_does_263 : decode mb_Md_does 263 = .ok (.invokevirtual 303, 3) := by decide +kernel
theorem rd_Md_does_266 : decode mb_Md_does 266 = .ok (.ifCond .eq 26, 3) := by decide +kernel
theorem rd_Md_does_269 : decode mb_Md_does 269 = .ok (.iload_n 3, 1) := by decide +kernel
theorem rd_Md_does_270 : decode mb_Md_does 270 = .ok (.aload_n 0, 1) := by decide +kernel
theorem rd_Md_does_271 : decode mb_Md_does 271 = .ok (.iload_n 2, 1) := by decide +kernel
theorem rd_Md_does_272 : decode mb_Md_does 272 = .ok (.iconst 4, 1) := by decide +kernel
theorem rd_Md_does_273 : decode mb_Md_does 273 = .ok (.invokevirtual 63, 3) := by decide +kernel
theorem rd_Md_does_276 : decode mb_Md_does 276 = .ok (.if_icmp .lt 16, 3) := by decide +kernel
theorem rd_Md_does_279 : decode mb_Md_does 279 = .ok (.aload_n 0, 1) := by decide +kernel
theorem rd_Md_does_280 : decode mb_Md_does 280 = .ok (.iload_n 2, 1) := by decide +kernel
theorem rd_Md_does_281 : decode mb_Md_does 281 = .ok (.iload_n 3, 1) := by decide +kernel
theorem rd_Md_does_282 : decode mb_Md_does 282 = .ok (.invokevirtual 52, 3) := by decide +kernel
theorem rd_Md_does_285 : decode mb_Md_does 285 = .ok (.ifCond .lt 7, 3) := by decide +kernel
theorem rd_Md_does_288 : decode mb_Md_does 288 = .ok (.iconst 1, 1) := by decide +kernel
theorem rd_Md_does_289 : decode mb_Md_does 289 = .ok (.goto 4, 3) := by decide +kernel
theorem rd_Md_does_292 : decode mb_Md_does 292 = .ok (.iconst 0, 1) := by decide +kernel
theorem rd_Md_does_293 : decode mb_Md_does 293 = .ok (.ireturn, 1) := by decide +kernel
theorem rd_Md_does_294 : decode mb_Md_does 294 = .ok (.aload_n 0, 1) := by decide +kernel
theorem rd_Md_does_295 : decode mb_Md_does 295 = .ok (.iload_n 2, 1) := by decide +kernel
theorem rd_Md_does_296 : decode mb_Md_does 296 = .ok (.invokevirtual 303, 3) := by decide +kernel
theorem rd_Md_does_299 : decode mb_Md_does 299 = .ok (.ifCond .eq 16, 3) := by decide +kernel
theorem rd_Md_does_302 : decode mb_Md_does 302 = .ok (.aload_n 0, 1) := by decide +kernel
theorem rd_Md_does_303 : decode mb_Md_does 303 = .ok (.iload_n 2, 1) := by decide +kernel
theorem rd_Md_does_304 : decode mb_Md_does 304 = .ok (.iload_n 3, 1) := by decide +kernel
theorem rd_Md_does_305 : decode mb_Md_does 305 = .ok (.invokevirtual 324, 3) := by decide +kernel
theorem rd_Md_does_308 : decode mb_Md_does 308 = .ok (.ifCond .lt 7, 3) := by decide +kernel
theorem rd_Md_does_311 : decode mb_Md_does 311 = .ok (.iconst 1, 1) := by decide +kernel
theorem rd_Md_does_312 : decode mb_Md_does 312 = .ok (.goto 4, 3) := by decide +kernel
theorem rd_Md_does_315 : decode mb_Md_does 315 = .ok (.iconst 0, 1) := by decide +kernel
theorem rd_Md_does_316 : decode mb_Md_does 316 = .ok (.ireturn, 1) := by decide +kernel
theorem rd_Md_does_317 : decode mb_Md_does 317 = .ok (.aload_n 0, 1) := by decide +kernel
theorem rd_Md_does_318 : decode mb_Md_does 318 = .ok (.iload_n 2, 1) := by decide +kernel
theorem rd_Md_does_319 : decode mb_Md_does 319 = .ok (.invokevirtual 296, 3) := by decide +kernel
theorem rd_Md_does_322 : decode mb_Md_does 322 = .ok (.ifCond .eq 23, 3) := by decide +kernel
theorem rd_Md_does_325 : decode mb_Md_does 325 = .ok (.aload_n 0, 1) := by decide +kernel
theorem rd_Md_does_326 : decode mb_Md_does 326 = .ok (.iload_n 2, 1) := by decide +kernel
theorem rd_Md_does_327 : decode mb_Md_does 327 = .ok (.invokevirtual 327, 3) := by decide +kernel
theorem rd_Md_does_330 : decode mb_Md_does 330 = .ok (.ifCond .ne 15, 3) := by decide +kernel
theorem rd_Md_does_333 : decode mb_Md_does 333 = .ok (.aload_n 0, 1) := by decide +kernel
theorem rd_Md_does_334 : decode mb_Md_does 334 = .ok (.iload_n 2, 1) := by decide +kernel
theorem rd_Md_does_335 : decode mb_Md_does 335 = .ok (.invokevirtual 330, 3) := by decide +kernel
theorem rd_Md_does_338 : decode mb_Md_does 338 = .ok (.ifCond .lt 7, 3) := by decide +kernel
theorem rd_Md_does_341 : decode mb_Md_does 341 = .ok (.iconst 1, 1) := by decide +kernel
theorem rd_Md_does_342 : decode mb_Md_does 342 = .ok (.goto 4, 3) := by decide +kernel
theorem rd_Md_does_345 : decode mb_Md_does 345 = .ok (.iconst 0, 1) := by decide +kernel
theorem rd_Md_does_346 : decode mb_Md_does 346 = .ok (.ireturn, 1) := by decide +kernel
theorem rd_Md_runScript_0 : decode mb_Md_runScript 0 = .ok (.aload_n 0, 1) := by decide +kernel
theorem rd_Md_runScript_1 : decode mb_Md_runScript 1 = .ok (.iconst 0, 1) := by decide +kernel
theorem rd_Md_runScript_2 : decode mb_Md_runScript 2 = .ok (.putfield 56, 3) := by decide +kernel
theorem rd_Md_runScript_5 : decode mb_Md_runScript 5 = .ok (.aload_n 0, 1) := by decide +kernel
theorem rd_Md_runScript_6 : decode mb_Md_runScript 6 = .ok (.invokevirtual 256, 3) := by decide +kernel
theorem rd_Md_runScript_9 : decode mb_Md_runScript 9 = .ok (.iconst 1, 1) := by decide +kernel
theorem rd_Md_runScript_10 : decode mb_Md_runScript 10 = .ok (.istore_n 1, 1) := by decide +kernel
theorem rd_Md_runScript_11 : decode mb_Md_runScript 11 = .ok (.iload_n 1, 1) := by decide +kernel
theorem rd_Md_runScript_12 : decode mb_Md_runScript 12 = .ok (.ifCond .eq 18, 3) := by decide +kernel
theorem rd_Md_runScript_15 : decode mb_Md_runScript 15 = .ok (.aload_n 0, 1) := by decide +kernel
theorem rd_Md_runScript_16 : decode mb_Md_runScript 16 = .ok (.getfield 158, 3) := by decide +kernel
theorem rd_Md_runScript_19 : decode mb_Md_runScript 19 = .ok (.ifCond .eq 11, 3) := by decide +kernel
theorem rd_Md_runScript_22 : decode mb_Md_runScript 22 = .ok (.aload_n 0, 1) := by decide +kernel
theorem rd_Md_runScript_23 : decode mb_Md_runScript 23 = .ok (.invokevirtual 333, 3) := by decide +kernel
theorem rd_Md_runScript_26 : decode mb_Md_runScript 26 = .ok (.istore_n 1, 1) := by decide +kernel
theorem rd_Md_runScript_27 : decode mb_Md_runScript 27 = .ok (.goto (-16), 3) := by decide +kernel
theorem rd_Md_runScript_30 : decode mb_Md_runScript 30 = .ok (.aload_n 0, 1) := by decide +kernel
theorem rd_Md_runScript_31 : decode mb_Md_runScript 31 = .ok (.invokevirtual 262, 3) := by decide +kernel
theorem rd_Md_runScript_34 : decode mb_Md_runScript 34 = .ok (.iload_n 1, 1) := by decide +kernel
theorem rd_Md_runScript_35 : decode mb_Md_runScript 35 = .ok (.ifCond .ne 5, 3) := by decide +kernel
theorem rd_Md_runScript_38 : decode mb_Md_runScript 38 = .ok (.iconst (-1), 1) := by decide +kernel
theorem rd_Md_runScript_39 : decode mb_Md_runScript 39 = .ok (.ireturn, 1) := by decide +kernel
theorem rd_Md_runScript_40 : decode mb_Md_runScript 40 = .ok (.aload_n 0, 1) := by decide +kernel
theorem rd_Md_runScript_41 : decode mb_Md_runScript 41 = .ok (.invokevirtual 336, 3) := by decide +kernel
theorem rd_Md_runScript_44 : decode mb_Md_runScript 44 = .ok (.iconst 0, 1) := by decide +kernel
theorem rd_Md_runScript_45 : decode mb_Md_runScript 45 = .ok (.istore_n 2, 1) := by decide +kernel
theorem rd_Md_runScript_46 : decode mb_Md_runScript 46 = .ok (.iload_n 2, 1) := by decide +kernel
theorem rd_Md_runScript_47 : decode mb_Md_runScript 47 = .ok (.aload_n 0, 1) := by decide +kernel
theorem rd_Md_runScript_48 : decode mb_Md_runScript 48 = .ok (.getfield 250, 3) := by decide +kernel
theorem rd_Md_runScript_51 : decode mb_Md_runScript 51 = .ok (.if_icmp .ge 17, 3) := by decide +kernel
theorem rd_Md_runScript_54 : decode mb_Md_runScript 54 = .ok (.aload_n 0, 1) := by decide +kernel
theorem rd_Md_runScript_55 : decode mb_Md_runScript 55 = .ok (.iload_n 2, 1) := by decide +kernel
theorem rd_Md_runScript_56 : decode mb_Md_runScript 56 = .ok (.invokevirtual 339, 3) := by decide +kernel
theorem rd_Md_runScript_59 : decode mb_Md_runScript 59 = .ok (.ifCond .eq 9, 3) := by decide +kernel
theorem rd_Md_runScript_62 : decode mb_Md_runScript 62 = .ok (.iinc 2 1, 3) := by decide +kernel
theorem rd_Md_runScript_65 : decode mb_Md_runScript 65 = .ok (.goto (-19), 3) := by decide +kernel
theorem rd_Md_runScript_68 : decode mb_Md_runScript 68 = .ok (.iload_n 2, 1) := by decide +kernel
theorem rd_Md_runScript_69 : decode mb_Md_runScript 69 = .ok (.ireturn, 1) := by decide +kernel
theorem rd_Md_errorCode_0 : decode mb_Md_errorCode 0 = .ok (.aload_n 0, 1) := by decide +kernel
theorem rd_Md_errorCode_1 : decode mb_Md_errorCode 1 = .ok (.iconst 0, 1) := by decide +kernel
theorem rd_Md_errorCode_2 : decode mb_Md_errorCode 2 = .ok (.putfield 56, 3) := by decide +kernel
theorem rd_Md_errorCode_5 : decode mb_Md_errorCode 5 = .ok (.aload_n 0, 1) := by decide +kernel
theorem rd_Md_errorCode_6 : decode mb_Md_errorCode 6 = .ok (.getfield 253, 3) := by decide +kernel
theorem rd_Md_errorCode_9 : decode mb_Md_errorCode 9 = .ok (.ireturn, 1) := by decide +kernel
theorem rd_Md_errorOffset_0 : decode mb_Md_errorOffset 0 = .ok (.aload_n 0, 1) := by decide +kernel
theorem rd_Md_errorOffset_1 : decode mb_Md_errorOffset 1 = .ok (.iconst 0, 1) := by decide +kernel
theorem rd_Md_errorOffset_2 : decode mb_Md_errorOffset 2 = .ok (.putfield 56, 3) := by decide +kernel
theorem rd_Md_errorOffset_5 : decode mb_Md_errorOffset 5 = .ok (.aload_n 0, 1) := by decide +kernel
theorem rd_Md_errorOffset_6 : decode mb_Md_errorOffset 6 = .ok (.getfield 25, 3) := by decide +kernel
theorem rd_Md_errorOffset_9 : decode mb_Md_errorOffset 9 = .ok (.ireturn, 1) := by decide +kernel
theorem rd_Md_topicCount_0 : decode mb_Md_topicCount 0 = .ok (.aload_n 0, 1) := by decide +kernel
theorem rd_Md_topicCount_1 : decode mb_Md_topicCount 1 = .ok (.iconst 0, 1) := by decide +kernel
theorem rd_Md_topicCount_2 : decode mb_Md_topicCount 2 = .ok (.putfield 56, 3) := by decide +kernel
theorem rd_Md_topicCount_5 : decode mb_Md_topicCount 5 = .ok (.aload_n 0, 1) := by decide +kernel
theorem rd_Md_topicCount_6 : decode mb_Md_topicCount 6 = .ok (.getfield 7, 3) := by decide +kernel
theorem rd_Md_topicCount_9 : decode mb_Md_topicCount 9 = .ok (.iconst 0, 1) := by decide +kernel
theorem rd_Md_topicCount_10 : decode mb_Md_topicCount 10 = .ok (.iaload, 1) := by decide +kernel
theorem rd_Md_topicCount_11 : decode mb_Md_topicCount 11 = .ok (.ireturn, 1) := by decide +kernel
theorem rd_Md_clusterCount_0 : decode mb_Md_clusterCount 0 = .ok (.aload_n 0, 1) := by decide +kernel
theorem rd_Md_clusterCount_1 : decode mb_Md_clusterCount 1 = .ok (.iconst 0, 1) := by decide +kernel
theorem rd_Md_clusterCount_2 : decode mb_Md_clusterCount 2 = .ok (.putfield 56, 3) := by decide +kernel
theorem rd_Md_clusterCount_5 : decode mb_Md_clusterCount 5 = .ok (.aload_n 0, 1) := by decide +kernel
theorem rd_Md_clusterCount_6 : decode mb_Md_clusterCount 6 = .ok (.getfield 7, 3) := by decide +kernel
theorem rd_Md_clusterCount_9 : decode mb_Md_clusterCount 9 = .ok (.iconst 1, 1) := by decide +kernel
theorem rd_Md_clusterCount_10 : decode mb_Md_clusterCount 10 = .ok (.iaload, 1) := by decide +kernel
theorem rd_Md_clusterCount_11 : decode mb_Md_clusterCount 11 = .ok (.ireturn, 1) := by decide +kernel
theorem rd_Md_cordCount_0 : decode mb_Md_cordCount 0 = .ok (.aload_n 0, 1) := by decide +kernel
theorem rd_Md_cordCount_1 : decode mb_Md_cordCount 1 = .ok (.iconst 0, 1) := by decide +kernel
theorem rd_Md_cordCount_2 : decode mb_Md_cordCount 2 = .ok (.putfield 56, 3) := by decide +kernel
theorem rd_Md_cordCount_5 : decode mb_Md_cordCount 5 = .ok (.aload_n 0, 1) := by decide +kernel
theorem rd_Md_cordCount_6 : decode mb_Md_cordCount 6 = .ok (.getfield 7, 3) := by decide +kernel
theorem rd_Md_cordCount_9 : decode mb_Md_cordCount 9 = .ok (.iconst 2, 1) := by decide +kernel
theorem rd_Md_cordCount_10 : decode mb_Md_cordCount 10 = .ok (.iaload, 1) := by decide +kernel
theorem rd_Md_cordCount_11 : decode mb_Md_cordCount 11 = .ok (.ireturn, 1) := by decide +kernel
theorem rd_Md_noTopic_0 : decode mb_Md_noTopic 0 = .ok (.aload_n 0, 1) := by decide +kernel
theorem rd_Md_noTopic_1 : decode mb_Md_noTopic 1 = .ok (.aload_n 0, 1) := by decide +kernel
theorem rd_Md_noTopic_2 : decode mb_Md_noTopic 2 = .ok (.iload_n 1, 1) := by decide +kernel
theorem rd_Md_noTopic_3 : decode mb_Md_noTopic 3 = .ok (.invokevirtual 342, 3) := by decide +kernel
theorem rd_Md_noTopic_6 : decode mb_Md_noTopic 6 = .ok (.ifCond .ne 7, 3) := by decide +kernel
theorem rd_Md_noTopic_9 : decode mb_Md_noTopic 9 = .ok (.iconst 1, 1) := by decide +kernel
theorem rd_Md_noTopic_10 : decode mb_Md_noTopic 10 = .ok (.goto 4, 3) := by decide +kernel
theorem rd_Md_noTopic_13 : decode mb_Md_noTopic 13 = .ok (.iconst 0, 1) := by decide +kernel
theorem rd_Md_noTopic_14 : decode mb_Md_noTopic 14 = .ok (.iconst 1, 1) := by decide +kernel
theorem rd_Md_noTopic_15 : decode mb_Md_noTopic 15 = .ok (.invokevirtual 345, 3) := by decide +kernel
theorem rd_Md_noTopic_18 : decode mb_Md_noTopic 18 = .ok (.ireturn, 1) := by decide +kernel
theorem rd_Md_noCluster_0 : decode mb_Md_noCluster 0 = .ok (.aload_n 0, 1) := by decide +kernel
theorem rd_Md_noCluster_1 : decode mb_Md_noCluster 1 = .ok (.aload_n 0, 1) := by decide +kernel
theorem rd_Md_noCluster_2 : decode mb_Md_noCluster 2 = .ok (.iload_n 1, 1) := by decide +kernel
theorem rd_Md_noCluster_3 : decode mb_Md_noCluster 3 = .ok (.invokevirtual 296, 3) := by decide +kernel
theorem rd_Md_noCluster_6 : decode mb_Md_noCluster 6 = .ok (.ifCond .ne 7, 3) := by decide +kernel
theorem rd_Md_noCluster_9 : decode mb_Md_noCluster 9 = .ok (.iconst 1, 1) := by decide +kernel
theorem rd_Md_noCluster_10 : decode mb_Md_noCluster 10 = .ok (.goto 4, 3) := by decide +kernel
theorem rd_Md_noCluster_13 : decode mb_Md_noCluster 13 = .ok (.iconst 0, 1) := by decide +kernel
theorem rd_Md_noCluster_14 : decode mb_Md_noCluster 14 = .ok (.iconst 1, 1) := by decide +kernel
theorem rd_Md_noCluster_15 : decode mb_Md_noCluster 15 = .ok (.invokevirtual 345, 3) := by decide +kernel
theorem rd_Md_noCluster_18 : decode mb_Md_noCluster 18 = .ok (.ireturn, 1) := by decide +kernel
theorem rd_Md_noCord_0 : decode mb_Md_noCord 0 = .ok (.aload_n 0, 1) := by decide +kernel
theorem rd_Md_noCord_1 : decode mb_Md_noCord 1 = .ok (.aload_n 0, 1) := by decide +kernel
theorem rd_Md_noCord_2 : decode mb_Md_noCord 2 = .ok (.iload_n 1, 1) := by decide +kernel
theorem rd_Md_noCord_3 : decode mb_Md_noCord 3 = .ok (.invokevirtual 303, 3) := by decide +kernel
theorem rd_Md_noCord_6 : decode mb_Md_noCord 6 = .ok (.ifCond .ne 7, 3) := by decide +kernel
theorem rd_Md_noCord_9 : decode mb_Md_noCord 9 = .ok (.iconst 1, 1) := by decide +kernel
theorem rd_Md_noCord_10 : decode mb_Md_noCord 10 = .ok (.goto 4, 3) := by decide +kernel
theorem rd_Md_noCord_13 : decode mb_Md_noCord 13 = .ok (.iconst 0, 1) := by decide +kernel
theorem rd_Md_noCord_14 : decode mb_Md_noCord 14 = .ok (.iconst 1, 1) := by decide +kernel
theorem rd_Md_noCord_15 : decode mb_Md_noCord 15 = .ok (.invokevirtual 345, 3) := by decide +kernel
theorem rd_Md_noCord_18 : decode mb_Md_noCord 18 = .ok (.ireturn, 1) := by decide +kernel
theorem rd_Md_clusterOf_0 : decode mb_Md_clusterOf 0 = .ok (.aload_n 0, 1) := by decide +kernel
theorem rd_Md_clusterOf_1 : decode mb_Md_clusterOf 1 = .ok (.iconst 0, 1) := by decide +kernel
theorem rd_Md_clusterOf_2 : decode mb_Md_clusterOf 2 = .ok (.putfield 56, 3) := by decide +kernel
theorem rd_Md_clusterOf_5 : decode mb_Md_clusterOf 5 = .ok (.aload_n 0, 1) := by decide +kernel
theorem rd_Md_clusterOf_6 : decode mb_Md_clusterOf 6 = .ok (.iload_n 1, 1) := by decide +kernel
theorem rd_Md_clusterOf_7 : decode mb_Md_clusterOf 7 = .ok (.invokevirtual 349, 3) := by decide +kernel
theorem rd_Md_clusterOf_10 : decode mb_Md_clusterOf 10 = .ok (.ifCond .eq 7, 3) := by decide +kernel
theorem rd_Md_clusterOf_13 : decode mb_Md_clusterOf 13 = .ok (.iconst 0, 1) := by decide +kernel
theorem rd_Md_clusterOf_14 : decode mb_Md_clusterOf 14 = .ok (.goto 9, 3) := by decide +kernel
theorem rd_Md_clusterOf_17 : decode mb_Md_clusterOf 17 = .ok (.aload_n 0, 1) := by decide +kernel
theorem rd_Md_clusterOf_18 : decode mb_Md_clusterOf 18 = .ok (.iload_n 1, 1) := by decide +kernel
theorem rd_Md_clusterOf_19 : decode mb_Md_clusterOf 19 = .ok (.iconst 0, 1) := by decide +kernel
theorem rd_Md_clusterOf_20 : decode mb_Md_clusterOf 20 = .ok (.invokevirtual 63, 3) := by decide +kernel
theorem rd_Md_clusterOf_23 : decode mb_Md_clusterOf 23 = .ok (.ireturn, 1) := by decide +kernel
theorem rd_Md_depthOf_0 : decode mb_Md_depthOf 0 = .ok (.aload_n 0, 1) := by decide +kernel
theorem rd_Md_depthOf_1 : decode mb_Md_depthOf 1 = .ok (.iconst 0, 1) := by decide +kernel
theorem rd_Md_depthOf_2 : decode mb_Md_depthOf 2 = .ok (.putfield 56, 3) := by decide +kernel
theorem rd_Md_depthOf_5 : decode mb_Md_depthOf 5 = .ok (.aload_n 0, 1) := by decide +kernel
theorem rd_Md_depthOf_6 : decode mb_Md_depthOf 6 = .ok (.iload_n 1, 1) := by decide +kernel
theorem rd_Md_depthOf_7 : decode mb_Md_depthOf 7 = .ok (.invokevirtual 349, 3) := by decide +kernel
theorem rd_Md_depthOf_10 : decode mb_Md_depthOf 10 = .ok (.ifCond .eq 7, 3) := by decide +kernel
theorem rd_Md_depthOf_13 : decode mb_Md_depthOf 13 = .ok (.iconst 0, 1) := by decide +kernel
theorem rd_Md_depthOf_14 : decode mb_Md_depthOf 14 = .ok (.goto 9, 3) := by decide +kernel
theorem rd_Md_depthOf_17 : decode mb_Md_depthOf 17 = .ok (.aload_n 0, 1) := by decide +kernel
theorem rd_Md_depthOf_18 : decode mb_Md_depthOf 18 = .ok (.iload_n 1, 1) := by decide +kernel
theorem rd_Md_depthOf_19 : decode mb_Md_depthOf 19 = .ok (.iconst 1, 1) := by decide +kernel
theorem rd_Md_depthOf_20 : decode mb_Md_depthOf 20 = .ok (.invokevirtual 63, 3) := by decide +kernel
theorem rd_Md_depthOf_23 : decode mb_Md_depthOf 23 = .ok (.ireturn, 1) := by decide +kernel
theorem rd_Md_parentOf_0 : decode mb_Md_parentOf 0 = .ok (.aload_n 0, 1) := by decide +kernel
theorem rd_Md_parentOf_1 : decode mb_Md_parentOf 1 = .ok (.iconst 0, 1) := by decide +kernel
theorem rd_Md_parentOf_2 : decode mb_Md_parentOf 2 = .ok (.putfield 56, 3) := by decide +kernel
theorem rd_Md_parentOf_5 : decode mb_Md_parentOf 5 = .ok (.aload_n 0, 1) := by decide +kernel
theorem rd_Md_parentOf_6 : decode mb_Md_parentOf 6 = .ok (.iload_n 1, 1) := by decide +kernel
theorem rd_Md_parentOf_7 : decode mb_Md_parentOf 7 = .ok (.invokevirtual 349, 3) := by decide +kernel
theorem rd_Md_parentOf_10 : decode mb_Md_parentOf 10 = .ok (.ifCond .eq 7, 3) := by decide +kernel
theorem rd_Md_parentOf_13 : decode mb_Md_parentOf 13 = .ok (.iconst 0, 1) := by decide +kernel
theorem rd_Md_parentOf_14 : decode mb_Md_parentOf 14 = .ok (.goto 8, 3) := by decide +kernel
theorem rd_Md_parentOf_17 : decode mb_Md_parentOf 17 = .ok (.aload_n 0, 1) := by decide +kernel
theorem rd_Md_parentOf_18 : decode mb_Md_parentOf 18 = .ok (.iload_n 1, 1) := by decide +kernel
theorem rd_Md_parentOf_19 : decode mb_Md_parentOf 19 = .ok (.invokevirtual 352, 3) := by decide +kernel
theorem rd_Md_parentOf_22 : decode mb_Md_parentOf 22 = .ok (.ireturn, 1) := by decide +kernel
theorem rd_Md_topicOf_0 : decode mb_Md_topicOf 0 = .ok (.aload_n 0, 1) := by decide +kernel
theorem rd_Md_topicOf_1 : decode mb_Md_topicOf 1 = .ok (.iconst 0, 1) := by decide +kernel
theorem rd_Md_topicOf_2 : decode mb_Md_topicOf 2 = .ok (.putfield 56, 3) := by decide +kernel
theorem rd_Md_topicOf_5 : decode mb_Md_topicOf 5 = .ok (.aload_n 0, 1) := by decide +kernel
theorem rd_Md_topicOf_6 : decode mb_Md_topicOf 6 = .ok (.iload_n 1, 1) := by decide +kernel
theorem rd_Md_topicOf_7 : decode mb_Md_topicOf 7 = .ok (.invokevirtual 349, 3) := by decide +kernel
theorem rd_Md_topicOf_10 : decode mb_Md_topicOf 10 = .ok (.ifCond .eq 7, 3) := by decide +kernel
theorem rd_Md_topicOf_13 : decode mb_Md_topicOf 13 = .ok (.iconst 0, 1) := by decide +kernel
theorem rd_Md_topicOf_14 : decode mb_Md_topicOf 14 = .ok (.goto 9, 3) := by decide +kernel
theorem rd_Md_topicOf_17 : decode mb_Md_topicOf 17 = .ok (.aload_n 0, 1) := by decide +kernel
theorem rd_Md_topicOf_18 : decode mb_Md_topicOf 18 = .ok (.iload_n 1, 1) := by decide +kernel
theorem rd_Md_topicOf_19 : decode mb_Md_topicOf 19 = .ok (.iconst 2, 1) := by decide +kernel
theorem rd_Md_topicOf_20 : decode mb_Md_topicOf 20 = .ok (.invokevirtual 63, 3) := by decide +kernel
theorem rd_Md_topicOf_23 : decode mb_Md_topicOf 23 = .ok (.ireturn, 1) := by decide +kernel
theorem rd_Md_subsidiariesOf_0 : decode mb_Md_subsidiariesOf 0 = .ok (.aload_n 0, 1) := by decide +kernel
theorem rd_Md_subsidiariesOf_1 : decode mb_Md_subsidiariesOf 1 = .ok (.iconst 0, 1) := by decide +kernel
theorem rd_Md_subsidiariesOf_2 : decode mb_Md_subsidiariesOf 2 = .ok (.putfield 56, 3) := by decide +kernel
theorem rd_Md_subsidiariesOf_5 : decode mb_Md_subsidiariesOf 5 = .ok (.aload_n 0, 1) := by decide +kernel
theorem rd_Md_subsidiariesOf_6 : decode mb_Md_subsidiariesOf 6 = .ok (.iload_n 1, 1) := by decide +kernel
theorem rd_Md_subsidiariesOf_7 : decode mb_Md_subsidiariesOf 7 = .ok (.invokevirtual 349, 3) := by decide +kernel
theorem rd_Md_subsidiariesOf_10 : decode mb_Md_subsidiariesOf 10 = .ok (.ifCond .eq 7, 3) := by decide +kernel
theorem rd_Md_subsidiariesOf_13 : decode mb_Md_subsidiariesOf 13 = .ok (.iconst 0, 1) := by decide +kernel
theorem rd_Md_subsidiariesOf_14 : decode mb_Md_subsidiariesOf 14 = .ok (.goto 8, 3) := by decide +kernel
theorem rd_Md_subsidiariesOf_17 : decode mb_Md_subsidiariesOf 17 = .ok (.aload_n 0, 1) := by decide +kernel
theorem rd_Md_subsidiariesOf_18 : decode mb_Md_subsidiariesOf 18 = .ok (.iload_n 1, 1) := by decide +kernel
theorem rd_Md_subsidiariesOf_19 : decode mb_Md_subsidiariesOf 19 = .ok (.invokevirtual 355, 3) := by decide +kernel
theorem rd_Md_subsidiariesOf_22 : decode mb_Md_subsidiariesOf 22 = .ok (.ireturn, 1) := by decide +kernel
theorem rd_Md_nibbledPlaces_0 : decode mb_Md_nibbledPlaces 0 = .ok (.aload_n 0, 1) := by decide +kernel
theorem rd_Md_nibbledPlaces_1 : decode mb_Md_nibbledPlaces 1 = .ok (.iconst 0, 1) := by decide +kernel
theorem rd_Md_nibbledPlaces_2 : decode mb_Md_nibbledPlaces 2 = .ok (.putfield 56, 3) := by decide +kernel
theorem rd_Md_nibbledPlaces_5 : decode mb_Md_nibbledPlaces 5 = .ok (.aload_n 0, 1) := by decide +kernel
theorem rd_Md_nibbledPlaces_6 : decode mb_Md_nibbledPlaces 6 = .ok (.iload_n 1, 1) := by decide +kernel
theorem rd_Md_nibbledPlaces_7 : decode mb_Md_nibbledPlaces 7 = .ok (.invokevirtual 349, 3) := by decide +kernel
theorem rd_Md_nibbledPlaces_10 : decode mb_Md_nibbledPlaces 10 = .ok (.ifCond .eq 7, 3) := by decide +kernel
theorem rd_Md_nibbledPlaces_13 : decode mb_Md_nibbledPlaces 13 = .ok (.iconst 0, 1) := by decide +kernel
theorem rd_Md_nibbledPlaces_14 : decode mb_Md_nibbledPlaces 14 = .ok (.goto 9, 3) := by decide +kernel
theorem rd_Md_nibbledPlaces_17 : decode mb_Md_nibbledPlaces 17 = .ok (.aload_n 0, 1) := by decide +kernel
theorem rd_Md_nibbledPlaces_18 : decode mb_Md_nibbledPlaces 18 = .ok (.iload_n 1, 1) := by decide +kernel
theorem rd_Md_nibbledPlaces_19 : decode mb_Md_nibbledPlaces 19 = .ok (.iconst 4, 1) := by decide +kernel
theorem rd_Md_nibbledPlaces_20 : decode mb_Md_nibbledPlaces 20 = .ok (.invokevirtual 63, 3) := by decide +kernel
theorem rd_Md_nibbledPlaces_23 : decode mb_Md_nibbledPlaces 23 = .ok (.ireturn, 1) := by decide +kernel
def wd_Md_does (cI : ClassId) (a_t a_t_w a_t_wKept a_t_saved a_t_past a_t_input a_t_n a_t_order a_t_numbers a_t_output : Nat) (i_t_pastMany : Int) (i_t_isSaved : Int) (i_t_thrown : Int) (i_t_inputMany : Int) (i_t_lastError : Int) (i_t_lastOffset : Int) (i_t_error : Int) (i_t_offset : Int) (i_t_nextByte : Int) (i_t_begin : Int) (i_t_value : Int) (i_t_token : Int) (i_t_got : Int) (i_t_orders : Int) (i_t_outputMany : Int) (i_t_w : (Int → Int)) (i_t_order : (Int → Int)) (i_t_numbers : (Int → Int)) : va_W := [(a_t, .inr (11, [.ref a_t_w, .ref a_t_wKept, .ref a_t_saved, .ref a_t_past, jk_V i_t_pastMany, jk_V i_t_isSaved, jk_V i_t_thrown, .ref a_t_input, jk_V i_t_inputMany, jk_V i_t_lastError, jk_V i_t_lastOffset, jk_V i_t_error, jk_V i_t_offset, jk_V i_t_nextByte, jk_V i_t_begin, jk_V i_t_value, jk_V i_t_token, jk_V i_t_got, .ref a_t_n, .ref a_t_order, .ref a_t_numbers, jk_V i_t_orders, .ref a_t_output, jk_V i_t_outputMany])), (a_t_w, jk_W cI 259 i_t_w), (a_t_order, jk_W cI 31 i_t_order), (a_t_numbers, jk_W cI 93 i_t_numbers)]
set_option maxHeartbeats 4000000 in
set_option maxRecDepth 20000 in
theorem ct_Md_does (l : Launch) (D : va_G) (Z : (Nat → Prop) → State → Heap → Prop) (sq : Nat → Nat) (hZ : jk_ZK Z sq) (cI cR : ClassId) (a_t a_t_w a_t_wKept a_t_saved a_t_past a_t_input a_t_n a_t_order a_t_numbers a_t_output : Nat) (i_t_pastMany : Int) (i_t_isSaved : Int) (i_t_thrown : Int) (i_t_inputMany : Int) (i_t_lastError : Int) (i_t_lastOffset : Int) (i_t_error : Int) (i_t_offset : Int) (i_t_nextByte : Int) (i_t_begin : Int) (i_t_value : Int) (i_t_token : Int) (i_t_got : Int) (i_t_orders : Int) (i_t_outputMany : Int) (i_t_w : (Int → Int)) (i_t_order : (Int → Int)) (i_t_numbers : (Int → Int)) (x1 : Int) (q : Int × (Int → Int)) (hf : fn_Md_does i_t_w i_t_order i_t_numbers x1 = some q) : jk_MI l D jk_cl (jk_ty cI cR) Z mn_Md_does (.code mn_Md_does mb_Md_does 5 (some .boolean) :: jk_WA) (jk_rm 9 199) [.ref a_t, jk_V x1] (wd_Md_does cI a_t a_t_w a_t_wKept a_t_saved a_t_past a_t_input a_t_n a_t_order a_t_numbers a_t_output i_t_pastMany i_t_isSaved i_t_thrown i_t_inputMany i_t_lastError i_t_lastOffset i_t_error i_t_offset i_t_nextByte i_t_begin i_t_value i_t_token i_t_got i_t_orders i_t_outputMany i_t_w i_t_order i_t_numbers) (wd_Md_does cI a_t a_t_w a_t_wKept a_t_saved a_t_past a_t_input a_t_n a_t_order a_t_numbers a_t_output i_t_pastMany i_t_isSaved i_t_thrown i_t_inputMany i_t_lastError i_t_lastOffset i_t_error i_t_offset i_t_nextByte i_t_begin i_t_value i_t_token i_t_got i_t_orders i_t_outputMany q.2 i_t_order i_t_numbers) q.1 := by
  intro sz
  refine jk_body (by decide +kernel) (fun p e s m args below meth c hsz hz hin C => ?_) (Nat.le_of_ble_eq_true rfl)
  subst hsz
  unfold fn_Md_does at hf
  refine jk_aload_n C rd_Md_does_0 (k := 0) rfl ?_
  refine jk_get C in_Md (ci := 11) rfl 20 (by decide) tm_1283 0 rfl rfl rd_Md_does_1 ?_
  refine jk_iconst C rd_Md_does_4 ?_
  refine jk_iload_n C rd_Md_does_5 (k := 1) rfl ?_
  refine jk_imul C rd_Md_does_6 ?_
  refine jk_iald C 3 0 rfl rfl (Nat.le_of_ble_eq_true rfl) rd_Md_does_7 hf (fun hf => ?_)
  refine jk_istore_n C rd_Md_does_8 (by decide) (lv' := [(2, jk_V (i_t_numbers (3 * x1))), (0, .ref a_t), (1, jk_V x1)]) rfl ?_
  refine jk_aload_n C rd_Md_does_9 (k := 1) rfl ?_
  refine jk_get C in_Md (ci := 11) rfl 20 (by decide) tm_1283 0 rfl rfl rd_Md_does_10 ?_
  refine jk_iconst C rd_Md_does_13 ?_
  refine jk_iload_n C rd_Md_does_14 (k := 2) rfl ?_
  refine jk_imul C rd_Md_does_15 ?_
  refine jk_iconst C rd_Md_does_16 ?_
  refine jk_iadd C rd_Md_does_17 ?_
  refine jk_iald C 3 0 rfl rfl (Nat.le_of_ble_eq_true rfl) rd_Md_does_18 hf (fun hf => ?_)
  refine jk_istore_n C rd_Md_does_19 (by decide) (lv' := [(3, jk_V (i_t_numbers ((3 * x1) + 1))), (2, jk_V (i_t_numbers (3 * x1))), (0, .ref a_t), (1, jk_V x1)]) rfl ?_
  refine jk_aload_n C rd_Md_does_20 (k := 2) rfl ?_
  refine jk_get C in_Md (ci := 11) rfl 20 (by decide) tm_1283 0 rfl rfl rd_Md_does_21 ?_
  refine jk_iconst C rd_Md_does_24 ?_
  refine jk_iload_n C rd_Md_does_25 (k := 3) rfl ?_
  refine jk_imul C rd_Md_does_26 ?_
  refine jk_iconst C rd_Md_does_27 ?_
  refine jk_iadd C rd_Md_does_28 ?_
  refine jk_iald C 3 0 rfl rfl (Nat.le_of_ble_eq_true rfl) rd_Md_does_29 hf (fun hf => ?_)
  refine jk_istore C rd_Md_does_30 (by decide) (lv' := [(4, jk_V (i_t_numbers ((3 * x1) + 2))), (3, jk_V (i_t_numbers ((3 * x1) + 1))), (2, jk_V (i_t_numbers (3 * x1))), (0, .ref a_t), (1, jk_V x1)]) rfl ?_
  refine jk_aload_n C rd_Md_does_32 (k := 3) rfl ?_
  refine jk_get C in_Md (ci := 11) rfl 19 (by decide) tm_1282 0 rfl rfl rd_Md_does_33 ?_
  refine jk_iload_n C rd_Md_does_36 (k := 4) rfl ?_
  refine jk_iald C 2 0 rfl rfl (Nat.le_of_ble_eq_true rfl) rd_Md_does_37 hf (fun hf => ?_)
  refine jk_eqs_c hf (fun hx hf => ?_) (fun hx1 hf => ?_)
  · refine jk_tabIn (off := 46) (tgt := 84) C rd_Md_does_38 (k := 1) hx (by decide +kernel) (by decide) ?_
    refine jk_aload_n C rd_Md_does_84 (k := 3) rfl ?_
    refine jk_get C in_Md (ci := 11) rfl 0 (by decide) tm_1263 0 rfl rfl rd_Md_does_85 ?_
    refine jk_iconst C rd_Md_does_88 ?_
    refine jk_iald C 1 0 rfl rfl (Nat.le_of_ble_eq_true rfl) rd_Md_does_89 hf (fun hf => ?_)
    refine jk_bipush C rd_Md_does_90 (by decide +kernel) ?_
    refine jk_icmp_ge (tgt := 106) C rd_Md_does_92 (by decide) hf (fun _ hf => ?_) (fun _ hf => ?_)
    · refine jk_iconst C rd_Md_does_106 ?_
      cases hf
      exact jk_zret C (Or.inl rfl) rfl rd_Md_does_107 rfl
    · refine jk_aload_n C rd_Md_does_95 (k := 3) rfl ?_
      obtain ⟨q96, hq96, hf⟩ := jk_bind_h hf
      refine jk_callVi C hZ.1 hz (ct_Md_addsCluster l D Z sq hZ cI cR a_t a_t_w a_t_wKept a_t_saved a_t_past a_t_input a_t_n a_t_order a_t_numbers a_t_output i_t_pastMany i_t_isSaved i_t_thrown i_t_inputMany i_t_lastError i_t_lastOffset i_t_error i_t_offset i_t_nextByte i_t_begin i_t_value i_t_token i_t_got i_t_orders i_t_outputMany i_t_w q96 hq96) tm_1520 tm_1522 sl_63 tm_15 tm_1523 na_Md_addsCluster ⟨Nat.le_of_ble_eq_true rfl, Nat.le_of_ble_eq_true rfl⟩ rfl [0, 1] rfl rfl rfl (ws' := wd_Md_does cI a_t a_t_w a_t_wKept a_t_saved a_t_past a_t_input a_t_n a_t_order a_t_numbers a_t_output i_t_pastMany i_t_isSaved i_t_thrown i_t_inputMany i_t_lastError i_t_lastOffset i_t_error i_t_offset i_t_nextByte i_t_begin i_t_value i_t_token i_t_got i_t_orders i_t_outputMany q96.2 i_t_order i_t_numbers) rfl 0 11 rfl rfl rfl (st := []) rfl (Nat.le_of_ble_eq_true rfl) rd_Md_does_96 ?_ ⟨Nat.le_of_ble_eq_true rfl, Nat.le_of_ble_eq_true rfl⟩
      refine jk_if_lt (tgt := 106) C rd_Md_does_99 (by decide) hf (fun _ hf => ?_) (fun _ hf => ?_)
      · refine jk_iconst C rd_Md_does_106 ?_
        cases hf
        exact jk_zret C (Or.inl rfl) rfl rd_Md_does_107 rfl
      · refine jk_iconst C rd_Md_does_102 ?_
        refine jk_goto (tgt := 107) C rd_Md_does_103 (by decide) ?_
        cases hf
        exact jk_zret C (Or.inr rfl) rfl rd_Md_does_107 rfl
  refine jk_eqs_c hf (fun hx hf => ?_) (fun hx2 hf => ?_)
  · refine jk_tabIn (off := 70) (tgt := 108) C rd_Md_does_38 (k := 2) hx (by decide +kernel) (by decide) ?_
    refine jk_aload_n C rd_Md_does_108 (k := 3) rfl ?_
    refine jk_iload_n C rd_Md_does_109 (k := 2) rfl ?_
    obtain ⟨q110, hq110, hf⟩ := jk_bind_h hf
    refine jk_callVi C hZ.1 hz (ct_Md_isCluster l D Z sq hZ cI cR a_t a_t_w a_t_wKept a_t_saved a_t_past a_t_input a_t_n a_t_order a_t_numbers a_t_output i_t_pastMany i_t_isSaved i_t_thrown i_t_inputMany i_t_lastError i_t_lastOffset i_t_error i_t_offset i_t_nextByte i_t_begin i_t_value i_t_token i_t_got i_t_orders i_t_outputMany i_t_w (i_t_numbers (3 * x1)) q110 hq110) tm_1524 tm_1526 sl_64 tm_15 tm_1527 na_Md_isCluster ⟨Nat.le_of_ble_eq_true rfl, Nat.le_of_ble_eq_true rfl⟩ rfl [0, 1] rfl rfl rfl (ws' := wd_Md_does cI a_t a_t_w a_t_wKept a_t_saved a_t_past a_t_input a_t_n a_t_order a_t_numbers a_t_output i_t_pastMany i_t_isSaved i_t_thrown i_t_inputMany i_t_lastError i_t_lastOffset i_t_error i_t_offset i_t_nextByte i_t_begin i_t_value i_t_token i_t_got i_t_orders i_t_outputMany i_t_w i_t_order i_t_numbers) rfl 0 11 rfl rfl rfl (st := []) rfl (Nat.le_of_ble_eq_true rfl) rd_Md_does_110 ?_ ⟨Nat.le_of_ble_eq_true rfl, Nat.le_of_ble_eq_true rfl⟩
    refine jk_if_eq (tgt := 138) C rd_Md_does_113 (by decide) hf (fun _ hf => ?_) (fun _ hf => ?_)
    · refine jk_iconst C rd_Md_does_138 ?_
      cases hf
      exact jk_zret C (Or.inl rfl) rfl rd_Md_does_139 rfl
    · refine jk_aload_n C rd_Md_does_116 (k := 3) rfl ?_
      obtain ⟨q117, hq117, hf⟩ := jk_bind_h hf
      refine jk_callVi C hZ.1 hz (ct_Md_mayAdd l D Z sq hZ cI cR a_t a_t_w a_t_wKept a_t_saved a_t_past a_t_input a_t_n a_t_order a_t_numbers a_t_output i_t_pastMany i_t_isSaved i_t_thrown i_t_inputMany i_t_lastError i_t_lastOffset i_t_error i_t_offset i_t_nextByte i_t_begin i_t_value i_t_token i_t_got i_t_orders i_t_outputMany i_t_w q117 hq117) tm_1441 tm_1443 sl_46 tm_15 tm_1444 na_Md_mayAdd ⟨Nat.le_of_ble_eq_true rfl, Nat.le_of_ble_eq_true rfl⟩ rfl [0, 1] rfl rfl rfl (ws' := wd_Md_does cI a_t a_t_w a_t_wKept a_t_saved a_t_past a_t_input a_t_n a_t_order a_t_numbers a_t_output i_t_pastMany i_t_isSaved i_t_thrown i_t_inputMany i_t_lastError i_t_lastOffset i_t_error i_t_offset i_t_nextByte i_t_begin i_t_value i_t_token i_t_got i_t_orders i_t_outputMany i_t_w i_t_order i_t_numbers) rfl 0 11 rfl rfl rfl (st := []) rfl (Nat.le_of_ble_eq_true rfl) rd_Md_does_117 ?_ ⟨Nat.le_of_ble_eq_true rfl, Nat.le_of_ble_eq_true rfl⟩
      refine jk_if_eq (tgt := 138) C rd_Md_does_120 (by decide) hf (fun _ hf => ?_) (fun _ hf => ?_)
      · refine jk_iconst C rd_Md_does_138 ?_
        cases hf
        exact jk_zret C (Or.inl rfl) rfl rd_Md_does_139 rfl
      · refine jk_aload_n C rd_Md_does_123 (k := 3) rfl ?_
        refine jk_iload_n C rd_Md_does_124 (k := 2) rfl ?_
        refine jk_iload_n C rd_Md_does_125 (k := 1) rfl ?_
        refine jk_iload C rd_Md_does_126 (k := 0) rfl ?_
        obtain ⟨q128, hq128, hf⟩ := jk_bind_h hf
        refine jk_callVi C hZ.1 hz (ct_Md_adds l D Z sq hZ cI cR a_t a_t_w a_t_wKept a_t_saved a_t_past a_t_input a_t_n a_t_order a_t_numbers a_t_output i_t_pastMany i_t_isSaved i_t_thrown i_t_inputMany i_t_lastError i_t_lastOffset i_t_error i_t_offset i_t_nextByte i_t_begin i_t_value i_t_token i_t_got i_t_orders i_t_outputMany i_t_w (i_t_numbers (3 * x1)) (i_t_numbers ((3 * x1) + 1)) (i_t_numbers ((3 * x1) + 2)) q128 hq128) tm_1528 tm_1530 sl_65 tm_15 tm_1531 na_Md_adds ⟨Nat.le_of_ble_eq_true rfl, Nat.le_of_ble_eq_true rfl⟩ rfl [0, 1] rfl rfl rfl (ws' := wd_Md_does cI a_t a_t_w a_t_wKept a_t_saved a_t_past a_t_input a_t_n a_t_order a_t_numbers a_t_output i_t_pastMany i_t_isSaved i_t_thrown i_t_inputMany i_t_lastError i_t_lastOffset i_t_error i_t_offset i_t_nextByte i_t_begin i_t_value i_t_token i_t_got i_t_orders i_t_outputMany q128.2 i_t_order i_t_numbers) rfl 0 11 rfl rfl rfl (st := []) rfl (Nat.le_of_ble_eq_true rfl) rd_Md_does_128 ?_ ⟨Nat.le_of_ble_eq_true rfl, Nat.le_of_ble_eq_true rfl⟩
        refine jk_if_lt (tgt := 138) C rd_Md_does_131 (by decide) hf (fun _ hf => ?_) (fun _ hf => ?_)
        · refine jk_iconst C rd_Md_does_138 ?_
          cases hf
          exact jk_zret C (Or.inl rfl) rfl rd_Md_does_139 rfl
        · refine jk_iconst C rd_Md_does_134 ?_
          refine jk_goto (tgt := 139) C rd_Md_does_135 (by decide) ?_
          cases hf
          exact jk_zret C (Or.inr rfl) rfl rd_Md_does_139 rfl
  refine jk_eqs_c hf (fun hx hf => ?_) (fun hx3 hf => ?_)
  · refine jk_tabIn (off := 102) (tgt := 140) C rd_Md_does_38 (k := 3) hx (by decide +kernel) (by decide) ?_
    refine jk_aload_n C rd_Md_does_140 (k := 3) rfl ?_
    refine jk_iload_n C rd_Md_does_141 (k := 2) rfl ?_
    obtain ⟨q142, hq142, hf⟩ := jk_bind_h hf
    refine jk_callVi C hZ.1 hz (ct_Md_isCord l D Z sq hZ cI cR a_t a_t_w a_t_wKept a_t_saved a_t_past a_t_input a_t_n a_t_order a_t_numbers a_t_output i_t_pastMany i_t_isSaved i_t_thrown i_t_inputMany i_t_lastError i_t_lastOffset i_t_error i_t_offset i_t_nextByte i_t_begin i_t_value i_t_token i_t_got i_t_orders i_t_outputMany i_t_w (i_t_numbers (3 * x1)) q142 hq142) tm_1532 tm_1534 sl_66 tm_15 tm_1535 na_Md_isCord ⟨Nat.le_of_ble_eq_true rfl, Nat.le_of_ble_eq_true rfl⟩ rfl [0, 1] rfl rfl rfl (ws' := wd_Md_does cI a_t a_t_w a_t_wKept a_t_saved a_t_past a_t_input a_t_n a_t_order a_t_numbers a_t_output i_t_pastMany i_t_isSaved i_t_thrown i_t_inputMany i_t_lastError i_t_lastOffset i_t_error i_t_offset i_t_nextByte i_t_begin i_t_value i_t_token i_t_got i_t_orders i_t_outputMany i_t_w i_t_order i_t_numbers) rfl 0 11 rfl rfl rfl (st := []) rfl (Nat.le_of_ble_eq_true rfl) rd_Md_does_142 ?_ ⟨Nat.le_of_ble_eq_true rfl, Nat.le_of_ble_eq_true rfl⟩
    refine jk_if_eq (tgt := 171) C rd_Md_does_145 (by decide) hf (fun _ hf => ?_) (fun _ hf => ?_)
    · refine jk_iconst C rd_Md_does_171 ?_
      cases hf
      exact jk_zret C (Or.inl rfl) rfl rd_Md_does_172 rfl
    · refine jk_aload_n C rd_Md_does_148 (k := 3) rfl ?_
      refine jk_iload_n C rd_Md_does_149 (k := 2) rfl ?_
      obtain ⟨q150, hq150, hf⟩ := jk_bind_h hf
      refine jk_callVi C hZ.1 hz (ct_Md_maySub l D Z sq hZ cI cR a_t a_t_w a_t_wKept a_t_saved a_t_past a_t_input a_t_n a_t_order a_t_numbers a_t_output i_t_pastMany i_t_isSaved i_t_thrown i_t_inputMany i_t_lastError i_t_lastOffset i_t_error i_t_offset i_t_nextByte i_t_begin i_t_value i_t_token i_t_got i_t_orders i_t_outputMany i_t_w (i_t_numbers (3 * x1)) q150 hq150) tm_1536 tm_1538 sl_67 tm_15 tm_1539 na_Md_maySub ⟨Nat.le_of_ble_eq_true rfl, Nat.le_of_ble_eq_true rfl⟩ rfl [0, 1] rfl rfl rfl (ws' := wd_Md_does cI a_t a_t_w a_t_wKept a_t_saved a_t_past a_t_input a_t_n a_t_order a_t_numbers a_t_output i_t_pastMany i_t_isSaved i_t_thrown i_t_inputMany i_t_lastError i_t_lastOffset i_t_error i_t_offset i_t_nextByte i_t_begin i_t_value i_t_token i_t_got i_t_orders i_t_outputMany i_t_w i_t_order i_t_numbers) rfl 0 11 rfl rfl rfl (st := []) rfl (Nat.le_of_ble_eq_true rfl) rd_Md_does_150 ?_ ⟨Nat.le_of_ble_eq_true rfl, Nat.le_of_ble_eq_true rfl⟩
      refine jk_if_eq (tgt := 171) C rd_Md_does_153 (by decide) hf (fun _ hf => ?_) (fun _ hf => ?_)
      · refine jk_iconst C rd_Md_does_171 ?_
        cases hf
        exact jk_zret C (Or.inl rfl) rfl rd_Md_does_172 rfl
      · refine jk_aload_n C rd_Md_does_156 (k := 3) rfl ?_
        refine jk_iload_n C rd_Md_does_157 (k := 2) rfl ?_
        refine jk_iload_n C rd_Md_does_158 (k := 1) rfl ?_
        refine jk_iload C rd_Md_does_159 (k := 0) rfl ?_
        obtain ⟨q161, hq161, hf⟩ := jk_bind_h hf
        refine jk_callVi C hZ.1 hz (ct_Md_subs l D Z sq hZ cI cR a_t a_t_w a_t_wKept a_t_saved a_t_past a_t_input a_t_n a_t_order a_t_numbers a_t_output i_t_pastMany i_t_isSaved i_t_thrown i_t_inputMany i_t_lastError i_t_lastOffset i_t_error i_t_offset i_t_nextByte i_t_begin i_t_value i_t_token i_t_got i_t_orders i_t_outputMany i_t_w (i_t_numbers (3 * x1)) (i_t_numbers ((3 * x1) + 1)) (i_t_numbers ((3 * x1) + 2)) q161 hq161) tm_1540 tm_1542 sl_68 tm_15 tm_1543 na_Md_subs ⟨Nat.le_of_ble_eq_true rfl, Nat.le_of_ble_eq_true rfl⟩ rfl [0, 1] rfl rfl rfl (ws' := wd_Md_does cI a_t a_t_w a_t_wKept a_t_saved a_t_past a_t_input a_t_n a_t_order a_t_numbers a_t_output i_t_pastMany i_t_isSaved i_t_thrown i_t_inputMany i_t_lastError i_t_lastOffset i_t_error i_t_offset i_t_nextByte i_t_begin i_t_value i_t_token i_t_got i_t_orders i_t_outputMany q161.2 i_t_order i_t_numbers) rfl 0 11 rfl rfl rfl (st := []) rfl (Nat.le_of_ble_eq_true rfl) rd_Md_does_161 ?_ ⟨Nat.le_of_ble_eq_true rfl, Nat.le_of_ble_eq_true rfl⟩
        refine jk_if_lt (tgt := 171) C rd_Md_does_164 (by decide) hf (fun _ hf => ?_) (fun _ hf => ?_)
        · refine jk_iconst C rd_Md_does_171 ?_
          cases hf
          exact jk_zret C (Or.inl rfl) rfl rd_Md_does_172 rfl
        · refine jk_iconst C rd_Md_does_167 ?_
          refine jk_goto (tgt := 172) C rd_Md_does_168 (by decide) ?_
          cases hf
          exact jk_zret C (Or.inr rfl) rfl rd_Md_does_172 rfl
  refine jk_eqs_c hf (fun hx hf => ?_) (fun hx4 hf => ?_)
  · refine jk_tabIn (off := 135) (tgt := 173) C rd_Md_does_38 (k := 4) hx (by decide +kernel) (by decide) ?_
    refine jk_aload_n C rd_Md_does_173 (k := 3) rfl ?_
    refine jk_iload_n C rd_Md_does_174 (k := 2) rfl ?_
    obtain ⟨q175, hq175, hf⟩ := jk_bind_h hf
    refine jk_callVi C hZ.1 hz (ct_Md_isCord l D Z sq hZ cI cR a_t a_t_w a_t_wKept a_t_saved a_t_past a_t_input a_t_n a_t_order a_t_numbers a_t_output i_t_pastMany i_t_isSaved i_t_thrown i_t_inputMany i_t_lastError i_t_lastOffset i_t_error i_t_offset i_t_nextByte i_t_begin i_t_value i_t_token i_t_got i_t_orders i_t_outputMany i_t_w (i_t_numbers (3 * x1)) q175 hq175) tm_1532 tm_1534 sl_66 tm_15 tm_1535 na_Md_isCord ⟨Nat.le_of_ble_eq_true rfl, Nat.le_of_ble_eq_true rfl⟩ rfl [0, 1] rfl rfl rfl (ws' := wd_Md_does cI a_t a_t_w a_t_wKept a_t_saved a_t_past a_t_input a_t_n a_t_order a_t_numbers a_t_output i_t_pastMany i_t_isSaved i_t_thrown i_t_inputMany i_t_lastError i_t_lastOffset i_t_error i_t_offset i_t_nextByte i_t_begin i_t_value i_t_token i_t_got i_t_orders i_t_outputMany i_t_w i_t_order i_t_numbers) rfl 0 11 rfl rfl rfl (st := []) rfl (Nat.le_of_ble_eq_true rfl) rd_Md_does_175 ?_ ⟨Nat.le_of_ble_eq_true rfl, Nat.le_of_ble_eq_true rfl⟩
    refine jk_if_eq (tgt := 193) C rd_Md_does_178 (by decide) hf (fun _ hf => ?_) (fun _ hf => ?_)
    · refine jk_iconst C rd_Md_does_193 ?_
      cases hf
      exact jk_zret C (Or.inl rfl) rfl rd_Md_does_194 rfl
    · refine jk_aload_n C rd_Md_does_181 (k := 3) rfl ?_
      refine jk_iload_n C rd_Md_does_182 (k := 2) rfl ?_
      obtain ⟨q183, hq183, hf⟩ := jk_bind_h hf
      refine jk_callVi C hZ.1 hz (ct_Md_cuts l D Z sq hZ cI cR a_t a_t_w a_t_wKept a_t_saved a_t_past a_t_input a_t_n a_t_order a_t_numbers a_t_output i_t_pastMany i_t_isSaved i_t_thrown i_t_inputMany i_t_lastError i_t_lastOffset i_t_error i_t_offset i_t_nextByte i_t_begin i_t_value i_t_token i_t_got i_t_orders i_t_outputMany i_t_w (i_t_numbers (3 * x1)) q183 hq183) tm_1544 tm_1546 sl_69 tm_15 tm_1547 na_Md_cuts ⟨Nat.le_of_ble_eq_true rfl, Nat.le_of_ble_eq_true rfl⟩ rfl [0, 1] rfl rfl rfl (ws' := wd_Md_does cI a_t a_t_w a_t_wKept a_t_saved a_t_past a_t_input a_t_n a_t_order a_t_numbers a_t_output i_t_pastMany i_t_isSaved i_t_thrown i_t_inputMany i_t_lastError i_t_lastOffset i_t_error i_t_offset i_t_nextByte i_t_begin i_t_value i_t_token i_t_got i_t_orders i_t_outputMany q183.2 i_t_order i_t_numbers) rfl 0 11 rfl rfl rfl (st := []) rfl (Nat.le_of_ble_eq_true rfl) rd_Md_does_183 ?_ ⟨Nat.le_of_ble_eq_true rfl, Nat.le_of_ble_eq_true rfl⟩
      refine jk_if_lt (tgt := 193) C rd_Md_does_186 (by decide) hf (fun _ hf => ?_) (fun _ hf => ?_)
      · refine jk_iconst C rd_Md_does_193 ?_
        cases hf
        exact jk_zret C (Or.inl rfl) rfl rd_Md_does_194 rfl
      · refine jk_iconst C rd_Md_does_189 ?_
        refine jk_goto (tgt := 194) C rd_Md_does_190 (by decide) ?_
        cases hf
        exact jk_zret C (Or.inr rfl) rfl rd_Md_does_194 rfl
  refine jk_eqs_c hf (fun hx hf => ?_) (fun hx5 hf => ?_)
  · refine jk_tabIn (off := 157) (tgt := 195) C rd_Md_does_38 (k := 5) hx (by decide +kernel) (by decide) ?_
    refine jk_aload_n C rd_Md_does_195 (k := 3) rfl ?_
    refine jk_iload_n C rd_Md_does_196 (k := 2) rfl ?_
    obtain ⟨q197, hq197, hf⟩ := jk_bind_h hf
    refine jk_callVi C hZ.1 hz (ct_Md_isCluster l D Z sq hZ cI cR a_t a_t_w a_t_wKept a_t_saved a_t_past a_t_input a_t_n a_t_order a_t_numbers a_t_output i_t_pastMany i_t_isSaved i_t_thrown i_t_inputMany i_t_lastError i_t_lastOffset i_t_error i_t_offset i_t_nextByte i_t_begin i_t_value i_t_token i_t_got i_t_orders i_t_outputMany i_t_w (i_t_numbers (3 * x1)) q197 hq197) tm_1524 tm_1526 sl_64 tm_15 tm_1527 na_Md_isCluster ⟨Nat.le_of_ble_eq_true rfl, Nat.le_of_ble_eq_true rfl⟩ rfl [0, 1] rfl rfl rfl (ws' := wd_Md_does cI a_t a_t_w a_t_wKept a_t_saved a_t_past a_t_input a_t_n a_t_order a_t_numbers a_t_output i_t_pastMany i_t_isSaved i_t_thrown i_t_inputMany i_t_lastError i_t_lastOffset i_t_error i_t_offset i_t_nextByte i_t_begin i_t_value i_t_token i_t_got i_t_orders i_t_outputMany i_t_w i_t_order i_t_numbers) rfl 0 11 rfl rfl rfl (st := []) rfl (Nat.le_of_ble_eq_true rfl) rd_Md_does_197 ?_ ⟨Nat.le_of_ble_eq_true rfl, Nat.le_of_ble_eq_true rfl⟩
    refine jk_if_eq (tgt := 224) C rd_Md_does_200 (by decide) hf (fun _ hf => ?_) (fun _ hf => ?_)
    · refine jk_iconst C rd_Md_does_224 ?_
      cases hf
      exact jk_zret C (Or.inl rfl) rfl rd_Md_does_225 rfl
    · refine jk_aload_n C rd_Md_does_203 (k := 3) rfl ?_
      refine jk_iload_n C rd_Md_does_204 (k := 2) rfl ?_
      obtain ⟨q205, hq205, hf⟩ := jk_bind_h hf
      refine jk_callVi C hZ.1 hz (ct_Md_mayTie l D Z sq hZ cI cR a_t a_t_w a_t_wKept a_t_saved a_t_past a_t_input a_t_n a_t_order a_t_numbers a_t_output i_t_pastMany i_t_isSaved i_t_thrown i_t_inputMany i_t_lastError i_t_lastOffset i_t_error i_t_offset i_t_nextByte i_t_begin i_t_value i_t_token i_t_got i_t_orders i_t_outputMany i_t_w (i_t_numbers (3 * x1)) q205 hq205) tm_1552 tm_1554 sl_71 tm_15 tm_1555 na_Md_mayTie ⟨Nat.le_of_ble_eq_true rfl, Nat.le_of_ble_eq_true rfl⟩ rfl [0, 1] rfl rfl rfl (ws' := wd_Md_does cI a_t a_t_w a_t_wKept a_t_saved a_t_past a_t_input a_t_n a_t_order a_t_numbers a_t_output i_t_pastMany i_t_isSaved i_t_thrown i_t_inputMany i_t_lastError i_t_lastOffset i_t_error i_t_offset i_t_nextByte i_t_begin i_t_value i_t_token i_t_got i_t_orders i_t_outputMany i_t_w i_t_order i_t_numbers) rfl 0 11 rfl rfl rfl (st := []) rfl (Nat.le_of_ble_eq_true rfl) rd_Md_does_205 ?_ ⟨Nat.le_of_ble_eq_true rfl, Nat.le_of_ble_eq_true rfl⟩
      refine jk_if_eq (tgt := 224) C rd_Md_does_208 (by decide) hf (fun _ hf => ?_) (fun _ hf => ?_)
      · refine jk_iconst C rd_Md_does_224 ?_
        cases hf
        exact jk_zret C (Or.inl rfl) rfl rd_Md_does_225 rfl
      · refine jk_aload_n C rd_Md_does_211 (k := 3) rfl ?_
        refine jk_iload_n C rd_Md_does_212 (k := 2) rfl ?_
        refine jk_iload_n C rd_Md_does_213 (k := 1) rfl ?_
        obtain ⟨q214, hq214, hf⟩ := jk_bind_h hf
        refine jk_callVi C hZ.1 hz (ct_Md_ties l D Z sq hZ cI cR a_t a_t_w a_t_wKept a_t_saved a_t_past a_t_input a_t_n a_t_order a_t_numbers a_t_output i_t_pastMany i_t_isSaved i_t_thrown i_t_inputMany i_t_lastError i_t_lastOffset i_t_error i_t_offset i_t_nextByte i_t_begin i_t_value i_t_token i_t_got i_t_orders i_t_outputMany i_t_w (i_t_numbers (3 * x1)) (i_t_numbers ((3 * x1) + 1)) q214 hq214) tm_1579 tm_1581 sl_77 tm_15 tm_1582 na_Md_ties ⟨Nat.le_of_ble_eq_true rfl, Nat.le_of_ble_eq_true rfl⟩ rfl [0, 1] rfl rfl rfl (ws' := wd_Md_does cI a_t a_t_w a_t_wKept a_t_saved a_t_past a_t_input a_t_n a_t_order a_t_numbers a_t_output i_t_pastMany i_t_isSaved i_t_thrown i_t_inputMany i_t_lastError i_t_lastOffset i_t_error i_t_offset i_t_nextByte i_t_begin i_t_value i_t_token i_t_got i_t_orders i_t_outputMany q214.2 i_t_order i_t_numbers) rfl 0 11 rfl rfl rfl (st := []) rfl (Nat.le_of_ble_eq_true rfl) rd_Md_does_214 ?_ ⟨Nat.le_of_ble_eq_true rfl, Nat.le_of_ble_eq_true rfl⟩
        refine jk_if_lt (tgt := 224) C rd_Md_does_217 (by decide) hf (fun _ hf => ?_) (fun _ hf => ?_)
        · refine jk_iconst C rd_Md_does_224 ?_
          cases hf
          exact jk_zret C (Or.inl rfl) rfl rd_Md_does_225 rfl
        · refine jk_iconst C rd_Md_does_220 ?_
          refine jk_goto (tgt := 225) C rd_Md_does_221 (by decide) ?_
          cases hf
          exact jk_zret C (Or.inr rfl) rfl rd_Md_does_225 rfl
  refine jk_eqs_c hf (fun hx hf => ?_) (fun hx6 hf => ?_)
  · refine jk_tabIn (off := 188) (tgt := 226) C rd_Md_does_38 (k := 6) hx (by decide +kernel) (by decide) ?_
    refine jk_aload_n C rd_Md_does_226 (k := 3) rfl ?_
    refine jk_iload_n C rd_Md_does_227 (k := 2) rfl ?_
    obtain ⟨q228, hq228, hf⟩ := jk_bind_h hf
    refine jk_callVi C hZ.1 hz (ct_Md_isCord l D Z sq hZ cI cR a_t a_t_w a_t_wKept a_t_saved a_t_past a_t_input a_t_n a_t_order a_t_numbers a_t_output i_t_pastMany i_t_isSaved i_t_thrown i_t_inputMany i_t_lastError i_t_lastOffset i_t_error i_t_offset i_t_nextByte i_t_begin i_t_value i_t_token i_t_got i_t_orders i_t_outputMany i_t_w (i_t_numbers (3 * x1)) q228 hq228) tm_1532 tm_1534 sl_66 tm_15 tm_1535 na_Md_isCord ⟨Nat.le_of_ble_eq_true rfl, Nat.le_of_ble_eq_true rfl⟩ rfl [0, 1] rfl rfl rfl (ws' := wd_Md_does cI a_t a_t_w a_t_wKept a_t_saved a_t_past a_t_input a_t_n a_t_order a_t_numbers a_t_output i_t_pastMany i_t_isSaved i_t_thrown i_t_inputMany i_t_lastError i_t_lastOffset i_t_error i_t_offset i_t_nextByte i_t_begin i_t_value i_t_token i_t_got i_t_orders i_t_outputMany i_t_w i_t_order i_t_numbers) rfl 0 11 rfl rfl rfl (st := []) rfl (Nat.le_of_ble_eq_true rfl) rd_Md_does_228 ?_ ⟨Nat.le_of_ble_eq_true rfl, Nat.le_of_ble_eq_true rfl⟩
    refine jk_if_eq (tgt := 259) C rd_Md_does_231 (by decide) hf (fun _ hf => ?_) (fun _ hf => ?_)
    · refine jk_iconst C rd_Md_does_259 ?_
      cases hf
      exact jk_zret C (Or.inl rfl) rfl rd_Md_does_260 rfl
    · refine jk_iload_n C rd_Md_does_234 (k := 1) rfl ?_
      refine jk_aload_n C rd_Md_does_235 (k := 3) rfl ?_
      refine jk_iload_n C rd_Md_does_236 (k := 2) rfl ?_
      refine jk_iconst C rd_Md_does_237 ?_
      obtain ⟨q238, hq238, hf⟩ := jk_bind_h hf
      refine jk_callVi C hZ.1 hz (ct_Md_of l D Z sq hZ cI cR a_t a_t_w a_t_wKept a_t_saved a_t_past a_t_input a_t_n a_t_order a_t_numbers a_t_output i_t_pastMany i_t_isSaved i_t_thrown i_t_inputMany i_t_lastError i_t_lastOffset i_t_error i_t_offset i_t_nextByte i_t_begin i_t_value i_t_token i_t_got i_t_orders i_t_outputMany i_t_w (i_t_numbers (3 * x1)) 4 q238 hq238) tm_1256 tm_1258 sl_26 tm_15 tm_1259 na_Md_of ⟨Nat.le_of_ble_eq_true rfl, Nat.le_of_ble_eq_true rfl⟩ rfl [0, 1] rfl rfl rfl (ws' := wd_Md_does cI a_t a_t_w a_t_wKept a_t_saved a_t_past a_t_input a_t_n a_t_order a_t_numbers a_t_output i_t_pastMany i_t_isSaved i_t_thrown i_t_inputMany i_t_lastError i_t_lastOffset i_t_error i_t_offset i_t_nextByte i_t_begin i_t_value i_t_token i_t_got i_t_orders i_t_outputMany i_t_w i_t_order i_t_numbers) rfl 0 11 rfl rfl rfl (st := [jk_V (i_t_numbers ((3 * x1) + 1))]) rfl (Nat.le_of_ble_eq_true rfl) rd_Md_does_238 ?_ ⟨Nat.le_of_ble_eq_true rfl, Nat.le_of_ble_eq_true rfl⟩
      refine jk_icmp_lt (tgt := 259) C rd_Md_does_241 (by decide) hf (fun _ hf => ?_) (fun _ hf => ?_)
      · refine jk_iconst C rd_Md_does_259 ?_
        cases hf
        exact jk_zret C (Or.inl rfl) rfl rd_Md_does_260 rfl
      · refine jk_aload_n C rd_Md_does_244 (k := 3) rfl ?_
        refine jk_iload_n C rd_Md_does_245 (k := 2) rfl ?_
        refine jk_iload_n C rd_Md_does_246 (k := 1) rfl ?_
        refine jk_iload C rd_Md_does_247 (k := 0) rfl ?_
        obtain ⟨q249, hq249, hf⟩ := jk_bind_h hf
        refine jk_callVi C hZ.1 hz (ct_Md_sets l D Z sq hZ cI cR a_t a_t_w a_t_wKept a_t_saved a_t_past a_t_input a_t_n a_t_order a_t_numbers a_t_output i_t_pastMany i_t_isSaved i_t_thrown i_t_inputMany i_t_lastError i_t_lastOffset i_t_error i_t_offset i_t_nextByte i_t_begin i_t_value i_t_token i_t_got i_t_orders i_t_outputMany i_t_w (i_t_numbers (3 * x1)) (i_t_numbers ((3 * x1) + 1)) (i_t_numbers ((3 * x1) + 2)) q249 hq249) tm_1583 tm_1585 sl_78 tm_15 tm_1586 na_Md_sets ⟨Nat.le_of_ble_eq_true rfl, Nat.le_of_ble_eq_true rfl⟩ rfl [0, 1] rfl rfl rfl (ws' := wd_Md_does cI a_t a_t_w a_t_wKept a_t_saved a_t_past a_t_input a_t_n a_t_order a_t_numbers a_t_output i_t_pastMany i_t_isSaved i_t_thrown i_t_inputMany i_t_lastError i_t_lastOffset i_t_error i_t_offset i_t_nextByte i_t_begin i_t_value i_t_token i_t_got i_t_orders i_t_outputMany q249.2 i_t_order i_t_numbers) rfl 0 11 rfl rfl rfl (st := []) rfl (Nat.le_of_ble_eq_true rfl) rd_Md_does_249 ?_ ⟨Nat.le_of_ble_eq_true rfl, Nat.le_of_ble_eq_true rfl⟩
        refine jk_if_lt (tgt := 259) C rd_Md_does_252 (by decide) hf (fun _ hf => ?_) (fun _ hf => ?_)
        · refine jk_iconst C rd_Md_does_259 ?_
          cases hf
          exact jk_zret C (Or.inl rfl) rfl rd_Md_does_260 rfl
        · refine jk_iconst C rd_Md_does_255 ?_
          refine jk_goto (tgt := 260) C rd_Md_does_256 (by decide) ?_
          cases hf
          exact jk_zret C (Or.inr rfl) rfl rd_Md_does_260 rfl
  refine jk_eqs_c hf (fun hx hf => ?_) (fun hx7 hf => ?_)
  · refine jk_tabIn (off := 223) (tgt := 261) C rd_Md_does_38 (k := 7) hx (by decide +kernel) (by decide) ?_
    refine jk_aload_n C rd_Md_does_261 (k := 3) rfl ?_
    refine jk_iload_n C rd_Md_does_262 (k := 2) rfl ?_
    obtain ⟨q263, hq263, hf⟩ := jk_bind_h hf
    refine jk_callVi C hZ.1 hz (ct_Md_isCord l D Z sq hZ cI cR a_t a_t_w a_t_wKept a_t_saved a_t_past a_t_input a_t_n a_t_order a_t_numbers a_t_output i_t_pastMany i_t_isSaved i_t_thrown i_t_inputMany i_t_lastError i_t_lastOffset i_t_error i_t_offset i_t_nextByte i_t_begin i_t_value i_t_token i_t_got i_t_orders i_t_outputMany i_t_w (i_t_numbers (3 * x1)) q263 hq263) tm_1532 tm_1534 sl_66 tm_15 tm_1535 na_Md_isCord ⟨Nat.le_of_ble_eq_true rfl, Nat.le_of_ble_eq_true rfl⟩ rfl [0, 1] rfl rfl rfl (ws' := wd_Md_does cI a_t a_t_w a_t_wKept a_t_saved a_t_past a_t_input a_t_n a_t_order a_t_numbers a_t_output i_t_pastMany i_t_isSaved i_t_thrown i_t_inputMany i_t_lastError i_t_lastOffset i_t_error i_t_offset i_t_nextByte i_t_begin i_t_value i_t_token i_t_got i_t_orders i_t_outputMany i_t_w i_t_order i_t_numbers) rfl 0 11 rfl rfl rfl (st := []) rfl (Nat.le_of_ble_eq_true rfl) rd_Md_does_263 ?_ ⟨Nat.le_of_ble_eq_true rfl, Nat.le_of_ble_eq_true rfl⟩
    refine jk_if_eq (tgt := 292) C rd_Md_does_266 (by decide) hf (fun _ hf => ?_) (fun _ hf => ?_)
    · refine jk_iconst C rd_Md_does_292 ?_
      cases hf
      exact jk_zret C (Or.inl rfl) rfl rd_Md_does_293 rfl
    · refine jk_iload_n C rd_Md_does_269 (k := 1) rfl ?_
      refine jk_aload_n C rd_Md_does_270 (k := 3) rfl ?_
      refine jk_iload_n C rd_Md_does_271 (k := 2) rfl ?_
      refine jk_iconst C rd_Md_does_272 ?_
      obtain ⟨q273, hq273, hf⟩ := jk_bind_h hf
      refine jk_callVi C hZ.1 hz (ct_Md_of l D Z sq hZ cI cR a_t a_t_w a_t_wKept a_t_saved a_t_past a_t_input a_t_n a_t_order a_t_numbers a_t_output i_t_pastMany i_t_isSaved i_t_thrown i_t_inputMany i_t_lastError i_t_lastOffset i_t_error i_t_offset i_t_nextByte i_t_begin i_t_value i_t_token i_t_got i_t_orders i_t_outputMany i_t_w (i_t_numbers (3 * x1)) 4 q273 hq273) tm_1256 tm_1258 sl_26 tm_15 tm_1259 na_Md_of ⟨Nat.le_of_ble_eq_true rfl, Nat.le_of_ble_eq_true rfl⟩ rfl [0, 1] rfl rfl rfl (ws' := wd_Md_does cI a_t a_t_w a_t_wKept a_t_saved a_t_past a_t_input a_t_n a_t_order a_t_numbers a_t_output i_t_pastMany i_t_isSaved i_t_thrown i_t_inputMany i_t_lastError i_t_lastOffset i_t_error i_t_offset i_t_nextByte i_t_begin i_t_value i_t_token i_t_got i_t_orders i_t_outputMany i_t_w i_t_order i_t_numbers) rfl 0 11 rfl rfl rfl (st := [jk_V (i_t_numbers ((3 * x1) + 1))]) rfl (Nat.le_of_ble_eq_true rfl) rd_Md_does_273 ?_ ⟨Nat.le_of_ble_eq_true rfl, Nat.le_of_ble_eq_true rfl⟩
      refine jk_icmp_lt (tgt := 292) C rd_Md_does_276 (by decide) hf (fun _ hf => ?_) (fun _ hf => ?_)
      · refine jk_iconst C rd_Md_does_292 ?_
        cases hf
        exact jk_zret C (Or.inl rfl) rfl rd_Md_does_293 rfl
      · refine jk_aload_n C rd_Md_does_279 (k := 3) rfl ?_
        refine jk_iload_n C rd_Md_does_280 (k := 2) rfl ?_
        refine jk_iload_n C rd_Md_does_281 (k := 1) rfl ?_
        obtain ⟨q282, hq282, hf⟩ := jk_bind_h hf
        refine jk_callVi C hZ.1 hz (ct_Md_loses l D Z sq hZ cI cR a_t a_t_w a_t_wKept a_t_saved a_t_past a_t_input a_t_n a_t_order a_t_numbers a_t_output i_t_pastMany i_t_isSaved i_t_thrown i_t_inputMany i_t_lastError i_t_lastOffset i_t_error i_t_offset i_t_nextByte i_t_begin i_t_value i_t_token i_t_got i_t_orders i_t_outputMany i_t_w (i_t_numbers (3 * x1)) (i_t_numbers ((3 * x1) + 1)) q282 hq282) tm_1244 tm_1246 sl_23 tm_15 tm_1247 na_Md_loses ⟨Nat.le_of_ble_eq_true rfl, Nat.le_of_ble_eq_true rfl⟩ rfl [0, 1] rfl rfl rfl (ws' := wd_Md_does cI a_t a_t_w a_t_wKept a_t_saved a_t_past a_t_input a_t_n a_t_order a_t_numbers a_t_output i_t_pastMany i_t_isSaved i_t_thrown i_t_inputMany i_t_lastError i_t_lastOffset i_t_error i_t_offset i_t_nextByte i_t_begin i_t_value i_t_token i_t_got i_t_orders i_t_outputMany q282.2 i_t_order i_t_numbers) rfl 0 11 rfl rfl rfl (st := []) rfl (Nat.le_of_ble_eq_true rfl) rd_Md_does_282 ?_ ⟨Nat.le_of_ble_eq_true rfl, Nat.le_of_ble_eq_true rfl⟩
        refine jk_if_lt (tgt := 292) C rd_Md_does_285 (by decide) hf (fun _ hf => ?_) (fun _ hf => ?_)
        · refine jk_iconst C rd_Md_does_292 ?_
          cases hf
          exact jk_zret C (Or.inl rfl) rfl rd_Md_does_293 rfl
        · refine jk_iconst C rd_Md_does_288 ?_
          refine jk_goto (tgt := 293) C rd_Md_does_289 (by decide) ?_
          cases hf
          exact jk_zret C (Or.inr rfl) rfl rd_Md_does_293 rfl
  refine jk_eqs_c hf (fun hx hf => ?_) (fun hx8 hf => ?_)
  · refine jk_tabIn (off := 256) (tgt := 294) C rd_Md_does_38 (k := 8) hx (by decide +kernel) (by decide) ?_
    refine jk_aload_n C rd_Md_does_294 (k := 3) rfl ?_
    refine jk_iload_n C rd_Md_does_295 (k := 2) rfl ?_
    obtain ⟨q296, hq296, hf⟩ := jk_bind_h hf
    refine jk_callVi C hZ.1 hz (ct_Md_isCord l D Z sq hZ cI cR a_t a_t_w a_t_wKept a_t_saved a_t_past a_t_input a_t_n a_t_order a_t_numbers a_t_output i_t_pastMany i_t_isSaved i_t_thrown i_t_inputMany i_t_lastError i_t_lastOffset i_t_error i_t_offset i_t_nextByte i_t_begin i_t_value i_t_token i_t_got i_t_orders i_t_outputMany i_t_w (i_t_numbers (3 * x1)) q296 hq296) tm_1532 tm_1534 sl_66 tm_15 tm_1535 na_Md_isCord ⟨Nat.le_of_ble_eq_true rfl, Nat.le_of_ble_eq_true rfl⟩ rfl [0, 1] rfl rfl rfl (ws' := wd_Md_does cI a_t a_t_w a_t_wKept a_t_saved a_t_past a_t_input a_t_n a_t_order a_t_numbers a_t_output i_t_pastMany i_t_isSaved i_t_thrown i_t_inputMany i_t_lastError i_t_lastOffset i_t_error i_t_offset i_t_nextByte i_t_begin i_t_value i_t_token i_t_got i_t_orders i_t_outputMany i_t_w i_t_order i_t_numbers) rfl 0 11 rfl rfl rfl (st := []) rfl (Nat.le_of_ble_eq_true rfl) rd_Md_does_296 ?_ ⟨Nat.le_of_ble_eq_true rfl, Nat.le_of_ble_eq_true rfl⟩
    refine jk_if_eq (tgt := 315) C rd_Md_does_299 (by decide) hf (fun _ hf => ?_) (fun _ hf => ?_)
    · refine jk_iconst C rd_Md_does_315 ?_
      cases hf
      exact jk_zret C (Or.inl rfl) rfl rd_Md_does_316 rfl
    · refine jk_aload_n C rd_Md_does_302 (k := 3) rfl ?_
      refine jk_iload_n C rd_Md_does_303 (k := 2) rfl ?_
      refine jk_iload_n C rd_Md_does_304 (k := 1) rfl ?_
      obtain ⟨q305, hq305, hf⟩ := jk_bind_h hf
      refine jk_callVi C hZ.1 hz (ct_Md_dyes l D Z sq hZ cI cR a_t a_t_w a_t_wKept a_t_saved a_t_past a_t_input a_t_n a_t_order a_t_numbers a_t_output i_t_pastMany i_t_isSaved i_t_thrown i_t_inputMany i_t_lastError i_t_lastOffset i_t_error i_t_offset i_t_nextByte i_t_begin i_t_value i_t_token i_t_got i_t_orders i_t_outputMany i_t_w (i_t_numbers (3 * x1)) (i_t_numbers ((3 * x1) + 1)) q305 hq305) tm_1587 tm_1589 sl_79 tm_15 tm_1590 na_Md_dyes ⟨Nat.le_of_ble_eq_true rfl, Nat.le_of_ble_eq_true rfl⟩ rfl [0, 1] rfl rfl rfl (ws' := wd_Md_does cI a_t a_t_w a_t_wKept a_t_saved a_t_past a_t_input a_t_n a_t_order a_t_numbers a_t_output i_t_pastMany i_t_isSaved i_t_thrown i_t_inputMany i_t_lastError i_t_lastOffset i_t_error i_t_offset i_t_nextByte i_t_begin i_t_value i_t_token i_t_got i_t_orders i_t_outputMany q305.2 i_t_order i_t_numbers) rfl 0 11 rfl rfl rfl (st := []) rfl (Nat.le_of_ble_eq_true rfl) rd_Md_does_305 ?_ ⟨Nat.le_of_ble_eq_true rfl, Nat.le_of_ble_eq_true rfl⟩
      refine jk_if_lt (tgt := 315) C rd_Md_does_308 (by decide) hf (fun _ hf => ?_) (fun _ hf => ?_)
      · refine jk_iconst C rd_Md_does_315 ?_
        cases hf
        exact jk_zret C (Or.inl rfl) rfl rd_Md_does_316 rfl
      · refine jk_iconst C rd_Md_does_311 ?_
        refine jk_goto (tgt := 316) C rd_Md_does_312 (by decide) ?_
        cases hf
        exact jk_zret C (Or.inr rfl) rfl rd_Md_does_316 rfl
  refine jk_tabOut (tgt := 317) C rd_Md_does_38 (jk_rg_h hf).1 (by omega) (by decide) ?_
  replace hf := (jk_rg_h hf).2
  refine jk_aload_n C rd_Md_does_317 (k := 3) rfl ?_
  refine jk_iload_n C rd_Md_does_318 (k := 2) rfl ?_
  obtain ⟨q319, hq319, hf⟩ := jk_bind_h hf
  refine jk_callVi C hZ.1 hz (ct_Md_isCluster l D Z sq hZ cI cR a_t a_t_w a_t_wKept a_t_saved a_t_past a_t_input a_t_n a_t_order a_t_numbers a_t_output i_t_pastMany i_t_isSaved i_t_thrown i_t_inputMany i_t_lastError i_t_lastOffset i_t_error i_t_offset i_t_nextByte i_t_begin i_t_value i_t_token i_t_got i_t_orders i_t_outputMany i_t_w (i_t_numbers (3 * x1)) q319 hq319) tm_1524 tm_1526 sl_64 tm_15 tm_1527 na_Md_isCluster ⟨Nat.le_of_ble_eq_true rfl, Nat.le_of_ble_eq_true rfl⟩ rfl [0, 1] rfl rfl rfl (ws' := wd_Md_does cI a_t a_t_w a_t_wKept a_t_saved a_t_past a_t_input a_t_n a_t_order a_t_numbers a_t_output i_t_pastMany i_t_isSaved i_t_thrown i_t_inputMany i_t_lastError i_t_lastOffset i_t_error i_t_offset i_t_nextByte i_t_begin i_t_value i_t_token i_t_got i_t_orders i_t_outputMany i_t_w i_t_order i_t_numbers) rfl 0 11 rfl rfl rfl (st := []) rfl (Nat.le_of_ble_eq_true rfl) rd_Md_does_319 ?_ ⟨Nat.le_of_ble_eq_true rfl, Nat.le_of_ble_eq_true rfl⟩
  refine jk_if_eq (tgt := 345) C rd_Md_does_322 (by decide) hf (fun _ hf => ?_) (fun _ hf => ?_)
  · refine jk_iconst C rd_Md_does_345 ?_
    cases hf
    exact jk_zret C (Or.inl rfl) rfl rd_Md_does_346 rfl
  · refine jk_aload_n C rd_Md_does_325 (k := 3) rfl ?_
    refine jk_iload_n C rd_Md_does_326 (k := 2) rfl ?_
    obtain ⟨q327, hq327, hf⟩ := jk_bind_h hf
    refine jk_callVi C hZ.1 hz (ct_Md_guessReason l D Z sq hZ cI cR a_t a_t_w a_t_wKept a_t_saved a_t_past a_t_input a_t_n a_t_order a_t_numbers a_t_output i_t_pastMany i_t_isSaved i_t_thrown i_t_inputMany i_t_lastError i_t_lastOffset i_t_error i_t_offset i_t_nextByte i_t_begin i_t_value i_t_token i_t_got i_t_orders i_t_outputMany i_t_w (i_t_numbers (3 * x1)) q327 hq327) tm_1591 tm_1593 sl_80 tm_15 tm_1594 na_Md_guessReason ⟨Nat.le_of_ble_eq_true rfl, Nat.le_of_ble_eq_true rfl⟩ rfl [0, 1] rfl rfl rfl (ws' := wd_Md_does cI a_t a_t_w a_t_wKept a_t_saved a_t_past a_t_input a_t_n a_t_order a_t_numbers a_t_output i_t_pastMany i_t_isSaved i_t_thrown i_t_inputMany i_t_lastError i_t_lastOffset i_t_error i_t_offset i_t_nextByte i_t_begin i_t_value i_t_token i_t_got i_t_orders i_t_outputMany i_t_w i_t_order i_t_numbers) rfl 0 11 rfl rfl rfl (st := []) rfl (Nat.le_of_ble_eq_true rfl) rd_Md_does_327 ?_ ⟨Nat.le_of_ble_eq_true rfl, Nat.le_of_ble_eq_true rfl⟩
    refine jk_if_ne (tgt := 345) C rd_Md_does_330 (by decide) hf (fun _ hf => ?_) (fun _ hf => ?_)
    · refine jk_iconst C rd_Md_does_345 ?_
      cases hf
      exact jk_zret C (Or.inl rfl) rfl rd_Md_does_346 rfl
    · refine jk_aload_n C rd_Md_does_333 (k := 3) rfl ?_
      refine jk_iload_n C rd_Md_does_334 (k := 2) rfl ?_
      obtain ⟨q335, hq335, hf⟩ := jk_bind_h hf
      refine jk_callVi C hZ.1 hz (ct_Md_repairs l D Z sq hZ cI cR a_t a_t_w a_t_wKept a_t_saved a_t_past a_t_input a_t_n a_t_order a_t_numbers a_t_output i_t_pastMany i_t_isSaved i_t_thrown i_t_inputMany i_t_lastError i_t_lastOffset i_t_error i_t_offset i_t_nextByte i_t_begin i_t_value i_t_token i_t_got i_t_orders i_t_outputMany i_t_w (i_t_numbers (3 * x1)) q335 hq335) tm_1611 tm_1613 sl_85 tm_15 tm_1614 na_Md_repairs ⟨Nat.le_of_ble_eq_true rfl, Nat.le_of_ble_eq_true rfl⟩ rfl [0, 1] rfl rfl rfl (ws' := wd_Md_does cI a_t a_t_w a_t_wKept a_t_saved a_t_past a_t_input a_t_n a_t_order a_t_numbers a_t_output i_t_pastMany i_t_isSaved i_t_thrown i_t_inputMany i_t_lastError i_t_lastOffset i_t_error i_t_offset i_t_nextByte i_t_begin i_t_value i_t_token i_t_got i_t_orders i_t_outputMany q335.2 i_t_order i_t_numbers) rfl 0 11 rfl rfl rfl (st := []) rfl (Nat.le_of_ble_eq_true rfl) rd_Md_does_335 ?_ ⟨Nat.le_of_ble_eq_true rfl, Nat.le_of_ble_eq_true rfl⟩
      refine jk_if_lt (tgt := 345) C rd_Md_does_338 (by decide) hf (fun _ hf => ?_) (fun _ hf => ?_)
      · refine jk_iconst C rd_Md_does_345 ?_
        cases hf
        exact jk_zret C (Or.inl rfl) rfl rd_Md_does_346 rfl
      · refine jk_iconst C rd_Md_does_341 ?_
        refine jk_goto (tgt := 346) C rd_Md_does_342 (by decide) ?_
        cases hf
        exact jk_zret C (Or.inr rfl) rfl rd_Md_does_346 rfl
def wd_Md_runScript (cI : ClassId) (a_t a_t_w a_t_wKept a_t_saved a_t_past a_t_input a_t_n a_t_order a_t_numbers a_t_output : Nat) (i_t_pastMany : Int) (i_t_isSaved : Int) (i_t_thrown : Int) (i_t_inputMany : Int) (i_t_lastError : Int) (i_t_lastOffset : Int) (i_t_error : Int) (i_t_offset : Int) (i_t_nextByte : Int) (i_t_begin : Int) (i_t_value : Int) (i_t_token : Int) (i_t_got : Int) (i_t_orders : Int) (i_t_outputMany : Int) (i_t_w : (Int → Int)) (i_t_past : (Int → Int)) (i_t_input : (Int → Int)) (i_t_n : (Int → Int)) (i_t_order : (Int → Int)) (i_t_numbers : (Int → Int)) : va_W := [(a_t, .inr (11, [.ref a_t_w, .ref a_t_wKept, .ref a_t_saved, .ref a_t_past, jk_V i_t_pastMany, jk_V i_t_isSaved, jk_V i_t_thrown, .ref a_t_input, jk_V i_t_inputMany, jk_V i_t_lastError, jk_V i_t_lastOffset, jk_V i_t_error, jk_V i_t_offset, jk_V i_t_nextByte, jk_V i_t_begin, jk_V i_t_value, jk_V i_t_token, jk_V i_t_got, .ref a_t_n, .ref a_t_order, .ref a_t_numbers, jk_V i_t_orders, .ref a_t_output, jk_V i_t_outputMany])), (a_t_w, jk_W cI 259 i_t_w), (a_t_past, jk_W cI 2072 i_t_past), (a_t_input, jk_W cI 700 i_t_input), (a_t_n, jk_W cI 3 i_t_n), (a_t_order, jk_W cI 31 i_t_order), (a_t_numbers, jk_W cI 93 i_t_numbers)]
set_option maxHeartbeats 4000000 in
set_option maxRecDepth 20000 in
theorem ct_Md_runScript (l : Launch) (D : va_G) (Z : (Nat → Prop) → State → Heap → Prop) (sq : Nat → Nat) (hZ : jk_ZK Z sq) (cI cR : ClassId) (a_t a_t_w a_t_wKept a_t_saved a_t_past a_t_input a_t_n a_t_order a_t_numbers a_t_output : Nat) (i_t_pastMany : Int) (i_t_isSaved : Int) (i_t_thrown : Int) (i_t_inputMany : Int) (i_t_lastError : Int) (i_t_lastOffset : Int) (i_t_error : Int) (i_t_offset : Int) (i_t_nextByte : Int) (i_t_begin : Int) (i_t_value : Int) (i_t_token : Int) (i_t_got : Int) (i_t_orders : Int) (i_t_outputMany : Int) (i_t_w : (Int → Int)) (i_t_past : (Int → Int)) (i_t_input : (Int → Int)) (i_t_n : (Int → Int)) (i_t_order : (Int → Int)) (i_t_numbers : (Int → Int)) (q : Int × (Int → Int) × (Int → Int) × Int × Int × Int × Int × Int × Int × Int × Int × Int × Int × Int × Int × (Int → Int) × (Int → Int) × (Int → Int) × Int) (hf : fn_Md_runScript i_t_w i_t_past i_t_pastMany i_t_thrown i_t_input i_t_inputMany i_t_lastError i_t_lastOffset i_t_error i_t_offset i_t_nextByte i_t_begin i_t_value i_t_token i_t_got i_t_n i_t_order i_t_numbers i_t_orders = some q) : jk_MI l D jk_cl (jk_ty cI cR) Z mn_Md_runScript (.code mn_Md_runScript mb_Md_runScript 3 (some .int) :: jk_WA) (jk_rm 10 364) [.ref a_t] (wd_Md_runScript cI a_t a_t_w a_t_wKept a_t_saved a_t_past a_t_input a_t_n a_t_order a_t_numbers a_t_output i_t_pastMany i_t_isSaved i_t_thrown i_t_inputMany i_t_lastError i_t_lastOffset i_t_error i_t_offset i_t_nextByte i_t_begin i_t_value i_t_token i_t_got i_t_orders i_t_outputMany i_t_w i_t_past i_t_input i_t_n i_t_order i_t_numbers) (wd_Md_runScript cI a_t a_t_w a_t_wKept a_t_saved a_t_past a_t_input a_t_n a_t_order a_t_numbers a_t_output q.2.2.2.1 i_t_isSaved q.2.2.2.2.1 q.2.2.2.2.2.1 q.2.2.2.2.2.2.1 q.2.2.2.2.2.2.2.1 q.2.2.2.2.2.2.2.2.1 q.2.2.2.2.2.2.2.2.2.1 q.2.2.2.2.2.2.2.2.2.2.1 q.2.2.2.2.2.2.2.2.2.2.2.1 q.2.2.2.2.2.2.2.2.2.2.2.2.1 q.2.2.2.2.2.2.2.2.2.2.2.2.2.1 q.2.2.2.2.2.2.2.2.2.2.2.2.2.2.1 q.2.2.2.2.2.2.2.2.2.2.2.2.2.2.2.2.2.2 i_t_outputMany q.2.1 q.2.2.1 i_t_input q.2.2.2.2.2.2.2.2.2.2.2.2.2.2.2.1 q.2.2.2.2.2.2.2.2.2.2.2.2.2.2.2.2.1 q.2.2.2.2.2.2.2.2.2.2.2.2.2.2.2.2.2.1) q.1 := by
  intro sz
  refine jk_body (by decide +kernel) (fun p e s m args below meth c hsz hz hin C => ?_) (Nat.le_of_ble_eq_true rfl)
  subst hsz
  unfold fn_Md_runScript at hf
  have bk_46 : ∀ (n : Nat) (t_w : (Int → Int)) (t_past : (Int → Int)) (t_pastMany : Int) (t_thrown : Int) (t_inputMany : Int) (t_lastError : Int) (t_lastOffset : Int) (t_error : Int) (t_offset : Int) (t_nextByte : Int) (t_begin : Int) (t_value : Int) (t_token : Int) (t_got : Int) (t_n : (Int → Int)) (t_order : (Int → Int)) (t_numbers : (Int → Int)) (t_orders : Int) (v2 : Int), fn_Md_runScript_b46 n t_w t_past t_pastMany t_thrown t_inputMany t_lastError t_lastOffset t_error t_offset t_nextByte t_begin t_value t_token t_got t_n t_order t_numbers t_orders v2 = some q → jk_J p l e (jk_rm 10 364) s m args below meth c 0 0 (jk_QI below D jk_cl (jk_ty cI cR) (wd_Md_runScript cI a_t a_t_w a_t_wKept a_t_saved a_t_past a_t_input a_t_n a_t_order a_t_numbers a_t_output i_t_pastMany i_t_isSaved i_t_thrown i_t_inputMany i_t_lastError i_t_lastOffset i_t_error i_t_offset i_t_nextByte i_t_begin i_t_value i_t_token i_t_got i_t_orders i_t_outputMany i_t_w i_t_past i_t_input i_t_n i_t_order i_t_numbers) (wd_Md_runScript cI a_t a_t_w a_t_wKept a_t_saved a_t_past a_t_input a_t_n a_t_order a_t_numbers a_t_output q.2.2.2.1 i_t_isSaved q.2.2.2.2.1 q.2.2.2.2.2.1 q.2.2.2.2.2.2.1 q.2.2.2.2.2.2.2.1 q.2.2.2.2.2.2.2.2.1 q.2.2.2.2.2.2.2.2.2.1 q.2.2.2.2.2.2.2.2.2.2.1 q.2.2.2.2.2.2.2.2.2.2.2.1 q.2.2.2.2.2.2.2.2.2.2.2.2.1 q.2.2.2.2.2.2.2.2.2.2.2.2.2.1 q.2.2.2.2.2.2.2.2.2.2.2.2.2.2.1 q.2.2.2.2.2.2.2.2.2.2.2.2.2.2.2.2.2.2 i_t_outputMany q.2.1 q.2.2.1 i_t_input q.2.2.2.2.2.2.2.2.2.2.2.2.2.2.2.1 q.2.2.2.2.2.2.2.2.2.2.2.2.2.2.2.2.1 q.2.2.2.2.2.2.2.2.2.2.2.2.2.2.2.2.2.1) args s q.1) D jk_cl (va_A (wd_Md_runScript cI a_t a_t_w a_t_wKept a_t_saved a_t_past a_t_input a_t_n a_t_order a_t_numbers a_t_output i_t_pastMany i_t_isSaved i_t_thrown i_t_inputMany i_t_lastError i_t_lastOffset i_t_error i_t_offset i_t_nextByte i_t_begin i_t_value i_t_token i_t_got i_t_orders i_t_outputMany i_t_w i_t_past i_t_input i_t_n i_t_order i_t_numbers) s.heap.size) 3 (wd_Md_runScript cI a_t a_t_w a_t_wKept a_t_saved a_t_past a_t_input a_t_n a_t_order a_t_numbers a_t_output t_pastMany i_t_isSaved t_thrown t_inputMany t_lastError t_lastOffset t_error t_offset t_nextByte t_begin t_value t_token t_got t_orders i_t_outputMany t_w t_past i_t_input t_n t_order t_numbers) [(0, .ref a_t), (2, jk_V v2)] 46 [] := by
    intro n
    induction n with
    | zero => intro t_w t_past t_pastMany t_thrown t_inputMany t_lastError t_lastOffset t_error t_offset t_nextByte t_begin t_value t_token t_got t_n t_order t_numbers t_orders v2 hf; exact nomatch (show none = some q from hf)
    | succ n ih =>
      intro t_w t_past t_pastMany t_thrown t_inputMany t_lastError t_lastOffset t_error t_offset t_nextByte t_begin t_value t_token t_got t_n t_order t_numbers t_orders v2 hf
      rw [fn_Md_runScript_b46] at hf
      refine jk_iload_n C rd_Md_runScript_46 (k := 1) rfl ?_
      refine jk_aload_n C rd_Md_runScript_47 (k := 0) rfl ?_
      refine jk_get C in_Md (ci := 11) rfl 21 (by decide) tm_1284 0 rfl rfl rd_Md_runScript_48 ?_
      refine jk_icmp_ge (tgt := 68) C rd_Md_runScript_51 (by decide) hf (fun _ hf => ?_) (fun _ hf => ?_)
      · refine jk_iload_n C rd_Md_runScript_68 (k := 1) rfl ?_
        cases hf
        exact jk_iret C rfl rd_Md_runScript_69 rfl
      · refine jk_aload_n C rd_Md_runScript_54 (k := 0) rfl ?_
        refine jk_iload_n C rd_Md_runScript_55 (k := 1) rfl ?_
        obtain ⟨q56, hq56, hf⟩ := jk_bind_h hf
        refine jk_callVi C hZ.1 hz (ct_Md_does l D Z sq hZ cI cR a_t a_t_w a_t_wKept a_t_saved a_t_past a_t_input a_t_n a_t_order a_t_numbers a_t_output t_pastMany i_t_isSaved t_thrown t_inputMany t_lastError t_lastOffset t_error t_offset t_nextByte t_begin t_value t_token t_got t_orders i_t_outputMany t_w t_order t_numbers v2 q56 hq56) tm_1516 tm_1518 sl_62 tm_15 tm_1519 na_Md_does ⟨Nat.le_of_ble_eq_true rfl, Nat.le_of_ble_eq_true rfl⟩ rfl [0, 1, 5, 6] rfl rfl rfl (ws' := wd_Md_runScript cI a_t a_t_w a_t_wKept a_t_saved a_t_past a_t_input a_t_n a_t_order a_t_numbers a_t_output t_pastMany i_t_isSaved t_thrown t_inputMany t_lastError t_lastOffset t_error t_offset t_nextByte t_begin t_value t_token t_got t_orders i_t_outputMany q56.2 t_past i_t_input t_n t_order t_numbers) rfl 0 11 rfl rfl rfl (st := []) rfl (Nat.le_of_ble_eq_true rfl) rd_Md_runScript_56 ?_ ⟨Nat.le_of_ble_eq_true rfl, Nat.le_of_ble_eq_true rfl⟩
        refine jk_if_eq (tgt := 68) C rd_Md_runScript_59 (by decide) hf (fun _ hf => ?_) (fun _ hf => ?_)
        · refine jk_iload_n C rd_Md_runScript_68 (k := 1) rfl ?_
          cases hf
          exact jk_iret C rfl rd_Md_runScript_69 rfl
        · refine jk_iinc C rd_Md_runScript_62 (k := 1) rfl (by decide) (lv' := [(2, jk_V (v2 + 1)), (0, .ref a_t)]) rfl ?_
          refine jk_goto (tgt := 46) C rd_Md_runScript_65 (by decide) ?_
          refine jk_lv (lv' := [(0, .ref a_t), (2, jk_V (v2 + 1))]) [1, 0] rfl ?_
          exact ih q56.2 t_past t_pastMany t_thrown t_inputMany t_lastError t_lastOffset t_error t_offset t_nextByte t_begin t_value t_token t_got t_n t_order t_numbers t_orders (v2 + 1) hf
  have bk_30 : ∀ (t_w : (Int → Int)) (t_past : (Int → Int)) (t_pastMany : Int) (t_thrown : Int) (t_inputMany : Int) (t_lastError : Int) (t_lastOffset : Int) (t_error : Int) (t_offset : Int) (t_nextByte : Int) (t_begin : Int) (t_value : Int) (t_token : Int) (t_got : Int) (t_n : (Int → Int)) (t_order : (Int → Int)) (t_numbers : (Int → Int)) (t_orders : Int) (v1 : Int), fn_Md_runScript_b30 t_w t_past t_pastMany t_thrown t_inputMany t_lastError t_lastOffset t_error t_offset t_nextByte t_begin t_value t_token t_got t_n t_order t_numbers t_orders v1 = some q → jk_J p l e (jk_rm 10 364) s m args below meth c 0 0 (jk_QI below D jk_cl (jk_ty cI cR) (wd_Md_runScript cI a_t a_t_w a_t_wKept a_t_saved a_t_past a_t_input a_t_n a_t_order a_t_numbers a_t_output i_t_pastMany i_t_isSaved i_t_thrown i_t_inputMany i_t_lastError i_t_lastOffset i_t_error i_t_offset i_t_nextByte i_t_begin i_t_value i_t_token i_t_got i_t_orders i_t_outputMany i_t_w i_t_past i_t_input i_t_n i_t_order i_t_numbers) (wd_Md_runScript cI a_t a_t_w a_t_wKept a_t_saved a_t_past a_t_input a_t_n a_t_order a_t_numbers a_t_output q.2.2.2.1 i_t_isSaved q.2.2.2.2.1 q.2.2.2.2.2.1 q.2.2.2.2.2.2.1 q.2.2.2.2.2.2.2.1 q.2.2.2.2.2.2.2.2.1 q.2.2.2.2.2.2.2.2.2.1 q.2.2.2.2.2.2.2.2.2.2.1 q.2.2.2.2.2.2.2.2.2.2.2.1 q.2.2.2.2.2.2.2.2.2.2.2.2.1 q.2.2.2.2.2.2.2.2.2.2.2.2.2.1 q.2.2.2.2.2.2.2.2.2.2.2.2.2.2.1 q.2.2.2.2.2.2.2.2.2.2.2.2.2.2.2.2.2.2 i_t_outputMany q.2.1 q.2.2.1 i_t_input q.2.2.2.2.2.2.2.2.2.2.2.2.2.2.2.1 q.2.2.2.2.2.2.2.2.2.2.2.2.2.2.2.2.1 q.2.2.2.2.2.2.2.2.2.2.2.2.2.2.2.2.2.1) args s q.1) D jk_cl (va_A (wd_Md_runScript cI a_t a_t_w a_t_wKept a_t_saved a_t_past a_t_input a_t_n a_t_order a_t_numbers a_t_output i_t_pastMany i_t_isSaved i_t_thrown i_t_inputMany i_t_lastError i_t_lastOffset i_t_error i_t_offset i_t_nextByte i_t_begin i_t_value i_t_token i_t_got i_t_orders i_t_outputMany i_t_w i_t_past i_t_input i_t_n i_t_order i_t_numbers) s.heap.size) 3 (wd_Md_runScript cI a_t a_t_w a_t_wKept a_t_saved a_t_past a_t_input a_t_n a_t_order a_t_numbers a_t_output t_pastMany i_t_isSaved t_thrown t_inputMany t_lastError t_lastOffset t_error t_offset t_nextByte t_begin t_value t_token t_got t_orders i_t_outputMany t_w t_past i_t_input t_n t_order t_numbers) [(0, .ref a_t), (1, jk_V v1)] 30 [] := by
    intro t_w t_past t_pastMany t_thrown t_inputMany t_lastError t_lastOffset t_error t_offset t_nextByte t_begin t_value t_token t_got t_n t_order t_numbers t_orders v1 hf
    unfold fn_Md_runScript_b30 at hf
    refine jk_aload_n C rd_Md_runScript_30 (k := 0) rfl ?_
    obtain ⟨q31, hq31, hf⟩ := jk_bind_h hf
    refine jk_callVv C hZ.1 hz (ct_Md_endsText l D Z sq hZ cI cR a_t a_t_w a_t_wKept a_t_saved a_t_past a_t_input a_t_n a_t_order a_t_numbers a_t_output t_pastMany i_t_isSaved t_thrown t_inputMany t_lastError t_lastOffset t_error t_offset t_nextByte t_begin t_value t_token t_got t_orders i_t_outputMany q31 hq31) tm_1478 tm_1480 sl_55 tm_15 tm_1481 na_Md_endsText ⟨Nat.le_of_ble_eq_true rfl, Nat.le_of_ble_eq_true rfl⟩ rfl [0] rfl rfl rfl (ws' := wd_Md_runScript cI a_t a_t_w a_t_wKept a_t_saved a_t_past a_t_input a_t_n a_t_order a_t_numbers a_t_output t_pastMany i_t_isSaved t_thrown q31.1 q31.2.1 q31.2.2 t_error t_offset t_nextByte t_begin t_value t_token t_got t_orders i_t_outputMany t_w t_past i_t_input t_n t_order t_numbers) rfl 0 11 rfl rfl rfl (st := []) rfl (Nat.le_of_ble_eq_true rfl) rd_Md_runScript_31 ?_ ⟨Nat.le_of_ble_eq_true rfl, Nat.le_of_ble_eq_true rfl⟩
    refine jk_iload_n C rd_Md_runScript_34 (k := 1) rfl ?_
    refine jk_if_ne (tgt := 40) C rd_Md_runScript_35 (by decide) hf (fun _ hf => ?_) (fun _ hf => ?_)
    · refine jk_aload_n C rd_Md_runScript_40 (k := 0) rfl ?_
      obtain ⟨q41, hq41, hf⟩ := jk_bind_h hf
      refine jk_callVv C hZ.1 hz (ct_Md_remembers l D Z sq hZ cI cR a_t a_t_w a_t_wKept a_t_saved a_t_past a_t_input a_t_n a_t_order a_t_numbers a_t_output t_pastMany i_t_isSaved t_thrown q31.1 q31.2.1 q31.2.2 t_error t_offset t_nextByte t_begin t_value t_token t_got t_orders i_t_outputMany t_w t_past q41 hq41) tm_1512 tm_1514 sl_61 tm_15 tm_1515 na_Md_remembers ⟨Nat.le_of_ble_eq_true rfl, Nat.le_of_ble_eq_true rfl⟩ rfl [0, 1, 2] rfl rfl rfl (ws' := wd_Md_runScript cI a_t a_t_w a_t_wKept a_t_saved a_t_past a_t_input a_t_n a_t_order a_t_numbers a_t_output q41.2 i_t_isSaved t_thrown q31.1 q31.2.1 q31.2.2 t_error t_offset t_nextByte t_begin t_value t_token t_got t_orders i_t_outputMany t_w q41.1 i_t_input t_n t_order t_numbers) rfl 0 11 rfl rfl rfl (st := []) rfl (Nat.le_of_ble_eq_true rfl) rd_Md_runScript_41 ?_ ⟨Nat.le_of_ble_eq_true rfl, Nat.le_of_ble_eq_true rfl⟩
      refine jk_iconst C rd_Md_runScript_44 ?_
      refine jk_istore_n C rd_Md_runScript_45 (by decide) (lv' := [(2, jk_V 0), (0, .ref a_t), (1, jk_V v1)]) rfl ?_
      refine jk_lv (lv' := [(0, .ref a_t), (2, jk_V 0)]) [1, 0] rfl ?_
      exact bk_46 jk_F t_w q41.1 q41.2 t_thrown q31.1 q31.2.1 q31.2.2 t_error t_offset t_nextByte t_begin t_value t_token t_got t_n t_order t_numbers t_orders 0 hf
    · refine jk_iconst C rd_Md_runScript_38 ?_
      cases hf
      exact jk_iret C rfl rd_Md_runScript_39 rfl
  have bk_11 : ∀ (n : Nat) (t_w : (Int → Int)) (t_past : (Int → Int)) (t_pastMany : Int) (t_thrown : Int) (t_inputMany : Int) (t_lastError : Int) (t_lastOffset : Int) (t_error : Int) (t_offset : Int) (t_nextByte : Int) (t_begin : Int) (t_value : Int) (t_token : Int) (t_got : Int) (t_n : (Int → Int)) (t_order : (Int → Int)) (t_numbers : (Int → Int)) (t_orders : Int) (v1 : Int), fn_Md_runScript_b11 n t_w t_past t_pastMany t_thrown i_t_input t_inputMany t_lastError t_lastOffset t_error t_offset t_nextByte t_begin t_value t_token t_got t_n t_order t_numbers t_orders v1 = some q → jk_J p l e (jk_rm 10 364) s m args below meth c 0 0 (jk_QI below D jk_cl (jk_ty cI cR) (wd_Md_runScript cI a_t a_t_w a_t_wKept a_t_saved a_t_past a_t_input a_t_n a_t_order a_t_numbers a_t_output i_t_pastMany i_t_isSaved i_t_thrown i_t_inputMany i_t_lastError i_t_lastOffset i_t_error i_t_offset i_t_nextByte i_t_begin i_t_value i_t_token i_t_got i_t_orders i_t_outputMany i_t_w i_t_past i_t_input i_t_n i_t_order i_t_numbers) (wd_Md_runScript cI a_t a_t_w a_t_wKept a_t_saved a_t_past a_t_input a_t_n a_t_order a_t_numbers a_t_output q.2.2.2.1 i_t_isSaved q.2.2.2.2.1 q.2.2.2.2.2.1 q.2.2.2.2.2.2.1 q.2.2.2.2.2.2.2.1 q.2.2.2.2.2.2.2.2.1 q.2.2.2.2.2.2.2.2.2.1 q.2.2.2.2.2.2.2.2.2.2.1 q.2.2.2.2.2.2.2.2.2.2.2.1 q.2.2.2.2.2.2.2.2.2.2.2.2.1 q.2.2.2.2.2.2.2.2.2.2.2.2.2.1 q.2.2.2.2.2.2.2.2.2.2.2.2.2.2.1 q.2.2.2.2.2.2.2.2.2.2.2.2.2.2.2.2.2.2 i_t_outputMany q.2.1 q.2.2.1 i_t_input q.2.2.2.2.2.2.2.2.2.2.2.2.2.2.2.1 q.2.2.2.2.2.2.2.2.2.2.2.2.2.2.2.2.1 q.2.2.2.2.2.2.2.2.2.2.2.2.2.2.2.2.2.1) args s q.1) D jk_cl (va_A (wd_Md_runScript cI a_t a_t_w a_t_wKept a_t_saved a_t_past a_t_input a_t_n a_t_order a_t_numbers a_t_output i_t_pastMany i_t_isSaved i_t_thrown i_t_inputMany i_t_lastError i_t_lastOffset i_t_error i_t_offset i_t_nextByte i_t_begin i_t_value i_t_token i_t_got i_t_orders i_t_outputMany i_t_w i_t_past i_t_input i_t_n i_t_order i_t_numbers) s.heap.size) 3 (wd_Md_runScript cI a_t a_t_w a_t_wKept a_t_saved a_t_past a_t_input a_t_n a_t_order a_t_numbers a_t_output t_pastMany i_t_isSaved t_thrown t_inputMany t_lastError t_lastOffset t_error t_offset t_nextByte t_begin t_value t_token t_got t_orders i_t_outputMany t_w t_past i_t_input t_n t_order t_numbers) [(0, .ref a_t), (1, jk_V v1)] 11 [] := by
    intro n
    induction n with
    | zero => intro t_w t_past t_pastMany t_thrown t_inputMany t_lastError t_lastOffset t_error t_offset t_nextByte t_begin t_value t_token t_got t_n t_order t_numbers t_orders v1 hf; exact nomatch (show none = some q from hf)
    | succ n ih =>
      intro t_w t_past t_pastMany t_thrown t_inputMany t_lastError t_lastOffset t_error t_offset t_nextByte t_begin t_value t_token t_got t_n t_order t_numbers t_orders v1 hf
      rw [fn_Md_runScript_b11] at hf
      refine jk_iload_n C rd_Md_runScript_11 (k := 1) rfl ?_
      refine jk_if_eq (tgt := 30) C rd_Md_runScript_12 (by decide) hf (fun _ hf => ?_) (fun _ hf => ?_)
      · refine jk_lv (lv' := [(0, .ref a_t), (1, jk_V v1)]) [0, 1] rfl ?_
        exact bk_30 t_w t_past t_pastMany t_thrown t_inputMany t_lastError t_lastOffset t_error t_offset t_nextByte t_begin t_value t_token t_got t_n t_order t_numbers t_orders v1 hf
      · refine jk_aload_n C rd_Md_runScript_15 (k := 0) rfl ?_
        refine jk_get C in_Md (ci := 11) rfl 16 (by decide) tm_1279 0 rfl rfl rd_Md_runScript_16 ?_
        refine jk_if_eq (tgt := 30) C rd_Md_runScript_19 (by decide) hf (fun _ hf => ?_) (fun _ hf => ?_)
        · refine jk_lv (lv' := [(0, .ref a_t), (1, jk_V v1)]) [0, 1] rfl ?_
          exact bk_30 t_w t_past t_pastMany t_thrown t_inputMany t_lastError t_lastOffset t_error t_offset t_nextByte t_begin t_value t_token t_got t_n t_order t_numbers t_orders v1 hf
        · refine jk_aload_n C rd_Md_runScript_22 (k := 0) rfl ?_
          obtain ⟨q23, hq23, hf⟩ := jk_bind_h hf
          refine jk_callVi C hZ.1 hz (ct_Md_readScriptStatement l D Z sq hZ cI cR a_t a_t_w a_t_wKept a_t_saved a_t_past a_t_input a_t_n a_t_order a_t_numbers a_t_output t_pastMany i_t_isSaved t_thrown t_inputMany t_lastError t_lastOffset t_error t_offset t_nextByte t_begin t_value t_token t_got t_orders i_t_outputMany t_w i_t_input t_n t_order t_numbers q23 hq23) tm_1486 tm_1488 sl_56 tm_15 tm_1489 na_Md_readScriptStatement ⟨Nat.le_of_ble_eq_true rfl, Nat.le_of_ble_eq_true rfl⟩ rfl [0, 1, 3, 4, 5, 6] rfl rfl rfl (ws' := wd_Md_runScript cI a_t a_t_w a_t_wKept a_t_saved a_t_past a_t_input a_t_n a_t_order a_t_numbers a_t_output t_pastMany i_t_isSaved t_thrown t_inputMany t_lastError t_lastOffset q23.2.1 q23.2.2.1 q23.2.2.2.1 q23.2.2.2.2.1 q23.2.2.2.2.2.1 q23.2.2.2.2.2.2.1 q23.2.2.2.2.2.2.2.1 q23.2.2.2.2.2.2.2.2.2.2.2 i_t_outputMany t_w t_past i_t_input q23.2.2.2.2.2.2.2.2.1 q23.2.2.2.2.2.2.2.2.2.1 q23.2.2.2.2.2.2.2.2.2.2.1) rfl 0 11 rfl rfl rfl (st := []) rfl (Nat.le_of_ble_eq_true rfl) rd_Md_runScript_23 ?_ ⟨Nat.le_of_ble_eq_true rfl, Nat.le_of_ble_eq_true rfl⟩
          refine jk_istore_n C rd_Md_runScript_26 (by decide) (lv' := [(1, jk_V q23.1), (0, .ref a_t)]) rfl ?_
          refine jk_goto (tgt := 11) C rd_Md_runScript_27 (by decide) ?_
          refine jk_lv (lv' := [(0, .ref a_t), (1, jk_V q23.1)]) [1, 0] rfl ?_
          exact ih t_w t_past t_pastMany t_thrown t_inputMany t_lastError t_lastOffset q23.2.1 q23.2.2.1 q23.2.2.2.1 q23.2.2.2.2.1 q23.2.2.2.2.2.1 q23.2.2.2.2.2.2.1 q23.2.2.2.2.2.2.2.1 q23.2.2.2.2.2.2.2.2.1 q23.2.2.2.2.2.2.2.2.2.1 q23.2.2.2.2.2.2.2.2.2.2.1 q23.2.2.2.2.2.2.2.2.2.2.2 q23.1 hf
  refine jk_aload_n C rd_Md_runScript_0 (k := 0) rfl ?_
  refine jk_iconst C rd_Md_runScript_1 ?_
  refine jk_putf C in_Md ty_Md nm_Md (ci := 11) rfl 6 (by decide) tm_1269 rfl rfl rfl 0 rfl (Nat.le_of_ble_eq_true rfl) rd_Md_runScript_2 (ws' := wd_Md_runScript cI a_t a_t_w a_t_wKept a_t_saved a_t_past a_t_input a_t_n a_t_order a_t_numbers a_t_output i_t_pastMany i_t_isSaved 0 i_t_inputMany i_t_lastError i_t_lastOffset i_t_error i_t_offset i_t_nextByte i_t_begin i_t_value i_t_token i_t_got i_t_orders i_t_outputMany i_t_w i_t_past i_t_input i_t_n i_t_order i_t_numbers) rfl ?_
  refine jk_aload_n C rd_Md_runScript_5 (k := 0) rfl ?_
  obtain ⟨q6, hq6, hf⟩ := jk_bind_h hf
  refine jk_callVv C hZ.1 hz (ct_Md_startsText l D Z sq hZ cI cR a_t a_t_w a_t_wKept a_t_saved a_t_past a_t_input a_t_n a_t_order a_t_numbers a_t_output i_t_pastMany i_t_isSaved 0 i_t_inputMany i_t_lastError i_t_lastOffset i_t_error i_t_offset i_t_nextByte i_t_begin i_t_value i_t_token i_t_got i_t_orders i_t_outputMany i_t_input q6 hq6) tm_1362 tm_1364 sl_28 tm_15 tm_1365 na_Md_startsText ⟨Nat.le_of_ble_eq_true rfl, Nat.le_of_ble_eq_true rfl⟩ rfl [0, 3] rfl rfl rfl (ws' := wd_Md_runScript cI a_t a_t_w a_t_wKept a_t_saved a_t_past a_t_input a_t_n a_t_order a_t_numbers a_t_output i_t_pastMany i_t_isSaved 0 i_t_inputMany i_t_lastError i_t_lastOffset q6.1 q6.2.1 q6.2.2.1 q6.2.2.2.1 q6.2.2.2.2.1 q6.2.2.2.2.2.1 i_t_got q6.2.2.2.2.2.2 i_t_outputMany i_t_w i_t_past i_t_input i_t_n i_t_order i_t_numbers) rfl 0 11 rfl rfl rfl (st := []) rfl (Nat.le_of_ble_eq_true rfl) rd_Md_runScript_6 ?_ ⟨Nat.le_of_ble_eq_true rfl, Nat.le_of_ble_eq_true rfl⟩
  refine jk_iconst C rd_Md_runScript_9 ?_
  refine jk_istore_n C rd_Md_runScript_10 (by decide) (lv' := [(1, jk_V 1), (0, .ref a_t)]) rfl ?_
  refine jk_lv (lv' := [(0, .ref a_t), (1, jk_V 1)]) [1, 0] rfl ?_
  exact bk_11 jk_F i_t_w i_t_past i_t_pastMany 0 i_t_inputMany i_t_lastError i_t_lastOffset q6.1 q6.2.1 q6.2.2.1 q6.2.2.2.1 q6.2.2.2.2.1 q6.2.2.2.2.2.1 i_t_got i_t_n i_t_order i_t_numbers q6.2.2.2.2.2.2 1 hf
def wd_Md_errorCode (cI : ClassId) (a_t a_t_w a_t_wKept a_t_saved a_t_past a_t_input a_t_n a_t_order a_t_numbers a_t_output : Nat) (i_t_pastMany : Int) (i_t_isSaved : Int) (i_t_thrown : Int) (i_t_inputMany : Int) (i_t_lastError : Int) (i_t_lastOffset : Int) (i_t_error : Int) (i_t_offset : Int) (i_t_nextByte : Int) (i_t_begin : Int) (i_t_value : Int) (i_t_token : Int) (i_t_got : Int) (i_t_orders : Int) (i_t_outputMany : Int) : va_W := [(a_t, .inr (11, [.ref a_t_w, .ref a_t_wKept, .ref a_t_saved, .ref a_t_past, jk_V i_t_pastMany, jk_V i_t_isSaved, jk_V i_t_thrown, .ref a_t_input, jk_V i_t_inputMany, jk_V i_t_lastError, jk_V i_t_lastOffset, jk_V i_t_error, jk_V i_t_offset, jk_V i_t_nextByte, jk_V i_t_begin, jk_V i_t_value, jk_V i_t_token, jk_V i_t_got, .ref a_t_n, .ref a_t_order, .ref a_t_numbers, jk_V i_t_orders, .ref a_t_output, jk_V i_t_outputMany]))]
set_option maxHeartbeats 4000000 in
set_option maxRecDepth 20000 in
theorem ct_Md_errorCode (l : Launch) (D : va_G) (Z : (Nat → Prop) → State → Heap → Prop) (sq : Nat → Nat) (hZ : jk_ZK Z sq) (cI cR : ClassId) (a_t a_t_w a_t_wKept a_t_saved a_t_past a_t_input a_t_n a_t_order a_t_numbers a_t_output : Nat) (i_t_pastMany : Int) (i_t_isSaved : Int) (i_t_thrown : Int) (i_t_inputMany : Int) (i_t_lastError : Int) (i_t_lastOffset : Int) (i_t_error : Int) (i_t_offset : Int) (i_t_nextByte : Int) (i_t_begin : Int) (i_t_value : Int) (i_t_token : Int) (i_t_got : Int) (i_t_orders : Int) (i_t_outputMany : Int) (q : Int × Int) (hf : fn_Md_errorCode i_t_thrown i_t_lastError = some q) : jk_MI l D jk_cl (jk_ty cI cR) Z mn_Md_errorCode (.code mn_Md_errorCode mb_Md_errorCode 1 (some .int) :: jk_WA) (jk_rm 0 0) [.ref a_t] (wd_Md_errorCode cI a_t a_t_w a_t_wKept a_t_saved a_t_past a_t_input a_t_n a_t_order a_t_numbers a_t_output i_t_pastMany i_t_isSaved i_t_thrown i_t_inputMany i_t_lastError i_t_lastOffset i_t_error i_t_offset i_t_nextByte i_t_begin i_t_value i_t_token i_t_got i_t_orders i_t_outputMany) (wd_Md_errorCode cI a_t a_t_w a_t_wKept a_t_saved a_t_past a_t_input a_t_n a_t_order a_t_numbers a_t_output i_t_pastMany i_t_isSaved q.2 i_t_inputMany i_t_lastError i_t_lastOffset i_t_error i_t_offset i_t_nextByte i_t_begin i_t_value i_t_token i_t_got i_t_orders i_t_outputMany) q.1 := by
  intro sz
  refine jk_body (by decide +kernel) (fun p e s m args below meth c hsz hz hin C => ?_) (Nat.le_of_ble_eq_true rfl)
  subst hsz
  unfold fn_Md_errorCode at hf
  refine jk_aload_n C rd_Md_errorCode_0 (k := 0) rfl ?_
  refine jk_iconst C rd_Md_errorCode_1 ?_
  refine jk_putf C in_Md ty_Md nm_Md (ci := 11) rfl 6 (by decide) tm_1269 rfl rfl rfl 0 rfl (Nat.le_of_ble_eq_true rfl) rd_Md_errorCode_2 (ws' := wd_Md_errorCode cI a_t a_t_w a_t_wKept a_t_saved a_t_past a_t_input a_t_n a_t_order a_t_numbers a_t_output i_t_pastMany i_t_isSaved 0 i_t_inputMany i_t_lastError i_t_lastOffset i_t_error i_t_offset i_t_nextByte i_t_begin i_t_value i_t_token i_t_got i_t_orders i_t_outputMany) rfl ?_
  refine jk_aload_n C rd_Md_errorCode_5 (k := 0) rfl ?_
  refine jk_get C in_Md (ci := 11) rfl 9 (by decide) tm_1272 0 rfl rfl rd_Md_errorCode_6 ?_
  cases hf
  exact jk_iret C rfl rd_Md_errorCode_9 rfl
def wd_Md_errorOffset (cI : ClassId) (a_t a_t_w a_t_wKept a_t_saved a_t_past a_t_input a_t_n a_t_order a_t_numbers a_t_output : Nat) (i_t_pastMany : Int) (i_t_isSaved : Int) (i_t_thrown : Int) (i_t_inputMany : Int) (i_t_lastError : Int) (i_t_lastOffset : Int) (i_t_error : Int) (i_t_offset : Int) (i_t_nextByte : Int) (i_t_begin : Int) (i_t_value : Int) (i_t_token : Int) (i_t_got : Int) (i_t_orders : Int) (i_t_outputMany : Int) : va_W := [(a_t, .inr (11, [.ref a_t_w, .ref a_t_wKept, .ref a_t_saved, .ref a_t_past, jk_V i_t_pastMany, jk_V i_t_isSaved, jk_V i_t_thrown, .ref a_t_input, jk_V i_t_inputMany, jk_V i_t_lastError, jk_V i_t_lastOffset, jk_V i_t_error, jk_V i_t_offset, jk_V i_t_nextByte, jk_V i_t_begin, jk_V i_t_value, jk_V i_t_token, jk_V i_t_got, .ref a_t_n, .ref a_t_order, .ref a_t_numbers, jk_V i_t_orders, .ref a_t_output, jk_V i_t_outputMany]))]
set_option maxHeartbeats 4000000 in
set_option maxRecDepth 20000 in
theorem ct_Md_errorOffset (l : Launch) (D : va_G) (Z : (Nat → Prop) → State → Heap → Prop) (sq : Nat → Nat) (hZ : jk_ZK Z sq) (cI cR : ClassId) (a_t a_t_w a_t_wKept a_t_saved a_t_past a_t_input a_t_n a_t_order a_t_numbers a_t_output : Nat) (i_t_pastMany : Int) (i_t_isSaved : Int) (i_t_thrown : Int) (i_t_inputMany : Int) (i_t_lastError : Int) (i_t_lastOffset : Int) (i_t_error : Int) (i_t_offset : Int) (i_t_nextByte : Int) (i_t_begin : Int) (i_t_value : Int) (i_t_token : Int) (i_t_got : Int) (i_t_orders : Int) (i_t_outputMany : Int) (q : Int × Int) (hf : fn_Md_errorOffset i_t_thrown i_t_lastOffset = some q) : jk_MI l D jk_cl (jk_ty cI cR) Z mn_Md_errorOffset (.code mn_Md_errorOffset mb_Md_errorOffset 1 (some .int) :: jk_WA) (jk_rm 0 0) [.ref a_t] (wd_Md_errorOffset cI a_t a_t_w a_t_wKept a_t_saved a_t_past a_t_input a_t_n a_t_order a_t_numbers a_t_output i_t_pastMany i_t_isSaved i_t_thrown i_t_inputMany i_t_lastError i_t_lastOffset i_t_error i_t_offset i_t_nextByte i_t_begin i_t_value i_t_token i_t_got i_t_orders i_t_outputMany) (wd_Md_errorOffset cI a_t a_t_w a_t_wKept a_t_saved a_t_past a_t_input a_t_n a_t_order a_t_numbers a_t_output i_t_pastMany i_t_isSaved q.2 i_t_inputMany i_t_lastError i_t_lastOffset i_t_error i_t_offset i_t_nextByte i_t_begin i_t_value i_t_token i_t_got i_t_orders i_t_outputMany) q.1 := by
  intro sz
  refine jk_body (by decide +kernel) (fun p e s m args below meth c hsz hz hin C => ?_) (Nat.le_of_ble_eq_true rfl)
  subst hsz
  unfold fn_Md_errorOffset at hf
  refine jk_aload_n C rd_Md_errorOffset_0 (k := 0) rfl ?_
  refine jk_iconst C rd_Md_errorOffset_1 ?_
  refine jk_putf C in_Md ty_Md nm_Md (ci := 11) rfl 6 (by decide) tm_1269 rfl rfl rfl 0 rfl (Nat.le_of_ble_eq_true rfl) rd_Md_errorOffset_2 (ws' := wd_Md_errorOffset cI a_t a_t_w a_t_wKept a_t_saved a_t_past a_t_input a_t_n a_t_order a_t_numbers a_t_output i_t_pastMany i_t_isSaved 0 i_t_inputMany i_t_lastError i_t_lastOffset i_t_error i_t_offset i_t_nextByte i_t_begin i_t_value i_t_token i_t_got i_t_orders i_t_outputMany) rfl ?_
  refine jk_aload_n C rd_Md_errorOffset_5 (k := 0) rfl ?_
  refine jk_get C in_Md (ci := 11) rfl 10 (by decide) tm_1273 0 rfl rfl rd_Md_errorOffset_6 ?_
  cases hf
  exact jk_iret C rfl rd_Md_errorOffset_9 rfl
def wd_Md_topicCount (cI : ClassId) (a_t a_t_w a_t_wKept a_t_saved a_t_past a_t_input a_t_n a_t_order a_t_numbers a_t_output : Nat) (i_t_pastMany : Int) (i_t_isSaved : Int) (i_t_thrown : Int) (i_t_inputMany : Int) (i_t_lastError : Int) (i_t_lastOffset : Int) (i_t_error : Int) (i_t_offset : Int) (i_t_nextByte : Int) (i_t_begin : Int) (i_t_value : Int) (i_t_token : Int) (i_t_got : Int) (i_t_orders : Int) (i_t_outputMany : Int) (i_t_w : (Int → Int)) : va_W := [(a_t, .inr (11, [.ref a_t_w, .ref a_t_wKept, .ref a_t_saved, .ref a_t_past, jk_V i_t_pastMany, jk_V i_t_isSaved, jk_V i_t_thrown, .ref a_t_input, jk_V i_t_inputMany, jk_V i_t_lastError, jk_V i_t_lastOffset, jk_V i_t_error, jk_V i_t_offset, jk_V i_t_nextByte, jk_V i_t_begin, jk_V i_t_value, jk_V i_t_token, jk_V i_t_got, .ref a_t_n, .ref a_t_order, .ref a_t_numbers, jk_V i_t_orders, .ref a_t_output, jk_V i_t_outputMany])), (a_t_w, jk_W cI 259 i_t_w)]
set_option maxHeartbeats 4000000 in
set_option maxRecDepth 20000 in
theorem ct_Md_topicCount (l : Launch) (D : va_G) (Z : (Nat → Prop) → State → Heap → Prop) (sq : Nat → Nat) (hZ : jk_ZK Z sq) (cI cR : ClassId) (a_t a_t_w a_t_wKept a_t_saved a_t_past a_t_input a_t_n a_t_order a_t_numbers a_t_output : Nat) (i_t_pastMany : Int) (i_t_isSaved : Int) (i_t_thrown : Int) (i_t_inputMany : Int) (i_t_lastError : Int) (i_t_lastOffset : Int) (i_t_error : Int) (i_t_offset : Int) (i_t_nextByte : Int) (i_t_begin : Int) (i_t_value : Int) (i_t_token : Int) (i_t_got : Int) (i_t_orders : Int) (i_t_outputMany : Int) (i_t_w : (Int → Int)) (q : Int × Int) (hf : fn_Md_topicCount i_t_w i_t_thrown = some q) : jk_MI l D jk_cl (jk_ty cI cR) Z mn_Md_topicCount (.code mn_Md_topicCount mb_Md_topicCount 1 (some .int) :: jk_WA) (jk_rm 0 0) [.ref a_t] (wd_Md_topicCount cI a_t a_t_w a_t_wKept a_t_saved a_t_past a_t_input a_t_n a_t_order a_t_numbers a_t_output i_t_pastMany i_t_isSaved i_t_thrown i_t_inputMany i_t_lastError i_t_lastOffset i_t_error i_t_offset i_t_nextByte i_t_begin i_t_value i_t_token i_t_got i_t_orders i_t_outputMany i_t_w) (wd_Md_topicCount cI a_t a_t_w a_t_wKept a_t_saved a_t_past a_t_input a_t_n a_t_order a_t_numbers a_t_output i_t_pastMany i_t_isSaved q.2 i_t_inputMany i_t_lastError i_t_lastOffset i_t_error i_t_offset i_t_nextByte i_t_begin i_t_value i_t_token i_t_got i_t_orders i_t_outputMany i_t_w) q.1 := by
  intro sz
  refine jk_body (by decide +kernel) (fun p e s m args below meth c hsz hz hin C => ?_) (Nat.le_of_ble_eq_true rfl)
  subst hsz
  unfold fn_Md_topicCount at hf
  refine jk_aload_n C rd_Md_topicCount_0 (k := 0) rfl ?_
  refine jk_iconst C rd_Md_topicCount_1 ?_
  refine jk_putf C in_Md ty_Md nm_Md (ci := 11) rfl 6 (by decide) tm_1269 rfl rfl rfl 0 rfl (Nat.le_of_ble_eq_true rfl) rd_Md_topicCount_2 (ws' := wd_Md_topicCount cI a_t a_t_w a_t_wKept a_t_saved a_t_past a_t_input a_t_n a_t_order a_t_numbers a_t_output i_t_pastMany i_t_isSaved 0 i_t_inputMany i_t_lastError i_t_lastOffset i_t_error i_t_offset i_t_nextByte i_t_begin i_t_value i_t_token i_t_got i_t_orders i_t_outputMany i_t_w) rfl ?_
  refine jk_aload_n C rd_Md_topicCount_5 (k := 0) rfl ?_
  refine jk_get C in_Md (ci := 11) rfl 0 (by decide) tm_1263 0 rfl rfl rd_Md_topicCount_6 ?_
  refine jk_iconst C rd_Md_topicCount_9 ?_
  refine jk_iald C 1 0 rfl rfl (Nat.le_of_ble_eq_true rfl) rd_Md_topicCount_10 hf (fun hf => ?_)
  cases hf
  exact jk_iret C rfl rd_Md_topicCount_11 rfl
def wd_Md_clusterCount (cI : ClassId) (a_t a_t_w a_t_wKept a_t_saved a_t_past a_t_input a_t_n a_t_order a_t_numbers a_t_output : Nat) (i_t_pastMany : Int) (i_t_isSaved : Int) (i_t_thrown : Int) (i_t_inputMany : Int) (i_t_lastError : Int) (i_t_lastOffset : Int) (i_t_error : Int) (i_t_offset : Int) (i_t_nextByte : Int) (i_t_begin : Int) (i_t_value : Int) (i_t_token : Int) (i_t_got : Int) (i_t_orders : Int) (i_t_outputMany : Int) (i_t_w : (Int → Int)) : va_W := [(a_t, .inr (11, [.ref a_t_w, .ref a_t_wKept, .ref a_t_saved, .ref a_t_past, jk_V i_t_pastMany, jk_V i_t_isSaved, jk_V i_t_thrown, .ref a_t_input, jk_V i_t_inputMany, jk_V i_t_lastError, jk_V i_t_lastOffset, jk_V i_t_error, jk_V i_t_offset, jk_V i_t_nextByte, jk_V i_t_begin, jk_V i_t_value, jk_V i_t_token, jk_V i_t_got, .ref a_t_n, .ref a_t_order, .ref a_t_numbers, jk_V i_t_orders, .ref a_t_output, jk_V i_t_outputMany])), (a_t_w, jk_W cI 259 i_t_w)]
set_option maxHeartbeats 4000000 in
set_option maxRecDepth 20000 in
theorem ct_Md_clusterCount (l : Launch) (D : va_G) (Z : (Nat → Prop) → State → Heap → Prop) (sq : Nat → Nat) (hZ : jk_ZK Z sq) (cI cR : ClassId) (a_t a_t_w a_t_wKept a_t_saved a_t_past a_t_input a_t_n a_t_order a_t_numbers a_t_output : Nat) (i_t_pastMany : Int) (i_t_isSaved : Int) (i_t_thrown : Int) (i_t_inputMany : Int) (i_t_lastError : Int) (i_t_lastOffset : Int) (i_t_error : Int) (i_t_offset : Int) (i_t_nextByte : Int) (i_t_begin : Int) (i_t_value : Int) (i_t_token : Int) (i_t_got : Int) (i_t_orders : Int) (i_t_outputMany : Int) (i_t_w : (Int → Int)) (q : Int × Int) (hf : fn_Md_clusterCount i_t_w i_t_thrown = some q) : jk_MI l D jk_cl (jk_ty cI cR) Z mn_Md_clusterCount (.code mn_Md_clusterCount mb_Md_clusterCount 1 (some .int) :: jk_WA) (jk_rm 0 0) [.ref a_t] (wd_Md_clusterCount cI a_t a_t_w a_t_wKept a_t_saved a_t_past a_t_input a_t_n a_t_order a_t_numbers a_t_output i_t_pastMany i_t_isSaved i_t_thrown i_t_inputMany i_t_lastError i_t_lastOffset i_t_error i_t_offset i_t_nextByte i_t_begin i_t_value i_t_token i_t_got i_t_orders i_t_outputMany i_t_w) (wd_Md_clusterCount cI a_t a_t_w a_t_wKept a_t_saved a_t_past a_t_input a_t_n a_t_order a_t_numbers a_t_output i_t_pastMany i_t_isSaved q.2 i_t_inputMany i_t_lastError i_t_lastOffset i_t_error i_t_offset i_t_nextByte i_t_begin i_t_value i_t_token i_t_got i_t_orders i_t_outputMany i_t_w) q.1 := by
  intro sz
  refine jk_body (by decide +kernel) (fun p e s m args below meth c hsz hz hin C => ?_) (Nat.le_of_ble_eq_true rfl)
  subst hsz
  unfold fn_Md_clusterCount at hf
  refine jk_aload_n C rd_Md_clusterCount_0 (k := 0) rfl ?_
  refine jk_iconst C rd_Md_clusterCount_1 ?_
  refine jk_putf C in_Md ty_Md nm_Md (ci := 11) rfl 6 (by decide) tm_1269 rfl rfl rfl 0 rfl (Nat.le_of_ble_eq_true rfl) rd_Md_clusterCount_2 (ws' := wd_Md_clusterCount cI a_t a_t_w a_t_wKept a_t_saved a_t_past a_t_input a_t_n a_t_order a_t_numbers a_t_output i_t_pastMany i_t_isSaved 0 i_t_inputMany i_t_lastError i_t_lastOffset i_t_error i_t_offset i_t_nextByte i_t_begin i_t_value i_t_token i_t_got i_t_orders i_t_outputMany i_t_w) rfl ?_
  refine jk_aload_n C rd_Md_clusterCount_5 (k := 0) rfl ?_
  refine jk_get C in_Md (ci := 11) rfl 0 (by decide) tm_1263 0 rfl rfl rd_Md_clusterCount_6 ?_
  refine jk_iconst C rd_Md_clusterCount_9 ?_
  refine jk_iald C 1 0 rfl rfl (Nat.le_of_ble_eq_true rfl) rd_Md_clusterCount_10 hf (fun hf => ?_)
  cases hf
  exact jk_iret C rfl rd_Md_clusterCount_11 rfl
def wd_Md_cordCount (cI : ClassId) (a_t a_t_w a_t_wKept a_t_saved a_t_past a_t_input a_t_n a_t_order a_t_numbers a_t_output : Nat) (i_t_pastMany : Int) (i_t_isSaved : Int) (i_t_thrown : Int) (i_t_inputMany : Int) (i_t_lastError : Int) (i_t_lastOffset : Int) (i_t_error : Int) (i_t_offset : Int) (i_t_nextByte : Int) (i_t_begin : Int) (i_t_value : Int) (i_t_token : Int) (i_t_got : Int) (i_t_orders : Int) (i_t_outputMany : Int) (i_t_w : (Int → Int)) : va_W := [(a_t, .inr (11, [.ref a_t_w, .ref a_t_wKept, .ref a_t_saved, .ref a_t_past, jk_V i_t_pastMany, jk_V i_t_isSaved, jk_V i_t_thrown, .ref a_t_input, jk_V i_t_inputMany, jk_V i_t_lastError, jk_V i_t_lastOffset, jk_V i_t_error, jk_V i_t_offset, jk_V i_t_nextByte, jk_V i_t_begin, jk_V i_t_value, jk_V i_t_token, jk_V i_t_got, .ref a_t_n, .ref a_t_order, .ref a_t_numbers, jk_V i_t_orders, .ref a_t_output, jk_V i_t_outputMany])), (a_t_w, jk_W cI 259 i_t_w)]
set_option maxHeartbeats 4000000 in
set_option maxRecDepth 20000 in
theorem ct_Md_cordCount (l : Launch) (D : va_G) (Z : (Nat → Prop) → State → Heap → Prop) (sq : Nat → Nat) (hZ : jk_ZK Z sq) (cI cR : ClassId) (a_t a_t_w a_t_wKept a_t_saved a_t_past a_t_input a_t_n a_t_order a_t_numbers a_t_output : Nat) (i_t_pastMany : Int) (i_t_isSaved : Int) (i_t_thrown : Int) (i_t_inputMany : Int) (i_t_lastError : Int) (i_t_lastOffset : Int) (i_t_error : Int) (i_t_offset : Int) (i_t_nextByte : Int) (i_t_begin : Int) (i_t_value : Int) (i_t_token : Int) (i_t_got : Int) (i_t_orders : Int) (i_t_outputMany : Int) (i_t_w : (Int → Int)) (q : Int × Int) (hf : fn_Md_cordCount i_t_w i_t_thrown = some q) : jk_MI l D jk_cl (jk_ty cI cR) Z mn_Md_cordCount (.code mn_Md_cordCount mb_Md_cordCount 1 (some .int) :: jk_WA) (jk_rm 0 0) [.ref a_t] (wd_Md_cordCount cI a_t a_t_w a_t_wKept a_t_saved a_t_past a_t_input a_t_n a_t_order a_t_numbers a_t_output i_t_pastMany i_t_isSaved i_t_thrown i_t_inputMany i_t_lastError i_t_lastOffset i_t_error i_t_offset i_t_nextByte i_t_begin i_t_value i_t_token i_t_got i_t_orders i_t_outputMany i_t_w) (wd_Md_cordCount cI a_t a_t_w a_t_wKept a_t_saved a_t_past a_t_input a_t_n a_t_order a_t_numbers a_t_output i_t_pastMany i_t_isSaved q.2 i_t_inputMany i_t_lastError i_t_lastOffset i_t_error i_t_offset i_t_nextByte i_t_begin i_t_value i_t_token i_t_got i_t_orders i_t_outputMany i_t_w) q.1 := by
  intro sz
  refine jk_body (by decide +kernel) (fun p e s m args below meth c hsz hz hin C => ?_) (Nat.le_of_ble_eq_true rfl)
  subst hsz
  unfold fn_Md_cordCount at hf
  refine jk_aload_n C rd_Md_cordCount_0 (k := 0) rfl ?_
  refine jk_iconst C rd_Md_cordCount_1 ?_
  refine jk_putf C in_Md ty_Md nm_Md (ci := 11) rfl 6 (by decide) tm_1269 rfl rfl rfl 0 rfl (Nat.le_of_ble_eq_true rfl) rd_Md_cordCount_2 (ws' := wd_Md_cordCount cI a_t a_t_w a_t_wKept a_t_saved a_t_past a_t_input a_t_n a_t_order a_t_numbers a_t_output i_t_pastMany i_t_isSaved 0 i_t_inputMany i_t_lastError i_t_lastOffset i_t_error i_t_offset i_t_nextByte i_t_begin i_t_value i_t_token i_t_got i_t_orders i_t_outputMany i_t_w) rfl ?_
  refine jk_aload_n C rd_Md_cordCount_5 (k := 0) rfl ?_
  refine jk_get C in_Md (ci := 11) rfl 0 (by decide) tm_1263 0 rfl rfl rd_Md_cordCount_6 ?_
  refine jk_iconst C rd_Md_cordCount_9 ?_
  refine jk_iald C 1 0 rfl rfl (Nat.le_of_ble_eq_true rfl) rd_Md_cordCount_10 hf (fun hf => ?_)
  cases hf
  exact jk_iret C rfl rd_Md_cordCount_11 rfl
def wd_Md_noTopic (cI : ClassId) (a_t a_t_w a_t_wKept a_t_saved a_t_past a_t_input a_t_n a_t_order a_t_numbers a_t_output : Nat) (i_t_pastMany : Int) (i_t_isSaved : Int) (i_t_thrown : Int) (i_t_inputMany : Int) (i_t_lastError : Int) (i_t_lastOffset : Int) (i_t_error : Int) (i_t_offset : Int) (i_t_nextByte : Int) (i_t_begin : Int) (i_t_value : Int) (i_t_token : Int) (i_t_got : Int) (i_t_orders : Int) (i_t_outputMany : Int) (i_t_w : (Int → Int)) : va_W := [(a_t, .inr (11, [.ref a_t_w, .ref a_t_wKept, .ref a_t_saved, .ref a_t_past, jk_V i_t_pastMany, jk_V i_t_isSaved, jk_V i_t_thrown, .ref a_t_input, jk_V i_t_inputMany, jk_V i_t_lastError, jk_V i_t_lastOffset, jk_V i_t_error, jk_V i_t_offset, jk_V i_t_nextByte, jk_V i_t_begin, jk_V i_t_value, jk_V i_t_token, jk_V i_t_got, .ref a_t_n, .ref a_t_order, .ref a_t_numbers, jk_V i_t_orders, .ref a_t_output, jk_V i_t_outputMany])), (a_t_w, jk_W cI 259 i_t_w)]
set_option maxHeartbeats 4000000 in
set_option maxRecDepth 20000 in
theorem ct_Md_noTopic (l : Launch) (D : va_G) (Z : (Nat → Prop) → State → Heap → Prop) (sq : Nat → Nat) (hZ : jk_ZK Z sq) (cI cR : ClassId) (a_t a_t_w a_t_wKept a_t_saved a_t_past a_t_input a_t_n a_t_order a_t_numbers a_t_output : Nat) (i_t_pastMany : Int) (i_t_isSaved : Int) (i_t_thrown : Int) (i_t_inputMany : Int) (i_t_lastError : Int) (i_t_lastOffset : Int) (i_t_error : Int) (i_t_offset : Int) (i_t_nextByte : Int) (i_t_begin : Int) (i_t_value : Int) (i_t_token : Int) (i_t_got : Int) (i_t_orders : Int) (i_t_outputMany : Int) (i_t_w : (Int → Int)) (x1 : Int) (q : Int × Int) (hf : fn_Md_noTopic i_t_w i_t_thrown x1 = some q) : jk_MI l D jk_cl (jk_ty cI cR) Z mn_Md_noTopic (.code mn_Md_noTopic mb_Md_noTopic 2 (some .boolean) :: jk_WA) (jk_rm 2 43) [.ref a_t, jk_V x1] (wd_Md_noTopic cI a_t a_t_w a_t_wKept a_t_saved a_t_past a_t_input a_t_n a_t_order a_t_numbers a_t_output i_t_pastMany i_t_isSaved i_t_thrown i_t_inputMany i_t_lastError i_t_lastOffset i_t_error i_t_offset i_t_nextByte i_t_begin i_t_value i_t_token i_t_got i_t_orders i_t_outputMany i_t_w) (wd_Md_noTopic cI a_t a_t_w a_t_wKept a_t_saved a_t_past a_t_input a_t_n a_t_order a_t_numbers a_t_output i_t_pastMany i_t_isSaved q.2 i_t_inputMany i_t_lastError i_t_lastOffset i_t_error i_t_offset i_t_nextByte i_t_begin i_t_value i_t_token i_t_got i_t_orders i_t_outputMany i_t_w) q.1 := by
  intro sz
  refine jk_body (by decide +kernel) (fun p e s m args below meth c hsz hz hin C => ?_) (Nat.le_of_ble_eq_true rfl)
  subst hsz
  unfold fn_Md_noTopic at hf
  refine jk_aload_n C rd_Md_noTopic_0 (k := 0) rfl ?_
  refine jk_aload_n C rd_Md_noTopic_1 (k := 0) rfl ?_
  refine jk_iload_n C rd_Md_noTopic_2 (k := 1) rfl ?_
  obtain ⟨q3, hq3, hf⟩ := jk_bind_h hf
  refine jk_callVi C hZ.1 hz (ct_Md_isTopic l D Z sq hZ cI cR a_t a_t_w a_t_wKept a_t_saved a_t_past a_t_input a_t_n a_t_order a_t_numbers a_t_output i_t_pastMany i_t_isSaved i_t_thrown i_t_inputMany i_t_lastError i_t_lastOffset i_t_error i_t_offset i_t_nextByte i_t_begin i_t_value i_t_token i_t_got i_t_orders i_t_outputMany i_t_w x1 q3 hq3) tm_1755 tm_1757 sl_96 tm_15 tm_1758 na_Md_isTopic ⟨Nat.le_of_ble_eq_true rfl, Nat.le_of_ble_eq_true rfl⟩ rfl [0, 1] rfl rfl rfl (ws' := wd_Md_noTopic cI a_t a_t_w a_t_wKept a_t_saved a_t_past a_t_input a_t_n a_t_order a_t_numbers a_t_output i_t_pastMany i_t_isSaved i_t_thrown i_t_inputMany i_t_lastError i_t_lastOffset i_t_error i_t_offset i_t_nextByte i_t_begin i_t_value i_t_token i_t_got i_t_orders i_t_outputMany i_t_w) rfl 0 11 rfl rfl rfl (st := [.ref a_t]) rfl (Nat.le_of_ble_eq_true rfl) rd_Md_noTopic_3 ?_ ⟨Nat.le_of_ble_eq_true rfl, Nat.le_of_ble_eq_true rfl⟩
  refine jk_if_ne (tgt := 13) C rd_Md_noTopic_6 (by decide) hf (fun _ hf => ?_) (fun _ hf => ?_)
  · refine jk_iconst C rd_Md_noTopic_13 ?_
    refine jk_iconst C rd_Md_noTopic_14 ?_
    obtain ⟨q15, hq15, hf⟩ := jk_bind_h hf
    refine jk_callVi C hZ.1 hz (ct_Md_fails l D Z sq hZ cI cR a_t a_t_w a_t_wKept a_t_saved a_t_past a_t_input a_t_n a_t_order a_t_numbers a_t_output i_t_pastMany i_t_isSaved i_t_thrown i_t_inputMany i_t_lastError i_t_lastOffset i_t_error i_t_offset i_t_nextByte i_t_begin i_t_value i_t_token i_t_got i_t_orders i_t_outputMany 0 1 q15 hq15) tm_1643 tm_1645 sl_87 tm_15 tm_1646 na_Md_fails ⟨Nat.le_of_ble_eq_true rfl, Nat.le_of_ble_eq_true rfl⟩ rfl [0] rfl rfl rfl (ws' := wd_Md_noTopic cI a_t a_t_w a_t_wKept a_t_saved a_t_past a_t_input a_t_n a_t_order a_t_numbers a_t_output i_t_pastMany i_t_isSaved q15.2 i_t_inputMany i_t_lastError i_t_lastOffset i_t_error i_t_offset i_t_nextByte i_t_begin i_t_value i_t_token i_t_got i_t_orders i_t_outputMany i_t_w) rfl 0 11 rfl rfl rfl (st := []) rfl (Nat.le_of_ble_eq_true rfl) rd_Md_noTopic_15 ?_ ⟨Nat.le_of_ble_eq_true rfl, Nat.le_of_ble_eq_true rfl⟩
    obtain ⟨hbo, hf⟩ := jk_bo_h hf
    cases hf
    exact jk_zret C hbo rfl rd_Md_noTopic_18 rfl
  · refine jk_iconst C rd_Md_noTopic_9 ?_
    refine jk_goto (tgt := 14) C rd_Md_noTopic_10 (by decide) ?_
    refine jk_iconst C rd_Md_noTopic_14 ?_
    obtain ⟨q15, hq15, hf⟩ := jk_bind_h hf
    refine jk_callVi C hZ.1 hz (ct_Md_fails l D Z sq hZ cI cR a_t a_t_w a_t_wKept a_t_saved a_t_past a_t_input a_t_n a_t_order a_t_numbers a_t_output i_t_pastMany i_t_isSaved i_t_thrown i_t_inputMany i_t_lastError i_t_lastOffset i_t_error i_t_offset i_t_nextByte i_t_begin i_t_value i_t_token i_t_got i_t_orders i_t_outputMany 1 1 q15 hq15) tm_1643 tm_1645 sl_87 tm_15 tm_1646 na_Md_fails ⟨Nat.le_of_ble_eq_true rfl, Nat.le_of_ble_eq_true rfl⟩ rfl [0] rfl rfl rfl (ws' := wd_Md_noTopic cI a_t a_t_w a_t_wKept a_t_saved a_t_past a_t_input a_t_n a_t_order a_t_numbers a_t_output i_t_pastMany i_t_isSaved q15.2 i_t_inputMany i_t_lastError i_t_lastOffset i_t_error i_t_offset i_t_nextByte i_t_begin i_t_value i_t_token i_t_got i_t_orders i_t_outputMany i_t_w) rfl 0 11 rfl rfl rfl (st := []) rfl (Nat.le_of_ble_eq_true rfl) rd_Md_noTopic_15 ?_ ⟨Nat.le_of_ble_eq_true rfl, Nat.le_of_ble_eq_true rfl⟩
    obtain ⟨hbo, hf⟩ := jk_bo_h hf
    cases hf
    exact jk_zret C hbo rfl rd_Md_noTopic_18 rfl
def wd_Md_noCluster (cI : ClassId) (a_t a_t_w a_t_wKept a_t_saved a_t_past a_t_input a_t_n a_t_order a_t_numbers a_t_output : Nat) (i_t_pastMany : Int) (i_t_isSaved : Int) (i_t_thrown : Int) (i_t_inputMany : Int) (i_t_lastError : Int) (i_t_lastOffset : Int) (i_t_error : Int) (i_t_offset : Int) (i_t_nextByte : Int) (i_t_begin : Int) (i_t_value : Int) (i_t_token : Int) (i_t_got : Int) (i_t_orders : Int) (i_t_outputMany : Int) (i_t_w : (Int → Int)) : va_W := [(a_t, .inr (11, [.ref a_t_w, .ref a_t_wKept, .ref a_t_saved, .ref a_t_past, jk_V i_t_pastMany, jk_V i_t_isSaved, jk_V i_t_thrown, .ref a_t_input, jk_V i_t_inputMany, jk_V i_t_lastError, jk_V i_t_lastOffset, jk_V i_t_error, jk_V i_t_offset, jk_V i_t_nextByte, jk_V i_t_begin, jk_V i_t_value, jk_V i_t_token, jk_V i_t_got, .ref a_t_n, .ref a_t_order, .ref a_t_numbers, jk_V i_t_orders, .ref a_t_output, jk_V i_t_outputMany])), (a_t_w, jk_W cI 259 i_t_w)]
set_option maxHeartbeats 4000000 in
set_option maxRecDepth 20000 in
theorem ct_Md_noCluster (l : Launch) (D : va_G) (Z : (Nat → Prop) → State → Heap → Prop) (sq : Nat → Nat) (hZ : jk_ZK Z sq) (cI cR : ClassId) (a_t a_t_w a_t_wKept a_t_saved a_t_past a_t_input a_t_n a_t_order a_t_numbers a_t_output : Nat) (i_t_pastMany : Int) (i_t_isSaved : Int) (i_t_thrown : Int) (i_t_inputMany : Int) (i_t_lastError : Int) (i_t_lastOffset : Int) (i_t_error : Int) (i_t_offset : Int) (i_t_nextByte : Int) (i_t_begin : Int) (i_t_value : Int) (i_t_token : Int) (i_t_got : Int) (i_t_orders : Int) (i_t_outputMany : Int) (i_t_w : (Int → Int)) (x1 : Int) (q : Int × Int) (hf : fn_Md_noCluster i_t_w i_t_thrown x1 = some q) : jk_MI l D jk_cl (jk_ty cI cR) Z mn_Md_noCluster (.code mn_Md_noCluster mb_Md_noCluster 2 (some .boolean) :: jk_WA) (jk_rm 2 43) [.ref a_t, jk_V x1] (wd_Md_noCluster cI a_t a_t_w a_t_wKept a_t_saved a_t_past a_t_input a_t_n a_t_order a_t_numbers a_t_output i_t_pastMany i_t_isSaved i_t_thrown i_t_inputMany i_t_lastError i_t_lastOffset i_t_error i_t_offset i_t_nextByte i_t_begin i_t_value i_t_token i_t_got i_t_orders i_t_outputMany i_t_w) (wd_Md_noCluster cI a_t a_t_w a_t_wKept a_t_saved a_t_past a_t_input a_t_n a_t_order a_t_numbers a_t_output i_t_pastMany i_t_isSaved q.2 i_t_inputMany i_t_lastError i_t_lastOffset i_t_error i_t_offset i_t_nextByte i_t_begin i_t_value i_t_token i_t_got i_t_orders i_t_outputMany i_t_w) q.1 := by
  intro sz
  refine jk_body (by decide +kernel) (fun p e s m args below meth c hsz hz hin C => ?_) (Nat.le_of_ble_eq_true rfl)
  subst hsz
  unfold fn_Md_noCluster at hf
  refine jk_aload_n C rd_Md_noCluster_0 (k := 0) rfl ?_
  refine jk_aload_n C rd_Md_noCluster_1 (k := 0) rfl ?_
  refine jk_iload_n C rd_Md_noCluster_2 (k := 1) rfl ?_
  obtain ⟨q3, hq3, hf⟩ := jk_bind_h hf
  refine jk_callVi C hZ.1 hz (ct_Md_isCluster l D Z sq hZ cI cR a_t a_t_w a_t_wKept a_t_saved a_t_past a_t_input a_t_n a_t_order a_t_numbers a_t_output i_t_pastMany i_t_isSaved i_t_thrown i_t_inputMany i_t_lastError i_t_lastOffset i_t_error i_t_offset i_t_nextByte i_t_begin i_t_value i_t_token i_t_got i_t_orders i_t_outputMany i_t_w x1 q3 hq3) tm_1524 tm_1526 sl_64 tm_15 tm_1527 na_Md_isCluster ⟨Nat.le_of_ble_eq_true rfl, Nat.le_of_ble_eq_true rfl⟩ rfl [0, 1] rfl rfl rfl (ws' := wd_Md_noCluster cI a_t a_t_w a_t_wKept a_t_saved a_t_past a_t_input a_t_n a_t_order a_t_numbers a_t_output i_t_pastMany i_t_isSaved i_t_thrown i_t_inputMany i_t_lastError i_t_lastOffset i_t_error i_t_offset i_t_nextByte i_t_begin i_t_value i_t_token i_t_got i_t_orders i_t_outputMany i_t_w) rfl 0 11 rfl rfl rfl (st := [.ref a_t]) rfl (Nat.le_of_ble_eq_true rfl) rd_Md_noCluster_3 ?_ ⟨Nat.le_of_ble_eq_true rfl, Nat.le_of_ble_eq_true rfl⟩
  refine jk_if_ne (tgt := 13) C rd_Md_noCluster_6 (by decide) hf (fun _ hf => ?_) (fun _ hf => ?_)
  · refine jk_iconst C rd_Md_noCluster_13 ?_
    refine jk_iconst C rd_Md_noCluster_14 ?_
    obtain ⟨q15, hq15, hf⟩ := jk_bind_h hf
    refine jk_callVi C hZ.1 hz (ct_Md_fails l D Z sq hZ cI cR a_t a_t_w a_t_wKept a_t_saved a_t_past a_t_input a_t_n a_t_order a_t_numbers a_t_output i_t_pastMany i_t_isSaved i_t_thrown i_t_inputMany i_t_lastError i_t_lastOffset i_t_error i_t_offset i_t_nextByte i_t_begin i_t_value i_t_token i_t_got i_t_orders i_t_outputMany 0 1 q15 hq15) tm_1643 tm_1645 sl_87 tm_15 tm_1646 na_Md_fails ⟨Nat.le_of_ble_eq_true rfl, Nat.le_of_ble_eq_true rfl⟩ rfl [0] rfl rfl rfl (ws' := wd_Md_noCluster cI a_t a_t_w a_t_wKept a_t_saved a_t_past a_t_input a_t_n a_t_order a_t_numbers a_t_output i_t_pastMany i_t_isSaved q15.2 i_t_inputMany i_t_lastError i_t_lastOffset i_t_error i_t_offset i_t_nextByte i_t_begin i_t_value i_t_token i_t_got i_t_orders i_t_outputMany i_t_w) rfl 0 11 rfl rfl rfl (st := []) rfl (Nat.le_of_ble_eq_true rfl) rd_Md_noCluster_15 ?_ ⟨Nat.le_of_ble_eq_true rfl, Nat.le_of_ble_eq_true rfl⟩
    obtain ⟨hbo, hf⟩ := jk_bo_h hf
    cases hf
    exact jk_zret C hbo rfl rd_Md_noCluster_18 rfl
  · refine jk_iconst C rd_Md_noCluster_9 ?_
    refine jk_goto (tgt := 14) C rd_Md_noCluster_10 (by decide) ?_
    refine jk_iconst C rd_Md_noCluster_14 ?_
    obtain ⟨q15, hq15, hf⟩ := jk_bind_h hf
    refine jk_callVi C hZ.1 hz (ct_Md_fails l D Z sq hZ cI cR a_t a_t_w a_t_wKept a_t_saved a_t_past a_t_input a_t_n a_t_order a_t_numbers a_t_output i_t_pastMany i_t_isSaved i_t_thrown i_t_inputMany i_t_lastError i_t_lastOffset i_t_error i_t_offset i_t_nextByte i_t_begin i_t_value i_t_token i_t_got i_t_orders i_t_outputMany 1 1 q15 hq15) tm_1643 tm_1645 sl_87 tm_15 tm_1646 na_Md_fails ⟨Nat.le_of_ble_eq_true rfl, Nat.le_of_ble_eq_true rfl⟩ rfl [0] rfl rfl rfl (ws' := wd_Md_noCluster cI a_t a_t_w a_t_wKept a_t_saved a_t_past a_t_input a_t_n a_t_order a_t_numbers a_t_output i_t_pastMany i_t_isSaved q15.2 i_t_inputMany i_t_lastError i_t_lastOffset i_t_error i_t_offset i_t_nextByte i_t_begin i_t_value i_t_token i_t_got i_t_orders i_t_outputMany i_t_w) rfl 0 11 rfl rfl rfl (st := []) rfl (Nat.le_of_ble_eq_true rfl) rd_Md_noCluster_15 ?_ ⟨Nat.le_of_ble_eq_true rfl, Nat.le_of_ble_eq_true rfl⟩
    obtain ⟨hbo, hf⟩ := jk_bo_h hf
    cases hf
    exact jk_zret C hbo rfl rd_Md_noCluster_18 rfl
def wd_Md_noCord (cI : ClassId) (a_t a_t_w a_t_wKept a_t_saved a_t_past a_t_input a_t_n a_t_order a_t_numbers a_t_output : Nat) (i_t_pastMany : Int) (i_t_isSaved : Int) (i_t_thrown : Int) (i_t_inputMany : Int) (i_t_lastError : Int) (i_t_lastOffset : Int) (i_t_error : Int) (i_t_offset : Int) (i_t_nextByte : Int) (i_t_begin : Int) (i_t_value : Int) (i_t_token : Int) (i_t_got : Int) (i_t_orders : Int) (i_t_outputMany : Int) (i_t_w : (Int → Int)) : va_W := [(a_t, .inr (11, [.ref a_t_w, .ref a_t_wKept, .ref a_t_saved, .ref a_t_past, jk_V i_t_pastMany, jk_V i_t_isSaved, jk_V i_t_thrown, .ref a_t_input, jk_V i_t_inputMany, jk_V i_t_lastError, jk_V i_t_lastOffset, jk_V i_t_error, jk_V i_t_offset, jk_V i_t_nextByte, jk_V i_t_begin, jk_V i_t_value, jk_V i_t_token, jk_V i_t_got, .ref a_t_n, .ref a_t_order, .ref a_t_numbers, jk_V i_t_orders, .ref a_t_output, jk_V i_t_outputMany])), (a_t_w, jk_W cI 259 i_t_w)]
set_option maxHeartbeats 4000000 in
set_option maxRecDepth 20000 in
theorem ct_Md_noCord (l : Launch) (D : va_G) (Z : (Nat → Prop) → State → Heap → Prop) (sq : Nat → Nat) (hZ : jk_ZK Z sq) (cI cR : ClassId) (a_t a_t_w a_t_wKept a_t_saved a_t_past a_t_input a_t_n a_t_order a_t_numbers a_t_output : Nat) (i_t_pastMany : Int) (i_t_isSaved : Int) (i_t_thrown : Int) (i_t_inputMany : Int) (i_t_lastError : Int) (i_t_lastOffset : Int) (i_t_error : Int) (i_t_offset : Int) (i_t_nextByte : Int) (i_t_begin : Int) (i_t_value : Int) (i_t_token : Int) (i_t_got : Int) (i_t_orders : Int) (i_t_outputMany : Int) (i_t_w : (Int → Int)) (x1 : Int) (q : Int × Int) (hf : fn_Md_noCord i_t_w i_t_thrown x1 = some q) : jk_MI l D jk_cl (jk_ty cI cR) Z mn_Md_noCord (.code mn_Md_noCord mb_Md_noCord 2 (some .boolean) :: jk_WA) (jk_rm 2 43) [.ref a_t, jk_V x1] (wd_Md_noCord cI a_t a_t_w a_t_wKept a_t_saved a_t_past a_t_input a_t_n a_t_order a_t_numbers a_t_output i_t_pastMany i_t_isSaved i_t_thrown i_t_inputMany i_t_lastError i_t_lastOffset i_t_error i_t_offset i_t_nextByte i_t_begin i_t_value i_t_token i_t_got i_t_orders i_t_outputMany i_t_w) (wd_Md_noCord cI a_t a_t_w a_t_wKept a_t_saved a_t_past a_t_input a_t_n a_t_order a_t_numbers a_t_output i_t_pastMany i_t_isSaved q.2 i_t_inputMany i_t_lastError i_t_lastOffset i_t_error i_t_offset i_t_nextByte i_t_begin i_t_value i_t_token i_t_got i_t_orders i_t_outputMany i_t_w) q.1 := by
  intro sz
  refine jk_body (by decide +kernel) (fun p e s m args below meth c hsz hz hin C => ?_) (Nat.le_of_ble_eq_true rfl)
  subst hsz
  unfold fn_Md_noCord at hf
  refine jk_aload_n C rd_Md_noCord_0 (k := 0) rfl ?_
  refine jk_aload_n C rd_Md_noCord_1 (k := 0) rfl ?_
  refine jk_iload_n C rd_Md_noCord_2 (k := 1) rfl ?_
  obtain ⟨q3, hq3, hf⟩ := jk_bind_h hf
  refine jk_callVi C hZ.1 hz (ct_Md_isCord l D Z sq hZ cI cR a_t a_t_w a_t_wKept a_t_saved a_t_past a_t_input a_t_n a_t_order a_t_numbers a_t_output i_t_pastMany i_t_isSaved i_t_thrown i_t_inputMany i_t_lastError i_t_lastOffset i_t_error i_t_offset i_t_nextByte i_t_begin i_t_value i_t_token i_t_got i_t_orders i_t_outputMany i_t_w x1 q3 hq3) tm_1532 tm_1534 sl_66 tm_15 tm_1535 na_Md_isCord ⟨Nat.le_of_ble_eq_true rfl, Nat.le_of_ble_eq_true rfl⟩ rfl [0, 1] rfl rfl rfl (ws' := wd_Md_noCord cI a_t a_t_w a_t_wKept a_t_saved a_t_past a_t_input a_t_n a_t_order a_t_numbers a_t_output i_t_pastMany i_t_isSaved i_t_thrown i_t_inputMany i_t_lastError i_t_lastOffset i_t_error i_t_offset i_t_nextByte i_t_begin i_t_value i_t_token i_t_got i_t_orders i_t_outputMany i_t_w) rfl 0 11 rfl rfl rfl (st := [.ref a_t]) rfl (Nat.le_of_ble_eq_true rfl) rd_Md_noCord_3 ?_ ⟨Nat.le_of_ble_eq_true rfl, Nat.le_of_ble_eq_true rfl⟩
  refine jk_if_ne (tgt := 13) C rd_Md_noCord_6 (by decide) hf (fun _ hf => ?_) (fun _ hf => ?_)
  · refine jk_iconst C rd_Md_noCord_13 ?_
    refine jk_iconst C rd_Md_noCord_14 ?_
    obtain ⟨q15, hq15, hf⟩ := jk_bind_h hf
    refine jk_callVi C hZ.1 hz (ct_Md_fails l D Z sq hZ cI cR a_t a_t_w a_t_wKept a_t_saved a_t_past a_t_input a_t_n a_t_order a_t_numbers a_t_output i_t_pastMany i_t_isSaved i_t_thrown i_t_inputMany i_t_lastError i_t_lastOffset i_t_error i_t_offset i_t_nextByte i_t_begin i_t_value i_t_token i_t_got i_t_orders i_t_outputMany 0 1 q15 hq15) tm_1643 tm_1645 sl_87 tm_15 tm_1646 na_Md_fails ⟨Nat.le_of_ble_eq_true rfl, Nat.le_of_ble_eq_true rfl⟩ rfl [0] rfl rfl rfl (ws' := wd_Md_noCord cI a_t a_t_w a_t_wKept a_t_saved a_t_past a_t_input a_t_n a_t_order a_t_numbers a_t_output i_t_pastMany i_t_isSaved q15.2 i_t_inputMany i_t_lastError i_t_lastOffset i_t_error i_t_offset i_t_nextByte i_t_begin i_t_value i_t_token i_t_got i_t_orders i_t_outputMany i_t_w) rfl 0 11 rfl rfl rfl (st := []) rfl (Nat.le_of_ble_eq_true rfl) rd_Md_noCord_15 ?_ ⟨Nat.le_of_ble_eq_true rfl, Nat.le_of_ble_eq_true rfl⟩
    obtain ⟨hbo, hf⟩ := jk_bo_h hf
    cases hf
    exact jk_zret C hbo rfl rd_Md_noCord_18 rfl
  · refine jk_iconst C rd_Md_noCord_9 ?_
    refine jk_goto (tgt := 14) C rd_Md_noCord_10 (by decide) ?_
    refine jk_iconst C rd_Md_noCord_14 ?_
    obtain ⟨q15, hq15, hf⟩ := jk_bind_h hf
    refine jk_callVi C hZ.1 hz (ct_Md_fails l D Z sq hZ cI cR a_t a_t_w a_t_wKept a_t_saved a_t_past a_t_input a_t_n a_t_order a_t_numbers a_t_output i_t_pastMany i_t_isSaved i_t_thrown i_t_inputMany i_t_lastError i_t_lastOffset i_t_error i_t_offset i_t_nextByte i_t_begin i_t_value i_t_token i_t_got i_t_orders i_t_outputMany 1 1 q15 hq15) tm_1643 tm_1645 sl_87 tm_15 tm_1646 na_Md_fails ⟨Nat.le_of_ble_eq_true rfl, Nat.le_of_ble_eq_true rfl⟩ rfl [0] rfl rfl rfl (ws' := wd_Md_noCord cI a_t a_t_w a_t_wKept a_t_saved a_t_past a_t_input a_t_n a_t_order a_t_numbers a_t_output i_t_pastMany i_t_isSaved q15.2 i_t_inputMany i_t_lastError i_t_lastOffset i_t_error i_t_offset i_t_nextByte i_t_begin i_t_value i_t_token i_t_got i_t_orders i_t_outputMany i_t_w) rfl 0 11 rfl rfl rfl (st := []) rfl (Nat.le_of_ble_eq_true rfl) rd_Md_noCord_15 ?_ ⟨Nat.le_of_ble_eq_true rfl, Nat.le_of_ble_eq_true rfl⟩
    obtain ⟨hbo, hf⟩ := jk_bo_h hf
    cases hf
    exact jk_zret C hbo rfl rd_Md_noCord_18 rfl
def wd_Md_clusterOf (cI : ClassId) (a_t a_t_w a_t_wKept a_t_saved a_t_past a_t_input a_t_n a_t_order a_t_numbers a_t_output : Nat) (i_t_pastMany : Int) (i_t_isSaved : Int) (i_t_thrown : Int) (i_t_inputMany : Int) (i_t_lastError : Int) (i_t_lastOffset : Int) (i_t_error : Int) (i_t_offset : Int) (i_t_nextByte : Int) (i_t_begin : Int) (i_t_value : Int) (i_t_token : Int) (i_t_got : Int) (i_t_orders : Int) (i_t_outputMany : Int) (i_t_w : (Int → Int)) : va_W := [(a_t, .inr (11, [.ref a_t_w, .ref a_t_wKept, .ref a_t_saved, .ref a_t_past, jk_V i_t_pastMany, jk_V i_t_isSaved, jk_V i_t_thrown, .ref a_t_input, jk_V i_t_inputMany, jk_V i_t_lastError, jk_V i_t_lastOffset, jk_V i_t_error, jk_V i_t_offset, jk_V i_t_nextByte, jk_V i_t_begin, jk_V i_t_value, jk_V i_t_token, jk_V i_t_got, .ref a_t_n, .ref a_t_order, .ref a_t_numbers, jk_V i_t_orders, .ref a_t_output, jk_V i_t_outputMany])), (a_t_w, jk_W cI 259 i_t_w)]
set_option maxHeartbeats 4000000 in
set_option maxRecDepth 20000 in
theorem ct_Md_clusterOf (l : Launch) (D : va_G) (Z : (Nat → Prop) → State → Heap → Prop) (sq : Nat → Nat) (hZ : jk_ZK Z sq) (cI cR : ClassId) (a_t a_t_w a_t_wKept a_t_saved a_t_past a_t_input a_t_n a_t_order a_t_numbers a_t_output : Nat) (i_t_pastMany : Int) (i_t_isSaved : Int) (i_t_thrown : Int) (i_t_inputMany : Int) (i_t_lastError : Int) (i_t_lastOffset : Int) (i_t_error : Int) (i_t_offset : Int) (i_t_nextByte : Int) (i_t_begin : Int) (i_t_value : Int) (i_t_token : Int) (i_t_got : Int) (i_t_orders : Int) (i_t_outputMany : Int) (i_t_w : (Int → Int)) (x1 : Int) (q : Int × Int) (hf : fn_Md_clusterOf i_t_w i_t_thrown x1 = some q) : jk_MI l D jk_cl (jk_ty cI cR) Z mn_Md_clusterOf (.code mn_Md_clusterOf mb_Md_clusterOf 2 (some .int) :: jk_WA) (jk_rm 3 64) [.ref a_t, jk_V x1] (wd_Md_clusterOf cI a_t a_t_w a_t_wKept a_t_saved a_t_past a_t_input a_t_n a_t_order a_t_numbers a_t_output i_t_pastMany i_t_isSaved i_t_thrown i_t_inputMany i_t_lastError i_t_lastOffset i_t_error i_t_offset i_t_nextByte i_t_begin i_t_value i_t_token i_t_got i_t_orders i_t_outputMany i_t_w) (wd_Md_clusterOf cI a_t a_t_w a_t_wKept a_t_saved a_t_past a_t_input a_t_n a_t_order a_t_numbers a_t_output i_t_pastMany i_t_isSaved q.2 i_t_inputMany i_t_lastError i_t_lastOffset i_t_error i_t_offset i_t_nextByte i_t_begin i_t_value i_t_token i_t_got i_t_orders i_t_outputMany i_t_w) q.1 := by
  intro sz
  refine jk_body (by decide +kernel) (fun p e s m args below meth c hsz hz hin C => ?_) (Nat.le_of_ble_eq_true rfl)
  subst hsz
  unfold fn_Md_clusterOf at hf
  refine jk_aload_n C rd_Md_clusterOf_0 (k := 0) rfl ?_
  refine jk_iconst C rd_Md_clusterOf_1 ?_
  refine jk_putf C in_Md ty_Md nm_Md (ci := 11) rfl 6 (by decide) tm_1269 rfl rfl rfl 0 rfl (Nat.le_of_ble_eq_true rfl) rd_Md_clusterOf_2 (ws' := wd_Md_clusterOf cI a_t a_t_w a_t_wKept a_t_saved a_t_past a_t_input a_t_n a_t_order a_t_numbers a_t_output i_t_pastMany i_t_isSaved 0 i_t_inputMany i_t_lastError i_t_lastOffset i_t_error i_t_offset i_t_nextByte i_t_begin i_t_value i_t_token i_t_got i_t_orders i_t_outputMany i_t_w) rfl ?_
  refine jk_aload_n C rd_Md_clusterOf_5 (k := 0) rfl ?_
  refine jk_iload_n C rd_Md_clusterOf_6 (k := 1) rfl ?_
  obtain ⟨q7, hq7, hf⟩ := jk_bind_h hf
  refine jk_callVi C hZ.1 hz (ct_Md_noCord l D Z sq hZ cI cR a_t a_t_w a_t_wKept a_t_saved a_t_past a_t_input a_t_n a_t_order a_t_numbers a_t_output i_t_pastMany i_t_isSaved 0 i_t_inputMany i_t_lastError i_t_lastOffset i_t_error i_t_offset i_t_nextByte i_t_begin i_t_value i_t_token i_t_got i_t_orders i_t_outputMany i_t_w x1 q7 hq7) tm_1639 tm_1641 sl_86 tm_15 tm_1642 na_Md_noCord ⟨Nat.le_of_ble_eq_true rfl, Nat.le_of_ble_eq_true rfl⟩ rfl [0, 1] rfl rfl rfl (ws' := wd_Md_clusterOf cI a_t a_t_w a_t_wKept a_t_saved a_t_past a_t_input a_t_n a_t_order a_t_numbers a_t_output i_t_pastMany i_t_isSaved q7.2 i_t_inputMany i_t_lastError i_t_lastOffset i_t_error i_t_offset i_t_nextByte i_t_begin i_t_value i_t_token i_t_got i_t_orders i_t_outputMany i_t_w) rfl 0 11 rfl rfl rfl (st := []) rfl (Nat.le_of_ble_eq_true rfl) rd_Md_clusterOf_7 ?_ ⟨Nat.le_of_ble_eq_true rfl, Nat.le_of_ble_eq_true rfl⟩
  refine jk_if_eq (tgt := 17) C rd_Md_clusterOf_10 (by decide) hf (fun _ hf => ?_) (fun _ hf => ?_)
  · refine jk_aload_n C rd_Md_clusterOf_17 (k := 0) rfl ?_
    refine jk_iload_n C rd_Md_clusterOf_18 (k := 1) rfl ?_
    refine jk_iconst C rd_Md_clusterOf_19 ?_
    obtain ⟨q20, hq20, hf⟩ := jk_bind_h hf
    refine jk_callVi C hZ.1 hz (ct_Md_of l D Z sq hZ cI cR a_t a_t_w a_t_wKept a_t_saved a_t_past a_t_input a_t_n a_t_order a_t_numbers a_t_output i_t_pastMany i_t_isSaved q7.2 i_t_inputMany i_t_lastError i_t_lastOffset i_t_error i_t_offset i_t_nextByte i_t_begin i_t_value i_t_token i_t_got i_t_orders i_t_outputMany i_t_w x1 0 q20 hq20) tm_1256 tm_1258 sl_26 tm_15 tm_1259 na_Md_of ⟨Nat.le_of_ble_eq_true rfl, Nat.le_of_ble_eq_true rfl⟩ rfl [0, 1] rfl rfl rfl (ws' := wd_Md_clusterOf cI a_t a_t_w a_t_wKept a_t_saved a_t_past a_t_input a_t_n a_t_order a_t_numbers a_t_output i_t_pastMany i_t_isSaved q7.2 i_t_inputMany i_t_lastError i_t_lastOffset i_t_error i_t_offset i_t_nextByte i_t_begin i_t_value i_t_token i_t_got i_t_orders i_t_outputMany i_t_w) rfl 0 11 rfl rfl rfl (st := []) rfl (Nat.le_of_ble_eq_true rfl) rd_Md_clusterOf_20 ?_ ⟨Nat.le_of_ble_eq_true rfl, Nat.le_of_ble_eq_true rfl⟩
    cases hf
    exact jk_iret C rfl rd_Md_clusterOf_23 rfl
  · refine jk_iconst C rd_Md_clusterOf_13 ?_
    refine jk_goto (tgt := 23) C rd_Md_clusterOf_14 (by decide) ?_
    cases hf
    exact jk_iret C rfl rd_Md_clusterOf_23 rfl
def wd_Md_depthOf (cI : ClassId) (a_t a_t_w a_t_wKept a_t_saved a_t_past a_t_input a_t_n a_t_order a_t_numbers a_t_output : Nat) (i_t_pastMany : Int) (i_t_isSaved : Int) (i_t_thrown : Int) (i_t_inputMany : Int) (i_t_lastError : Int) (i_t_lastOffset : Int) (i_t_error : Int) (i_t_offset : Int) (i_t_nextByte : Int) (i_t_begin : Int) (i_t_value : Int) (i_t_token : Int) (i_t_got : Int) (i_t_orders : Int) (i_t_outputMany : Int) (i_t_w : (Int → Int)) : va_W := [(a_t, .inr (11, [.ref a_t_w, .ref a_t_wKept, .ref a_t_saved, .ref a_t_past, jk_V i_t_pastMany, jk_V i_t_isSaved, jk_V i_t_thrown, .ref a_t_input, jk_V i_t_inputMany, jk_V i_t_lastError, jk_V i_t_lastOffset, jk_V i_t_error, jk_V i_t_offset, jk_V i_t_nextByte, jk_V i_t_begin, jk_V i_t_value, jk_V i_t_token, jk_V i_t_got, .ref a_t_n, .ref a_t_order, .ref a_t_numbers, jk_V i_t_orders, .ref a_t_output, jk_V i_t_outputMany])), (a_t_w, jk_W cI 259 i_t_w)]
set_option maxHeartbeats 4000000 in
set_option maxRecDepth 20000 in
theorem ct_Md_depthOf (l : Launch) (D : va_G) (Z : (Nat → Prop) → State → Heap → Prop) (sq : Nat → Nat) (hZ : jk_ZK Z sq) (cI cR : ClassId) (a_t a_t_w a_t_wKept a_t_saved a_t_past a_t_input a_t_n a_t_order a_t_numbers a_t_output : Nat) (i_t_pastMany : Int) (i_t_isSaved : Int) (i_t_thrown : Int) (i_t_inputMany : Int) (i_t_lastError : Int) (i_t_lastOffset : Int) (i_t_error : Int) (i_t_offset : Int) (i_t_nextByte : Int) (i_t_begin : Int) (i_t_value : Int) (i_t_token : Int) (i_t_got : Int) (i_t_orders : Int) (i_t_outputMany : Int) (i_t_w : (Int → Int)) (x1 : Int) (q : Int × Int) (hf : fn_Md_depthOf i_t_w i_t_thrown x1 = some q) : jk_MI l D jk_cl (jk_ty cI cR) Z mn_Md_depthOf (.code mn_Md_depthOf mb_Md_depthOf 2 (some .int) :: jk_WA) (jk_rm 3 64) [.ref a_t, jk_V x1] (wd_Md_depthOf cI a_t a_t_w a_t_wKept a_t_saved a_t_past a_t_input a_t_n a_t_order a_t_numbers a_t_output i_t_pastMany i_t_isSaved i_t_thrown i_t_inputMany i_t_lastError i_t_lastOffset i_t_error i_t_offset i_t_nextByte i_t_begin i_t_value i_t_token i_t_got i_t_orders i_t_outputMany i_t_w) (wd_Md_depthOf cI a_t a_t_w a_t_wKept a_t_saved a_t_past a_t_input a_t_n a_t_order a_t_numbers a_t_output i_t_pastMany i_t_isSaved q.2 i_t_inputMany i_t_lastError i_t_lastOffset i_t_error i_t_offset i_t_nextByte i_t_begin i_t_value i_t_token i_t_got i_t_orders i_t_outputMany i_t_w) q.1 := by
  intro sz
  refine jk_body (by decide +kernel) (fun p e s m args below meth c hsz hz hin C => ?_) (Nat.le_of_ble_eq_true rfl)
  subst hsz
  unfold fn_Md_depthOf at hf
  refine jk_aload_n C rd_Md_depthOf_0 (k := 0) rfl ?_
  refine jk_iconst C rd_Md_depthOf_1 ?_
  refine jk_putf C in_Md ty_Md nm_Md (ci := 11) rfl 6 (by decide) tm_1269 rfl rfl rfl 0 rfl (Nat.le_of_ble_eq_true rfl) rd_Md_depthOf_2 (ws' := wd_Md_depthOf cI a_t a_t_w a_t_wKept a_t_saved a_t_past a_t_input a_t_n a_t_order a_t_numbers a_t_output i_t_pastMany i_t_isSaved 0 i_t_inputMany i_t_lastError i_t_lastOffset i_t_error i_t_offset i_t_nextByte i_t_begin i_t_value i_t_token i_t_got i_t_orders i_t_outputMany i_t_w) rfl ?_
  refine jk_aload_n C rd_Md_depthOf_5 (k := 0) rfl ?_
  refine jk_iload_n C rd_Md_depthOf_6 (k := 1) rfl ?_
  obtain ⟨q7, hq7, hf⟩ := jk_bind_h hf
  refine jk_callVi C hZ.1 hz (ct_Md_noCord l D Z sq hZ cI cR a_t a_t_w a_t_wKept a_t_saved a_t_past a_t_input a_t_n a_t_order a_t_numbers a_t_output i_t_pastMany i_t_isSaved 0 i_t_inputMany i_t_lastError i_t_lastOffset i_t_error i_t_offset i_t_nextByte i_t_begin i_t_value i_t_token i_t_got i_t_orders i_t_outputMany i_t_w x1 q7 hq7) tm_1639 tm_1641 sl_86 tm_15 tm_1642 na_Md_noCord ⟨Nat.le_of_ble_eq_true rfl, Nat.le_of_ble_eq_true rfl⟩ rfl [0, 1] rfl rfl rfl (ws' := wd_Md_depthOf cI a_t a_t_w a_t_wKept a_t_saved a_t_past a_t_input a_t_n a_t_order a_t_numbers a_t_output i_t_pastMany i_t_isSaved q7.2 i_t_inputMany i_t_lastError i_t_lastOffset i_t_error i_t_offset i_t_nextByte i_t_begin i_t_value i_t_token i_t_got i_t_orders i_t_outputMany i_t_w) rfl 0 11 rfl rfl rfl (st := []) rfl (Nat.le_of_ble_eq_true rfl) rd_Md_depthOf_7 ?_ ⟨Nat.le_of_ble_eq_true rfl, Nat.le_of_ble_eq_true rfl⟩
  refine jk_if_eq (tgt := 17) C rd_Md_depthOf_10 (by decide) hf (fun _ hf => ?_) (fun _ hf => ?_)
  · refine jk_aload_n C rd_Md_depthOf_17 (k := 0) rfl ?_
    refine jk_iload_n C rd_Md_depthOf_18 (k := 1) rfl ?_
    refine jk_iconst C rd_Md_depthOf_19 ?_
    obtain ⟨q20, hq20, hf⟩ := jk_bind_h hf
    refine jk_callVi C hZ.1 hz (ct_Md_of l D Z sq hZ cI cR a_t a_t_w a_t_wKept a_t_saved a_t_past a_t_input a_t_n a_t_order a_t_numbers a_t_output i_t_pastMany i_t_isSaved q7.2 i_t_inputMany i_t_lastError i_t_lastOffset i_t_error i_t_offset i_t_nextByte i_t_begin i_t_value i_t_token i_t_got i_t_orders i_t_outputMany i_t_w x1 1 q20 hq20) tm_1256 tm_1258 sl_26 tm_15 tm_1259 na_Md_of ⟨Nat.le_of_ble_eq_true rfl, Nat.le_of_ble_eq_true rfl⟩ rfl [0, 1] rfl rfl rfl (ws' := wd_Md_depthOf cI a_t a_t_w a_t_wKept a_t_saved a_t_past a_t_input a_t_n a_t_order a_t_numbers a_t_output i_t_pastMany i_t_isSaved q7.2 i_t_inputMany i_t_lastError i_t_lastOffset i_t_error i_t_offset i_t_nextByte i_t_begin i_t_value i_t_token i_t_got i_t_orders i_t_outputMany i_t_w) rfl 0 11 rfl rfl rfl (st := []) rfl (Nat.le_of_ble_eq_true rfl) rd_Md_depthOf_20 ?_ ⟨Nat.le_of_ble_eq_true rfl, Nat.le_of_ble_eq_true rfl⟩
    cases hf
    exact jk_iret C rfl rd_Md_depthOf_23 rfl
  · refine jk_iconst C rd_Md_depthOf_13 ?_
    refine jk_goto (tgt := 23) C rd_Md_depthOf_14 (by decide) ?_
    cases hf
    exact jk_iret C rfl rd_Md_depthOf_23 rfl
def wd_Md_parentOf (cI : ClassId) (a_t a_t_w a_t_wKept a_t_saved a_t_past a_t_input a_t_n a_t_order a_t_numbers a_t_output : Nat) (i_t_pastMany : Int) (i_t_isSaved : Int) (i_t_thrown : Int) (i_t_inputMany : Int) (i_t_lastError : Int) (i_t_lastOffset : Int) (i_t_error : Int) (i_t_offset : Int) (i_t_nextByte : Int) (i_t_begin : Int) (i_t_value : Int) (i_t_token : Int) (i_t_got : Int) (i_t_orders : Int) (i_t_outputMany : Int) (i_t_w : (Int → Int)) : va_W := [(a_t, .inr (11, [.ref a_t_w, .ref a_t_wKept, .ref a_t_saved, .ref a_t_past, jk_V i_t_pastMany, jk_V i_t_isSaved, jk_V i_t_thrown, .ref a_t_input, jk_V i_t_inputMany, jk_V i_t_lastError, jk_V i_t_lastOffset, jk_V i_t_error, jk_V i_t_offset, jk_V i_t_nextByte, jk_V i_t_begin, jk_V i_t_value, jk_V i_t_token, jk_V i_t_got, .ref a_t_n, .ref a_t_order, .ref a_t_numbers, jk_V i_t_orders, .ref a_t_output, jk_V i_t_outputMany])), (a_t_w, jk_W cI 259 i_t_w)]
set_option maxHeartbeats 4000000 in
set_option maxRecDepth 20000 in
theorem ct_Md_parentOf (l : Launch) (D : va_G) (Z : (Nat → Prop) → State → Heap → Prop) (sq : Nat → Nat) (hZ : jk_ZK Z sq) (cI cR : ClassId) (a_t a_t_w a_t_wKept a_t_saved a_t_past a_t_input a_t_n a_t_order a_t_numbers a_t_output : Nat) (i_t_pastMany : Int) (i_t_isSaved : Int) (i_t_thrown : Int) (i_t_inputMany : Int) (i_t_lastError : Int) (i_t_lastOffset : Int) (i_t_error : Int) (i_t_offset : Int) (i_t_nextByte : Int) (i_t_begin : Int) (i_t_value : Int) (i_t_token : Int) (i_t_got : Int) (i_t_orders : Int) (i_t_outputMany : Int) (i_t_w : (Int → Int)) (x1 : Int) (q : Int × Int) (hf : fn_Md_parentOf i_t_w i_t_thrown x1 = some q) : jk_MI l D jk_cl (jk_ty cI cR) Z mn_Md_parentOf (.code mn_Md_parentOf mb_Md_parentOf 2 (some .int) :: jk_WA) (jk_rm 3 64) [.ref a_t, jk_V x1] (wd_Md_parentOf cI a_t a_t_w a_t_wKept a_t_saved a_t_past a_t_input a_t_n a_t_order a_t_numbers a_t_output i_t_pastMany i_t_isSaved i_t_thrown i_t_inputMany i_t_lastError i_t_lastOffset i_t_error i_t_offset i_t_nextByte i_t_begin i_t_value i_t_token i_t_got i_t_orders i_t_outputMany i_t_w) (wd_Md_parentOf cI a_t a_t_w a_t_wKept a_t_saved a_t_past a_t_input a_t_n a_t_order a_t_numbers a_t_output i_t_pastMany i_t_isSaved q.2 i_t_inputMany i_t_lastError i_t_lastOffset i_t_error i_t_offset i_t_nextByte i_t_begin i_t_value i_t_token i_t_got i_t_orders i_t_outputMany i_t_w) q.1 := by
  intro sz
  refine jk_body (by decide +kernel) (fun p e s m args below meth c hsz hz hin C => ?_) (Nat.le_of_ble_eq_true rfl)
  subst hsz
  unfold fn_Md_parentOf at hf
  refine jk_aload_n C rd_Md_parentOf_0 (k := 0) rfl ?_
  refine jk_iconst C rd_Md_parentOf_1 ?_
  refine jk_putf C in_Md ty_Md nm_Md (ci := 11) rfl 6 (by decide) tm_1269 rfl rfl rfl 0 rfl (Nat.le_of_ble_eq_true rfl) rd_Md_parentOf_2 (ws' := wd_Md_parentOf cI a_t a_t_w a_t_wKept a_t_saved a_t_past a_t_input a_t_n a_t_order a_t_numbers a_t_output i_t_pastMany i_t_isSaved 0 i_t_inputMany i_t_lastError i_t_lastOffset i_t_error i_t_offset i_t_nextByte i_t_begin i_t_value i_t_token i_t_got i_t_orders i_t_outputMany i_t_w) rfl ?_
  refine jk_aload_n C rd_Md_parentOf_5 (k := 0) rfl ?_
  refine jk_iload_n C rd_Md_parentOf_6 (k := 1) rfl ?_
  obtain ⟨q7, hq7, hf⟩ := jk_bind_h hf
  refine jk_callVi C hZ.1 hz (ct_Md_noCord l D Z sq hZ cI cR a_t a_t_w a_t_wKept a_t_saved a_t_past a_t_input a_t_n a_t_order a_t_numbers a_t_output i_t_pastMany i_t_isSaved 0 i_t_inputMany i_t_lastError i_t_lastOffset i_t_error i_t_offset i_t_nextByte i_t_begin i_t_value i_t_token i_t_got i_t_orders i_t_outputMany i_t_w x1 q7 hq7) tm_1639 tm_1641 sl_86 tm_15 tm_1642 na_Md_noCord ⟨Nat.le_of_ble_eq_true rfl, Nat.le_of_ble_eq_true rfl⟩ rfl [0, 1] rfl rfl rfl (ws' := wd_Md_parentOf cI a_t a_t_w a_t_wKept a_t_saved a_t_past a_t_input a_t_n a_t_order a_t_numbers a_t_output i_t_pastMany i_t_isSaved q7.2 i_t_inputMany i_t_lastError i_t_lastOffset i_t_error i_t_offset i_t_nextByte i_t_begin i_t_value i_t_token i_t_got i_t_orders i_t_outputMany i_t_w) rfl 0 11 rfl rfl rfl (st := []) rfl (Nat.le_of_ble_eq_true rfl) rd_Md_parentOf_7 ?_ ⟨Nat.le_of_ble_eq_true rfl, Nat.le_of_ble_eq_true rfl⟩
  refine jk_if_eq (tgt := 17) C rd_Md_parentOf_10 (by decide) hf (fun _ hf => ?_) (fun _ hf => ?_)
  · refine jk_aload_n C rd_Md_parentOf_17 (k := 0) rfl ?_
    refine jk_iload_n C rd_Md_parentOf_18 (k := 1) rfl ?_
    obtain ⟨q19, hq19, hf⟩ := jk_bind_h hf
    refine jk_callVi C hZ.1 hz (ct_Md_parent l D Z sq hZ cI cR a_t a_t_w a_t_wKept a_t_saved a_t_past a_t_input a_t_n a_t_order a_t_numbers a_t_output i_t_pastMany i_t_isSaved q7.2 i_t_inputMany i_t_lastError i_t_lastOffset i_t_error i_t_offset i_t_nextByte i_t_begin i_t_value i_t_token i_t_got i_t_orders i_t_outputMany i_t_w x1 q19 hq19) tm_1655 tm_1657 sl_88 tm_15 tm_1658 na_Md_parent ⟨Nat.le_of_ble_eq_true rfl, Nat.le_of_ble_eq_true rfl⟩ rfl [0, 1] rfl rfl rfl (ws' := wd_Md_parentOf cI a_t a_t_w a_t_wKept a_t_saved a_t_past a_t_input a_t_n a_t_order a_t_numbers a_t_output i_t_pastMany i_t_isSaved q7.2 i_t_inputMany i_t_lastError i_t_lastOffset i_t_error i_t_offset i_t_nextByte i_t_begin i_t_value i_t_token i_t_got i_t_orders i_t_outputMany i_t_w) rfl 0 11 rfl rfl rfl (st := []) rfl (Nat.le_of_ble_eq_true rfl) rd_Md_parentOf_19 ?_ ⟨Nat.le_of_ble_eq_true rfl, Nat.le_of_ble_eq_true rfl⟩
    cases hf
    exact jk_iret C rfl rd_Md_parentOf_22 rfl
  · refine jk_iconst C rd_Md_parentOf_13 ?_
    refine jk_goto (tgt := 22) C rd_Md_parentOf_14 (by decide) ?_
    cases hf
    exact jk_iret C rfl rd_Md_parentOf_22 rfl
def wd_Md_topicOf (cI : ClassId) (a_t a_t_w a_t_wKept a_t_saved a_t_past a_t_input a_t_n a_t_order a_t_numbers a_t_output : Nat) (i_t_pastMany : Int) (i_t_isSaved : Int) (i_t_thrown : Int) (i_t_inputMany : Int) (i_t_lastError : Int) (i_t_lastOffset : Int) (i_t_error : Int) (i_t_offset : Int) (i_t_nextByte : Int) (i_t_begin : Int) (i_t_value : Int) (i_t_token : Int) (i_t_got : Int) (i_t_orders : Int) (i_t_outputMany : Int) (i_t_w : (Int → Int)) : va_W := [(a_t, .inr (11, [.ref a_t_w, .ref a_t_wKept, .ref a_t_saved, .ref a_t_past, jk_V i_t_pastMany, jk_V i_t_isSaved, jk_V i_t_thrown, .ref a_t_input, jk_V i_t_inputMany, jk_V i_t_lastError, jk_V i_t_lastOffset, jk_V i_t_error, jk_V i_t_offset, jk_V i_t_nextByte, jk_V i_t_begin, jk_V i_t_value, jk_V i_t_token, jk_V i_t_got, .ref a_t_n, .ref a_t_order, .ref a_t_numbers, jk_V i_t_orders, .ref a_t_output, jk_V i_t_outputMany])), (a_t_w, jk_W cI 259 i_t_w)]
set_option maxHeartbeats 4000000 in
set_option maxRecDepth 20000 in
theorem ct_Md_topicOf (l : Launch) (D : va_G) (Z : (Nat → Prop) → State → Heap → Prop) (sq : Nat → Nat) (hZ : jk_ZK Z sq) (cI cR : ClassId) (a_t a_t_w a_t_wKept a_t_saved a_t_past a_t_input a_t_n a_t_order a_t_numbers a_t_output : Nat) (i_t_pastMany : Int) (i_t_isSaved : Int) (i_t_thrown : Int) (i_t_inputMany : Int) (i_t_lastError : Int) (i_t_lastOffset : Int) (i_t_error : Int) (i_t_offset : Int) (i_t_nextByte : Int) (i_t_begin : Int) (i_t_value : Int) (i_t_token : Int) (i_t_got : Int) (i_t_orders : Int) (i_t_outputMany : Int) (i_t_w : (Int → Int)) (x1 : Int) (q : Int × Int) (hf : fn_Md_topicOf i_t_w i_t_thrown x1 = some q) : jk_MI l D jk_cl (jk_ty cI cR) Z mn_Md_topicOf (.code mn_Md_topicOf mb_Md_topicOf 2 (some .int) :: jk_WA) (jk_rm 3 64) [.ref a_t, jk_V x1] (wd_Md_topicOf cI a_t a_t_w a_t_wKept a_t_saved a_t_past a_t_input a_t_n a_t_order a_t_numbers a_t_output i_t_pastMany i_t_isSaved i_t_thrown i_t_inputMany i_t_lastError i_t_lastOffset i_t_error i_t_offset i_t_nextByte i_t_begin i_t_value i_t_token i_t_got i_t_orders i_t_outputMany i_t_w) (wd_Md_topicOf cI a_t a_t_w a_t_wKept a_t_saved a_t_past a_t_input a_t_n a_t_order a_t_numbers a_t_output i_t_pastMany i_t_isSaved q.2 i_t_inputMany i_t_lastError i_t_lastOffset i_t_error i_t_offset i_t_nextByte i_t_begin i_t_value i_t_token i_t_got i_t_orders i_t_outputMany i_t_w) q.1 := by
  intro sz
  refine jk_body (by decide +kernel) (fun p e s m args below meth c hsz hz hin C => ?_) (Nat.le_of_ble_eq_true rfl)
  subst hsz
  unfold fn_Md_topicOf at hf
  refine jk_aload_n C rd_Md_topicOf_0 (k := 0) rfl ?_
  refine jk_iconst C rd_Md_topicOf_1 ?_
  refine jk_putf C in_Md ty_Md nm_Md (ci := 11) rfl 6 (by decide) tm_1269 rfl rfl rfl 0 rfl (Nat.le_of_ble_eq_true rfl) rd_Md_topicOf_2 (ws' := wd_Md_topicOf cI a_t a_t_w a_t_wKept a_t_saved a_t_past a_t_input a_t_n a_t_order a_t_numbers a_t_output i_t_pastMany i_t_isSaved 0 i_t_inputMany i_t_lastError i_t_lastOffset i_t_error i_t_offset i_t_nextByte i_t_begin i_t_value i_t_token i_t_got i_t_orders i_t_outputMany i_t_w) rfl ?_
  refine jk_aload_n C rd_Md_topicOf_5 (k := 0) rfl ?_
  refine jk_iload_n C rd_Md_topicOf_6 (k := 1) rfl ?_
  obtain ⟨q7, hq7, hf⟩ := jk_bind_h hf
  refine jk_callVi C hZ.1 hz (ct_Md_noCord l D Z sq hZ cI cR a_t a_t_w a_t_wKept a_t_saved a_t_past a_t_input a_t_n a_t_order a_t_numbers a_t_output i_t_pastMany i_t_isSaved 0 i_t_inputMany i_t_lastError i_t_lastOffset i_t_error i_t_offset i_t_nextByte i_t_begin i_t_value i_t_token i_t_got i_t_orders i_t_outputMany i_t_w x1 q7 hq7) tm_1639 tm_1641 sl_86 tm_15 tm_1642 na_Md_noCord ⟨Nat.le_of_ble_eq_true rfl, Nat.le_of_ble_eq_true rfl⟩ rfl [0, 1] rfl rfl rfl (ws' := wd_Md_topicOf cI a_t a_t_w a_t_wKept a_t_saved a_t_past a_t_input a_t_n a_t_order a_t_numbers a_t_output i_t_pastMany i_t_isSaved q7.2 i_t_inputMany i_t_lastError i_t_lastOffset i_t_error i_t_offset i_t_nextByte i_t_begin i_t_value i_t_token i_t_got i_t_orders i_t_outputMany i_t_w) rfl 0 11 rfl rfl rfl (st := []) rfl (Nat.le_of_ble_eq_true rfl) rd_Md_topicOf_7 ?_ ⟨Nat.le_of_ble_eq_true rfl, Nat.le_of_ble_eq_true rfl⟩
  refine jk_if_eq (tgt := 17) C rd_Md_topicOf_10 (by decide) hf (fun _ hf => ?_) (fun _ hf => ?_)
  · refine jk_aload_n C rd_Md_topicOf_17 (k := 0) rfl ?_
    refine jk_iload_n C rd_Md_topicOf_18 (k := 1) rfl ?_
    refine jk_iconst C rd_Md_topicOf_19 ?_
    obtain ⟨q20, hq20, hf⟩ := jk_bind_h hf
    refine jk_callVi C hZ.1 hz (ct_Md_of l D Z sq hZ cI cR a_t a_t_w a_t_wKept a_t_saved a_t_past a_t_input a_t_n a_t_order a_t_numbers a_t_output i_t_pastMany i_t_isSaved q7.2 i_t_inputMany i_t_lastError i_t_lastOffset i_t_error i_t_offset i_t_nextByte i_t_begin i_t_value i_t_token i_t_got i_t_orders i_t_outputMany i_t_w x1 2 q20 hq20) tm_1256 tm_1258 sl_26 tm_15 tm_1259 na_Md_of ⟨Nat.le_of_ble_eq_true rfl, Nat.le_of_ble_eq_true rfl⟩ rfl [0, 1] rfl rfl rfl (ws' := wd_Md_topicOf cI a_t a_t_w a_t_wKept a_t_saved a_t_past a_t_input a_t_n a_t_order a_t_numbers a_t_output i_t_pastMany i_t_isSaved q7.2 i_t_inputMany i_t_lastError i_t_lastOffset i_t_error i_t_offset i_t_nextByte i_t_begin i_t_value i_t_token i_t_got i_t_orders i_t_outputMany i_t_w) rfl 0 11 rfl rfl rfl (st := []) rfl (Nat.le_of_ble_eq_true rfl) rd_Md_topicOf_20 ?_ ⟨Nat.le_of_ble_eq_true rfl, Nat.le_of_ble_eq_true rfl⟩
    cases hf
    exact jk_iret C rfl rd_Md_topicOf_23 rfl
  · refine jk_iconst C rd_Md_topicOf_13 ?_
    refine jk_goto (tgt := 23) C rd_Md_topicOf_14 (by decide) ?_
    cases hf
    exact jk_iret C rfl rd_Md_topicOf_23 rfl
def wd_Md_subsidiariesOf (cI : ClassId) (a_t a_t_w a_t_wKept a_t_saved a_t_past a_t_input a_t_n a_t_order a_t_numbers a_t_output : Nat) (i_t_pastMany : Int) (i_t_isSaved : Int) (i_t_thrown : Int) (i_t_inputMany : Int) (i_t_lastError : Int) (i_t_lastOffset : Int) (i_t_error : Int) (i_t_offset : Int) (i_t_nextByte : Int) (i_t_begin : Int) (i_t_value : Int) (i_t_token : Int) (i_t_got : Int) (i_t_orders : Int) (i_t_outputMany : Int) (i_t_w : (Int → Int)) : va_W := [(a_t, .inr (11, [.ref a_t_w, .ref a_t_wKept, .ref a_t_saved, .ref a_t_past, jk_V i_t_pastMany, jk_V i_t_isSaved, jk_V i_t_thrown, .ref a_t_input, jk_V i_t_inputMany, jk_V i_t_lastError, jk_V i_t_lastOffset, jk_V i_t_error, jk_V i_t_offset, jk_V i_t_nextByte, jk_V i_t_begin, jk_V i_t_value, jk_V i_t_token, jk_V i_t_got, .ref a_t_n, .ref a_t_order, .ref a_t_numbers, jk_V i_t_orders, .ref a_t_output, jk_V i_t_outputMany])), (a_t_w, jk_W cI 259 i_t_w)]
set_option maxHeartbeats 4000000 in
set_option maxRecDepth 20000 in
theorem ct_Md_subsidiariesOf (l : Launch) (D : va_G) (Z : (Nat → Prop) → State → Heap → Prop) (sq : Nat → Nat) (hZ : jk_ZK Z sq) (cI cR : ClassId) (a_t a_t_w a_t_wKept a_t_saved a_t_past a_t_input a_t_n a_t_order a_t_numbers a_t_output : Nat) (i_t_pastMany : Int) (i_t_isSaved : Int) (i_t_thrown : Int) (i_t_inputMany : Int) (i_t_lastError : Int) (i_t_lastOffset : Int) (i_t_error : Int) (i_t_offset : Int) (i_t_nextByte : Int) (i_t_begin : Int) (i_t_value : Int) (i_t_token : Int) (i_t_got : Int) (i_t_orders : Int) (i_t_outputMany : Int) (i_t_w : (Int → Int)) (x1 : Int) (q : Int × Int) (hf : fn_Md_subsidiariesOf i_t_w i_t_thrown x1 = some q) : jk_MI l D jk_cl (jk_ty cI cR) Z mn_Md_subsidiariesOf (.code mn_Md_subsidiariesOf mb_Md_subsidiariesOf 2 (some .int) :: jk_WA) (jk_rm 3 67) [.ref a_t, jk_V x1] (wd_Md_subsidiariesOf cI a_t a_t_w a_t_wKept a_t_saved a_t_past a_t_input a_t_n a_t_order a_t_numbers a_t_output i_t_pastMany i_t_isSaved i_t_thrown i_t_inputMany i_t_lastError i_t_lastOffset i_t_error i_t_offset i_t_nextByte i_t_begin i_t_value i_t_token i_t_got i_t_orders i_t_outputMany i_t_w) (wd_Md_subsidiariesOf cI a_t a_t_w a_t_wKept a_t_saved a_t_past a_t_input a_t_n a_t_order a_t_numbers a_t_output i_t_pastMany i_t_isSaved q.2 i_t_inputMany i_t_lastError i_t_lastOffset i_t_error i_t_offset i_t_nextByte i_t_begin i_t_value i_t_token i_t_got i_t_orders i_t_outputMany i_t_w) q.1 := by
  intro sz
  refine jk_body (by decide +kernel) (fun p e s m args below meth c hsz hz hin C => ?_) (Nat.le_of_ble_eq_true rfl)
  subst hsz
  unfold fn_Md_subsidiariesOf at hf
  refine jk_aload_n C rd_Md_subsidiariesOf_0 (k := 0) rfl ?_
  refine jk_iconst C rd_Md_subsidiariesOf_1 ?_
  refine jk_putf C in_Md ty_Md nm_Md (ci := 11) rfl 6 (by decide) tm_1269 rfl rfl rfl 0 rfl (Nat.le_of_ble_eq_true rfl) rd_Md_subsidiariesOf_2 (ws' := wd_Md_subsidiariesOf cI a_t a_t_w a_t_wKept a_t_saved a_t_past a_t_input a_t_n a_t_order a_t_numbers a_t_output i_t_pastMany i_t_isSaved 0 i_t_inputMany i_t_lastError i_t_lastOffset i_t_error i_t_offset i_t_nextByte i_t_begin i_t_value i_t_token i_t_got i_t_orders i_t_outputMany i_t_w) rfl ?_
  refine jk_aload_n C rd_Md_subsidiariesOf_5 (k := 0) rfl ?_
  refine jk_iload_n C rd_Md_subsidiariesOf_6 (k := 1) rfl ?_
  obtain ⟨q7, hq7, hf⟩ := jk_bind_h hf
  refine jk_callVi C hZ.1 hz (ct_Md_noCord l D Z sq hZ cI cR a_t a_t_w a_t_wKept a_t_saved a_t_past a_t_input a_t_n a_t_order a_t_numbers a_t_output i_t_pastMany i_t_isSaved 0 i_t_inputMany i_t_lastError i_t_lastOffset i_t_error i_t_offset i_t_nextByte i_t_begin i_t_value i_t_token i_t_got i_t_orders i_t_outputMany i_t_w x1 q7 hq7) tm_1639 tm_1641 sl_86 tm_15 tm_1642 na_Md_noCord ⟨Nat.le_of_ble_eq_true rfl, Nat.le_of_ble_eq_true rfl⟩ rfl [0, 1] rfl rfl rfl (ws' := wd_Md_subsidiariesOf cI a_t a_t_w a_t_wKept a_t_saved a_t_past a_t_input a_t_n a_t_order a_t_numbers a_t_output i_t_pastMany i_t_isSaved q7.2 i_t_inputMany i_t_lastError i_t_lastOffset i_t_error i_t_offset i_t_nextByte i_t_begin i_t_value i_t_token i_t_got i_t_orders i_t_outputMany i_t_w) rfl 0 11 rfl rfl rfl (st := []) rfl (Nat.le_of_ble_eq_true rfl) rd_Md_subsidiariesOf_7 ?_ ⟨Nat.le_of_ble_eq_true rfl, Nat.le_of_ble_eq_true rfl⟩
  refine jk_if_eq (tgt := 17) C rd_Md_subsidiariesOf_10 (by decide) hf (fun _ hf => ?_) (fun _ hf => ?_)
  · refine jk_aload_n C rd_Md_subsidiariesOf_17 (k := 0) rfl ?_
    refine jk_iload_n C rd_Md_subsidiariesOf_18 (k := 1) rfl ?_
    obtain ⟨q19, hq19, hf⟩ := jk_bind_h hf
    refine jk_callVi C hZ.1 hz (ct_Md_subsidiaries l D Z sq hZ cI cR a_t a_t_w a_t_wKept a_t_saved a_t_past a_t_input a_t_n a_t_order a_t_numbers a_t_output i_t_pastMany i_t_isSaved q7.2 i_t_inputMany i_t_lastError i_t_lastOffset i_t_error i_t_offset i_t_nextByte i_t_begin i_t_value i_t_token i_t_got i_t_orders i_t_outputMany i_t_w x1 q19 hq19) tm_1667 tm_1669 sl_89 tm_15 tm_1670 na_Md_subsidiaries ⟨Nat.le_of_ble_eq_true rfl, Nat.le_of_ble_eq_true rfl⟩ rfl [0, 1] rfl rfl rfl (ws' := wd_Md_subsidiariesOf cI a_t a_t_w a_t_wKept a_t_saved a_t_past a_t_input a_t_n a_t_order a_t_numbers a_t_output i_t_pastMany i_t_isSaved q7.2 i_t_inputMany i_t_lastError i_t_lastOffset i_t_error i_t_offset i_t_nextByte i_t_begin i_t_value i_t_token i_t_got i_t_orders i_t_outputMany i_t_w) rfl 0 11 rfl rfl rfl (st := []) rfl (Nat.le_of_ble_eq_true rfl) rd_Md_subsidiariesOf_19 ?_ ⟨Nat.le_of_ble_eq_true rfl, Nat.le_of_ble_eq_true rfl⟩
    cases hf
    exact jk_iret C rfl rd_Md_subsidiariesOf_22 rfl
  · refine jk_iconst C rd_Md_subsidiariesOf_13 ?_
    refine jk_goto (tgt := 22) C rd_Md_subsidiariesOf_14 (by decide) ?_
    cases hf
    exact jk_iret C rfl rd_Md_subsidiariesOf_22 rfl
def wd_Md_nibbledPlaces (cI : ClassId) (a_t a_t_w a_t_wKept a_t_saved a_t_past a_t_input a_t_n a_t_order a_t_numbers a_t_output : Nat) (i_t_pastMany : Int) (i_t_isSaved : Int) (i_t_thrown : Int) (i_t_inputMany : Int) (i_t_lastError : Int) (i_t_lastOffset : Int) (i_t_error : Int) (i_t_offset : Int) (i_t_nextByte : Int) (i_t_begin : Int) (i_t_value : Int) (i_t_token : Int) (i_t_got : Int) (i_t_orders : Int) (i_t_outputMany : Int) (i_t_w : (Int → Int)) : va_W := [(a_t, .inr (11, [.ref a_t_w, .ref a_t_wKept, .ref a_t_saved, .ref a_t_past, jk_V i_t_pastMany, jk_V i_t_isSaved, jk_V i_t_thrown, .ref a_t_input, jk_V i_t_inputMany, jk_V i_t_lastError, jk_V i_t_lastOffset, jk_V i_t_error, jk_V i_t_offset, jk_V i_t_nextByte, jk_V i_t_begin, jk_V i_t_value, jk_V i_t_token, jk_V i_t_got, .ref a_t_n, .ref a_t_order, .ref a_t_numbers, jk_V i_t_orders, .ref a_t_output, jk_V i_t_outputMany])), (a_t_w, jk_W cI 259 i_t_w)]
set_option maxHeartbeats 4000000 in
set_option maxRecDepth 20000 in
theorem ct_Md_nibbledPlaces (l : Launch) (D : va_G) (Z : (Nat → Prop) → State → Heap → Prop) (sq : Nat → Nat) (hZ : jk_ZK Z sq) (cI cR : ClassId) (a_t a_t_w a_t_wKept a_t_saved a_t_past a_t_input a_t_n a_t_order a_t_numbers a_t_output : Nat) (i_t_pastMany : Int) (i_t_isSaved : Int) (i_t_thrown : Int) (i_t_inputMany : Int) (i_t_lastError : Int) (i_t_lastOffset : Int) (i_t_error : Int) (i_t_offset : Int) (i_t_nextByte : Int) (i_t_begin : Int) (i_t_value : Int) (i_t_token : Int) (i_t_got : Int) (i_t_orders : Int) (i_t_outputMany : Int) (i_t_w : (Int → Int)) (x1 : Int) (q : Int × Int) (hf : fn_Md_nibbledPlaces i_t_w i_t_thrown x1 = some q) : jk_MI l D jk_cl (jk_ty cI cR) Z mn_Md_nibbledPlaces (.code mn_Md_nibbledPlaces mb_Md_nibbledPlaces 2 (some .int) :: jk_WA) (jk_rm 3 64) [.ref a_t, jk_V x1] (wd_Md_nibbledPlaces cI a_t a_t_w a_t_wKept a_t_saved a_t_past a_t_input a_t_n a_t_order a_t_numbers a_t_output i_t_pastMany i_t_isSaved i_t_thrown i_t_inputMany i_t_lastError i_t_lastOffset i_t_error i_t_offset i_t_nextByte i_t_begin i_t_value i_t_token i_t_got i_t_orders i_t_outputMany i_t_w) (wd_Md_nibbledPlaces cI a_t a_t_w a_t_wKept a_t_saved a_t_past a_t_input a_t_n a_t_order a_t_numbers a_t_output i_t_pastMany i_t_isSaved q.2 i_t_inputMany i_t_lastError i_t_lastOffset i_t_error i_t_offset i_t_nextByte i_t_begin i_t_value i_t_token i_t_got i_t_orders i_t_outputMany i_t_w) q.1 := by
  intro sz
  refine jk_body (by decide +kernel) (fun p e s m args below meth c hsz hz hin C => ?_) (Nat.le_of_ble_eq_true rfl)
  subst hsz
  unfold fn_Md_nibbledPlaces at hf
  refine jk_aload_n C rd_Md_nibbledPlaces_0 (k := 0) rfl ?_
  refine jk_iconst C rd_Md_nibbledPlaces_1 ?_
  refine jk_putf C in_Md ty_Md nm_Md (ci := 11) rfl 6 (by decide) tm_1269 rfl rfl rfl 0 rfl (Nat.le_of_ble_eq_true rfl) rd_Md_nibbledPlaces_2 (ws' := wd_Md_nibbledPlaces cI a_t a_t_w a_t_wKept a_t_saved a_t_past a_t_input a_t_n a_t_order a_t_numbers a_t_output i_t_pastMany i_t_isSaved 0 i_t_inputMany i_t_lastError i_t_lastOffset i_t_error i_t_offset i_t_nextByte i_t_begin i_t_value i_t_token i_t_got i_t_orders i_t_outputMany i_t_w) rfl ?_
  refine jk_aload_n C rd_Md_nibbledPlaces_5 (k := 0) rfl ?_
  refine jk_iload_n C rd_Md_nibbledPlaces_6 (k := 1) rfl ?_
  obtain ⟨q7, hq7, hf⟩ := jk_bind_h hf
  refine jk_callVi C hZ.1 hz (ct_Md_noCord l D Z sq hZ cI cR a_t a_t_w a_t_wKept a_t_saved a_t_past a_t_input a_t_n a_t_order a_t_numbers a_t_output i_t_pastMany i_t_isSaved 0 i_t_inputMany i_t_lastError i_t_lastOffset i_t_error i_t_offset i_t_nextByte i_t_begin i_t_value i_t_token i_t_got i_t_orders i_t_outputMany i_t_w x1 q7 hq7) tm_1639 tm_1641 sl_86 tm_15 tm_1642 na_Md_noCord ⟨Nat.le_of_ble_eq_true rfl, Nat.le_of_ble_eq_true rfl⟩ rfl [0, 1] rfl rfl rfl (ws' := wd_Md_nibbledPlaces cI a_t a_t_w a_t_wKept a_t_saved a_t_past a_t_input a_t_n a_t_order a_t_numbers a_t_output i_t_pastMany i_t_isSaved q7.2 i_t_inputMany i_t_lastError i_t_lastOffset i_t_error i_t_offset i_t_nextByte i_t_begin i_t_value i_t_token i_t_got i_t_orders i_t_outputMany i_t_w) rfl 0 11 rfl rfl rfl (st := []) rfl (Nat.le_of_ble_eq_true rfl) rd_Md_nibbledPlaces_7 ?_ ⟨Nat.le_of_ble_eq_true rfl, Nat.le_of_ble_eq_true rfl⟩
  refine jk_if_eq (tgt := 17) C rd_Md_nibbledPlaces_10 (by decide) hf (fun _ hf => ?_) (fun _ hf => ?_)
  · refine jk_aload_n C rd_Md_nibbledPlaces_17 (k := 0) rfl ?_
    refine jk_iload_n C rd_Md_nibbledPlaces_18 (k := 1) rfl ?_
    refine jk_iconst C rd_Md_nibbledPlaces_19 ?_
    obtain ⟨q20, hq20, hf⟩ := jk_bind_h hf
    refine jk_callVi C hZ.1 hz (ct_Md_of l D Z sq hZ cI cR a_t a_t_w a_t_wKept a_t_saved a_t_past a_t_input a_t_n a_t_order a_t_numbers a_t_output i_t_pastMany i_t_isSaved q7.2 i_t_inputMany i_t_lastError i_t_lastOffset i_t_error i_t_offset i_t_nextByte i_t_begin i_t_value i_t_token i_t_got i_t_orders i_t_outputMany i_t_w x1 4 q20 hq20) tm_1256 tm_1258 sl_26 tm_15 tm_1259 na_Md_of ⟨Nat.le_of_ble_eq_true rfl, Nat.le_of_ble_eq_true rfl⟩ rfl [0, 1] rfl rfl rfl (ws' := wd_Md_nibbledPlaces cI a_t a_t_w a_t_wKept a_t_saved a_t_past a_t_input a_t_n a_t_order a_t_numbers a_t_output i_t_pastMany i_t_isSaved q7.2 i_t_inputMany i_t_lastError i_t_lastOffset i_t_error i_t_offset i_t_nextByte i_t_begin i_t_value i_t_token i_t_got i_t_orders i_t_outputMany i_t_w) rfl 0 11 rfl rfl rfl (st := []) rfl (Nat.le_of_ble_eq_true rfl) rd_Md_nibbledPlaces_20 ?_ ⟨Nat.le_of_ble_eq_true rfl, Nat.le_of_ble_eq_true rfl⟩
    cases hf
    exact jk_iret C rfl rd_Md_nibbledPlaces_23 rfl
  · refine jk_iconst C rd_Md_nibbledPlaces_13 ?_
    refine jk_goto (tgt := 23) C rd_Md_nibbledPlaces_14 (by decide) ?_
    cases hf
    exact jk_iret C rfl rd_Md_nibbledPlaces_23 rfl
