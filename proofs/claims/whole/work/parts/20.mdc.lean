theorem rd_Md_isCluster_0 : decode mb_Md_isCluster 0 = .ok (.iload_n 1, 1) := by decide +kernel
theorem rd_Md_isCluster_1 : decode mb_Md_isCluster 1 = .ok (.iconst 0, 1) := by decide +kernel
theorem rd_Md_isCluster_2 : decode mb_Md_isCluster 2 = .ok (.aload_n 0, 1) := by decide +kernel
theorem rd_Md_isCluster_3 : decode mb_Md_isCluster 3 = .ok (.getfield 7, 3) := by decide +kernel
theorem rd_Md_isCluster_6 : decode mb_Md_isCluster 6 = .ok (.iconst 1, 1) := by decide +kernel
theorem rd_Md_isCluster_7 : decode mb_Md_isCluster 7 = .ok (.iaload, 1) := by decide +kernel
theorem rd_Md_isCluster_8 : decode mb_Md_isCluster 8 = .ok (.iconst 1, 1) := by decide +kernel
theorem rd_Md_isCluster_9 : decode mb_Md_isCluster 9 = .ok (.isub, 1) := by decide +kernel
theorem rd_Md_isCluster_10 : decode mb_Md_isCluster 10 = .ok (.invokestatic 115, 3) := by decide +kernel
theorem rd_Md_isCluster_13 : decode mb_Md_isCluster 13 = .ok (.ireturn, 1) := by decide +kernel
theorem rd_Md_isCord_0 : decode mb_Md_isCord 0 = .ok (.iload_n 1, 1) := by decide +kernel
theorem rd_Md_isCord_1 : decode mb_Md_isCord 1 = .ok (.iconst 0, 1) := by decide +kernel
theorem rd_Md_isCord_2 : decode mb_Md_isCord 2 = .ok (.aload_n 0, 1) := by decide +kernel
theorem rd_Md_isCord_3 : decode mb_Md_isCord 3 = .ok (.getfield 7, 3) := by decide +kernel
theorem rd_Md_isCord_6 : decode mb_Md_isCord 6 = .ok (.iconst 2, 1) := by decide +kernel
theorem rd_Md_isCord_7 : decode mb_Md_isCord 7 = .ok (.iaload, 1) := by decide +kernel
theorem rd_Md_isCord_8 : decode mb_Md_isCord 8 = .ok (.iconst 1, 1) := by decide +kernel
theorem rd_Md_isCord_9 : decode mb_Md_isCord 9 = .ok (.isub, 1) := by decide +kernel
theorem rd_Md_isCord_10 : decode mb_Md_isCord 10 = .ok (.invokestatic 115, 3) := by decide +kernel
theorem rd_Md_isCord_13 : decode mb_Md_isCord 13 = .ok (.ireturn, 1) := by decide +kernel
theorem rd_Md_isTopic_0 : decode mb_Md_isTopic 0 = .ok (.iload_n 1, 1) := by decide +kernel
theorem rd_Md_isTopic_1 : decode mb_Md_isTopic 1 = .ok (.iconst 0, 1) := by decide +kernel
theorem rd_Md_isTopic_2 : decode mb_Md_isTopic 2 = .ok (.aload_n 0, 1) := by decide +kernel
theorem rd_Md_isTopic_3 : decode mb_Md_isTopic 3 = .ok (.getfield 7, 3) := by decide +kernel
theorem rd_Md_isTopic_6 : decode mb_Md_isTopic 6 = .ok (.iconst 0, 1) := by decide +kernel
theorem rd_Md_isTopic_7 : decode mb_Md_isTopic 7 = .ok (.iaload, 1) := by decide +kernel
theorem rd_Md_isTopic_8 : decode mb_Md_isTopic 8 = .ok (.iconst 1, 1) := by decide +kernel
theorem rd_Md_isTopic_9 : decode mb_Md_isTopic 9 = .ok (.isub, 1) := by decide +kernel
theorem rd_Md_isTopic_10 : decode mb_Md_isTopic 10 = .ok (.invokestatic 115, 3) := by decide +kernel
theorem rd_Md_isTopic_13 : decode mb_Md_isTopic 13 = .ok (.ireturn, 1) := by decide +kernel
theorem rd_Md_does_0 : decode mb_Md_does 0 = .ok (.aload_n 0, 1) := by decide +kernel
theorem rd_Md_does_1 : decode mb_Md_does 1 = .ok (.getfield 35, 3) := by decide +kernel
theorem rd_Md_does_4 : decode mb_Md_does 4 = .ok (.iconst 3, 1) := by decide +kernel
theorem rd_Md_does_5 : decode mb_Md_does 5 = .ok (.iload_n 1, 1) := by decide +kernel
theorem rd_Md_does_6 : decode mb_Md_does 6 = .ok (.imul, 1) := by decide +kernel
theorem rd_Md_does_7 : decode mb_Md_does 7 = .ok (.iaload, 1) := by decide +kernel
theorem rd_Md_does_8 : decode mb_Md_does 8 = .ok (.istore_n 2, 1) := by decide +kernel
theorem rd_Md_does_9 : decode mb_Md_does 9 = .ok (.aload_n 0, 1) := by decide +kernel
theorem rd_Md_does_10 : decode mb_Md_does 10 = .ok (.getfield 35, 3) := by decide +kernel
theorem rd_Md_does_13 : decode mb_Md_does 13 = .ok (.iconst 3, 1) := by decide +kernel
theorem rd_Md_does_14 : decode mb_Md_does 14 = .ok (.iload_n 1, 1) := by decide +kernel
theorem rd_Md_does_15 : decode mb_Md_does 15 = .ok (.imul, 1) := by decide +kernel
theorem rd_Md_does_16 : decode mb_Md_does 16 = .ok (.iconst 1, 1) := by decide +kernel
theorem rd_Md_does_17 : decode mb_Md_does 17 = .ok (.iadd, 1) := by decide +kernel
theorem rd_Md_does_18 : decode mb_Md_does 18 = .ok (.iaload, 1) := by decide +kernel
theorem rd_Md_does_19 : decode mb_Md_does 19 = .ok (.istore_n 3, 1) := by decide +kernel
theorem rd_Md_does_20 : decode mb_Md_does 20 = .ok (.aload_n 0, 1) := by decide +kernel
theorem rd_Md_does_21 : decode mb_Md_does 21 = .ok (.getfield 35, 3) := by decide +kernel
theorem rd_Md_does_24 : decode mb_Md_does 24 = .ok (.iconst 3, 1) := by decide +kernel
theorem rd_Md_does_25 : decode mb_Md_does 25 = .ok (.iload_n 1, 1) := by decide +kernel
theorem rd_Md_does_26 : decode mb_Md_does 26 = .ok (.imul, 1) := by decide +kernel
theorem rd_Md_does_27 : decode mb_Md_does 27 = .ok (.iconst 2, 1) := by decide +kernel
theorem rd_Md_does_28 : decode mb_Md_does 28 = .ok (.iadd, 1) := by decide +kernel
theorem rd_Md_does_29 : decode mb_Md_does 29 = .ok (.iaload, 1) := by decide +kernel
theorem rd_Md_does_30 : decode mb_Md_does 30 = .ok (.istore 4, 2) := by decide +kernel
theorem rd_Md_does_32 : decode mb_Md_does 32 = .ok (.aload_n 0, 1) := by decide +kernel
theorem rd_Md_does_33 : decode mb_Md_does 33 = .ok (.getfield 32, 3) := by decide +kernel
theorem rd_Md_does_36 : decode mb_Md_does 36 = .ok (.iload_n 1, 1) := by decide +kernel
theorem rd_Md_does_37 : decode mb_Md_does 37 = .ok (.iaload, 1) := by decide +kernel
theorem rd_Md_does_38 : decode mb_Md_does 38 = .ok (.tableswitch 279 1 8 #[46, 70, 102, 135, 157, 188, 223, 256], 46) := by decide +kernel
theorem rd_Md_does_84 : decode mb_Md_does 84 = .ok (.aload_n 0, 1) := by decide +kernel
theorem rd_Md_does_85 : decode mb_Md_does 85 = .ok (.getfield 7, 3) := by decide +kernel
theorem rd_Md_does_88 : decode mb_Md_does 88 = .ok (.iconst 1, 1) := by decide +kernel
theorem rd_Md_does_89 : decode mb_Md_does 89 = .ok (.iaload, 1) := by decide +kernel
theorem rd_Md_does_90 : decode mb_Md_does 90 = .ok (.bipush 6, 2) := by decide +kernel
theorem rd_Md_does_92 : decode mb_Md_does 92 = .ok (.if_icmp .ge 14, 3) := by decide +kernel
theorem rd_Md_does_95 : decode mb_Md_does 95 = .ok (.aload_n 0, 1) := by decide +kernel
theorem rd_Md_does_96 : decode mb_Md_does 96 = .ok (.invokevirtual 293, 3) := by decide +kernel
theorem rd_Md_does_99 : decode mb_Md_does 99 = .ok (.ifCond .lt 7, 3) := by decide +kernel
theorem rd_Md_does_102 : decode mb_Md_does 102 = .ok (.iconst 1, 1) := by decide +kernel
theorem rd_Md_does_103 : decode mb_Md_does 103 = .ok (.goto 4, 3) := by decide +kernel
theorem rd_Md_does_106 : decode mb_Md_does 106 = .ok (.iconst 0, 1) := by decide +kernel
theorem rd_Md_does_107 : decode mb_Md_does 107 = .ok (.ireturn, 1) := by decide +kernel
theorem rd_Md_does_108 : decode mb_Md_does 108 = .ok (.aload_n 0, 1) := by decide +kernel
theorem rd_Md_does_109 : decode mb_Md_does 109 = .ok (.iload_n 2, 1) := by decide +kernel
theorem rd_Md_does_110 : decode mb_Md_does 110 = .ok (.invokevirtual 296, 3) := by decide +kernel
theorem rd_Md_does_113 : decode mb_Md_does 113 = .ok (.ifCond .eq 25, 3) := by decide +kernel
theorem rd_Md_does_116 : decode mb_Md_does 116 = .ok (.aload_n 0, 1) := by decide +kernel
theorem rd_Md_does_117 : decode mb_Md_does 117 = .ok (.invokevirtual 122, 3) := by decide +kernel
theorem rd_Md_does_120 : decode mb_Md_does 120 = .ok (.ifCond .eq 18, 3) := by decide +kernel
theorem rd_Md_does_123 : decode mb_Md_does 123 = .ok (.aload_n 0, 1) := by decide +kernel
theorem rd_Md_does_124 : decode mb_Md_does 124 = .ok (.iload_n 2, 1) := by decide +kernel
theorem rd_Md_does_125 : decode mb_Md_does 125 = .ok (.iload_n 3, 1) := by decide +kernel
theorem rd_Md_does_126 : decode mb_Md_does 126 = .ok (.iload 4, 2) := by decide +kernel
theorem rd_Md_does_128 : decode mb_Md_does 128 = .ok (.invokevirtual 299, 3) := by decide +kernel
theorem rd_Md_does_131 : decode mb_Md_does 131 = .ok (.ifCond .lt 7, 3) := by decide +kernel
theorem rd_Md_does_134 : decode mb_Md_does 134 = .ok (.iconst 1, 1) := by decide +kernel
theorem rd_Md_does_135 : decode mb_Md_does 135 = .ok (.goto 4, 3) := by decide +kernel
theorem rd_Md_does_138 : decode mb_Md_does 138 = .ok (.iconst 0, 1) := by decide +kernel
theorem rd_Md_does_139 : decode mb_Md_does 139 = .ok (.ireturn, 1) := by decide +kernel
theorem rd_Md_does_140 : decode mb_Md_does 140 = .ok (.aload_n 0, 1) := by decide +kernel
theorem rd_Md_does_141 : decode mb_Md_does 141 = .ok (.iload_n 2, 1) := by decide +kernel
theorem rd_Md_does_142 : decode mb_Md_does 142 = .ok (.invokevirtual 303, 3) := by decide +kernel
theorem rd_Md_does_145 : decode mb_Md_does 145 = .ok (.ifCond .eq 26, 3) := by decide +kernel
theorem rd_Md_does_148 : decode mb_Md_does 148 = .ok (.aload_n 0, 1) := by decide +kernel
theorem rd_Md_does_149 : decode mb_Md_does 149 = .ok (.iload_n 2, 1) := by decide +kernel
theorem rd_Md_does_150 : decode mb_Md_does 150 = .ok (.invokevirtual 306, 3) := by decide +kernel
theorem rd_Md_does_153 : decode mb_Md_does 153 = .ok (.ifCond .eq 18, 3) := by decide +kernel
theorem rd_Md_does_156 : decode mb_Md_does 156 = .ok (.aload_n 0, 1) := by decide +kernel
theorem rd_Md_does_157 : decode mb_Md_does 157 = .ok (.iload_n 2, 1) := by decide +kernel
theorem rd_Md_does_158 : decode mb_Md_does 158 = .ok (.iload_n 3, 1) := by decide +kernel
theorem rd_Md_does_159 : decode mb_Md_does 159 = .ok (.iload 4, 2) := by decide +kernel
theorem rd_Md_does_161 : decode mb_Md_does 161 = .ok (.invokevirtual 309, 3) := by decide +kernel
theorem rd_Md_does_164 : decode mb_Md_does 164 = .ok (.ifCond .lt 7, 3) := by decide +kernel
theorem rd_Md_does_167 : decode mb_Md_does 167 = .ok (.iconst 1, 1) := by decide +kernel
theorem rd_Md_does_168 : decode mb_Md_does 168 = .ok (.goto 4, 3) := by decide +kernel
theorem rd_Md_does_171 : decode mb_Md_does 171 = .ok (.iconst 0, 1) := by decide +kernel
theorem rd_Md_does_172 : decode mb_Md_does 172 = .ok (.ireturn, 1) := by decide +kernel
theorem rd_Md_does_173 : decode mb_Md_does 173 = .ok (.aload_n 0, 1) := by decide +kernel
theorem rd_Md_does_174 : decode mb_Md_does 174 = .ok (.iload_n 2, 1) := by decide +kernel
theorem rd_Md_does_175 : decode mb_Md_does 175 = .ok (.invokevirtual 303, 3) := by decide +kernel
theorem rd_Md_does_178 : decode mb_Md_does 178 = .ok (.ifCond .eq 15, 3) := by decide +kernel
theorem rd_Md_does_181 : decode mb_Md_does 181 = .ok (.aload_n 0, 1) := by decide +kernel
theorem rd_Md_does_182 : decode mb_Md_does 182 = .ok (.iload_n 2, 1) := by decide +kernel
theorem rd_Md_does_183 : decode mb_Md_does 183 = .ok (.invokevirtual 312, 3) := by decide +kernel
theorem rd_Md_does_186 : decode mb_Md_does 186 = .ok (.ifCond .lt 7, 3) := by decide +kernel
theorem rd_Md_does_189 : decode mb_Md_does 189 = .ok (.iconst 1, 1) := by decide +kernel
theorem rd_Md_does_190 : decode mb_Md_does 190 = .ok (.goto 4, 3) := by decide +kernel
theorem rd_Md_does_193 : decode mb_Md_does 193 = .ok (.iconst 0, 1) := by decide +kernel
theorem rd_Md_does_194 : decode mb_Md_does 194 = .ok (.ireturn, 1) := by decide +kernel
theorem rd_Md_does_195 : decode mb_Md_does 195 = .ok (.aload_n 0, 1) := by decide +kernel
theorem rd_Md_does_196 : decode mb_Md_does 196 = .ok (.iload_n 2, 1) := by decide +kernel
theorem rd_Md_does_197 : decode mb_Md_does 197 = .ok (.invokevirtual 296, 3) := by decide +kernel
theorem rd_Md_does_200 : decode mb_Md_does 200 = .ok (.ifCond .eq 24, 3) := by decide +kernel
theorem rd_Md_does_203 : decode mb_Md_does 203 = .ok (.aload_n 0, 1) := by decide +kernel
theorem rd_Md_does_204 : decode mb_Md_does 204 = .ok (.iload_n 2, 1) := by decide +kernel
theorem rd_Md_does_205 : decode mb_Md_does 205 = .ok (.invokevirtual 315, 3) := by decide +kernel
theorem rd_Md_does_208 : decode mb_Md_does 208 = .ok (.ifCond .eq 16, 3) := by decide +kernel
theorem rd_Md_does_211 : decode mb_Md_does 211 = .ok (.aload_n 0, 1) := by decide +kernel
theorem rd_Md_does_212 : decode mb_Md_does 212 = .ok (.iload_n 2, 1) := by decide +kernel
theorem rd_Md_does_213 : decode mb_Md_does 213 = .ok (.iload_n 3, 1) := by decide +kernel
theorem rd_Md_does_214 : decode mb_Md_does 214 = .ok (.invokevirtual 318, 3) := by decide +kernel
theorem rd_Md_does_217 : decode mb_Md_does 217 = .ok (.ifCond .lt 7, 3) := by decide +kernel
theorem rd_Md_does_220 : decode mb_Md_does 220 = .ok (.iconst 1, 1) := by decide +kernel
theorem rd_Md_does_221 : decode mb_Md_does 221 = .ok (.goto 4, 3) := by decide +kernel
theorem rd_Md_does_224 : decode mb_Md_does 224 = .ok (.iconst 0, 1) := by decide +kernel
theorem rd_Md_does_225 : decode mb_Md_does 225 = .ok (.ireturn, 1) := by decide +kernel
theorem rd_Md_does_226 : decode mb_Md_does 226 = .ok (.aload_n 0, 1) := by decide +kernel
theorem rd_Md_does_227 : decode mb_Md_does 227 = .ok (.iload_n 2, 1) := by decide +kernel
theorem rd_Md_does_228 : decode mb_Md_does 228 = .ok (.invokevirtual 303, 3) := by decide +kernel
theorem rd_Md_does_231 : decode mb_Md_does 231 = .ok (.ifCond .eq 28, 3) := by decide +kernel
theorem rd_Md_does_234 : decode mb_Md_does 234 = .ok (.iload_n 3, 1) := by decide +kernel
theorem rd_Md_does_235 : decode mb_Md_does 235 = .ok (.aload_n 0, 1) := by decide +kernel
theorem rd_Md_does_236 : decode mb_Md_does 236 = .ok (.iload_n 2, 1) := by decide +kernel
theorem rd_Md_does_237 : decode mb_Md_does 237 = .ok (.iconst 4, 1) := by decide +kernel
theorem rd_Md_does_238 : decode mb_Md_does 238 = .ok (.invokevirtual 63, 3) := by decide +kernel
theorem rd_Md_does_241 : decode mb_Md_does 241 = .ok (.if_icmp .lt 18, 3) := by decide +kernel
theorem rd_Md_does_244 : decode mb_Md_does 244 = .ok (.aload_n 0, 1) := by decide +kernel
theorem rd_Md_does_245 : decode mb_Md_does 245 = .ok (.iload_n 2, 1) := by decide +kernel
theorem rd_Md_does_246 : decode mb_Md_does 246 = .ok (.iload_n 3, 1) := by decide +kernel
theorem rd_Md_does_247 : decode mb_Md_does 247 = .ok (.iload 4, 2) := by decide +kernel
theorem rd_Md_does_249 : decode mb_Md_does 249 = .ok (.invokevirtual 321, 3) := by decide +kernel
theorem rd_Md_does_252 : decode mb_Md_does 252 = .ok (.ifCond .lt 7, 3) := by decide +kernel
theorem rd_Md_does_255 : decode mb_Md_does 255 = .ok (.iconst 1, 1) := by decide +kernel
theorem rd_Md_does_256 : decode mb_Md_does 256 = .ok (.goto 4, 3) := by decide +kernel
theorem rd_Md_does_259 : decode mb_Md_does 259 = .ok (.iconst 0, 1) := by decide +kernel
theorem rd_Md_does_260 : decode mb_Md_does 260 = .ok (.ireturn, 1) := by decide +kernel
theorem rd_Md_does_261 : decode mb_Md_does 261 = .ok (.aload_n 0, 1) := by decide +kernel
theorem rd_Md_does_262 : decode mb_Md_does 262 = .ok (.iload_n 2, 1) := by decide +kernel
theorem rd_Md_does_263 : decode mb_Md_does 263 = .ok (.invokevirtual 303, 3) := by decide +kernel
theorem rd_Md_does_266 : decode mb_Md_does 266 = .ok (.ifCond .eq 26, 3) := by decide +kernel
theorem rd_Md_does_269 : decode mb_Md_does 269 = .ok (.iload_n 3, 1) := by decide +kernel
theorem rd_Md_does_270 : decode mb_Md_does 270 = .ok (.aload_n 0, 1) := by decide +kernel
theorem rd_Md_does_271 : decode mb_Md_does 271 = .ok (.iload_n 2, 1) := by decide +kernel
theorem rd_Md_does_272 : decode mb_Md_does 272 = .ok (.iconst 4, 1) := by decide +kernel
theorem rd_Md_does_273 : decode mb_Md_does 273 = .ok (.invokevirtual 63, 3) := by decide +kernel
theorem rd_Md_does_276 : decode mb_Md_does 276 = .ok (.if_icmp .lt 16, 3) := by decide +kernel
theorem rd_Md_does_279 : decode mb_Md_does 279 = .ok (.aload_n 0, 1) := by decide +kernel
theorem rd_Md_does_280 : decode mb_Md_does 280 = .ok (.iload_n 2, 1) := by decide +kernel
theorem rd_Md_does_281 : decode mb_Md_does 281 = .ok (.iload_n 3, 1) := by decide +kernel
theorem rd_Md_does_282 : decode mb_Md_does 282 = .ok (.invokevirtual 52, 3) := by decide +kernel
theorem rd_Md_does_285 : decode mb_Md_does 285 = .ok (.ifCond .lt 7, 3) := by decide +kernel
theorem rd_Md_does_288 : decode mb_Md_does 288 = .ok (.iconst 1, 1) := by decide +kernel
theorem rd_Md_does_289 : decode mb_Md_does 289 = .ok (.goto 4, 3) := by decide +kernel
theorem rd_Md_does_292 : decode mb_Md_does 292 = .ok (.iconst 0, 1) := by decide +kernel
theorem rd_Md_does_293 : decode mb_Md_does 293 = .ok (.ireturn, 1) := by decide +kernel
theorem rd_Md_does_294 : decode mb_Md_does 294 = .ok (.aload_n 0, 1) := by decide +kernel
theorem rd_Md_does_295 : decode mb_Md_does 295 = .ok (.iload_n 2, 1) := by decide +kernel
theorem rd_Md_does_296 : decode mb_Md_does 296 = .ok (.invokevirtual 303, 3) := by decide +kernel
theorem rd_Md_does_299 : decode mb_Md_does 299 = .ok (.ifCond .eq 16, 3) := by decide +kernel
theorem rd_Md_does_302 : decode mb_Md_does 302 = .ok (.aload_n 0, 1) := by decide +kernel
theorem rd_Md_does_303 : decode mb_Md_does 303 = .ok (.iload_n 2, 1) := by decide +kernel
theorem rd_Md_does_304 : decode mb_Md_does 304 = .ok (.iload_n 3, 1) := by decide +kernel
theorem rd_Md_does_305 : decode mb_Md_does 305 = .ok (.invokevirtual 324, 3) := by decide +kernel
theorem rd_Md_does_308 : decode mb_Md_does 308 = .ok (.ifCond .lt 7, 3) := by decide +kernel
theorem rd_Md_does_311 : decode mb_Md_does 311 = .ok (.iconst 1, 1) := by decide +kernel
theorem rd_Md_does_312 : decode mb_Md_does 312 = .ok (.goto 4, 3) := by decide +kernel
theorem rd_Md_does_315 : decode mb_Md_does 315 = .ok (.iconst 0, 1) := by decide +kernel
theorem rd_Md_does_316 : decode mb_Md_does 316 = .ok (.ireturn, 1) := by decide +kernel
theorem rd_Md_does_317 : decode mb_Md_does 317 = .ok (.aload_n 0, 1) := by decide +kernel
theorem rd_Md_does_318 : decode mb_Md_does 318 = .ok (.iload_n 2, 1) := by decide +kernel
theorem rd_Md_does_319 : decode mb_Md_does 319 = .ok (.invokevirtual 296, 3) := by decide +kernel
theorem rd_Md_does_322 : decode mb_Md_does 322 = .ok (.ifCond .eq 23, 3) := by decide +kernel
theorem rd_Md_does_325 : decode mb_Md_does 325 = .ok (.aload_n 0, 1) := by decide +kernel
theorem rd_Md_does_326 : decode mb_Md_does 326 = .ok (.iload_n 2, 1) := by decide +kernel
theorem rd_Md_does_327 : decode mb_Md_does 327 = .ok (.invokevirtual 327, 3) := by decide +kernel
theorem rd_Md_does_330 : decode mb_Md_does 330 = .ok (.ifCond .ne 15, 3) := by decide +kernel
theorem rd_Md_does_333 : decode mb_Md_does 333 = .ok (.aload_n 0, 1) := by decide +kernel
theorem rd_Md_does_334 : decode mb_Md_does 334 = .ok (.iload_n 2, 1) := by decide +kernel
theorem rd_Md_does_335 : decode mb_Md_does 335 = .ok (.invokevirtual 330, 3) := by decide +kernel
theorem rd_Md_does_338 : decode mb_Md_does 338 = .ok (.ifCond .lt 7, 3) := by decide +kernel
theorem rd_Md_does_341 : decode mb_Md_does 341 = .ok (.iconst 1, 1) := by decide +kernel
theorem rd_Md_does_342 : decode mb_Md_does 342 = .ok (.goto 4, 3) := by decide +kernel
theorem rd_Md_does_345 : decode mb_Md_does 345 = .ok (.iconst 0, 1) := by decide +kernel
theorem rd_Md_does_346 : decode mb_Md_does 346 = .ok (.ireturn, 1) := by decide +kernel
theorem rd_Md_runScript_0 : decode mb_Md_runScript 0 = .ok (.aload_n 0, 1) := by decide +kernel
theorem rd_Md_runScript_1 : decode mb_Md_runScript 1 = .ok (.iconst 0, 1) := by decide +kernel
theorem rd_Md_runScript_2 : decode mb_Md_runScript 2 = .ok (.putfield 56, 3) := by decide +kernel
theorem rd_Md_runScript_5 : decode mb_Md_runScript 5 = .ok (.aload_n 0, 1) := by decide +kernel
theorem rd_Md_runScript_6 : decode mb_Md_runScript 6 = .ok (.invokevirtual 256, 3) := by decide +kernel
theorem rd_Md_runScript_9 : decode mb_Md_runScript 9 = .ok (.iconst 1, 1) := by decide +kernel
theorem rd_Md_runScript_10 : decode mb_Md_runScript 10 = .ok (.istore_n 1, 1) := by decide +kernel
theorem rd_Md_runScript_11 : decode mb_Md_runScript 11 = .ok (.iload_n 1, 1) := by decide +kernel
theorem rd_Md_runScript_12 : decode mb_Md_runScript 12 = .ok (.ifCond .eq 18, 3) := by decide +kernel
theorem rd_Md_runScript_15 : decode mb_Md_runScript 15 = .ok (.aload_n 0, 1) := by decide +kernel
theorem rd_Md_runScript_16 : decode mb_Md_runScript 16 = .ok (.getfield 158, 3) := by decide +kernel
theorem rd_Md_runScript_19 : decode mb_Md_runScript 19 = .ok (.ifCond .eq 11, 3) := by decide +kernel
theorem rd_Md_runScript_22 : decode mb_Md_runScript 22 = .ok (.aload_n 0, 1) := by decide +kernel
theorem rd_Md_runScript_23 : decode mb_Md_runScript 23 = .ok (.invokevirtual 333, 3) := by decide +kernel
theorem rd_Md_runScript_26 : decode mb_Md_runScript 26 = .ok (.istore_n 1, 1) := by decide +kernel
theorem rd_Md_runScript_27 : decode mb_Md_runScript 27 = .ok (.goto (-16), 3) := by decide +kernel
theorem rd_Md_runScript_30 : decode mb_Md_runScript 30 = .ok (.aload_n 0, 1) := by decide +kernel
theorem rd_Md_runScript_31 : decode mb_Md_runScript 31 = .ok (.invokevirtual 262, 3) := by decide +kernel
theorem rd_Md_runScript_34 : decode mb_Md_runScript 34 = .ok (.iload_n 1, 1) := by decide +kernel
theorem rd_Md_runScript_35 : decode mb_Md_runScript 35 = .ok (.ifCond .ne 5, 3) := by decide +kernel
theorem rd_Md_runScript_38 : decode mb_Md_runScript 38 = .ok (.iconst (-1), 1) := by decide +kernel
theorem rd_Md_runScript_39 : decode mb_Md_runScript 39 = .ok (.ireturn, 1) := by decide +kernel
theorem rd_Md_runScript_40 : decode mb_Md_runScript 40 = .ok (.aload_n 0, 1) := by decide +kernel
theorem rd_Md_runScript_41 : decode mb_Md_runScript 41 = .ok (.invokevirtual 336, 3) := by decide +kernel
theorem rd_Md_runScript_44 : decode mb_Md_runScript 44 = .ok (.iconst 0, 1) := by decide +kernel
theorem rd_Md_runScript_45 : decode mb_Md_runScript 45 = .ok (.istore_n 2, 1) := by decide +kernel
theorem rd_Md_runScript_46 : decode mb_Md_runScript 46 = .ok (.iload_n 2, 1) := by decide +kernel
theorem rd_Md_runScript_47 : decode mb_Md_runScript 47 = .ok (.aload_n 0, 1) := by decide +kernel
theorem rd_Md_runScript_48 : decode mb_Md_runScript 48 = .ok (.getfield 250, 3) := by decide +kernel
theorem rd_Md_runScript_51 : decode mb_Md_runScript 51 = .ok (.if_icmp .ge 17, 3) := by decide +kernel
theorem rd_Md_runScript_54 : decode mb_Md_runScript 54 = .ok (.aload_n 0, 1) := by decide +kernel
theorem rd_Md_runScript_55 : decode mb_Md_runScript 55 = .ok (.iload_n 2, 1) := by decide +kernel
theorem rd_Md_runScript_56 : decode mb_Md_runScript 56 = .ok (.invokevirtual 339, 3) := by decide +kernel
theorem rd_Md_runScript_59 : decode mb_Md_runScript 59 = .ok (.ifCond .eq 9, 3) := by decide +kernel
theorem rd_Md_runScript_62 : decode mb_Md_runScript 62 = .ok (.iinc 2 1, 3) := by decide +kernel
theorem rd_Md_runScript_65 : decode mb_Md_runScript 65 = .ok (.goto (-19), 3) := by decide +kernel
theorem rd_Md_runScript_68 : decode mb_Md_runScript 68 = .ok (.iload_n 2, 1) := by decide +kernel
theorem rd_Md_runScript_69 : decode mb_Md_runScript 69 = .ok (.ireturn, 1) := by decide +kernel
theorem rd_Md_errorCode_0 : decode mb_Md_errorCode 0 = .ok (.aload_n 0, 1) := by decide +kernel
theorem rd_Md_errorCode_1 : decode mb_Md_errorCode 1 = .ok (.iconst 0, 1) := by decide +kernel
theorem rd_Md_errorCode_2 : decode mb_Md_errorCode 2 = .ok (.putfield 56, 3) := by decide +kernel
theorem rd_Md_errorCode_5 : decode mb_Md_errorCode 5 = .ok (.aload_n 0, 1) := by decide +kernel
theorem rd_Md_errorCode_6 : decode mb_Md_errorCode 6 = .ok (.getfield 253, 3) := by decide +kernel
theorem rd_Md_errorCode_9 : decode mb_Md_errorCode 9 = .ok (.ireturn, 1) := by decide +kernel
theorem rd_Md_errorOffset_0 : decode mb_Md_errorOffset 0 = .ok (.aload_n 0, 1) := by decide +kernel
theorem rd_Md_errorOffset_1 : decode mb_Md_errorOffset 1 = .ok (.iconst 0, 1) := by decide +kernel
theorem rd_Md_errorOffset_2 : decode mb_Md_errorOffset 2 = .ok (.putfield 56, 3) := by decide +kernel
theorem rd_Md_errorOffset_5 : decode mb_Md_errorOffset 5 = .ok (.aload_n 0, 1) := by decide +kernel
theorem rd_Md_errorOffset_6 : decode mb_Md_errorOffset 6 = .ok (.getfield 25, 3) := by decide +kernel
theorem rd_Md_errorOffset_9 : decode mb_Md_errorOffset 9 = .ok (.ireturn, 1) := by decide +kernel
theorem rd_Md_topicCount_0 : decode mb_Md_topicCount 0 = .ok (.aload_n 0, 1) := by decide +kernel
theorem rd_Md_topicCount_1 : decode mb_Md_topicCount 1 = .ok (.iconst 0, 1) := by decide +kernel
theorem rd_Md_topicCount_2 : decode mb_Md_topicCount 2 = .ok (.putfield 56, 3) := by decide +kernel
theorem rd_Md_topicCount_5 : decode mb_Md_topicCount 5 = .ok (.aload_n 0, 1) := by decide +kernel
theorem rd_Md_topicCount_6 : decode mb_Md_topicCount 6 = .ok (.getfield 7, 3) := by decide +kernel
theorem rd_Md_topicCount_9 : decode mb_Md_topicCount 9 = .ok (.iconst 0, 1) := by decide +kernel
theorem rd_Md_topicCount_10 : decode mb_Md_topicCount 10 = .ok (.iaload, 1) := by decide +kernel
theorem rd_Md_topicCount_11 : decode mb_Md_topicCount 11 = .ok (.ireturn, 1) := by decide +kernel
theorem rd_Md_clusterCount_0 : decode mb_Md_clusterCount 0 = .ok (.aload_n 0, 1) := by decide +kernel
theorem rd_Md_clusterCount_1 : decode mb_Md_clusterCount 1 = .ok (.iconst 0, 1) := by decide +kernel
theorem rd_Md_clusterCount_2 : decode mb_Md_clusterCount 2 = .ok (.putfield 56, 3) := by decide +kernel
theorem rd_Md_clusterCount_5 : decode mb_Md_clusterCount 5 = .ok (.aload_n 0, 1) := by decide +kernel
theorem rd_Md_clusterCount_6 : decode mb_Md_clusterCount 6 = .ok (.getfield 7, 3) := by decide +kernel
theorem rd_Md_clusterCount_9 : decode mb_Md_clusterCount 9 = .ok (.iconst 1, 1) := by decide +kernel
theorem rd_Md_clusterCount_10 : decode mb_Md_clusterCount 10 = .ok (.iaload, 1) := by decide +kernel
theorem rd_Md_clusterCount_11 : decode mb_Md_clusterCount 11 = .ok (.ireturn, 1) := by decide +kernel
theorem rd_Md_cordCount_0 : decode mb_Md_cordCount 0 = .ok (.aload_n 0, 1) := by decide +kernel
theorem rd_Md_cordCount_1 : decode mb_Md_cordCount 1 = .ok (.iconst 0, 1) := by decide +kernel
theorem rd_Md_cordCount_2 : decode mb_Md_cordCount 2 = .ok (.putfield 56, 3) := by decide +kernel
theorem rd_Md_cordCount_5 : decode mb_Md_cordCount 5 = .ok (.aload_n 0, 1) := by decide +kernel
theorem rd_Md_cordCount_6 : decode mb_Md_cordCount 6 = .ok (.getfield 7, 3) := by decide +kernel
theorem rd_Md_cordCount_9 : decode mb_Md_cordCount 9 = .ok (.iconst 2, 1) := by decide +kernel
theorem rd_Md_cordCount_10 : decode mb_Md_cordCount 10 = .ok (.iaload, 1) := by decide +kernel
theorem rd_Md_cordCount_11 : decode mb_Md_cordCount 11 = .ok (.ireturn, 1) := by decide +kernel
theorem rd_Md_noTopic_0 : decode mb_Md_noTopic 0 = .ok (.aload_n 0, 1) := by decide +kernel
theorem rd_Md_noTopic_1 : decode mb_Md_noTopic 1 = .ok (.aload_n 0, 1) := by decide +kernel
theorem rd_Md_noTopic_2 : decode mb_Md_noTopic 2 = .ok (.iload_n 1, 1) := by decide +kernel
theorem rd_Md_noTopic_3 : decode mb_Md_noTopic 3 = .ok (.invokevirtual 342, 3) := by decide +kernel
theorem rd_Md_noTopic_6 : decode mb_Md_noTopic 6 = .ok (.ifCond .ne 7, 3) := by decide +kernel
theorem rd_Md_noTopic_9 : decode mb_Md_noTopic 9 = .ok (.iconst 1, 1) := by decide +kernel
theorem rd_Md_noTopic_10 : decode mb_Md_noTopic 10 = .ok (.goto 4, 3) := by decide +kernel
theorem rd_Md_noTopic_13 : decode mb_Md_noTopic 13 = .ok (.iconst 0, 1) := by decide +kernel
theorem rd_Md_noTopic_14 : decode mb_Md_noTopic 14 = .ok (.iconst 1, 1) := by decide +kernel
theorem rd_Md_noTopic_15 : decode mb_Md_noTopic 15 = .ok (.invokevirtual 345, 3) := by decide +kernel
theorem rd_Md_noTopic_18 : decode mb_Md_noTopic 18 = .ok (.ireturn, 1) := by decide +kernel
theorem rd_Md_noCluster_0 : decode mb_Md_noCluster 0 = .ok (.aload_n 0, 1) := by decide +kernel
theorem rd_Md_noCluster_1 : decode mb_Md_noCluster 1 = .ok (.aload_n 0, 1) := by decide +kernel
theorem rd_Md_noCluster_2 : decode mb_Md_noCluster 2 = .ok (.iload_n 1, 1) := by decide +kernel
theorem rd_Md_noCluster_3 : decode mb_Md_noCluster 3 = .ok (.invokevirtual 296, 3) := by decide +kernel
theorem rd_Md_noCluster_6 : decode mb_Md_noCluster 6 = .ok (.ifCond .ne 7, 3) := by decide +kernel
theorem rd_Md_noCluster_9 : decode mb_Md_noCluster 9 = .ok (.iconst 1, 1) := by decide +kernel
theorem rd_Md_noCluster_10 : decode mb_Md_noCluster 10 = .ok (.goto 4, 3) := by decide +kernel
theorem rd_Md_noCluster_13 : decode mb_Md_noCluster 13 = .ok (.iconst 0, 1) := by decide +kernel
theorem rd_Md_noCluster_14 : decode mb_Md_noCluster 14 = .ok (.iconst 1, 1) := by decide +kernel
theorem rd_Md_noCluster_15 : decode mb_Md_noCluster 15 = .ok (.invokevirtual 345, 3) := by decide +kernel
theorem rd_Md_noCluster_18 : decode mb_Md_noCluster 18 = .ok (.ireturn, 1) := by decide +kernel
theorem rd_Md_noCord_0 : decode mb_Md_noCord 0 = .ok (.aload_n 0, 1) := by decide +kernel
theorem rd_Md_noCord_1 : decode mb_Md_noCord 1 = .ok (.aload_n 0, 1) := by decide +kernel
theorem rd_Md_noCord_2 : decode mb_Md_noCord 2 = .ok (.iload_n 1, 1) := by decide +kernel
theorem rd_Md_noCord_3 : decode mb_Md_noCord 3 = .ok (.invokevirtual 303, 3) := by decide +kernel
theorem rd_Md_noCord_6 : decode mb_Md_noCord 6 = .ok (.ifCond .ne 7, 3) := by decide +kernel
theorem rd_Md_noCord_9 : decode mb_Md_noCord 9 = .ok (.iconst 1, 1) := by decide +kernel
theorem rd_Md_noCord_10 : decode mb_Md_noCord 10 = .ok (.goto 4, 3) := by decide +kernel
theorem rd_Md_noCord_13 : decode mb_Md_noCord 13 = .ok (.iconst 0, 1) := by decide +kernel
theorem rd_Md_noCord_14 : decode mb_Md_noCord 14 = .ok (.iconst 1, 1) := by decide +kernel
theorem rd_Md_noCord_15 : decode mb_Md_noCord 15 = .ok (.invokevirtual 345, 3) := by decide +kernel
theorem rd_Md_noCord_18 : decode mb_Md_noCord 18 = .ok (.ireturn, 1) := by decide +kernel
theorem rd_Md_clusterOf_0 : decode mb_Md_clusterOf 0 = .ok (.aload_n 0, 1) := by decide +kernel
theorem rd_Md_clusterOf_1 : decode mb_Md_clusterOf 1 = .ok (.iconst 0, 1) := by decide +kernel
theorem rd_Md_clusterOf_2 : decode mb_Md_clusterOf 2 = .ok (.putfield 56, 3) := by decide +kernel
theorem rd_Md_clusterOf_5 : decode mb_Md_clusterOf 5 = .ok (.aload_n 0, 1) := by decide +kernel
theorem rd_Md_clusterOf_6 : decode mb_Md_clusterOf 6 = .ok (.iload_n 1, 1) := by decide +kernel
theorem rd_Md_clusterOf_7 : decode mb_Md_clusterOf 7 = .ok (.invokevirtual 349, 3) := by decide +kernel
theorem rd_Md_clusterOf_10 : decode mb_Md_clusterOf 10 = .ok (.ifCond .eq 7, 3) := by decide +kernel
theorem rd_Md_clusterOf_13 : decode mb_Md_clusterOf 13 = .ok (.iconst 0, 1) := by decide +kernel
theorem rd_Md_clusterOf_14 : decode mb_Md_clusterOf 14 = .ok (.goto 9, 3) := by decide +kernel
theorem rd_Md_clusterOf_17 : decode mb_Md_clusterOf 17 = .ok (.aload_n 0, 1) := by decide +kernel
theorem rd_Md_clusterOf_18 : decode mb_Md_clusterOf 18 = .ok (.iload_n 1, 1) := by decide +kernel
theorem rd_Md_clusterOf_19 : decode mb_Md_clusterOf 19 = .ok (.iconst 0, 1) := by decide +kernel
theorem rd_Md_clusterOf_20 : decode mb_Md_clusterOf 20 = .ok (.invokevirtual 63, 3) := by decide +kernel
theorem rd_Md_clusterOf_23 : decode mb_Md_clusterOf 23 = .ok (.ireturn, 1) := by decide +kernel
theorem rd_Md_depthOf_0 : decode mb_Md_depthOf 0 = .ok (.aload_n 0, 1) := by decide +kernel
theorem rd_Md_depthOf_1 : decode mb_Md_depthOf 1 = .ok (.iconst 0, 1) := by decide +kernel
theorem rd_Md_depthOf_2 : decode mb_Md_depthOf 2 = .ok (.putfield 56, 3) := by decide +kernel
theorem rd_Md_depthOf_5 : decode mb_Md_depthOf 5 = .ok (.aload_n 0, 1) := by decide +kernel
theorem rd_Md_depthOf_6 : decode mb_Md_depthOf 6 = .ok (.iload_n 1, 1) := by decide +kernel
theorem rd_Md_depthOf_7 : decode mb_Md_depthOf 7 = .ok (.invokevirtual 349, 3) := by decide +kernel
theorem rd_Md_depthOf_10 : decode mb_Md_depthOf 10 = .ok (.ifCond .eq 7, 3) := by decide +kernel
theorem rd_Md_depthOf_13 : decode mb_Md_depthOf 13 = .ok (.iconst 0, 1) := by decide +kernel
theorem rd_Md_depthOf_14 : decode mb_Md_depthOf 14 = .ok (.goto 9, 3) := by decide +kernel
theorem rd_Md_depthOf_17 : decode mb_Md_depthOf 17 = .ok (.aload_n 0, 1) := by decide +kernel
theorem rd_Md_depthOf_18 : decode mb_Md_depthOf 18 = .ok (.iload_n 1, 1) := by decide +kernel
theorem rd_Md_depthOf_19 : decode mb_Md_depthOf 19 = .ok (.iconst 1, 1) := by decide +kernel
theorem rd_Md_depthOf_20 : decode mb_Md_depthOf 20 = .ok (.invokevirtual 63, 3) := by decide +kernel
theorem rd_Md_depthOf_23 : decode mb_Md_depthOf 23 = .ok (.ireturn, 1) := by decide +kernel
theorem rd_Md_parentOf_0 : decode mb_Md_parentOf 0 = .ok (.aload_n 0, 1) := by decide +kernel
theorem rd_Md_parentOf_1 : decode mb_Md_parentOf 1 = .ok (.iconst 0, 1) := by decide +kernel
theorem rd_Md_parentOf_2 : decode mb_Md_parentOf 2 = .ok (.putfield 56, 3) := by decide +kernel
theorem rd_Md_parentOf_5 : decode mb_Md_parentOf 5 = .ok (.aload_n 0, 1) := by decide +kernel
theorem rd_Md_parentOf_6 : decode mb_Md_parentOf 6 = .ok (.iload_n 1, 1) := by decide +kernel
theorem rd_Md_parentOf_7 : decode mb_Md_parentOf 7 = .ok (.invokevirtual 349, 3) := by decide +kernel
theorem rd_Md_parentOf_10 : decode mb_Md_parentOf 10 = .ok (.ifCond .eq 7, 3) := by decide +kernel
theorem rd_Md_parentOf_13 : decode mb_Md_parentOf 13 = .ok (.iconst 0, 1) := by decide +kernel
theorem rd_Md_parentOf_14 : decode mb_Md_parentOf 14 = .ok (.goto 8, 3) := by decide +kernel
theorem rd_Md_parentOf_17 : decode mb_Md_parentOf 17 = .ok (.aload_n 0, 1) := by decide +kernel
theorem rd_Md_parentOf_18 : decode mb_Md_parentOf 18 = .ok (.iload_n 1, 1) := by decide +kernel
theorem rd_Md_parentOf_19 : decode mb_Md_parentOf 19 = .ok (.invokevirtual 352, 3) := by decide +kernel
theorem rd_Md_parentOf_22 : decode mb_Md_parentOf 22 = .ok (.ireturn, 1) := by decide +kernel
theorem rd_Md_topicOf_0 : decode mb_Md_topicOf 0 = .ok (.aload_n 0, 1) := by decide +kernel
theorem rd_Md_topicOf_1 : decode mb_Md_topicOf 1 = .ok (.iconst 0, 1) := by decide +kernel
theorem rd_Md_topicOf_2 : decode mb_Md_topicOf 2 = .ok (.putfield 56, 3) := by decide +kernel
theorem rd_Md_topicOf_5 : decode mb_Md_topicOf 5 = .ok (.aload_n 0, 1) := by decide +kernel
theorem rd_Md_topicOf_6 : decode mb_Md_topicOf 6 = .ok (.iload_n 1, 1) := by decide +kernel
theorem rd_Md_topicOf_7 : decode mb_Md_topicOf 7 = .ok (.invokevirtual 349, 3) := by decide +kernel
theorem rd_Md_topicOf_10 : decode mb_Md_topicOf 10 = .ok (.ifCond .eq 7, 3) := by decide +kernel
theorem rd_Md_topicOf_13 : decode mb_Md_topicOf 13 = .ok (.iconst 0, 1) := by decide +kernel
theorem rd_Md_topicOf_14 : decode mb_Md_topicOf 14 = .ok (.goto 9, 3) := by decide +kernel
theorem rd_Md_topicOf_17 : decode mb_Md_topicOf 17 = .ok (.aload_n 0, 1) := by decide +kernel
theorem rd_Md_topicOf_18 : decode mb_Md_topicOf 18 = .ok (.iload_n 1, 1) := by decide +kernel
theorem rd_Md_topicOf_19 : decode mb_Md_topicOf 19 = .ok (.iconst 2, 1) := by decide +kernel
theorem rd_Md_topicOf_20 : decode mb_Md_topicOf 20 = .ok (.invokevirtual 63, 3) := by decide +kernel
theorem rd_Md_topicOf_23 : decode mb_Md_topicOf 23 = .ok (.ireturn, 1) := by decide +kernel
theorem rd_Md_subsidiariesOf_0 : decode mb_Md_subsidiariesOf 0 = .ok (.aload_n 0, 1) := by decide +kernel
theorem rd_Md_subsidiariesOf_1 : decode mb_Md_subsidiariesOf 1 = .ok (.iconst 0, 1) := by decide +kernel
theorem rd_Md_subsidiariesOf_2 : decode mb_Md_subsidiariesOf 2 = .ok (.putfield 56, 3) := by decide +kernel
theorem rd_Md_subsidiariesOf_5 : decode mb_Md_subsidiariesOf 5 = .ok (.aload_n 0, 1) := by decide +kernel
theorem rd_Md_subsidiariesOf_6 : decode mb_Md_subsidiariesOf 6 = .ok (.iload_n 1, 1) := by decide +kernel
theorem rd_Md_subsidiariesOf_7 : decode mb_Md_subsidiariesOf 7 = .ok (.invokevirtual 349, 3) := by decide +kernel
theorem rd_Md_subsidiariesOf_10 : decode mb_Md_subsidiariesOf 10 = .ok (.ifCond .eq 7, 3) := by decide +kernel
theorem rd_Md_subsidiariesOf_13 : decode mb_Md_subsidiariesOf 13 = .ok (.iconst 0, 1) := by decide +kernel
theorem rd_Md_subsidiariesOf_14 : decode mb_Md_subsidiariesOf 14 = .ok (.goto 8, 3) := by decide +kernel
theorem rd_Md_subsidiariesOf_17 : decode mb_Md_subsidiariesOf 17 = .ok (.aload_n 0, 1) := by decide +kernel
theorem rd_Md_subsidiariesOf_18 : decode mb_Md_subsidiariesOf 18 = .ok (.iload_n 1, 1) := by decide +kernel
theorem rd_Md_subsidiariesOf_19 : decode mb_Md_subsidiariesOf 19 = .ok (.invokevirtual 355, 3) := by decide +kernel
theorem rd_Md_subsidiariesOf_22 : decode mb_Md_subsidiariesOf 22 = .ok (.ireturn, 1) := by decide +kernel
theorem rd_Md_nibbledPlaces_0 : decode mb_Md_nibbledPlaces 0 = .ok (.aload_n 0, 1) := by decide +kernel
theorem rd_Md_nibbledPlaces_1 : decode mb_Md_nibbledPlaces 1 = .ok (.iconst 0, 1) := by decide +kernel
theorem rd_Md_nibbledPlaces_2 : decode mb_Md_nibbledPlaces 2 = .ok (.putfield 56, 3) := by decide +kernel
theorem rd_Md_nibbledPlaces_5 : decode mb_Md_nibbledPlaces 5 = .ok (.aload_n 0, 1) := by decide +kernel
theorem rd_Md_nibbledPlaces_6 : decode mb_Md_nibbledPlaces 6 = .ok (.iload_n 1, 1) := by decide +kernel
theorem rd_Md_nibbledPlaces_7 : decode mb_Md_nibbledPlaces 7 = .ok (.invokevirtual 349, 3) := by decide +kernel
theorem rd_Md_nibbledPlaces_10 : decode mb_Md_nibbledPlaces 10 = .ok (.ifCond .eq 7, 3) := by decide +kernel
theorem rd_Md_nibbledPlaces_13 : decode mb_Md_nibbledPlaces 13 = .ok (.iconst 0, 1) := by decide +kernel
theorem rd_Md_nibbledPlaces_14 : decode mb_Md_nibbledPlaces 14 = .ok (.goto 9, 3) := by decide +kernel
theorem rd_Md_nibbledPlaces_17 : decode mb_Md_nibbledPlaces 17 = .ok (.aload_n 0, 1) := by decide +kernel
theorem rd_Md_nibbledPlaces_18 : decode mb_Md_nibbledPlaces 18 = .ok (.iload_n 1, 1) := by decide +kernel
theorem rd_Md_nibbledPlaces_19 : decode mb_Md_nibbledPlaces 19 = .ok (.iconst 4, 1) := by decide +kernel
theorem rd_Md_nibbledPlaces_20 : decode mb_Md_nibbledPlaces 20 = .ok (.invokevirtual 63, 3) := by decide +kernel
theorem rd_Md_nibbledPlaces_23 : decode mb_Md_nibbledPlaces 23 = .ok (.ireturn, 1) := by decide +kernel
theorem rd_Md_knownValue_0 : decode mb_Md_knownValue 0 = .ok (.aload_n 0, 1) := by decide +kernel
theorem rd_Md_knownValue_1 : decode mb_Md_knownValue 1 = .ok (.iconst 0, 1) := by decide +kernel
theorem rd_Md_knownValue_2 : decode mb_Md_knownValue 2 = .ok (.putfield 56, 3) := by decide +kernel
theorem rd_Md_knownValue_5 : decode mb_Md_knownValue 5 = .ok (.aload_n 0, 1) := by decide +kernel
theorem rd_Md_knownValue_6 : decode mb_Md_knownValue 6 = .ok (.iload_n 1, 1) := by decide +kernel
theorem rd_Md_knownValue_7 : decode mb_Md_knownValue 7 = .ok (.invokevirtual 349, 3) := by decide +kernel
theorem rd_Md_knownValue_10 : decode mb_Md_knownValue 10 = .ok (.ifCond .eq 7, 3) := by decide +kernel
theorem rd_Md_knownValue_13 : decode mb_Md_knownValue 13 = .ok (.iconst 0, 1) := by decide +kernel
theorem rd_Md_knownValue_14 : decode mb_Md_knownValue 14 = .ok (.goto 9, 3) := by decide +kernel
theorem rd_Md_knownValue_17 : decode mb_Md_knownValue 17 = .ok (.aload_n 0, 1) := by decide +kernel
theorem rd_Md_knownValue_18 : decode mb_Md_knownValue 18 = .ok (.iload_n 1, 1) := by decide +kernel
theorem rd_Md_knownValue_19 : decode mb_Md_knownValue 19 = .ok (.iconst 3, 1) := by decide +kernel
theorem rd_Md_knownValue_20 : decode mb_Md_knownValue 20 = .ok (.invokevirtual 63, 3) := by decide +kernel
theorem rd_Md_knownValue_23 : decode mb_Md_knownValue 23 = .ok (.ireturn, 1) := by decide +kernel
theorem rd_Md_lowestTotal_0 : decode mb_Md_lowestTotal 0 = .ok (.aload_n 0, 1) := by decide +kernel
theorem rd_Md_lowestTotal_1 : decode mb_Md_lowestTotal 1 = .ok (.iconst 0, 1) := by decide +kernel
theorem rd_Md_lowestTotal_2 : decode mb_Md_lowestTotal 2 = .ok (.putfield 56, 3) := by decide +kernel
theorem rd_Md_lowestTotal_5 : decode mb_Md_lowestTotal 5 = .ok (.aload_n 0, 1) := by decide +kernel
theorem rd_Md_lowestTotal_6 : decode mb_Md_lowestTotal 6 = .ok (.iload_n 1, 1) := by decide +kernel
theorem rd_Md_lowestTotal_7 : decode mb_Md_lowestTotal 7 = .ok (.invokevirtual 349, 3) := by decide +kernel
theorem rd_Md_lowestTotal_10 : decode mb_Md_lowestTotal 10 = .ok (.ifCond .eq 7, 3) := by decide +kernel
theorem rd_Md_lowestTotal_13 : decode mb_Md_lowestTotal 13 = .ok (.iconst 0, 1) := by decide +kernel
theorem rd_Md_lowestTotal_14 : decode mb_Md_lowestTotal 14 = .ok (.goto 8, 3) := by decide +kernel
theorem rd_Md_lowestTotal_17 : decode mb_Md_lowestTotal 17 = .ok (.aload_n 0, 1) := by decide +kernel
theorem rd_Md_lowestTotal_18 : decode mb_Md_lowestTotal 18 = .ok (.iload_n 1, 1) := by decide +kernel
theorem rd_Md_lowestTotal_19 : decode mb_Md_lowestTotal 19 = .ok (.invokevirtual 358, 3) := by decide +kernel
theorem rd_Md_lowestTotal_22 : decode mb_Md_lowestTotal 22 = .ok (.ireturn, 1) := by decide +kernel
theorem rd_Md_highestTotal_0 : decode mb_Md_highestTotal 0 = .ok (.aload_n 0, 1) := by decide +kernel
theorem rd_Md_highestTotal_1 : decode mb_Md_highestTotal 1 = .ok (.iconst 0, 1) := by decide +kernel
theorem rd_Md_highestTotal_2 : decode mb_Md_highestTotal 2 = .ok (.putfield 56, 3) := by decide +kernel
theorem rd_Md_highestTotal_5 : decode mb_Md_highestTotal 5 = .ok (.aload_n 0, 1) := by decide +kernel
theorem rd_Md_highestTotal_6 : decode mb_Md_highestTotal 6 = .ok (.iload_n 1, 1) := by decide +kernel
theorem rd_Md_highestTotal_7 : decode mb_Md_highestTotal 7 = .ok (.invokevirtual 349, 3) := by decide +kernel
theorem rd_Md_highestTotal_10 : decode mb_Md_highestTotal 10 = .ok (.ifCond .eq 7, 3) := by decide +kernel
theorem rd_Md_highestTotal_13 : decode mb_Md_highestTotal 13 = .ok (.iconst 0, 1) := by decide +kernel
theorem rd_Md_highestTotal_14 : decode mb_Md_highestTotal 14 = .ok (.goto 8, 3) := by decide +kernel
theorem rd_Md_highestTotal_17 : decode mb_Md_highestTotal 17 = .ok (.aload_n 0, 1) := by decide +kernel
theorem rd_Md_highestTotal_18 : decode mb_Md_highestTotal 18 = .ok (.iload_n 1, 1) := by decide +kernel
theorem rd_Md_highestTotal_19 : decode mb_Md_highestTotal 19 = .ok (.invokevirtual 361, 3) := by decide +kernel
theorem rd_Md_highestTotal_22 : decode mb_Md_highestTotal 22 = .ok (.ireturn, 1) := by decide +kernel
theorem rd_Md_pendantsIn_0 : decode mb_Md_pendantsIn 0 = .ok (.aload_n 0, 1) := by decide +kernel
theorem rd_Md_pendantsIn_1 : decode mb_Md_pendantsIn 1 = .ok (.iconst 0, 1) := by decide +kernel
theorem rd_Md_pendantsIn_2 : decode mb_Md_pendantsIn 2 = .ok (.putfield 56, 3) := by decide +kernel
theorem rd_Md_pendantsIn_5 : decode mb_Md_pendantsIn 5 = .ok (.aload_n 0, 1) := by decide +kernel
theorem rd_Md_pendantsIn_6 : decode mb_Md_pendantsIn 6 = .ok (.iload_n 1, 1) := by decide +kernel
theorem rd_Md_pendantsIn_7 : decode mb_Md_pendantsIn 7 = .ok (.invokevirtual 364, 3) := by decide +kernel
theorem rd_Md_pendantsIn_10 : decode mb_Md_pendantsIn 10 = .ok (.ifCond .eq 7, 3) := by decide +kernel
theorem rd_Md_pendantsIn_13 : decode mb_Md_pendantsIn 13 = .ok (.iconst 0, 1) := by decide +kernel
theorem rd_Md_pendantsIn_14 : decode mb_Md_pendantsIn 14 = .ok (.goto 8, 3) := by decide +kernel
theorem rd_Md_pendantsIn_17 : decode mb_Md_pendantsIn 17 = .ok (.aload_n 0, 1) := by decide +kernel
theorem rd_Md_pendantsIn_18 : decode mb_Md_pendantsIn 18 = .ok (.iload_n 1, 1) := by decide +kernel
theorem rd_Md_pendantsIn_19 : decode mb_Md_pendantsIn 19 = .ok (.invokevirtual 129, 3) := by decide +kernel
theorem rd_Md_pendantsIn_22 : decode mb_Md_pendantsIn 22 = .ok (.ireturn, 1) := by decide +kernel
theorem rd_Md_cordsIn_0 : decode mb_Md_cordsIn 0 = .ok (.aload_n 0, 1) := by decide +kernel
theorem rd_Md_cordsIn_1 : decode mb_Md_cordsIn 1 = .ok (.iconst 0, 1) := by decide +kernel
theorem rd_Md_cordsIn_2 : decode mb_Md_cordsIn 2 = .ok (.putfield 56, 3) := by decide +kernel
theorem rd_Md_cordsIn_5 : decode mb_Md_cordsIn 5 = .ok (.aload_n 0, 1) := by decide +kernel
theorem rd_Md_cordsIn_6 : decode mb_Md_cordsIn 6 = .ok (.iload_n 1, 1) := by decide +kernel
theorem rd_Md_cordsIn_7 : decode mb_Md_cordsIn 7 = .ok (.invokevirtual 364, 3) := by decide +kernel
theorem rd_Md_cordsIn_10 : decode mb_Md_cordsIn 10 = .ok (.ifCond .eq 7, 3) := by decide +kernel
theorem rd_Md_cordsIn_13 : decode mb_Md_cordsIn 13 = .ok (.iconst 0, 1) := by decide +kernel
theorem rd_Md_cordsIn_14 : decode mb_Md_cordsIn 14 = .ok (.goto 14, 3) := by decide +kernel
theorem rd_Md_cordsIn_17 : decode mb_Md_cordsIn 17 = .ok (.aload_n 0, 1) := by decide +kernel
theorem rd_Md_cordsIn_18 : decode mb_Md_cordsIn 18 = .ok (.iload_n 1, 1) := by decide +kernel
theorem rd_Md_cordsIn_19 : decode mb_Md_cordsIn 19 = .ok (.invokevirtual 94, 3) := by decide +kernel
theorem rd_Md_cordsIn_22 : decode mb_Md_cordsIn 22 = .ok (.aload_n 0, 1) := by decide +kernel
theorem rd_Md_cordsIn_23 : decode mb_Md_cordsIn 23 = .ok (.iload_n 1, 1) := by decide +kernel
theorem rd_Md_cordsIn_24 : decode mb_Md_cordsIn 24 = .ok (.invokevirtual 91, 3) := by decide +kernel
theorem rd_Md_cordsIn_27 : decode mb_Md_cordsIn 27 = .ok (.isub, 1) := by decide +kernel
theorem rd_Md_cordsIn_28 : decode mb_Md_cordsIn 28 = .ok (.ireturn, 1) := by decide +kernel
theorem rd_Md_topOf_0 : decode mb_Md_topOf 0 = .ok (.aload_n 0, 1) := by decide +kernel
theorem rd_Md_topOf_1 : decode mb_Md_topOf 1 = .ok (.iconst 0, 1) := by decide +kernel
theorem rd_Md_topOf_2 : decode mb_Md_topOf 2 = .ok (.putfield 56, 3) := by decide +kernel
theorem rd_Md_topOf_5 : decode mb_Md_topOf 5 = .ok (.aload_n 0, 1) := by decide +kernel
theorem rd_Md_topOf_6 : decode mb_Md_topOf 6 = .ok (.iload_n 1, 1) := by decide +kernel
theorem rd_Md_topOf_7 : decode mb_Md_topOf 7 = .ok (.invokevirtual 364, 3) := by decide +kernel
theorem rd_Md_topOf_10 : decode mb_Md_topOf 10 = .ok (.ifCond .eq 7, 3) := by decide +kernel
theorem rd_Md_topOf_13 : decode mb_Md_topOf 13 = .ok (.iconst 0, 1) := by decide +kernel
theorem rd_Md_topOf_14 : decode mb_Md_topOf 14 = .ok (.goto 20, 3) := by decide +kernel
theorem rd_Md_topOf_17 : decode mb_Md_topOf 17 = .ok (.aload_n 0, 1) := by decide +kernel
theorem rd_Md_topOf_18 : decode mb_Md_topOf 18 = .ok (.iload_n 1, 1) := by decide +kernel
theorem rd_Md_topOf_19 : decode mb_Md_topOf 19 = .ok (.invokevirtual 97, 3) := by decide +kernel
theorem rd_Md_topOf_22 : decode mb_Md_topOf 22 = .ok (.ifCond .eq 11, 3) := by decide +kernel
theorem rd_Md_topOf_25 : decode mb_Md_topOf 25 = .ok (.aload_n 0, 1) := by decide +kernel
theorem rd_Md_topOf_26 : decode mb_Md_topOf 26 = .ok (.iload_n 1, 1) := by decide +kernel
theorem rd_Md_topOf_27 : decode mb_Md_topOf 27 = .ok (.invokevirtual 91, 3) := by decide +kernel
theorem rd_Md_topOf_30 : decode mb_Md_topOf 30 = .ok (.goto 4, 3) := by decide +kernel
theorem rd_Md_topOf_33 : decode mb_Md_topOf 33 = .ok (.iconst (-1), 1) := by decide +kernel
theorem rd_Md_topOf_34 : decode mb_Md_topOf 34 = .ok (.ireturn, 1) := by decide +kernel
theorem rd_Md_firstPendant_0 : decode mb_Md_firstPendant 0 = .ok (.aload_n 0, 1) := by decide +kernel
theorem rd_Md_firstPendant_1 : decode mb_Md_firstPendant 1 = .ok (.iconst 0, 1) := by decide +kernel
theorem rd_Md_firstPendant_2 : decode mb_Md_firstPendant 2 = .ok (.putfield 56, 3) := by decide +kernel
theorem rd_Md_firstPendant_5 : decode mb_Md_firstPendant 5 = .ok (.aload_n 0, 1) := by decide +kernel
theorem rd_Md_firstPendant_6 : decode mb_Md_firstPendant 6 = .ok (.iload_n 1, 1) := by decide +kernel
theorem rd_Md_firstPendant_7 : decode mb_Md_firstPendant 7 = .ok (.invokevirtual 364, 3) := by decide +kernel
theorem rd_Md_firstPendant_10 : decode mb_Md_firstPendant 10 = .ok (.ifCond .eq 7, 3) := by decide +kernel
theorem rd_Md_firstPendant_13 : decode mb_Md_firstPendant 13 = .ok (.iconst 0, 1) := by decide +kernel
theorem rd_Md_firstPendant_14 : decode mb_Md_firstPendant 14 = .ok (.goto 20, 3) := by decide +kernel
theorem rd_Md_firstPendant_17 : decode mb_Md_firstPendant 17 = .ok (.aload_n 0, 1) := by decide +kernel
theorem rd_Md_firstPendant_18 : decode mb_Md_firstPendant 18 = .ok (.iload_n 1, 1) := by decide +kernel
theorem rd_Md_firstPendant_19 : decode mb_Md_firstPendant 19 = .ok (.invokevirtual 129, 3) := by decide +kernel
theorem rd_Md_firstPendant_22 : decode mb_Md_firstPendant 22 = .ok (.ifCond .le 11, 3) := by decide +kernel
theorem rd_Md_firstPendant_25 : decode mb_Md_firstPendant 25 = .ok (.aload_n 0, 1) := by decide +kernel
theorem rd_Md_firstPendant_26 : decode mb_Md_firstPendant 26 = .ok (.iload_n 1, 1) := by decide +kernel
theorem rd_Md_firstPendant_27 : decode mb_Md_firstPendant 27 = .ok (.invokevirtual 100, 3) := by decide +kernel
theorem rd_Md_firstPendant_30 : decode mb_Md_firstPendant 30 = .ok (.goto 4, 3) := by decide +kernel
theorem rd_Md_firstPendant_33 : decode mb_Md_firstPendant 33 = .ok (.iconst (-1), 1) := by decide +kernel
theorem rd_Md_firstPendant_34 : decode mb_Md_firstPendant 34 = .ok (.ireturn, 1) := by decide +kernel
theorem rd_Md_stateOf_0 : decode mb_Md_stateOf 0 = .ok (.aload_n 0, 1) := by decide +kernel
theorem rd_Md_stateOf_1 : decode mb_Md_stateOf 1 = .ok (.iconst 0, 1) := by decide +kernel
theorem rd_Md_stateOf_2 : decode mb_Md_stateOf 2 = .ok (.putfield 56, 3) := by decide +kernel
theorem rd_Md_stateOf_5 : decode mb_Md_stateOf 5 = .ok (.aload_n 0, 1) := by decide +kernel
theorem rd_Md_stateOf_6 : decode mb_Md_stateOf 6 = .ok (.iload_n 1, 1) := by decide +kernel
theorem rd_Md_stateOf_7 : decode mb_Md_stateOf 7 = .ok (.invokevirtual 364, 3) := by decide +kernel
theorem rd_Md_stateOf_10 : decode mb_Md_stateOf 10 = .ok (.ifCond .eq 7, 3) := by decide +kernel
theorem rd_Md_stateOf_13 : decode mb_Md_stateOf 13 = .ok (.iconst 0, 1) := by decide +kernel
theorem rd_Md_stateOf_14 : decode mb_Md_stateOf 14 = .ok (.goto 8, 3) := by decide +kernel
theorem rd_Md_stateOf_17 : decode mb_Md_stateOf 17 = .ok (.aload_n 0, 1) := by decide +kernel
theorem rd_Md_stateOf_18 : decode mb_Md_stateOf 18 = .ok (.iload_n 1, 1) := by decide +kernel
theorem rd_Md_stateOf_19 : decode mb_Md_stateOf 19 = .ok (.invokevirtual 367, 3) := by decide +kernel
theorem rd_Md_stateOf_22 : decode mb_Md_stateOf 22 = .ok (.ireturn, 1) := by decide +kernel
theorem rd_Md_guessObstacle_0 : decode mb_Md_guessObstacle 0 = .ok (.aload_n 0, 1) := by decide +kernel
theorem rd_Md_guessObstacle_1 : decode mb_Md_guessObstacle 1 = .ok (.iconst 0, 1) := by decide +kernel
theorem rd_Md_guessObstacle_2 : decode mb_Md_guessObstacle 2 = .ok (.putfield 56, 3) := by decide +kernel
theorem rd_Md_guessObstacle_5 : decode mb_Md_guessObstacle 5 = .ok (.aload_n 0, 1) := by decide +kernel
theorem rd_Md_guessObstacle_6 : decode mb_Md_guessObstacle 6 = .ok (.iload_n 1, 1) := by decide +kernel
theorem rd_Md_guessObstacle_7 : decode mb_Md_guessObstacle 7 = .ok (.invokevirtual 364, 3) := by decide +kernel
theorem rd_Md_guessObstacle_10 : decode mb_Md_guessObstacle 10 = .ok (.ifCond .eq 7, 3) := by decide +kernel
theorem rd_Md_guessObstacle_13 : decode mb_Md_guessObstacle 13 = .ok (.iconst 0, 1) := by decide +kernel
theorem rd_Md_guessObstacle_14 : decode mb_Md_guessObstacle 14 = .ok (.goto 8, 3) := by decide +kernel
theorem rd_Md_guessObstacle_17 : decode mb_Md_guessObstacle 17 = .ok (.aload_n 0, 1) := by decide +kernel
theorem rd_Md_guessObstacle_18 : decode mb_Md_guessObstacle 18 = .ok (.iload_n 1, 1) := by decide +kernel
theorem rd_Md_guessObstacle_19 : decode mb_Md_guessObstacle 19 = .ok (.invokevirtual 327, 3) := by decide +kernel
theorem rd_Md_guessObstacle_22 : decode mb_Md_guessObstacle 22 = .ok (.ireturn, 1) := by decide +kernel
theorem rd_Md_nibbledCord_0 : decode mb_Md_nibbledCord 0 = .ok (.aload_n 0, 1) := by decide +kernel
theorem rd_Md_nibbledCord_1 : decode mb_Md_nibbledCord 1 = .ok (.iconst 0, 1) := by decide +kernel
theorem rd_Md_nibbledCord_2 : decode mb_Md_nibbledCord 2 = .ok (.putfield 56, 3) := by decide +kernel
theorem rd_Md_nibbledCord_5 : decode mb_Md_nibbledCord 5 = .ok (.aload_n 0, 1) := by decide +kernel
theorem rd_Md_nibbledCord_6 : decode mb_Md_nibbledCord 6 = .ok (.iload_n 1, 1) := by decide +kernel
theorem rd_Md_nibbledCord_7 : decode mb_Md_nibbledCord 7 = .ok (.invokevirtual 364, 3) := by decide +kernel
theorem rd_Md_nibbledCord_10 : decode mb_Md_nibbledCord 10 = .ok (.ifCond .eq 7, 3) := by decide +kernel
theorem rd_Md_nibbledCord_13 : decode mb_Md_nibbledCord 13 = .ok (.iconst 0, 1) := by decide +kernel
theorem rd_Md_nibbledCord_14 : decode mb_Md_nibbledCord 14 = .ok (.goto 8, 3) := by decide +kernel
theorem rd_Md_nibbledCord_17 : decode mb_Md_nibbledCord 17 = .ok (.aload_n 0, 1) := by decide +kernel
theorem rd_Md_nibbledCord_18 : decode mb_Md_nibbledCord 18 = .ok (.iload_n 1, 1) := by decide +kernel
theorem rd_Md_nibbledCord_19 : decode mb_Md_nibbledCord 19 = .ok (.invokevirtual 109, 3) := by decide +kernel
theorem rd_Md_nibbledCord_22 : decode mb_Md_nibbledCord 22 = .ok (.ireturn, 1) := by decide +kernel
theorem rd_Md_knotCount_0 : decode mb_Md_knotCount 0 = .ok (.aload_n 0, 1) := by decide +kernel
theorem rd_Md_knotCount_1 : decode mb_Md_knotCount 1 = .ok (.iconst 0, 1) := by decide +kernel
theorem rd_Md_knotCount_2 : decode mb_Md_knotCount 2 = .ok (.putfield 56, 3) := by decide +kernel
theorem rd_Md_knotCount_5 : decode mb_Md_knotCount 5 = .ok (.iconst 0, 1) := by decide +kernel
theorem rd_Md_knotCount_6 : decode mb_Md_knotCount 6 = .ok (.istore_n 1, 1) := by decide +kernel
theorem rd_Md_knotCount_7 : decode mb_Md_knotCount 7 = .ok (.iconst 0, 1) := by decide +kernel
theorem rd_Md_knotCount_8 : decode mb_Md_knotCount 8 = .ok (.istore_n 2, 1) := by decide +kernel
theorem rd_Md_knotCount_9 : decode mb_Md_knotCount 9 = .ok (.iload_n 2, 1) := by decide +kernel
theorem rd_Md_knotCount_10 : decode mb_Md_knotCount 10 = .ok (.aload_n 0, 1) := by decide +kernel
theorem rd_Md_knotCount_11 : decode mb_Md_knotCount 11 = .ok (.getfield 7, 3) := by decide +kernel
theorem rd_Md_knotCount_14 : decode mb_Md_knotCount 14 = .ok (.iconst 2, 1) := by decide +kernel
theorem rd_Md_knotCount_15 : decode mb_Md_knotCount 15 = .ok (.iaload, 1) := by decide +kernel
theorem rd_Md_knotCount_16 : decode mb_Md_knotCount 16 = .ok (.if_icmp .ge 17, 3) := by decide +kernel
theorem rd_Md_knotCount_19 : decode mb_Md_knotCount 19 = .ok (.iload_n 1, 1) := by decide +kernel
theorem rd_Md_knotCount_20 : decode mb_Md_knotCount 20 = .ok (.aload_n 0, 1) := by decide +kernel
theorem rd_Md_knotCount_21 : decode mb_Md_knotCount 21 = .ok (.iload_n 2, 1) := by decide +kernel
theorem rd_Md_knotCount_22 : decode mb_Md_knotCount 22 = .ok (.invokevirtual 73, 3) := by decide +kernel
theorem rd_Md_knotCount_25 : decode mb_Md_knotCount 25 = .ok (.iadd, 1) := by decide +kernel
theorem rd_Md_knotCount_26 : decode mb_Md_knotCount 26 = .ok (.istore_n 1, 1) := by decide +kernel
theorem rd_Md_knotCount_27 : decode mb_Md_knotCount 27 = .ok (.iinc 2 1, 3) := by decide +kernel
theorem rd_Md_knotCount_30 : decode mb_Md_knotCount 30 = .ok (.goto (-21), 3) := by decide +kernel
theorem rd_Md_knotCount_33 : decode mb_Md_knotCount 33 = .ok (.iload_n 1, 1) := by decide +kernel
theorem rd_Md_knotCount_34 : decode mb_Md_knotCount 34 = .ok (.ireturn, 1) := by decide +kernel
theorem rd_Md_nibbled_0 : decode mb_Md_nibbled 0 = .ok (.iconst 0, 1) := by decide +kernel
theorem rd_Md_nibbled_1 : decode mb_Md_nibbled 1 = .ok (.istore_n 1, 1) := by decide +kernel
theorem rd_Md_nibbled_2 : decode mb_Md_nibbled 2 = .ok (.iconst 0, 1) := by decide +kernel
theorem rd_Md_nibbled_3 : decode mb_Md_nibbled 3 = .ok (.istore_n 2, 1) := by decide +kernel
theorem rd_Md_nibbled_4 : decode mb_Md_nibbled 4 = .ok (.iload_n 2, 1) := by decide +kernel
theorem rd_Md_nibbled_5 : decode mb_Md_nibbled 5 = .ok (.aload_n 0, 1) := by decide +kernel
theorem rd_Md_nibbled_6 : decode mb_Md_nibbled 6 = .ok (.getfield 7, 3) := by decide +kernel
theorem rd_Md_nibbled_9 : decode mb_Md_nibbled 9 = .ok (.iconst 2, 1) := by decide +kernel
theorem rd_Md_nibbled_10 : decode mb_Md_nibbled 10 = .ok (.iaload, 1) := by decide +kernel
theorem rd_Md_nibbled_11 : decode mb_Md_nibbled 11 = .ok (.if_icmp .ge 20, 3) := by decide +kernel
theorem rd_Md_nibbled_14 : decode mb_Md_nibbled 14 = .ok (.iload_n 1, 1) := by decide +kernel
theorem rd_Md_nibbled_15 : decode mb_Md_nibbled 15 = .ok (.aload_n 0, 1) := by decide +kernel
theorem rd_Md_nibbled_16 : decode mb_Md_nibbled 16 = .ok (.iload_n 2, 1) := by decide +kernel
theorem rd_Md_nibbled_17 : decode mb_Md_nibbled 17 = .ok (.invokevirtual 83, 3) := by decide +kernel
theorem rd_Md_nibbled_20 : decode mb_Md_nibbled 20 = .ok (.invokestatic 79, 3) := by decide +kernel
theorem rd_Md_nibbled_23 : decode mb_Md_nibbled 23 = .ok (.iadd, 1) := by decide +kernel
theorem rd_Md_nibbled_24 : decode mb_Md_nibbled 24 = .ok (.istore_n 1, 1) := by decide +kernel
theorem rd_Md_nibbled_25 : decode mb_Md_nibbled 25 = .ok (.iinc 2 1, 3) := by decide +kernel
theorem rd_Md_nibbled_28 : decode mb_Md_nibbled 28 = .ok (.goto (-24), 3) := by decide +kernel
theorem rd_Md_nibbled_31 : decode mb_Md_nibbled 31 = .ok (.iload_n 1, 1) := by decide +kernel
theorem rd_Md_nibbled_32 : decode mb_Md_nibbled 32 = .ok (.ireturn, 1) := by decide +kernel
theorem rd_Md_nibbledCount_0 : decode mb_Md_nibbledCount 0 = .ok (.aload_n 0, 1) := by decide +kernel
theorem rd_Md_nibbledCount_1 : decode mb_Md_nibbledCount 1 = .ok (.iconst 0, 1) := by decide +kernel
theorem rd_Md_nibbledCount_2 : decode mb_Md_nibbledCount 2 = .ok (.putfield 56, 3) := by decide +kernel
theorem rd_Md_nibbledCount_5 : decode mb_Md_nibbledCount 5 = .ok (.aload_n 0, 1) := by decide +kernel
theorem rd_Md_nibbledCount_6 : decode mb_Md_nibbledCount 6 = .ok (.invokevirtual 370, 3) := by decide +kernel
theorem rd_Md_nibbledCount_9 : decode mb_Md_nibbledCount 9 = .ok (.ireturn, 1) := by decide +kernel
theorem rd_Md_matchingCount_0 : decode mb_Md_matchingCount 0 = .ok (.aload_n 0, 1) := by decide +kernel
theorem rd_Md_matchingCount_1 : decode mb_Md_matchingCount 1 = .ok (.iconst 0, 1) := by decide +kernel
theorem rd_Md_matchingCount_2 : decode mb_Md_matchingCount 2 = .ok (.putfield 56, 3) := by decide +kernel
theorem rd_Md_matchingCount_5 : decode mb_Md_matchingCount 5 = .ok (.iconst 0, 1) := by decide +kernel
theorem rd_Md_matchingCount_6 : decode mb_Md_matchingCount 6 = .ok (.istore_n 1, 1) := by decide +kernel
theorem rd_Md_matchingCount_7 : decode mb_Md_matchingCount 7 = .ok (.iconst 0, 1) := by decide +kernel
theorem rd_Md_matchingCount_8 : decode mb_Md_matchingCount 8 = .ok (.istore_n 2, 1) := by decide +kernel
theorem rd_Md_matchingCount_9 : decode mb_Md_matchingCount 9 = .ok (.iload_n 2, 1) := by decide +kernel
theorem rd_Md_matchingCount_10 : decode mb_Md_matchingCount 10 = .ok (.aload_n 0, 1) := by decide +kernel
theorem rd_Md_matchingCount_11 : decode mb_Md_matchingCount 11 = .ok (.getfield 7, 3) := by decide +kernel
theorem rd_Md_matchingCount_14 : decode mb_Md_matchingCount 14 = .ok (.iconst 1, 1) := by decide +kernel
theorem rd_Md_matchingCount_15 : decode mb_Md_matchingCount 15 = .ok (.iaload, 1) := by decide +kernel
theorem rd_Md_matchingCount_16 : decode mb_Md_matchingCount 16 = .ok (.if_icmp .ge 29, 3) := by decide +kernel
theorem rd_Md_matchingCount_19 : decode mb_Md_matchingCount 19 = .ok (.iload_n 1, 1) := by decide +kernel
theorem rd_Md_matchingCount_20 : decode mb_Md_matchingCount 20 = .ok (.aload_n 0, 1) := by decide +kernel
theorem rd_Md_matchingCount_21 : decode mb_Md_matchingCount 21 = .ok (.iload_n 2, 1) := by decide +kernel
theorem rd_Md_matchingCount_22 : decode mb_Md_matchingCount 22 = .ok (.invokevirtual 367, 3) := by decide +kernel
theorem rd_Md_matchingCount_25 : decode mb_Md_matchingCount 25 = .ok (.iconst 2, 1) := by decide +kernel
theorem rd_Md_matchingCount_26 : decode mb_Md_matchingCount 26 = .ok (.if_icmp .ne 7, 3) := by decide +kernel
theorem rd_Md_matchingCount_29 : decode mb_Md_matchingCount 29 = .ok (.iconst 1, 1) := by decide +kernel
theorem rd_Md_matchingCount_30 : decode mb_Md_matchingCount 30 = .ok (.goto 4, 3) := by decide +kernel
theorem rd_Md_matchingCount_33 : decode mb_Md_matchingCount 33 = .ok (.iconst 0, 1) := by decide +kernel
theorem rd_Md_matchingCount_34 : decode mb_Md_matchingCount 34 = .ok (.invokestatic 79, 3) := by decide +kernel
theorem rd_Md_matchingCount_37 : decode mb_Md_matchingCount 37 = .ok (.iadd, 1) := by decide +kernel
theorem rd_Md_matchingCount_38 : decode mb_Md_matchingCount 38 = .ok (.istore_n 1, 1) := by decide +kernel
theorem rd_Md_matchingCount_39 : decode mb_Md_matchingCount 39 = .ok (.iinc 2 1, 3) := by decide +kernel
theorem rd_Md_matchingCount_42 : decode mb_Md_matchingCount 42 = .ok (.goto (-33), 3) := by decide +kernel
theorem rd_Md_matchingCount_45 : decode mb_Md_matchingCount 45 = .ok (.iload_n 1, 1) := by decide +kernel
theorem rd_Md_matchingCount_46 : decode mb_Md_matchingCount 46 = .ok (.ireturn, 1) := by decide +kernel
theorem rd_Md_topicByte_0 : decode mb_Md_topicByte 0 = .ok (.aload_n 0, 1) := by decide +kernel
theorem rd_Md_topicByte_1 : decode mb_Md_topicByte 1 = .ok (.iconst 0, 1) := by decide +kernel
theorem rd_Md_topicByte_2 : decode mb_Md_topicByte 2 = .ok (.putfield 56, 3) := by decide +kernel
theorem rd_Md_topicByte_5 : decode mb_Md_topicByte 5 = .ok (.aload_n 0, 1) := by decide +kernel
theorem rd_Md_topicByte_6 : decode mb_Md_topicByte 6 = .ok (.iload_n 1, 1) := by decide +kernel
theorem rd_Md_topicByte_7 : decode mb_Md_topicByte 7 = .ok (.invokevirtual 372, 3) := by decide +kernel
theorem rd_Md_topicByte_10 : decode mb_Md_topicByte 10 = .ok (.ifCond .eq 5, 3) := by decide +kernel
theorem rd_Md_topicByte_13 : decode mb_Md_topicByte 13 = .ok (.iconst 0, 1) := by decide +kernel
theorem rd_Md_topicByte_14 : decode mb_Md_topicByte 14 = .ok (.ireturn, 1) := by decide +kernel
theorem rd_Md_topicByte_15 : decode mb_Md_topicByte 15 = .ok (.iload_n 2, 1) := by decide +kernel
theorem rd_Md_topicByte_16 : decode mb_Md_topicByte 16 = .ok (.iconst 0, 1) := by decide +kernel
theorem rd_Md_topicByte_17 : decode mb_Md_topicByte 17 = .ok (.aload_n 0, 1) := by decide +kernel
theorem rd_Md_topicByte_18 : decode mb_Md_topicByte 18 = .ok (.iload_n 1, 1) := by decide +kernel
theorem rd_Md_topicByte_19 : decode mb_Md_topicByte 19 = .ok (.iconst 0, 1) := by decide +kernel
theorem rd_Md_topicByte_20 : decode mb_Md_topicByte 20 = .ok (.invokevirtual 375, 3) := by decide +kernel
theorem rd_Md_topicByte_23 : decode mb_Md_topicByte 23 = .ok (.iconst 1, 1) := by decide +kernel
theorem rd_Md_topicByte_24 : decode mb_Md_topicByte 24 = .ok (.isub, 1) := by decide +kernel
theorem rd_Md_topicByte_25 : decode mb_Md_topicByte 25 = .ok (.invokestatic 115, 3) := by decide +kernel
theorem rd_Md_topicByte_28 : decode mb_Md_topicByte 28 = .ok (.ifCond .eq 14, 3) := by decide +kernel
theorem rd_Md_topicByte_31 : decode mb_Md_topicByte 31 = .ok (.aload_n 0, 1) := by decide +kernel
theorem rd_Md_topicByte_32 : decode mb_Md_topicByte 32 = .ok (.iload_n 1, 1) := by decide +kernel
theorem rd_Md_topicByte_33 : decode mb_Md_topicByte 33 = .ok (.iconst 1, 1) := by decide +kernel
theorem rd_Md_topicByte_34 : decode mb_Md_topicByte 34 = .ok (.iload_n 2, 1) := by decide +kernel
theorem rd_Md_topicByte_35 : decode mb_Md_topicByte 35 = .ok (.iadd, 1) := by decide +kernel
theorem rd_Md_topicByte_36 : decode mb_Md_topicByte 36 = .ok (.invokevirtual 375, 3) := by decide +kernel
theorem rd_Md_topicByte_39 : decode mb_Md_topicByte 39 = .ok (.goto 4, 3) := by decide +kernel
theorem rd_Md_topicByte_42 : decode mb_Md_topicByte 42 = .ok (.iconst (-1), 1) := by decide +kernel
theorem rd_Md_topicByte_43 : decode mb_Md_topicByte 43 = .ok (.ireturn, 1) := by decide +kernel
theorem rd_Md_knotsAt_0 : decode mb_Md_knotsAt 0 = .ok (.aload_n 0, 1) := by decide +kernel
theorem rd_Md_knotsAt_1 : decode mb_Md_knotsAt 1 = .ok (.iconst 0, 1) := by decide +kernel
theorem rd_Md_knotsAt_2 : decode mb_Md_knotsAt 2 = .ok (.putfield 56, 3) := by decide +kernel
theorem rd_Md_knotsAt_5 : decode mb_Md_knotsAt 5 = .ok (.aload_n 0, 1) := by decide +kernel
theorem rd_Md_knotsAt_6 : decode mb_Md_knotsAt 6 = .ok (.iload_n 1, 1) := by decide +kernel
theorem rd_Md_knotsAt_7 : decode mb_Md_knotsAt 7 = .ok (.invokevirtual 349, 3) := by decide +kernel
theorem rd_Md_knotsAt_10 : decode mb_Md_knotsAt 10 = .ok (.ifCond .ne 25, 3) := by decide +kernel
theorem rd_Md_knotsAt_13 : decode mb_Md_knotsAt 13 = .ok (.aload_n 0, 1) := by decide +kernel
theorem rd_Md_knotsAt_14 : decode mb_Md_knotsAt 14 = .ok (.iload_n 2, 1) := by decide +kernel
theorem rd_Md_knotsAt_15 : decode mb_Md_knotsAt 15 = .ok (.iconst 0, 1) := by decide +kernel
theorem rd_Md_knotsAt_16 : decode mb_Md_knotsAt 16 = .ok (.iconst 3, 1) := by decide +kernel
theorem rd_Md_knotsAt_17 : decode mb_Md_knotsAt 17 = .ok (.invokestatic 115, 3) := by decide +kernel
theorem rd_Md_knotsAt_20 : decode mb_Md_knotsAt 20 = .ok (.ifCond .ne 7, 3) := by decide +kernel
theorem rd_Md_knotsAt_23 : decode mb_Md_knotsAt 23 = .ok (.iconst 1, 1) := by decide +kernel
theorem rd_Md_knotsAt_24 : decode mb_Md_knotsAt 24 = .ok (.goto 4, 3) := by decide +kernel
theorem rd_Md_knotsAt_27 : decode mb_Md_knotsAt 27 = .ok (.iconst 0, 1) := by decide +kernel
theorem rd_Md_knotsAt_28 : decode mb_Md_knotsAt 28 = .ok (.iconst 2, 1) := by decide +kernel
theorem rd_Md_knotsAt_29 : decode mb_Md_knotsAt 29 = .ok (.invokevirtual 345, 3) := by decide +kernel
theorem rd_Md_knotsAt_32 : decode mb_Md_knotsAt 32 = .ok (.ifCond .eq 5, 3) := by decide +kernel
theorem rd_Md_knotsAt_35 : decode mb_Md_knotsAt 35 = .ok (.iconst 0, 1) := by decide +kernel
theorem rd_Md_knotsAt_36 : decode mb_Md_knotsAt 36 = .ok (.ireturn, 1) := by decide +kernel
theorem rd_Md_knotsAt_37 : decode mb_Md_knotsAt 37 = .ok (.iload_n 2, 1) := by decide +kernel
theorem rd_Md_knotsAt_38 : decode mb_Md_knotsAt 38 = .ok (.aload_n 0, 1) := by decide +kernel
theorem rd_Md_knotsAt_39 : decode mb_Md_knotsAt 39 = .ok (.iload_n 1, 1) := by decide +kernel
theorem rd_Md_knotsAt_40 : decode mb_Md_knotsAt 40 = .ok (.iconst 4, 1) := by decide +kernel
theorem rd_Md_knotsAt_41 : decode mb_Md_knotsAt 41 = .ok (.invokevirtual 63, 3) := by decide +kernel
theorem rd_Md_knotsAt_44 : decode mb_Md_knotsAt 44 = .ok (.if_icmp .ge 7, 3) := by decide +kernel
theorem rd_Md_knotsAt_47 : decode mb_Md_knotsAt 47 = .ok (.iconst (-1), 1) := by decide +kernel
theorem rd_Md_knotsAt_48 : decode mb_Md_knotsAt 48 = .ok (.goto 9, 3) := by decide +kernel
theorem rd_Md_knotsAt_51 : decode mb_Md_knotsAt 51 = .ok (.aload_n 0, 1) := by decide +kernel
theorem rd_Md_knotsAt_52 : decode mb_Md_knotsAt 52 = .ok (.iload_n 1, 1) := by decide +kernel
theorem rd_Md_knotsAt_53 : decode mb_Md_knotsAt 53 = .ok (.iload_n 2, 1) := by decide +kernel
theorem rd_Md_knotsAt_54 : decode mb_Md_knotsAt 54 = .ok (.invokevirtual 70, 3) := by decide +kernel
theorem rd_Md_knotsAt_57 : decode mb_Md_knotsAt 57 = .ok (.ireturn, 1) := by decide +kernel
theorem rd_Md_isComplete_0 : decode mb_Md_isComplete 0 = .ok (.aload_n 0, 1) := by decide +kernel
theorem rd_Md_isComplete_1 : decode mb_Md_isComplete 1 = .ok (.iconst 0, 1) := by decide +kernel
theorem rd_Md_isComplete_2 : decode mb_Md_isComplete 2 = .ok (.putfield 56, 3) := by decide +kernel
theorem rd_Md_isComplete_5 : decode mb_Md_isComplete 5 = .ok (.aload_n 0, 1) := by decide +kernel
theorem rd_Md_isComplete_6 : decode mb_Md_isComplete 6 = .ok (.iload_n 1, 1) := by decide +kernel
theorem rd_Md_isComplete_7 : decode mb_Md_isComplete 7 = .ok (.invokevirtual 349, 3) := by decide +kernel
theorem rd_Md_isComplete_10 : decode mb_Md_isComplete 10 = .ok (.ifCond .ne 15, 3) := by decide +kernel
theorem rd_Md_isComplete_13 : decode mb_Md_isComplete 13 = .ok (.aload_n 0, 1) := by decide +kernel
theorem rd_Md_isComplete_14 : decode mb_Md_isComplete 14 = .ok (.iload_n 1, 1) := by decide +kernel
theorem rd_Md_isComplete_15 : decode mb_Md_isComplete 15 = .ok (.invokevirtual 378, 3) := by decide +kernel
theorem rd_Md_isComplete_18 : decode mb_Md_isComplete 18 = .ok (.ifCond .eq 7, 3) := by decide +kernel
theorem rd_Md_isComplete_21 : decode mb_Md_isComplete 21 = .ok (.iconst 1, 1) := by decide +kernel
theorem rd_Md_isComplete_22 : decode mb_Md_isComplete 22 = .ok (.goto 4, 3) := by decide +kernel
theorem rd_Md_isComplete_25 : decode mb_Md_isComplete 25 = .ok (.iconst 0, 1) := by decide +kernel
theorem rd_Md_isComplete_26 : decode mb_Md_isComplete 26 = .ok (.ireturn, 1) := by decide +kernel
theorem rd_Md_totalOf_0 : decode mb_Md_totalOf 0 = .ok (.aload_n 0, 1) := by decide +kernel
theorem rd_Md_totalOf_1 : decode mb_Md_totalOf 1 = .ok (.iconst 0, 1) := by decide +kernel
theorem rd_Md_totalOf_2 : decode mb_Md_totalOf 2 = .ok (.putfield 56, 3) := by decide +kernel
theorem rd_Md_totalOf_5 : decode mb_Md_totalOf 5 = .ok (.aload_n 0, 1) := by decide +kernel
theorem rd_Md_totalOf_6 : decode mb_Md_totalOf 6 = .ok (.iload_n 1, 1) := by decide +kernel
theorem rd_Md_totalOf_7 : decode mb_Md_totalOf 7 = .ok (.invokevirtual 349, 3) := by decide +kernel
theorem rd_Md_totalOf_10 : decode mb_Md_totalOf 10 = .ok (.ifCond .ne 24, 3) := by decide +kernel
theorem rd_Md_totalOf_13 : decode mb_Md_totalOf 13 = .ok (.aload_n 0, 1) := by decide +kernel
theorem rd_Md_totalOf_14 : decode mb_Md_totalOf 14 = .ok (.aload_n 0, 1) := by decide +kernel
theorem rd_Md_totalOf_15 : decode mb_Md_totalOf 15 = .ok (.iload_n 1, 1) := by decide +kernel
theorem rd_Md_totalOf_16 : decode mb_Md_totalOf 16 = .ok (.invokevirtual 378, 3) := by decide +kernel
theorem rd_Md_totalOf_19 : decode mb_Md_totalOf 19 = .ok (.ifCond .ne 7, 3) := by decide +kernel
theorem rd_Md_totalOf_22 : decode mb_Md_totalOf 22 = .ok (.iconst 1, 1) := by decide +kernel
theorem rd_Md_totalOf_23 : decode mb_Md_totalOf 23 = .ok (.goto 4, 3) := by decide +kernel
theorem rd_Md_totalOf_26 : decode mb_Md_totalOf 26 = .ok (.iconst 0, 1) := by decide +kernel
theorem rd_Md_totalOf_27 : decode mb_Md_totalOf 27 = .ok (.iconst 2, 1) := by decide +kernel
theorem rd_Md_totalOf_28 : decode mb_Md_totalOf 28 = .ok (.invokevirtual 345, 3) := by decide +kernel
theorem rd_Md_totalOf_31 : decode mb_Md_totalOf 31 = .ok (.ifCond .eq 5, 3) := by decide +kernel
theorem rd_Md_totalOf_34 : decode mb_Md_totalOf 34 = .ok (.iconst 0, 1) := by decide +kernel
theorem rd_Md_totalOf_35 : decode mb_Md_totalOf 35 = .ok (.ireturn, 1) := by decide +kernel
theorem rd_Md_totalOf_36 : decode mb_Md_totalOf 36 = .ok (.aload_n 0, 1) := by decide +kernel
theorem rd_Md_totalOf_37 : decode mb_Md_totalOf 37 = .ok (.iload_n 1, 1) := by decide +kernel
theorem rd_Md_totalOf_38 : decode mb_Md_totalOf 38 = .ok (.invokevirtual 358, 3) := by decide +kernel
theorem rd_Md_totalOf_41 : decode mb_Md_totalOf 41 = .ok (.ireturn, 1) := by decide +kernel
theorem rd_Md_sumOf_0 : decode mb_Md_sumOf 0 = .ok (.aload_n 0, 1) := by decide +kernel
theorem rd_Md_sumOf_1 : decode mb_Md_sumOf 1 = .ok (.iconst 0, 1) := by decide +kernel
theorem rd_Md_sumOf_2 : decode mb_Md_sumOf 2 = .ok (.putfield 56, 3) := by decide +kernel
theorem rd_Md_sumOf_5 : decode mb_Md_sumOf 5 = .ok (.aload_n 0, 1) := by decide +kernel
theorem rd_Md_sumOf_6 : decode mb_Md_sumOf 6 = .ok (.iload_n 1, 1) := by decide +kernel
theorem rd_Md_sumOf_7 : decode mb_Md_sumOf 7 = .ok (.invokevirtual 364, 3) := by decide +kernel
theorem rd_Md_sumOf_10 : decode mb_Md_sumOf 10 = .ok (.ifCond .ne 33, 3) := by decide +kernel
theorem rd_Md_sumOf_13 : decode mb_Md_sumOf 13 = .ok (.aload_n 0, 1) := by decide +kernel
theorem rd_Md_sumOf_14 : decode mb_Md_sumOf 14 = .ok (.aload_n 0, 1) := by decide +kernel
theorem rd_Md_sumOf_15 : decode mb_Md_sumOf 15 = .ok (.aload_n 0, 1) := by decide +kernel
theorem rd_Md_sumOf_16 : decode mb_Md_sumOf 16 = .ok (.iload_n 1, 1) := by decide +kernel
theorem rd_Md_sumOf_17 : decode mb_Md_sumOf 17 = .ok (.invokevirtual 100, 3) := by decide +kernel
theorem rd_Md_sumOf_20 : decode mb_Md_sumOf 20 = .ok (.aload_n 0, 1) := by decide +kernel
theorem rd_Md_sumOf_21 : decode mb_Md_sumOf 21 = .ok (.iload_n 1, 1) := by decide +kernel
theorem rd_Md_sumOf_22 : decode mb_Md_sumOf 22 = .ok (.invokevirtual 94, 3) := by decide +kernel
theorem rd_Md_sumOf_25 : decode mb_Md_sumOf 25 = .ok (.invokevirtual 87, 3) := by decide +kernel
theorem rd_Md_sumOf_28 : decode mb_Md_sumOf 28 = .ok (.ifCond .ne 7, 3) := by decide +kernel
theorem rd_Md_sumOf_31 : decode mb_Md_sumOf 31 = .ok (.iconst 1, 1) := by decide +kernel
theorem rd_Md_sumOf_32 : decode mb_Md_sumOf 32 = .ok (.goto 4, 3) := by decide +kernel
theorem rd_Md_sumOf_35 : decode mb_Md_sumOf 35 = .ok (.iconst 0, 1) := by decide +kernel
theorem rd_Md_sumOf_36 : decode mb_Md_sumOf 36 = .ok (.iconst 2, 1) := by decide +kernel
theorem rd_Md_sumOf_37 : decode mb_Md_sumOf 37 = .ok (.invokevirtual 345, 3) := by decide +kernel
theorem rd_Md_sumOf_40 : decode mb_Md_sumOf 40 = .ok (.ifCond .eq 5, 3) := by decide +kernel
theorem rd_Md_sumOf_43 : decode mb_Md_sumOf 43 = .ok (.iconst 0, 1) := by decide +kernel
theorem rd_Md_sumOf_44 : decode mb_Md_sumOf 44 = .ok (.ireturn, 1) := by decide +kernel
theorem rd_Md_sumOf_45 : decode mb_Md_sumOf 45 = .ok (.aload_n 0, 1) := by decide +kernel
theorem rd_Md_sumOf_46 : decode mb_Md_sumOf 46 = .ok (.iload_n 1, 1) := by decide +kernel
theorem rd_Md_sumOf_47 : decode mb_Md_sumOf 47 = .ok (.invokevirtual 106, 3) := by decide +kernel
theorem rd_Md_sumOf_50 : decode mb_Md_sumOf 50 = .ok (.ireturn, 1) := by decide +kernel
theorem rd_Md_guessIn_0 : decode mb_Md_guessIn 0 = .ok (.aload_n 0, 1) := by decide +kernel
theorem rd_Md_guessIn_1 : decode mb_Md_guessIn 1 = .ok (.iconst 0, 1) := by decide +kernel
theorem rd_Md_guessIn_2 : decode mb_Md_guessIn 2 = .ok (.putfield 56, 3) := by decide +kernel
theorem rd_Md_guessIn_5 : decode mb_Md_guessIn 5 = .ok (.aload_n 0, 1) := by decide +kernel
theorem rd_Md_guessIn_6 : decode mb_Md_guessIn 6 = .ok (.iload_n 1, 1) := by decide +kernel
theorem rd_Md_guessIn_7 : decode mb_Md_guessIn 7 = .ok (.invokevirtual 364, 3) := by decide +kernel
theorem rd_Md_guessIn_10 : decode mb_Md_guessIn 10 = .ok (.ifCond .ne 24, 3) := by decide +kernel
theorem rd_Md_guessIn_13 : decode mb_Md_guessIn 13 = .ok (.aload_n 0, 1) := by decide +kernel
theorem rd_Md_guessIn_14 : decode mb_Md_guessIn 14 = .ok (.aload_n 0, 1) := by decide +kernel
theorem rd_Md_guessIn_15 : decode mb_Md_guessIn 15 = .ok (.iload_n 1, 1) := by decide +kernel
theorem rd_Md_guessIn_16 : decode mb_Md_guessIn 16 = .ok (.invokevirtual 327, 3) := by decide +kernel
theorem rd_Md_guessIn_19 : decode mb_Md_guessIn 19 = .ok (.ifCond .eq 7, 3) := by decide +kernel
theorem rd_Md_guessIn_22 : decode mb_Md_guessIn 22 = .ok (.iconst 1, 1) := by decide +kernel
theorem rd_Md_guessIn_23 : decode mb_Md_guessIn 23 = .ok (.goto 4, 3) := by decide +kernel
theorem rd_Md_guessIn_26 : decode mb_Md_guessIn 26 = .ok (.iconst 0, 1) := by decide +kernel
theorem rd_Md_guessIn_27 : decode mb_Md_guessIn 27 = .ok (.iconst 2, 1) := by decide +kernel
theorem rd_Md_guessIn_28 : decode mb_Md_guessIn 28 = .ok (.invokevirtual 345, 3) := by decide +kernel
theorem rd_Md_guessIn_31 : decode mb_Md_guessIn 31 = .ok (.ifCond .eq 5, 3) := by decide +kernel
theorem rd_Md_guessIn_34 : decode mb_Md_guessIn 34 = .ok (.iconst 0, 1) := by decide +kernel
theorem rd_Md_guessIn_35 : decode mb_Md_guessIn 35 = .ok (.ireturn, 1) := by decide +kernel
theorem rd_Md_guessIn_36 : decode mb_Md_guessIn 36 = .ok (.aload_n 0, 1) := by decide +kernel
theorem rd_Md_guessIn_37 : decode mb_Md_guessIn 37 = .ok (.iload_n 1, 1) := by decide +kernel
theorem rd_Md_guessIn_38 : decode mb_Md_guessIn 38 = .ok (.invokevirtual 112, 3) := by decide +kernel
theorem rd_Md_guessIn_41 : decode mb_Md_guessIn 41 = .ok (.ireturn, 1) := by decide +kernel
theorem rd_Md_cordsWith_0 : decode mb_Md_cordsWith 0 = .ok (.iconst 0, 1) := by decide +kernel
theorem rd_Md_cordsWith_1 : decode mb_Md_cordsWith 1 = .ok (.istore_n 2, 1) := by decide +kernel
theorem rd_Md_cordsWith_2 : decode mb_Md_cordsWith 2 = .ok (.iconst 0, 1) := by decide +kernel
theorem rd_Md_cordsWith_3 : decode mb_Md_cordsWith 3 = .ok (.istore_n 3, 1) := by decide +kernel
theorem rd_Md_cordsWith_4 : decode mb_Md_cordsWith 4 = .ok (.iload_n 3, 1) := by decide +kernel
theorem rd_Md_cordsWith_5 : decode mb_Md_cordsWith 5 = .ok (.aload_n 0, 1) := by decide +kernel
theorem rd_Md_cordsWith_6 : decode mb_Md_cordsWith 6 = .ok (.getfield 7, 3) := by decide +kernel
theorem rd_Md_cordsWith_9 : decode mb_Md_cordsWith 9 = .ok (.iconst 2, 1) := by decide +kernel
theorem rd_Md_cordsWith_10 : decode mb_Md_cordsWith 10 = .ok (.iaload, 1) := by decide +kernel
theorem rd_Md_cordsWith_11 : decode mb_Md_cordsWith 11 = .ok (.if_icmp .ge 30, 3) := by decide +kernel
theorem rd_Md_cordsWith_14 : decode mb_Md_cordsWith 14 = .ok (.iload_n 2, 1) := by decide +kernel
theorem rd_Md_cordsWith_15 : decode mb_Md_cordsWith 15 = .ok (.aload_n 0, 1) := by decide +kernel
theorem rd_Md_cordsWith_16 : decode mb_Md_cordsWith 16 = .ok (.iload_n 3, 1) := by decide +kernel
theorem rd_Md_cordsWith_17 : decode mb_Md_cordsWith 17 = .ok (.iconst 2, 1) := by decide +kernel
theorem rd_Md_cordsWith_18 : decode mb_Md_cordsWith 18 = .ok (.invokevirtual 63, 3) := by decide +kernel
theorem rd_Md_cordsWith_21 : decode mb_Md_cordsWith 21 = .ok (.iload_n 1, 1) := by decide +kernel
theorem rd_Md_cordsWith_22 : decode mb_Md_cordsWith 22 = .ok (.if_icmp .ne 7, 3) := by decide +kernel
theorem rd_Md_cordsWith_25 : decode mb_Md_cordsWith 25 = .ok (.iconst 1, 1) := by decide +kernel
theorem rd_Md_cordsWith_26 : decode mb_Md_cordsWith 26 = .ok (.goto 4, 3) := by decide +kernel
theorem rd_Md_cordsWith_29 : decode mb_Md_cordsWith 29 = .ok (.iconst 0, 1) := by decide +kernel
theorem rd_Md_cordsWith_30 : decode mb_Md_cordsWith 30 = .ok (.invokestatic 79, 3) := by decide +kernel
theorem rd_Md_cordsWith_33 : decode mb_Md_cordsWith 33 = .ok (.iadd, 1) := by decide +kernel
theorem rd_Md_cordsWith_34 : decode mb_Md_cordsWith 34 = .ok (.istore_n 2, 1) := by decide +kernel
theorem rd_Md_cordsWith_35 : decode mb_Md_cordsWith 35 = .ok (.iinc 3 1, 3) := by decide +kernel
theorem rd_Md_cordsWith_38 : decode mb_Md_cordsWith 38 = .ok (.goto (-34), 3) := by decide +kernel
theorem rd_Md_cordsWith_41 : decode mb_Md_cordsWith 41 = .ok (.iload_n 2, 1) := by decide +kernel
theorem rd_Md_cordsWith_42 : decode mb_Md_cordsWith 42 = .ok (.ireturn, 1) := by decide +kernel
def wd_Md_isCluster (cI : ClassId) (a_t a_t_w a_t_wKept a_t_saved a_t_past a_t_input a_t_n a_t_order a_t_numbers a_t_output : Nat) (i_t_pastMany : Int) (i_t_isSaved : Int) (i_t_thrown : Int) (i_t_inputMany : Int) (i_t_lastError : Int) (i_t_lastOffset : Int) (i_t_error : Int) (i_t_offset : Int) (i_t_nextByte : Int) (i_t_begin : Int) (i_t_value : Int) (i_t_token : Int) (i_t_got : Int) (i_t_orders : Int) (i_t_outputMany : Int) (i_t_w : (Int → Int)) : va_W := [(a_t, .inr (11, [.ref a_t_w, .ref a_t_wKept, .ref a_t_saved, .ref a_t_past, jk_V i_t_pastMany, jk_V i_t_isSaved, jk_V i_t_thrown, .ref a_t_input, jk_V i_t_inputMany, jk_V i_t_lastError, jk_V i_t_lastOffset, jk_V i_t_error, jk_V i_t_offset, jk_V i_t_nextByte, jk_V i_t_begin, jk_V i_t_value, jk_V i_t_token, jk_V i_t_got, .ref a_t_n, .ref a_t_order, .ref a_t_numbers, jk_V i_t_orders, .ref a_t_output, jk_V i_t_outputMany])), (a_t_w, jk_W cI 259 i_t_w)]
set_option maxHeartbeats 4000000 in
set_option maxRecDepth 20000 in
theorem ct_Md_isCluster (l : Launch) (D : va_G) (Z : (Nat → Prop) → State → Heap → Prop) (sq : Nat → Nat) (hZ : jk_ZK Z sq) (cI cR : ClassId) (a_t a_t_w a_t_wKept a_t_saved a_t_past a_t_input a_t_n a_t_order a_t_numbers a_t_output : Nat) (i_t_pastMany : Int) (i_t_isSaved : Int) (i_t_thrown : Int) (i_t_inputMany : Int) (i_t_lastError : Int) (i_t_lastOffset : Int) (i_t_error : Int) (i_t_offset : Int) (i_t_nextByte : Int) (i_t_begin : Int) (i_t_value : Int) (i_t_token : Int) (i_t_got : Int) (i_t_orders : Int) (i_t_outputMany : Int) (i_t_w : (Int → Int)) (x1 : Int) (q : Int) (hf : fn_Md_isCluster i_t_w x1 = some q) : jk_MI l D jk_cl (jk_ty cI cR) Z mn_Md_isCluster (.code mn_Md_isCluster mb_Md_isCluster 2 (some .boolean) :: jk_WA) (jk_rm 1 22) [.ref a_t, jk_V x1] (wd_Md_isCluster cI a_t a_t_w a_t_wKept a_t_saved a_t_past a_t_input a_t_n a_t_order a_t_numbers a_t_output i_t_pastMany i_t_isSaved i_t_thrown i_t_inputMany i_t_lastError i_t_lastOffset i_t_error i_t_offset i_t_nextByte i_t_begin i_t_value i_t_token i_t_got i_t_orders i_t_outputMany i_t_w) (wd_Md_isCluster cI a_t a_t_w a_t_wKept a_t_saved a_t_past a_t_input a_t_n a_t_order a_t_numbers a_t_output i_t_pastMany i_t_isSaved i_t_thrown i_t_inputMany i_t_lastError i_t_lastOffset i_t_error i_t_offset i_t_nextByte i_t_begin i_t_value i_t_token i_t_got i_t_orders i_t_outputMany i_t_w) q := by
  intro sz
  refine jk_body (by decide +kernel) (fun p e s m args below meth c hsz hz hin C => ?_) (Nat.le_of_ble_eq_true rfl)
  subst hsz
  unfold fn_Md_isCluster at hf
  refine jk_iload_n C rd_Md_isCluster_0 (k := 1) rfl ?_
  refine jk_iconst C rd_Md_isCluster_1 ?_
  refine jk_aload_n C rd_Md_isCluster_2 (k := 0) rfl ?_
  refine jk_get C in_Md (ci := 11) rfl 0 (by decide) tm_1263 0 rfl rfl rd_Md_isCluster_3 ?_
  refine jk_iconst C rd_Md_isCluster_6 ?_
  refine jk_iald C 1 0 rfl rfl (Nat.le_of_ble_eq_true rfl) rd_Md_isCluster_7 hf (fun hf => ?_)
  refine jk_iconst C rd_Md_isCluster_8 ?_
  refine jk_isub C rd_Md_isCluster_9 ?_
  obtain ⟨q10, hq10, hf⟩ := jk_bind_h hf
  refine jk_callSi C hZ.1 hz (ct_Md_inRange l D Z sq hZ cI cR x1 0 ((i_t_w 1) - 1) q10 hq10) tm_1352 tm_1353 tm_15 tm_1354 na_Md_inRange ⟨Nat.le_of_ble_eq_true rfl, Nat.le_of_ble_eq_true rfl⟩ rfl [] rfl rfl rfl (ws' := wd_Md_isCluster cI a_t a_t_w a_t_wKept a_t_saved a_t_past a_t_input a_t_n a_t_order a_t_numbers a_t_output i_t_pastMany i_t_isSaved i_t_thrown i_t_inputMany i_t_lastError i_t_lastOffset i_t_error i_t_offset i_t_nextByte i_t_begin i_t_value i_t_token i_t_got i_t_orders i_t_outputMany i_t_w) rfl (st := []) rfl (Nat.le_of_ble_eq_true rfl) rd_Md_isCluster_10 ?_ ⟨Nat.le_refl _, Nat.le_refl _⟩
  obtain ⟨hbo, hf⟩ := jk_bo_h hf
  cases hf
  exact jk_zret C hbo rfl rd_Md_isCluster_13 rfl
def wd_Md_isCord (cI : ClassId) (a_t a_t_w a_t_wKept a_t_saved a_t_past a_t_input a_t_n a_t_order a_t_numbers a_t_output : Nat) (i_t_pastMany : Int) (i_t_isSaved : Int) (i_t_thrown : Int) (i_t_inputMany : Int) (i_t_lastError : Int) (i_t_lastOffset : Int) (i_t_error : Int) (i_t_offset : Int) (i_t_nextByte : Int) (i_t_begin : Int) (i_t_value : Int) (i_t_token : Int) (i_t_got : Int) (i_t_orders : Int) (i_t_outputMany : Int) (i_t_w : (Int → Int)) : va_W := [(a_t, .inr (11, [.ref a_t_w, .ref a_t_wKept, .ref a_t_saved, .ref a_t_past, jk_V i_t_pastMany, jk_V i_t_isSaved, jk_V i_t_thrown, .ref a_t_input, jk_V i_t_inputMany, jk_V i_t_lastError, jk_V i_t_lastOffset, jk_V i_t_error, jk_V i_t_offset, jk_V i_t_nextByte, jk_V i_t_begin, jk_V i_t_value, jk_V i_t_token, jk_V i_t_got, .ref a_t_n, .ref a_t_order, .ref a_t_numbers, jk_V i_t_orders, .ref a_t_output, jk_V i_t_outputMany])), (a_t_w, jk_W cI 259 i_t_w)]
set_option maxHeartbeats 4000000 in
set_option maxRecDepth 20000 in
theorem ct_Md_isCord (l : Launch) (D : va_G) (Z : (Nat → Prop) → State → Heap → Prop) (sq : Nat → Nat) (hZ : jk_ZK Z sq) (cI cR : ClassId) (a_t a_t_w a_t_wKept a_t_saved a_t_past a_t_input a_t_n a_t_order a_t_numbers a_t_output : Nat) (i_t_pastMany : Int) (i_t_isSaved : Int) (i_t_thrown : Int) (i_t_inputMany : Int) (i_t_lastError : Int) (i_t_lastOffset : Int) (i_t_error : Int) (i_t_offset : Int) (i_t_nextByte : Int) (i_t_begin : Int) (i_t_value : Int) (i_t_token : Int) (i_t_got : Int) (i_t_orders : Int) (i_t_outputMany : Int) (i_t_w : (Int → Int)) (x1 : Int) (q : Int) (hf : fn_Md_isCord i_t_w x1 = some q) : jk_MI l D jk_cl (jk_ty cI cR) Z mn_Md_isCord (.code mn_Md_isCord mb_Md_isCord 2 (some .boolean) :: jk_WA) (jk_rm 1 22) [.ref a_t, jk_V x1] (wd_Md_isCord cI a_t a_t_w a_t_wKept a_t_saved a_t_past a_t_input a_t_n a_t_order a_t_numbers a_t_output i_t_pastMany i_t_isSaved i_t_thrown i_t_inputMany i_t_lastError i_t_lastOffset i_t_error i_t_offset i_t_nextByte i_t_begin i_t_value i_t_token i_t_got i_t_orders i_t_outputMany i_t_w) (wd_Md_isCord cI a_t a_t_w a_t_wKept a_t_saved a_t_past a_t_input a_t_n a_t_order a_t_numbers a_t_output i_t_pastMany i_t_isSaved i_t_thrown i_t_inputMany i_t_lastError i_t_lastOffset i_t_error i_t_offset i_t_nextByte i_t_begin i_t_value i_t_token i_t_got i_t_orders i_t_outputMany i_t_w) q := by
  intro sz
  refine jk_body (by decide +kernel) (fun p e s m args below meth c hsz hz hin C => ?_) (Nat.le_of_ble_eq_true rfl)
  subst hsz
  unfold fn_Md_isCord at hf
  refine jk_iload_n C rd_Md_isCord_0 (k := 1) rfl ?_
  refine jk_iconst C rd_Md_isCord_1 ?_
  refine jk_aload_n C rd_Md_isCord_2 (k := 0) rfl ?_
  refine jk_get C in_Md (ci := 11) rfl 0 (by decide) tm_1263 0 rfl rfl rd_Md_isCord_3 ?_
  refine jk_iconst C rd_Md_isCord_6 ?_
  refine jk_iald C 1 0 rfl rfl (Nat.le_of_ble_eq_true rfl) rd_Md_isCord_7 hf (fun hf => ?_)
  refine jk_iconst C rd_Md_isCord_8 ?_
  refine jk_isub C rd_Md_isCord_9 ?_
  obtain ⟨q10, hq10, hf⟩ := jk_bind_h hf
  refine jk_callSi C hZ.1 hz (ct_Md_inRange l D Z sq hZ cI cR x1 0 ((i_t_w 2) - 1) q10 hq10) tm_1352 tm_1353 tm_15 tm_1354 na_Md_inRange ⟨Nat.le_of_ble_eq_true rfl, Nat.le_of_ble_eq_true rfl⟩ rfl [] rfl rfl rfl (ws' := wd_Md_isCord cI a_t a_t_w a_t_wKept a_t_saved a_t_past a_t_input a_t_n a_t_order a_t_numbers a_t_output i_t_pastMany i_t_isSaved i_t_thrown i_t_inputMany i_t_lastError i_t_lastOffset i_t_error i_t_offset i_t_nextByte i_t_begin i_t_value i_t_token i_t_got i_t_orders i_t_outputMany i_t_w) rfl (st := []) rfl (Nat.le_of_ble_eq_true rfl) rd_Md_isCord_10 ?_ ⟨Nat.le_refl _, Nat.le_refl _⟩
  obtain ⟨hbo, hf⟩ := jk_bo_h hf
  cases hf
  exact jk_zret C hbo rfl rd_Md_isCord_13 rfl
def wd_Md_isTopic (cI : ClassId) (a_t a_t_w a_t_wKept a_t_saved a_t_past a_t_input a_t_n a_t_order a_t_numbers a_t_output : Nat) (i_t_pastMany : Int) (i_t_isSaved : Int) (i_t_thrown : Int) (i_t_inputMany : Int) (i_t_lastError : Int) (i_t_lastOffset : Int) (i_t_error : Int) (i_t_offset : Int) (i_t_nextByte : Int) (i_t_begin : Int) (i_t_value : Int) (i_t_token : Int) (i_t_got : Int) (i_t_orders : Int) (i_t_outputMany : Int) (i_t_w : (Int → Int)) : va_W := [(a_t, .inr (11, [.ref a_t_w, .ref a_t_wKept, .ref a_t_saved, .ref a_t_past, jk_V i_t_pastMany, jk_V i_t_isSaved, jk_V i_t_thrown, .ref a_t_input, jk_V i_t_inputMany, jk_V i_t_lastError, jk_V i_t_lastOffset, jk_V i_t_error, jk_V i_t_offset, jk_V i_t_nextByte, jk_V i_t_begin, jk_V i_t_value, jk_V i_t_token, jk_V i_t_got, .ref a_t_n, .ref a_t_order, .ref a_t_numbers, jk_V i_t_orders, .ref a_t_output, jk_V i_t_outputMany])), (a_t_w, jk_W cI 259 i_t_w)]
set_option maxHeartbeats 4000000 in
set_option maxRecDepth 20000 in
theorem ct_Md_isTopic (l : Launch) (D : va_G) (Z : (Nat → Prop) → State → Heap → Prop) (sq : Nat → Nat) (hZ : jk_ZK Z sq) (cI cR : ClassId) (a_t a_t_w a_t_wKept a_t_saved a_t_past a_t_input a_t_n a_t_order a_t_numbers a_t_output : Nat) (i_t_pastMany : Int) (i_t_isSaved : Int) (i_t_thrown : Int) (i_t_inputMany : Int) (i_t_lastError : Int) (i_t_lastOffset : Int) (i_t_error : Int) (i_t_offset : Int) (i_t_nextByte : Int) (i_t_begin : Int) (i_t_value : Int) (i_t_token : Int) (i_t_got : Int) (i_t_orders : Int) (i_t_outputMany : Int) (i_t_w : (Int → Int)) (x1 : Int) (q : Int) (hf : fn_Md_isTopic i_t_w x1 = some q) : jk_MI l D jk_cl (jk_ty cI cR) Z mn_Md_isTopic (.code mn_Md_isTopic mb_Md_isTopic 2 (some .boolean) :: jk_WA) (jk_rm 1 22) [.ref a_t, jk_V x1] (wd_Md_isTopic cI a_t a_t_w a_t_wKept a_t_saved a_t_past a_t_input a_t_n a_t_order a_t_numbers a_t_output i_t_pastMany i_t_isSaved i_t_thrown i_t_inputMany i_t_lastError i_t_lastOffset i_t_error i_t_offset i_t_nextByte i_t_begin i_t_value i_t_token i_t_got i_t_orders i_t_outputMany i_t_w) (wd_Md_isTopic cI a_t a_t_w a_t_wKept a_t_saved a_t_past a_t_input a_t_n a_t_order a_t_numbers a_t_output i_t_pastMany i_t_isSaved i_t_thrown i_t_inputMany i_t_lastError i_t_lastOffset i_t_error i_t_offset i_t_nextByte i_t_begin i_t_value i_t_token i_t_got i_t_orders i_t_outputMany i_t_w) q := by
  intro sz
  refine jk_body (by decide +kernel) (fun p e s m args below meth c hsz hz hin C => ?_) (Nat.le_of_ble_eq_true rfl)
  subst hsz
  unfold fn_Md_isTopic at hf
  refine jk_iload_n C rd_Md_isTopic_0 (k := 1) rfl ?_
  refine jk_iconst C rd_Md_isTopic_1 ?_
  refine jk_aload_n C rd_Md_isTopic_2 (k := 0) rfl ?_
  refine jk_get C in_Md (ci := 11) rfl 0 (by decide) tm_1263 0 rfl rfl rd_Md_isTopic_3 ?_
  refine jk_iconst C rd_Md_isTopic_6 ?_
  refine jk_iald C 1 0 rfl rfl (Nat.le_of_ble_eq_true rfl) rd_Md_isTopic_7 hf (fun hf => ?_)
  refine jk_iconst C rd_Md_isTopic_8 ?_
  refine jk_isub C rd_Md_isTopic_9 ?_
  obtain ⟨q10, hq10, hf⟩ := jk_bind_h hf
  refine jk_callSi C hZ.1 hz (ct_Md_inRange l D Z sq hZ cI cR x1 0 ((i_t_w 0) - 1) q10 hq10) tm_1352 tm_1353 tm_15 tm_1354 na_Md_inRange ⟨Nat.le_of_ble_eq_true rfl, Nat.le_of_ble_eq_true rfl⟩ rfl [] rfl rfl rfl (ws' := wd_Md_isTopic cI a_t a_t_w a_t_wKept a_t_saved a_t_past a_t_input a_t_n a_t_order a_t_numbers a_t_output i_t_pastMany i_t_isSaved i_t_thrown i_t_inputMany i_t_lastError i_t_lastOffset i_t_error i_t_offset i_t_nextByte i_t_begin i_t_value i_t_token i_t_got i_t_orders i_t_outputMany i_t_w) rfl (st := []) rfl (Nat.le_of_ble_eq_true rfl) rd_Md_isTopic_10 ?_ ⟨Nat.le_refl _, Nat.le_refl _⟩
  obtain ⟨hbo, hf⟩ := jk_bo_h hf
  cases hf
  exact jk_zret C hbo rfl rd_Md_isTopic_13 rfl
def wd_Md_does (cI : ClassId) (a_t a_t_w a_t_wKept a_t_saved a_t_past a_t_input a_t_n a_t_order a_t_numbers a_t_output : Nat) (i_t_pastMany : Int) (i_t_isSaved : Int) (i_t_thrown : Int) (i_t_inputMany : Int) (i_t_lastError : Int) (i_t_lastOffset : Int) (i_t_error : Int) (i_t_offset : Int) (i_t_nextByte : Int) (i_t_begin : Int) (i_t_value : Int) (i_t_token : Int) (i_t_got : Int) (i_t_orders : Int) (i_t_outputMany : Int) (i_t_w : (Int → Int)) (i_t_order : (Int → Int)) (i_t_numbers : (Int → Int)) : va_W := [(a_t, .inr (11, [.ref a_t_w, .ref a_t_wKept, .ref a_t_saved, .ref a_t_past, jk_V i_t_pastMany, jk_V i_t_isSaved, jk_V i_t_thrown, .ref a_t_input, jk_V i_t_inputMany, jk_V i_t_lastError, jk_V i_t_lastOffset, jk_V i_t_error, jk_V i_t_offset, jk_V i_t_nextByte, jk_V i_t_begin, jk_V i_t_value, jk_V i_t_token, jk_V i_t_got, .ref a_t_n, .ref a_t_order, .ref a_t_numbers, jk_V i_t_orders, .ref a_t_output, jk_V i_t_outputMany])), (a_t_w, jk_W cI 259 i_t_w), (a_t_order, jk_W cI 31 i_t_order), (a_t_numbers, jk_W cI 93 i_t_numbers)]
set_option maxHeartbeats 4000000 in
set_option maxRecDepth 20000 in
theorem ct_Md_does (l : Launch) (D : va_G) (Z : (Nat → Prop) → State → Heap → Prop) (sq : Nat → Nat) (hZ : jk_ZK Z sq) (cI cR : ClassId) (a_t a_t_w a_t_wKept a_t_saved a_t_past a_t_input a_t_n a_t_order a_t_numbers a_t_output : Nat) (i_t_pastMany : Int) (i_t_isSaved : Int) (i_t_thrown : Int) (i_t_inputMany : Int) (i_t_lastError : Int) (i_t_lastOffset : Int) (i_t_error : Int) (i_t_offset : Int) (i_t_nextByte : Int) (i_t_begin : Int) (i_t_value : Int) (i_t_token : Int) (i_t_got : Int) (i_t_orders : Int) (i_t_outputMany : Int) (i_t_w : (Int → Int)) (i_t_order : (Int → Int)) (i_t_numbers : (Int → Int)) (x1 : Int) (q : Int × (Int → Int)) (hf : fn_Md_does i_t_w i_t_order i_t_numbers x1 = some q) : jk_MI l D jk_cl (jk_ty cI cR) Z mn_Md_does (.code mn_Md_does mb_Md_does 5 (some .boolean) :: jk_WA) (jk_rm 9 199) [.ref a_t, jk_V x1] (wd_Md_does cI a_t a_t_w a_t_wKept a_t_saved a_t_past a_t_input a_t_n a_t_order a_t_numbers a_t_output i_t_pastMany i_t_isSaved i_t_thrown i_t_inputMany i_t_lastError i_t_lastOffset i_t_error i_t_offset i_t_nextByte i_t_begin i_t_value i_t_token i_t_got i_t_orders i_t_outputMany i_t_w i_t_order i_t_numbers) (wd_Md_does cI a_t a_t_w a_t_wKept a_t_saved a_t_past a_t_input a_t_n a_t_order a_t_numbers a_t_output i_t_pastMany i_t_isSaved i_t_thrown i_t_inputMany i_t_lastError i_t_lastOffset i_t_error i_t_offset i_t_nextByte i_t_begin i_t_value i_t_token i_t_got i_t_orders i_t_outputMany q.2 i_t_order i_t_numbers) q.1 := by
  intro sz
  refine jk_body (by decide +kernel) (fun p e s m args below meth c hsz hz hin C => ?_) (Nat.le_of_ble_eq_true rfl)
  subst hsz
  unfold fn_Md_does at hf
  refine jk_aload_n C rd_Md_does_0 (k := 0) rfl ?_
  refine jk_get C in_Md (ci := 11) rfl 20 (by decide) tm_1283 0 rfl rfl rd_Md_does_1 ?_
  refine jk_iconst C rd_Md_does_4 ?_
  refine jk_iload_n C rd_Md_does_5 (k := 1) rfl ?_
  refine jk_imul C rd_Md_does_6 ?_
  refine jk_iald C 3 0 rfl rfl (Nat.le_of_ble_eq_true rfl) rd_Md_does_7 hf (fun hf => ?_)
  refine jk_istore_n C rd_Md_does_8 (by decide) (lv' := [(2, jk_V (i_t_numbers (3 * x1))), (0, .ref a_t), (1, jk_V x1)]) rfl ?_
  refine jk_aload_n C rd_Md_does_9 (k := 1) rfl ?_
  refine jk_get C in_Md (ci := 11) rfl 20 (by decide) tm_1283 0 rfl rfl rd_Md_does_10 ?_
  refine jk_iconst C rd_Md_does_13 ?_
  refine jk_iload_n C rd_Md_does_14 (k := 2) rfl ?_
  refine jk_imul C rd_Md_does_15 ?_
  refine jk_iconst C rd_Md_does_16 ?_
  refine jk_iadd C rd_Md_does_17 ?_
  refine jk_iald C 3 0 rfl rfl (Nat.le_of_ble_eq_true rfl) rd_Md_does_18 hf (fun hf => ?_)
  refine jk_istore_n C rd_Md_does_19 (by decide) (lv' := [(3, jk_V (i_t_numbers ((3 * x1) + 1))), (2, jk_V (i_t_numbers (3 * x1))), (0, .ref a_t), (1, jk_V x1)]) rfl ?_
  refine jk_aload_n C rd_Md_does_20 (k := 2) rfl ?_
  refine jk_get C in_Md (ci := 11) rfl 20 (by decide) tm_1283 0 rfl rfl rd_Md_does_21 ?_
  refine jk_iconst C rd_Md_does_24 ?_
  refine jk_iload_n C rd_Md_does_25 (k := 3) rfl ?_
  refine jk_imul C rd_Md_does_26 ?_
  refine jk_iconst C rd_Md_does_27 ?_
  refine jk_iadd C rd_Md_does_28 ?_
  refine jk_iald C 3 0 rfl rfl (Nat.le_of_ble_eq_true rfl) rd_Md_does_29 hf (fun hf => ?_)
  refine jk_istore C rd_Md_does_30 (by decide) (lv' := [(4, jk_V (i_t_numbers ((3 * x1) + 2))), (3, jk_V (i_t_numbers ((3 * x1) + 1))), (2, jk_V (i_t_numbers (3 * x1))), (0, .ref a_t), (1, jk_V x1)]) rfl ?_
  refine jk_aload_n C rd_Md_does_32 (k := 3) rfl ?_
  refine jk_get C in_Md (ci := 11) rfl 19 (by decide) tm_1282 0 rfl rfl rd_Md_does_33 ?_
  refine jk_iload_n C rd_Md_does_36 (k := 4) rfl ?_
  refine jk_iald C 2 0 rfl rfl (Nat.le_of_ble_eq_true rfl) rd_Md_does_37 hf (fun hf => ?_)
  refine jk_eqs_c hf (fun hx hf => ?_) (fun hx1 hf => ?_)
  · refine jk_tabIn (off := 46) (tgt := 84) C rd_Md_does_38 (k := 1) hx (by decide +kernel) (by decide) ?_
    refine jk_aload_n C rd_Md_does_84 (k := 3) rfl ?_
    refine jk_get C in_Md (ci := 11) rfl 0 (by decide) tm_1263 0 rfl rfl rd_Md_does_85 ?_
    refine jk_iconst C rd_Md_does_88 ?_
    refine jk_iald C 1 0 rfl rfl (Nat.le_of_ble_eq_true rfl) rd_Md_does_89 hf (fun hf => ?_)
    refine jk_bipush C rd_Md_does_90 (by decide +kernel) ?_
    refine jk_icmp_ge (tgt := 106) C rd_Md_does_92 (by decide) hf (fun _ hf => ?_) (fun _ hf => ?_)
    · refine jk_iconst C rd_Md_does_106 ?_
      cases hf
      exact jk_zret C (Or.inl rfl) rfl rd_Md_does_107 rfl
    · refine jk_aload_n C rd_Md_does_95 (k := 3) rfl ?_
      obtain ⟨q96, hq96, hf⟩ := jk_bind_h hf
      refine jk_callVi C hZ.1 hz (ct_Md_addsCluster l D Z sq hZ cI cR a_t a_t_w a_t_wKept a_t_saved a_t_past a_t_input a_t_n a_t_order a_t_numbers a_t_output i_t_pastMany i_t_isSaved i_t_thrown i_t_inputMany i_t_lastError i_t_lastOffset i_t_error i_t_offset i_t_nextByte i_t_begin i_t_value i_t_token i_t_got i_t_orders i_t_outputMany i_t_w q96 hq96) tm_1520 tm_1522 sl_63 tm_15 tm_1523 na_Md_addsCluster ⟨Nat.le_of_ble_eq_true rfl, Nat.le_of_ble_eq_true rfl⟩ rfl [0, 1] rfl rfl rfl (ws' := wd_Md_does cI a_t a_t_w a_t_wKept a_t_saved a_t_past a_t_input a_t_n a_t_order a_t_numbers a_t_output i_t_pastMany i_t_isSaved i_t_thrown i_t_inputMany i_t_lastError i_t_lastOffset i_t_error i_t_offset i_t_nextByte i_t_begin i_t_value i_t_token i_t_got i_t_orders i_t_outputMany q96.2 i_t_order i_t_numbers) rfl 0 11 rfl rfl rfl (st := []) rfl (Nat.le_of_ble_eq_true rfl) rd_Md_does_96 ?_ ⟨Nat.le_refl _, Nat.le_refl _⟩
      refine jk_if_lt (tgt := 106) C rd_Md_does_99 (by decide) hf (fun _ hf => ?_) (fun _ hf => ?_)
      · refine jk_iconst C rd_Md_does_106 ?_
        cases hf
        exact jk_zret C (Or.inl rfl) rfl rd_Md_does_107 rfl
      · refine jk_iconst C rd_Md_does_102 ?_
        refine jk_goto (tgt := 107) C rd_Md_does_103 (by decide) ?_
        cases hf
        exact jk_zret C (Or.inr rfl) rfl rd_Md_does_107 rfl
  refine jk_eqs_c hf (fun hx hf => ?_) (fun hx2 hf => ?_)
  · refine jk_tabIn (off := 70) (tgt := 108) C rd_Md_does_38 (k := 2) hx (by decide +kernel) (by decide) ?_
    refine jk_aload_n C rd_Md_does_108 (k := 3) rfl ?_
    refine jk_iload_n C rd_Md_does_109 (k := 2) rfl ?_
    obtain ⟨q110, hq110, hf⟩ := jk_bind_h hf
    refine jk_callVi C hZ.1 hz (ct_Md_isCluster l D Z sq hZ cI cR a_t a_t_w a_t_wKept a_t_saved a_t_past a_t_input a_t_n a_t_order a_t_numbers a_t_output i_t_pastMany i_t_isSaved i_t_thrown i_t_inputMany i_t_lastError i_t_lastOffset i_t_error i_t_offset i_t_nextByte i_t_begin i_t_value i_t_token i_t_got i_t_orders i_t_outputMany i_t_w (i_t_numbers (3 * x1)) q110 hq110) tm_1524 tm_1526 sl_64 tm_15 tm_1527 na_Md_isCluster ⟨Nat.le_of_ble_eq_true rfl, Nat.le_of_ble_eq_true rfl⟩ rfl [0, 1] rfl rfl rfl (ws' := wd_Md_does cI a_t a_t_w a_t_wKept a_t_saved a_t_past a_t_input a_t_n a_t_order a_t_numbers a_t_output i_t_pastMany i_t_isSaved i_t_thrown i_t_inputMany i_t_lastError i_t_lastOffset i_t_error i_t_offset i_t_nextByte i_t_begin i_t_value i_t_token i_t_got i_t_orders i_t_outputMany i_t_w i_t_order i_t_numbers) rfl 0 11 rfl rfl rfl (st := []) rfl (Nat.le_of_ble_eq_true rfl) rd_Md_does_110 ?_ ⟨Nat.le_refl _, Nat.le_refl _⟩
    refine jk_if_eq (tgt := 138) C rd_Md_does_113 (by decide) hf (fun _ hf => ?_) (fun _ hf => ?_)
    · refine jk_iconst C rd_Md_does_138 ?_
      cases hf
      exact jk_zret C (Or.inl rfl) rfl rd_Md_does_139 rfl
    · refine jk_aload_n C rd_Md_does_116 (k := 3) rfl ?_
      obtain ⟨q117, hq117, hf⟩ := jk_bind_h hf
      refine jk_callVi C hZ.1 hz (ct_Md_mayAdd l D Z sq hZ cI cR a_t a_t_w a_t_wKept a_t_saved a_t_past a_t_input a_t_n a_t_order a_t_numbers a_t_output i_t_pastMany i_t_isSaved i_t_thrown i_t_inputMany i_t_lastError i_t_lastOffset i_t_error i_t_offset i_t_nextByte i_t_begin i_t_value i_t_token i_t_got i_t_orders i_t_outputMany i_t_w q117 hq117) tm_1441 tm_1443 sl_46 tm_15 tm_1444 na_Md_mayAdd ⟨Nat.le_of_ble_eq_true rfl, Nat.le_of_ble_eq_true rfl⟩ rfl [0, 1] rfl rfl rfl (ws' := wd_Md_does cI a_t a_t_w a_t_wKept a_t_saved a_t_past a_t_input a_t_n a_t_order a_t_numbers a_t_output i_t_pastMany i_t_isSaved i_t_thrown i_t_inputMany i_t_lastError i_t_lastOffset i_t_error i_t_offset i_t_nextByte i_t_begin i_t_value i_t_token i_t_got i_t_orders i_t_outputMany i_t_w i_t_order i_t_numbers) rfl 0 11 rfl rfl rfl (st := []) rfl (Nat.le_of_ble_eq_true rfl) rd_Md_does_117 ?_ ⟨Nat.le_refl _, Nat.le_refl _⟩
      refine jk_if_eq (tgt := 138) C rd_Md_does_120 (by decide) hf (fun _ hf => ?_) (fun _ hf => ?_)
      · refine jk_iconst C rd_Md_does_138 ?_
        cases hf
        exact jk_zret C (Or.inl rfl) rfl rd_Md_does_139 rfl
      · refine jk_aload_n C rd_Md_does_123 (k := 3) rfl ?_
        refine jk_iload_n C rd_Md_does_124 (k := 2) rfl ?_
        refine jk_iload_n C rd_Md_does_125 (k := 1) rfl ?_
        refine jk_iload C rd_Md_does_126 (k := 0) rfl ?_
        obtain ⟨q128, hq128, hf⟩ := jk_bind_h hf
        refine jk_callVi C hZ.1 hz (ct_Md_adds l D Z sq hZ cI cR a_t a_t_w a_t_wKept a_t_saved a_t_past a_t_input a_t_n a_t_order a_t_numbers a_t_output i_t_pastMany i_t_isSaved i_t_thrown i_t_inputMany i_t_lastError i_t_lastOffset i_t_error i_t_offset i_t_nextByte i_t_begin i_t_value i_t_token i_t_got i_t_orders i_t_outputMany i_t_w (i_t_numbers (3 * x1)) (i_t_numbers ((3 * x1) + 1)) (i_t_numbers ((3 * x1) + 2)) q128 hq128) tm_1528 tm_1530 sl_65 tm_15 tm_1531 na_Md_adds ⟨Nat.le_of_ble_eq_true rfl, Nat.le_of_ble_eq_true rfl⟩ rfl [0, 1] rfl rfl rfl (ws' := wd_Md_does cI a_t a_t_w a_t_wKept a_t_saved a_t_past a_t_input a_t_n a_t_order a_t_numbers a_t_output i_t_pastMany i_t_isSaved i_t_thrown i_t_inputMany i_t_lastError i_t_lastOffset i_t_error i_t_offset i_t_nextByte i_t_begin i_t_value i_t_token i_t_got i_t_orders i_t_outputMany q128.2 i_t_order i_t_numbers) rfl 0 11 rfl rfl rfl (st := []) rfl (Nat.le_of_ble_eq_true rfl) rd_Md_does_128 ?_ ⟨Nat.le_refl _, Nat.le_refl _⟩
        refine jk_if_lt (tgt := 138) C rd_Md_does_131 (by decide) hf (fun _ hf => ?_) (fun _ hf => ?_)
        · refine jk_iconst C rd_Md_does_138 ?_
          cases hf
          exact jk_zret C (Or.inl rfl) rfl rd_Md_does_139 rfl
        · refine jk_iconst C rd_Md_does_134 ?_
          refine jk_goto (tgt := 139) C rd_Md_does_135 (by decide) ?_
          cases hf
          exact jk_zret C (Or.inr rfl) rfl rd_Md_does_139 rfl
  refine jk_eqs_c hf (fun hx hf => ?_) (fun hx3 hf => ?_)
  · refine jk_tabIn (off := 102) (tgt := 140) C rd_Md_does_38 (k := 3) hx (by decide +kernel) (by decide) ?_
    refine jk_aload_n C rd_Md_does_140 (k := 3) rfl ?_
    refine jk_iload_n C rd_Md_does_141 (k := 2) rfl ?_
    obtain ⟨q142, hq142, hf⟩ := jk_bind_h hf
    refine jk_callVi C hZ.1 hz (ct_Md_isCord l D Z sq hZ cI cR a_t a_t_w a_t_wKept a_t_saved a_t_past a_t_input a_t_n a_t_order a_t_numbers a_t_output i_t_pastMany i_t_isSaved i_t_thrown i_t_inputMany i_t_lastError i_t_lastOffset i_t_error i_t_offset i_t_nextByte i_t_begin i_t_value i_t_token i_t_got i_t_orders i_t_outputMany i_t_w (i_t_numbers (3 * x1)) q142 hq142) tm_1532 tm_1534 sl_66 tm_15 tm_1535 na_Md_isCord ⟨Nat.le_of_ble_eq_true rfl, Nat.le_of_ble_eq_true rfl⟩ rfl [0, 1] rfl rfl rfl (ws' := wd_Md_does cI a_t a_t_w a_t_wKept a_t_saved a_t_past a_t_input a_t_n a_t_order a_t_numbers a_t_output i_t_pastMany i_t_isSaved i_t_thrown i_t_inputMany i_t_lastError i_t_lastOffset i_t_error i_t_offset i_t_nextByte i_t_begin i_t_value i_t_token i_t_got i_t_orders i_t_outputMany i_t_w i_t_order i_t_numbers) rfl 0 11 rfl rfl rfl (st := []) rfl (Nat.le_of_ble_eq_true rfl) rd_Md_does_142 ?_ ⟨Nat.le_refl _, Nat.le_refl _⟩
    refine jk_if_eq (tgt := 171) C rd_Md_does_145 (by decide) hf (fun _ hf => ?_) (fun _ hf => ?_)
    · refine jk_iconst C rd_Md_does_171 ?_
      cases hf
      exact jk_zret C (Or.inl rfl) rfl rd_Md_does_172 rfl
    · refine jk_aload_n C rd_Md_does_148 (k := 3) rfl ?_
      refine jk_iload_n C rd_Md_does_149 (k := 2) rfl ?_
      obtain ⟨q150, hq150, hf⟩ := jk_bind_h hf
      refine jk_callVi C hZ.1 hz (ct_Md_maySub l D Z sq hZ cI cR a_t a_t_w a_t_wKept a_t_saved a_t_past a_t_input a_t_n a_t_order a_t_numbers a_t_output i_t_pastMany i_t_isSaved i_t_thrown i_t_inputMany i_t_lastError i_t_lastOffset i_t_error i_t_offset i_t_nextByte i_t_begin i_t_value i_t_token i_t_got i_t_orders i_t_outputMany i_t_w (i_t_numbers (3 * x1)) q150 hq150) tm_1536 tm_1538 sl_67 tm_15 tm_1539 na_Md_maySub ⟨Nat.le_of_ble_eq_true rfl, Nat.le_of_ble_eq_true rfl⟩ rfl [0, 1] rfl rfl rfl (ws' := wd_Md_does cI a_t a_t_w a_t_wKept a_t_saved a_t_past a_t_input a_t_n a_t_order a_t_numbers a_t_output i_t_pastMany i_t_isSaved i_t_thrown i_t_inputMany i_t_lastError i_t_lastOffset i_t_error i_t_offset i_t_nextByte i_t_begin i_t_value i_t_token i_t_got i_t_orders i_t_outputMany i_t_w i_t_order i_t_numbers) rfl 0 11 rfl rfl rfl (st := []) rfl (Nat.le_of_ble_eq_true rfl) rd_Md_does_150 ?_ ⟨Nat.le_refl _, Nat.le_refl _⟩
      refine jk_if_eq (tgt := 171) C rd_Md_does_153 (by decide) hf (fun _ hf => ?_) (fun _ hf => ?_)
      · refine jk_iconst C rd_Md_does_171 ?_
        cases hf
        exact jk_zret C (Or.inl rfl) rfl rd_Md_does_172 rfl
      · refine jk_aload_n C rd_Md_does_156 (k := 3) rfl ?_
        refine jk_iload_n C rd_Md_does_157 (k := 2) rfl ?_
        refine jk_iload_n C rd_Md_does_158 (k := 1) rfl ?_
        refine jk_iload C rd_Md_does_159 (k := 0) rfl ?_
        obtain ⟨q161, hq161, hf⟩ := jk_bind_h hf
        refine jk_callVi C hZ.1 hz (ct_Md_subs l D Z sq hZ cI cR a_t a_t_w a_t_wKept a_t_saved a_t_past a_t_input a_t_n a_t_order a_t_numbers a_t_output i_t_pastMany i_t_isSaved i_t_thrown i_t_inputMany i_t_lastError i_t_lastOffset i_t_error i_t_offset i_t_nextByte i_t_begin i_t_value i_t_token i_t_got i_t_orders i_t_outputMany i_t_w (i_t_numbers (3 * x1)) (i_t_numbers ((3 * x1) + 1)) (i_t_numbers ((3 * x1) + 2)) q161 hq161) tm_1540 tm_1542 sl_68 tm_15 tm_1543 na_Md_subs ⟨Nat.le_of_ble_eq_true rfl, Nat.le_of_ble_eq_true rfl⟩ rfl [0, 1] rfl rfl rfl (ws' := wd_Md_does cI a_t a_t_w a_t_wKept a_t_saved a_t_past a_t_input a_t_n a_t_order a_t_numbers a_t_output i_t_pastMany i_t_isSaved i_t_thrown i_t_inputMany i_t_lastError i_t_lastOffset i_t_error i_t_offset i_t_nextByte i_t_begin i_t_value i_t_token i_t_got i_t_orders i_t_outputMany q161.2 i_t_order i_t_numbers) rfl 0 11 rfl rfl rfl (st := []) rfl (Nat.le_of_ble_eq_true rfl) rd_Md_does_161 ?_ ⟨Nat.le_refl _, Nat.le_refl _⟩
        refine jk_if_lt (tgt := 171) C rd_Md_does_164 (by decide) hf (fun _ hf => ?_) (fun _ hf => ?_)
        · refine jk_iconst C rd_Md_does_171 ?_
          cases hf
          exact jk_zret C (Or.inl rfl) rfl rd_Md_does_172 rfl
        · refine jk_iconst C rd_Md_does_167 ?_
          refine jk_goto (tgt := 172) C rd_Md_does_168 (by decide) ?_
          cases hf
          exact jk_zret C (Or.inr rfl) rfl rd_Md_does_172 rfl
  refine jk_eqs_c hf (fun hx hf => ?_) (fun hx4 hf => ?_)
  · refine jk_tabIn (off := 135) (tgt := 173) C rd_Md_does_38 (k := 4) hx (by decide +kernel) (by decide) ?_
    refine jk_aload_n C rd_Md_does_173 (k := 3) rfl ?_
    refine jk_iload_n C rd_Md_does_174 (k := 2) rfl ?_
    obtain ⟨q175, hq175, hf⟩ := jk_bind_h hf
    refine jk_callVi C hZ.1 hz (ct_Md_isCord l D Z sq hZ cI cR a_t a_t_w a_t_wKept a_t_saved a_t_past a_t_input a_t_n a_t_order a_t_numbers a_t_output i_t_pastMany i_t_isSaved i_t_thrown i_t_inputMany i_t_lastError i_t_lastOffset i_t_error i_t_offset i_t_nextByte i_t_begin i_t_value i_t_token i_t_got i_t_orders i_t_outputMany i_t_w (i_t_numbers (3 * x1)) q175 hq175) tm_1532 tm_1534 sl_66 tm_15 tm_1535 na_Md_isCord ⟨Nat.le_of_ble_eq_true rfl, Nat.le_of_ble_eq_true rfl⟩ rfl [0, 1] rfl rfl rfl (ws' := wd_Md_does cI a_t a_t_w a_t_wKept a_t_saved a_t_past a_t_input a_t_n a_t_order a_t_numbers a_t_output i_t_pastMany i_t_isSaved i_t_thrown i_t_inputMany i_t_lastError i_t_lastOffset i_t_error i_t_offset i_t_nextByte i_t_begin i_t_value i_t_token i_t_got i_t_orders i_t_outputMany i_t_w i_t_order i_t_numbers) rfl 0 11 rfl rfl rfl (st := []) rfl (Nat.le_of_ble_eq_true rfl) rd_Md_does_175 ?_ ⟨Nat.le_refl _, Nat.le_refl _⟩
    refine jk_if_eq (tgt := 193) C rd_Md_does_178 (by decide) hf (fun _ hf => ?_) (fun _ hf => ?_)
    · refine jk_iconst C rd_Md_does_193 ?_
      cases hf
      exact jk_zret C (Or.inl rfl) rfl rd_Md_does_194 rfl
    · refine jk_aload_n C rd_Md_does_181 (k := 3) rfl ?_
      refine jk_iload_n C rd_Md_does_182 (k := 2) rfl ?_
      obtain ⟨q183, hq183, hf⟩ := jk_bind_h hf
      refine jk_callVi C hZ.1 hz (ct_Md_cuts l D Z sq hZ cI cR a_t a_t_w a_t_wKept a_t_saved a_t_past a_t_input a_t_n a_t_order a_t_numbers a_t_output i_t_pastMany i_t_isSaved i_t_thrown i_t_inputMany i_t_lastError i_t_lastOffset i_t_error i_t_offset i_t_nextByte i_t_begin i_t_value i_t_token i_t_got i_t_orders i_t_outputMany i_t_w (i_t_numbers (3 * x1)) q183 hq183) tm_1544 tm_1546 sl_69 tm_15 tm_1547 na_Md_cuts ⟨Nat.le_of_ble_eq_true rfl, Nat.le_of_ble_eq_true rfl⟩ rfl [0, 1] rfl rfl rfl (ws' := wd_Md_does cI a_t a_t_w a_t_wKept a_t_saved a_t_past a_t_input a_t_n a_t_order a_t_numbers a_t_output i_t_pastMany i_t_isSaved i_t_thrown i_t_inputMany i_t_lastError i_t_lastOffset i_t_error i_t_offset i_t_nextByte i_t_begin i_t_value i_t_token i_t_got i_t_orders i_t_outputMany q183.2 i_t_order i_t_numbers) rfl 0 11 rfl rfl rfl (st := []) rfl (Nat.le_of_ble_eq_true rfl) rd_Md_does_183 ?_ ⟨Nat.le_refl _, Nat.le_refl _⟩
      refine jk_if_lt (tgt := 193) C rd_Md_does_186 (by decide) hf (fun _ hf => ?_) (fun _ hf => ?_)
      · refine jk_iconst C rd_Md_does_193 ?_
        cases hf
        exact jk_zret C (Or.inl rfl) rfl rd_Md_does_194 rfl
      · refine jk_iconst C rd_Md_does_189 ?_
        refine jk_goto (tgt := 194) C rd_Md_does_190 (by decide) ?_
        cases hf
        exact jk_zret C (Or.inr rfl) rfl rd_Md_does_194 rfl
  refine jk_eqs_c hf (fun hx hf => ?_) (fun hx5 hf => ?_)
  · refine jk_tabIn (off := 157) (tgt := 195) C rd_Md_does_38 (k := 5) hx (by decide +kernel) (by decide) ?_
    refine jk_aload_n C rd_Md_does_195 (k := 3) rfl ?_
    refine jk_iload_n C rd_Md_does_196 (k := 2) rfl ?_
    obtain ⟨q197, hq197, hf⟩ := jk_bind_h hf
    refine jk_callVi C hZ.1 hz (ct_Md_isCluster l D Z sq hZ cI cR a_t a_t_w a_t_wKept a_t_saved a_t_past a_t_input a_t_n a_t_order a_t_numbers a_t_output i_t_pastMany i_t_isSaved i_t_thrown i_t_inputMany i_t_lastError i_t_lastOffset i_t_error i_t_offset i_t_nextByte i_t_begin i_t_value i_t_token i_t_got i_t_orders i_t_outputMany i_t_w (i_t_numbers (3 * x1)) q197 hq197) tm_1524 tm_1526 sl_64 tm_15 tm_1527 na_Md_isCluster ⟨Nat.le_of_ble_eq_true rfl, Nat.le_of_ble_eq_true rfl⟩ rfl [0, 1] rfl rfl rfl (ws' := wd_Md_does cI a_t a_t_w a_t_wKept a_t_saved a_t_past a_t_input a_t_n a_t_order a_t_numbers a_t_output i_t_pastMany i_t_isSaved i_t_thrown i_t_inputMany i_t_lastError i_t_lastOffset i_t_error i_t_offset i_t_nextByte i_t_begin i_t_value i_t_token i_t_got i_t_orders i_t_outputMany i_t_w i_t_order i_t_numbers) rfl 0 11 rfl rfl rfl (st := []) rfl (Nat.le_of_ble_eq_true rfl) rd_Md_does_197 ?_ ⟨Nat.le_refl _, Nat.le_refl _⟩
    refine jk_if_eq (tgt := 224) C rd_Md_does_200 (by decide) hf (fun _ hf => ?_) (fun _ hf => ?_)
    · refine jk_iconst C rd_Md_does_224 ?_
      cases hf
      exact jk_zret C (Or.inl rfl) rfl rd_Md_does_225 rfl
    · refine jk_aload_n C rd_Md_does_203 (k := 3) rfl ?_
      refine jk_iload_n C rd_Md_does_204 (k := 2) rfl ?_
      obtain ⟨q205, hq205, hf⟩ := jk_bind_h hf
      refine jk_callVi C hZ.1 hz (ct_Md_mayTie l D Z sq hZ cI cR a_t a_t_w a_t_wKept a_t_saved a_t_past a_t_input a_t_n a_t_order a_t_numbers a_t_output i_t_pastMany i_t_isSaved i_t_thrown i_t_inputMany i_t_lastError i_t_lastOffset i_t_error i_t_offset i_t_nextByte i_t_begin i_t_value i_t_token i_t_got i_t_orders i_t_outputMany i_t_w (i_t_numbers (3 * x1)) q205 hq205) tm_1552 tm_1554 sl_71 tm_15 tm_1555 na_Md_mayTie ⟨Nat.le_of_ble_eq_true rfl, Nat.le_of_ble_eq_true rfl⟩ rfl [0, 1] rfl rfl rfl (ws' := wd_Md_does cI a_t a_t_w a_t_wKept a_t_saved a_t_past a_t_input a_t_n a_t_order a_t_numbers a_t_output i_t_pastMany i_t_isSaved i_t_thrown i_t_inputMany i_t_lastError i_t_lastOffset i_t_error i_t_offset i_t_nextByte i_t_begin i_t_value i_t_token i_t_got i_t_orders i_t_outputMany i_t_w i_t_order i_t_numbers) rfl 0 11 rfl rfl rfl (st := []) rfl (Nat.le_of_ble_eq_true rfl) rd_Md_does_205 ?_ ⟨Nat.le_refl _, Nat.le_refl _⟩
      refine jk_if_eq (tgt := 224) C rd_Md_does_208 (by decide) hf (fun _ hf => ?_) (fun _ hf => ?_)
      · refine jk_iconst C rd_Md_does_224 ?_
        cases hf
        exact jk_zret C (Or.inl rfl) rfl rd_Md_does_225 rfl
      · refine jk_aload_n C rd_Md_does_211 (k := 3) rfl ?_
        refine jk_iload_n C rd_Md_does_212 (k := 2) rfl ?_
        refine jk_iload_n C rd_Md_does_213 (k := 1) rfl ?_
        obtain ⟨q214, hq214, hf⟩ := jk_bind_h hf
        refine jk_callVi C hZ.1 hz (ct_Md_ties l D Z sq hZ cI cR a_t a_t_w a_t_wKept a_t_saved a_t_past a_t_input a_t_n a_t_order a_t_numbers a_t_output i_t_pastMany i_t_isSaved i_t_thrown i_t_inputMany i_t_lastError i_t_lastOffset i_t_error i_t_offset i_t_nextByte i_t_begin i_t_value i_t_token i_t_got i_t_orders i_t_outputMany i_t_w (i_t_numbers (3 * x1)) (i_t_numbers ((3 * x1) + 1)) q214 hq214) tm_1579 tm_1581 sl_77 tm_15 tm_1582 na_Md_ties ⟨Nat.le_of_ble_eq_true rfl, Nat.le_of_ble_eq_true rfl⟩ rfl [0, 1] rfl rfl rfl (ws' := wd_Md_does cI a_t a_t_w a_t_wKept a_t_saved a_t_past a_t_input a_t_n a_t_order a_t_numbers a_t_output i_t_pastMany i_t_isSaved i_t_thrown i_t_inputMany i_t_lastError i_t_lastOffset i_t_error i_t_offset i_t_nextByte i_t_begin i_t_value i_t_token i_t_got i_t_orders i_t_outputMany q214.2 i_t_order i_t_numbers) rfl 0 11 rfl rfl rfl (st := []) rfl (Nat.le_of_ble_eq_true rfl) rd_Md_does_214 ?_ ⟨Nat.le_refl _, Nat.le_refl _⟩
        refine jk_if_lt (tgt := 224) C rd_Md_does_217 (by decide) hf (fun _ hf => ?_) (fun _ hf => ?_)
        · refine jk_iconst C rd_Md_does_224 ?_
          cases hf
          exact jk_zret C (Or.inl rfl) rfl rd_Md_does_225 rfl
        · refine jk_iconst C rd_Md_does_220 ?_
          refine jk_goto (tgt := 225) C rd_Md_does_221 (by decide) ?_
          cases hf
          exact jk_zret C (Or.inr rfl) rfl rd_Md_does_225 rfl
  refine jk_eqs_c hf (fun hx hf => ?_) (fun hx6 hf => ?_)
  · refine jk_tabIn (off := 188) (tgt := 226) C rd_Md_does_38 (k := 6) hx (by decide +kernel) (by decide) ?_
    refine jk_aload_n C rd_Md_does_226 (k := 3) rfl ?_
    refine jk_iload_n C rd_Md_does_227 (k := 2) rfl ?_
    obtain ⟨q228, hq228, hf⟩ := jk_bind_h hf
    refine jk_callVi C hZ.1 hz (ct_Md_isCord l D Z sq hZ cI cR a_t a_t_w a_t_wKept a_t_saved a_t_past a_t_input a_t_n a_t_order a_t_numbers a_t_output i_t_pastMany i_t_isSaved i_t_thrown i_t_inputMany i_t_lastError i_t_lastOffset i_t_error i_t_offset i_t_nextByte i_t_begin i_t_value i_t_token i_t_got i_t_orders i_t_outputMany i_t_w (i_t_numbers (3 * x1)) q228 hq228) tm_1532 tm_1534 sl_66 tm_15 tm_1535 na_Md_isCord ⟨Nat.le_of_ble_eq_true rfl, Nat.le_of_ble_eq_true rfl⟩ rfl [0, 1] rfl rfl rfl (ws' := wd_Md_does cI a_t a_t_w a_t_wKept a_t_saved a_t_past a_t_input a_t_n a_t_order a_t_numbers a_t_output i_t_pastMany i_t_isSaved i_t_thrown i_t_inputMany i_t_lastError i_t_lastOffset i_t_error i_t_offset i_t_nextByte i_t_begin i_t_value i_t_token i_t_got i_t_orders i_t_outputMany i_t_w i_t_order i_t_numbers) rfl 0 11 rfl rfl rfl (st := []) rfl (Nat.le_of_ble_eq_true rfl) rd_Md_does_228 ?_ ⟨Nat.le_refl _, Nat.le_refl _⟩
    refine jk_if_eq (tgt := 259) C rd_Md_does_231 (by decide) hf (fun _ hf => ?_) (fun _ hf => ?_)
    · refine jk_iconst C rd_Md_does_259 ?_
      cases hf
      exact jk_zret C (Or.inl rfl) rfl rd_Md_does_260 rfl
    · refine jk_iload_n C rd_Md_does_234 (k := 1) rfl ?_
      refine jk_aload_n C rd_Md_does_235 (k := 3) rfl ?_
      refine jk_iload_n C rd_Md_does_236 (k := 2) rfl ?_
      refine jk_iconst C rd_Md_does_237 ?_
      obtain ⟨q238, hq238, hf⟩ := jk_bind_h hf
      refine jk_callVi C hZ.1 hz (ct_Md_of l D Z sq hZ cI cR a_t a_t_w a_t_wKept a_t_saved a_t_past a_t_input a_t_n a_t_order a_t_numbers a_t_output i_t_pastMany i_t_isSaved i_t_thrown i_t_inputMany i_t_lastError i_t_lastOffset i_t_error i_t_offset i_t_nextByte i_t_begin i_t_value i_t_token i_t_got i_t_orders i_t_outputMany i_t_w (i_t_numbers (3 * x1)) 4 q238 hq238) tm_1256 tm_1258 sl_26 tm_15 tm_1259 na_Md_of ⟨Nat.le_of_ble_eq_true rfl, Nat.le_of_ble_eq_true rfl⟩ rfl [0, 1] rfl rfl rfl (ws' := wd_Md_does cI a_t a_t_w a_t_wKept a_t_saved a_t_past a_t_input a_t_n a_t_order a_t_numbers a_t_output i_t_pastMany i_t_isSaved i_t_thrown i_t_inputMany i_t_lastError i_t_lastOffset i_t_error i_t_offset i_t_nextByte i_t_begin i_t_value i_t_token i_t_got i_t_orders i_t_outputMany i_t_w i_t_order i_t_numbers) rfl 0 11 rfl rfl rfl (st := [jk_V (i_t_numbers ((3 * x1) + 1))]) rfl (Nat.le_of_ble_eq_true rfl) rd_Md_does_238 ?_ ⟨Nat.le_refl _, Nat.le_refl _⟩
      refine jk_icmp_lt (tgt := 259) C rd_Md_does_241 (by decide) hf (fun _ hf => ?_) (fun _ hf => ?_)
      · refine jk_iconst C rd_Md_does_259 ?_
        cases hf
        exact jk_zret C (Or.inl rfl) rfl rd_Md_does_260 rfl
      · refine jk_aload_n C rd_Md_does_244 (k := 3) rfl ?_
        refine jk_iload_n C rd_Md_does_245 (k := 2) rfl ?_
        refine jk_iload_n C rd_Md_does_246 (k := 1) rfl ?_
        refine jk_iload C rd_Md_does_247 (k := 0) rfl ?_
        obtain ⟨q249, hq249, hf⟩ := jk_bind_h hf
        refine jk_callVi C hZ.1 hz (ct_Md_sets l D Z sq hZ cI cR a_t a_t_w a_t_wKept a_t_saved a_t_past a_t_input a_t_n a_t_order a_t_numbers a_t_output i_t_pastMany i_t_isSaved i_t_thrown i_t_inputMany i_t_lastError i_t_lastOffset i_t_error i_t_offset i_t_nextByte i_t_begin i_t_value i_t_token i_t_got i_t_orders i_t_outputMany i_t_w (i_t_numbers (3 * x1)) (i_t_numbers ((3 * x1) + 1)) (i_t_numbers ((3 * x1) + 2)) q249 hq249) tm_1583 tm_1585 sl_78 tm_15 tm_1586 na_Md_sets ⟨Nat.le_of_ble_eq_true rfl, Nat.le_of_ble_eq_true rfl⟩ rfl [0, 1] rfl rfl rfl (ws' := wd_Md_does cI a_t a_t_w a_t_wKept a_t_saved a_t_past a_t_input a_t_n a_t_order a_t_numbers a_t_output i_t_pastMany i_t_isSaved i_t_thrown i_t_inputMany i_t_lastError i_t_lastOffset i_t_error i_t_offset i_t_nextByte i_t_begin i_t_value i_t_token i_t_got i_t_orders i_t_outputMany q249.2 i_t_order i_t_numbers) rfl 0 11 rfl rfl rfl (st := []) rfl (Nat.le_of_ble_eq_true rfl) rd_Md_does_249 ?_ ⟨Nat.le_refl _, Nat.le_refl _⟩
        refine jk_if_lt (tgt := 259) C rd_Md_does_252 (by decide) hf (fun _ hf => ?_) (fun _ hf => ?_)
        · refine jk_iconst C rd_Md_does_259 ?_
          cases hf
          exact jk_zret C (Or.inl rfl) rfl rd_Md_does_260 rfl
        · refine jk_iconst C rd_Md_does_255 ?_
          refine jk_goto (tgt := 260) C rd_Md_does_256 (by decide) ?_
          cases hf
          exact jk_zret C (Or.inr rfl) rfl rd_Md_does_260 rfl
  refine jk_eqs_c hf (fun hx hf => ?_) (fun hx7 hf => ?_)
  · refine jk_tabIn (off := 223) (tgt := 261) C rd_Md_does_38 (k := 7) hx (by decide +kernel) (by decide) ?_
    refine jk_aload_n C rd_Md_does_261 (k := 3) rfl ?_
    refine jk_iload_n C rd_Md_does_262 (k := 2) rfl ?_
    obtain ⟨q263, hq263, hf⟩ := jk_bind_h hf
    refine jk_callVi C hZ.1 hz (ct_Md_isCord l D Z sq hZ cI cR a_t a_t_w a_t_wKept a_t_saved a_t_past a_t_input a_t_n a_t_order a_t_numbers a_t_output i_t_pastMany i_t_isSaved i_t_thrown i_t_inputMany i_t_lastError i_t_lastOffset i_t_error i_t_offset i_t_nextByte i_t_begin i_t_value i_t_token i_t_got i_t_orders i_t_outputMany i_t_w (i_t_numbers (3 * x1)) q263 hq263) tm_1532 tm_1534 sl_66 tm_15 tm_1535 na_Md_isCord ⟨Nat.le_of_ble_eq_true rfl, Nat.le_of_ble_eq_true rfl⟩ rfl [0, 1] rfl rfl rfl (ws' := wd_Md_does cI a_t a_t_w a_t_wKept a_t_saved a_t_past a_t_input a_t_n a_t_order a_t_numbers a_t_output i_t_pastMany i_t_isSaved i_t_thrown i_t_inputMany i_t_lastError i_t_lastOffset i_t_error i_t_offset i_t_nextByte i_t_begin i_t_value i_t_token i_t_got i_t_orders i_t_outputMany i_t_w i_t_order i_t_numbers) rfl 0 11 rfl rfl rfl (st := []) rfl (Nat.le_of_ble_eq_true rfl) rd_Md_does_263 ?_ ⟨Nat.le_refl _, Nat.le_refl _⟩
    refine jk_if_eq (tgt := 292) C rd_Md_does_266 (by decide) hf (fun _ hf => ?_) (fun _ hf => ?_)
    · refine jk_iconst C rd_Md_does_292 ?_
      cases hf
      exact jk_zret C (Or.inl rfl) rfl rd_Md_does_293 rfl
    · refine jk_iload_n C rd_Md_does_269 (k := 1) rfl ?_
      refine jk_aload_n C rd_Md_does_270 (k := 3) rfl ?_
      refine jk_iload_n C rd_Md_does_271 (k := 2) rfl ?_
      refine jk_iconst C rd_Md_does_272 ?_
      obtain ⟨q273, hq273, hf⟩ := jk_bind_h hf
      refine jk_callVi C hZ.1 hz (ct_Md_of l D Z sq hZ cI cR a_t a_t_w a_t_wKept a_t_saved a_t_past a_t_input a_t_n a_t_order a_t_numbers a_t_output i_t_pastMany i_t_isSaved i_t_thrown i_t_inputMany i_t_lastError i_t_lastOffset i_t_error i_t_offset i_t_nextByte i_t_begin i_t_value i_t_token i_t_got i_t_orders i_t_outputMany i_t_w (i_t_numbers (3 * x1)) 4 q273 hq273) tm_1256 tm_1258 sl_26 tm_15 tm_1259 na_Md_of ⟨Nat.le_of_ble_eq_true rfl, Nat.le_of_ble_eq_true rfl⟩ rfl [0, 1] rfl rfl rfl (ws' := wd_Md_does cI a_t a_t_w a_t_wKept a_t_saved a_t_past a_t_input a_t_n a_t_order a_t_numbers a_t_output i_t_pastMany i_t_isSaved i_t_thrown i_t_inputMany i_t_lastError i_t_lastOffset i_t_error i_t_offset i_t_nextByte i_t_begin i_t_value i_t_token i_t_got i_t_orders i_t_outputMany i_t_w i_t_order i_t_numbers) rfl 0 11 rfl rfl rfl (st := [jk_V (i_t_numbers ((3 * x1) + 1))]) rfl (Nat.le_of_ble_eq_true rfl) rd_Md_does_273 ?_ ⟨Nat.le_refl _, Nat.le_refl _⟩
      refine jk_icmp_lt (tgt := 292) C rd_Md_does_276 (by decide) hf (fun _ hf => ?_) (fun _ hf => ?_)
      · refine jk_iconst C rd_Md_does_292 ?_
        cases hf
        exact jk_zret C (Or.inl rfl) rfl rd_Md_does_293 rfl
      · refine jk_aload_n C rd_Md_does_279 (k := 3) rfl ?_
        refine jk_iload_n C rd_Md_does_280 (k := 2) rfl ?_
        refine jk_iload_n C rd_Md_does_281 (k := 1) rfl ?_
        obtain ⟨q282, hq282, hf⟩ := jk_bind_h hf
        refine jk_callVi C hZ.1 hz (ct_Md_loses l D Z sq hZ cI cR a_t a_t_w a_t_wKept a_t_saved a_t_past a_t_input a_t_n a_t_order a_t_numbers a_t_output i_t_pastMany i_t_isSaved i_t_thrown i_t_inputMany i_t_lastError i_t_lastOffset i_t_error i_t_offset i_t_nextByte i_t_begin i_t_value i_t_token i_t_got i_t_orders i_t_outputMany i_t_w (i_t_numbers (3 * x1)) (i_t_numbers ((3 * x1) + 1)) q282 hq282) tm_1244 tm_1246 sl_23 tm_15 tm_1247 na_Md_loses ⟨Nat.le_of_ble_eq_true rfl, Nat.le_of_ble_eq_true rfl⟩ rfl [0, 1] rfl rfl rfl (ws' := wd_Md_does cI a_t a_t_w a_t_wKept a_t_saved a_t_past a_t_input a_t_n a_t_order a_t_numbers a_t_output i_t_pastMany i_t_isSaved i_t_thrown i_t_inputMany i_t_lastError i_t_lastOffset i_t_error i_t_offset i_t_nextByte i_t_begin i_t_value i_t_token i_t_got i_t_orders i_t_outputMany q282.2 i_t_order i_t_numbers) rfl 0 11 rfl rfl rfl (st := []) rfl (Nat.le_of_ble_eq_true rfl) rd_Md_does_282 ?_ ⟨Nat.le_refl _, Nat.le_refl _⟩
        refine jk_if_lt (tgt := 292) C rd_Md_does_285 (by decide) hf (fun _ hf => ?_) (fun _ hf => ?_)
        · refine jk_iconst C rd_Md_does_292 ?_
          cases hf
          exact jk_zret C (Or.inl rfl) rfl rd_Md_does_293 rfl
        · refine jk_iconst C rd_Md_does_288 ?_
          refine jk_goto (tgt := 293) C rd_Md_does_289 (by decide) ?_
          cases hf
          exact jk_zret C (Or.inr rfl) rfl rd_Md_does_293 rfl
  refine jk_eqs_c hf (fun hx hf => ?_) (fun hx8 hf => ?_)
  · refine jk_tabIn (off := 256) (tgt := 294) C rd_Md_does_38 (k := 8) hx (by decide +kernel) (by decide) ?_
    refine jk_aload_n C rd_Md_does_294 (k := 3) rfl ?_
    refine jk_iload_n C rd_Md_does_295 (k := 2) rfl ?_
    obtain ⟨q296, hq296, hf⟩ := jk_bind_h hf
    refine jk_callVi C hZ.1 hz (ct_Md_isCord l D Z sq hZ cI cR a_t a_t_w a_t_wKept a_t_saved a_t_past a_t_input a_t_n a_t_order a_t_numbers a_t_output i_t_pastMany i_t_isSaved i_t_thrown i_t_inputMany i_t_lastError i_t_lastOffset i_t_error i_t_offset i_t_nextByte i_t_begin i_t_value i_t_token i_t_got i_t_orders i_t_outputMany i_t_w (i_t_numbers (3 * x1)) q296 hq296) tm_1532 tm_1534 sl_66 tm_15 tm_1535 na_Md_isCord ⟨Nat.le_of_ble_eq_true rfl, Nat.le_of_ble_eq_true rfl⟩ rfl [0, 1] rfl rfl rfl (ws' := wd_Md_does cI a_t a_t_w a_t_wKept a_t_saved a_t_past a_t_input a_t_n a_t_order a_t_numbers a_t_output i_t_pastMany i_t_isSaved i_t_thrown i_t_inputMany i_t_lastError i_t_lastOffset i_t_error i_t_offset i_t_nextByte i_t_begin i_t_value i_t_token i_t_got i_t_orders i_t_outputMany i_t_w i_t_order i_t_numbers) rfl 0 11 rfl rfl rfl (st := []) rfl (Nat.le_of_ble_eq_true rfl) rd_Md_does_296 ?_ ⟨Nat.le_refl _, Nat.le_refl _⟩
    refine jk_if_eq (tgt := 315) C rd_Md_does_299 (by decide) hf (fun _ hf => ?_) (fun _ hf => ?_)
    · refine jk_iconst C rd_Md_does_315 ?_
      cases hf
      exact jk_zret C (Or.inl rfl) rfl rd_Md_does_316 rfl
    · refine jk_aload_n C rd_Md_does_302 (k := 3) rfl ?_
      refine jk_iload_n C rd_Md_does_303 (k := 2) rfl ?_
      refine jk_iload_n C rd_Md_does_304 (k := 1) rfl ?_
      obtain ⟨q305, hq305, hf⟩ := jk_bind_h hf
      refine jk_callVi C hZ.1 hz (ct_Md_dyes l D Z sq hZ cI cR a_t a_t_w a_t_wKept a_t_saved a_t_past a_t_input a_t_n a_t_order a_t_numbers a_t_output i_t_pastMany i_t_isSaved i_t_thrown i_t_inputMany i_t_lastError i_t_lastOffset i_t_error i_t_offset i_t_nextByte i_t_begin i_t_value i_t_token i_t_got i_t_orders i_t_outputMany i_t_w (i_t_numbers (3 * x1)) (i_t_numbers ((3 * x1) + 1)) q305 hq305) tm_1587 tm_1589 sl_79 tm_15 tm_1590 na_Md_dyes ⟨Nat.le_of_ble_eq_true rfl, Nat.le_of_ble_eq_true rfl⟩ rfl [0, 1] rfl rfl rfl (ws' := wd_Md_does cI a_t a_t_w a_t_wKept a_t_saved a_t_past a_t_input a_t_n a_t_order a_t_numbers a_t_output i_t_pastMany i_t_isSaved i_t_thrown i_t_inputMany i_t_lastError i_t_lastOffset i_t_error i_t_offset i_t_nextByte i_t_begin i_t_value i_t_token i_t_got i_t_orders i_t_outputMany q305.2 i_t_order i_t_numbers) rfl 0 11 rfl rfl rfl (st := []) rfl (Nat.le_of_ble_eq_true rfl) rd_Md_does_305 ?_ ⟨Nat.le_refl _, Nat.le_refl _⟩
      refine jk_if_lt (tgt := 315) C rd_Md_does_308 (by decide) hf (fun _ hf => ?_) (fun _ hf => ?_)
      · refine jk_iconst C rd_Md_does_315 ?_
        cases hf
        exact jk_zret C (Or.inl rfl) rfl rd_Md_does_316 rfl
      · refine jk_iconst C rd_Md_does_311 ?_
        refine jk_goto (tgt := 316) C rd_Md_does_312 (by decide) ?_
        cases hf
        exact jk_zret C (Or.inr rfl) rfl rd_Md_does_316 rfl
  refine jk_tabOut (tgt := 317) C rd_Md_does_38 (jk_rg_h hf).1 (by omega) (by decide) ?_
  replace hf := (jk_rg_h hf).2
  refine jk_aload_n C rd_Md_does_317 (k := 3) rfl ?_
  refine jk_iload_n C rd_Md_does_318 (k := 2) rfl ?_
  obtain ⟨q319, hq319, hf⟩ := jk_bind_h hf
  refine jk_callVi C hZ.1 hz (ct_Md_isCluster l D Z sq hZ cI cR a_t a_t_w a_t_wKept a_t_saved a_t_past a_t_input a_t_n a_t_order a_t_numbers a_t_output i_t_pastMany i_t_isSaved i_t_thrown i_t_inputMany i_t_lastError i_t_lastOffset i_t_error i_t_offset i_t_nextByte i_t_begin i_t_value i_t_token i_t_got i_t_orders i_t_outputMany i_t_w (i_t_numbers (3 * x1)) q319 hq319) tm_1524 tm_1526 sl_64 tm_15 tm_1527 na_Md_isCluster ⟨Nat.le_of_ble_eq_true rfl, Nat.le_of_ble_eq_true rfl⟩ rfl [0, 1] rfl rfl rfl (ws' := wd_Md_does cI a_t a_t_w a_t_wKept a_t_saved a_t_past a_t_input a_t_n a_t_order a_t_numbers a_t_output i_t_pastMany i_t_isSaved i_t_thrown i_t_inputMany i_t_lastError i_t_lastOffset i_t_error i_t_offset i_t_nextByte i_t_begin i_t_value i_t_token i_t_got i_t_orders i_t_outputMany i_t_w i_t_order i_t_numbers) rfl 0 11 rfl rfl rfl (st := []) rfl (Nat.le_of_ble_eq_true rfl) rd_Md_does_319 ?_ ⟨Nat.le_refl _, Nat.le_refl _⟩
  refine jk_if_eq (tgt := 345) C rd_Md_does_322 (by decide) hf (fun _ hf => ?_) (fun _ hf => ?_)
  · refine jk_iconst C rd_Md_does_345 ?_
    cases hf
    exact jk_zret C (Or.inl rfl) rfl rd_Md_does_346 rfl
  · refine jk_aload_n C rd_Md_does_325 (k := 3) rfl ?_
    refine jk_iload_n C rd_Md_does_326 (k := 2) rfl ?_
    obtain ⟨q327, hq327, hf⟩ := jk_bind_h hf
    refine jk_callVi C hZ.1 hz (ct_Md_guessReason l D Z sq hZ cI cR a_t a_t_w a_t_wKept a_t_saved a_t_past a_t_input a_t_n a_t_order a_t_numbers a_t_output i_t_pastMany i_t_isSaved i_t_thrown i_t_inputMany i_t_lastError i_t_lastOffset i_t_error i_t_offset i_t_nextByte i_t_begin i_t_value i_t_token i_t_got i_t_orders i_t_outputMany i_t_w (i_t_numbers (3 * x1)) q327 hq327) tm_1591 tm_1593 sl_80 tm_15 tm_1594 na_Md_guessReason ⟨Nat.le_of_ble_eq_true rfl, Nat.le_of_ble_eq_true rfl⟩ rfl [0, 1] rfl rfl rfl (ws' := wd_Md_does cI a_t a_t_w a_t_wKept a_t_saved a_t_past a_t_input a_t_n a_t_order a_t_numbers a_t_output i_t_pastMany i_t_isSaved i_t_thrown i_t_inputMany i_t_lastError i_t_lastOffset i_t_error i_t_offset i_t_nextByte i_t_begin i_t_value i_t_token i_t_got i_t_orders i_t_outputMany i_t_w i_t_order i_t_numbers) rfl 0 11 rfl rfl rfl (st := []) rfl (Nat.le_of_ble_eq_true rfl) rd_Md_does_327 ?_ ⟨Nat.le_refl _, Nat.le_refl _⟩
    refine jk_if_ne (tgt := 345) C rd_Md_does_330 (by decide) hf (fun _ hf => ?_) (fun _ hf => ?_)
    · refine jk_iconst C rd_Md_does_345 ?_
      cases hf
      exact jk_zret C (Or.inl rfl) rfl rd_Md_does_346 rfl
    · refine jk_aload_n C rd_Md_does_333 (k := 3) rfl ?_
      refine jk_iload_n C rd_Md_does_334 (k := 2) rfl ?_
      obtain ⟨q335, hq335, hf⟩ := jk_bind_h hf
      refine jk_callVi C hZ.1 hz (ct_Md_repairs l D Z sq hZ cI cR a_t a_t_w a_t_wKept a_t_saved a_t_past a_t_input a_t_n a_t_order a_t_numbers a_t_output i_t_pastMany i_t_isSaved i_t_thrown i_t_inputMany i_t_lastError i_t_lastOffset i_t_error i_t_offset i_t_nextByte i_t_begin i_t_value i_t_token i_t_got i_t_orders i_t_outputMany i_t_w (i_t_numbers (3 * x1)) q335 hq335) tm_1611 tm_1613 sl_85 tm_15 tm_1614 na_Md_repairs ⟨Nat.le_of_ble_eq_true rfl, Nat.le_of_ble_eq_true rfl⟩ rfl [0, 1] rfl rfl rfl (ws' := wd_Md_does cI a_t a_t_w a_t_wKept a_t_saved a_t_past a_t_input a_t_n a_t_order a_t_numbers a_t_output i_t_pastMany i_t_isSaved i_t_thrown i_t_inputMany i_t_lastError i_t_lastOffset i_t_error i_t_offset i_t_nextByte i_t_begin i_t_value i_t_token i_t_got i_t_orders i_t_outputMany q335.2 i_t_order i_t_numbers) rfl 0 11 rfl rfl rfl (st := []) rfl (Nat.le_of_ble_eq_true rfl) rd_Md_does_335 ?_ ⟨Nat.le_refl _, Nat.le_refl _⟩
      refine jk_if_lt (tgt := 345) C rd_Md_does_338 (by decide) hf (fun _ hf => ?_) (fun _ hf => ?_)
      · refine jk_iconst C rd_Md_does_345 ?_
        cases hf
        exact jk_zret C (Or.inl rfl) rfl rd_Md_does_346 rfl
      · refine jk_iconst C rd_Md_does_341 ?_
        refine jk_goto (tgt := 346) C rd_Md_does_342 (by decide) ?_
        cases hf
        exact jk_zret C (Or.inr rfl) rfl rd_Md_does_346 rfl
def wd_Md_runScript (cI : ClassId) (a_t a_t_w a_t_wKept a_t_saved a_t_past a_t_input a_t_n a_t_order a_t_numbers a_t_output : Nat) (i_t_pastMany : Int) (i_t_isSaved : Int) (i_t_thrown : Int) (i_t_inputMany : Int) (i_t_lastError : Int) (i_t_lastOffset : Int) (i_t_error : Int) (i_t_offset : Int) (i_t_nextByte : Int) (i_t_begin : Int) (i_t_value : Int) (i_t_token : Int) (i_t_got : Int) (i_t_orders : Int) (i_t_outputMany : Int) (i_t_w : (Int → Int)) (i_t_past : (Int → Int)) (i_t_input : (Int → Int)) (i_t_n : (Int → Int)) (i_t_order : (Int → Int)) (i_t_numbers : (Int → Int)) : va_W := [(a_t, .inr (11, [.ref a_t_w, .ref a_t_wKept, .ref a_t_saved, .ref a_t_past, jk_V i_t_pastMany, jk_V i_t_isSaved, jk_V i_t_thrown, .ref a_t_input, jk_V i_t_inputMany, jk_V i_t_lastError, jk_V i_t_lastOffset, jk_V i_t_error, jk_V i_t_offset, jk_V i_t_nextByte, jk_V i_t_begin, jk_V i_t_value, jk_V i_t_token, jk_V i_t_got, .ref a_t_n, .ref a_t_order, .ref a_t_numbers, jk_V i_t_orders, .ref a_t_output, jk_V i_t_outputMany])), (a_t_w, jk_W cI 259 i_t_w), (a_t_past, jk_W cI 2072 i_t_past), (a_t_input, jk_W cI 700 i_t_input), (a_t_n, jk_W cI 3 i_t_n), (a_t_order, jk_W cI 31 i_t_order), (a_t_numbers, jk_W cI 93 i_t_numbers)]
set_option maxHeartbeats 4000000 in
set_option maxRecDepth 20000 in
theorem ct_Md_runScript (l : Launch) (D : va_G) (Z : (Nat → Prop) → State → Heap → Prop) (sq : Nat → Nat) (hZ : jk_ZK Z sq) (cI cR : ClassId) (a_t a_t_w a_t_wKept a_t_saved a_t_past a_t_input a_t_n a_t_order a_t_numbers a_t_output : Nat) (i_t_pastMany : Int) (i_t_isSaved : Int) (i_t_thrown : Int) (i_t_inputMany : Int) (i_t_lastError : Int) (i_t_lastOffset : Int) (i_t_error : Int) (i_t_offset : Int) (i_t_nextByte : Int) (i_t_begin : Int) (i_t_value : Int) (i_t_token : Int) (i_t_got : Int) (i_t_orders : Int) (i_t_outputMany : Int) (i_t_w : (Int → Int)) (i_t_past : (Int → Int)) (i_t_input : (Int → Int)) (i_t_n : (Int → Int)) (i_t_order : (Int → Int)) (i_t_numbers : (Int → Int)) (q : Int × (Int → Int) × (Int → Int) × Int × Int × Int × Int × Int × Int × Int × Int × Int × Int × Int × Int × (Int → Int) × (Int → Int) × (Int → Int) × Int) (hf : fn_Md_runScript i_t_w i_t_past i_t_pastMany i_t_thrown i_t_input i_t_inputMany i_t_lastError i_t_lastOffset i_t_error i_t_offset i_t_nextByte i_t_begin i_t_value i_t_token i_t_got i_t_n i_t_order i_t_numbers i_t_orders = some q) : jk_MI l D jk_cl (jk_ty cI cR) Z mn_Md_runScript (.code mn_Md_runScript mb_Md_runScript 3 (some .int) :: jk_WA) (jk_rm 10 364) [.ref a_t] (wd_Md_runScript cI a_t a_t_w a_t_wKept a_t_saved a_t_past a_t_input a_t_n a_t_order a_t_numbers a_t_output i_t_pastMany i_t_isSaved i_t_thrown i_t_inputMany i_t_lastError i_t_lastOffset i_t_error i_t_offset i_t_nextByte i_t_begin i_t_value i_t_token i_t_got i_t_orders i_t_outputMany i_t_w i_t_past i_t_input i_t_n i_t_order i_t_numbers) (wd_Md_runScript cI a_t a_t_w a_t_wKept a_t_saved a_t_past a_t_input a_t_n a_t_order a_t_numbers a_t_output q.2.2.2.1 i_t_isSaved q.2.2.2.2.1 q.2.2.2.2.2.1 q.2.2.2.2.2.2.1 q.2.2.2.2.2.2.2.1 q.2.2.2.2.2.2.2.2.1 q.2.2.2.2.2.2.2.2.2.1 q.2.2.2.2.2.2.2.2.2.2.1 q.2.2.2.2.2.2.2.2.2.2.2.1 q.2.2.2.2.2.2.2.2.2.2.2.2.1 q.2.2.2.2.2.2.2.2.2.2.2.2.2.1 q.2.2.2.2.2.2.2.2.2.2.2.2.2.2.1 q.2.2.2.2.2.2.2.2.2.2.2.2.2.2.2.2.2.2 i_t_outputMany q.2.1 q.2.2.1 i_t_input q.2.2.2.2.2.2.2.2.2.2.2.2.2.2.2.1 q.2.2.2.2.2.2.2.2.2.2.2.2.2.2.2.2.1 q.2.2.2.2.2.2.2.2.2.2.2.2.2.2.2.2.2.1) q.1 := by
  intro sz
  refine jk_body (by decide +kernel) (fun p e s m args below meth c hsz hz hin C => ?_) (Nat.le_of_ble_eq_true rfl)
  subst hsz
  unfold fn_Md_runScript at hf
  have bk_46 : ∀ (n : Nat) (t_w : (Int → Int)) (t_past : (Int → Int)) (t_pastMany : Int) (t_thrown : Int) (t_inputMany : Int) (t_lastError : Int) (t_lastOffset : Int) (t_error : Int) (t_offset : Int) (t_nextByte : Int) (t_begin : Int) (t_value : Int) (t_token : Int) (t_got : Int) (t_n : (Int → Int)) (t_order : (Int → Int)) (t_numbers : (Int → Int)) (t_orders : Int) (v2 : Int), fn_Md_runScript_b46 n t_w t_past t_pastMany t_thrown t_inputMany t_lastError t_lastOffset t_error t_offset t_nextByte t_begin t_value t_token t_got t_n t_order t_numbers t_orders v2 = some q → jk_J p l e (jk_rm 10 364) s m args below meth c 0 0 (jk_QI below D jk_cl (jk_ty cI cR) (wd_Md_runScript cI a_t a_t_w a_t_wKept a_t_saved a_t_past a_t_input a_t_n a_t_order a_t_numbers a_t_output i_t_pastMany i_t_isSaved i_t_thrown i_t_inputMany i_t_lastError i_t_lastOffset i_t_error i_t_offset i_t_nextByte i_t_begin i_t_value i_t_token i_t_got i_t_orders i_t_outputMany i_t_w i_t_past i_t_input i_t_n i_t_order i_t_numbers) (wd_Md_runScript cI a_t a_t_w a_t_wKept a_t_saved a_t_past a_t_input a_t_n a_t_order a_t_numbers a_t_output q.2.2.2.1 i_t_isSaved q.2.2.2.2.1 q.2.2.2.2.2.1 q.2.2.2.2.2.2.1 q.2.2.2.2.2.2.2.1 q.2.2.2.2.2.2.2.2.1 q.2.2.2.2.2.2.2.2.2.1 q.2.2.2.2.2.2.2.2.2.2.1 q.2.2.2.2.2.2.2.2.2.2.2.1 q.2.2.2.2.2.2.2.2.2.2.2.2.1 q.2.2.2.2.2.2.2.2.2.2.2.2.2.1 q.2.2.2.2.2.2.2.2.2.2.2.2.2.2.1 q.2.2.2.2.2.2.2.2.2.2.2.2.2.2.2.2.2.2 i_t_outputMany q.2.1 q.2.2.1 i_t_input q.2.2.2.2.2.2.2.2.2.2.2.2.2.2.2.1 q.2.2.2.2.2.2.2.2.2.2.2.2.2.2.2.2.1 q.2.2.2.2.2.2.2.2.2.2.2.2.2.2.2.2.2.1) args s q.1) D jk_cl (va_A (wd_Md_runScript cI a_t a_t_w a_t_wKept a_t_saved a_t_past a_t_input a_t_n a_t_order a_t_numbers a_t_output i_t_pastMany i_t_isSaved i_t_thrown i_t_inputMany i_t_lastError i_t_lastOffset i_t_error i_t_offset i_t_nextByte i_t_begin i_t_value i_t_token i_t_got i_t_orders i_t_outputMany i_t_w i_t_past i_t_input i_t_n i_t_order i_t_numbers) s.heap.size) 3 (wd_Md_runScript cI a_t a_t_w a_t_wKept a_t_saved a_t_past a_t_input a_t_n a_t_order a_t_numbers a_t_output t_pastMany i_t_isSaved t_thrown t_inputMany t_lastError t_lastOffset t_error t_offset t_nextByte t_begin t_value t_token t_got t_orders i_t_outputMany t_w t_past i_t_input t_n t_order t_numbers) [(0, .ref a_t), (2, jk_V v2)] 46 [] := by
    intro n
    induction n with
    | zero => intro t_w t_past t_pastMany t_thrown t_inputMany t_lastError t_lastOffset t_error t_offset t_nextByte t_begin t_value t_token t_got t_n t_order t_numbers t_orders v2 hf; exact nomatch (show none = some q from hf)
    | succ n ih =>
      intro t_w t_past t_pastMany t_thrown t_inputMany t_lastError t_lastOffset t_error t_offset t_nextByte t_begin t_value t_token t_got t_n t_order t_numbers t_orders v2 hf
      rw [fn_Md_runScript_b46] at hf
      refine jk_iload_n C rd_Md_runScript_46 (k := 1) rfl ?_
      refine jk_aload_n C rd_Md_runScript_47 (k := 0) rfl ?_
      refine jk_get C in_Md (ci := 11) rfl 21 (by decide) tm_1284 0 rfl rfl rd_Md_runScript_48 ?_
      refine jk_icmp_ge (tgt := 68) C rd_Md_runScript_51 (by decide) hf (fun _ hf => ?_) (fun _ hf => ?_)
      · refine jk_iload_n C rd_Md_runScript_68 (k := 1) rfl ?_
        cases hf
        exact jk_iret C rfl rd_Md_runScript_69 rfl
      · refine jk_aload_n C rd_Md_runScript_54 (k := 0) rfl ?_
        refine jk_iload_n C rd_Md_runScript_55 (k := 1) rfl ?_
        obtain ⟨q56, hq56, hf⟩ := jk_bind_h hf
        refine jk_callVi C hZ.1 hz (ct_Md_does l D Z sq hZ cI cR a_t a_t_w a_t_wKept a_t_saved a_t_past a_t_input a_t_n a_t_order a_t_numbers a_t_output t_pastMany i_t_isSaved t_thrown t_inputMany t_lastError t_lastOffset t_error t_offset t_nextByte t_begin t_value t_token t_got t_orders i_t_outputMany t_w t_order t_numbers v2 q56 hq56) tm_1516 tm_1518 sl_62 tm_15 tm_1519 na_Md_does ⟨Nat.le_of_ble_eq_true rfl, Nat.le_of_ble_eq_true rfl⟩ rfl [0, 1, 5, 6] rfl rfl rfl (ws' := wd_Md_runScript cI a_t a_t_w a_t_wKept a_t_saved a_t_past a_t_input a_t_n a_t_order a_t_numbers a_t_output t_pastMany i_t_isSaved t_thrown t_inputMany t_lastError t_lastOffset t_error t_offset t_nextByte t_begin t_value t_token t_got t_orders i_t_outputMany q56.2 t_past i_t_input t_n t_order t_numbers) rfl 0 11 rfl rfl rfl (st := []) rfl (Nat.le_of_ble_eq_true rfl) rd_Md_runScript_56 ?_ ⟨Nat.le_refl _, Nat.le_refl _⟩
        refine jk_if_eq (tgt := 68) C rd_Md_runScript_59 (by decide) hf (fun _ hf => ?_) (fun _ hf => ?_)
        · refine jk_iload_n C rd_Md_runScript_68 (k := 1) rfl ?_
          cases hf
          exact jk_iret C rfl rd_Md_runScript_69 rfl
        · refine jk_iinc C rd_Md_runScript_62 (k := 1) rfl (by decide) (lv' := [(2, jk_V (v2 + 1)), (0, .ref a_t)]) rfl ?_
          refine jk_goto (tgt := 46) C rd_Md_runScript_65 (by decide) ?_
          refine jk_lv (lv' := [(0, .ref a_t), (2, jk_V (v2 + 1))]) [1, 0] rfl ?_
          exact ih q56.2 t_past t_pastMany t_thrown t_inputMany t_lastError t_lastOffset t_error t_offset t_nextByte t_begin t_value t_token t_got t_n t_order t_numbers t_orders (v2 + 1) hf
  have bk_30 : ∀ (t_w : (Int → Int)) (t_past : (Int → Int)) (t_pastMany : Int) (t_thrown : Int) (t_inputMany : Int) (t_lastError : Int) (t_lastOffset : Int) (t_error : Int) (t_offset : Int) (t_nextByte : Int) (t_begin : Int) (t_value : Int) (t_token : Int) (t_got : Int) (t_n : (Int → Int)) (t_order : (Int → Int)) (t_numbers : (Int → Int)) (t_orders : Int) (v1 : Int), fn_Md_runScript_b30 t_w t_past t_pastMany t_thrown t_inputMany t_lastError t_lastOffset t_error t_offset t_nextByte t_begin t_value t_token t_got t_n t_order t_numbers t_orders v1 = some q → jk_J p l e (jk_rm 10 364) s m args below meth c 0 0 (jk_QI below D jk_cl (jk_ty cI cR) (wd_Md_runScript cI a_t a_t_w a_t_wKept a_t_saved a_t_past a_t_input a_t_n a_t_order a_t_numbers a_t_output i_t_pastMany i_t_isSaved i_t_thrown i_t_inputMany i_t_lastError i_t_lastOffset i_t_error i_t_offset i_t_nextByte i_t_begin i_t_value i_t_token i_t_got i_t_orders i_t_outputMany i_t_w i_t_past i_t_input i_t_n i_t_order i_t_numbers) (wd_Md_runScript cI a_t a_t_w a_t_wKept a_t_saved a_t_past a_t_input a_t_n a_t_order a_t_numbers a_t_output q.2.2.2.1 i_t_isSaved q.2.2.2.2.1 q.2.2.2.2.2.1 q.2.2.2.2.2.2.1 q.2.2.2.2.2.2.2.1 q.2.2.2.2.2.2.2.2.1 q.2.2.2.2.2.2.2.2.2.1 q.2.2.2.2.2.2.2.2.2.2.1 q.2.2.2.2.2.2.2.2.2.2.2.1 q.2.2.2.2.2.2.2.2.2.2.2.2.1 q.2.2.2.2.2.2.2.2.2.2.2.2.2.1 q.2.2.2.2.2.2.2.2.2.2.2.2.2.2.1 q.2.2.2.2.2.2.2.2.2.2.2.2.2.2.2.2.2.2 i_t_outputMany q.2.1 q.2.2.1 i_t_input q.2.2.2.2.2.2.2.2.2.2.2.2.2.2.2.1 q.2.2.2.2.2.2.2.2.2.2.2.2.2.2.2.2.1 q.2.2.2.2.2.2.2.2.2.2.2.2.2.2.2.2.2.1) args s q.1) D jk_cl (va_A (wd_Md_runScript cI a_t a_t_w a_t_wKept a_t_saved a_t_past a_t_input a_t_n a_t_order a_t_numbers a_t_output i_t_pastMany i_t_isSaved i_t_thrown i_t_inputMany i_t_lastError i_t_lastOffset i_t_error i_t_offset i_t_nextByte i_t_begin i_t_value i_t_token i_t_got i_t_orders i_t_outputMany i_t_w i_t_past i_t_input i_t_n i_t_order i_t_numbers) s.heap.size) 3 (wd_Md_runScript cI a_t a_t_w a_t_wKept a_t_saved a_t_past a_t_input a_t_n a_t_order a_t_numbers a_t_output t_pastMany i_t_isSaved t_thrown t_inputMany t_lastError t_lastOffset t_error t_offset t_nextByte t_begin t_value t_token t_got t_orders i_t_outputMany t_w t_past i_t_input t_n t_order t_numbers) [(0, .ref a_t), (1, jk_V v1)] 30 [] := by
    intro t_w t_past t_pastMany t_thrown t_inputMany t_lastError t_lastOffset t_error t_offset t_nextByte t_begin t_value t_token t_got t_n t_order t_numbers t_orders v1 hf
    unfold fn_Md_runScript_b30 at hf
    refine jk_aload_n C rd_Md_runScript_30 (k := 0) rfl ?_
    obtain ⟨q31, hq31, hf⟩ := jk_bind_h hf
    refine jk_callVv C hZ.1 hz (ct_Md_endsText l D Z sq hZ cI cR a_t a_t_w a_t_wKept a_t_saved a_t_past a_t_input a_t_n a_t_order a_t_numbers a_t_output t_pastMany i_t_isSaved t_thrown t_inputMany t_lastError t_lastOffset t_error t_offset t_nextByte t_begin t_value t_token t_got t_orders i_t_outputMany q31 hq31) tm_1478 tm_1480 sl_55 tm_15 tm_1481 na_Md_endsText ⟨Nat.le_of_ble_eq_true rfl, Nat.le_of_ble_eq_true rfl⟩ rfl [0] rfl rfl rfl (ws' := wd_Md_runScript cI a_t a_t_w a_t_wKept a_t_saved a_t_past a_t_input a_t_n a_t_order a_t_numbers a_t_output t_pastMany i_t_isSaved t_thrown q31.1 q31.2.1 q31.2.2 t_error t_offset t_nextByte t_begin t_value t_token t_got t_orders i_t_outputMany t_w t_past i_t_input t_n t_order t_numbers) rfl 0 11 rfl rfl rfl (st := []) rfl (Nat.le_of_ble_eq_true rfl) rd_Md_runScript_31 ?_ ⟨Nat.le_refl _, Nat.le_refl _⟩
    refine jk_iload_n C rd_Md_runScript_34 (k := 1) rfl ?_
    refine jk_if_ne (tgt := 40) C rd_Md_runScript_35 (by decide) hf (fun _ hf => ?_) (fun _ hf => ?_)
    · refine jk_aload_n C rd_Md_runScript_40 (k := 0) rfl ?_
      obtain ⟨q41, hq41, hf⟩ := jk_bind_h hf
      refine jk_callVv C hZ.1 hz (ct_Md_remembers l D Z sq hZ cI cR a_t a_t_w a_t_wKept a_t_saved a_t_past a_t_input a_t_n a_t_order a_t_numbers a_t_output t_pastMany i_t_isSaved t_thrown q31.1 q31.2.1 q31.2.2 t_error t_offset t_nextByte t_begin t_value t_token t_got t_orders i_t_outputMany t_w t_past q41 hq41) tm_1512 tm_1514 sl_61 tm_15 tm_1515 na_Md_remembers ⟨Nat.le_of_ble_eq_true rfl, Nat.le_of_ble_eq_true rfl⟩ rfl [0, 1, 2] rfl rfl rfl (ws' := wd_Md_runScript cI a_t a_t_w a_t_wKept a_t_saved a_t_past a_t_input a_t_n a_t_order a_t_numbers a_t_output q41.2 i_t_isSaved t_thrown q31.1 q31.2.1 q31.2.2 t_error t_offset t_nextByte t_begin t_value t_token t_got t_orders i_t_outputMany t_w q41.1 i_t_input t_n t_order t_numbers) rfl 0 11 rfl rfl rfl (st := []) rfl (Nat.le_of_ble_eq_true rfl) rd_Md_runScript_41 ?_ ⟨Nat.le_refl _, Nat.le_refl _⟩
      refine jk_iconst C rd_Md_runScript_44 ?_
      refine jk_istore_n C rd_Md_runScript_45 (by decide) (lv' := [(2, jk_V 0), (0, .ref a_t), (1, jk_V v1)]) rfl ?_
      refine jk_lv (lv' := [(0, .ref a_t), (2, jk_V 0)]) [1, 0] rfl ?_
      exact bk_46 jk_F t_w q41.1 q41.2 t_thrown q31.1 q31.2.1 q31.2.2 t_error t_offset t_nextByte t_begin t_value t_token t_got t_n t_order t_numbers t_orders 0 hf
    · refine jk_iconst C rd_Md_runScript_38 ?_
      cases hf
      exact jk_iret C rfl rd_Md_runScript_39 rfl
  have bk_11 : ∀ (n : Nat) (t_w : (Int → Int)) (t_past : (Int → Int)) (t_pastMany : Int) (t_thrown : Int) (t_inputMany : Int) (t_lastError : Int) (t_lastOffset : Int) (t_error : Int) (t_offset : Int) (t_nextByte : Int) (t_begin : Int) (t_value : Int) (t_token : Int) (t_got : Int) (t_n : (Int → Int)) (t_order : (Int → Int)) (t_numbers : (Int → Int)) (t_orders : Int) (v1 : Int), fn_Md_runScript_b11 n t_w t_past t_pastMany t_thrown i_t_input t_inputMany t_lastError t_lastOffset t_error t_offset t_nextByte t_begin t_value t_token t_got t_n t_order t_numbers t_orders v1 = some q → jk_J p l e (jk_rm 10 364) s m args below meth c 0 0 (jk_QI below D jk_cl (jk_ty cI cR) (wd_Md_runScript cI a_t a_t_w a_t_wKept a_t_saved a_t_past a_t_input a_t_n a_t_order a_t_numbers a_t_output i_t_pastMany i_t_isSaved i_t_thrown i_t_inputMany i_t_lastError i_t_lastOffset i_t_error i_t_offset i_t_nextByte i_t_begin i_t_value i_t_token i_t_got i_t_orders i_t_outputMany i_t_w i_t_past i_t_input i_t_n i_t_order i_t_numbers) (wd_Md_runScript cI a_t a_t_w a_t_wKept a_t_saved a_t_past a_t_input a_t_n a_t_order a_t_numbers a_t_output q.2.2.2.1 i_t_isSaved q.2.2.2.2.1 q.2.2.2.2.2.1 q.2.2.2.2.2.2.1 q.2.2.2.2.2.2.2.1 q.2.2.2.2.2.2.2.2.1 q.2.2.2.2.2.2.2.2.2.1 q.2.2.2.2.2.2.2.2.2.2.1 q.2.2.2.2.2.2.2.2.2.2.2.1 q.2.2.2.2.2.2.2.2.2.2.2.2.1 q.2.2.2.2.2.2.2.2.2.2.2.2.2.1 q.2.2.2.2.2.2.2.2.2.2.2.2.2.2.1 q.2.2.2.2.2.2.2.2.2.2.2.2.2.2.2.2.2.2 i_t_outputMany q.2.1 q.2.2.1 i_t_input q.2.2.2.2.2.2.2.2.2.2.2.2.2.2.2.1 q.2.2.2.2.2.2.2.2.2.2.2.2.2.2.2.2.1 q.2.2.2.2.2.2.2.2.2.2.2.2.2.2.2.2.2.1) args s q.1) D jk_cl (va_A (wd_Md_runScript cI a_t a_t_w a_t_wKept a_t_saved a_t_past a_t_input a_t_n a_t_order a_t_numbers a_t_output i_t_pastMany i_t_isSaved i_t_thrown i_t_inputMany i_t_lastError i_t_lastOffset i_t_error i_t_offset i_t_nextByte i_t_begin i_t_value i_t_token i_t_got i_t_orders i_t_outputMany i_t_w i_t_past i_t_input i_t_n i_t_order i_t_numbers) s.heap.size) 3 (wd_Md_runScript cI a_t a_t_w a_t_wKept a_t_saved a_t_past a_t_input a_t_n a_t_order a_t_numbers a_t_output t_pastMany i_t_isSaved t_thrown t_inputMany t_lastError t_lastOffset t_error t_offset t_nextByte t_begin t_value t_token t_got t_orders i_t_outputMany t_w t_past i_t_input t_n t_order t_numbers) [(0, .ref a_t), (1, jk_V v1)] 11 [] := by
    intro n
    induction n with
    | zero => intro t_w t_past t_pastMany t_thrown t_inputMany t_lastError t_lastOffset t_error t_offset t_nextByte t_begin t_value t_token t_got t_n t_order t_numbers t_orders v1 hf; exact nomatch (show none = some q from hf)
    | succ n ih =>
      intro t_w t_past t_pastMany t_thrown t_inputMany t_lastError t_lastOffset t_error t_offset t_nextByte t_begin t_value t_token t_got t_n t_order t_numbers t_orders v1 hf
      rw [fn_Md_runScript_b11] at hf
      refine jk_iload_n C rd_Md_runScript_11 (k := 1) rfl ?_
      refine jk_if_eq (tgt := 30) C rd_Md_runScript_12 (by decide) hf (fun _ hf => ?_) (fun _ hf => ?_)
      · refine jk_lv (lv' := [(0, .ref a_t), (1, jk_V v1)]) [0, 1] rfl ?_
        exact bk_30 t_w t_past t_pastMany t_thrown t_inputMany t_lastError t_lastOffset t_error t_offset t_nextByte t_begin t_value t_token t_got t_n t_order t_numbers t_orders v1 hf
      · refine jk_aload_n C rd_Md_runScript_15 (k := 0) rfl ?_
        refine jk_get C in_Md (ci := 11) rfl 16 (by decide) tm_1279 0 rfl rfl rd_Md_runScript_16 ?_
        refine jk_if_eq (tgt := 30) C rd_Md_runScript_19 (by decide) hf (fun _ hf => ?_) (fun _ hf => ?_)
        · refine jk_lv (lv' := [(0, .ref a_t), (1, jk_V v1)]) [0, 1] rfl ?_
          exact bk_30 t_w t_past t_pastMany t_thrown t_inputMany t_lastError t_lastOffset t_error t_offset t_nextByte t_begin t_value t_token t_got t_n t_order t_numbers t_orders v1 hf
        · refine jk_aload_n C rd_Md_runScript_22 (k := 0) rfl ?_
          obtain ⟨q23, hq23, hf⟩ := jk_bind_h hf
          refine jk_callVi C hZ.1 hz (ct_Md_readScriptStatement l D Z sq hZ cI cR a_t a_t_w a_t_wKept a_t_saved a_t_past a_t_input a_t_n a_t_order a_t_numbers a_t_output t_pastMany i_t_isSaved t_thrown t_inputMany t_lastError t_lastOffset t_error t_offset t_nextByte t_begin t_value t_token t_got t_orders i_t_outputMany t_w i_t_input t_n t_order t_numbers q23 hq23) tm_1486 tm_1488 sl_56 tm_15 tm_1489 na_Md_readScriptStatement ⟨Nat.le_of_ble_eq_true rfl, Nat.le_of_ble_eq_true rfl⟩ rfl [0, 1, 3, 4, 5, 6] rfl rfl rfl (ws' := wd_Md_runScript cI a_t a_t_w a_t_wKept a_t_saved a_t_past a_t_input a_t_n a_t_order a_t_numbers a_t_output t_pastMany i_t_isSaved t_thrown t_inputMany t_lastError t_lastOffset q23.2.1 q23.2.2.1 q23.2.2.2.1 q23.2.2.2.2.1 q23.2.2.2.2.2.1 q23.2.2.2.2.2.2.1 q23.2.2.2.2.2.2.2.1 q23.2.2.2.2.2.2.2.2.2.2.2 i_t_outputMany t_w t_past i_t_input q23.2.2.2.2.2.2.2.2.1 q23.2.2.2.2.2.2.2.2.2.1 q23.2.2.2.2.2.2.2.2.2.2.1) rfl 0 11 rfl rfl rfl (st := []) rfl (Nat.le_of_ble_eq_true rfl) rd_Md_runScript_23 ?_ ⟨Nat.le_refl _, Nat.le_refl _⟩
          refine jk_istore_n C rd_Md_runScript_26 (by decide) (lv' := [(1, jk_V q23.1), (0, .ref a_t)]) rfl ?_
          refine jk_goto (tgt := 11) C rd_Md_runScript_27 (by decide) ?_
          refine jk_lv (lv' := [(0, .ref a_t), (1, jk_V q23.1)]) [1, 0] rfl ?_
          exact ih t_w t_past t_pastMany t_thrown t_inputMany t_lastError t_lastOffset q23.2.1 q23.2.2.1 q23.2.2.2.1 q23.2.2.2.2.1 q23.2.2.2.2.2.1 q23.2.2.2.2.2.2.1 q23.2.2.2.2.2.2.2.1 q23.2.2.2.2.2.2.2.2.1 q23.2.2.2.2.2.2.2.2.2.1 q23.2.2.2.2.2.2.2.2.2.2.1 q23.2.2.2.2.2.2.2.2.2.2.2 q23.1 hf
  refine jk_aload_n C rd_Md_runScript_0 (k := 0) rfl ?_
  refine jk_iconst C rd_Md_runScript_1 ?_
  refine jk_putf C in_Md ty_Md nm_Md (ci := 11) rfl 6 (by decide) tm_1269 rfl rfl rfl 0 rfl (Nat.le_of_ble_eq_true rfl) rd_Md_runScript_2 (ws' := wd_Md_runScript cI a_t a_t_w a_t_wKept a_t_saved a_t_past a_t_input a_t_n a_t_order a_t_numbers a_t_output i_t_pastMany i_t_isSaved 0 i_t_inputMany i_t_lastError i_t_lastOffset i_t_error i_t_offset i_t_nextByte i_t_begin i_t_value i_t_token i_t_got i_t_orders i_t_outputMany i_t_w i_t_past i_t_input i_t_n i_t_order i_t_numbers) rfl ?_
  refine jk_aload_n C rd_Md_runScript_5 (k := 0) rfl ?_
  obtain ⟨q6, hq6, hf⟩ := jk_bind_h hf
  refine jk_callVv C hZ.1 hz (ct_Md_startsText l D Z sq hZ cI cR a_t a_t_w a_t_wKept a_t_saved a_t_past a_t_input a_t_n a_t_order a_t_numbers a_t_output i_t_pastMany i_t_isSaved 0 i_t_inputMany i_t_lastError i_t_lastOffset i_t_error i_t_offset i_t_nextByte i_t_begin i_t_value i_t_token i_t_got i_t_orders i_t_outputMany i_t_input q6 hq6) tm_1362 tm_1364 sl_28 tm_15 tm_1365 na_Md_startsText ⟨Nat.le_of_ble_eq_true rfl, Nat.le_of_ble_eq_true rfl⟩ rfl [0, 3] rfl rfl rfl (ws' := wd_Md_runScript cI a_t a_t_w a_t_wKept a_t_saved a_t_past a_t_input a_t_n a_t_order a_t_numbers a_t_output i_t_pastMany i_t_isSaved 0 i_t_inputMany i_t_lastError i_t_lastOffset q6.1 q6.2.1 q6.2.2.1 q6.2.2.2.1 q6.2.2.2.2.1 q6.2.2.2.2.2.1 i_t_got q6.2.2.2.2.2.2 i_t_outputMany i_t_w i_t_past i_t_input i_t_n i_t_order i_t_numbers) rfl 0 11 rfl rfl rfl (st := []) rfl (Nat.le_of_ble_eq_true rfl) rd_Md_runScript_6 ?_ ⟨Nat.le_refl _, Nat.le_refl _⟩
  refine jk_iconst C rd_Md_runScript_9 ?_
  refine jk_istore_n C rd_Md_runScript_10 (by decide) (lv' := [(1, jk_V 1), (0, .ref a_t)]) rfl ?_
  refine jk_lv (lv' := [(0, .ref a_t), (1, jk_V 1)]) [1, 0] rfl ?_
  exact bk_11 jk_F i_t_w i_t_past i_t_pastMany 0 i_t_inputMany i_t_lastError i_t_lastOffset q6.1 q6.2.1 q6.2.2.1 q6.2.2.2.1 q6.2.2.2.2.1 q6.2.2.2.2.2.1 i_t_got i_t_n i_t_order i_t_numbers q6.2.2.2.2.2.2 1 hf
def wd_Md_errorCode (cI : ClassId) (a_t a_t_w a_t_wKept a_t_saved a_t_past a_t_input a_t_n a_t_order a_t_numbers a_t_output : Nat) (i_t_pastMany : Int) (i_t_isSaved : Int) (i_t_thrown : Int) (i_t_inputMany : Int) (i_t_lastError : Int) (i_t_lastOffset : Int) (i_t_error : Int) (i_t_offset : Int) (i_t_nextByte : Int) (i_t_begin : Int) (i_t_value : Int) (i_t_token : Int) (i_t_got : Int) (i_t_orders : Int) (i_t_outputMany : Int) : va_W := [(a_t, .inr (11, [.ref a_t_w, .ref a_t_wKept, .ref a_t_saved, .ref a_t_past, jk_V i_t_pastMany, jk_V i_t_isSaved, jk_V i_t_thrown, .ref a_t_input, jk_V i_t_inputMany, jk_V i_t_lastError, jk_V i_t_lastOffset, jk_V i_t_error, jk_V i_t_offset, jk_V i_t_nextByte, jk_V i_t_begin, jk_V i_t_value, jk_V i_t_token, jk_V i_t_got, .ref a_t_n, .ref a_t_order, .ref a_t_numbers, jk_V i_t_orders, .ref a_t_output, jk_V i_t_outputMany]))]
set_option maxHeartbeats 4000000 in
set_option maxRecDepth 20000 in
theorem ct_Md_errorCode (l : Launch) (D : va_G) (Z : (Nat → Prop) → State → Heap → Prop) (sq : Nat → Nat) (hZ : jk_ZK Z sq) (cI cR : ClassId) (a_t a_t_w a_t_wKept a_t_saved a_t_past a_t_input a_t_n a_t_order a_t_numbers a_t_output : Nat) (i_t_pastMany : Int) (i_t_isSaved : Int) (i_t_thrown : Int) (i_t_inputMany : Int) (i_t_lastError : Int) (i_t_lastOffset : Int) (i_t_error : Int) (i_t_offset : Int) (i_t_nextByte : Int) (i_t_begin : Int) (i_t_value : Int) (i_t_token : Int) (i_t_got : Int) (i_t_orders : Int) (i_t_outputMany : Int) (q : Int × Int) (hf : fn_Md_errorCode i_t_thrown i_t_lastError = some q) : jk_MI l D jk_cl (jk_ty cI cR) Z mn_Md_errorCode (.code mn_Md_errorCode mb_Md_errorCode 1 (some .int) :: jk_WA) (jk_rm 0 0) [.ref a_t] (wd_Md_errorCode cI a_t a_t_w a_t_wKept a_t_saved a_t_past a_t_input a_t_n a_t_order a_t_numbers a_t_output i_t_pastMany i_t_isSaved i_t_thrown i_t_inputMany i_t_lastError i_t_lastOffset i_t_error i_t_offset i_t_nextByte i_t_begin i_t_value i_t_token i_t_got i_t_orders i_t_outputMany) (wd_Md_errorCode cI a_t a_t_w a_t_wKept a_t_saved a_t_past a_t_input a_t_n a_t_order a_t_numbers a_t_output i_t_pastMany i_t_isSaved q.2 i_t_inputMany i_t_lastError i_t_lastOffset i_t_error i_t_offset i_t_nextByte i_t_begin i_t_value i_t_token i_t_got i_t_orders i_t_outputMany) q.1 := by
  intro sz
  refine jk_body (by decide +kernel) (fun p e s m args below meth c hsz hz hin C => ?_) (Nat.le_of_ble_eq_true rfl)
  subst hsz
  unfold fn_Md_errorCode at hf
  refine jk_aload_n C rd_Md_errorCode_0 (k := 0) rfl ?_
  refine jk_iconst C rd_Md_errorCode_1 ?_
  refine jk_putf C in_Md ty_Md nm_Md (ci := 11) rfl 6 (by decide) tm_1269 rfl rfl rfl 0 rfl (Nat.le_of_ble_eq_true rfl) rd_Md_errorCode_2 (ws' := wd_Md_errorCode cI a_t a_t_w a_t_wKept a_t_saved a_t_past a_t_input a_t_n a_t_order a_t_numbers a_t_output i_t_pastMany i_t_isSaved 0 i_t_inputMany i_t_lastError i_t_lastOffset i_t_error i_t_offset i_t_nextByte i_t_begin i_t_value i_t_token i_t_got i_t_orders i_t_outputMany) rfl ?_
  refine jk_aload_n C rd_Md_errorCode_5 (k := 0) rfl ?_
  refine jk_get C in_Md (ci := 11) rfl 9 (by decide) tm_1272 0 rfl rfl rd_Md_errorCode_6 ?_
  cases hf
  exact jk_iret C rfl rd_Md_errorCode_9 rfl
def wd_Md_errorOffset (cI : ClassId) (a_t a_t_w a_t_wKept a_t_saved a_t_past a_t_input a_t_n a_t_order a_t_numbers a_t_output : Nat) (i_t_pastMany : Int) (i_t_isSaved : Int) (i_t_thrown : Int) (i_t_inputMany : Int) (i_t_lastError : Int) (i_t_lastOffset : Int) (i_t_error : Int) (i_t_offset : Int) (i_t_nextByte : Int) (i_t_begin : Int) (i_t_value : Int) (i_t_token : Int) (i_t_got : Int) (i_t_orders : Int) (i_t_outputMany : Int) : va_W := [(a_t, .inr (11, [.ref a_t_w, .ref a_t_wKept, .ref a_t_saved, .ref a_t_past, jk_V i_t_pastMany, jk_V i_t_isSaved, jk_V i_t_thrown, .ref a_t_input, jk_V i_t_inputMany, jk_V i_t_lastError, jk_V i_t_lastOffset, jk_V i_t_error, jk_V i_t_offset, jk_V i_t_nextByte, jk_V i_t_begin, jk_V i_t_value, jk_V i_t_token, jk_V i_t_got, .ref a_t_n, .ref a_t_order, .ref a_t_numbers, jk_V i_t_orders, .ref a_t_output, jk_V i_t_outputMany]))]
set_option maxHeartbeats 4000000 in
set_option maxRecDepth 20000 in
theorem ct_Md_errorOffset (l : Launch) (D : va_G) (Z : (Nat → Prop) → State → Heap → Prop) (sq : Nat → Nat) (hZ : jk_ZK Z sq) (cI cR : ClassId) (a_t a_t_w a_t_wKept a_t_saved a_t_past a_t_input a_t_n a_t_order a_t_numbers a_t_output : Nat) (i_t_pastMany : Int) (i_t_isSaved : Int) (i_t_thrown : Int) (i_t_inputMany : Int) (i_t_lastError : Int) (i_t_lastOffset : Int) (i_t_error : Int) (i_t_offset : Int) (i_t_nextByte : Int) (i_t_begin : Int) (i_t_value : Int) (i_t_token : Int) (i_t_got : Int) (i_t_orders : Int) (i_t_outputMany : Int) (q : Int × Int) (hf : fn_Md_errorOffset i_t_thrown i_t_lastOffset = some q) : jk_MI l D jk_cl (jk_ty cI cR) Z mn_Md_errorOffset (.code mn_Md_errorOffset mb_Md_errorOffset 1 (some .int) :: jk_WA) (jk_rm 0 0) [.ref a_t] (wd_Md_errorOffset cI a_t a_t_w a_t_wKept a_t_saved a_t_past a_t_input a_t_n a_t_order a_t_numbers a_t_output i_t_pastMany i_t_isSaved i_t_thrown i_t_inputMany i_t_lastError i_t_lastOffset i_t_error i_t_offset i_t_nextByte i_t_begin i_t_value i_t_token i_t_got i_t_orders i_t_outputMany) (wd_Md_errorOffset cI a_t a_t_w a_t_wKept a_t_saved a_t_past a_t_input a_t_n a_t_order a_t_numbers a_t_output i_t_pastMany i_t_isSaved q.2 i_t_inputMany i_t_lastError i_t_lastOffset i_t_error i_t_offset i_t_nextByte i_t_begin i_t_value i_t_token i_t_got i_t_orders i_t_outputMany) q.1 := by
  intro sz
  refine jk_body (by decide +kernel) (fun p e s m args below meth c hsz hz hin C => ?_) (Nat.le_of_ble_eq_true rfl)
  subst hsz
  unfold fn_Md_errorOffset at hf
  refine jk_aload_n C rd_Md_errorOffset_0 (k := 0) rfl ?_
  refine jk_iconst C rd_Md_errorOffset_1 ?_
  refine jk_putf C in_Md ty_Md nm_Md (ci := 11) rfl 6 (by decide) tm_1269 rfl rfl rfl 0 rfl (Nat.le_of_ble_eq_true rfl) rd_Md_errorOffset_2 (ws' := wd_Md_errorOffset cI a_t a_t_w a_t_wKept a_t_saved a_t_past a_t_input a_t_n a_t_order a_t_numbers a_t_output i_t_pastMany i_t_isSaved 0 i_t_inputMany i_t_lastError i_t_lastOffset i_t_error i_t_offset i_t_nextByte i_t_begin i_t_value i_t_token i_t_got i_t_orders i_t_outputMany) rfl ?_
  refine jk_aload_n C rd_Md_errorOffset_5 (k := 0) rfl ?_
  refine jk_get C in_Md (ci := 11) rfl 10 (by decide) tm_1273 0 rfl rfl rd_Md_errorOffset_6 ?_
  cases hf
  exact jk_iret C rfl rd_Md_errorOffset_9 rfl
def wd_Md_topicCount (cI : ClassId) (a_t a_t_w a_t_wKept a_t_saved a_t_past a_t_input a_t_n a_t_order a_t_numbers a_t_output : Nat) (i_t_pastMany : Int) (i_t_isSaved : Int) (i_t_thrown : Int) (i_t_inputMany : Int) (i_t_lastError : Int) (i_t_lastOffset : Int) (i_t_error : Int) (i_t_offset : Int) (i_t_nextByte : Int) (i_t_begin : Int) (i_t_value : Int) (i_t_token : Int) (i_t_got : Int) (i_t_orders : Int) (i_t_outputMany : Int) (i_t_w : (Int → Int)) : va_W := [(a_t, .inr (11, [.ref a_t_w, .ref a_t_wKept, .ref a_t_saved, .ref a_t_past, jk_V i_t_pastMany, jk_V i_t_isSaved, jk_V i_t_thrown, .ref a_t_input, jk_V i_t_inputMany, jk_V i_t_lastError, jk_V i_t_lastOffset, jk_V i_t_error, jk_V i_t_offset, jk_V i_t_nextByte, jk_V i_t_begin, jk_V i_t_value, jk_V i_t_token, jk_V i_t_got, .ref a_t_n, .ref a_t_order, .ref a_t_numbers, jk_V i_t_orders, .ref a_t_output, jk_V i_t_outputMany])), (a_t_w, jk_W cI 259 i_t_w)]
set_option maxHeartbeats 4000000 in
set_option maxRecDepth 20000 in
theorem ct_Md_topicCount (l : Launch) (D : va_G) (Z : (Nat → Prop) → State → Heap → Prop) (sq : Nat → Nat) (hZ : jk_ZK Z sq) (cI cR : ClassId) (a_t a_t_w a_t_wKept a_t_saved a_t_past a_t_input a_t_n a_t_order a_t_numbers a_t_output : Nat) (i_t_pastMany : Int) (i_t_isSaved : Int) (i_t_thrown : Int) (i_t_inputMany : Int) (i_t_lastError : Int) (i_t_lastOffset : Int) (i_t_error : Int) (i_t_offset : Int) (i_t_nextByte : Int) (i_t_begin : Int) (i_t_value : Int) (i_t_token : Int) (i_t_got : Int) (i_t_orders : Int) (i_t_outputMany : Int) (i_t_w : (Int → Int)) (q : Int × Int) (hf : fn_Md_topicCount i_t_w i_t_thrown = some q) : jk_MI l D jk_cl (jk_ty cI cR) Z mn_Md_topicCount (.code mn_Md_topicCount mb_Md_topicCount 1 (some .int) :: jk_WA) (jk_rm 0 0) [.ref a_t] (wd_Md_topicCount cI a_t a_t_w a_t_wKept a_t_saved a_t_past a_t_input a_t_n a_t_order a_t_numbers a_t_output i_t_pastMany i_t_isSaved i_t_thrown i_t_inputMany i_t_lastError i_t_lastOffset i_t_error i_t_offset i_t_nextByte i_t_begin i_t_value i_t_token i_t_got i_t_orders i_t_outputMany i_t_w) (wd_Md_topicCount cI a_t a_t_w a_t_wKept a_t_saved a_t_past a_t_input a_t_n a_t_order a_t_numbers a_t_output i_t_pastMany i_t_isSaved q.2 i_t_inputMany i_t_lastError i_t_lastOffset i_t_error i_t_offset i_t_nextByte i_t_begin i_t_value i_t_token i_t_got i_t_orders i_t_outputMany i_t_w) q.1 := by
  intro sz
  refine jk_body (by decide +kernel) (fun p e s m args below meth c hsz hz hin C => ?_) (Nat.le_of_ble_eq_true rfl)
  subst hsz
  unfold fn_Md_topicCount at hf
  refine jk_aload_n C rd_Md_topicCount_0 (k := 0) rfl ?_
  refine jk_iconst C rd_Md_topicCount_1 ?_
  refine jk_putf C in_Md ty_Md nm_Md (ci := 11) rfl 6 (by decide) tm_1269 rfl rfl rfl 0 rfl (Nat.le_of_ble_eq_true rfl) rd_Md_topicCount_2 (ws' := wd_Md_topicCount cI a_t a_t_w a_t_wKept a_t_saved a_t_past a_t_input a_t_n a_t_order a_t_numbers a_t_output i_t_pastMany i_t_isSaved 0 i_t_inputMany i_t_lastError i_t_lastOffset i_t_error i_t_offset i_t_nextByte i_t_begin i_t_value i_t_token i_t_got i_t_orders i_t_outputMany i_t_w) rfl ?_
  refine jk_aload_n C rd_Md_topicCount_5 (k := 0) rfl ?_
  refine jk_get C in_Md (ci := 11) rfl 0 (by decide) tm_1263 0 rfl rfl rd_Md_topicCount_6 ?_
  refine jk_iconst C rd_Md_topicCount_9 ?_
  refine jk_iald C 1 0 rfl rfl (Nat.le_of_ble_eq_true rfl) rd_Md_topicCount_10 hf (fun hf => ?_)
  cases hf
  exact jk_iret C rfl rd_Md_topicCount_11 rfl
def wd_Md_clusterCount (cI : ClassId) (a_t a_t_w a_t_wKept a_t_saved a_t_past a_t_input a_t_n a_t_order a_t_numbers a_t_output : Nat) (i_t_pastMany : Int) (i_t_isSaved : Int) (i_t_thrown : Int) (i_t_inputMany : Int) (i_t_lastError : Int) (i_t_lastOffset : Int) (i_t_error : Int) (i_t_offset : Int) (i_t_nextByte : Int) (i_t_begin : Int) (i_t_value : Int) (i_t_token : Int) (i_t_got : Int) (i_t_orders : Int) (i_t_outputMany : Int) (i_t_w : (Int → Int)) : va_W := [(a_t, .inr (11, [.ref a_t_w, .ref a_t_wKept, .ref a_t_saved, .ref a_t_past, jk_V i_t_pastMany, jk_V i_t_isSaved, jk_V i_t_thrown, .ref a_t_input, jk_V i_t_inputMany, jk_V i_t_lastError, jk_V i_t_lastOffset, jk_V i_t_error, jk_V i_t_offset, jk_V i_t_nextByte, jk_V i_t_begin, jk_V i_t_value, jk_V i_t_token, jk_V i_t_got, .ref a_t_n, .ref a_t_order, .ref a_t_numbers, jk_V i_t_orders, .ref a_t_output, jk_V i_t_outputMany])), (a_t_w, jk_W cI 259 i_t_w)]
set_option maxHeartbeats 4000000 in
set_option maxRecDepth 20000 in
theorem ct_Md_clusterCount (l : Launch) (D : va_G) (Z : (Nat → Prop) → State → Heap → Prop) (sq : Nat → Nat) (hZ : jk_ZK Z sq) (cI cR : ClassId) (a_t a_t_w a_t_wKept a_t_saved a_t_past a_t_input a_t_n a_t_order a_t_numbers a_t_output : Nat) (i_t_pastMany : Int) (i_t_isSaved : Int) (i_t_thrown : Int) (i_t_inputMany : Int) (i_t_lastError : Int) (i_t_lastOffset : Int) (i_t_error : Int) (i_t_offset : Int) (i_t_nextByte : Int) (i_t_begin : Int) (i_t_value : Int) (i_t_token : Int) (i_t_got : Int) (i_t_orders : Int) (i_t_outputMany : Int) (i_t_w : (Int → Int)) (q : Int × Int) (hf : fn_Md_clusterCount i_t_w i_t_thrown = some q) : jk_MI l D jk_cl (jk_ty cI cR) Z mn_Md_clusterCount (.code mn_Md_clusterCount mb_Md_clusterCount 1 (some .int) :: jk_WA) (jk_rm 0 0) [.ref a_t] (wd_Md_clusterCount cI a_t a_t_w a_t_wKept a_t_saved a_t_past a_t_input a_t_n a_t_order a_t_numbers a_t_output i_t_pastMany i_t_isSaved i_t_thrown i_t_inputMany i_t_lastError i_t_lastOffset i_t_error i_t_offset i_t_nextByte i_t_begin i_t_value i_t_token i_t_got i_t_orders i_t_outputMany i_t_w) (wd_Md_clusterCount cI a_t a_t_w a_t_wKept a_t_saved a_t_past a_t_input a_t_n a_t_order a_t_numbers a_t_output i_t_pastMany i_t_isSaved q.2 i_t_inputMany i_t_lastError i_t_lastOffset i_t_error i_t_offset i_t_nextByte i_t_begin i_t_value i_t_token i_t_got i_t_orders i_t_outputMany i_t_w) q.1 := by
  intro sz
  refine jk_body (by decide +kernel) (fun p e s m args below meth c hsz hz hin C => ?_) (Nat.le_of_ble_eq_true rfl)
  subst hsz
  unfold fn_Md_clusterCount at hf
  refine jk_aload_n C rd_Md_clusterCount_0 (k := 0) rfl ?_
  refine jk_iconst C rd_Md_clusterCount_1 ?_
  refine jk_putf C in_Md ty_Md nm_Md (ci := 11) rfl 6 (by decide) tm_1269 rfl rfl rfl 0 rfl (Nat.le_of_ble_eq_true rfl) rd_Md_clusterCount_2 (ws' := wd_Md_clusterCount cI a_t a_t_w a_t_wKept a_t_saved a_t_past a_t_input a_t_n a_t_order a_t_numbers a_t_output i_t_pastMany i_t_isSaved 0 i_t_inputMany i_t_lastError i_t_lastOffset i_t_error i_t_offset i_t_nextByte i_t_begin i_t_value i_t_token i_t_got i_t_orders i_t_outputMany i_t_w) rfl ?_
  refine jk_aload_n C rd_Md_clusterCount_5 (k := 0) rfl ?_
  refine jk_get C in_Md (ci := 11) rfl 0 (by decide) tm_1263 0 rfl rfl rd_Md_clusterCount_6 ?_
  refine jk_iconst C rd_Md_clusterCount_9 ?_
  refine jk_iald C 1 0 rfl rfl (Nat.le_of_ble_eq_true rfl) rd_Md_clusterCount_10 hf (fun hf => ?_)
  cases hf
  exact jk_iret C rfl rd_Md_clusterCount_11 rfl
def wd_Md_cordCount (cI : ClassId) (a_t a_t_w a_t_wKept a_t_saved a_t_past a_t_input a_t_n a_t_order a_t_numbers a_t_output : Nat) (i_t_pastMany : Int) (i_t_isSaved : Int) (i_t_thrown : Int) (i_t_inputMany : Int) (i_t_lastError : Int) (i_t_lastOffset : Int) (i_t_error : Int) (i_t_offset : Int) (i_t_nextByte : Int) (i_t_begin : Int) (i_t_value : Int) (i_t_token : Int) (i_t_got : Int) (i_t_orders : Int) (i_t_outputMany : Int) (i_t_w : (Int → Int)) : va_W := [(a_t, .inr (11, [.ref a_t_w, .ref a_t_wKept, .ref a_t_saved, .ref a_t_past, jk_V i_t_pastMany, jk_V i_t_isSaved, jk_V i_t_thrown, .ref a_t_input, jk_V i_t_inputMany, jk_V i_t_lastError, jk_V i_t_lastOffset, jk_V i_t_error, jk_V i_t_offset, jk_V i_t_nextByte, jk_V i_t_begin, jk_V i_t_value, jk_V i_t_token, jk_V i_t_got, .ref a_t_n, .ref a_t_order, .ref a_t_numbers, jk_V i_t_orders, .ref a_t_output, jk_V i_t_outputMany])), (a_t_w, jk_W cI 259 i_t_w)]
set_option maxHeartbeats 4000000 in
set_option maxRecDepth 20000 in
theorem ct_Md_cordCount (l : Launch) (D : va_G) (Z : (Nat → Prop) → State → Heap → Prop) (sq : Nat → Nat) (hZ : jk_ZK Z sq) (cI cR : ClassId) (a_t a_t_w a_t_wKept a_t_saved a_t_past a_t_input a_t_n a_t_order a_t_numbers a_t_output : Nat) (i_t_pastMany : Int) (i_t_isSaved : Int) (i_t_thrown : Int) (i_t_inputMany : Int) (i_t_lastError : Int) (i_t_lastOffset : Int) (i_t_error : Int) (i_t_offset : Int) (i_t_nextByte : Int) (i_t_begin : Int) (i_t_value : Int) (i_t_token : Int) (i_t_got : Int) (i_t_orders : Int) (i_t_outputMany : Int) (i_t_w : (Int → Int)) (q : Int × Int) (hf : fn_Md_cordCount i_t_w i_t_thrown = some q) : jk_MI l D jk_cl (jk_ty cI cR) Z mn_Md_cordCount (.code mn_Md_cordCount mb_Md_cordCount 1 (some .int) :: jk_WA) (jk_rm 0 0) [.ref a_t] (wd_Md_cordCount cI a_t a_t_w a_t_wKept a_t_saved a_t_past a_t_input a_t_n a_t_order a_t_numbers a_t_output i_t_pastMany i_t_isSaved i_t_thrown i_t_inputMany i_t_lastError i_t_lastOffset i_t_error i_t_offset i_t_nextByte i_t_begin i_t_value i_t_token i_t_got i_t_orders i_t_outputMany i_t_w) (wd_Md_cordCount cI a_t a_t_w a_t_wKept a_t_saved a_t_past a_t_input a_t_n a_t_order a_t_numbers a_t_output i_t_pastMany i_t_isSaved q.2 i_t_inputMany i_t_lastError i_t_lastOffset i_t_error i_t_offset i_t_nextByte i_t_begin i_t_value i_t_token i_t_got i_t_orders i_t_outputMany i_t_w) q.1 := by
  intro sz
  refine jk_body (by decide +kernel) (fun p e s m args below meth c hsz hz hin C => ?_) (Nat.le_of_ble_eq_true rfl)
  subst hsz
  unfold fn_Md_cordCount at hf
  refine jk_aload_n C rd_Md_cordCount_0 (k := 0) rfl ?_
  refine jk_iconst C rd_Md_cordCount_1 ?_
  refine jk_putf C in_Md ty_Md nm_Md (ci := 11) rfl 6 (by decide) tm_1269 rfl rfl rfl 0 rfl (Nat.le_of_ble_eq_true rfl) rd_Md_cordCount_2 (ws' := wd_Md_cordCount cI a_t a_t_w a_t_wKept a_t_saved a_t_past a_t_input a_t_n a_t_order a_t_numbers a_t_output i_t_pastMany i_t_isSaved 0 i_t_inputMany i_t_lastError i_t_lastOffset i_t_error i_t_offset i_t_nextByte i_t_begin i_t_value i_t_token i_t_got i_t_orders i_t_outputMany i_t_w) rfl ?_
  refine jk_aload_n C rd_Md_cordCount_5 (k := 0) rfl ?_
  refine jk_get C in_Md (ci := 11) rfl 0 (by decide) tm_1263 0 rfl rfl rd_Md_cordCount_6 ?_
  refine jk_iconst C rd_Md_cordCount_9 ?_
  refine jk_iald C 1 0 rfl rfl (Nat.le_of_ble_eq_true rfl) rd_Md_cordCount_10 hf (fun hf => ?_)
  cases hf
  exact jk_iret C rfl rd_Md_cordCount_11 rfl
def wd_Md_noTopic (cI : ClassId) (a_t a_t_w a_t_wKept a_t_saved a_t_past a_t_input a_t_n a_t_order a_t_numbers a_t_output : Nat) (i_t_pastMany : Int) (i_t_isSaved : Int) (i_t_thrown : Int) (i_t_inputMany : Int) (i_t_lastError : Int) (i_t_lastOffset : Int) (i_t_error : Int) (i_t_offset : Int) (i_t_nextByte : Int) (i_t_begin : Int) (i_t_value : Int) (i_t_token : Int) (i_t_got : Int) (i_t_orders : Int) (i_t_outputMany : Int) (i_t_w : (Int → Int)) : va_W := [(a_t, .inr (11, [.ref a_t_w, .ref a_t_wKept, .ref a_t_saved, .ref a_t_past, jk_V i_t_pastMany, jk_V i_t_isSaved, jk_V i_t_thrown, .ref a_t_input, jk_V i_t_inputMany, jk_V i_t_lastError, jk_V i_t_lastOffset, jk_V i_t_error, jk_V i_t_offset, jk_V i_t_nextByte, jk_V i_t_begin, jk_V i_t_value, jk_V i_t_token, jk_V i_t_got, .ref a_t_n, .ref a_t_order, .ref a_t_numbers, jk_V i_t_orders, .ref a_t_output, jk_V i_t_outputMany])), (a_t_w, jk_W cI 259 i_t_w)]
set_option maxHeartbeats 4000000 in
set_option maxRecDepth 20000 in
theorem ct_Md_noTopic (l : Launch) (D : va_G) (Z : (Nat → Prop) → State → Heap → Prop) (sq : Nat → Nat) (hZ : jk_ZK Z sq) (cI cR : ClassId) (a_t a_t_w a_t_wKept a_t_saved a_t_past a_t_input a_t_n a_t_order a_t_numbers a_t_output : Nat) (i_t_pastMany : Int) (i_t_isSaved : Int) (i_t_thrown : Int) (i_t_inputMany : Int) (i_t_lastError : Int) (i_t_lastOffset : Int) (i_t_error : Int) (i_t_offset : Int) (i_t_nextByte : Int) (i_t_begin : Int) (i_t_value : Int) (i_t_token : Int) (i_t_got : Int) (i_t_orders : Int) (i_t_outputMany : Int) (i_t_w : (Int → Int)) (x1 : Int) (q : Int × Int) (hf : fn_Md_noTopic i_t_w i_t_thrown x1 = some q) : jk_MI l D jk_cl (jk_ty cI cR) Z mn_Md_noTopic (.code mn_Md_noTopic mb_Md_noTopic 2 (some .boolean) :: jk_WA) (jk_rm 2 43) [.ref a_t, jk_V x1] (wd_Md_noTopic cI a_t a_t_w a_t_wKept a_t_saved a_t_past a_t_input a_t_n a_t_order a_t_numbers a_t_output i_t_pastMany i_t_isSaved i_t_thrown i_t_inputMany i_t_lastError i_t_lastOffset i_t_error i_t_offset i_t_nextByte i_t_begin i_t_value i_t_token i_t_got i_t_orders i_t_outputMany i_t_w) (wd_Md_noTopic cI a_t a_t_w a_t_wKept a_t_saved a_t_past a_t_input a_t_n a_t_order a_t_numbers a_t_output i_t_pastMany i_t_isSaved q.2 i_t_inputMany i_t_lastError i_t_lastOffset i_t_error i_t_offset i_t_nextByte i_t_begin i_t_value i_t_token i_t_got i_t_orders i_t_outputMany i_t_w) q.1 := by
  intro sz
  refine jk_body (by decide +kernel) (fun p e s m args below meth c hsz hz hin C => ?_) (Nat.le_of_ble_eq_true rfl)
  subst hsz
  unfold fn_Md_noTopic at hf
  refine jk_aload_n C rd_Md_noTopic_0 (k := 0) rfl ?_
  refine jk_aload_n C rd_Md_noTopic_1 (k := 0) rfl ?_
  refine jk_iload_n C rd_Md_noTopic_2 (k := 1) rfl ?_
  obtain ⟨q3, hq3, hf⟩ := jk_bind_h hf
  refine jk_callVi C hZ.1 hz (ct_Md_isTopic l D Z sq hZ cI cR a_t a_t_w a_t_wKept a_t_saved a_t_past a_t_input a_t_n a_t_order a_t_numbers a_t_output i_t_pastMany i_t_isSaved i_t_thrown i_t_inputMany i_t_lastError i_t_lastOffset i_t_error i_t_offset i_t_nextByte i_t_begin i_t_value i_t_token i_t_got i_t_orders i_t_outputMany i_t_w x1 q3 hq3) tm_1755 tm_1757 sl_96 tm_15 tm_1758 na_Md_isTopic ⟨Nat.le_of_ble_eq_true rfl, Nat.le_of_ble_eq_true rfl⟩ rfl [0, 1] rfl rfl rfl (ws' := wd_Md_noTopic cI a_t a_t_w a_t_wKept a_t_saved a_t_past a_t_input a_t_n a_t_order a_t_numbers a_t_output i_t_pastMany i_t_isSaved i_t_thrown i_t_inputMany i_t_lastError i_t_lastOffset i_t_error i_t_offset i_t_nextByte i_t_begin i_t_value i_t_token i_t_got i_t_orders i_t_outputMany i_t_w) rfl 0 11 rfl rfl rfl (st := [.ref a_t]) rfl (Nat.le_of_ble_eq_true rfl) rd_Md_noTopic_3 ?_ ⟨Nat.le_refl _, Nat.le_refl _⟩
  refine jk_if_ne (tgt := 13) C rd_Md_noTopic_6 (by decide) hf (fun _ hf => ?_) (fun _ hf => ?_)
  · refine jk_iconst C rd_Md_noTopic_13 ?_
    refine jk_iconst C rd_Md_noTopic_14 ?_
    obtain ⟨q15, hq15, hf⟩ := jk_bind_h hf
    refine jk_callVi C hZ.1 hz (ct_Md_fails l D Z sq hZ cI cR a_t a_t_w a_t_wKept a_t_saved a_t_past a_t_input a_t_n a_t_order a_t_numbers a_t_output i_t_pastMany i_t_isSaved i_t_thrown i_t_inputMany i_t_lastError i_t_lastOffset i_t_error i_t_offset i_t_nextByte i_t_begin i_t_value i_t_token i_t_got i_t_orders i_t_outputMany 0 1 q15 hq15) tm_1643 tm_1645 sl_87 tm_15 tm_1646 na_Md_fails ⟨Nat.le_of_ble_eq_true rfl, Nat.le_of_ble_eq_true rfl⟩ rfl [0] rfl rfl rfl (ws' := wd_Md_noTopic cI a_t a_t_w a_t_wKept a_t_saved a_t_past a_t_input a_t_n a_t_order a_t_numbers a_t_output i_t_pastMany i_t_isSaved q15.2 i_t_inputMany i_t_lastError i_t_lastOffset i_t_error i_t_offset i_t_nextByte i_t_begin i_t_value i_t_token i_t_got i_t_orders i_t_outputMany i_t_w) rfl 0 11 rfl rfl rfl (st := []) rfl (Nat.le_of_ble_eq_true rfl) rd_Md_noTopic_15 ?_ ⟨Nat.le_refl _, Nat.le_refl _⟩
    obtain ⟨hbo, hf⟩ := jk_bo_h hf
    cases hf
    exact jk_zret C hbo rfl rd_Md_noTopic_18 rfl
  · refine jk_iconst C rd_Md_noTopic_9 ?_
    refine jk_goto (tgt := 14) C rd_Md_noTopic_10 (by decide) ?_
    refine jk_iconst C rd_Md_noTopic_14 ?_
    obtain ⟨q15, hq15, hf⟩ := jk_bind_h hf
    refine jk_callVi C hZ.1 hz (ct_Md_fails l D Z sq hZ cI cR a_t a_t_w a_t_wKept a_t_saved a_t_past a_t_input a_t_n a_t_order a_t_numbers a_t_output i_t_pastMany i_t_isSaved i_t_thrown i_t_inputMany i_t_lastError i_t_lastOffset i_t_error i_t_offset i_t_nextByte i_t_begin i_t_value i_t_token i_t_got i_t_orders i_t_outputMany 1 1 q15 hq15) tm_1643 tm_1645 sl_87 tm_15 tm_1646 na_Md_fails ⟨Nat.le_of_ble_eq_true rfl, Nat.le_of_ble_eq_true rfl⟩ rfl [0] rfl rfl rfl (ws' := wd_Md_noTopic cI a_t a_t_w a_t_wKept a_t_saved a_t_past a_t_input a_t_n a_t_order a_t_numbers a_t_output i_t_pastMany i_t_isSaved q15.2 i_t_inputMany i_t_lastError i_t_lastOffset i_t_error i_t_offset i_t_nextByte i_t_begin i_t_value i_t_token i_t_got i_t_orders i_t_outputMany i_t_w) rfl 0 11 rfl rfl rfl (st := []) rfl (Nat.le_of_ble_eq_true rfl) rd_Md_noTopic_15 ?_ ⟨Nat.le_refl _, Nat.le_refl _⟩
    obtain ⟨hbo, hf⟩ := jk_bo_h hf
    cases hf
    exact jk_zret C hbo rfl rd_Md_noTopic_18 rfl
def wd_Md_noCluster (cI : ClassId) (a_t a_t_w a_t_wKept a_t_saved a_t_past a_t_input a_t_n a_t_order a_t_numbers a_t_output : Nat) (i_t_pastMany : Int) (i_t_isSaved : Int) (i_t_thrown : Int) (i_t_inputMany : Int) (i_t_lastError : Int) (i_t_lastOffset : Int) (i_t_error : Int) (i_t_offset : Int) (i_t_nextByte : Int) (i_t_begin : Int) (i_t_value : Int) (i_t_token : Int) (i_t_got : Int) (i_t_orders : Int) (i_t_outputMany : Int) (i_t_w : (Int → Int)) : va_W := [(a_t, .inr (11, [.ref a_t_w, .ref a_t_wKept, .ref a_t_saved, .ref a_t_past, jk_V i_t_pastMany, jk_V i_t_isSaved, jk_V i_t_thrown, .ref a_t_input, jk_V i_t_inputMany, jk_V i_t_lastError, jk_V i_t_lastOffset, jk_V i_t_error, jk_V i_t_offset, jk_V i_t_nextByte, jk_V i_t_begin, jk_V i_t_value, jk_V i_t_token, jk_V i_t_got, .ref a_t_n, .ref a_t_order, .ref a_t_numbers, jk_V i_t_orders, .ref a_t_output, jk_V i_t_outputMany])), (a_t_w, jk_W cI 259 i_t_w)]
set_option maxHeartbeats 4000000 in
set_option maxRecDepth 20000 in
theorem ct_Md_noCluster (l : Launch) (D : va_G) (Z : (Nat → Prop) → State → Heap → Prop) (sq : Nat → Nat) (hZ : jk_ZK Z sq) (cI cR : ClassId) (a_t a_t_w a_t_wKept a_t_saved a_t_past a_t_input a_t_n a_t_order a_t_numbers a_t_output : Nat) (i_t_pastMany : Int) (i_t_isSaved : Int) (i_t_thrown : Int) (i_t_inputMany : Int) (i_t_lastError : Int) (i_t_lastOffset : Int) (i_t_error : Int) (i_t_offset : Int) (i_t_nextByte : Int) (i_t_begin : Int) (i_t_value : Int) (i_t_token : Int) (i_t_got : Int) (i_t_orders : Int) (i_t_outputMany : Int) (i_t_w : (Int → Int)) (x1 : Int) (q : Int × Int) (hf : fn_Md_noCluster i_t_w i_t_thrown x1 = some q) : jk_MI l D jk_cl (jk_ty cI cR) Z mn_Md_noCluster (.code mn_Md_noCluster mb_Md_noCluster 2 (some .boolean) :: jk_WA) (jk_rm 2 43) [.ref a_t, jk_V x1] (wd_Md_noCluster cI a_t a_t_w a_t_wKept a_t_saved a_t_past a_t_input a_t_n a_t_order a_t_numbers a_t_output i_t_pastMany i_t_isSaved i_t_thrown i_t_inputMany i_t_lastError i_t_lastOffset i_t_error i_t_offset i_t_nextByte i_t_begin i_t_value i_t_token i_t_got i_t_orders i_t_outputMany i_t_w) (wd_Md_noCluster cI a_t a_t_w a_t_wKept a_t_saved a_t_past a_t_input a_t_n a_t_order a_t_numbers a_t_output i_t_pastMany i_t_isSaved q.2 i_t_inputMany i_t_lastError i_t_lastOffset i_t_error i_t_offset i_t_nextByte i_t_begin i_t_value i_t_token i_t_got i_t_orders i_t_outputMany i_t_w) q.1 := by
  intro sz
  refine jk_body (by decide +kernel) (fun p e s m args below meth c hsz hz hin C => ?_) (Nat.le_of_ble_eq_true rfl)
  subst hsz
  unfold fn_Md_noCluster at hf
  refine jk_aload_n C rd_Md_noCluster_0 (k := 0) rfl ?_
  refine jk_aload_n C rd_Md_noCluster_1 (k := 0) rfl ?_
  refine jk_iload_n C rd_Md_noCluster_2 (k := 1) rfl ?_
  obtain ⟨q3, hq3, hf⟩ := jk_bind_h hf
  refine jk_callVi C hZ.1 hz (ct_Md_isCluster l D Z sq hZ cI cR a_t a_t_w a_t_wKept a_t_saved a_t_past a_t_input a_t_n a_t_order a_t_numbers a_t_output i_t_pastMany i_t_isSaved i_t_thrown i_t_inputMany i_t_lastError i_t_lastOffset i_t_error i_t_offset i_t_nextByte i_t_begin i_t_value i_t_token i_t_got i_t_orders i_t_outputMany i_t_w x1 q3 hq3) tm_1524 tm_1526 sl_64 tm_15 tm_1527 na_Md_isCluster ⟨Nat.le_of_ble_eq_true rfl, Nat.le_of_ble_eq_true rfl⟩ rfl [0, 1] rfl rfl rfl (ws' := wd_Md_noCluster cI a_t a_t_w a_t_wKept a_t_saved a_t_past a_t_input a_t_n a_t_order a_t_numbers a_t_output i_t_pastMany i_t_isSaved i_t_thrown i_t_inputMany i_t_lastError i_t_lastOffset i_t_error i_t_offset i_t_nextByte i_t_begin i_t_value i_t_token i_t_got i_t_orders i_t_outputMany i_t_w) rfl 0 11 rfl rfl rfl (st := [.ref a_t]) rfl (Nat.le_of_ble_eq_true rfl) rd_Md_noCluster_3 ?_ ⟨Nat.le_refl _, Nat.le_refl _⟩
  refine jk_if_ne (tgt := 13) C rd_Md_noCluster_6 (by decide) hf (fun _ hf => ?_) (fun _ hf => ?_)
  · refine jk_iconst C rd_Md_noCluster_13 ?_
    refine jk_iconst C rd_Md_noCluster_14 ?_
    obtain ⟨q15, hq15, hf⟩ := jk_bind_h hf
    refine jk_callVi C hZ.1 hz (ct_Md_fails l D Z sq hZ cI cR a_t a_t_w a_t_wKept a_t_saved a_t_past a_t_input a_t_n a_t_order a_t_numbers a_t_output i_t_pastMany i_t_isSaved i_t_thrown i_t_inputMany i_t_lastError i_t_lastOffset i_t_error i_t_offset i_t_nextByte i_t_begin i_t_value i_t_token i_t_got i_t_orders i_t_outputMany 0 1 q15 hq15) tm_1643 tm_1645 sl_87 tm_15 tm_1646 na_Md_fails ⟨Nat.le_of_ble_eq_true rfl, Nat.le_of_ble_eq_true rfl⟩ rfl [0] rfl rfl rfl (ws' := wd_Md_noCluster cI a_t a_t_w a_t_wKept a_t_saved a_t_past a_t_input a_t_n a_t_order a_t_numbers a_t_output i_t_pastMany i_t_isSaved q15.2 i_t_inputMany i_t_lastError i_t_lastOffset i_t_error i_t_offset i_t_nextByte i_t_begin i_t_value i_t_token i_t_got i_t_orders i_t_outputMany i_t_w) rfl 0 11 rfl rfl rfl (st := []) rfl (Nat.le_of_ble_eq_true rfl) rd_Md_noCluster_15 ?_ ⟨Nat.le_refl _, Nat.le_refl _⟩
    obtain ⟨hbo, hf⟩ := jk_bo_h hf
    cases hf
    exact jk_zret C hbo rfl rd_Md_noCluster_18 rfl
  · refine jk_iconst C rd_Md_noCluster_9 ?_
    refine jk_goto (tgt := 14) C rd_Md_noCluster_10 (by decide) ?_
    refine jk_iconst C rd_Md_noCluster_14 ?_
    obtain ⟨q15, hq15, hf⟩ := jk_bind_h hf
    refine jk_callVi C hZ.1 hz (ct_Md_fails l D Z sq hZ cI cR a_t a_t_w a_t_wKept a_t_saved a_t_past a_t_input a_t_n a_t_order a_t_numbers a_t_output i_t_pastMany i_t_isSaved i_t_thrown i_t_inputMany i_t_lastError i_t_lastOffset i_t_error i_t_offset i_t_nextByte i_t_begin i_t_value i_t_token i_t_got i_t_orders i_t_outputMany 1 1 q15 hq15) tm_1643 tm_1645 sl_87 tm_15 tm_1646 na_Md_fails ⟨Nat.le_of_ble_eq_true rfl, Nat.le_of_ble_eq_true rfl⟩ rfl [0] rfl rfl rfl (ws' := wd_Md_noCluster cI a_t a_t_w a_t_wKept a_t_saved a_t_past a_t_input a_t_n a_t_order a_t_numbers a_t_output i_t_pastMany i_t_isSaved q15.2 i_t_inputMany i_t_lastError i_t_lastOffset i_t_error i_t_offset i_t_nextByte i_t_begin i_t_value i_t_token i_t_got i_t_orders i_t_outputMany i_t_w) rfl 0 11 rfl rfl rfl (st := []) rfl (Nat.le_of_ble_eq_true rfl) rd_Md_noCluster_15 ?_ ⟨Nat.le_refl _, Nat.le_refl _⟩
    obtain ⟨hbo, hf⟩ := jk_bo_h hf
    cases hf
    exact jk_zret C hbo rfl rd_Md_noCluster_18 rfl
def wd_Md_noCord (cI : ClassId) (a_t a_t_w a_t_wKept a_t_saved a_t_past a_t_input a_t_n a_t_order a_t_numbers a_t_output : Nat) (i_t_pastMany : Int) (i_t_isSaved : Int) (i_t_thrown : Int) (i_t_inputMany : Int) (i_t_lastError : Int) (i_t_lastOffset : Int) (i_t_error : Int) (i_t_offset : Int) (i_t_nextByte : Int) (i_t_begin : Int) (i_t_value : Int) (i_t_token : Int) (i_t_got : Int) (i_t_orders : Int) (i_t_outputMany : Int) (i_t_w : (Int → Int)) : va_W := [(a_t, .inr (11, [.ref a_t_w, .ref a_t_wKept, .ref a_t_saved, .ref a_t_past, jk_V i_t_pastMany, jk_V i_t_isSaved, jk_V i_t_thrown, .ref a_t_input, jk_V i_t_inputMany, jk_V i_t_lastError, jk_V i_t_lastOffset, jk_V i_t_error, jk_V i_t_offset, jk_V i_t_nextByte, jk_V i_t_begin, jk_V i_t_value, jk_V i_t_token, jk_V i_t_got, .ref a_t_n, .ref a_t_order, .ref a_t_numbers, jk_V i_t_orders, .ref a_t_output, jk_V i_t_outputMany])), (a_t_w, jk_W cI 259 i_t_w)]
set_option maxHeartbeats 4000000 in
set_option maxRecDepth 20000 in
theorem ct_Md_noCord (l : Launch) (D : va_G) (Z : (Nat → Prop) → State → Heap → Prop) (sq : Nat → Nat) (hZ : jk_ZK Z sq) (cI cR : ClassId) (a_t a_t_w a_t_wKept a_t_saved a_t_past a_t_input a_t_n a_t_order a_t_numbers a_t_output : Nat) (i_t_pastMany : Int) (i_t_isSaved : Int) (i_t_thrown : Int) (i_t_inputMany : Int) (i_t_lastError : Int) (i_t_lastOffset : Int) (i_t_error : Int) (i_t_offset : Int) (i_t_nextByte : Int) (i_t_begin : Int) (i_t_value : Int) (i_t_token : Int) (i_t_got : Int) (i_t_orders : Int) (i_t_outputMany : Int) (i_t_w : (Int → Int)) (x1 : Int) (q : Int × Int) (hf : fn_Md_noCord i_t_w i_t_thrown x1 = some q) : jk_MI l D jk_cl (jk_ty cI cR) Z mn_Md_noCord (.code mn_Md_noCord mb_Md_noCord 2 (some .boolean) :: jk_WA) (jk_rm 2 43) [.ref a_t, jk_V x1] (wd_Md_noCord cI a_t a_t_w a_t_wKept a_t_saved a_t_past a_t_input a_t_n a_t_order a_t_numbers a_t_output i_t_pastMany i_t_isSaved i_t_thrown i_t_inputMany i_t_lastError i_t_lastOffset i_t_error i_t_offset i_t_nextByte i_t_begin i_t_value i_t_token i_t_got i_t_orders i_t_outputMany i_t_w) (wd_Md_noCord cI a_t a_t_w a_t_wKept a_t_saved a_t_past a_t_input a_t_n a_t_order a_t_numbers a_t_output i_t_pastMany i_t_isSaved q.2 i_t_inputMany i_t_lastError i_t_lastOffset i_t_error i_t_offset i_t_nextByte i_t_begin i_t_value i_t_token i_t_got i_t_orders i_t_outputMany i_t_w) q.1 := by
  intro sz
  refine jk_body (by decide +kernel) (fun p e s m args below meth c hsz hz hin C => ?_) (Nat.le_of_ble_eq_true rfl)
  subst hsz
  unfold fn_Md_noCord at hf
  refine jk_aload_n C rd_Md_noCord_0 (k := 0) rfl ?_
  refine jk_aload_n C rd_Md_noCord_1 (k := 0) rfl ?_
  refine jk_iload_n C rd_Md_noCord_2 (k := 1) rfl ?_
  obtain ⟨q3, hq3, hf⟩ := jk_bind_h hf
  refine jk_callVi C hZ.1 hz (ct_Md_isCord l D Z sq hZ cI cR a_t a_t_w a_t_wKept a_t_saved a_t_past a_t_input a_t_n a_t_order a_t_numbers a_t_output i_t_pastMany i_t_isSaved i_t_thrown i_t_inputMany i_t_lastError i_t_lastOffset i_t_error i_t_offset i_t_nextByte i_t_begin i_t_value i_t_token i_t_got i_t_orders i_t_outputMany i_t_w x1 q3 hq3) tm_1532 tm_1534 sl_66 tm_15 tm_1535 na_Md_isCord ⟨Nat.le_of_ble_eq_true rfl, Nat.le_of_ble_eq_true rfl⟩ rfl [0, 1] rfl rfl rfl (ws' := wd_Md_noCord cI a_t a_t_w a_t_wKept a_t_saved a_t_past a_t_input a_t_n a_t_order a_t_numbers a_t_output i_t_pastMany i_t_isSaved i_t_thrown i_t_inputMany i_t_lastError i_t_lastOffset i_t_error i_t_offset i_t_nextByte i_t_begin i_t_value i_t_token i_t_got i_t_orders i_t_outputMany i_t_w) rfl 0 11 rfl rfl rfl (st := [.ref a_t]) rfl (Nat.le_of_ble_eq_true rfl) rd_Md_noCord_3 ?_ ⟨Nat.le_refl _, Nat.le_refl _⟩
  refine jk_if_ne (tgt := 13) C rd_Md_noCord_6 (by decide) hf (fun _ hf => ?_) (fun _ hf => ?_)
  · refine jk_iconst C rd_Md_noCord_13 ?_
    refine jk_iconst C rd_Md_noCord_14 ?_
    obtain ⟨q15, hq15, hf⟩ := jk_bind_h hf
    refine jk_callVi C hZ.1 hz (ct_Md_fails l D Z sq hZ cI cR a_t a_t_w a_t_wKept a_t_saved a_t_past a_t_input a_t_n a_t_order a_t_numbers a_t_output i_t_pastMany i_t_isSaved i_t_thrown i_t_inputMany i_t_lastError i_t_lastOffset i_t_error i_t_offset i_t_nextByte i_t_begin i_t_value i_t_token i_t_got i_t_orders i_t_outputMany 0 1 q15 hq15) tm_1643 tm_1645 sl_87 tm_15 tm_1646 na_Md_fails ⟨Nat.le_of_ble_eq_true rfl, Nat.le_of_ble_eq_true rfl⟩ rfl [0] rfl rfl rfl (ws' := wd_Md_noCord cI a_t a_t_w a_t_wKept a_t_saved a_t_past a_t_input a_t_n a_t_order a_t_numbers a_t_output i_t_pastMany i_t_isSaved q15.2 i_t_inputMany i_t_lastError i_t_lastOffset i_t_error i_t_offset i_t_nextByte i_t_begin i_t_value i_t_token i_t_got i_t_orders i_t_outputMany i_t_w) rfl 0 11 rfl rfl rfl (st := []) rfl (Nat.le_of_ble_eq_true rfl) rd_Md_noCord_15 ?_ ⟨Nat.le_refl _, Nat.le_refl _⟩
    obtain ⟨hbo, hf⟩ := jk_bo_h hf
    cases hf
    exact jk_zret C hbo rfl rd_Md_noCord_18 rfl
  · refine jk_iconst C rd_Md_noCord_9 ?_
    refine jk_goto (tgt := 14) C rd_Md_noCord_10 (by decide) ?_
    refine jk_iconst C rd_Md_noCord_14 ?_
    obtain ⟨q15, hq15, hf⟩ := jk_bind_h hf
    refine jk_callVi C hZ.1 hz (ct_Md_fails l D Z sq hZ cI cR a_t a_t_w a_t_wKept a_t_saved a_t_past a_t_input a_t_n a_t_order a_t_numbers a_t_output i_t_pastMany i_t_isSaved i_t_thrown i_t_inputMany i_t_lastError i_t_lastOffset i_t_error i_t_offset i_t_nextByte i_t_begin i_t_value i_t_token i_t_got i_t_orders i_t_outputMany 1 1 q15 hq15) tm_1643 tm_1645 sl_87 tm_15 tm_1646 na_Md_fails ⟨Nat.le_of_ble_eq_true rfl, Nat.le_of_ble_eq_true rfl⟩ rfl [0] rfl rfl rfl (ws' := wd_Md_noCord cI a_t a_t_w a_t_wKept a_t_saved a_t_past a_t_input a_t_n a_t_order a_t_numbers a_t_output i_t_pastMany i_t_isSaved q15.2 i_t_inputMany i_t_lastError i_t_lastOffset i_t_error i_t_offset i_t_nextByte i_t_begin i_t_value i_t_token i_t_got i_t_orders i_t_outputMany i_t_w) rfl 0 11 rfl rfl rfl (st := []) rfl (Nat.le_of_ble_eq_true rfl) rd_Md_noCord_15 ?_ ⟨Nat.le_refl _, Nat.le_refl _⟩
    obtain ⟨hbo, hf⟩ := jk_bo_h hf
    cases hf
    exact jk_zret C hbo rfl rd_Md_noCord_18 rfl
def wd_Md_clusterOf (cI : ClassId) (a_t a_t_w a_t_wKept a_t_saved a_t_past a_t_input a_t_n a_t_order a_t_numbers a_t_output : Nat) (i_t_pastMany : Int) (i_t_isSaved : Int) (i_t_thrown : Int) (i_t_inputMany : Int) (i_t_lastError : Int) (i_t_lastOffset : Int) (i_t_error : Int) (i_t_offset : Int) (i_t_nextByte : Int) (i_t_begin : Int) (i_t_value : Int) (i_t_token : Int) (i_t_got : Int) (i_t_orders : Int) (i_t_outputMany : Int) (i_t_w : (Int → Int)) : va_W := [(a_t, .inr (11, [.ref a_t_w, .ref a_t_wKept, .ref a_t_saved, .ref a_t_past, jk_V i_t_pastMany, jk_V i_t_isSaved, jk_V i_t_thrown, .ref a_t_input, jk_V i_t_inputMany, jk_V i_t_lastError, jk_V i_t_lastOffset, jk_V i_t_error, jk_V i_t_offset, jk_V i_t_nextByte, jk_V i_t_begin, jk_V i_t_value, jk_V i_t_token, jk_V i_t_got, .ref a_t_n, .ref a_t_order, .ref a_t_numbers, jk_V i_t_orders, .ref a_t_output, jk_V i_t_outputMany])), (a_t_w, jk_W cI 259 i_t_w)]
set_option maxHeartbeats 4000000 in
set_option maxRecDepth 20000 in
theorem ct_Md_clusterOf (l : Launch) (D : va_G) (Z : (Nat → Prop) → State → Heap → Prop) (sq : Nat → Nat) (hZ : jk_ZK Z sq) (cI cR : ClassId) (a_t a_t_w a_t_wKept a_t_saved a_t_past a_t_input a_t_n a_t_order a_t_numbers a_t_output : Nat) (i_t_pastMany : Int) (i_t_isSaved : Int) (i_t_thrown : Int) (i_t_inputMany : Int) (i_t_lastError : Int) (i_t_lastOffset : Int) (i_t_error : Int) (i_t_offset : Int) (i_t_nextByte : Int) (i_t_begin : Int) (i_t_value : Int) (i_t_token : Int) (i_t_got : Int) (i_t_orders : Int) (i_t_outputMany : Int) (i_t_w : (Int → Int)) (x1 : Int) (q : Int × Int) (hf : fn_Md_clusterOf i_t_w i_t_thrown x1 = some q) : jk_MI l D jk_cl (jk_ty cI cR) Z mn_Md_clusterOf (.code mn_Md_clusterOf mb_Md_clusterOf 2 (some .int) :: jk_WA) (jk_rm 3 64) [.ref a_t, jk_V x1] (wd_Md_clusterOf cI a_t a_t_w a_t_wKept a_t_saved a_t_past a_t_input a_t_n a_t_order a_t_numbers a_t_output i_t_pastMany i_t_isSaved i_t_thrown i_t_inputMany i_t_lastError i_t_lastOffset i_t_error i_t_offset i_t_nextByte i_t_begin i_t_value i_t_token i_t_got i_t_orders i_t_outputMany i_t_w) (wd_Md_clusterOf cI a_t a_t_w a_t_wKept a_t_saved a_t_past a_t_input a_t_n a_t_order a_t_numbers a_t_output i_t_pastMany i_t_isSaved q.2 i_t_inputMany i_t_lastError i_t_lastOffset i_t_error i_t_offset i_t_nextByte i_t_begin i_t_value i_t_token i_t_got i_t_orders i_t_outputMany i_t_w) q.1 := by
  intro sz
  refine jk_body (by decide +kernel) (fun p e s m args below meth c hsz hz hin C => ?_) (Nat.le_of_ble_eq_true rfl)
  subst hsz
  unfold fn_Md_clusterOf at hf
  refine jk_aload_n C rd_Md_clusterOf_0 (k := 0) rfl ?_
  refine jk_iconst C rd_Md_clusterOf_1 ?_
  refine jk_putf C in_Md ty_Md nm_Md (ci := 11) rfl 6 (by decide) tm_1269 rfl rfl rfl 0 rfl (Nat.le_of_ble_eq_true rfl) rd_Md_clusterOf_2 (ws' := wd_Md_clusterOf cI a_t a_t_w a_t_wKept a_t_saved a_t_past a_t_input a_t_n a_t_order a_t_numbers a_t_output i_t_pastMany i_t_isSaved 0 i_t_inputMany i_t_lastError i_t_lastOffset i_t_error i_t_offset i_t_nextByte i_t_begin i_t_value i_t_token i_t_got i_t_orders i_t_outputMany i_t_w) rfl ?_
  refine jk_aload_n C rd_Md_clusterOf_5 (k := 0) rfl ?_
  refine jk_iload_n C rd_Md_clusterOf_6 (k := 1) rfl ?_
  obtain ⟨q7, hq7, hf⟩ := jk_bind_h hf
  refine jk_callVi C hZ.1 hz (ct_Md_noCord l D Z sq hZ cI cR a_t a_t_w a_t_wKept a_t_saved a_t_past a_t_input a_t_n a_t_order a_t_numbers a_t_output i_t_pastMany i_t_isSaved 0 i_t_inputMany i_t_lastError i_t_lastOffset i_t_error i_t_offset i_t_nextByte i_t_begin i_t_value i_t_token i_t_got i_t_orders i_t_outputMany i_t_w x1 q7 hq7) tm_1639 tm_1641 sl_86 tm_15 tm_1642 na_Md_noCord ⟨Nat.le_of_ble_eq_true rfl, Nat.le_of_ble_eq_true rfl⟩ rfl [0, 1] rfl rfl rfl (ws' := wd_Md_clusterOf cI a_t a_t_w a_t_wKept a_t_saved a_t_past a_t_input a_t_n a_t_order a_t_numbers a_t_output i_t_pastMany i_t_isSaved q7.2 i_t_inputMany i_t_lastError i_t_lastOffset i_t_error i_t_offset i_t_nextByte i_t_begin i_t_value i_t_token i_t_got i_t_orders i_t_outputMany i_t_w) rfl 0 11 rfl rfl rfl (st := []) rfl (Nat.le_of_ble_eq_true rfl) rd_Md_clusterOf_7 ?_ ⟨Nat.le_refl _, Nat.le_refl _⟩
  refine jk_if_eq (tgt := 17) C rd_Md_clusterOf_10 (by decide) hf (fun _ hf => ?_) (fun _ hf => ?_)
  · refine jk_aload_n C rd_Md_clusterOf_17 (k := 0) rfl ?_
    refine jk_iload_n C rd_Md_clusterOf_18 (k := 1) rfl ?_
    refine jk_iconst C rd_Md_clusterOf_19 ?_
    obtain ⟨q20, hq20, hf⟩ := jk_bind_h hf
    refine jk_callVi C hZ.1 hz (ct_Md_of l D Z sq hZ cI cR a_t a_t_w a_t_wKept a_t_saved a_t_past a_t_input a_t_n a_t_order a_t_numbers a_t_output i_t_pastMany i_t_isSaved q7.2 i_t_inputMany i_t_lastError i_t_lastOffset i_t_error i_t_offset i_t_nextByte i_t_begin i_t_value i_t_token i_t_got i_t_orders i_t_outputMany i_t_w x1 0 q20 hq20) tm_1256 tm_1258 sl_26 tm_15 tm_1259 na_Md_of ⟨Nat.le_of_ble_eq_true rfl, Nat.le_of_ble_eq_true rfl⟩ rfl [0, 1] rfl rfl rfl (ws' := wd_Md_clusterOf cI a_t a_t_w a_t_wKept a_t_saved a_t_past a_t_input a_t_n a_t_order a_t_numbers a_t_output i_t_pastMany i_t_isSaved q7.2 i_t_inputMany i_t_lastError i_t_lastOffset i_t_error i_t_offset i_t_nextByte i_t_begin i_t_value i_t_token i_t_got i_t_orders i_t_outputMany i_t_w) rfl 0 11 rfl rfl rfl (st := []) rfl (Nat.le_of_ble_eq_true rfl) rd_Md_clusterOf_20 ?_ ⟨Nat.le_refl _, Nat.le_refl _⟩
    cases hf
    exact jk_iret C rfl rd_Md_clusterOf_23 rfl
  · refine jk_iconst C rd_Md_clusterOf_13 ?_
    refine jk_goto (tgt := 23) C rd_Md_clusterOf_14 (by decide) ?_
    cases hf
    exact jk_iret C rfl rd_Md_clusterOf_23 rfl
def wd_Md_depthOf (cI : ClassId) (a_t a_t_w a_t_wKept a_t_saved a_t_past a_t_input a_t_n a_t_order a_t_numbers a_t_output : Nat) (i_t_pastMany : Int) (i_t_isSaved : Int) (i_t_thrown : Int) (i_t_inputMany : Int) (i_t_lastError : Int) (i_t_lastOffset : Int) (i_t_error : Int) (i_t_offset : Int) (i_t_nextByte : Int) (i_t_begin : Int) (i_t_value : Int) (i_t_token : Int) (i_t_got : Int) (i_t_orders : Int) (i_t_outputMany : Int) (i_t_w : (Int → Int)) : va_W := [(a_t, .inr (11, [.ref a_t_w, .ref a_t_wKept, .ref a_t_saved, .ref a_t_past, jk_V i_t_pastMany, jk_V i_t_isSaved, jk_V i_t_thrown, .ref a_t_input, jk_V i_t_inputMany, jk_V i_t_lastError, jk_V i_t_lastOffset, jk_V i_t_error, jk_V i_t_offset, jk_V i_t_nextByte, jk_V i_t_begin, jk_V i_t_value, jk_V i_t_token, jk_V i_t_got, .ref a_t_n, .ref a_t_order, .ref a_t_numbers, jk_V i_t_orders, .ref a_t_output, jk_V i_t_outputMany])), (a_t_w, jk_W cI 259 i_t_w)]
set_option maxHeartbeats 4000000 in
set_option maxRecDepth 20000 in
theorem ct_Md_depthOf (l : Launch) (D : va_G) (Z : (Nat → Prop) → State → Heap → Prop) (sq : Nat → Nat) (hZ : jk_ZK Z sq) (cI cR : ClassId) (a_t a_t_w a_t_wKept a_t_saved a_t_past a_t_input a_t_n a_t_order a_t_numbers a_t_output : Nat) (i_t_pastMany : Int) (i_t_isSaved : Int) (i_t_thrown : Int) (i_t_inputMany : Int) (i_t_lastError : Int) (i_t_lastOffset : Int) (i_t_error : Int) (i_t_offset : Int) (i_t_nextByte : Int) (i_t_begin : Int) (i_t_value : Int) (i_t_token : Int) (i_t_got : Int) (i_t_orders : Int) (i_t_outputMany : Int) (i_t_w : (Int → Int)) (x1 : Int) (q : Int × Int) (hf : fn_Md_depthOf i_t_w i_t_thrown x1 = some q) : jk_MI l D jk_cl (jk_ty cI cR) Z mn_Md_depthOf (.code mn_Md_depthOf mb_Md_depthOf 2 (some .int) :: jk_WA) (jk_rm 3 64) [.ref a_t, jk_V x1] (wd_Md_depthOf cI a_t a_t_w a_t_wKept a_t_saved a_t_past a_t_input a_t_n a_t_order a_t_numbers a_t_output i_t_pastMany i_t_isSaved i_t_thrown i_t_inputMany i_t_lastError i_t_lastOffset i_t_error i_t_offset i_t_nextByte i_t_begin i_t_value i_t_token i_t_got i_t_orders i_t_outputMany i_t_w) (wd_Md_depthOf cI a_t a_t_w a_t_wKept a_t_saved a_t_past a_t_input a_t_n a_t_order a_t_numbers a_t_output i_t_pastMany i_t_isSaved q.2 i_t_inputMany i_t_lastError i_t_lastOffset i_t_error i_t_offset i_t_nextByte i_t_begin i_t_value i_t_token i_t_got i_t_orders i_t_outputMany i_t_w) q.1 := by
  intro sz
  refine jk_body (by decide +kernel) (fun p e s m args below meth c hsz hz hin C => ?_) (Nat.le_of_ble_eq_true rfl)
  subst hsz
  unfold fn_Md_depthOf at hf
  refine jk_aload_n C rd_Md_depthOf_0 (k := 0) rfl ?_
  refine jk_iconst C rd_Md_depthOf_1 ?_
  refine jk_putf C in_Md ty_Md nm_Md (ci := 11) rfl 6 (by decide) tm_1269 rfl rfl rfl 0 rfl (Nat.le_of_ble_eq_true rfl) rd_Md_depthOf_2 (ws' := wd_Md_depthOf cI a_t a_t_w a_t_wKept a_t_saved a_t_past a_t_input a_t_n a_t_order a_t_numbers a_t_output i_t_pastMany i_t_isSaved 0 i_t_inputMany i_t_lastError i_t_lastOffset i_t_error i_t_offset i_t_nextByte i_t_begin i_t_value i_t_token i_t_got i_t_orders i_t_outputMany i_t_w) rfl ?_
  refine jk_aload_n C rd_Md_depthOf_5 (k := 0) rfl ?_
  refine jk_iload_n C rd_Md_depthOf_6 (k := 1) rfl ?_
  obtain ⟨q7, hq7, hf⟩ := jk_bind_h hf
  refine jk_callVi C hZ.1 hz (ct_Md_noCord l D Z sq hZ cI cR a_t a_t_w a_t_wKept a_t_saved a_t_past a_t_input a_t_n a_t_order a_t_numbers a_t_output i_t_pastMany i_t_isSaved 0 i_t_inputMany i_t_lastError i_t_lastOffset i_t_error i_t_offset i_t_nextByte i_t_begin i_t_value i_t_token i_t_got i_t_orders i_t_outputMany i_t_w x1 q7 hq7) tm_1639 tm_1641 sl_86 tm_15 tm_1642 na_Md_noCord ⟨Nat.le_of_ble_eq_true rfl, Nat.le_of_ble_eq_true rfl⟩ rfl [0, 1] rfl rfl rfl (ws' := wd_Md_depthOf cI a_t a_t_w a_t_wKept a_t_saved a_t_past a_t_input a_t_n a_t_order a_t_numbers a_t_output i_t_pastMany i_t_isSaved q7.2 i_t_inputMany i_t_lastError i_t_lastOffset i_t_error i_t_offset i_t_nextByte i_t_begin i_t_value i_t_token i_t_got i_t_orders i_t_outputMany i_t_w) rfl 0 11 rfl rfl rfl (st := []) rfl (Nat.le_of_ble_eq_true rfl) rd_Md_depthOf_7 ?_ ⟨Nat.le_refl _, Nat.le_refl _⟩
  refine jk_if_eq (tgt := 17) C rd_Md_depthOf_10 (by decide) hf (fun _ hf => ?_) (fun _ hf => ?_)
  · refine jk_aload_n C rd_Md_depthOf_17 (k := 0) rfl ?_
    refine jk_iload_n C rd_Md_depthOf_18 (k := 1) rfl ?_
    refine jk_iconst C rd_Md_depthOf_19 ?_
    obtain ⟨q20, hq20, hf⟩ := jk_bind_h hf
    refine jk_callVi C hZ.1 hz (ct_Md_of l D Z sq hZ cI cR a_t a_t_w a_t_wKept a_t_saved a_t_past a_t_input a_t_n a_t_order a_t_numbers a_t_output i_t_pastMany i_t_isSaved q7.2 i_t_inputMany i_t_lastError i_t_lastOffset i_t_error i_t_offset i_t_nextByte i_t_begin i_t_value i_t_token i_t_got i_t_orders i_t_outputMany i_t_w x1 1 q20 hq20) tm_1256 tm_1258 sl_26 tm_15 tm_1259 na_Md_of ⟨Nat.le_of_ble_eq_true rfl, Nat.le_of_ble_eq_true rfl⟩ rfl [0, 1] rfl rfl rfl (ws' := wd_Md_depthOf cI a_t a_t_w a_t_wKept a_t_saved a_t_past a_t_input a_t_n a_t_order a_t_numbers a_t_output i_t_pastMany i_t_isSaved q7.2 i_t_inputMany i_t_lastError i_t_lastOffset i_t_error i_t_offset i_t_nextByte i_t_begin i_t_value i_t_token i_t_got i_t_orders i_t_outputMany i_t_w) rfl 0 11 rfl rfl rfl (st := []) rfl (Nat.le_of_ble_eq_true rfl) rd_Md_depthOf_20 ?_ ⟨Nat.le_refl _, Nat.le_refl _⟩
    cases hf
    exact jk_iret C rfl rd_Md_depthOf_23 rfl
  · refine jk_iconst C rd_Md_depthOf_13 ?_
    refine jk_goto (tgt := 23) C rd_Md_depthOf_14 (by decide) ?_
    cases hf
    exact jk_iret C rfl rd_Md_depthOf_23 rfl
def wd_Md_parentOf (cI : ClassId) (a_t a_t_w a_t_wKept a_t_saved a_t_past a_t_input a_t_n a_t_order a_t_numbers a_t_output : Nat) (i_t_pastMany : Int) (i_t_isSaved : Int) (i_t_thrown : Int) (i_t_inputMany : Int) (i_t_lastError : Int) (i_t_lastOffset : Int) (i_t_error : Int) (i_t_offset : Int) (i_t_nextByte : Int) (i_t_begin : Int) (i_t_value : Int) (i_t_token : Int) (i_t_got : Int) (i_t_orders : Int) (i_t_outputMany : Int) (i_t_w : (Int → Int)) : va_W := [(a_t, .inr (11, [.ref a_t_w, .ref a_t_wKept, .ref a_t_saved, .ref a_t_past, jk_V i_t_pastMany, jk_V i_t_isSaved, jk_V i_t_thrown, .ref a_t_input, jk_V i_t_inputMany, jk_V i_t_lastError, jk_V i_t_lastOffset, jk_V i_t_error, jk_V i_t_offset, jk_V i_t_nextByte, jk_V i_t_begin, jk_V i_t_value, jk_V i_t_token, jk_V i_t_got, .ref a_t_n, .ref a_t_order, .ref a_t_numbers, jk_V i_t_orders, .ref a_t_output, jk_V i_t_outputMany])), (a_t_w, jk_W cI 259 i_t_w)]
set_option maxHeartbeats 4000000 in
set_option maxRecDepth 20000 in
theorem ct_Md_parentOf (l : Launch) (D : va_G) (Z : (Nat → Prop) → State → Heap → Prop) (sq : Nat → Nat) (hZ : jk_ZK Z sq) (cI cR : ClassId) (a_t a_t_w a_t_wKept a_t_saved a_t_past a_t_input a_t_n a_t_order a_t_numbers a_t_output : Nat) (i_t_pastMany : Int) (i_t_isSaved : Int) (i_t_thrown : Int) (i_t_inputMany : Int) (i_t_lastError : Int) (i_t_lastOffset : Int) (i_t_error : Int) (i_t_offset : Int) (i_t_nextByte : Int) (i_t_begin : Int) (i_t_value : Int) (i_t_token : Int) (i_t_got : Int) (i_t_orders : Int) (i_t_outputMany : Int) (i_t_w : (Int → Int)) (x1 : Int) (q : Int × Int) (hf : fn_Md_parentOf i_t_w i_t_thrown x1 = some q) : jk_MI l D jk_cl (jk_ty cI cR) Z mn_Md_parentOf (.code mn_Md_parentOf mb_Md_parentOf 2 (some .int) :: jk_WA) (jk_rm 3 64) [.ref a_t, jk_V x1] (wd_Md_parentOf cI a_t a_t_w a_t_wKept a_t_saved a_t_past a_t_input a_t_n a_t_order a_t_numbers a_t_output i_t_pastMany i_t_isSaved i_t_thrown i_t_inputMany i_t_lastError i_t_lastOffset i_t_error i_t_offset i_t_nextByte i_t_begin i_t_value i_t_token i_t_got i_t_orders i_t_outputMany i_t_w) (wd_Md_parentOf cI a_t a_t_w a_t_wKept a_t_saved a_t_past a_t_input a_t_n a_t_order a_t_numbers a_t_output i_t_pastMany i_t_isSaved q.2 i_t_inputMany i_t_lastError i_t_lastOffset i_t_error i_t_offset i_t_nextByte i_t_begin i_t_value i_t_token i_t_got i_t_orders i_t_outputMany i_t_w) q.1 := by
  intro sz
  refine jk_body (by decide +kernel) (fun p e s m args below meth c hsz hz hin C => ?_) (Nat.le_of_ble_eq_true rfl)
  subst hsz
  unfold fn_Md_parentOf at hf
  refine jk_aload_n C rd_Md_parentOf_0 (k := 0) rfl ?_
  refine jk_iconst C rd_Md_parentOf_1 ?_
  refine jk_putf C in_Md ty_Md nm_Md (ci := 11) rfl 6 (by decide) tm_1269 rfl rfl rfl 0 rfl (Nat.le_of_ble_eq_true rfl) rd_Md_parentOf_2 (ws' := wd_Md_parentOf cI a_t a_t_w a_t_wKept a_t_saved a_t_past a_t_input a_t_n a_t_order a_t_numbers a_t_output i_t_pastMany i_t_isSaved 0 i_t_inputMany i_t_lastError i_t_lastOffset i_t_error i_t_offset i_t_nextByte i_t_begin i_t_value i_t_token i_t_got i_t_orders i_t_outputMany i_t_w) rfl ?_
  refine jk_aload_n C rd_Md_parentOf_5 (k := 0) rfl ?_
  refine jk_iload_n C rd_Md_parentOf_6 (k := 1) rfl ?_
  obtain ⟨q7, hq7, hf⟩ := jk_bind_h hf
  refine jk_callVi C hZ.1 hz (ct_Md_noCord l D Z sq hZ cI cR a_t a_t_w a_t_wKept a_t_saved a_t_past a_t_input a_t_n a_t_order a_t_numbers a_t_output i_t_pastMany i_t_isSaved 0 i_t_inputMany i_t_lastError i_t_lastOffset i_t_error i_t_offset i_t_nextByte i_t_begin i_t_value i_t_token i_t_got i_t_orders i_t_outputMany i_t_w x1 q7 hq7) tm_1639 tm_1641 sl_86 tm_15 tm_1642 na_Md_noCord ⟨Nat.le_of_ble_eq_true rfl, Nat.le_of_ble_eq_true rfl⟩ rfl [0, 1] rfl rfl rfl (ws' := wd_Md_parentOf cI a_t a_t_w a_t_wKept a_t_saved a_t_past a_t_input a_t_n a_t_order a_t_numbers a_t_output i_t_pastMany i_t_isSaved q7.2 i_t_inputMany i_t_lastError i_t_lastOffset i_t_error i_t_offset i_t_nextByte i_t_begin i_t_value i_t_token i_t_got i_t_orders i_t_outputMany i_t_w) rfl 0 11 rfl rfl rfl (st := []) rfl (Nat.le_of_ble_eq_true rfl) rd_Md_parentOf_7 ?_ ⟨Nat.le_refl _, Nat.le_refl _⟩
  refine jk_if_eq (tgt := 17) C rd_Md_parentOf_10 (by decide) hf (fun _ hf => ?_) (fun _ hf => ?_)
  · refine jk_aload_n C rd_Md_parentOf_17 (k := 0) rfl ?_
    refine jk_iload_n C rd_Md_parentOf_18 (k := 1) rfl ?_
    obtain ⟨q19, hq19, hf⟩ := jk_bind_h hf
    refine jk_callVi C hZ.1 hz (ct_Md_parent l D Z sq hZ cI cR a_t a_t_w a_t_wKept a_t_saved a_t_past a_t_input a_t_n a_t_order a_t_numbers a_t_output i_t_pastMany i_t_isSaved q7.2 i_t_inputMany i_t_lastError i_t_lastOffset i_t_error i_t_offset i_t_nextByte i_t_begin i_t_value i_t_token i_t_got i_t_orders i_t_outputMany i_t_w x1 q19 hq19) tm_1655 tm_1657 sl_88 tm_15 tm_1658 na_Md_parent ⟨Nat.le_of_ble_eq_true rfl, Nat.le_of_ble_eq_true rfl⟩ rfl [0, 1] rfl rfl rfl (ws' := wd_Md_parentOf cI a_t a_t_w a_t_wKept a_t_saved a_t_past a_t_input a_t_n a_t_order a_t_numbers a_t_output i_t_pastMany i_t_isSaved q7.2 i_t_inputMany i_t_lastError i_t_lastOffset i_t_error i_t_offset i_t_nextByte i_t_begin i_t_value i_t_token i_t_got i_t_orders i_t_outputMany i_t_w) rfl 0 11 rfl rfl rfl (st := []) rfl (Nat.le_of_ble_eq_true rfl) rd_Md_parentOf_19 ?_ ⟨Nat.le_refl _, Nat.le_refl _⟩
    cases hf
    exact jk_iret C rfl rd_Md_parentOf_22 rfl
  · refine jk_iconst C rd_Md_parentOf_13 ?_
    refine jk_goto (tgt := 22) C rd_Md_parentOf_14 (by decide) ?_
    cases hf
    exact jk_iret C rfl rd_Md_parentOf_22 rfl
def wd_Md_topicOf (cI : ClassId) (a_t a_t_w a_t_wKept a_t_saved a_t_past a_t_input a_t_n a_t_order a_t_numbers a_t_output : Nat) (i_t_pastMany : Int) (i_t_isSaved : Int) (i_t_thrown : Int) (i_t_inputMany : Int) (i_t_lastError : Int) (i_t_lastOffset : Int) (i_t_error : Int) (i_t_offset : Int) (i_t_nextByte : Int) (i_t_begin : Int) (i_t_value : Int) (i_t_token : Int) (i_t_got : Int) (i_t_orders : Int) (i_t_outputMany : Int) (i_t_w : (Int → Int)) : va_W := [(a_t, .inr (11, [.ref a_t_w, .ref a_t_wKept, .ref a_t_saved, .ref a_t_past, jk_V i_t_pastMany, jk_V i_t_isSaved, jk_V i_t_thrown, .ref a_t_input, jk_V i_t_inputMany, jk_V i_t_lastError, jk_V i_t_lastOffset, jk_V i_t_error, jk_V i_t_offset, jk_V i_t_nextByte, jk_V i_t_begin, jk_V i_t_value, jk_V i_t_token, jk_V i_t_got, .ref a_t_n, .ref a_t_order, .ref a_t_numbers, jk_V i_t_orders, .ref a_t_output, jk_V i_t_outputMany])), (a_t_w, jk_W cI 259 i_t_w)]
set_option maxHeartbeats 4000000 in
set_option maxRecDepth 20000 in
theorem ct_Md_topicOf (l : Launch) (D : va_G) (Z : (Nat → Prop) → State → Heap → Prop) (sq : Nat → Nat) (hZ : jk_ZK Z sq) (cI cR : ClassId) (a_t a_t_w a_t_wKept a_t_saved a_t_past a_t_input a_t_n a_t_order a_t_numbers a_t_output : Nat) (i_t_pastMany : Int) (i_t_isSaved : Int) (i_t_thrown : Int) (i_t_inputMany : Int) (i_t_lastError : Int) (i_t_lastOffset : Int) (i_t_error : Int) (i_t_offset : Int) (i_t_nextByte : Int) (i_t_begin : Int) (i_t_value : Int) (i_t_token : Int) (i_t_got : Int) (i_t_orders : Int) (i_t_outputMany : Int) (i_t_w : (Int → Int)) (x1 : Int) (q : Int × Int) (hf : fn_Md_topicOf i_t_w i_t_thrown x1 = some q) : jk_MI l D jk_cl (jk_ty cI cR) Z mn_Md_topicOf (.code mn_Md_topicOf mb_Md_topicOf 2 (some .int) :: jk_WA) (jk_rm 3 64) [.ref a_t, jk_V x1] (wd_Md_topicOf cI a_t a_t_w a_t_wKept a_t_saved a_t_past a_t_input a_t_n a_t_order a_t_numbers a_t_output i_t_pastMany i_t_isSaved i_t_thrown i_t_inputMany i_t_lastError i_t_lastOffset i_t_error i_t_offset i_t_nextByte i_t_begin i_t_value i_t_token i_t_got i_t_orders i_t_outputMany i_t_w) (wd_Md_topicOf cI a_t a_t_w a_t_wKept a_t_saved a_t_past a_t_input a_t_n a_t_order a_t_numbers a_t_output i_t_pastMany i_t_isSaved q.2 i_t_inputMany i_t_lastError i_t_lastOffset i_t_error i_t_offset i_t_nextByte i_t_begin i_t_value i_t_token i_t_got i_t_orders i_t_outputMany i_t_w) q.1 := by
  intro sz
  refine jk_body (by decide +kernel) (fun p e s m args below meth c hsz hz hin C => ?_) (Nat.le_of_ble_eq_true rfl)
  subst hsz
  unfold fn_Md_topicOf at hf
  refine jk_aload_n C rd_Md_topicOf_0 (k := 0) rfl ?_
  refine jk_iconst C rd_Md_topicOf_1 ?_
  refine jk_putf C in_Md ty_Md nm_Md (ci := 11) rfl 6 (by decide) tm_1269 rfl rfl rfl 0 rfl (Nat.le_of_ble_eq_true rfl) rd_Md_topicOf_2 (ws' := wd_Md_topicOf cI a_t a_t_w a_t_wKept a_t_saved a_t_past a_t_input a_t_n a_t_order a_t_numbers a_t_output i_t_pastMany i_t_isSaved 0 i_t_inputMany i_t_lastError i_t_lastOffset i_t_error i_t_offset i_t_nextByte i_t_begin i_t_value i_t_token i_t_got i_t_orders i_t_outputMany i_t_w) rfl ?_
  refine jk_aload_n C rd_Md_topicOf_5 (k := 0) rfl ?_
  refine jk_iload_n C rd_Md_topicOf_6 (k := 1) rfl ?_
  obtain ⟨q7, hq7, hf⟩ := jk_bind_h hf
  refine jk_callVi C hZ.1 hz (ct_Md_noCord l D Z sq hZ cI cR a_t a_t_w a_t_wKept a_t_saved a_t_past a_t_input a_t_n a_t_order a_t_numbers a_t_output i_t_pastMany i_t_isSaved 0 i_t_inputMany i_t_lastError i_t_lastOffset i_t_error i_t_offset i_t_nextByte i_t_begin i_t_value i_t_token i_t_got i_t_orders i_t_outputMany i_t_w x1 q7 hq7) tm_1639 tm_1641 sl_86 tm_15 tm_1642 na_Md_noCord ⟨Nat.le_of_ble_eq_true rfl, Nat.le_of_ble_eq_true rfl⟩ rfl [0, 1] rfl rfl rfl (ws' := wd_Md_topicOf cI a_t a_t_w a_t_wKept a_t_saved a_t_past a_t_input a_t_n a_t_order a_t_numbers a_t_output i_t_pastMany i_t_isSaved q7.2 i_t_inputMany i_t_lastError i_t_lastOffset i_t_error i_t_offset i_t_nextByte i_t_begin i_t_value i_t_token i_t_got i_t_orders i_t_outputMany i_t_w) rfl 0 11 rfl rfl rfl (st := []) rfl (Nat.le_of_ble_eq_true rfl) rd_Md_topicOf_7 ?_ ⟨Nat.le_refl _, Nat.le_refl _⟩
  refine jk_if_eq (tgt := 17) C rd_Md_topicOf_10 (by decide) hf (fun _ hf => ?_) (fun _ hf => ?_)
  · refine jk_aload_n C rd_Md_topicOf_17 (k := 0) rfl ?_
    refine jk_iload_n C rd_Md_topicOf_18 (k := 1) rfl ?_
    refine jk_iconst C rd_Md_topicOf_19 ?_
    obtain ⟨q20, hq20, hf⟩ := jk_bind_h hf
    refine jk_callVi C hZ.1 hz (ct_Md_of l D Z sq hZ cI cR a_t a_t_w a_t_wKept a_t_saved a_t_past a_t_input a_t_n a_t_order a_t_numbers a_t_output i_t_pastMany i_t_isSaved q7.2 i_t_inputMany i_t_lastError i_t_lastOffset i_t_error i_t_offset i_t_nextByte i_t_begin i_t_value i_t_token i_t_got i_t_orders i_t_outputMany i_t_w x1 2 q20 hq20) tm_1256 tm_1258 sl_26 tm_15 tm_1259 na_Md_of ⟨Nat.le_of_ble_eq_true rfl, Nat.le_of_ble_eq_true rfl⟩ rfl [0, 1] rfl rfl rfl (ws' := wd_Md_topicOf cI a_t a_t_w a_t_wKept a_t_saved a_t_past a_t_input a_t_n a_t_order a_t_numbers a_t_output i_t_pastMany i_t_isSaved q7.2 i_t_inputMany i_t_lastError i_t_lastOffset i_t_error i_t_offset i_t_nextByte i_t_begin i_t_value i_t_token i_t_got i_t_orders i_t_outputMany i_t_w) rfl 0 11 rfl rfl rfl (st := []) rfl (Nat.le_of_ble_eq_true rfl) rd_Md_topicOf_20 ?_ ⟨Nat.le_refl _, Nat.le_refl _⟩
    cases hf
    exact jk_iret C rfl rd_Md_topicOf_23 rfl
  · refine jk_iconst C rd_Md_topicOf_13 ?_
    refine jk_goto (tgt := 23) C rd_Md_topicOf_14 (by decide) ?_
    cases hf
    exact jk_iret C rfl rd_Md_topicOf_23 rfl
def wd_Md_subsidiariesOf (cI : ClassId) (a_t a_t_w a_t_wKept a_t_saved a_t_past a_t_input a_t_n a_t_order a_t_numbers a_t_output : Nat) (i_t_pastMany : Int) (i_t_isSaved : Int) (i_t_thrown : Int) (i_t_inputMany : Int) (i_t_lastError : Int) (i_t_lastOffset : Int) (i_t_error : Int) (i_t_offset : Int) (i_t_nextByte : Int) (i_t_begin : Int) (i_t_value : Int) (i_t_token : Int) (i_t_got : Int) (i_t_orders : Int) (i_t_outputMany : Int) (i_t_w : (Int → Int)) : va_W := [(a_t, .inr (11, [.ref a_t_w, .ref a_t_wKept, .ref a_t_saved, .ref a_t_past, jk_V i_t_pastMany, jk_V i_t_isSaved, jk_V i_t_thrown, .ref a_t_input, jk_V i_t_inputMany, jk_V i_t_lastError, jk_V i_t_lastOffset, jk_V i_t_error, jk_V i_t_offset, jk_V i_t_nextByte, jk_V i_t_begin, jk_V i_t_value, jk_V i_t_token, jk_V i_t_got, .ref a_t_n, .ref a_t_order, .ref a_t_numbers, jk_V i_t_orders, .ref a_t_output, jk_V i_t_outputMany])), (a_t_w, jk_W cI 259 i_t_w)]
set_option maxHeartbeats 4000000 in
set_option maxRecDepth 20000 in
theorem ct_Md_subsidiariesOf (l : Launch) (D : va_G) (Z : (Nat → Prop) → State → Heap → Prop) (sq : Nat → Nat) (hZ : jk_ZK Z sq) (cI cR : ClassId) (a_t a_t_w a_t_wKept a_t_saved a_t_past a_t_input a_t_n a_t_order a_t_numbers a_t_output : Nat) (i_t_pastMany : Int) (i_t_isSaved : Int) (i_t_thrown : Int) (i_t_inputMany : Int) (i_t_lastError : Int) (i_t_lastOffset : Int) (i_t_error : Int) (i_t_offset : Int) (i_t_nextByte : Int) (i_t_begin : Int) (i_t_value : Int) (i_t_token : Int) (i_t_got : Int) (i_t_orders : Int) (i_t_outputMany : Int) (i_t_w : (Int → Int)) (x1 : Int) (q : Int × Int) (hf : fn_Md_subsidiariesOf i_t_w i_t_thrown x1 = some q) : jk_MI l D jk_cl (jk_ty cI cR) Z mn_Md_subsidiariesOf (.code mn_Md_subsidiariesOf mb_Md_subsidiariesOf 2 (some .int) :: jk_WA) (jk_rm 3 67) [.ref a_t, jk_V x1] (wd_Md_subsidiariesOf cI a_t a_t_w a_t_wKept a_t_saved a_t_past a_t_input a_t_n a_t_order a_t_numbers a_t_output i_t_pastMany i_t_isSaved i_t_thrown i_t_inputMany i_t_lastError i_t_lastOffset i_t_error i_t_offset i_t_nextByte i_t_begin i_t_value i_t_token i_t_got i_t_orders i_t_outputMany i_t_w) (wd_Md_subsidiariesOf cI a_t a_t_w a_t_wKept a_t_saved a_t_past a_t_input a_t_n a_t_order a_t_numbers a_t_output i_t_pastMany i_t_isSaved q.2 i_t_inputMany i_t_lastError i_t_lastOffset i_t_error i_t_offset i_t_nextByte i_t_begin i_t_value i_t_token i_t_got i_t_orders i_t_outputMany i_t_w) q.1 := by
  intro sz
  refine jk_body (by decide +kernel) (fun p e s m args below meth c hsz hz hin C => ?_) (Nat.le_of_ble_eq_true rfl)
  subst hsz
  unfold fn_Md_subsidiariesOf at hf
  refine jk_aload_n C rd_Md_subsidiariesOf_0 (k := 0) rfl ?_
  refine jk_iconst C rd_Md_subsidiariesOf_1 ?_
  refine jk_putf C in_Md ty_Md nm_Md (ci := 11) rfl 6 (by decide) tm_1269 rfl rfl rfl 0 rfl (Nat.le_of_ble_eq_true rfl) rd_Md_subsidiariesOf_2 (ws' := wd_Md_subsidiariesOf cI a_t a_t_w a_t_wKept a_t_saved a_t_past a_t_input a_t_n a_t_order a_t_numbers a_t_output i_t_pastMany i_t_isSaved 0 i_t_inputMany i_t_lastError i_t_lastOffset i_t_error i_t_offset i_t_nextByte i_t_begin i_t_value i_t_token i_t_got i_t_orders i_t_outputMany i_t_w) rfl ?_
  refine jk_aload_n C rd_Md_subsidiariesOf_5 (k := 0) rfl ?_
  refine jk_iload_n C rd_Md_subsidiariesOf_6 (k := 1) rfl ?_
  obtain ⟨q7, hq7, hf⟩ := jk_bind_h hf
  refine jk_callVi C hZ.1 hz (ct_Md_noCord l D Z sq hZ cI cR a_t a_t_w a_t_wKept a_t_saved a_t_past a_t_input a_t_n a_t_order a_t_numbers a_t_output i_t_pastMany i_t_isSaved 0 i_t_inputMany i_t_lastError i_t_lastOffset i_t_error i_t_offset i_t_nextByte i_t_begin i_t_value i_t_token i_t_got i_t_orders i_t_outputMany i_t_w x1 q7 hq7) tm_1639 tm_1641 sl_86 tm_15 tm_1642 na_Md_noCord ⟨Nat.le_of_ble_eq_true rfl, Nat.le_of_ble_eq_true rfl⟩ rfl [0, 1] rfl rfl rfl (ws' := wd_Md_subsidiariesOf cI a_t a_t_w a_t_wKept a_t_saved a_t_past a_t_input a_t_n a_t_order a_t_numbers a_t_output i_t_pastMany i_t_isSaved q7.2 i_t_inputMany i_t_lastError i_t_lastOffset i_t_error i_t_offset i_t_nextByte i_t_begin i_t_value i_t_token i_t_got i_t_orders i_t_outputMany i_t_w) rfl 0 11 rfl rfl rfl (st := []) rfl (Nat.le_of_ble_eq_true rfl) rd_Md_subsidiariesOf_7 ?_ ⟨Nat.le_refl _, Nat.le_refl _⟩
  refine jk_if_eq (tgt := 17) C rd_Md_subsidiariesOf_10 (by decide) hf (fun _ hf => ?_) (fun _ hf => ?_)
  · refine jk_aload_n C rd_Md_subsidiariesOf_17 (k := 0) rfl ?_
    refine jk_iload_n C rd_Md_subsidiariesOf_18 (k := 1) rfl ?_
    obtain ⟨q19, hq19, hf⟩ := jk_bind_h hf
    refine jk_callVi C hZ.1 hz (ct_Md_subsidiaries l D Z sq hZ cI cR a_t a_t_w a_t_wKept a_t_saved a_t_past a_t_input a_t_n a_t_order a_t_numbers a_t_output i_t_pastMany i_t_isSaved q7.2 i_t_inputMany i_t_lastError i_t_lastOffset i_t_error i_t_offset i_t_nextByte i_t_begin i_t_value i_t_token i_t_got i_t_orders i_t_outputMany i_t_w x1 q19 hq19) tm_1667 tm_1669 sl_89 tm_15 tm_1670 na_Md_subsidiaries ⟨Nat.le_of_ble_eq_true rfl, Nat.le_of_ble_eq_true rfl⟩ rfl [0, 1] rfl rfl rfl (ws' := wd_Md_subsidiariesOf cI a_t a_t_w a_t_wKept a_t_saved a_t_past a_t_input a_t_n a_t_order a_t_numbers a_t_output i_t_pastMany i_t_isSaved q7.2 i_t_inputMany i_t_lastError i_t_lastOffset i_t_error i_t_offset i_t_nextByte i_t_begin i_t_value i_t_token i_t_got i_t_orders i_t_outputMany i_t_w) rfl 0 11 rfl rfl rfl (st := []) rfl (Nat.le_of_ble_eq_true rfl) rd_Md_subsidiariesOf_19 ?_ ⟨Nat.le_refl _, Nat.le_refl _⟩
    cases hf
    exact jk_iret C rfl rd_Md_subsidiariesOf_22 rfl
  · refine jk_iconst C rd_Md_subsidiariesOf_13 ?_
    refine jk_goto (tgt := 22) C rd_Md_subsidiariesOf_14 (by decide) ?_
    cases hf
    exact jk_iret C rfl rd_Md_subsidiariesOf_22 rfl
def wd_Md_nibbledPlaces (cI : ClassId) (a_t a_t_w a_t_wKept a_t_saved a_t_past a_t_input a_t_n a_t_order a_t_numbers a_t_output : Nat) (i_t_pastMany : Int) (i_t_isSaved : Int) (i_t_thrown : Int) (i_t_inputMany : Int) (i_t_lastError : Int) (i_t_lastOffset : Int) (i_t_error : Int) (i_t_offset : Int) (i_t_nextByte : Int) (i_t_begin : Int) (i_t_value : Int) (i_t_token : Int) (i_t_got : Int) (i_t_orders : Int) (i_t_outputMany : Int) (i_t_w : (Int → Int)) : va_W := [(a_t, .inr (11, [.ref a_t_w, .ref a_t_wKept, .ref a_t_saved, .ref a_t_past, jk_V i_t_pastMany, jk_V i_t_isSaved, jk_V i_t_thrown, .ref a_t_input, jk_V i_t_inputMany, jk_V i_t_lastError, jk_V i_t_lastOffset, jk_V i_t_error, jk_V i_t_offset, jk_V i_t_nextByte, jk_V i_t_begin, jk_V i_t_value, jk_V i_t_token, jk_V i_t_got, .ref a_t_n, .ref a_t_order, .ref a_t_numbers, jk_V i_t_orders, .ref a_t_output, jk_V i_t_outputMany])), (a_t_w, jk_W cI 259 i_t_w)]
set_option maxHeartbeats 4000000 in
set_option maxRecDepth 20000 in
theorem ct_Md_nibbledPlaces (l : Launch) (D : va_G) (Z : (Nat → Prop) → State → Heap → Prop) (sq : Nat → Nat) (hZ : jk_ZK Z sq) (cI cR : ClassId) (a_t a_t_w a_t_wKept a_t_saved a_t_past a_t_input a_t_n a_t_order a_t_numbers a_t_output : Nat) (i_t_pastMany : Int) (i_t_isSaved : Int) (i_t_thrown : Int) (i_t_inputMany : Int) (i_t_lastError : Int) (i_t_lastOffset : Int) (i_t_error : Int) (i_t_offset : Int) (i_t_nextByte : Int) (i_t_begin : Int) (i_t_value : Int) (i_t_token : Int) (i_t_got : Int) (i_t_orders : Int) (i_t_outputMany : Int) (i_t_w : (Int → Int)) (x1 : Int) (q : Int × Int) (hf : fn_Md_nibbledPlaces i_t_w i_t_thrown x1 = some q) : jk_MI l D jk_cl (jk_ty cI cR) Z mn_Md_nibbledPlaces (.code mn_Md_nibbledPlaces mb_Md_nibbledPlaces 2 (some .int) :: jk_WA) (jk_rm 3 64) [.ref a_t, jk_V x1] (wd_Md_nibbledPlaces cI a_t a_t_w a_t_wKept a_t_saved a_t_past a_t_input a_t_n a_t_order a_t_numbers a_t_output i_t_pastMany i_t_isSaved i_t_thrown i_t_inputMany i_t_lastError i_t_lastOffset i_t_error i_t_offset i_t_nextByte i_t_begin i_t_value i_t_token i_t_got i_t_orders i_t_outputMany i_t_w) (wd_Md_nibbledPlaces cI a_t a_t_w a_t_wKept a_t_saved a_t_past a_t_input a_t_n a_t_order a_t_numbers a_t_output i_t_pastMany i_t_isSaved q.2 i_t_inputMany i_t_lastError i_t_lastOffset i_t_error i_t_offset i_t_nextByte i_t_begin i_t_value i_t_token i_t_got i_t_orders i_t_outputMany i_t_w) q.1 := by
  intro sz
  refine jk_body (by decide +kernel) (fun p e s m args below meth c hsz hz hin C => ?_) (Nat.le_of_ble_eq_true rfl)
  subst hsz
  unfold fn_Md_nibbledPlaces at hf
  refine jk_aload_n C rd_Md_nibbledPlaces_0 (k := 0) rfl ?_
  refine jk_iconst C rd_Md_nibbledPlaces_1 ?_
  refine jk_putf C in_Md ty_Md nm_Md (ci := 11) rfl 6 (by decide) tm_1269 rfl rfl rfl 0 rfl (Nat.le_of_ble_eq_true rfl) rd_Md_nibbledPlaces_2 (ws' := wd_Md_nibbledPlaces cI a_t a_t_w a_t_wKept a_t_saved a_t_past a_t_input a_t_n a_t_order a_t_numbers a_t_output i_t_pastMany i_t_isSaved 0 i_t_inputMany i_t_lastError i_t_lastOffset i_t_error i_t_offset i_t_nextByte i_t_begin i_t_value i_t_token i_t_got i_t_orders i_t_outputMany i_t_w) rfl ?_
  refine jk_aload_n C rd_Md_nibbledPlaces_5 (k := 0) rfl ?_
  refine jk_iload_n C rd_Md_nibbledPlaces_6 (k := 1) rfl ?_
  obtain ⟨q7, hq7, hf⟩ := jk_bind_h hf
  refine jk_callVi C hZ.1 hz (ct_Md_noCord l D Z sq hZ cI cR a_t a_t_w a_t_wKept a_t_saved a_t_past a_t_input a_t_n a_t_order a_t_numbers a_t_output i_t_pastMany i_t_isSaved 0 i_t_inputMany i_t_lastError i_t_lastOffset i_t_error i_t_offset i_t_nextByte i_t_begin i_t_value i_t_token i_t_got i_t_orders i_t_outputMany i_t_w x1 q7 hq7) tm_1639 tm_1641 sl_86 tm_15 tm_1642 na_Md_noCord ⟨Nat.le_of_ble_eq_true rfl, Nat.le_of_ble_eq_true rfl⟩ rfl [0, 1] rfl rfl rfl (ws' := wd_Md_nibbledPlaces cI a_t a_t_w a_t_wKept a_t_saved a_t_past a_t_input a_t_n a_t_order a_t_numbers a_t_output i_t_pastMany i_t_isSaved q7.2 i_t_inputMany i_t_lastError i_t_lastOffset i_t_error i_t_offset i_t_nextByte i_t_begin i_t_value i_t_token i_t_got i_t_orders i_t_outputMany i_t_w) rfl 0 11 rfl rfl rfl (st := []) rfl (Nat.le_of_ble_eq_true rfl) rd_Md_nibbledPlaces_7 ?_ ⟨Nat.le_refl _, Nat.le_refl _⟩
  refine jk_if_eq (tgt := 17) C rd_Md_nibbledPlaces_10 (by decide) hf (fun _ hf => ?_) (fun _ hf => ?_)
  · refine jk_aload_n C rd_Md_nibbledPlaces_17 (k := 0) rfl ?_
    refine jk_iload_n C rd_Md_nibbledPlaces_18 (k := 1) rfl ?_
    refine jk_iconst C rd_Md_nibbledPlaces_19 ?_
    obtain ⟨q20, hq20, hf⟩ := jk_bind_h hf
    refine jk_callVi C hZ.1 hz (ct_Md_of l D Z sq hZ cI cR a_t a_t_w a_t_wKept a_t_saved a_t_past a_t_input a_t_n a_t_order a_t_numbers a_t_output i_t_pastMany i_t_isSaved q7.2 i_t_inputMany i_t_lastError i_t_lastOffset i_t_error i_t_offset i_t_nextByte i_t_begin i_t_value i_t_token i_t_got i_t_orders i_t_outputMany i_t_w x1 4 q20 hq20) tm_1256 tm_1258 sl_26 tm_15 tm_1259 na_Md_of ⟨Nat.le_of_ble_eq_true rfl, Nat.le_of_ble_eq_true rfl⟩ rfl [0, 1] rfl rfl rfl (ws' := wd_Md_nibbledPlaces cI a_t a_t_w a_t_wKept a_t_saved a_t_past a_t_input a_t_n a_t_order a_t_numbers a_t_output i_t_pastMany i_t_isSaved q7.2 i_t_inputMany i_t_lastError i_t_lastOffset i_t_error i_t_offset i_t_nextByte i_t_begin i_t_value i_t_token i_t_got i_t_orders i_t_outputMany i_t_w) rfl 0 11 rfl rfl rfl (st := []) rfl (Nat.le_of_ble_eq_true rfl) rd_Md_nibbledPlaces_20 ?_ ⟨Nat.le_refl _, Nat.le_refl _⟩
    cases hf
    exact jk_iret C rfl rd_Md_nibbledPlaces_23 rfl
  · refine jk_iconst C rd_Md_nibbledPlaces_13 ?_
    refine jk_goto (tgt := 23) C rd_Md_nibbledPlaces_14 (by decide) ?_
    cases hf
    exact jk_iret C rfl rd_Md_nibbledPlaces_23 rfl
def wd_Md_knownValue (cI : ClassId) (a_t a_t_w a_t_wKept a_t_saved a_t_past a_t_input a_t_n a_t_order a_t_numbers a_t_output : Nat) (i_t_pastMany : Int) (i_t_isSaved : Int) (i_t_thrown : Int) (i_t_inputMany : Int) (i_t_lastError : Int) (i_t_lastOffset : Int) (i_t_error : Int) (i_t_offset : Int) (i_t_nextByte : Int) (i_t_begin : Int) (i_t_value : Int) (i_t_token : Int) (i_t_got : Int) (i_t_orders : Int) (i_t_outputMany : Int) (i_t_w : (Int → Int)) : va_W := [(a_t, .inr (11, [.ref a_t_w, .ref a_t_wKept, .ref a_t_saved, .ref a_t_past, jk_V i_t_pastMany, jk_V i_t_isSaved, jk_V i_t_thrown, .ref a_t_input, jk_V i_t_inputMany, jk_V i_t_lastError, jk_V i_t_lastOffset, jk_V i_t_error, jk_V i_t_offset, jk_V i_t_nextByte, jk_V i_t_begin, jk_V i_t_value, jk_V i_t_token, jk_V i_t_got, .ref a_t_n, .ref a_t_order, .ref a_t_numbers, jk_V i_t_orders, .ref a_t_output, jk_V i_t_outputMany])), (a_t_w, jk_W cI 259 i_t_w)]
set_option maxHeartbeats 4000000 in
set_option maxRecDepth 20000 in
theorem ct_Md_knownValue (l : Launch) (D : va_G) (Z : (Nat → Prop) → State → Heap → Prop) (sq : Nat → Nat) (hZ : jk_ZK Z sq) (cI cR : ClassId) (a_t a_t_w a_t_wKept a_t_saved a_t_past a_t_input a_t_n a_t_order a_t_numbers a_t_output : Nat) (i_t_pastMany : Int) (i_t_isSaved : Int) (i_t_thrown : Int) (i_t_inputMany : Int) (i_t_lastError : Int) (i_t_lastOffset : Int) (i_t_error : Int) (i_t_offset : Int) (i_t_nextByte : Int) (i_t_begin : Int) (i_t_value : Int) (i_t_token : Int) (i_t_got : Int) (i_t_orders : Int) (i_t_outputMany : Int) (i_t_w : (Int → Int)) (x1 : Int) (q : Int × Int) (hf : fn_Md_knownValue i_t_w i_t_thrown x1 = some q) : jk_MI l D jk_cl (jk_ty cI cR) Z mn_Md_knownValue (.code mn_Md_knownValue mb_Md_knownValue 2 (some .int) :: jk_WA) (jk_rm 3 64) [.ref a_t, jk_V x1] (wd_Md_knownValue cI a_t a_t_w a_t_wKept a_t_saved a_t_past a_t_input a_t_n a_t_order a_t_numbers a_t_output i_t_pastMany i_t_isSaved i_t_thrown i_t_inputMany i_t_lastError i_t_lastOffset i_t_error i_t_offset i_t_nextByte i_t_begin i_t_value i_t_token i_t_got i_t_orders i_t_outputMany i_t_w) (wd_Md_knownValue cI a_t a_t_w a_t_wKept a_t_saved a_t_past a_t_input a_t_n a_t_order a_t_numbers a_t_output i_t_pastMany i_t_isSaved q.2 i_t_inputMany i_t_lastError i_t_lastOffset i_t_error i_t_offset i_t_nextByte i_t_begin i_t_value i_t_token i_t_got i_t_orders i_t_outputMany i_t_w) q.1 := by
  intro sz
  refine jk_body (by decide +kernel) (fun p e s m args below meth c hsz hz hin C => ?_) (Nat.le_of_ble_eq_true rfl)
  subst hsz
  unfold fn_Md_knownValue at hf
  refine jk_aload_n C rd_Md_knownValue_0 (k := 0) rfl ?_
  refine jk_iconst C rd_Md_knownValue_1 ?_
  refine jk_putf C in_Md ty_Md nm_Md (ci := 11) rfl 6 (by decide) tm_1269 rfl rfl rfl 0 rfl (Nat.le_of_ble_eq_true rfl) rd_Md_knownValue_2 (ws' := wd_Md_knownValue cI a_t a_t_w a_t_wKept a_t_saved a_t_past a_t_input a_t_n a_t_order a_t_numbers a_t_output i_t_pastMany i_t_isSaved 0 i_t_inputMany i_t_lastError i_t_lastOffset i_t_error i_t_offset i_t_nextByte i_t_begin i_t_value i_t_token i_t_got i_t_orders i_t_outputMany i_t_w) rfl ?_
  refine jk_aload_n C rd_Md_knownValue_5 (k := 0) rfl ?_
  refine jk_iload_n C rd_Md_knownValue_6 (k := 1) rfl ?_
  obtain ⟨q7, hq7, hf⟩ := jk_bind_h hf
  refine jk_callVi C hZ.1 hz (ct_Md_noCord l D Z sq hZ cI cR a_t a_t_w a_t_wKept a_t_saved a_t_past a_t_input a_t_n a_t_order a_t_numbers a_t_output i_t_pastMany i_t_isSaved 0 i_t_inputMany i_t_lastError i_t_lastOffset i_t_error i_t_offset i_t_nextByte i_t_begin i_t_value i_t_token i_t_got i_t_orders i_t_outputMany i_t_w x1 q7 hq7) tm_1639 tm_1641 sl_86 tm_15 tm_1642 na_Md_noCord ⟨Nat.le_of_ble_eq_true rfl, Nat.le_of_ble_eq_true rfl⟩ rfl [0, 1] rfl rfl rfl (ws' := wd_Md_knownValue cI a_t a_t_w a_t_wKept a_t_saved a_t_past a_t_input a_t_n a_t_order a_t_numbers a_t_output i_t_pastMany i_t_isSaved q7.2 i_t_inputMany i_t_lastError i_t_lastOffset i_t_error i_t_offset i_t_nextByte i_t_begin i_t_value i_t_token i_t_got i_t_orders i_t_outputMany i_t_w) rfl 0 11 rfl rfl rfl (st := []) rfl (Nat.le_of_ble_eq_true rfl) rd_Md_knownValue_7 ?_ ⟨Nat.le_refl _, Nat.le_refl _⟩
  refine jk_if_eq (tgt := 17) C rd_Md_knownValue_10 (by decide) hf (fun _ hf => ?_) (fun _ hf => ?_)
  · refine jk_aload_n C rd_Md_knownValue_17 (k := 0) rfl ?_
    refine jk_iload_n C rd_Md_knownValue_18 (k := 1) rfl ?_
    refine jk_iconst C rd_Md_knownValue_19 ?_
    obtain ⟨q20, hq20, hf⟩ := jk_bind_h hf
    refine jk_callVi C hZ.1 hz (ct_Md_of l D Z sq hZ cI cR a_t a_t_w a_t_wKept a_t_saved a_t_past a_t_input a_t_n a_t_order a_t_numbers a_t_output i_t_pastMany i_t_isSaved q7.2 i_t_inputMany i_t_lastError i_t_lastOffset i_t_error i_t_offset i_t_nextByte i_t_begin i_t_value i_t_token i_t_got i_t_orders i_t_outputMany i_t_w x1 3 q20 hq20) tm_1256 tm_1258 sl_26 tm_15 tm_1259 na_Md_of ⟨Nat.le_of_ble_eq_true rfl, Nat.le_of_ble_eq_true rfl⟩ rfl [0, 1] rfl rfl rfl (ws' := wd_Md_knownValue cI a_t a_t_w a_t_wKept a_t_saved a_t_past a_t_input a_t_n a_t_order a_t_numbers a_t_output i_t_pastMany i_t_isSaved q7.2 i_t_inputMany i_t_lastError i_t_lastOffset i_t_error i_t_offset i_t_nextByte i_t_begin i_t_value i_t_token i_t_got i_t_orders i_t_outputMany i_t_w) rfl 0 11 rfl rfl rfl (st := []) rfl (Nat.le_of_ble_eq_true rfl) rd_Md_knownValue_20 ?_ ⟨Nat.le_refl _, Nat.le_refl _⟩
    cases hf
    exact jk_iret C rfl rd_Md_knownValue_23 rfl
  · refine jk_iconst C rd_Md_knownValue_13 ?_
    refine jk_goto (tgt := 23) C rd_Md_knownValue_14 (by decide) ?_
    cases hf
    exact jk_iret C rfl rd_Md_knownValue_23 rfl
def wd_Md_lowestTotal (cI : ClassId) (a_t a_t_w a_t_wKept a_t_saved a_t_past a_t_input a_t_n a_t_order a_t_numbers a_t_output : Nat) (i_t_pastMany : Int) (i_t_isSaved : Int) (i_t_thrown : Int) (i_t_inputMany : Int) (i_t_lastError : Int) (i_t_lastOffset : Int) (i_t_error : Int) (i_t_offset : Int) (i_t_nextByte : Int) (i_t_begin : Int) (i_t_value : Int) (i_t_token : Int) (i_t_got : Int) (i_t_orders : Int) (i_t_outputMany : Int) (i_t_w : (Int → Int)) : va_W := [(a_t, .inr (11, [.ref a_t_w, .ref a_t_wKept, .ref a_t_saved, .ref a_t_past, jk_V i_t_pastMany, jk_V i_t_isSaved, jk_V i_t_thrown, .ref a_t_input, jk_V i_t_inputMany, jk_V i_t_lastError, jk_V i_t_lastOffset, jk_V i_t_error, jk_V i_t_offset, jk_V i_t_nextByte, jk_V i_t_begin, jk_V i_t_value, jk_V i_t_token, jk_V i_t_got, .ref a_t_n, .ref a_t_order, .ref a_t_numbers, jk_V i_t_orders, .ref a_t_output, jk_V i_t_outputMany])), (a_t_w, jk_W cI 259 i_t_w)]
set_option maxHeartbeats 4000000 in
set_option maxRecDepth 20000 in
theorem ct_Md_lowestTotal (l : Launch) (D : va_G) (Z : (Nat → Prop) → State → Heap → Prop) (sq : Nat → Nat) (hZ : jk_ZK Z sq) (cI cR : ClassId) (a_t a_t_w a_t_wKept a_t_saved a_t_past a_t_input a_t_n a_t_order a_t_numbers a_t_output : Nat) (i_t_pastMany : Int) (i_t_isSaved : Int) (i_t_thrown : Int) (i_t_inputMany : Int) (i_t_lastError : Int) (i_t_lastOffset : Int) (i_t_error : Int) (i_t_offset : Int) (i_t_nextByte : Int) (i_t_begin : Int) (i_t_value : Int) (i_t_token : Int) (i_t_got : Int) (i_t_orders : Int) (i_t_outputMany : Int) (i_t_w : (Int → Int)) (x1 : Int) (q : Int × Int) (hf : fn_Md_lowestTotal i_t_w i_t_thrown x1 = some q) : jk_MI l D jk_cl (jk_ty cI cR) Z mn_Md_lowestTotal (.code mn_Md_lowestTotal mb_Md_lowestTotal 2 (some .int) :: jk_WA) (jk_rm 3 67) [.ref a_t, jk_V x1] (wd_Md_lowestTotal cI a_t a_t_w a_t_wKept a_t_saved a_t_past a_t_input a_t_n a_t_order a_t_numbers a_t_output i_t_pastMany i_t_isSaved i_t_thrown i_t_inputMany i_t_lastError i_t_lastOffset i_t_error i_t_offset i_t_nextByte i_t_begin i_t_value i_t_token i_t_got i_t_orders i_t_outputMany i_t_w) (wd_Md_lowestTotal cI a_t a_t_w a_t_wKept a_t_saved a_t_past a_t_input a_t_n a_t_order a_t_numbers a_t_output i_t_pastMany i_t_isSaved q.2 i_t_inputMany i_t_lastError i_t_lastOffset i_t_error i_t_offset i_t_nextByte i_t_begin i_t_value i_t_token i_t_got i_t_orders i_t_outputMany i_t_w) q.1 := by
  intro sz
  refine jk_body (by decide +kernel) (fun p e s m args below meth c hsz hz hin C => ?_) (Nat.le_of_ble_eq_true rfl)
  subst hsz
  unfold fn_Md_lowestTotal at hf
  refine jk_aload_n C rd_Md_lowestTotal_0 (k := 0) rfl ?_
  refine jk_iconst C rd_Md_lowestTotal_1 ?_
  refine jk_putf C in_Md ty_Md nm_Md (ci := 11) rfl 6 (by decide) tm_1269 rfl rfl rfl 0 rfl (Nat.le_of_ble_eq_true rfl) rd_Md_lowestTotal_2 (ws' := wd_Md_lowestTotal cI a_t a_t_w a_t_wKept a_t_saved a_t_past a_t_input a_t_n a_t_order a_t_numbers a_t_output i_t_pastMany i_t_isSaved 0 i_t_inputMany i_t_lastError i_t_lastOffset i_t_error i_t_offset i_t_nextByte i_t_begin i_t_value i_t_token i_t_got i_t_orders i_t_outputMany i_t_w) rfl ?_
  refine jk_aload_n C rd_Md_lowestTotal_5 (k := 0) rfl ?_
  refine jk_iload_n C rd_Md_lowestTotal_6 (k := 1) rfl ?_
  obtain ⟨q7, hq7, hf⟩ := jk_bind_h hf
  refine jk_callVi C hZ.1 hz (ct_Md_noCord l D Z sq hZ cI cR a_t a_t_w a_t_wKept a_t_saved a_t_past a_t_input a_t_n a_t_order a_t_numbers a_t_output i_t_pastMany i_t_isSaved 0 i_t_inputMany i_t_lastError i_t_lastOffset i_t_error i_t_offset i_t_nextByte i_t_begin i_t_value i_t_token i_t_got i_t_orders i_t_outputMany i_t_w x1 q7 hq7) tm_1639 tm_1641 sl_86 tm_15 tm_1642 na_Md_noCord ⟨Nat.le_of_ble_eq_true rfl, Nat.le_of_ble_eq_true rfl⟩ rfl [0, 1] rfl rfl rfl (ws' := wd_Md_lowestTotal cI a_t a_t_w a_t_wKept a_t_saved a_t_past a_t_input a_t_n a_t_order a_t_numbers a_t_output i_t_pastMany i_t_isSaved q7.2 i_t_inputMany i_t_lastError i_t_lastOffset i_t_error i_t_offset i_t_nextByte i_t_begin i_t_value i_t_token i_t_got i_t_orders i_t_outputMany i_t_w) rfl 0 11 rfl rfl rfl (st := []) rfl (Nat.le_of_ble_eq_true rfl) rd_Md_lowestTotal_7 ?_ ⟨Nat.le_refl _, Nat.le_refl _⟩
  refine jk_if_eq (tgt := 17) C rd_Md_lowestTotal_10 (by decide) hf (fun _ hf => ?_) (fun _ hf => ?_)
  · refine jk_aload_n C rd_Md_lowestTotal_17 (k := 0) rfl ?_
    refine jk_iload_n C rd_Md_lowestTotal_18 (k := 1) rfl ?_
    obtain ⟨q19, hq19, hf⟩ := jk_bind_h hf
    refine jk_callVi C hZ.1 hz (ct_Md_lowest l D Z sq hZ cI cR a_t a_t_w a_t_wKept a_t_saved a_t_past a_t_input a_t_n a_t_order a_t_numbers a_t_output i_t_pastMany i_t_isSaved q7.2 i_t_inputMany i_t_lastError i_t_lastOffset i_t_error i_t_offset i_t_nextByte i_t_begin i_t_value i_t_token i_t_got i_t_orders i_t_outputMany i_t_w x1 q19 hq19) tm_1683 tm_1685 sl_90 tm_15 tm_1686 na_Md_lowest ⟨Nat.le_of_ble_eq_true rfl, Nat.le_of_ble_eq_true rfl⟩ rfl [0, 1] rfl rfl rfl (ws' := wd_Md_lowestTotal cI a_t a_t_w a_t_wKept a_t_saved a_t_past a_t_input a_t_n a_t_order a_t_numbers a_t_output i_t_pastMany i_t_isSaved q7.2 i_t_inputMany i_t_lastError i_t_lastOffset i_t_error i_t_offset i_t_nextByte i_t_begin i_t_value i_t_token i_t_got i_t_orders i_t_outputMany i_t_w) rfl 0 11 rfl rfl rfl (st := []) rfl (Nat.le_of_ble_eq_true rfl) rd_Md_lowestTotal_19 ?_ ⟨Nat.le_refl _, Nat.le_refl _⟩
    cases hf
    exact jk_iret C rfl rd_Md_lowestTotal_22 rfl
  · refine jk_iconst C rd_Md_lowestTotal_13 ?_
    refine jk_goto (tgt := 22) C rd_Md_lowestTotal_14 (by decide) ?_
    cases hf
    exact jk_iret C rfl rd_Md_lowestTotal_22 rfl
def wd_Md_highestTotal (cI : ClassId) (a_t a_t_w a_t_wKept a_t_saved a_t_past a_t_input a_t_n a_t_order a_t_numbers a_t_output : Nat) (i_t_pastMany : Int) (i_t_isSaved : Int) (i_t_thrown : Int) (i_t_inputMany : Int) (i_t_lastError : Int) (i_t_lastOffset : Int) (i_t_error : Int) (i_t_offset : Int) (i_t_nextByte : Int) (i_t_begin : Int) (i_t_value : Int) (i_t_token : Int) (i_t_got : Int) (i_t_orders : Int) (i_t_outputMany : Int) (i_t_w : (Int → Int)) : va_W := [(a_t, .inr (11, [.ref a_t_w, .ref a_t_wKept, .ref a_t_saved, .ref a_t_past, jk_V i_t_pastMany, jk_V i_t_isSaved, jk_V i_t_thrown, .ref a_t_input, jk_V i_t_inputMany, jk_V i_t_lastError, jk_V i_t_lastOffset, jk_V i_t_error, jk_V i_t_offset, jk_V i_t_nextByte, jk_V i_t_begin, jk_V i_t_value, jk_V i_t_token, jk_V i_t_got, .ref a_t_n, .ref a_t_order, .ref a_t_numbers, jk_V i_t_orders, .ref a_t_output, jk_V i_t_outputMany])), (a_t_w, jk_W cI 259 i_t_w)]
set_option maxHeartbeats 4000000 in
set_option maxRecDepth 20000 in
theorem ct_Md_highestTotal (l : Launch) (D : va_G) (Z : (Nat → Prop) → State → Heap → Prop) (sq : Nat → Nat) (hZ : jk_ZK Z sq) (cI cR : ClassId) (a_t a_t_w a_t_wKept a_t_saved a_t_past a_t_input a_t_n a_t_order a_t_numbers a_t_output : Nat) (i_t_pastMany : Int) (i_t_isSaved : Int) (i_t_thrown : Int) (i_t_inputMany : Int) (i_t_lastError : Int) (i_t_lastOffset : Int) (i_t_error : Int) (i_t_offset : Int) (i_t_nextByte : Int) (i_t_begin : Int) (i_t_value : Int) (i_t_token : Int) (i_t_got : Int) (i_t_orders : Int) (i_t_outputMany : Int) (i_t_w : (Int → Int)) (x1 : Int) (q : Int × Int) (hf : fn_Md_highestTotal i_t_w i_t_thrown x1 = some q) : jk_MI l D jk_cl (jk_ty cI cR) Z mn_Md_highestTotal (.code mn_Md_highestTotal mb_Md_highestTotal 2 (some .int) :: jk_WA) (jk_rm 3 67) [.ref a_t, jk_V x1] (wd_Md_highestTotal cI a_t a_t_w a_t_wKept a_t_saved a_t_past a_t_input a_t_n a_t_order a_t_numbers a_t_output i_t_pastMany i_t_isSaved i_t_thrown i_t_inputMany i_t_lastError i_t_lastOffset i_t_error i_t_offset i_t_nextByte i_t_begin i_t_value i_t_token i_t_got i_t_orders i_t_outputMany i_t_w) (wd_Md_highestTotal cI a_t a_t_w a_t_wKept a_t_saved a_t_past a_t_input a_t_n a_t_order a_t_numbers a_t_output i_t_pastMany i_t_isSaved q.2 i_t_inputMany i_t_lastError i_t_lastOffset i_t_error i_t_offset i_t_nextByte i_t_begin i_t_value i_t_token i_t_got i_t_orders i_t_outputMany i_t_w) q.1 := by
  intro sz
  refine jk_body (by decide +kernel) (fun p e s m args below meth c hsz hz hin C => ?_) (Nat.le_of_ble_eq_true rfl)
  subst hsz
  unfold fn_Md_highestTotal at hf
  refine jk_aload_n C rd_Md_highestTotal_0 (k := 0) rfl ?_
  refine jk_iconst C rd_Md_highestTotal_1 ?_
  refine jk_putf C in_Md ty_Md nm_Md (ci := 11) rfl 6 (by decide) tm_1269 rfl rfl rfl 0 rfl (Nat.le_of_ble_eq_true rfl) rd_Md_highestTotal_2 (ws' := wd_Md_highestTotal cI a_t a_t_w a_t_wKept a_t_saved a_t_past a_t_input a_t_n a_t_order a_t_numbers a_t_output i_t_pastMany i_t_isSaved 0 i_t_inputMany i_t_lastError i_t_lastOffset i_t_error i_t_offset i_t_nextByte i_t_begin i_t_value i_t_token i_t_got i_t_orders i_t_outputMany i_t_w) rfl ?_
  refine jk_aload_n C rd_Md_highestTotal_5 (k := 0) rfl ?_
  refine jk_iload_n C rd_Md_highestTotal_6 (k := 1) rfl ?_
  obtain ⟨q7, hq7, hf⟩ := jk_bind_h hf
  refine jk_callVi C hZ.1 hz (ct_Md_noCord l D Z sq hZ cI cR a_t a_t_w a_t_wKept a_t_saved a_t_past a_t_input a_t_n a_t_order a_t_numbers a_t_output i_t_pastMany i_t_isSaved 0 i_t_inputMany i_t_lastError i_t_lastOffset i_t_error i_t_offset i_t_nextByte i_t_begin i_t_value i_t_token i_t_got i_t_orders i_t_outputMany i_t_w x1 q7 hq7) tm_1639 tm_1641 sl_86 tm_15 tm_1642 na_Md_noCord ⟨Nat.le_of_ble_eq_true rfl, Nat.le_of_ble_eq_true rfl⟩ rfl [0, 1] rfl rfl rfl (ws' := wd_Md_highestTotal cI a_t a_t_w a_t_wKept a_t_saved a_t_past a_t_input a_t_n a_t_order a_t_numbers a_t_output i_t_pastMany i_t_isSaved q7.2 i_t_inputMany i_t_lastError i_t_lastOffset i_t_error i_t_offset i_t_nextByte i_t_begin i_t_value i_t_token i_t_got i_t_orders i_t_outputMany i_t_w) rfl 0 11 rfl rfl rfl (st := []) rfl (Nat.le_of_ble_eq_true rfl) rd_Md_highestTotal_7 ?_ ⟨Nat.le_refl _, Nat.le_refl _⟩
  refine jk_if_eq (tgt := 17) C rd_Md_highestTotal_10 (by decide) hf (fun _ hf => ?_) (fun _ hf => ?_)
  · refine jk_aload_n C rd_Md_highestTotal_17 (k := 0) rfl ?_
    refine jk_iload_n C rd_Md_highestTotal_18 (k := 1) rfl ?_
    obtain ⟨q19, hq19, hf⟩ := jk_bind_h hf
    refine jk_callVi C hZ.1 hz (ct_Md_highest l D Z sq hZ cI cR a_t a_t_w a_t_wKept a_t_saved a_t_past a_t_input a_t_n a_t_order a_t_numbers a_t_output i_t_pastMany i_t_isSaved q7.2 i_t_inputMany i_t_lastError i_t_lastOffset i_t_error i_t_offset i_t_nextByte i_t_begin i_t_value i_t_token i_t_got i_t_orders i_t_outputMany i_t_w x1 q19 hq19) tm_1691 tm_1693 sl_91 tm_15 tm_1694 na_Md_highest ⟨Nat.le_of_ble_eq_true rfl, Nat.le_of_ble_eq_true rfl⟩ rfl [0, 1] rfl rfl rfl (ws' := wd_Md_highestTotal cI a_t a_t_w a_t_wKept a_t_saved a_t_past a_t_input a_t_n a_t_order a_t_numbers a_t_output i_t_pastMany i_t_isSaved q7.2 i_t_inputMany i_t_lastError i_t_lastOffset i_t_error i_t_offset i_t_nextByte i_t_begin i_t_value i_t_token i_t_got i_t_orders i_t_outputMany i_t_w) rfl 0 11 rfl rfl rfl (st := []) rfl (Nat.le_of_ble_eq_true rfl) rd_Md_highestTotal_19 ?_ ⟨Nat.le_refl _, Nat.le_refl _⟩
    cases hf
    exact jk_iret C rfl rd_Md_highestTotal_22 rfl
  · refine jk_iconst C rd_Md_highestTotal_13 ?_
    refine jk_goto (tgt := 22) C rd_Md_highestTotal_14 (by decide) ?_
    cases hf
    exact jk_iret C rfl rd_Md_highestTotal_22 rfl
def wd_Md_pendantsIn (cI : ClassId) (a_t a_t_w a_t_wKept a_t_saved a_t_past a_t_input a_t_n a_t_order a_t_numbers a_t_output : Nat) (i_t_pastMany : Int) (i_t_isSaved : Int) (i_t_thrown : Int) (i_t_inputMany : Int) (i_t_lastError : Int) (i_t_lastOffset : Int) (i_t_error : Int) (i_t_offset : Int) (i_t_nextByte : Int) (i_t_begin : Int) (i_t_value : Int) (i_t_token : Int) (i_t_got : Int) (i_t_orders : Int) (i_t_outputMany : Int) (i_t_w : (Int → Int)) : va_W := [(a_t, .inr (11, [.ref a_t_w, .ref a_t_wKept, .ref a_t_saved, .ref a_t_past, jk_V i_t_pastMany, jk_V i_t_isSaved, jk_V i_t_thrown, .ref a_t_input, jk_V i_t_inputMany, jk_V i_t_lastError, jk_V i_t_lastOffset, jk_V i_t_error, jk_V i_t_offset, jk_V i_t_nextByte, jk_V i_t_begin, jk_V i_t_value, jk_V i_t_token, jk_V i_t_got, .ref a_t_n, .ref a_t_order, .ref a_t_numbers, jk_V i_t_orders, .ref a_t_output, jk_V i_t_outputMany])), (a_t_w, jk_W cI 259 i_t_w)]
set_option maxHeartbeats 4000000 in
set_option maxRecDepth 20000 in
theorem ct_Md_pendantsIn (l : Launch) (D : va_G) (Z : (Nat → Prop) → State → Heap → Prop) (sq : Nat → Nat) (hZ : jk_ZK Z sq) (cI cR : ClassId) (a_t a_t_w a_t_wKept a_t_saved a_t_past a_t_input a_t_n a_t_order a_t_numbers a_t_output : Nat) (i_t_pastMany : Int) (i_t_isSaved : Int) (i_t_thrown : Int) (i_t_inputMany : Int) (i_t_lastError : Int) (i_t_lastOffset : Int) (i_t_error : Int) (i_t_offset : Int) (i_t_nextByte : Int) (i_t_begin : Int) (i_t_value : Int) (i_t_token : Int) (i_t_got : Int) (i_t_orders : Int) (i_t_outputMany : Int) (i_t_w : (Int → Int)) (x1 : Int) (q : Int × Int) (hf : fn_Md_pendantsIn i_t_w i_t_thrown x1 = some q) : jk_MI l D jk_cl (jk_ty cI cR) Z mn_Md_pendantsIn (.code mn_Md_pendantsIn mb_Md_pendantsIn 2 (some .int) :: jk_WA) (jk_rm 4 88) [.ref a_t, jk_V x1] (wd_Md_pendantsIn cI a_t a_t_w a_t_wKept a_t_saved a_t_past a_t_input a_t_n a_t_order a_t_numbers a_t_output i_t_pastMany i_t_isSaved i_t_thrown i_t_inputMany i_t_lastError i_t_lastOffset i_t_error i_t_offset i_t_nextByte i_t_begin i_t_value i_t_token i_t_got i_t_orders i_t_outputMany i_t_w) (wd_Md_pendantsIn cI a_t a_t_w a_t_wKept a_t_saved a_t_past a_t_input a_t_n a_t_order a_t_numbers a_t_output i_t_pastMany i_t_isSaved q.2 i_t_inputMany i_t_lastError i_t_lastOffset i_t_error i_t_offset i_t_nextByte i_t_begin i_t_value i_t_token i_t_got i_t_orders i_t_outputMany i_t_w) q.1 := by
  intro sz
  refine jk_body (by decide +kernel) (fun p e s m args below meth c hsz hz hin C => ?_) (Nat.le_of_ble_eq_true rfl)
  subst hsz
  unfold fn_Md_pendantsIn at hf
  refine jk_aload_n C rd_Md_pendantsIn_0 (k := 0) rfl ?_
  refine jk_iconst C rd_Md_pendantsIn_1 ?_
  refine jk_putf C in_Md ty_Md nm_Md (ci := 11) rfl 6 (by decide) tm_1269 rfl rfl rfl 0 rfl (Nat.le_of_ble_eq_true rfl) rd_Md_pendantsIn_2 (ws' := wd_Md_pendantsIn cI a_t a_t_w a_t_wKept a_t_saved a_t_past a_t_input a_t_n a_t_order a_t_numbers a_t_output i_t_pastMany i_t_isSaved 0 i_t_inputMany i_t_lastError i_t_lastOffset i_t_error i_t_offset i_t_nextByte i_t_begin i_t_value i_t_token i_t_got i_t_orders i_t_outputMany i_t_w) rfl ?_
  refine jk_aload_n C rd_Md_pendantsIn_5 (k := 0) rfl ?_
  refine jk_iload_n C rd_Md_pendantsIn_6 (k := 1) rfl ?_
  obtain ⟨q7, hq7, hf⟩ := jk_bind_h hf
  refine jk_callVi C hZ.1 hz (ct_Md_noCluster l D Z sq hZ cI cR a_t a_t_w a_t_wKept a_t_saved a_t_past a_t_input a_t_n a_t_order a_t_numbers a_t_output i_t_pastMany i_t_isSaved 0 i_t_inputMany i_t_lastError i_t_lastOffset i_t_error i_t_offset i_t_nextByte i_t_begin i_t_value i_t_token i_t_got i_t_orders i_t_outputMany i_t_w x1 q7 hq7) tm_1699 tm_1701 sl_92 tm_15 tm_1702 na_Md_noCluster ⟨Nat.le_of_ble_eq_true rfl, Nat.le_of_ble_eq_true rfl⟩ rfl [0, 1] rfl rfl rfl (ws' := wd_Md_pendantsIn cI a_t a_t_w a_t_wKept a_t_saved a_t_past a_t_input a_t_n a_t_order a_t_numbers a_t_output i_t_pastMany i_t_isSaved q7.2 i_t_inputMany i_t_lastError i_t_lastOffset i_t_error i_t_offset i_t_nextByte i_t_begin i_t_value i_t_token i_t_got i_t_orders i_t_outputMany i_t_w) rfl 0 11 rfl rfl rfl (st := []) rfl (Nat.le_of_ble_eq_true rfl) rd_Md_pendantsIn_7 ?_ ⟨Nat.le_refl _, Nat.le_refl _⟩
  refine jk_if_eq (tgt := 17) C rd_Md_pendantsIn_10 (by decide) hf (fun _ hf => ?_) (fun _ hf => ?_)
  · refine jk_aload_n C rd_Md_pendantsIn_17 (k := 0) rfl ?_
    refine jk_iload_n C rd_Md_pendantsIn_18 (k := 1) rfl ?_
    obtain ⟨q19, hq19, hf⟩ := jk_bind_h hf
    refine jk_callVi C hZ.1 hz (ct_Md_pendants l D Z sq hZ cI cR a_t a_t_w a_t_wKept a_t_saved a_t_past a_t_input a_t_n a_t_order a_t_numbers a_t_output i_t_pastMany i_t_isSaved q7.2 i_t_inputMany i_t_lastError i_t_lastOffset i_t_error i_t_offset i_t_nextByte i_t_begin i_t_value i_t_token i_t_got i_t_orders i_t_outputMany i_t_w x1 q19 hq19) tm_1556 tm_1558 sl_72 tm_15 tm_1559 na_Md_pendants ⟨Nat.le_of_ble_eq_true rfl, Nat.le_of_ble_eq_true rfl⟩ rfl [0, 1] rfl rfl rfl (ws' := wd_Md_pendantsIn cI a_t a_t_w a_t_wKept a_t_saved a_t_past a_t_input a_t_n a_t_order a_t_numbers a_t_output i_t_pastMany i_t_isSaved q7.2 i_t_inputMany i_t_lastError i_t_lastOffset i_t_error i_t_offset i_t_nextByte i_t_begin i_t_value i_t_token i_t_got i_t_orders i_t_outputMany i_t_w) rfl 0 11 rfl rfl rfl (st := []) rfl (Nat.le_of_ble_eq_true rfl) rd_Md_pendantsIn_19 ?_ ⟨Nat.le_refl _, Nat.le_refl _⟩
    cases hf
    exact jk_iret C rfl rd_Md_pendantsIn_22 rfl
  · refine jk_iconst C rd_Md_pendantsIn_13 ?_
    refine jk_goto (tgt := 22) C rd_Md_pendantsIn_14 (by decide) ?_
    cases hf
    exact jk_iret C rfl rd_Md_pendantsIn_22 rfl
def wd_Md_cordsIn (cI : ClassId) (a_t a_t_w a_t_wKept a_t_saved a_t_past a_t_input a_t_n a_t_order a_t_numbers a_t_output : Nat) (i_t_pastMany : Int) (i_t_isSaved : Int) (i_t_thrown : Int) (i_t_inputMany : Int) (i_t_lastError : Int) (i_t_lastOffset : Int) (i_t_error : Int) (i_t_offset : Int) (i_t_nextByte : Int) (i_t_begin : Int) (i_t_value : Int) (i_t_token : Int) (i_t_got : Int) (i_t_orders : Int) (i_t_outputMany : Int) (i_t_w : (Int → Int)) : va_W := [(a_t, .inr (11, [.ref a_t_w, .ref a_t_wKept, .ref a_t_saved, .ref a_t_past, jk_V i_t_pastMany, jk_V i_t_isSaved, jk_V i_t_thrown, .ref a_t_input, jk_V i_t_inputMany, jk_V i_t_lastError, jk_V i_t_lastOffset, jk_V i_t_error, jk_V i_t_offset, jk_V i_t_nextByte, jk_V i_t_begin, jk_V i_t_value, jk_V i_t_token, jk_V i_t_got, .ref a_t_n, .ref a_t_order, .ref a_t_numbers, jk_V i_t_orders, .ref a_t_output, jk_V i_t_outputMany])), (a_t_w, jk_W cI 259 i_t_w)]
set_option maxHeartbeats 4000000 in
set_option maxRecDepth 20000 in
theorem ct_Md_cordsIn (l : Launch) (D : va_G) (Z : (Nat → Prop) → State → Heap → Prop) (sq : Nat → Nat) (hZ : jk_ZK Z sq) (cI cR : ClassId) (a_t a_t_w a_t_wKept a_t_saved a_t_past a_t_input a_t_n a_t_order a_t_numbers a_t_output : Nat) (i_t_pastMany : Int) (i_t_isSaved : Int) (i_t_thrown : Int) (i_t_inputMany : Int) (i_t_lastError : Int) (i_t_lastOffset : Int) (i_t_error : Int) (i_t_offset : Int) (i_t_nextByte : Int) (i_t_begin : Int) (i_t_value : Int) (i_t_token : Int) (i_t_got : Int) (i_t_orders : Int) (i_t_outputMany : Int) (i_t_w : (Int → Int)) (x1 : Int) (q : Int × Int) (hf : fn_Md_cordsIn i_t_w i_t_thrown x1 = some q) : jk_MI l D jk_cl (jk_ty cI cR) Z mn_Md_cordsIn (.code mn_Md_cordsIn mb_Md_cordsIn 2 (some .int) :: jk_WA) (jk_rm 3 65) [.ref a_t, jk_V x1] (wd_Md_cordsIn cI a_t a_t_w a_t_wKept a_t_saved a_t_past a_t_input a_t_n a_t_order a_t_numbers a_t_output i_t_pastMany i_t_isSaved i_t_thrown i_t_inputMany i_t_lastError i_t_lastOffset i_t_error i_t_offset i_t_nextByte i_t_begin i_t_value i_t_token i_t_got i_t_orders i_t_outputMany i_t_w) (wd_Md_cordsIn cI a_t a_t_w a_t_wKept a_t_saved a_t_past a_t_input a_t_n a_t_order a_t_numbers a_t_output i_t_pastMany i_t_isSaved q.2 i_t_inputMany i_t_lastError i_t_lastOffset i_t_error i_t_offset i_t_nextByte i_t_begin i_t_value i_t_token i_t_got i_t_orders i_t_outputMany i_t_w) q.1 := by
  intro sz
  refine jk_body (by decide +kernel) (fun p e s m args below meth c hsz hz hin C => ?_) (Nat.le_of_ble_eq_true rfl)
  subst hsz
  unfold fn_Md_cordsIn at hf
  refine jk_aload_n C rd_Md_cordsIn_0 (k := 0) rfl ?_
  refine jk_iconst C rd_Md_cordsIn_1 ?_
  refine jk_putf C in_Md ty_Md nm_Md (ci := 11) rfl 6 (by decide) tm_1269 rfl rfl rfl 0 rfl (Nat.le_of_ble_eq_true rfl) rd_Md_cordsIn_2 (ws' := wd_Md_cordsIn cI a_t a_t_w a_t_wKept a_t_saved a_t_past a_t_input a_t_n a_t_order a_t_numbers a_t_output i_t_pastMany i_t_isSaved 0 i_t_inputMany i_t_lastError i_t_lastOffset i_t_error i_t_offset i_t_nextByte i_t_begin i_t_value i_t_token i_t_got i_t_orders i_t_outputMany i_t_w) rfl ?_
  refine jk_aload_n C rd_Md_cordsIn_5 (k := 0) rfl ?_
  refine jk_iload_n C rd_Md_cordsIn_6 (k := 1) rfl ?_
  obtain ⟨q7, hq7, hf⟩ := jk_bind_h hf
  refine jk_callVi C hZ.1 hz (ct_Md_noCluster l D Z sq hZ cI cR a_t a_t_w a_t_wKept a_t_saved a_t_past a_t_input a_t_n a_t_order a_t_numbers a_t_output i_t_pastMany i_t_isSaved 0 i_t_inputMany i_t_lastError i_t_lastOffset i_t_error i_t_offset i_t_nextByte i_t_begin i_t_value i_t_token i_t_got i_t_orders i_t_outputMany i_t_w x1 q7 hq7) tm_1699 tm_1701 sl_92 tm_15 tm_1702 na_Md_noCluster ⟨Nat.le_of_ble_eq_true rfl, Nat.le_of_ble_eq_true rfl⟩ rfl [0, 1] rfl rfl rfl (ws' := wd_Md_cordsIn cI a_t a_t_w a_t_wKept a_t_saved a_t_past a_t_input a_t_n a_t_order a_t_numbers a_t_output i_t_pastMany i_t_isSaved q7.2 i_t_inputMany i_t_lastError i_t_lastOffset i_t_error i_t_offset i_t_nextByte i_t_begin i_t_value i_t_token i_t_got i_t_orders i_t_outputMany i_t_w) rfl 0 11 rfl rfl rfl (st := []) rfl (Nat.le_of_ble_eq_true rfl) rd_Md_cordsIn_7 ?_ ⟨Nat.le_refl _, Nat.le_refl _⟩
  refine jk_if_eq (tgt := 17) C rd_Md_cordsIn_10 (by decide) hf (fun _ hf => ?_) (fun _ hf => ?_)
  · refine jk_aload_n C rd_Md_cordsIn_17 (k := 0) rfl ?_
    refine jk_iload_n C rd_Md_cordsIn_18 (k := 1) rfl ?_
    obtain ⟨q19, hq19, hf⟩ := jk_bind_h hf
    refine jk_callVi C hZ.1 hz (ct_Md_end l D Z sq hZ cI cR a_t a_t_w a_t_wKept a_t_saved a_t_past a_t_input a_t_n a_t_order a_t_numbers a_t_output i_t_pastMany i_t_isSaved q7.2 i_t_inputMany i_t_lastError i_t_lastOffset i_t_error i_t_offset i_t_nextByte i_t_begin i_t_value i_t_token i_t_got i_t_orders i_t_outputMany i_t_w x1 q19 hq19) tm_1437 tm_1439 sl_45 tm_15 tm_1440 na_Md_end ⟨Nat.le_of_ble_eq_true rfl, Nat.le_of_ble_eq_true rfl⟩ rfl [0, 1] rfl rfl rfl (ws' := wd_Md_cordsIn cI a_t a_t_w a_t_wKept a_t_saved a_t_past a_t_input a_t_n a_t_order a_t_numbers a_t_output i_t_pastMany i_t_isSaved q7.2 i_t_inputMany i_t_lastError i_t_lastOffset i_t_error i_t_offset i_t_nextByte i_t_begin i_t_value i_t_token i_t_got i_t_orders i_t_outputMany i_t_w) rfl 0 11 rfl rfl rfl (st := []) rfl (Nat.le_of_ble_eq_true rfl) rd_Md_cordsIn_19 ?_ ⟨Nat.le_refl _, Nat.le_refl _⟩
    refine jk_aload_n C rd_Md_cordsIn_22 (k := 0) rfl ?_
    refine jk_iload_n C rd_Md_cordsIn_23 (k := 1) rfl ?_
    obtain ⟨q24, hq24, hf⟩ := jk_bind_h hf
    refine jk_callVi C hZ.1 hz (ct_Md_first l D Z sq hZ cI cR a_t a_t_w a_t_wKept a_t_saved a_t_past a_t_input a_t_n a_t_order a_t_numbers a_t_output i_t_pastMany i_t_isSaved q7.2 i_t_inputMany i_t_lastError i_t_lastOffset i_t_error i_t_offset i_t_nextByte i_t_begin i_t_value i_t_token i_t_got i_t_orders i_t_outputMany i_t_w x1 q24 hq24) tm_1433 tm_1435 sl_44 tm_15 tm_1436 na_Md_first ⟨Nat.le_of_ble_eq_true rfl, Nat.le_of_ble_eq_true rfl⟩ rfl [0, 1] rfl rfl rfl (ws' := wd_Md_cordsIn cI a_t a_t_w a_t_wKept a_t_saved a_t_past a_t_input a_t_n a_t_order a_t_numbers a_t_output i_t_pastMany i_t_isSaved q7.2 i_t_inputMany i_t_lastError i_t_lastOffset i_t_error i_t_offset i_t_nextByte i_t_begin i_t_value i_t_token i_t_got i_t_orders i_t_outputMany i_t_w) rfl 0 11 rfl rfl rfl (st := [jk_V q19]) rfl (Nat.le_of_ble_eq_true rfl) rd_Md_cordsIn_24 ?_ ⟨Nat.le_refl _, Nat.le_refl _⟩
    refine jk_isub C rd_Md_cordsIn_27 ?_
    cases hf
    exact jk_iret C rfl rd_Md_cordsIn_28 rfl
  · refine jk_iconst C rd_Md_cordsIn_13 ?_
    refine jk_goto (tgt := 28) C rd_Md_cordsIn_14 (by decide) ?_
    cases hf
    exact jk_iret C rfl rd_Md_cordsIn_28 rfl
def wd_Md_topOf (cI : ClassId) (a_t a_t_w a_t_wKept a_t_saved a_t_past a_t_input a_t_n a_t_order a_t_numbers a_t_output : Nat) (i_t_pastMany : Int) (i_t_isSaved : Int) (i_t_thrown : Int) (i_t_inputMany : Int) (i_t_lastError : Int) (i_t_lastOffset : Int) (i_t_error : Int) (i_t_offset : Int) (i_t_nextByte : Int) (i_t_begin : Int) (i_t_value : Int) (i_t_token : Int) (i_t_got : Int) (i_t_orders : Int) (i_t_outputMany : Int) (i_t_w : (Int → Int)) : va_W := [(a_t, .inr (11, [.ref a_t_w, .ref a_t_wKept, .ref a_t_saved, .ref a_t_past, jk_V i_t_pastMany, jk_V i_t_isSaved, jk_V i_t_thrown, .ref a_t_input, jk_V i_t_inputMany, jk_V i_t_lastError, jk_V i_t_lastOffset, jk_V i_t_error, jk_V i_t_offset, jk_V i_t_nextByte, jk_V i_t_begin, jk_V i_t_value, jk_V i_t_token, jk_V i_t_got, .ref a_t_n, .ref a_t_order, .ref a_t_numbers, jk_V i_t_orders, .ref a_t_output, jk_V i_t_outputMany])), (a_t_w, jk_W cI 259 i_t_w)]
set_option maxHeartbeats 4000000 in
set_option maxRecDepth 20000 in
theorem ct_Md_topOf (l : Launch) (D : va_G) (Z : (Nat → Prop) → State → Heap → Prop) (sq : Nat → Nat) (hZ : jk_ZK Z sq) (cI cR : ClassId) (a_t a_t_w a_t_wKept a_t_saved a_t_past a_t_input a_t_n a_t_order a_t_numbers a_t_output : Nat) (i_t_pastMany : Int) (i_t_isSaved : Int) (i_t_thrown : Int) (i_t_inputMany : Int) (i_t_lastError : Int) (i_t_lastOffset : Int) (i_t_error : Int) (i_t_offset : Int) (i_t_nextByte : Int) (i_t_begin : Int) (i_t_value : Int) (i_t_token : Int) (i_t_got : Int) (i_t_orders : Int) (i_t_outputMany : Int) (i_t_w : (Int → Int)) (x1 : Int) (q : Int × Int) (hf : fn_Md_topOf i_t_w i_t_thrown x1 = some q) : jk_MI l D jk_cl (jk_ty cI cR) Z mn_Md_topOf (.code mn_Md_topOf mb_Md_topOf 2 (some .int) :: jk_WA) (jk_rm 4 87) [.ref a_t, jk_V x1] (wd_Md_topOf cI a_t a_t_w a_t_wKept a_t_saved a_t_past a_t_input a_t_n a_t_order a_t_numbers a_t_output i_t_pastMany i_t_isSaved i_t_thrown i_t_inputMany i_t_lastError i_t_lastOffset i_t_error i_t_offset i_t_nextByte i_t_begin i_t_value i_t_token i_t_got i_t_orders i_t_outputMany i_t_w) (wd_Md_topOf cI a_t a_t_w a_t_wKept a_t_saved a_t_past a_t_input a_t_n a_t_order a_t_numbers a_t_output i_t_pastMany i_t_isSaved q.2 i_t_inputMany i_t_lastError i_t_lastOffset i_t_error i_t_offset i_t_nextByte i_t_begin i_t_value i_t_token i_t_got i_t_orders i_t_outputMany i_t_w) q.1 := by
  intro sz
  refine jk_body (by decide +kernel) (fun p e s m args below meth c hsz hz hin C => ?_) (Nat.le_of_ble_eq_true rfl)
  subst hsz
  unfold fn_Md_topOf at hf
  refine jk_aload_n C rd_Md_topOf_0 (k := 0) rfl ?_
  refine jk_iconst C rd_Md_topOf_1 ?_
  refine jk_putf C in_Md ty_Md nm_Md (ci := 11) rfl 6 (by decide) tm_1269 rfl rfl rfl 0 rfl (Nat.le_of_ble_eq_true rfl) rd_Md_topOf_2 (ws' := wd_Md_topOf cI a_t a_t_w a_t_wKept a_t_saved a_t_past a_t_input a_t_n a_t_order a_t_numbers a_t_output i_t_pastMany i_t_isSaved 0 i_t_inputMany i_t_lastError i_t_lastOffset i_t_error i_t_offset i_t_nextByte i_t_begin i_t_value i_t_token i_t_got i_t_orders i_t_outputMany i_t_w) rfl ?_
  refine jk_aload_n C rd_Md_topOf_5 (k := 0) rfl ?_
  refine jk_iload_n C rd_Md_topOf_6 (k := 1) rfl ?_
  obtain ⟨q7, hq7, hf⟩ := jk_bind_h hf
  refine jk_callVi C hZ.1 hz (ct_Md_noCluster l D Z sq hZ cI cR a_t a_t_w a_t_wKept a_t_saved a_t_past a_t_input a_t_n a_t_order a_t_numbers a_t_output i_t_pastMany i_t_isSaved 0 i_t_inputMany i_t_lastError i_t_lastOffset i_t_error i_t_offset i_t_nextByte i_t_begin i_t_value i_t_token i_t_got i_t_orders i_t_outputMany i_t_w x1 q7 hq7) tm_1699 tm_1701 sl_92 tm_15 tm_1702 na_Md_noCluster ⟨Nat.le_of_ble_eq_true rfl, Nat.le_of_ble_eq_true rfl⟩ rfl [0, 1] rfl rfl rfl (ws' := wd_Md_topOf cI a_t a_t_w a_t_wKept a_t_saved a_t_past a_t_input a_t_n a_t_order a_t_numbers a_t_output i_t_pastMany i_t_isSaved q7.2 i_t_inputMany i_t_lastError i_t_lastOffset i_t_error i_t_offset i_t_nextByte i_t_begin i_t_value i_t_token i_t_got i_t_orders i_t_outputMany i_t_w) rfl 0 11 rfl rfl rfl (st := []) rfl (Nat.le_of_ble_eq_true rfl) rd_Md_topOf_7 ?_ ⟨Nat.le_refl _, Nat.le_refl _⟩
  refine jk_if_eq (tgt := 17) C rd_Md_topOf_10 (by decide) hf (fun _ hf => ?_) (fun _ hf => ?_)
  · refine jk_aload_n C rd_Md_topOf_17 (k := 0) rfl ?_
    refine jk_iload_n C rd_Md_topOf_18 (k := 1) rfl ?_
    obtain ⟨q19, hq19, hf⟩ := jk_bind_h hf
    refine jk_callVi C hZ.1 hz (ct_Md_hasTop l D Z sq hZ cI cR a_t a_t_w a_t_wKept a_t_saved a_t_past a_t_input a_t_n a_t_order a_t_numbers a_t_output i_t_pastMany i_t_isSaved q7.2 i_t_inputMany i_t_lastError i_t_lastOffset i_t_error i_t_offset i_t_nextByte i_t_begin i_t_value i_t_token i_t_got i_t_orders i_t_outputMany i_t_w x1 q19 hq19) tm_1429 tm_1431 sl_43 tm_15 tm_1432 na_Md_hasTop ⟨Nat.le_of_ble_eq_true rfl, Nat.le_of_ble_eq_true rfl⟩ rfl [0, 1] rfl rfl rfl (ws' := wd_Md_topOf cI a_t a_t_w a_t_wKept a_t_saved a_t_past a_t_input a_t_n a_t_order a_t_numbers a_t_output i_t_pastMany i_t_isSaved q7.2 i_t_inputMany i_t_lastError i_t_lastOffset i_t_error i_t_offset i_t_nextByte i_t_begin i_t_value i_t_token i_t_got i_t_orders i_t_outputMany i_t_w) rfl 0 11 rfl rfl rfl (st := []) rfl (Nat.le_of_ble_eq_true rfl) rd_Md_topOf_19 ?_ ⟨Nat.le_refl _, Nat.le_refl _⟩
    refine jk_if_eq (tgt := 33) C rd_Md_topOf_22 (by decide) hf (fun _ hf => ?_) (fun _ hf => ?_)
    · refine jk_iconst C rd_Md_topOf_33 ?_
      cases hf
      exact jk_iret C rfl rd_Md_topOf_34 rfl
    · refine jk_aload_n C rd_Md_topOf_25 (k := 0) rfl ?_
      refine jk_iload_n C rd_Md_topOf_26 (k := 1) rfl ?_
      obtain ⟨q27, hq27, hf⟩ := jk_bind_h hf
      refine jk_callVi C hZ.1 hz (ct_Md_first l D Z sq hZ cI cR a_t a_t_w a_t_wKept a_t_saved a_t_past a_t_input a_t_n a_t_order a_t_numbers a_t_output i_t_pastMany i_t_isSaved q7.2 i_t_inputMany i_t_lastError i_t_lastOffset i_t_error i_t_offset i_t_nextByte i_t_begin i_t_value i_t_token i_t_got i_t_orders i_t_outputMany i_t_w x1 q27 hq27) tm_1433 tm_1435 sl_44 tm_15 tm_1436 na_Md_first ⟨Nat.le_of_ble_eq_true rfl, Nat.le_of_ble_eq_true rfl⟩ rfl [0, 1] rfl rfl rfl (ws' := wd_Md_topOf cI a_t a_t_w a_t_wKept a_t_saved a_t_past a_t_input a_t_n a_t_order a_t_numbers a_t_output i_t_pastMany i_t_isSaved q7.2 i_t_inputMany i_t_lastError i_t_lastOffset i_t_error i_t_offset i_t_nextByte i_t_begin i_t_value i_t_token i_t_got i_t_orders i_t_outputMany i_t_w) rfl 0 11 rfl rfl rfl (st := []) rfl (Nat.le_of_ble_eq_true rfl) rd_Md_topOf_27 ?_ ⟨Nat.le_refl _, Nat.le_refl _⟩
      refine jk_goto (tgt := 34) C rd_Md_topOf_30 (by decide) ?_
      cases hf
      exact jk_iret C rfl rd_Md_topOf_34 rfl
  · refine jk_iconst C rd_Md_topOf_13 ?_
    refine jk_goto (tgt := 34) C rd_Md_topOf_14 (by decide) ?_
    cases hf
    exact jk_iret C rfl rd_Md_topOf_34 rfl
def wd_Md_firstPendant (cI : ClassId) (a_t a_t_w a_t_wKept a_t_saved a_t_past a_t_input a_t_n a_t_order a_t_numbers a_t_output : Nat) (i_t_pastMany : Int) (i_t_isSaved : Int) (i_t_thrown : Int) (i_t_inputMany : Int) (i_t_lastError : Int) (i_t_lastOffset : Int) (i_t_error : Int) (i_t_offset : Int) (i_t_nextByte : Int) (i_t_begin : Int) (i_t_value : Int) (i_t_token : Int) (i_t_got : Int) (i_t_orders : Int) (i_t_outputMany : Int) (i_t_w : (Int → Int)) : va_W := [(a_t, .inr (11, [.ref a_t_w, .ref a_t_wKept, .ref a_t_saved, .ref a_t_past, jk_V i_t_pastMany, jk_V i_t_isSaved, jk_V i_t_thrown, .ref a_t_input, jk_V i_t_inputMany, jk_V i_t_lastError, jk_V i_t_lastOffset, jk_V i_t_error, jk_V i_t_offset, jk_V i_t_nextByte, jk_V i_t_begin, jk_V i_t_value, jk_V i_t_token, jk_V i_t_got, .ref a_t_n, .ref a_t_order, .ref a_t_numbers, jk_V i_t_orders, .ref a_t_output, jk_V i_t_outputMany])), (a_t_w, jk_W cI 259 i_t_w)]
set_option maxHeartbeats 4000000 in
set_option maxRecDepth 20000 in
theorem ct_Md_firstPendant (l : Launch) (D : va_G) (Z : (Nat → Prop) → State → Heap → Prop) (sq : Nat → Nat) (hZ : jk_ZK Z sq) (cI cR : ClassId) (a_t a_t_w a_t_wKept a_t_saved a_t_past a_t_input a_t_n a_t_order a_t_numbers a_t_output : Nat) (i_t_pastMany : Int) (i_t_isSaved : Int) (i_t_thrown : Int) (i_t_inputMany : Int) (i_t_lastError : Int) (i_t_lastOffset : Int) (i_t_error : Int) (i_t_offset : Int) (i_t_nextByte : Int) (i_t_begin : Int) (i_t_value : Int) (i_t_token : Int) (i_t_got : Int) (i_t_orders : Int) (i_t_outputMany : Int) (i_t_w : (Int → Int)) (x1 : Int) (q : Int × Int) (hf : fn_Md_firstPendant i_t_w i_t_thrown x1 = some q) : jk_MI l D jk_cl (jk_ty cI cR) Z mn_Md_firstPendant (.code mn_Md_firstPendant mb_Md_firstPendant 2 (some .int) :: jk_WA) (jk_rm 5 108) [.ref a_t, jk_V x1] (wd_Md_firstPendant cI a_t a_t_w a_t_wKept a_t_saved a_t_past a_t_input a_t_n a_t_order a_t_numbers a_t_output i_t_pastMany i_t_isSaved i_t_thrown i_t_inputMany i_t_lastError i_t_lastOffset i_t_error i_t_offset i_t_nextByte i_t_begin i_t_value i_t_token i_t_got i_t_orders i_t_outputMany i_t_w) (wd_Md_firstPendant cI a_t a_t_w a_t_wKept a_t_saved a_t_past a_t_input a_t_n a_t_order a_t_numbers a_t_output i_t_pastMany i_t_isSaved q.2 i_t_inputMany i_t_lastError i_t_lastOffset i_t_error i_t_offset i_t_nextByte i_t_begin i_t_value i_t_token i_t_got i_t_orders i_t_outputMany i_t_w) q.1 := by
  intro sz
  refine jk_body (by decide +kernel) (fun p e s m args below meth c hsz hz hin C => ?_) (Nat.le_of_ble_eq_true rfl)
  subst hsz
  unfold fn_Md_firstPendant at hf
  refine jk_aload_n C rd_Md_firstPendant_0 (k := 0) rfl ?_
  refine jk_iconst C rd_Md_firstPendant_1 ?_
  refine jk_putf C in_Md ty_Md nm_Md (ci := 11) rfl 6 (by decide) tm_1269 rfl rfl rfl 0 rfl (Nat.le_of_ble_eq_true rfl) rd_Md_firstPendant_2 (ws' := wd_Md_firstPendant cI a_t a_t_w a_t_wKept a_t_saved a_t_past a_t_input a_t_n a_t_order a_t_numbers a_t_output i_t_pastMany i_t_isSaved 0 i_t_inputMany i_t_lastError i_t_lastOffset i_t_error i_t_offset i_t_nextByte i_t_begin i_t_value i_t_token i_t_got i_t_orders i_t_outputMany i_t_w) rfl ?_
  refine jk_aload_n C rd_Md_firstPendant_5 (k := 0) rfl ?_
  refine jk_iload_n C rd_Md_firstPendant_6 (k := 1) rfl ?_
  obtain ⟨q7, hq7, hf⟩ := jk_bind_h hf
  refine jk_callVi C hZ.1 hz (ct_Md_noCluster l D Z sq hZ cI cR a_t a_t_w a_t_wKept a_t_saved a_t_past a_t_input a_t_n a_t_order a_t_numbers a_t_output i_t_pastMany i_t_isSaved 0 i_t_inputMany i_t_lastError i_t_lastOffset i_t_error i_t_offset i_t_nextByte i_t_begin i_t_value i_t_token i_t_got i_t_orders i_t_outputMany i_t_w x1 q7 hq7) tm_1699 tm_1701 sl_92 tm_15 tm_1702 na_Md_noCluster ⟨Nat.le_of_ble_eq_true rfl, Nat.le_of_ble_eq_true rfl⟩ rfl [0, 1] rfl rfl rfl (ws' := wd_Md_firstPendant cI a_t a_t_w a_t_wKept a_t_saved a_t_past a_t_input a_t_n a_t_order a_t_numbers a_t_output i_t_pastMany i_t_isSaved q7.2 i_t_inputMany i_t_lastError i_t_lastOffset i_t_error i_t_offset i_t_nextByte i_t_begin i_t_value i_t_token i_t_got i_t_orders i_t_outputMany i_t_w) rfl 0 11 rfl rfl rfl (st := []) rfl (Nat.le_of_ble_eq_true rfl) rd_Md_firstPendant_7 ?_ ⟨Nat.le_refl _, Nat.le_refl _⟩
  refine jk_if_eq (tgt := 17) C rd_Md_firstPendant_10 (by decide) hf (fun _ hf => ?_) (fun _ hf => ?_)
  · refine jk_aload_n C rd_Md_firstPendant_17 (k := 0) rfl ?_
    refine jk_iload_n C rd_Md_firstPendant_18 (k := 1) rfl ?_
    obtain ⟨q19, hq19, hf⟩ := jk_bind_h hf
    refine jk_callVi C hZ.1 hz (ct_Md_pendants l D Z sq hZ cI cR a_t a_t_w a_t_wKept a_t_saved a_t_past a_t_input a_t_n a_t_order a_t_numbers a_t_output i_t_pastMany i_t_isSaved q7.2 i_t_inputMany i_t_lastError i_t_lastOffset i_t_error i_t_offset i_t_nextByte i_t_begin i_t_value i_t_token i_t_got i_t_orders i_t_outputMany i_t_w x1 q19 hq19) tm_1556 tm_1558 sl_72 tm_15 tm_1559 na_Md_pendants ⟨Nat.le_of_ble_eq_true rfl, Nat.le_of_ble_eq_true rfl⟩ rfl [0, 1] rfl rfl rfl (ws' := wd_Md_firstPendant cI a_t a_t_w a_t_wKept a_t_saved a_t_past a_t_input a_t_n a_t_order a_t_numbers a_t_output i_t_pastMany i_t_isSaved q7.2 i_t_inputMany i_t_lastError i_t_lastOffset i_t_error i_t_offset i_t_nextByte i_t_begin i_t_value i_t_token i_t_got i_t_orders i_t_outputMany i_t_w) rfl 0 11 rfl rfl rfl (st := []) rfl (Nat.le_of_ble_eq_true rfl) rd_Md_firstPendant_19 ?_ ⟨Nat.le_refl _, Nat.le_refl _⟩
    refine jk_if_le (tgt := 33) C rd_Md_firstPendant_22 (by decide) hf (fun _ hf => ?_) (fun _ hf => ?_)
    · refine jk_iconst C rd_Md_firstPendant_33 ?_
      cases hf
      exact jk_iret C rfl rd_Md_firstPendant_34 rfl
    · refine jk_aload_n C rd_Md_firstPendant_25 (k := 0) rfl ?_
      refine jk_iload_n C rd_Md_firstPendant_26 (k := 1) rfl ?_
      obtain ⟨q27, hq27, hf⟩ := jk_bind_h hf
      refine jk_callVi C hZ.1 hz (ct_Md_pendantsFrom l D Z sq hZ cI cR a_t a_t_w a_t_wKept a_t_saved a_t_past a_t_input a_t_n a_t_order a_t_numbers a_t_output i_t_pastMany i_t_isSaved q7.2 i_t_inputMany i_t_lastError i_t_lastOffset i_t_error i_t_offset i_t_nextByte i_t_begin i_t_value i_t_token i_t_got i_t_orders i_t_outputMany i_t_w x1 q27 hq27) tm_1575 tm_1577 sl_76 tm_15 tm_1578 na_Md_pendantsFrom ⟨Nat.le_of_ble_eq_true rfl, Nat.le_of_ble_eq_true rfl⟩ rfl [0, 1] rfl rfl rfl (ws' := wd_Md_firstPendant cI a_t a_t_w a_t_wKept a_t_saved a_t_past a_t_input a_t_n a_t_order a_t_numbers a_t_output i_t_pastMany i_t_isSaved q7.2 i_t_inputMany i_t_lastError i_t_lastOffset i_t_error i_t_offset i_t_nextByte i_t_begin i_t_value i_t_token i_t_got i_t_orders i_t_outputMany i_t_w) rfl 0 11 rfl rfl rfl (st := []) rfl (Nat.le_of_ble_eq_true rfl) rd_Md_firstPendant_27 ?_ ⟨Nat.le_refl _, Nat.le_refl _⟩
      refine jk_goto (tgt := 34) C rd_Md_firstPendant_30 (by decide) ?_
      cases hf
      exact jk_iret C rfl rd_Md_firstPendant_34 rfl
  · refine jk_iconst C rd_Md_firstPendant_13 ?_
    refine jk_goto (tgt := 34) C rd_Md_firstPendant_14 (by decide) ?_
    cases hf
    exact jk_iret C rfl rd_Md_firstPendant_34 rfl
def wd_Md_stateOf (cI : ClassId) (a_t a_t_w a_t_wKept a_t_saved a_t_past a_t_input a_t_n a_t_order a_t_numbers a_t_output : Nat) (i_t_pastMany : Int) (i_t_isSaved : Int) (i_t_thrown : Int) (i_t_inputMany : Int) (i_t_lastError : Int) (i_t_lastOffset : Int) (i_t_error : Int) (i_t_offset : Int) (i_t_nextByte : Int) (i_t_begin : Int) (i_t_value : Int) (i_t_token : Int) (i_t_got : Int) (i_t_orders : Int) (i_t_outputMany : Int) (i_t_w : (Int → Int)) : va_W := [(a_t, .inr (11, [.ref a_t_w, .ref a_t_wKept, .ref a_t_saved, .ref a_t_past, jk_V i_t_pastMany, jk_V i_t_isSaved, jk_V i_t_thrown, .ref a_t_input, jk_V i_t_inputMany, jk_V i_t_lastError, jk_V i_t_lastOffset, jk_V i_t_error, jk_V i_t_offset, jk_V i_t_nextByte, jk_V i_t_begin, jk_V i_t_value, jk_V i_t_token, jk_V i_t_got, .ref a_t_n, .ref a_t_order, .ref a_t_numbers, jk_V i_t_orders, .ref a_t_output, jk_V i_t_outputMany])), (a_t_w, jk_W cI 259 i_t_w)]
set_option maxHeartbeats 4000000 in
set_option maxRecDepth 20000 in
theorem ct_Md_stateOf (l : Launch) (D : va_G) (Z : (Nat → Prop) → State → Heap → Prop) (sq : Nat → Nat) (hZ : jk_ZK Z sq) (cI cR : ClassId) (a_t a_t_w a_t_wKept a_t_saved a_t_past a_t_input a_t_n a_t_order a_t_numbers a_t_output : Nat) (i_t_pastMany : Int) (i_t_isSaved : Int) (i_t_thrown : Int) (i_t_inputMany : Int) (i_t_lastError : Int) (i_t_lastOffset : Int) (i_t_error : Int) (i_t_offset : Int) (i_t_nextByte : Int) (i_t_begin : Int) (i_t_value : Int) (i_t_token : Int) (i_t_got : Int) (i_t_orders : Int) (i_t_outputMany : Int) (i_t_w : (Int → Int)) (x1 : Int) (q : Int × Int) (hf : fn_Md_stateOf i_t_w i_t_thrown x1 = some q) : jk_MI l D jk_cl (jk_ty cI cR) Z mn_Md_stateOf (.code mn_Md_stateOf mb_Md_stateOf 2 (some .int) :: jk_WA) (jk_rm 7 152) [.ref a_t, jk_V x1] (wd_Md_stateOf cI a_t a_t_w a_t_wKept a_t_saved a_t_past a_t_input a_t_n a_t_order a_t_numbers a_t_output i_t_pastMany i_t_isSaved i_t_thrown i_t_inputMany i_t_lastError i_t_lastOffset i_t_error i_t_offset i_t_nextByte i_t_begin i_t_value i_t_token i_t_got i_t_orders i_t_outputMany i_t_w) (wd_Md_stateOf cI a_t a_t_w a_t_wKept a_t_saved a_t_past a_t_input a_t_n a_t_order a_t_numbers a_t_output i_t_pastMany i_t_isSaved q.2 i_t_inputMany i_t_lastError i_t_lastOffset i_t_error i_t_offset i_t_nextByte i_t_begin i_t_value i_t_token i_t_got i_t_orders i_t_outputMany i_t_w) q.1 := by
  intro sz
  refine jk_body (by decide +kernel) (fun p e s m args below meth c hsz hz hin C => ?_) (Nat.le_of_ble_eq_true rfl)
  subst hsz
  unfold fn_Md_stateOf at hf
  refine jk_aload_n C rd_Md_stateOf_0 (k := 0) rfl ?_
  refine jk_iconst C rd_Md_stateOf_1 ?_
  refine jk_putf C in_Md ty_Md nm_Md (ci := 11) rfl 6 (by decide) tm_1269 rfl rfl rfl 0 rfl (Nat.le_of_ble_eq_true rfl) rd_Md_stateOf_2 (ws' := wd_Md_stateOf cI a_t a_t_w a_t_wKept a_t_saved a_t_past a_t_input a_t_n a_t_order a_t_numbers a_t_output i_t_pastMany i_t_isSaved 0 i_t_inputMany i_t_lastError i_t_lastOffset i_t_error i_t_offset i_t_nextByte i_t_begin i_t_value i_t_token i_t_got i_t_orders i_t_outputMany i_t_w) rfl ?_
  refine jk_aload_n C rd_Md_stateOf_5 (k := 0) rfl ?_
  refine jk_iload_n C rd_Md_stateOf_6 (k := 1) rfl ?_
  obtain ⟨q7, hq7, hf⟩ := jk_bind_h hf
  refine jk_callVi C hZ.1 hz (ct_Md_noCluster l D Z sq hZ cI cR a_t a_t_w a_t_wKept a_t_saved a_t_past a_t_input a_t_n a_t_order a_t_numbers a_t_output i_t_pastMany i_t_isSaved 0 i_t_inputMany i_t_lastError i_t_lastOffset i_t_error i_t_offset i_t_nextByte i_t_begin i_t_value i_t_token i_t_got i_t_orders i_t_outputMany i_t_w x1 q7 hq7) tm_1699 tm_1701 sl_92 tm_15 tm_1702 na_Md_noCluster ⟨Nat.le_of_ble_eq_true rfl, Nat.le_of_ble_eq_true rfl⟩ rfl [0, 1] rfl rfl rfl (ws' := wd_Md_stateOf cI a_t a_t_w a_t_wKept a_t_saved a_t_past a_t_input a_t_n a_t_order a_t_numbers a_t_output i_t_pastMany i_t_isSaved q7.2 i_t_inputMany i_t_lastError i_t_lastOffset i_t_error i_t_offset i_t_nextByte i_t_begin i_t_value i_t_token i_t_got i_t_orders i_t_outputMany i_t_w) rfl 0 11 rfl rfl rfl (st := []) rfl (Nat.le_of_ble_eq_true rfl) rd_Md_stateOf_7 ?_ ⟨Nat.le_refl _, Nat.le_refl _⟩
  refine jk_if_eq (tgt := 17) C rd_Md_stateOf_10 (by decide) hf (fun _ hf => ?_) (fun _ hf => ?_)
  · refine jk_aload_n C rd_Md_stateOf_17 (k := 0) rfl ?_
    refine jk_iload_n C rd_Md_stateOf_18 (k := 1) rfl ?_
    obtain ⟨q19, hq19, hf⟩ := jk_bind_h hf
    refine jk_callVi C hZ.1 hz (ct_Md_state l D Z sq hZ cI cR a_t a_t_w a_t_wKept a_t_saved a_t_past a_t_input a_t_n a_t_order a_t_numbers a_t_output i_t_pastMany i_t_isSaved q7.2 i_t_inputMany i_t_lastError i_t_lastOffset i_t_error i_t_offset i_t_nextByte i_t_begin i_t_value i_t_token i_t_got i_t_orders i_t_outputMany i_t_w x1 q19 hq19) tm_1719 tm_1721 sl_93 tm_15 tm_1722 na_Md_state ⟨Nat.le_of_ble_eq_true rfl, Nat.le_of_ble_eq_true rfl⟩ rfl [0, 1] rfl rfl rfl (ws' := wd_Md_stateOf cI a_t a_t_w a_t_wKept a_t_saved a_t_past a_t_input a_t_n a_t_order a_t_numbers a_t_output i_t_pastMany i_t_isSaved q7.2 i_t_inputMany i_t_lastError i_t_lastOffset i_t_error i_t_offset i_t_nextByte i_t_begin i_t_value i_t_token i_t_got i_t_orders i_t_outputMany i_t_w) rfl 0 11 rfl rfl rfl (st := []) rfl (Nat.le_of_ble_eq_true rfl) rd_Md_stateOf_19 ?_ ⟨Nat.le_refl _, Nat.le_refl _⟩
    cases hf
    exact jk_iret C rfl rd_Md_stateOf_22 rfl
  · refine jk_iconst C rd_Md_stateOf_13 ?_
    refine jk_goto (tgt := 22) C rd_Md_stateOf_14 (by decide) ?_
    cases hf
    exact jk_iret C rfl rd_Md_stateOf_22 rfl
def wd_Md_guessObstacle (cI : ClassId) (a_t a_t_w a_t_wKept a_t_saved a_t_past a_t_input a_t_n a_t_order a_t_numbers a_t_output : Nat) (i_t_pastMany : Int) (i_t_isSaved : Int) (i_t_thrown : Int) (i_t_inputMany : Int) (i_t_lastError : Int) (i_t_lastOffset : Int) (i_t_error : Int) (i_t_offset : Int) (i_t_nextByte : Int) (i_t_begin : Int) (i_t_value : Int) (i_t_token : Int) (i_t_got : Int) (i_t_orders : Int) (i_t_outputMany : Int) (i_t_w : (Int → Int)) : va_W := [(a_t, .inr (11, [.ref a_t_w, .ref a_t_wKept, .ref a_t_saved, .ref a_t_past, jk_V i_t_pastMany, jk_V i_t_isSaved, jk_V i_t_thrown, .ref a_t_input, jk_V i_t_inputMany, jk_V i_t_lastError, jk_V i_t_lastOffset, jk_V i_t_error, jk_V i_t_offset, jk_V i_t_nextByte, jk_V i_t_begin, jk_V i_t_value, jk_V i_t_token, jk_V i_t_got, .ref a_t_n, .ref a_t_order, .ref a_t_numbers, jk_V i_t_orders, .ref a_t_output, jk_V i_t_outputMany])), (a_t_w, jk_W cI 259 i_t_w)]
set_option maxHeartbeats 4000000 in
set_option maxRecDepth 20000 in
theorem ct_Md_guessObstacle (l : Launch) (D : va_G) (Z : (Nat → Prop) → State → Heap → Prop) (sq : Nat → Nat) (hZ : jk_ZK Z sq) (cI cR : ClassId) (a_t a_t_w a_t_wKept a_t_saved a_t_past a_t_input a_t_n a_t_order a_t_numbers a_t_output : Nat) (i_t_pastMany : Int) (i_t_isSaved : Int) (i_t_thrown : Int) (i_t_inputMany : Int) (i_t_lastError : Int) (i_t_lastOffset : Int) (i_t_error : Int) (i_t_offset : Int) (i_t_nextByte : Int) (i_t_begin : Int) (i_t_value : Int) (i_t_token : Int) (i_t_got : Int) (i_t_orders : Int) (i_t_outputMany : Int) (i_t_w : (Int → Int)) (x1 : Int) (q : Int × Int) (hf : fn_Md_guessObstacle i_t_w i_t_thrown x1 = some q) : jk_MI l D jk_cl (jk_ty cI cR) Z mn_Md_guessObstacle (.code mn_Md_guessObstacle mb_Md_guessObstacle 2 (some .int) :: jk_WA) (jk_rm 9 199) [.ref a_t, jk_V x1] (wd_Md_guessObstacle cI a_t a_t_w a_t_wKept a_t_saved a_t_past a_t_input a_t_n a_t_order a_t_numbers a_t_output i_t_pastMany i_t_isSaved i_t_thrown i_t_inputMany i_t_lastError i_t_lastOffset i_t_error i_t_offset i_t_nextByte i_t_begin i_t_value i_t_token i_t_got i_t_orders i_t_outputMany i_t_w) (wd_Md_guessObstacle cI a_t a_t_w a_t_wKept a_t_saved a_t_past a_t_input a_t_n a_t_order a_t_numbers a_t_output i_t_pastMany i_t_isSaved q.2 i_t_inputMany i_t_lastError i_t_lastOffset i_t_error i_t_offset i_t_nextByte i_t_begin i_t_value i_t_token i_t_got i_t_orders i_t_outputMany i_t_w) q.1 := by
  intro sz
  refine jk_body (by decide +kernel) (fun p e s m args below meth c hsz hz hin C => ?_) (Nat.le_of_ble_eq_true rfl)
  subst hsz
  unfold fn_Md_guessObstacle at hf
  refine jk_aload_n C rd_Md_guessObstacle_0 (k := 0) rfl ?_
  refine jk_iconst C rd_Md_guessObstacle_1 ?_
  refine jk_putf C in_Md ty_Md nm_Md (ci := 11) rfl 6 (by decide) tm_1269 rfl rfl rfl 0 rfl (Nat.le_of_ble_eq_true rfl) rd_Md_guessObstacle_2 (ws' := wd_Md_guessObstacle cI a_t a_t_w a_t_wKept a_t_saved a_t_past a_t_input a_t_n a_t_order a_t_numbers a_t_output i_t_pastMany i_t_isSaved 0 i_t_inputMany i_t_lastError i_t_lastOffset i_t_error i_t_offset i_t_nextByte i_t_begin i_t_value i_t_token i_t_got i_t_orders i_t_outputMany i_t_w) rfl ?_
  refine jk_aload_n C rd_Md_guessObstacle_5 (k := 0) rfl ?_
  refine jk_iload_n C rd_Md_guessObstacle_6 (k := 1) rfl ?_
  obtain ⟨q7, hq7, hf⟩ := jk_bind_h hf
  refine jk_callVi C hZ.1 hz (ct_Md_noCluster l D Z sq hZ cI cR a_t a_t_w a_t_wKept a_t_saved a_t_past a_t_input a_t_n a_t_order a_t_numbers a_t_output i_t_pastMany i_t_isSaved 0 i_t_inputMany i_t_lastError i_t_lastOffset i_t_error i_t_offset i_t_nextByte i_t_begin i_t_value i_t_token i_t_got i_t_orders i_t_outputMany i_t_w x1 q7 hq7) tm_1699 tm_1701 sl_92 tm_15 tm_1702 na_Md_noCluster ⟨Nat.le_of_ble_eq_true rfl, Nat.le_of_ble_eq_true rfl⟩ rfl [0, 1] rfl rfl rfl (ws' := wd_Md_guessObstacle cI a_t a_t_w a_t_wKept a_t_saved a_t_past a_t_input a_t_n a_t_order a_t_numbers a_t_output i_t_pastMany i_t_isSaved q7.2 i_t_inputMany i_t_lastError i_t_lastOffset i_t_error i_t_offset i_t_nextByte i_t_begin i_t_value i_t_token i_t_got i_t_orders i_t_outputMany i_t_w) rfl 0 11 rfl rfl rfl (st := []) rfl (Nat.le_of_ble_eq_true rfl) rd_Md_guessObstacle_7 ?_ ⟨Nat.le_refl _, Nat.le_refl _⟩
  refine jk_if_eq (tgt := 17) C rd_Md_guessObstacle_10 (by decide) hf (fun _ hf => ?_) (fun _ hf => ?_)
  · refine jk_aload_n C rd_Md_guessObstacle_17 (k := 0) rfl ?_
    refine jk_iload_n C rd_Md_guessObstacle_18 (k := 1) rfl ?_
    obtain ⟨q19, hq19, hf⟩ := jk_bind_h hf
    refine jk_callVi C hZ.1 hz (ct_Md_guessReason l D Z sq hZ cI cR a_t a_t_w a_t_wKept a_t_saved a_t_past a_t_input a_t_n a_t_order a_t_numbers a_t_output i_t_pastMany i_t_isSaved q7.2 i_t_inputMany i_t_lastError i_t_lastOffset i_t_error i_t_offset i_t_nextByte i_t_begin i_t_value i_t_token i_t_got i_t_orders i_t_outputMany i_t_w x1 q19 hq19) tm_1591 tm_1593 sl_80 tm_15 tm_1594 na_Md_guessReason ⟨Nat.le_of_ble_eq_true rfl, Nat.le_of_ble_eq_true rfl⟩ rfl [0, 1] rfl rfl rfl (ws' := wd_Md_guessObstacle cI a_t a_t_w a_t_wKept a_t_saved a_t_past a_t_input a_t_n a_t_order a_t_numbers a_t_output i_t_pastMany i_t_isSaved q7.2 i_t_inputMany i_t_lastError i_t_lastOffset i_t_error i_t_offset i_t_nextByte i_t_begin i_t_value i_t_token i_t_got i_t_orders i_t_outputMany i_t_w) rfl 0 11 rfl rfl rfl (st := []) rfl (Nat.le_of_ble_eq_true rfl) rd_Md_guessObstacle_19 ?_ ⟨Nat.le_refl _, Nat.le_refl _⟩
    cases hf
    exact jk_iret C rfl rd_Md_guessObstacle_22 rfl
  · refine jk_iconst C rd_Md_guessObstacle_13 ?_
    refine jk_goto (tgt := 22) C rd_Md_guessObstacle_14 (by decide) ?_
    cases hf
    exact jk_iret C rfl rd_Md_guessObstacle_22 rfl
def wd_Md_nibbledCord (cI : ClassId) (a_t a_t_w a_t_wKept a_t_saved a_t_past a_t_input a_t_n a_t_order a_t_numbers a_t_output : Nat) (i_t_pastMany : Int) (i_t_isSaved : Int) (i_t_thrown : Int) (i_t_inputMany : Int) (i_t_lastError : Int) (i_t_lastOffset : Int) (i_t_error : Int) (i_t_offset : Int) (i_t_nextByte : Int) (i_t_begin : Int) (i_t_value : Int) (i_t_token : Int) (i_t_got : Int) (i_t_orders : Int) (i_t_outputMany : Int) (i_t_w : (Int → Int)) : va_W := [(a_t, .inr (11, [.ref a_t_w, .ref a_t_wKept, .ref a_t_saved, .ref a_t_past, jk_V i_t_pastMany, jk_V i_t_isSaved, jk_V i_t_thrown, .ref a_t_input, jk_V i_t_inputMany, jk_V i_t_lastError, jk_V i_t_lastOffset, jk_V i_t_error, jk_V i_t_offset, jk_V i_t_nextByte, jk_V i_t_begin, jk_V i_t_value, jk_V i_t_token, jk_V i_t_got, .ref a_t_n, .ref a_t_order, .ref a_t_numbers, jk_V i_t_orders, .ref a_t_output, jk_V i_t_outputMany])), (a_t_w, jk_W cI 259 i_t_w)]
set_option maxHeartbeats 4000000 in
set_option maxRecDepth 20000 in
theorem ct_Md_nibbledCord (l : Launch) (D : va_G) (Z : (Nat → Prop) → State → Heap → Prop) (sq : Nat → Nat) (hZ : jk_ZK Z sq) (cI cR : ClassId) (a_t a_t_w a_t_wKept a_t_saved a_t_past a_t_input a_t_n a_t_order a_t_numbers a_t_output : Nat) (i_t_pastMany : Int) (i_t_isSaved : Int) (i_t_thrown : Int) (i_t_inputMany : Int) (i_t_lastError : Int) (i_t_lastOffset : Int) (i_t_error : Int) (i_t_offset : Int) (i_t_nextByte : Int) (i_t_begin : Int) (i_t_value : Int) (i_t_token : Int) (i_t_got : Int) (i_t_orders : Int) (i_t_outputMany : Int) (i_t_w : (Int → Int)) (x1 : Int) (q : Int × Int) (hf : fn_Md_nibbledCord i_t_w i_t_thrown x1 = some q) : jk_MI l D jk_cl (jk_ty cI cR) Z mn_Md_nibbledCord (.code mn_Md_nibbledCord mb_Md_nibbledCord 2 (some .int) :: jk_WA) (jk_rm 5 110) [.ref a_t, jk_V x1] (wd_Md_nibbledCord cI a_t a_t_w a_t_wKept a_t_saved a_t_past a_t_input a_t_n a_t_order a_t_numbers a_t_output i_t_pastMany i_t_isSaved i_t_thrown i_t_inputMany i_t_lastError i_t_lastOffset i_t_error i_t_offset i_t_nextByte i_t_begin i_t_value i_t_token i_t_got i_t_orders i_t_outputMany i_t_w) (wd_Md_nibbledCord cI a_t a_t_w a_t_wKept a_t_saved a_t_past a_t_input a_t_n a_t_order a_t_numbers a_t_output i_t_pastMany i_t_isSaved q.2 i_t_inputMany i_t_lastError i_t_lastOffset i_t_error i_t_offset i_t_nextByte i_t_begin i_t_value i_t_token i_t_got i_t_orders i_t_outputMany i_t_w) q.1 := by
  intro sz
  refine jk_body (by decide +kernel) (fun p e s m args below meth c hsz hz hin C => ?_) (Nat.le_of_ble_eq_true rfl)
  subst hsz
  unfold fn_Md_nibbledCord at hf
  refine jk_aload_n C rd_Md_nibbledCord_0 (k := 0) rfl ?_
  refine jk_iconst C rd_Md_nibbledCord_1 ?_
  refine jk_putf C in_Md ty_Md nm_Md (ci := 11) rfl 6 (by decide) tm_1269 rfl rfl rfl 0 rfl (Nat.le_of_ble_eq_true rfl) rd_Md_nibbledCord_2 (ws' := wd_Md_nibbledCord cI a_t a_t_w a_t_wKept a_t_saved a_t_past a_t_input a_t_n a_t_order a_t_numbers a_t_output i_t_pastMany i_t_isSaved 0 i_t_inputMany i_t_lastError i_t_lastOffset i_t_error i_t_offset i_t_nextByte i_t_begin i_t_value i_t_token i_t_got i_t_orders i_t_outputMany i_t_w) rfl ?_
  refine jk_aload_n C rd_Md_nibbledCord_5 (k := 0) rfl ?_
  refine jk_iload_n C rd_Md_nibbledCord_6 (k := 1) rfl ?_
  obtain ⟨q7, hq7, hf⟩ := jk_bind_h hf
  refine jk_callVi C hZ.1 hz (ct_Md_noCluster l D Z sq hZ cI cR a_t a_t_w a_t_wKept a_t_saved a_t_past a_t_input a_t_n a_t_order a_t_numbers a_t_output i_t_pastMany i_t_isSaved 0 i_t_inputMany i_t_lastError i_t_lastOffset i_t_error i_t_offset i_t_nextByte i_t_begin i_t_value i_t_token i_t_got i_t_orders i_t_outputMany i_t_w x1 q7 hq7) tm_1699 tm_1701 sl_92 tm_15 tm_1702 na_Md_noCluster ⟨Nat.le_of_ble_eq_true rfl, Nat.le_of_ble_eq_true rfl⟩ rfl [0, 1] rfl rfl rfl (ws' := wd_Md_nibbledCord cI a_t a_t_w a_t_wKept a_t_saved a_t_past a_t_input a_t_n a_t_order a_t_numbers a_t_output i_t_pastMany i_t_isSaved q7.2 i_t_inputMany i_t_lastError i_t_lastOffset i_t_error i_t_offset i_t_nextByte i_t_begin i_t_value i_t_token i_t_got i_t_orders i_t_outputMany i_t_w) rfl 0 11 rfl rfl rfl (st := []) rfl (Nat.le_of_ble_eq_true rfl) rd_Md_nibbledCord_7 ?_ ⟨Nat.le_refl _, Nat.le_refl _⟩
  refine jk_if_eq (tgt := 17) C rd_Md_nibbledCord_10 (by decide) hf (fun _ hf => ?_) (fun _ hf => ?_)
  · refine jk_aload_n C rd_Md_nibbledCord_17 (k := 0) rfl ?_
    refine jk_iload_n C rd_Md_nibbledCord_18 (k := 1) rfl ?_
    obtain ⟨q19, hq19, hf⟩ := jk_bind_h hf
    refine jk_callVi C hZ.1 hz (ct_Md_onlyNibbled l D Z sq hZ cI cR a_t a_t_w a_t_wKept a_t_saved a_t_past a_t_input a_t_n a_t_order a_t_numbers a_t_output i_t_pastMany i_t_isSaved q7.2 i_t_inputMany i_t_lastError i_t_lastOffset i_t_error i_t_offset i_t_nextByte i_t_begin i_t_value i_t_token i_t_got i_t_orders i_t_outputMany i_t_w x1 q19 hq19) tm_1603 tm_1605 sl_83 tm_15 tm_1606 na_Md_onlyNibbled ⟨Nat.le_of_ble_eq_true rfl, Nat.le_of_ble_eq_true rfl⟩ rfl [0, 1] rfl rfl rfl (ws' := wd_Md_nibbledCord cI a_t a_t_w a_t_wKept a_t_saved a_t_past a_t_input a_t_n a_t_order a_t_numbers a_t_output i_t_pastMany i_t_isSaved q7.2 i_t_inputMany i_t_lastError i_t_lastOffset i_t_error i_t_offset i_t_nextByte i_t_begin i_t_value i_t_token i_t_got i_t_orders i_t_outputMany i_t_w) rfl 0 11 rfl rfl rfl (st := []) rfl (Nat.le_of_ble_eq_true rfl) rd_Md_nibbledCord_19 ?_ ⟨Nat.le_refl _, Nat.le_refl _⟩
    cases hf
    exact jk_iret C rfl rd_Md_nibbledCord_22 rfl
  · refine jk_iconst C rd_Md_nibbledCord_13 ?_
    refine jk_goto (tgt := 22) C rd_Md_nibbledCord_14 (by decide) ?_
    cases hf
    exact jk_iret C rfl rd_Md_nibbledCord_22 rfl
def wd_Md_knotCount (cI : ClassId) (a_t a_t_w a_t_wKept a_t_saved a_t_past a_t_input a_t_n a_t_order a_t_numbers a_t_output : Nat) (i_t_pastMany : Int) (i_t_isSaved : Int) (i_t_thrown : Int) (i_t_inputMany : Int) (i_t_lastError : Int) (i_t_lastOffset : Int) (i_t_error : Int) (i_t_offset : Int) (i_t_nextByte : Int) (i_t_begin : Int) (i_t_value : Int) (i_t_token : Int) (i_t_got : Int) (i_t_orders : Int) (i_t_outputMany : Int) (i_t_w : (Int → Int)) : va_W := [(a_t, .inr (11, [.ref a_t_w, .ref a_t_wKept, .ref a_t_saved, .ref a_t_past, jk_V i_t_pastMany, jk_V i_t_isSaved, jk_V i_t_thrown, .ref a_t_input, jk_V i_t_inputMany, jk_V i_t_lastError, jk_V i_t_lastOffset, jk_V i_t_error, jk_V i_t_offset, jk_V i_t_nextByte, jk_V i_t_begin, jk_V i_t_value, jk_V i_t_token, jk_V i_t_got, .ref a_t_n, .ref a_t_order, .ref a_t_numbers, jk_V i_t_orders, .ref a_t_output, jk_V i_t_outputMany])), (a_t_w, jk_W cI 259 i_t_w)]
set_option maxHeartbeats 4000000 in
set_option maxRecDepth 20000 in
theorem ct_Md_knotCount (l : Launch) (D : va_G) (Z : (Nat → Prop) → State → Heap → Prop) (sq : Nat → Nat) (hZ : jk_ZK Z sq) (cI cR : ClassId) (a_t a_t_w a_t_wKept a_t_saved a_t_past a_t_input a_t_n a_t_order a_t_numbers a_t_output : Nat) (i_t_pastMany : Int) (i_t_isSaved : Int) (i_t_thrown : Int) (i_t_inputMany : Int) (i_t_lastError : Int) (i_t_lastOffset : Int) (i_t_error : Int) (i_t_offset : Int) (i_t_nextByte : Int) (i_t_begin : Int) (i_t_value : Int) (i_t_token : Int) (i_t_got : Int) (i_t_orders : Int) (i_t_outputMany : Int) (i_t_w : (Int → Int)) (q : Int × Int) (hf : fn_Md_knotCount i_t_w i_t_thrown = some q) : jk_MI l D jk_cl (jk_ty cI cR) Z mn_Md_knotCount (.code mn_Md_knotCount mb_Md_knotCount 3 (some .int) :: jk_WA) (jk_rm 3 67) [.ref a_t] (wd_Md_knotCount cI a_t a_t_w a_t_wKept a_t_saved a_t_past a_t_input a_t_n a_t_order a_t_numbers a_t_output i_t_pastMany i_t_isSaved i_t_thrown i_t_inputMany i_t_lastError i_t_lastOffset i_t_error i_t_offset i_t_nextByte i_t_begin i_t_value i_t_token i_t_got i_t_orders i_t_outputMany i_t_w) (wd_Md_knotCount cI a_t a_t_w a_t_wKept a_t_saved a_t_past a_t_input a_t_n a_t_order a_t_numbers a_t_output i_t_pastMany i_t_isSaved q.2 i_t_inputMany i_t_lastError i_t_lastOffset i_t_error i_t_offset i_t_nextByte i_t_begin i_t_value i_t_token i_t_got i_t_orders i_t_outputMany i_t_w) q.1 := by
  intro sz
  refine jk_body (by decide +kernel) (fun p e s m args below meth c hsz hz hin C => ?_) (Nat.le_of_ble_eq_true rfl)
  subst hsz
  unfold fn_Md_knotCount at hf
  have bk_9 : ∀ (n : Nat) (t_thrown : Int) (v1 : Int) (v2 : Int), fn_Md_knotCount_b9 n i_t_w t_thrown v1 v2 = some q → jk_J p l e (jk_rm 3 67) s m args below meth c 0 0 (jk_QI below D jk_cl (jk_ty cI cR) (wd_Md_knotCount cI a_t a_t_w a_t_wKept a_t_saved a_t_past a_t_input a_t_n a_t_order a_t_numbers a_t_output i_t_pastMany i_t_isSaved i_t_thrown i_t_inputMany i_t_lastError i_t_lastOffset i_t_error i_t_offset i_t_nextByte i_t_begin i_t_value i_t_token i_t_got i_t_orders i_t_outputMany i_t_w) (wd_Md_knotCount cI a_t a_t_w a_t_wKept a_t_saved a_t_past a_t_input a_t_n a_t_order a_t_numbers a_t_output i_t_pastMany i_t_isSaved q.2 i_t_inputMany i_t_lastError i_t_lastOffset i_t_error i_t_offset i_t_nextByte i_t_begin i_t_value i_t_token i_t_got i_t_orders i_t_outputMany i_t_w) args s q.1) D jk_cl (va_A (wd_Md_knotCount cI a_t a_t_w a_t_wKept a_t_saved a_t_past a_t_input a_t_n a_t_order a_t_numbers a_t_output i_t_pastMany i_t_isSaved i_t_thrown i_t_inputMany i_t_lastError i_t_lastOffset i_t_error i_t_offset i_t_nextByte i_t_begin i_t_value i_t_token i_t_got i_t_orders i_t_outputMany i_t_w) s.heap.size) 3 (wd_Md_knotCount cI a_t a_t_w a_t_wKept a_t_saved a_t_past a_t_input a_t_n a_t_order a_t_numbers a_t_output i_t_pastMany i_t_isSaved t_thrown i_t_inputMany i_t_lastError i_t_lastOffset i_t_error i_t_offset i_t_nextByte i_t_begin i_t_value i_t_token i_t_got i_t_orders i_t_outputMany i_t_w) [(0, .ref a_t), (1, jk_V v1), (2, jk_V v2)] 9 [] := by
    intro n
    induction n with
    | zero => intro t_thrown v1 v2 hf; exact nomatch (show none = some q from hf)
    | succ n ih =>
      intro t_thrown v1 v2 hf
      rw [fn_Md_knotCount_b9] at hf
      refine jk_iload_n C rd_Md_knotCount_9 (k := 2) rfl ?_
      refine jk_aload_n C rd_Md_knotCount_10 (k := 0) rfl ?_
      refine jk_get C in_Md (ci := 11) rfl 0 (by decide) tm_1263 0 rfl rfl rd_Md_knotCount_11 ?_
      refine jk_iconst C rd_Md_knotCount_14 ?_
      refine jk_iald C 1 0 rfl rfl (Nat.le_of_ble_eq_true rfl) rd_Md_knotCount_15 hf (fun hf => ?_)
      refine jk_icmp_ge (tgt := 33) C rd_Md_knotCount_16 (by decide) hf (fun _ hf => ?_) (fun _ hf => ?_)
      · refine jk_iload_n C rd_Md_knotCount_33 (k := 1) rfl ?_
        cases hf
        exact jk_iret C rfl rd_Md_knotCount_34 rfl
      · refine jk_iload_n C rd_Md_knotCount_19 (k := 1) rfl ?_
        refine jk_aload_n C rd_Md_knotCount_20 (k := 0) rfl ?_
        refine jk_iload_n C rd_Md_knotCount_21 (k := 2) rfl ?_
        obtain ⟨q22, hq22, hf⟩ := jk_bind_h hf
        refine jk_callVi C hZ.1 hz (ct_Md_knotsOf l D Z sq hZ cI cR a_t a_t_w a_t_wKept a_t_saved a_t_past a_t_input a_t_n a_t_order a_t_numbers a_t_output i_t_pastMany i_t_isSaved t_thrown i_t_inputMany i_t_lastError i_t_lastOffset i_t_error i_t_offset i_t_nextByte i_t_begin i_t_value i_t_token i_t_got i_t_orders i_t_outputMany i_t_w v2 q22 hq22) tm_1248 tm_1250 sl_24 tm_15 tm_1251 na_Md_knotsOf ⟨Nat.le_of_ble_eq_true rfl, Nat.le_of_ble_eq_true rfl⟩ rfl [0, 1] rfl rfl rfl (ws' := wd_Md_knotCount cI a_t a_t_w a_t_wKept a_t_saved a_t_past a_t_input a_t_n a_t_order a_t_numbers a_t_output i_t_pastMany i_t_isSaved t_thrown i_t_inputMany i_t_lastError i_t_lastOffset i_t_error i_t_offset i_t_nextByte i_t_begin i_t_value i_t_token i_t_got i_t_orders i_t_outputMany i_t_w) rfl 0 11 rfl rfl rfl (st := [jk_V v1]) rfl (Nat.le_of_ble_eq_true rfl) rd_Md_knotCount_22 ?_ ⟨Nat.le_refl _, Nat.le_refl _⟩
        refine jk_iadd C rd_Md_knotCount_25 ?_
        refine jk_istore_n C rd_Md_knotCount_26 (by decide) (lv' := [(1, jk_V (v1 + q22)), (0, .ref a_t), (2, jk_V v2)]) rfl ?_
        refine jk_iinc C rd_Md_knotCount_27 (k := 2) rfl (by decide) (lv' := [(2, jk_V (v2 + 1)), (1, jk_V (v1 + q22)), (0, .ref a_t)]) rfl ?_
        refine jk_goto (tgt := 9) C rd_Md_knotCount_30 (by decide) ?_
        refine jk_lv (lv' := [(0, .ref a_t), (1, jk_V (v1 + q22)), (2, jk_V (v2 + 1))]) [2, 1, 0] rfl ?_
        exact ih t_thrown (v1 + q22) (v2 + 1) hf
  refine jk_aload_n C rd_Md_knotCount_0 (k := 0) rfl ?_
  refine jk_iconst C rd_Md_knotCount_1 ?_
  refine jk_putf C in_Md ty_Md nm_Md (ci := 11) rfl 6 (by decide) tm_1269 rfl rfl rfl 0 rfl (Nat.le_of_ble_eq_true rfl) rd_Md_knotCount_2 (ws' := wd_Md_knotCount cI a_t a_t_w a_t_wKept a_t_saved a_t_past a_t_input a_t_n a_t_order a_t_numbers a_t_output i_t_pastMany i_t_isSaved 0 i_t_inputMany i_t_lastError i_t_lastOffset i_t_error i_t_offset i_t_nextByte i_t_begin i_t_value i_t_token i_t_got i_t_orders i_t_outputMany i_t_w) rfl ?_
  refine jk_iconst C rd_Md_knotCount_5 ?_
  refine jk_istore_n C rd_Md_knotCount_6 (by decide) (lv' := [(1, jk_V 0), (0, .ref a_t)]) rfl ?_
  refine jk_iconst C rd_Md_knotCount_7 ?_
  refine jk_istore_n C rd_Md_knotCount_8 (by decide) (lv' := [(2, jk_V 0), (1, jk_V 0), (0, .ref a_t)]) rfl ?_
  refine jk_lv (lv' := [(0, .ref a_t), (1, jk_V 0), (2, jk_V 0)]) [2, 1, 0] rfl ?_
  exact bk_9 jk_F 0 0 0 hf
def wd_Md_nibbled (cI : ClassId) (a_t a_t_w a_t_wKept a_t_saved a_t_past a_t_input a_t_n a_t_order a_t_numbers a_t_output : Nat) (i_t_pastMany : Int) (i_t_isSaved : Int) (i_t_thrown : Int) (i_t_inputMany : Int) (i_t_lastError : Int) (i_t_lastOffset : Int) (i_t_error : Int) (i_t_offset : Int) (i_t_nextByte : Int) (i_t_begin : Int) (i_t_value : Int) (i_t_token : Int) (i_t_got : Int) (i_t_orders : Int) (i_t_outputMany : Int) (i_t_w : (Int → Int)) : va_W := [(a_t, .inr (11, [.ref a_t_w, .ref a_t_wKept, .ref a_t_saved, .ref a_t_past, jk_V i_t_pastMany, jk_V i_t_isSaved, jk_V i_t_thrown, .ref a_t_input, jk_V i_t_inputMany, jk_V i_t_lastError, jk_V i_t_lastOffset, jk_V i_t_error, jk_V i_t_offset, jk_V i_t_nextByte, jk_V i_t_begin, jk_V i_t_value, jk_V i_t_token, jk_V i_t_got, .ref a_t_n, .ref a_t_order, .ref a_t_numbers, jk_V i_t_orders, .ref a_t_output, jk_V i_t_outputMany])), (a_t_w, jk_W cI 259 i_t_w)]
set_option maxHeartbeats 4000000 in
set_option maxRecDepth 20000 in
theorem ct_Md_nibbled (l : Launch) (D : va_G) (Z : (Nat → Prop) → State → Heap → Prop) (sq : Nat → Nat) (hZ : jk_ZK Z sq) (cI cR : ClassId) (a_t a_t_w a_t_wKept a_t_saved a_t_past a_t_input a_t_n a_t_order a_t_numbers a_t_output : Nat) (i_t_pastMany : Int) (i_t_isSaved : Int) (i_t_thrown : Int) (i_t_inputMany : Int) (i_t_lastError : Int) (i_t_lastOffset : Int) (i_t_error : Int) (i_t_offset : Int) (i_t_nextByte : Int) (i_t_begin : Int) (i_t_value : Int) (i_t_token : Int) (i_t_got : Int) (i_t_orders : Int) (i_t_outputMany : Int) (i_t_w : (Int → Int)) (q : Int) (hf : fn_Md_nibbled i_t_w = some q) : jk_MI l D jk_cl (jk_ty cI cR) Z mn_Md_nibbled (.code mn_Md_nibbled mb_Md_nibbled 3 (some .int) :: jk_WA) (jk_rm 2 43) [.ref a_t] (wd_Md_nibbled cI a_t a_t_w a_t_wKept a_t_saved a_t_past a_t_input a_t_n a_t_order a_t_numbers a_t_output i_t_pastMany i_t_isSaved i_t_thrown i_t_inputMany i_t_lastError i_t_lastOffset i_t_error i_t_offset i_t_nextByte i_t_begin i_t_value i_t_token i_t_got i_t_orders i_t_outputMany i_t_w) (wd_Md_nibbled cI a_t a_t_w a_t_wKept a_t_saved a_t_past a_t_input a_t_n a_t_order a_t_numbers a_t_output i_t_pastMany i_t_isSaved i_t_thrown i_t_inputMany i_t_lastError i_t_lastOffset i_t_error i_t_offset i_t_nextByte i_t_begin i_t_value i_t_token i_t_got i_t_orders i_t_outputMany i_t_w) q := by
  intro sz
  refine jk_body (by decide +kernel) (fun p e s m args below meth c hsz hz hin C => ?_) (Nat.le_of_ble_eq_true rfl)
  subst hsz
  unfold fn_Md_nibbled at hf
  have bk_4 : ∀ (n : Nat) (v1 : Int) (v2 : Int), fn_Md_nibbled_b4 n i_t_w v1 v2 = some q → jk_J p l e (jk_rm 2 43) s m args below meth c 0 0 (jk_QI below D jk_cl (jk_ty cI cR) (wd_Md_nibbled cI a_t a_t_w a_t_wKept a_t_saved a_t_past a_t_input a_t_n a_t_order a_t_numbers a_t_output i_t_pastMany i_t_isSaved i_t_thrown i_t_inputMany i_t_lastError i_t_lastOffset i_t_error i_t_offset i_t_nextByte i_t_begin i_t_value i_t_token i_t_got i_t_orders i_t_outputMany i_t_w) (wd_Md_nibbled cI a_t a_t_w a_t_wKept a_t_saved a_t_past a_t_input a_t_n a_t_order a_t_numbers a_t_output i_t_pastMany i_t_isSaved i_t_thrown i_t_inputMany i_t_lastError i_t_lastOffset i_t_error i_t_offset i_t_nextByte i_t_begin i_t_value i_t_token i_t_got i_t_orders i_t_outputMany i_t_w) args s q) D jk_cl (va_A (wd_Md_nibbled cI a_t a_t_w a_t_wKept a_t_saved a_t_past a_t_input a_t_n a_t_order a_t_numbers a_t_output i_t_pastMany i_t_isSaved i_t_thrown i_t_inputMany i_t_lastError i_t_lastOffset i_t_error i_t_offset i_t_nextByte i_t_begin i_t_value i_t_token i_t_got i_t_orders i_t_outputMany i_t_w) s.heap.size) 3 (wd_Md_nibbled cI a_t a_t_w a_t_wKept a_t_saved a_t_past a_t_input a_t_n a_t_order a_t_numbers a_t_output i_t_pastMany i_t_isSaved i_t_thrown i_t_inputMany i_t_lastError i_t_lastOffset i_t_error i_t_offset i_t_nextByte i_t_begin i_t_value i_t_token i_t_got i_t_orders i_t_outputMany i_t_w) [(0, .ref a_t), (1, jk_V v1), (2, jk_V v2)] 4 [] := by
    intro n
    induction n with
    | zero => intro v1 v2 hf; exact nomatch (show none = some q from hf)
    | succ n ih =>
      intro v1 v2 hf
      rw [fn_Md_nibbled_b4] at hf
      refine jk_iload_n C rd_Md_nibbled_4 (k := 2) rfl ?_
      refine jk_aload_n C rd_Md_nibbled_5 (k := 0) rfl ?_
      refine jk_get C in_Md (ci := 11) rfl 0 (by decide) tm_1263 0 rfl rfl rd_Md_nibbled_6 ?_
      refine jk_iconst C rd_Md_nibbled_9 ?_
      refine jk_iald C 1 0 rfl rfl (Nat.le_of_ble_eq_true rfl) rd_Md_nibbled_10 hf (fun hf => ?_)
      refine jk_icmp_ge (tgt := 31) C rd_Md_nibbled_11 (by decide) hf (fun _ hf => ?_) (fun _ hf => ?_)
      · refine jk_iload_n C rd_Md_nibbled_31 (k := 1) rfl ?_
        cases hf
        exact jk_iret C rfl rd_Md_nibbled_32 rfl
      · refine jk_iload_n C rd_Md_nibbled_14 (k := 1) rfl ?_
        refine jk_aload_n C rd_Md_nibbled_15 (k := 0) rfl ?_
        refine jk_iload_n C rd_Md_nibbled_16 (k := 2) rfl ?_
        obtain ⟨q17, hq17, hf⟩ := jk_bind_h hf
        refine jk_callVi C hZ.1 hz (ct_Md_isNibbled l D Z sq hZ cI cR a_t a_t_w a_t_wKept a_t_saved a_t_past a_t_input a_t_n a_t_order a_t_numbers a_t_output i_t_pastMany i_t_isSaved i_t_thrown i_t_inputMany i_t_lastError i_t_lastOffset i_t_error i_t_offset i_t_nextByte i_t_begin i_t_value i_t_token i_t_got i_t_orders i_t_outputMany i_t_w v2 q17 hq17) tm_1567 tm_1569 sl_74 tm_15 tm_1570 na_Md_isNibbled ⟨Nat.le_of_ble_eq_true rfl, Nat.le_of_ble_eq_true rfl⟩ rfl [0, 1] rfl rfl rfl (ws' := wd_Md_nibbled cI a_t a_t_w a_t_wKept a_t_saved a_t_past a_t_input a_t_n a_t_order a_t_numbers a_t_output i_t_pastMany i_t_isSaved i_t_thrown i_t_inputMany i_t_lastError i_t_lastOffset i_t_error i_t_offset i_t_nextByte i_t_begin i_t_value i_t_token i_t_got i_t_orders i_t_outputMany i_t_w) rfl 0 11 rfl rfl rfl (st := [jk_V v1]) rfl (Nat.le_of_ble_eq_true rfl) rd_Md_nibbled_17 ?_ ⟨Nat.le_refl _, Nat.le_refl _⟩
        obtain ⟨q20, hq20, hf⟩ := jk_bind_h hf
        refine jk_callSi C hZ.1 hz (ct_Md_one l D Z sq hZ cI cR q17 q20 hq20) tm_1560 tm_1561 tm_15 tm_1562 na_Md_one ⟨Nat.le_of_ble_eq_true rfl, Nat.le_of_ble_eq_true rfl⟩ rfl [] rfl rfl rfl (ws' := wd_Md_nibbled cI a_t a_t_w a_t_wKept a_t_saved a_t_past a_t_input a_t_n a_t_order a_t_numbers a_t_output i_t_pastMany i_t_isSaved i_t_thrown i_t_inputMany i_t_lastError i_t_lastOffset i_t_error i_t_offset i_t_nextByte i_t_begin i_t_value i_t_token i_t_got i_t_orders i_t_outputMany i_t_w) rfl (st := [jk_V v1]) rfl (Nat.le_of_ble_eq_true rfl) rd_Md_nibbled_20 ?_ ⟨Nat.le_refl _, Nat.le_refl _⟩
        refine jk_iadd C rd_Md_nibbled_23 ?_
        refine jk_istore_n C rd_Md_nibbled_24 (by decide) (lv' := [(1, jk_V (v1 + q20)), (0, .ref a_t), (2, jk_V v2)]) rfl ?_
        refine jk_iinc C rd_Md_nibbled_25 (k := 2) rfl (by decide) (lv' := [(2, jk_V (v2 + 1)), (1, jk_V (v1 + q20)), (0, .ref a_t)]) rfl ?_
        refine jk_goto (tgt := 4) C rd_Md_nibbled_28 (by decide) ?_
        refine jk_lv (lv' := [(0, .ref a_t), (1, jk_V (v1 + q20)), (2, jk_V (v2 + 1))]) [2, 1, 0] rfl ?_
        exact ih (v1 + q20) (v2 + 1) hf
  refine jk_iconst C rd_Md_nibbled_0 ?_
  refine jk_istore_n C rd_Md_nibbled_1 (by decide) (lv' := [(1, jk_V 0), (0, .ref a_t)]) rfl ?_
  refine jk_iconst C rd_Md_nibbled_2 ?_
  refine jk_istore_n C rd_Md_nibbled_3 (by decide) (lv' := [(2, jk_V 0), (1, jk_V 0), (0, .ref a_t)]) rfl ?_
  refine jk_lv (lv' := [(0, .ref a_t), (1, jk_V 0), (2, jk_V 0)]) [2, 1, 0] rfl ?_
  exact bk_4 jk_F 0 0 hf
def wd_Md_nibbledCount (cI : ClassId) (a_t a_t_w a_t_wKept a_t_saved a_t_past a_t_input a_t_n a_t_order a_t_numbers a_t_output : Nat) (i_t_pastMany : Int) (i_t_isSaved : Int) (i_t_thrown : Int) (i_t_inputMany : Int) (i_t_lastError : Int) (i_t_lastOffset : Int) (i_t_error : Int) (i_t_offset : Int) (i_t_nextByte : Int) (i_t_begin : Int) (i_t_value : Int) (i_t_token : Int) (i_t_got : Int) (i_t_orders : Int) (i_t_outputMany : Int) (i_t_w : (Int → Int)) : va_W := [(a_t, .inr (11, [.ref a_t_w, .ref a_t_wKept, .ref a_t_saved, .ref a_t_past, jk_V i_t_pastMany, jk_V i_t_isSaved, jk_V i_t_thrown, .ref a_t_input, jk_V i_t_inputMany, jk_V i_t_lastError, jk_V i_t_lastOffset, jk_V i_t_error, jk_V i_t_offset, jk_V i_t_nextByte, jk_V i_t_begin, jk_V i_t_value, jk_V i_t_token, jk_V i_t_got, .ref a_t_n, .ref a_t_order, .ref a_t_numbers, jk_V i_t_orders, .ref a_t_output, jk_V i_t_outputMany])), (a_t_w, jk_W cI 259 i_t_w)]
set_option maxHeartbeats 4000000 in
set_option maxRecDepth 20000 in
theorem ct_Md_nibbledCount (l : Launch) (D : va_G) (Z : (Nat → Prop) → State → Heap → Prop) (sq : Nat → Nat) (hZ : jk_ZK Z sq) (cI cR : ClassId) (a_t a_t_w a_t_wKept a_t_saved a_t_past a_t_input a_t_n a_t_order a_t_numbers a_t_output : Nat) (i_t_pastMany : Int) (i_t_isSaved : Int) (i_t_thrown : Int) (i_t_inputMany : Int) (i_t_lastError : Int) (i_t_lastOffset : Int) (i_t_error : Int) (i_t_offset : Int) (i_t_nextByte : Int) (i_t_begin : Int) (i_t_value : Int) (i_t_token : Int) (i_t_got : Int) (i_t_orders : Int) (i_t_outputMany : Int) (i_t_w : (Int → Int)) (q : Int × Int) (hf : fn_Md_nibbledCount i_t_w i_t_thrown = some q) : jk_MI l D jk_cl (jk_ty cI cR) Z mn_Md_nibbledCount (.code mn_Md_nibbledCount mb_Md_nibbledCount 1 (some .int) :: jk_WA) (jk_rm 3 65) [.ref a_t] (wd_Md_nibbledCount cI a_t a_t_w a_t_wKept a_t_saved a_t_past a_t_input a_t_n a_t_order a_t_numbers a_t_output i_t_pastMany i_t_isSaved i_t_thrown i_t_inputMany i_t_lastError i_t_lastOffset i_t_error i_t_offset i_t_nextByte i_t_begin i_t_value i_t_token i_t_got i_t_orders i_t_outputMany i_t_w) (wd_Md_nibbledCount cI a_t a_t_w a_t_wKept a_t_saved a_t_past a_t_input a_t_n a_t_order a_t_numbers a_t_output i_t_pastMany i_t_isSaved q.2 i_t_inputMany i_t_lastError i_t_lastOffset i_t_error i_t_offset i_t_nextByte i_t_begin i_t_value i_t_token i_t_got i_t_orders i_t_outputMany i_t_w) q.1 := by
  intro sz
  refine jk_body (by decide +kernel) (fun p e s m args below meth c hsz hz hin C => ?_) (Nat.le_of_ble_eq_true rfl)
  subst hsz
  unfold fn_Md_nibbledCount at hf
  refine jk_aload_n C rd_Md_nibbledCount_0 (k := 0) rfl ?_
  refine jk_iconst C rd_Md_nibbledCount_1 ?_
  refine jk_putf C in_Md ty_Md nm_Md (ci := 11) rfl 6 (by decide) tm_1269 rfl rfl rfl 0 rfl (Nat.le_of_ble_eq_true rfl) rd_Md_nibbledCount_2 (ws' := wd_Md_nibbledCount cI a_t a_t_w a_t_wKept a_t_saved a_t_past a_t_input a_t_n a_t_order a_t_numbers a_t_output i_t_pastMany i_t_isSaved 0 i_t_inputMany i_t_lastError i_t_lastOffset i_t_error i_t_offset i_t_nextByte i_t_begin i_t_value i_t_token i_t_got i_t_orders i_t_outputMany i_t_w) rfl ?_
  refine jk_aload_n C rd_Md_nibbledCount_5 (k := 0) rfl ?_
  obtain ⟨q6, hq6, hf⟩ := jk_bind_h hf
  refine jk_callVi C hZ.1 hz (ct_Md_nibbled l D Z sq hZ cI cR a_t a_t_w a_t_wKept a_t_saved a_t_past a_t_input a_t_n a_t_order a_t_numbers a_t_output i_t_pastMany i_t_isSaved 0 i_t_inputMany i_t_lastError i_t_lastOffset i_t_error i_t_offset i_t_nextByte i_t_begin i_t_value i_t_token i_t_got i_t_orders i_t_outputMany i_t_w q6 hq6) tm_1739 tm_1741 sl_94 tm_15 tm_1742 na_Md_nibbled ⟨Nat.le_of_ble_eq_true rfl, Nat.le_of_ble_eq_true rfl⟩ rfl [0, 1] rfl rfl rfl (ws' := wd_Md_nibbledCount cI a_t a_t_w a_t_wKept a_t_saved a_t_past a_t_input a_t_n a_t_order a_t_numbers a_t_output i_t_pastMany i_t_isSaved 0 i_t_inputMany i_t_lastError i_t_lastOffset i_t_error i_t_offset i_t_nextByte i_t_begin i_t_value i_t_token i_t_got i_t_orders i_t_outputMany i_t_w) rfl 0 11 rfl rfl rfl (st := []) rfl (Nat.le_of_ble_eq_true rfl) rd_Md_nibbledCount_6 ?_ ⟨Nat.le_refl _, Nat.le_refl _⟩
  cases hf
  exact jk_iret C rfl rd_Md_nibbledCount_9 rfl
def wd_Md_matchingCount (cI : ClassId) (a_t a_t_w a_t_wKept a_t_saved a_t_past a_t_input a_t_n a_t_order a_t_numbers a_t_output : Nat) (i_t_pastMany : Int) (i_t_isSaved : Int) (i_t_thrown : Int) (i_t_inputMany : Int) (i_t_lastError : Int) (i_t_lastOffset : Int) (i_t_error : Int) (i_t_offset : Int) (i_t_nextByte : Int) (i_t_begin : Int) (i_t_value : Int) (i_t_token : Int) (i_t_got : Int) (i_t_orders : Int) (i_t_outputMany : Int) (i_t_w : (Int → Int)) : va_W := [(a_t, .inr (11, [.ref a_t_w, .ref a_t_wKept, .ref a_t_saved, .ref a_t_past, jk_V i_t_pastMany, jk_V i_t_isSaved, jk_V i_t_thrown, .ref a_t_input, jk_V i_t_inputMany, jk_V i_t_lastError, jk_V i_t_lastOffset, jk_V i_t_error, jk_V i_t_offset, jk_V i_t_nextByte, jk_V i_t_begin, jk_V i_t_value, jk_V i_t_token, jk_V i_t_got, .ref a_t_n, .ref a_t_order, .ref a_t_numbers, jk_V i_t_orders, .ref a_t_output, jk_V i_t_outputMany])), (a_t_w, jk_W cI 259 i_t_w)]
set_option maxHeartbeats 4000000 in
set_option maxRecDepth 20000 in
theorem ct_Md_matchingCount (l : Launch) (D : va_G) (Z : (Nat → Prop) → State → Heap → Prop) (sq : Nat → Nat) (hZ : jk_ZK Z sq) (cI cR : ClassId) (a_t a_t_w a_t_wKept a_t_saved a_t_past a_t_input a_t_n a_t_order a_t_numbers a_t_output : Nat) (i_t_pastMany : Int) (i_t_isSaved : Int) (i_t_thrown : Int) (i_t_inputMany : Int) (i_t_lastError : Int) (i_t_lastOffset : Int) (i_t_error : Int) (i_t_offset : Int) (i_t_nextByte : Int) (i_t_begin : Int) (i_t_value : Int) (i_t_token : Int) (i_t_got : Int) (i_t_orders : Int) (i_t_outputMany : Int) (i_t_w : (Int → Int)) (q : Int × Int) (hf : fn_Md_matchingCount i_t_w i_t_thrown = some q) : jk_MI l D jk_cl (jk_ty cI cR) Z mn_Md_matchingCount (.code mn_Md_matchingCount mb_Md_matchingCount 3 (some .int) :: jk_WA) (jk_rm 7 152) [.ref a_t] (wd_Md_matchingCount cI a_t a_t_w a_t_wKept a_t_saved a_t_past a_t_input a_t_n a_t_order a_t_numbers a_t_output i_t_pastMany i_t_isSaved i_t_thrown i_t_inputMany i_t_lastError i_t_lastOffset i_t_error i_t_offset i_t_nextByte i_t_begin i_t_value i_t_token i_t_got i_t_orders i_t_outputMany i_t_w) (wd_Md_matchingCount cI a_t a_t_w a_t_wKept a_t_saved a_t_past a_t_input a_t_n a_t_order a_t_numbers a_t_output i_t_pastMany i_t_isSaved q.2 i_t_inputMany i_t_lastError i_t_lastOffset i_t_error i_t_offset i_t_nextByte i_t_begin i_t_value i_t_token i_t_got i_t_orders i_t_outputMany i_t_w) q.1 := by
  intro sz
  refine jk_body (by decide +kernel) (fun p e s m args below meth c hsz hz hin C => ?_) (Nat.le_of_ble_eq_true rfl)
  subst hsz
  unfold fn_Md_matchingCount at hf
  have bk_9 : ∀ (n : Nat) (t_thrown : Int) (v1 : Int) (v2 : Int), fn_Md_matchingCount_b9 n i_t_w t_thrown v1 v2 = some q → jk_J p l e (jk_rm 7 152) s m args below meth c 0 0 (jk_QI below D jk_cl (jk_ty cI cR) (wd_Md_matchingCount cI a_t a_t_w a_t_wKept a_t_saved a_t_past a_t_input a_t_n a_t_order a_t_numbers a_t_output i_t_pastMany i_t_isSaved i_t_thrown i_t_inputMany i_t_lastError i_t_lastOffset i_t_error i_t_offset i_t_nextByte i_t_begin i_t_value i_t_token i_t_got i_t_orders i_t_outputMany i_t_w) (wd_Md_matchingCount cI a_t a_t_w a_t_wKept a_t_saved a_t_past a_t_input a_t_n a_t_order a_t_numbers a_t_output i_t_pastMany i_t_isSaved q.2 i_t_inputMany i_t_lastError i_t_lastOffset i_t_error i_t_offset i_t_nextByte i_t_begin i_t_value i_t_token i_t_got i_t_orders i_t_outputMany i_t_w) args s q.1) D jk_cl (va_A (wd_Md_matchingCount cI a_t a_t_w a_t_wKept a_t_saved a_t_past a_t_input a_t_n a_t_order a_t_numbers a_t_output i_t_pastMany i_t_isSaved i_t_thrown i_t_inputMany i_t_lastError i_t_lastOffset i_t_error i_t_offset i_t_nextByte i_t_begin i_t_value i_t_token i_t_got i_t_orders i_t_outputMany i_t_w) s.heap.size) 3 (wd_Md_matchingCount cI a_t a_t_w a_t_wKept a_t_saved a_t_past a_t_input a_t_n a_t_order a_t_numbers a_t_output i_t_pastMany i_t_isSaved t_thrown i_t_inputMany i_t_lastError i_t_lastOffset i_t_error i_t_offset i_t_nextByte i_t_begin i_t_value i_t_token i_t_got i_t_orders i_t_outputMany i_t_w) [(0, .ref a_t), (1, jk_V v1), (2, jk_V v2)] 9 [] := by
    intro n
    induction n with
    | zero => intro t_thrown v1 v2 hf; exact nomatch (show none = some q from hf)
    | succ n ih =>
      intro t_thrown v1 v2 hf
      rw [fn_Md_matchingCount_b9] at hf
      refine jk_iload_n C rd_Md_matchingCount_9 (k := 2) rfl ?_
      refine jk_aload_n C rd_Md_matchingCount_10 (k := 0) rfl ?_
      refine jk_get C in_Md (ci := 11) rfl 0 (by decide) tm_1263 0 rfl rfl rd_Md_matchingCount_11 ?_
      refine jk_iconst C rd_Md_matchingCount_14 ?_
      refine jk_iald C 1 0 rfl rfl (Nat.le_of_ble_eq_true rfl) rd_Md_matchingCount_15 hf (fun hf => ?_)
      refine jk_icmp_ge (tgt := 45) C rd_Md_matchingCount_16 (by decide) hf (fun _ hf => ?_) (fun _ hf => ?_)
      · refine jk_iload_n C rd_Md_matchingCount_45 (k := 1) rfl ?_
        cases hf
        exact jk_iret C rfl rd_Md_matchingCount_46 rfl
      · refine jk_iload_n C rd_Md_matchingCount_19 (k := 1) rfl ?_
        refine jk_aload_n C rd_Md_matchingCount_20 (k := 0) rfl ?_
        refine jk_iload_n C rd_Md_matchingCount_21 (k := 2) rfl ?_
        obtain ⟨q22, hq22, hf⟩ := jk_bind_h hf
        refine jk_callVi C hZ.1 hz (ct_Md_state l D Z sq hZ cI cR a_t a_t_w a_t_wKept a_t_saved a_t_past a_t_input a_t_n a_t_order a_t_numbers a_t_output i_t_pastMany i_t_isSaved t_thrown i_t_inputMany i_t_lastError i_t_lastOffset i_t_error i_t_offset i_t_nextByte i_t_begin i_t_value i_t_token i_t_got i_t_orders i_t_outputMany i_t_w v2 q22 hq22) tm_1719 tm_1721 sl_93 tm_15 tm_1722 na_Md_state ⟨Nat.le_of_ble_eq_true rfl, Nat.le_of_ble_eq_true rfl⟩ rfl [0, 1] rfl rfl rfl (ws' := wd_Md_matchingCount cI a_t a_t_w a_t_wKept a_t_saved a_t_past a_t_input a_t_n a_t_order a_t_numbers a_t_output i_t_pastMany i_t_isSaved t_thrown i_t_inputMany i_t_lastError i_t_lastOffset i_t_error i_t_offset i_t_nextByte i_t_begin i_t_value i_t_token i_t_got i_t_orders i_t_outputMany i_t_w) rfl 0 11 rfl rfl rfl (st := [jk_V v1]) rfl (Nat.le_of_ble_eq_true rfl) rd_Md_matchingCount_22 ?_ ⟨Nat.le_refl _, Nat.le_refl _⟩
        refine jk_iconst C rd_Md_matchingCount_25 ?_
        refine jk_icmp_ne (tgt := 33) C rd_Md_matchingCount_26 (by decide) hf (fun _ hf => ?_) (fun _ hf => ?_)
        · refine jk_iconst C rd_Md_matchingCount_33 ?_
          obtain ⟨q34, hq34, hf⟩ := jk_bind_h hf
          refine jk_callSi C hZ.1 hz (ct_Md_one l D Z sq hZ cI cR 0 q34 hq34) tm_1560 tm_1561 tm_15 tm_1562 na_Md_one ⟨Nat.le_of_ble_eq_true rfl, Nat.le_of_ble_eq_true rfl⟩ rfl [] rfl rfl rfl (ws' := wd_Md_matchingCount cI a_t a_t_w a_t_wKept a_t_saved a_t_past a_t_input a_t_n a_t_order a_t_numbers a_t_output i_t_pastMany i_t_isSaved t_thrown i_t_inputMany i_t_lastError i_t_lastOffset i_t_error i_t_offset i_t_nextByte i_t_begin i_t_value i_t_token i_t_got i_t_orders i_t_outputMany i_t_w) rfl (st := [jk_V v1]) rfl (Nat.le_of_ble_eq_true rfl) rd_Md_matchingCount_34 ?_ ⟨Nat.le_refl _, Nat.le_refl _⟩
          refine jk_iadd C rd_Md_matchingCount_37 ?_
          refine jk_istore_n C rd_Md_matchingCount_38 (by decide) (lv' := [(1, jk_V (v1 + q34)), (0, .ref a_t), (2, jk_V v2)]) rfl ?_
          refine jk_iinc C rd_Md_matchingCount_39 (k := 2) rfl (by decide) (lv' := [(2, jk_V (v2 + 1)), (1, jk_V (v1 + q34)), (0, .ref a_t)]) rfl ?_
          refine jk_goto (tgt := 9) C rd_Md_matchingCount_42 (by decide) ?_
          refine jk_lv (lv' := [(0, .ref a_t), (1, jk_V (v1 + q34)), (2, jk_V (v2 + 1))]) [2, 1, 0] rfl ?_
          exact ih t_thrown (v1 + q34) (v2 + 1) hf
        · refine jk_iconst C rd_Md_matchingCount_29 ?_
          refine jk_goto (tgt := 34) C rd_Md_matchingCount_30 (by decide) ?_
          obtain ⟨q34, hq34, hf⟩ := jk_bind_h hf
          refine jk_callSi C hZ.1 hz (ct_Md_one l D Z sq hZ cI cR 1 q34 hq34) tm_1560 tm_1561 tm_15 tm_1562 na_Md_one ⟨Nat.le_of_ble_eq_true rfl, Nat.le_of_ble_eq_true rfl⟩ rfl [] rfl rfl rfl (ws' := wd_Md_matchingCount cI a_t a_t_w a_t_wKept a_t_saved a_t_past a_t_input a_t_n a_t_order a_t_numbers a_t_output i_t_pastMany i_t_isSaved t_thrown i_t_inputMany i_t_lastError i_t_lastOffset i_t_error i_t_offset i_t_nextByte i_t_begin i_t_value i_t_token i_t_got i_t_orders i_t_outputMany i_t_w) rfl (st := [jk_V v1]) rfl (Nat.le_of_ble_eq_true rfl) rd_Md_matchingCount_34 ?_ ⟨Nat.le_refl _, Nat.le_refl _⟩
          refine jk_iadd C rd_Md_matchingCount_37 ?_
          refine jk_istore_n C rd_Md_matchingCount_38 (by decide) (lv' := [(1, jk_V (v1 + q34)), (0, .ref a_t), (2, jk_V v2)]) rfl ?_
          refine jk_iinc C rd_Md_matchingCount_39 (k := 2) rfl (by decide) (lv' := [(2, jk_V (v2 + 1)), (1, jk_V (v1 + q34)), (0, .ref a_t)]) rfl ?_
          refine jk_goto (tgt := 9) C rd_Md_matchingCount_42 (by decide) ?_
          refine jk_lv (lv' := [(0, .ref a_t), (1, jk_V (v1 + q34)), (2, jk_V (v2 + 1))]) [2, 1, 0] rfl ?_
          exact ih t_thrown (v1 + q34) (v2 + 1) hf
  refine jk_aload_n C rd_Md_matchingCount_0 (k := 0) rfl ?_
  refine jk_iconst C rd_Md_matchingCount_1 ?_
  refine jk_putf C in_Md ty_Md nm_Md (ci := 11) rfl 6 (by decide) tm_1269 rfl rfl rfl 0 rfl (Nat.le_of_ble_eq_true rfl) rd_Md_matchingCount_2 (ws' := wd_Md_matchingCount cI a_t a_t_w a_t_wKept a_t_saved a_t_past a_t_input a_t_n a_t_order a_t_numbers a_t_output i_t_pastMany i_t_isSaved 0 i_t_inputMany i_t_lastError i_t_lastOffset i_t_error i_t_offset i_t_nextByte i_t_begin i_t_value i_t_token i_t_got i_t_orders i_t_outputMany i_t_w) rfl ?_
  refine jk_iconst C rd_Md_matchingCount_5 ?_
  refine jk_istore_n C rd_Md_matchingCount_6 (by decide) (lv' := [(1, jk_V 0), (0, .ref a_t)]) rfl ?_
  refine jk_iconst C rd_Md_matchingCount_7 ?_
  refine jk_istore_n C rd_Md_matchingCount_8 (by decide) (lv' := [(2, jk_V 0), (1, jk_V 0), (0, .ref a_t)]) rfl ?_
  refine jk_lv (lv' := [(0, .ref a_t), (1, jk_V 0), (2, jk_V 0)]) [2, 1, 0] rfl ?_
  exact bk_9 jk_F 0 0 0 hf
def wd_Md_topicByte (cI : ClassId) (a_t a_t_w a_t_wKept a_t_saved a_t_past a_t_input a_t_n a_t_order a_t_numbers a_t_output : Nat) (i_t_pastMany : Int) (i_t_isSaved : Int) (i_t_thrown : Int) (i_t_inputMany : Int) (i_t_lastError : Int) (i_t_lastOffset : Int) (i_t_error : Int) (i_t_offset : Int) (i_t_nextByte : Int) (i_t_begin : Int) (i_t_value : Int) (i_t_token : Int) (i_t_got : Int) (i_t_orders : Int) (i_t_outputMany : Int) (i_t_w : (Int → Int)) : va_W := [(a_t, .inr (11, [.ref a_t_w, .ref a_t_wKept, .ref a_t_saved, .ref a_t_past, jk_V i_t_pastMany, jk_V i_t_isSaved, jk_V i_t_thrown, .ref a_t_input, jk_V i_t_inputMany, jk_V i_t_lastError, jk_V i_t_lastOffset, jk_V i_t_error, jk_V i_t_offset, jk_V i_t_nextByte, jk_V i_t_begin, jk_V i_t_value, jk_V i_t_token, jk_V i_t_got, .ref a_t_n, .ref a_t_order, .ref a_t_numbers, jk_V i_t_orders, .ref a_t_output, jk_V i_t_outputMany])), (a_t_w, jk_W cI 259 i_t_w)]
set_option maxHeartbeats 4000000 in
set_option maxRecDepth 20000 in
theorem ct_Md_topicByte (l : Launch) (D : va_G) (Z : (Nat → Prop) → State → Heap → Prop) (sq : Nat → Nat) (hZ : jk_ZK Z sq) (cI cR : ClassId) (a_t a_t_w a_t_wKept a_t_saved a_t_past a_t_input a_t_n a_t_order a_t_numbers a_t_output : Nat) (i_t_pastMany : Int) (i_t_isSaved : Int) (i_t_thrown : Int) (i_t_inputMany : Int) (i_t_lastError : Int) (i_t_lastOffset : Int) (i_t_error : Int) (i_t_offset : Int) (i_t_nextByte : Int) (i_t_begin : Int) (i_t_value : Int) (i_t_token : Int) (i_t_got : Int) (i_t_orders : Int) (i_t_outputMany : Int) (i_t_w : (Int → Int)) (x1 : Int) (x2 : Int) (q : Int × Int) (hf : fn_Md_topicByte i_t_w i_t_thrown x1 x2 = some q) : jk_MI l D jk_cl (jk_ty cI cR) Z mn_Md_topicByte (.code mn_Md_topicByte mb_Md_topicByte 3 (some .int) :: jk_WA) (jk_rm 3 64) [.ref a_t, jk_V x1, jk_V x2] (wd_Md_topicByte cI a_t a_t_w a_t_wKept a_t_saved a_t_past a_t_input a_t_n a_t_order a_t_numbers a_t_output i_t_pastMany i_t_isSaved i_t_thrown i_t_inputMany i_t_lastError i_t_lastOffset i_t_error i_t_offset i_t_nextByte i_t_begin i_t_value i_t_token i_t_got i_t_orders i_t_outputMany i_t_w) (wd_Md_topicByte cI a_t a_t_w a_t_wKept a_t_saved a_t_past a_t_input a_t_n a_t_order a_t_numbers a_t_output i_t_pastMany i_t_isSaved q.2 i_t_inputMany i_t_lastError i_t_lastOffset i_t_error i_t_offset i_t_nextByte i_t_begin i_t_value i_t_token i_t_got i_t_orders i_t_outputMany i_t_w) q.1 := by
  intro sz
  refine jk_body (by decide +kernel) (fun p e s m args below meth c hsz hz hin C => ?_) (Nat.le_of_ble_eq_true rfl)
  subst hsz
  unfold fn_Md_topicByte at hf
  refine jk_aload_n C rd_Md_topicByte_0 (k := 0) rfl ?_
  refine jk_iconst C rd_Md_topicByte_1 ?_
  refine jk_putf C in_Md ty_Md nm_Md (ci := 11) rfl 6 (by decide) tm_1269 rfl rfl rfl 0 rfl (Nat.le_of_ble_eq_true rfl) rd_Md_topicByte_2 (ws' := wd_Md_topicByte cI a_t a_t_w a_t_wKept a_t_saved a_t_past a_t_input a_t_n a_t_order a_t_numbers a_t_output i_t_pastMany i_t_isSaved 0 i_t_inputMany i_t_lastError i_t_lastOffset i_t_error i_t_offset i_t_nextByte i_t_begin i_t_value i_t_token i_t_got i_t_orders i_t_outputMany i_t_w) rfl ?_
  refine jk_aload_n C rd_Md_topicByte_5 (k := 0) rfl ?_
  refine jk_iload_n C rd_Md_topicByte_6 (k := 1) rfl ?_
  obtain ⟨q7, hq7, hf⟩ := jk_bind_h hf
  refine jk_callVi C hZ.1 hz (ct_Md_noTopic l D Z sq hZ cI cR a_t a_t_w a_t_wKept a_t_saved a_t_past a_t_input a_t_n a_t_order a_t_numbers a_t_output i_t_pastMany i_t_isSaved 0 i_t_inputMany i_t_lastError i_t_lastOffset i_t_error i_t_offset i_t_nextByte i_t_begin i_t_value i_t_token i_t_got i_t_orders i_t_outputMany i_t_w x1 q7 hq7) tm_1751 tm_1753 sl_95 tm_15 tm_1754 na_Md_noTopic ⟨Nat.le_of_ble_eq_true rfl, Nat.le_of_ble_eq_true rfl⟩ rfl [0, 1] rfl rfl rfl (ws' := wd_Md_topicByte cI a_t a_t_w a_t_wKept a_t_saved a_t_past a_t_input a_t_n a_t_order a_t_numbers a_t_output i_t_pastMany i_t_isSaved q7.2 i_t_inputMany i_t_lastError i_t_lastOffset i_t_error i_t_offset i_t_nextByte i_t_begin i_t_value i_t_token i_t_got i_t_orders i_t_outputMany i_t_w) rfl 0 11 rfl rfl rfl (st := []) rfl (Nat.le_of_ble_eq_true rfl) rd_Md_topicByte_7 ?_ ⟨Nat.le_refl _, Nat.le_refl _⟩
  refine jk_if_eq (tgt := 15) C rd_Md_topicByte_10 (by decide) hf (fun _ hf => ?_) (fun _ hf => ?_)
  · refine jk_iload_n C rd_Md_topicByte_15 (k := 2) rfl ?_
    refine jk_iconst C rd_Md_topicByte_16 ?_
    refine jk_aload_n C rd_Md_topicByte_17 (k := 0) rfl ?_
    refine jk_iload_n C rd_Md_topicByte_18 (k := 1) rfl ?_
    refine jk_iconst C rd_Md_topicByte_19 ?_
    obtain ⟨q20, hq20, hf⟩ := jk_bind_h hf
    refine jk_callVi C hZ.1 hz (ct_Md_ofTopic l D Z sq hZ cI cR a_t a_t_w a_t_wKept a_t_saved a_t_past a_t_input a_t_n a_t_order a_t_numbers a_t_output i_t_pastMany i_t_isSaved q7.2 i_t_inputMany i_t_lastError i_t_lastOffset i_t_error i_t_offset i_t_nextByte i_t_begin i_t_value i_t_token i_t_got i_t_orders i_t_outputMany i_t_w x1 0 q20 hq20) tm_1759 tm_1761 sl_97 tm_15 tm_1762 na_Md_ofTopic ⟨Nat.le_of_ble_eq_true rfl, Nat.le_of_ble_eq_true rfl⟩ rfl [0, 1] rfl rfl rfl (ws' := wd_Md_topicByte cI a_t a_t_w a_t_wKept a_t_saved a_t_past a_t_input a_t_n a_t_order a_t_numbers a_t_output i_t_pastMany i_t_isSaved q7.2 i_t_inputMany i_t_lastError i_t_lastOffset i_t_error i_t_offset i_t_nextByte i_t_begin i_t_value i_t_token i_t_got i_t_orders i_t_outputMany i_t_w) rfl 0 11 rfl rfl rfl (st := [jk_V 0, jk_V x2]) rfl (Nat.le_of_ble_eq_true rfl) rd_Md_topicByte_20 ?_ ⟨Nat.le_refl _, Nat.le_refl _⟩
    refine jk_iconst C rd_Md_topicByte_23 ?_
    refine jk_isub C rd_Md_topicByte_24 ?_
    obtain ⟨q25, hq25, hf⟩ := jk_bind_h hf
    refine jk_callSi C hZ.1 hz (ct_Md_inRange l D Z sq hZ cI cR x2 0 (q20 - 1) q25 hq25) tm_1352 tm_1353 tm_15 tm_1354 na_Md_inRange ⟨Nat.le_of_ble_eq_true rfl, Nat.le_of_ble_eq_true rfl⟩ rfl [] rfl rfl rfl (ws' := wd_Md_topicByte cI a_t a_t_w a_t_wKept a_t_saved a_t_past a_t_input a_t_n a_t_order a_t_numbers a_t_output i_t_pastMany i_t_isSaved q7.2 i_t_inputMany i_t_lastError i_t_lastOffset i_t_error i_t_offset i_t_nextByte i_t_begin i_t_value i_t_token i_t_got i_t_orders i_t_outputMany i_t_w) rfl (st := []) rfl (Nat.le_of_ble_eq_true rfl) rd_Md_topicByte_25 ?_ ⟨Nat.le_refl _, Nat.le_refl _⟩
    refine jk_if_eq (tgt := 42) C rd_Md_topicByte_28 (by decide) hf (fun _ hf => ?_) (fun _ hf => ?_)
    · refine jk_iconst C rd_Md_topicByte_42 ?_
      cases hf
      exact jk_iret C rfl rd_Md_topicByte_43 rfl
    · refine jk_aload_n C rd_Md_topicByte_31 (k := 0) rfl ?_
      refine jk_iload_n C rd_Md_topicByte_32 (k := 1) rfl ?_
      refine jk_iconst C rd_Md_topicByte_33 ?_
      refine jk_iload_n C rd_Md_topicByte_34 (k := 2) rfl ?_
      refine jk_iadd C rd_Md_topicByte_35 ?_
      obtain ⟨q36, hq36, hf⟩ := jk_bind_h hf
      refine jk_callVi C hZ.1 hz (ct_Md_ofTopic l D Z sq hZ cI cR a_t a_t_w a_t_wKept a_t_saved a_t_past a_t_input a_t_n a_t_order a_t_numbers a_t_output i_t_pastMany i_t_isSaved q7.2 i_t_inputMany i_t_lastError i_t_lastOffset i_t_error i_t_offset i_t_nextByte i_t_begin i_t_value i_t_token i_t_got i_t_orders i_t_outputMany i_t_w x1 (1 + x2) q36 hq36) tm_1759 tm_1761 sl_97 tm_15 tm_1762 na_Md_ofTopic ⟨Nat.le_of_ble_eq_true rfl, Nat.le_of_ble_eq_true rfl⟩ rfl [0, 1] rfl rfl rfl (ws' := wd_Md_topicByte cI a_t a_t_w a_t_wKept a_t_saved a_t_past a_t_input a_t_n a_t_order a_t_numbers a_t_output i_t_pastMany i_t_isSaved q7.2 i_t_inputMany i_t_lastError i_t_lastOffset i_t_error i_t_offset i_t_nextByte i_t_begin i_t_value i_t_token i_t_got i_t_orders i_t_outputMany i_t_w) rfl 0 11 rfl rfl rfl (st := []) rfl (Nat.le_of_ble_eq_true rfl) rd_Md_topicByte_36 ?_ ⟨Nat.le_refl _, Nat.le_refl _⟩
      refine jk_goto (tgt := 43) C rd_Md_topicByte_39 (by decide) ?_
      cases hf
      exact jk_iret C rfl rd_Md_topicByte_43 rfl
  · refine jk_iconst C rd_Md_topicByte_13 ?_
    cases hf
    exact jk_iret C rfl rd_Md_topicByte_14 rfl
def wd_Md_knotsAt (cI : ClassId) (a_t a_t_w a_t_wKept a_t_saved a_t_past a_t_input a_t_n a_t_order a_t_numbers a_t_output : Nat) (i_t_pastMany : Int) (i_t_isSaved : Int) (i_t_thrown : Int) (i_t_inputMany : Int) (i_t_lastError : Int) (i_t_lastOffset : Int) (i_t_error : Int) (i_t_offset : Int) (i_t_nextByte : Int) (i_t_begin : Int) (i_t_value : Int) (i_t_token : Int) (i_t_got : Int) (i_t_orders : Int) (i_t_outputMany : Int) (i_t_w : (Int → Int)) : va_W := [(a_t, .inr (11, [.ref a_t_w, .ref a_t_wKept, .ref a_t_saved, .ref a_t_past, jk_V i_t_pastMany, jk_V i_t_isSaved, jk_V i_t_thrown, .ref a_t_input, jk_V i_t_inputMany, jk_V i_t_lastError, jk_V i_t_lastOffset, jk_V i_t_error, jk_V i_t_offset, jk_V i_t_nextByte, jk_V i_t_begin, jk_V i_t_value, jk_V i_t_token, jk_V i_t_got, .ref a_t_n, .ref a_t_order, .ref a_t_numbers, jk_V i_t_orders, .ref a_t_output, jk_V i_t_outputMany])), (a_t_w, jk_W cI 259 i_t_w)]
set_option maxHeartbeats 4000000 in
set_option maxRecDepth 20000 in
theorem ct_Md_knotsAt (l : Launch) (D : va_G) (Z : (Nat → Prop) → State → Heap → Prop) (sq : Nat → Nat) (hZ : jk_ZK Z sq) (cI cR : ClassId) (a_t a_t_w a_t_wKept a_t_saved a_t_past a_t_input a_t_n a_t_order a_t_numbers a_t_output : Nat) (i_t_pastMany : Int) (i_t_isSaved : Int) (i_t_thrown : Int) (i_t_inputMany : Int) (i_t_lastError : Int) (i_t_lastOffset : Int) (i_t_error : Int) (i_t_offset : Int) (i_t_nextByte : Int) (i_t_begin : Int) (i_t_value : Int) (i_t_token : Int) (i_t_got : Int) (i_t_orders : Int) (i_t_outputMany : Int) (i_t_w : (Int → Int)) (x1 : Int) (x2 : Int) (q : Int × Int) (hf : fn_Md_knotsAt i_t_w i_t_thrown x1 x2 = some q) : jk_MI l D jk_cl (jk_ty cI cR) Z mn_Md_knotsAt (.code mn_Md_knotsAt mb_Md_knotsAt 3 (some .int) :: jk_WA) (jk_rm 3 64) [.ref a_t, jk_V x1, jk_V x2] (wd_Md_knotsAt cI a_t a_t_w a_t_wKept a_t_saved a_t_past a_t_input a_t_n a_t_order a_t_numbers a_t_output i_t_pastMany i_t_isSaved i_t_thrown i_t_inputMany i_t_lastError i_t_lastOffset i_t_error i_t_offset i_t_nextByte i_t_begin i_t_value i_t_token i_t_got i_t_orders i_t_outputMany i_t_w) (wd_Md_knotsAt cI a_t a_t_w a_t_wKept a_t_saved a_t_past a_t_input a_t_n a_t_order a_t_numbers a_t_output i_t_pastMany i_t_isSaved q.2 i_t_inputMany i_t_lastError i_t_lastOffset i_t_error i_t_offset i_t_nextByte i_t_begin i_t_value i_t_token i_t_got i_t_orders i_t_outputMany i_t_w) q.1 := by
  intro sz
  refine jk_body (by decide +kernel) (fun p e s m args below meth c hsz hz hin C => ?_) (Nat.le_of_ble_eq_true rfl)
  subst hsz
  unfold fn_Md_knotsAt at hf
  have bk_28 : ∀ (t_thrown : Int) (v1 : Int) (v2 : Int) (s0 : Int), fn_Md_knotsAt_b28 i_t_w t_thrown v1 v2 s0 = some q → jk_J p l e (jk_rm 3 64) s m args below meth c 0 0 (jk_QI below D jk_cl (jk_ty cI cR) (wd_Md_knotsAt cI a_t a_t_w a_t_wKept a_t_saved a_t_past a_t_input a_t_n a_t_order a_t_numbers a_t_output i_t_pastMany i_t_isSaved i_t_thrown i_t_inputMany i_t_lastError i_t_lastOffset i_t_error i_t_offset i_t_nextByte i_t_begin i_t_value i_t_token i_t_got i_t_orders i_t_outputMany i_t_w) (wd_Md_knotsAt cI a_t a_t_w a_t_wKept a_t_saved a_t_past a_t_input a_t_n a_t_order a_t_numbers a_t_output i_t_pastMany i_t_isSaved q.2 i_t_inputMany i_t_lastError i_t_lastOffset i_t_error i_t_offset i_t_nextByte i_t_begin i_t_value i_t_token i_t_got i_t_orders i_t_outputMany i_t_w) args s q.1) D jk_cl (va_A (wd_Md_knotsAt cI a_t a_t_w a_t_wKept a_t_saved a_t_past a_t_input a_t_n a_t_order a_t_numbers a_t_output i_t_pastMany i_t_isSaved i_t_thrown i_t_inputMany i_t_lastError i_t_lastOffset i_t_error i_t_offset i_t_nextByte i_t_begin i_t_value i_t_token i_t_got i_t_orders i_t_outputMany i_t_w) s.heap.size) 3 (wd_Md_knotsAt cI a_t a_t_w a_t_wKept a_t_saved a_t_past a_t_input a_t_n a_t_order a_t_numbers a_t_output i_t_pastMany i_t_isSaved t_thrown i_t_inputMany i_t_lastError i_t_lastOffset i_t_error i_t_offset i_t_nextByte i_t_begin i_t_value i_t_token i_t_got i_t_orders i_t_outputMany i_t_w) [(0, .ref a_t), (1, jk_V v1), (2, jk_V v2)] 28 [jk_V s0, .ref a_t] := by
    intro t_thrown v1 v2 s0 hf
    unfold fn_Md_knotsAt_b28 at hf
    refine jk_iconst C rd_Md_knotsAt_28 ?_
    obtain ⟨q29, hq29, hf⟩ := jk_bind_h hf
    refine jk_callVi C hZ.1 hz (ct_Md_fails l D Z sq hZ cI cR a_t a_t_w a_t_wKept a_t_saved a_t_past a_t_input a_t_n a_t_order a_t_numbers a_t_output i_t_pastMany i_t_isSaved t_thrown i_t_inputMany i_t_lastError i_t_lastOffset i_t_error i_t_offset i_t_nextByte i_t_begin i_t_value i_t_token i_t_got i_t_orders i_t_outputMany s0 2 q29 hq29) tm_1643 tm_1645 sl_87 tm_15 tm_1646 na_Md_fails ⟨Nat.le_of_ble_eq_true rfl, Nat.le_of_ble_eq_true rfl⟩ rfl [0] rfl rfl rfl (ws' := wd_Md_knotsAt cI a_t a_t_w a_t_wKept a_t_saved a_t_past a_t_input a_t_n a_t_order a_t_numbers a_t_output i_t_pastMany i_t_isSaved q29.2 i_t_inputMany i_t_lastError i_t_lastOffset i_t_error i_t_offset i_t_nextByte i_t_begin i_t_value i_t_token i_t_got i_t_orders i_t_outputMany i_t_w) rfl 0 11 rfl rfl rfl (st := []) rfl (Nat.le_of_ble_eq_true rfl) rd_Md_knotsAt_29 ?_ ⟨Nat.le_refl _, Nat.le_refl _⟩
    refine jk_if_eq (tgt := 37) C rd_Md_knotsAt_32 (by decide) hf (fun _ hf => ?_) (fun _ hf => ?_)
    · refine jk_iload_n C rd_Md_knotsAt_37 (k := 2) rfl ?_
      refine jk_aload_n C rd_Md_knotsAt_38 (k := 0) rfl ?_
      refine jk_iload_n C rd_Md_knotsAt_39 (k := 1) rfl ?_
      refine jk_iconst C rd_Md_knotsAt_40 ?_
      obtain ⟨q41, hq41, hf⟩ := jk_bind_h hf
      refine jk_callVi C hZ.1 hz (ct_Md_of l D Z sq hZ cI cR a_t a_t_w a_t_wKept a_t_saved a_t_past a_t_input a_t_n a_t_order a_t_numbers a_t_output i_t_pastMany i_t_isSaved q29.2 i_t_inputMany i_t_lastError i_t_lastOffset i_t_error i_t_offset i_t_nextByte i_t_begin i_t_value i_t_token i_t_got i_t_orders i_t_outputMany i_t_w v1 4 q41 hq41) tm_1256 tm_1258 sl_26 tm_15 tm_1259 na_Md_of ⟨Nat.le_of_ble_eq_true rfl, Nat.le_of_ble_eq_true rfl⟩ rfl [0, 1] rfl rfl rfl (ws' := wd_Md_knotsAt cI a_t a_t_w a_t_wKept a_t_saved a_t_past a_t_input a_t_n a_t_order a_t_numbers a_t_output i_t_pastMany i_t_isSaved q29.2 i_t_inputMany i_t_lastError i_t_lastOffset i_t_error i_t_offset i_t_nextByte i_t_begin i_t_value i_t_token i_t_got i_t_orders i_t_outputMany i_t_w) rfl 0 11 rfl rfl rfl (st := [jk_V v2]) rfl (Nat.le_of_ble_eq_true rfl) rd_Md_knotsAt_41 ?_ ⟨Nat.le_refl _, Nat.le_refl _⟩
      refine jk_icmp_ge (tgt := 51) C rd_Md_knotsAt_44 (by decide) hf (fun _ hf => ?_) (fun _ hf => ?_)
      · refine jk_aload_n C rd_Md_knotsAt_51 (k := 0) rfl ?_
        refine jk_iload_n C rd_Md_knotsAt_52 (k := 1) rfl ?_
        refine jk_iload_n C rd_Md_knotsAt_53 (k := 2) rfl ?_
        obtain ⟨q54, hq54, hf⟩ := jk_bind_h hf
        refine jk_callVi C hZ.1 hz (ct_Md_knots l D Z sq hZ cI cR a_t a_t_w a_t_wKept a_t_saved a_t_past a_t_input a_t_n a_t_order a_t_numbers a_t_output i_t_pastMany i_t_isSaved q29.2 i_t_inputMany i_t_lastError i_t_lastOffset i_t_error i_t_offset i_t_nextByte i_t_begin i_t_value i_t_token i_t_got i_t_orders i_t_outputMany i_t_w v1 v2 q54 hq54) tm_1252 tm_1254 sl_25 tm_15 tm_1255 na_Md_knots ⟨Nat.le_of_ble_eq_true rfl, Nat.le_of_ble_eq_true rfl⟩ rfl [0, 1] rfl rfl rfl (ws' := wd_Md_knotsAt cI a_t a_t_w a_t_wKept a_t_saved a_t_past a_t_input a_t_n a_t_order a_t_numbers a_t_output i_t_pastMany i_t_isSaved q29.2 i_t_inputMany i_t_lastError i_t_lastOffset i_t_error i_t_offset i_t_nextByte i_t_begin i_t_value i_t_token i_t_got i_t_orders i_t_outputMany i_t_w) rfl 0 11 rfl rfl rfl (st := []) rfl (Nat.le_of_ble_eq_true rfl) rd_Md_knotsAt_54 ?_ ⟨Nat.le_refl _, Nat.le_refl _⟩
        cases hf
        exact jk_iret C rfl rd_Md_knotsAt_57 rfl
      · refine jk_iconst C rd_Md_knotsAt_47 ?_
        refine jk_goto (tgt := 57) C rd_Md_knotsAt_48 (by decide) ?_
        cases hf
        exact jk_iret C rfl rd_Md_knotsAt_57 rfl
    · refine jk_iconst C rd_Md_knotsAt_35 ?_
      cases hf
      exact jk_iret C rfl rd_Md_knotsAt_36 rfl
  refine jk_aload_n C rd_Md_knotsAt_0 (k := 0) rfl ?_
  refine jk_iconst C rd_Md_knotsAt_1 ?_
  refine jk_putf C in_Md ty_Md nm_Md (ci := 11) rfl 6 (by decide) tm_1269 rfl rfl rfl 0 rfl (Nat.le_of_ble_eq_true rfl) rd_Md_knotsAt_2 (ws' := wd_Md_knotsAt cI a_t a_t_w a_t_wKept a_t_saved a_t_past a_t_input a_t_n a_t_order a_t_numbers a_t_output i_t_pastMany i_t_isSaved 0 i_t_inputMany i_t_lastError i_t_lastOffset i_t_error i_t_offset i_t_nextByte i_t_begin i_t_value i_t_token i_t_got i_t_orders i_t_outputMany i_t_w) rfl ?_
  refine jk_aload_n C rd_Md_knotsAt_5 (k := 0) rfl ?_
  refine jk_iload_n C rd_Md_knotsAt_6 (k := 1) rfl ?_
  obtain ⟨q7, hq7, hf⟩ := jk_bind_h hf
  refine jk_callVi C hZ.1 hz (ct_Md_noCord l D Z sq hZ cI cR a_t a_t_w a_t_wKept a_t_saved a_t_past a_t_input a_t_n a_t_order a_t_numbers a_t_output i_t_pastMany i_t_isSaved 0 i_t_inputMany i_t_lastError i_t_lastOffset i_t_error i_t_offset i_t_nextByte i_t_begin i_t_value i_t_token i_t_got i_t_orders i_t_outputMany i_t_w x1 q7 hq7) tm_1639 tm_1641 sl_86 tm_15 tm_1642 na_Md_noCord ⟨Nat.le_of_ble_eq_true rfl, Nat.le_of_ble_eq_true rfl⟩ rfl [0, 1] rfl rfl rfl (ws' := wd_Md_knotsAt cI a_t a_t_w a_t_wKept a_t_saved a_t_past a_t_input a_t_n a_t_order a_t_numbers a_t_output i_t_pastMany i_t_isSaved q7.2 i_t_inputMany i_t_lastError i_t_lastOffset i_t_error i_t_offset i_t_nextByte i_t_begin i_t_value i_t_token i_t_got i_t_orders i_t_outputMany i_t_w) rfl 0 11 rfl rfl rfl (st := []) rfl (Nat.le_of_ble_eq_true rfl) rd_Md_knotsAt_7 ?_ ⟨Nat.le_refl _, Nat.le_refl _⟩
  refine jk_if_ne (tgt := 35) C rd_Md_knotsAt_10 (by decide) hf (fun _ hf => ?_) (fun _ hf => ?_)
  · refine jk_iconst C rd_Md_knotsAt_35 ?_
    cases hf
    exact jk_iret C rfl rd_Md_knotsAt_36 rfl
  · refine jk_aload_n C rd_Md_knotsAt_13 (k := 0) rfl ?_
    refine jk_iload_n C rd_Md_knotsAt_14 (k := 2) rfl ?_
    refine jk_iconst C rd_Md_knotsAt_15 ?_
    refine jk_iconst C rd_Md_knotsAt_16 ?_
    obtain ⟨q17, hq17, hf⟩ := jk_bind_h hf
    refine jk_callSi C hZ.1 hz (ct_Md_inRange l D Z sq hZ cI cR x2 0 3 q17 hq17) tm_1352 tm_1353 tm_15 tm_1354 na_Md_inRange ⟨Nat.le_of_ble_eq_true rfl, Nat.le_of_ble_eq_true rfl⟩ rfl [] rfl rfl rfl (ws' := wd_Md_knotsAt cI a_t a_t_w a_t_wKept a_t_saved a_t_past a_t_input a_t_n a_t_order a_t_numbers a_t_output i_t_pastMany i_t_isSaved q7.2 i_t_inputMany i_t_lastError i_t_lastOffset i_t_error i_t_offset i_t_nextByte i_t_begin i_t_value i_t_token i_t_got i_t_orders i_t_outputMany i_t_w) rfl (st := [.ref a_t]) rfl (Nat.le_of_ble_eq_true rfl) rd_Md_knotsAt_17 ?_ ⟨Nat.le_refl _, Nat.le_refl _⟩
    refine jk_if_ne (tgt := 27) C rd_Md_knotsAt_20 (by decide) hf (fun _ hf => ?_) (fun _ hf => ?_)
    · refine jk_iconst C rd_Md_knotsAt_27 ?_
      refine jk_lv (lv' := [(0, .ref a_t), (1, jk_V x1), (2, jk_V x2)]) [0, 1, 2] rfl ?_
      exact bk_28 q7.2 x1 x2 0 hf
    · refine jk_iconst C rd_Md_knotsAt_23 ?_
      refine jk_goto (tgt := 28) C rd_Md_knotsAt_24 (by decide) ?_
      refine jk_lv (lv' := [(0, .ref a_t), (1, jk_V x1), (2, jk_V x2)]) [0, 1, 2] rfl ?_
      exact bk_28 q7.2 x1 x2 1 hf
def wd_Md_isComplete (cI : ClassId) (a_t a_t_w a_t_wKept a_t_saved a_t_past a_t_input a_t_n a_t_order a_t_numbers a_t_output : Nat) (i_t_pastMany : Int) (i_t_isSaved : Int) (i_t_thrown : Int) (i_t_inputMany : Int) (i_t_lastError : Int) (i_t_lastOffset : Int) (i_t_error : Int) (i_t_offset : Int) (i_t_nextByte : Int) (i_t_begin : Int) (i_t_value : Int) (i_t_token : Int) (i_t_got : Int) (i_t_orders : Int) (i_t_outputMany : Int) (i_t_w : (Int → Int)) : va_W := [(a_t, .inr (11, [.ref a_t_w, .ref a_t_wKept, .ref a_t_saved, .ref a_t_past, jk_V i_t_pastMany, jk_V i_t_isSaved, jk_V i_t_thrown, .ref a_t_input, jk_V i_t_inputMany, jk_V i_t_lastError, jk_V i_t_lastOffset, jk_V i_t_error, jk_V i_t_offset, jk_V i_t_nextByte, jk_V i_t_begin, jk_V i_t_value, jk_V i_t_token, jk_V i_t_got, .ref a_t_n, .ref a_t_order, .ref a_t_numbers, jk_V i_t_orders, .ref a_t_output, jk_V i_t_outputMany])), (a_t_w, jk_W cI 259 i_t_w)]
set_option maxHeartbeats 4000000 in
set_option maxRecDepth 20000 in
theorem ct_Md_isComplete (l : Launch) (D : va_G) (Z : (Nat → Prop) → State → Heap → Prop) (sq : Nat → Nat) (hZ : jk_ZK Z sq) (cI cR : ClassId) (a_t a_t_w a_t_wKept a_t_saved a_t_past a_t_input a_t_n a_t_order a_t_numbers a_t_output : Nat) (i_t_pastMany : Int) (i_t_isSaved : Int) (i_t_thrown : Int) (i_t_inputMany : Int) (i_t_lastError : Int) (i_t_lastOffset : Int) (i_t_error : Int) (i_t_offset : Int) (i_t_nextByte : Int) (i_t_begin : Int) (i_t_value : Int) (i_t_token : Int) (i_t_got : Int) (i_t_orders : Int) (i_t_outputMany : Int) (i_t_w : (Int → Int)) (x1 : Int) (q : Int × Int) (hf : fn_Md_isComplete i_t_w i_t_thrown x1 = some q) : jk_MI l D jk_cl (jk_ty cI cR) Z mn_Md_isComplete (.code mn_Md_isComplete mb_Md_isComplete 2 (some .boolean) :: jk_WA) (jk_rm 4 87) [.ref a_t, jk_V x1] (wd_Md_isComplete cI a_t a_t_w a_t_wKept a_t_saved a_t_past a_t_input a_t_n a_t_order a_t_numbers a_t_output i_t_pastMany i_t_isSaved i_t_thrown i_t_inputMany i_t_lastError i_t_lastOffset i_t_error i_t_offset i_t_nextByte i_t_begin i_t_value i_t_token i_t_got i_t_orders i_t_outputMany i_t_w) (wd_Md_isComplete cI a_t a_t_w a_t_wKept a_t_saved a_t_past a_t_input a_t_n a_t_order a_t_numbers a_t_output i_t_pastMany i_t_isSaved q.2 i_t_inputMany i_t_lastError i_t_lastOffset i_t_error i_t_offset i_t_nextByte i_t_begin i_t_value i_t_token i_t_got i_t_orders i_t_outputMany i_t_w) q.1 := by
  intro sz
  refine jk_body (by decide +kernel) (fun p e s m args below meth c hsz hz hin C => ?_) (Nat.le_of_ble_eq_true rfl)
  subst hsz
  unfold fn_Md_isComplete at hf
  refine jk_aload_n C rd_Md_isComplete_0 (k := 0) rfl ?_
  refine jk_iconst C rd_Md_isComplete_1 ?_
  refine jk_putf C in_Md ty_Md nm_Md (ci := 11) rfl 6 (by decide) tm_1269 rfl rfl rfl 0 rfl (Nat.le_of_ble_eq_true rfl) rd_Md_isComplete_2 (ws' := wd_Md_isComplete cI a_t a_t_w a_t_wKept a_t_saved a_t_past a_t_input a_t_n a_t_order a_t_numbers a_t_output i_t_pastMany i_t_isSaved 0 i_t_inputMany i_t_lastError i_t_lastOffset i_t_error i_t_offset i_t_nextByte i_t_begin i_t_value i_t_token i_t_got i_t_orders i_t_outputMany i_t_w) rfl ?_
  refine jk_aload_n C rd_Md_isComplete_5 (k := 0) rfl ?_
  refine jk_iload_n C rd_Md_isComplete_6 (k := 1) rfl ?_
  obtain ⟨q7, hq7, hf⟩ := jk_bind_h hf
  refine jk_callVi C hZ.1 hz (ct_Md_noCord l D Z sq hZ cI cR a_t a_t_w a_t_wKept a_t_saved a_t_past a_t_input a_t_n a_t_order a_t_numbers a_t_output i_t_pastMany i_t_isSaved 0 i_t_inputMany i_t_lastError i_t_lastOffset i_t_error i_t_offset i_t_nextByte i_t_begin i_t_value i_t_token i_t_got i_t_orders i_t_outputMany i_t_w x1 q7 hq7) tm_1639 tm_1641 sl_86 tm_15 tm_1642 na_Md_noCord ⟨Nat.le_of_ble_eq_true rfl, Nat.le_of_ble_eq_true rfl⟩ rfl [0, 1] rfl rfl rfl (ws' := wd_Md_isComplete cI a_t a_t_w a_t_wKept a_t_saved a_t_past a_t_input a_t_n a_t_order a_t_numbers a_t_output i_t_pastMany i_t_isSaved q7.2 i_t_inputMany i_t_lastError i_t_lastOffset i_t_error i_t_offset i_t_nextByte i_t_begin i_t_value i_t_token i_t_got i_t_orders i_t_outputMany i_t_w) rfl 0 11 rfl rfl rfl (st := []) rfl (Nat.le_of_ble_eq_true rfl) rd_Md_isComplete_7 ?_ ⟨Nat.le_refl _, Nat.le_refl _⟩
  refine jk_if_ne (tgt := 25) C rd_Md_isComplete_10 (by decide) hf (fun _ hf => ?_) (fun _ hf => ?_)
  · refine jk_iconst C rd_Md_isComplete_25 ?_
    cases hf
    exact jk_zret C (Or.inl rfl) rfl rd_Md_isComplete_26 rfl
  · refine jk_aload_n C rd_Md_isComplete_13 (k := 0) rfl ?_
    refine jk_iload_n C rd_Md_isComplete_14 (k := 1) rfl ?_
    obtain ⟨q15, hq15, hf⟩ := jk_bind_h hf
    refine jk_callVi C hZ.1 hz (ct_Md_isWhole l D Z sq hZ cI cR a_t a_t_w a_t_wKept a_t_saved a_t_past a_t_input a_t_n a_t_order a_t_numbers a_t_output i_t_pastMany i_t_isSaved q7.2 i_t_inputMany i_t_lastError i_t_lastOffset i_t_error i_t_offset i_t_nextByte i_t_begin i_t_value i_t_token i_t_got i_t_orders i_t_outputMany i_t_w x1 q15 hq15) tm_1771 tm_1773 sl_98 tm_15 tm_1774 na_Md_isWhole ⟨Nat.le_of_ble_eq_true rfl, Nat.le_of_ble_eq_true rfl⟩ rfl [0, 1] rfl rfl rfl (ws' := wd_Md_isComplete cI a_t a_t_w a_t_wKept a_t_saved a_t_past a_t_input a_t_n a_t_order a_t_numbers a_t_output i_t_pastMany i_t_isSaved q7.2 i_t_inputMany i_t_lastError i_t_lastOffset i_t_error i_t_offset i_t_nextByte i_t_begin i_t_value i_t_token i_t_got i_t_orders i_t_outputMany i_t_w) rfl 0 11 rfl rfl rfl (st := []) rfl (Nat.le_of_ble_eq_true rfl) rd_Md_isComplete_15 ?_ ⟨Nat.le_refl _, Nat.le_refl _⟩
    refine jk_if_eq (tgt := 25) C rd_Md_isComplete_18 (by decide) hf (fun _ hf => ?_) (fun _ hf => ?_)
    · refine jk_iconst C rd_Md_isComplete_25 ?_
      cases hf
      exact jk_zret C (Or.inl rfl) rfl rd_Md_isComplete_26 rfl
    · refine jk_iconst C rd_Md_isComplete_21 ?_
      refine jk_goto (tgt := 26) C rd_Md_isComplete_22 (by decide) ?_
      cases hf
      exact jk_zret C (Or.inr rfl) rfl rd_Md_isComplete_26 rfl
def wd_Md_totalOf (cI : ClassId) (a_t a_t_w a_t_wKept a_t_saved a_t_past a_t_input a_t_n a_t_order a_t_numbers a_t_output : Nat) (i_t_pastMany : Int) (i_t_isSaved : Int) (i_t_thrown : Int) (i_t_inputMany : Int) (i_t_lastError : Int) (i_t_lastOffset : Int) (i_t_error : Int) (i_t_offset : Int) (i_t_nextByte : Int) (i_t_begin : Int) (i_t_value : Int) (i_t_token : Int) (i_t_got : Int) (i_t_orders : Int) (i_t_outputMany : Int) (i_t_w : (Int → Int)) : va_W := [(a_t, .inr (11, [.ref a_t_w, .ref a_t_wKept, .ref a_t_saved, .ref a_t_past, jk_V i_t_pastMany, jk_V i_t_isSaved, jk_V i_t_thrown, .ref a_t_input, jk_V i_t_inputMany, jk_V i_t_lastError, jk_V i_t_lastOffset, jk_V i_t_error, jk_V i_t_offset, jk_V i_t_nextByte, jk_V i_t_begin, jk_V i_t_value, jk_V i_t_token, jk_V i_t_got, .ref a_t_n, .ref a_t_order, .ref a_t_numbers, jk_V i_t_orders, .ref a_t_output, jk_V i_t_outputMany])), (a_t_w, jk_W cI 259 i_t_w)]
set_option maxHeartbeats 4000000 in
set_option maxRecDepth 20000 in
theorem ct_Md_totalOf (l : Launch) (D : va_G) (Z : (Nat → Prop) → State → Heap → Prop) (sq : Nat → Nat) (hZ : jk_ZK Z sq) (cI cR : ClassId) (a_t a_t_w a_t_wKept a_t_saved a_t_past a_t_input a_t_n a_t_order a_t_numbers a_t_output : Nat) (i_t_pastMany : Int) (i_t_isSaved : Int) (i_t_thrown : Int) (i_t_inputMany : Int) (i_t_lastError : Int) (i_t_lastOffset : Int) (i_t_error : Int) (i_t_offset : Int) (i_t_nextByte : Int) (i_t_begin : Int) (i_t_value : Int) (i_t_token : Int) (i_t_got : Int) (i_t_orders : Int) (i_t_outputMany : Int) (i_t_w : (Int → Int)) (x1 : Int) (q : Int × Int) (hf : fn_Md_totalOf i_t_w i_t_thrown x1 = some q) : jk_MI l D jk_cl (jk_ty cI cR) Z mn_Md_totalOf (.code mn_Md_totalOf mb_Md_totalOf 2 (some .int) :: jk_WA) (jk_rm 4 87) [.ref a_t, jk_V x1] (wd_Md_totalOf cI a_t a_t_w a_t_wKept a_t_saved a_t_past a_t_input a_t_n a_t_order a_t_numbers a_t_output i_t_pastMany i_t_isSaved i_t_thrown i_t_inputMany i_t_lastError i_t_lastOffset i_t_error i_t_offset i_t_nextByte i_t_begin i_t_value i_t_token i_t_got i_t_orders i_t_outputMany i_t_w) (wd_Md_totalOf cI a_t a_t_w a_t_wKept a_t_saved a_t_past a_t_input a_t_n a_t_order a_t_numbers a_t_output i_t_pastMany i_t_isSaved q.2 i_t_inputMany i_t_lastError i_t_lastOffset i_t_error i_t_offset i_t_nextByte i_t_begin i_t_value i_t_token i_t_got i_t_orders i_t_outputMany i_t_w) q.1 := by
  intro sz
  refine jk_body (by decide +kernel) (fun p e s m args below meth c hsz hz hin C => ?_) (Nat.le_of_ble_eq_true rfl)
  subst hsz
  unfold fn_Md_totalOf at hf
  refine jk_aload_n C rd_Md_totalOf_0 (k := 0) rfl ?_
  refine jk_iconst C rd_Md_totalOf_1 ?_
  refine jk_putf C in_Md ty_Md nm_Md (ci := 11) rfl 6 (by decide) tm_1269 rfl rfl rfl 0 rfl (Nat.le_of_ble_eq_true rfl) rd_Md_totalOf_2 (ws' := wd_Md_totalOf cI a_t a_t_w a_t_wKept a_t_saved a_t_past a_t_input a_t_n a_t_order a_t_numbers a_t_output i_t_pastMany i_t_isSaved 0 i_t_inputMany i_t_lastError i_t_lastOffset i_t_error i_t_offset i_t_nextByte i_t_begin i_t_value i_t_token i_t_got i_t_orders i_t_outputMany i_t_w) rfl ?_
  refine jk_aload_n C rd_Md_totalOf_5 (k := 0) rfl ?_
  refine jk_iload_n C rd_Md_totalOf_6 (k := 1) rfl ?_
  obtain ⟨q7, hq7, hf⟩ := jk_bind_h hf
  refine jk_callVi C hZ.1 hz (ct_Md_noCord l D Z sq hZ cI cR a_t a_t_w a_t_wKept a_t_saved a_t_past a_t_input a_t_n a_t_order a_t_numbers a_t_output i_t_pastMany i_t_isSaved 0 i_t_inputMany i_t_lastError i_t_lastOffset i_t_error i_t_offset i_t_nextByte i_t_begin i_t_value i_t_token i_t_got i_t_orders i_t_outputMany i_t_w x1 q7 hq7) tm_1639 tm_1641 sl_86 tm_15 tm_1642 na_Md_noCord ⟨Nat.le_of_ble_eq_true rfl, Nat.le_of_ble_eq_true rfl⟩ rfl [0, 1] rfl rfl rfl (ws' := wd_Md_totalOf cI a_t a_t_w a_t_wKept a_t_saved a_t_past a_t_input a_t_n a_t_order a_t_numbers a_t_output i_t_pastMany i_t_isSaved q7.2 i_t_inputMany i_t_lastError i_t_lastOffset i_t_error i_t_offset i_t_nextByte i_t_begin i_t_value i_t_token i_t_got i_t_orders i_t_outputMany i_t_w) rfl 0 11 rfl rfl rfl (st := []) rfl (Nat.le_of_ble_eq_true rfl) rd_Md_totalOf_7 ?_ ⟨Nat.le_refl _, Nat.le_refl _⟩
  refine jk_if_ne (tgt := 34) C rd_Md_totalOf_10 (by decide) hf (fun _ hf => ?_) (fun _ hf => ?_)
  · refine jk_iconst C rd_Md_totalOf_34 ?_
    cases hf
    exact jk_iret C rfl rd_Md_totalOf_35 rfl
  · refine jk_aload_n C rd_Md_totalOf_13 (k := 0) rfl ?_
    refine jk_aload_n C rd_Md_totalOf_14 (k := 0) rfl ?_
    refine jk_iload_n C rd_Md_totalOf_15 (k := 1) rfl ?_
    obtain ⟨q16, hq16, hf⟩ := jk_bind_h hf
    refine jk_callVi C hZ.1 hz (ct_Md_isWhole l D Z sq hZ cI cR a_t a_t_w a_t_wKept a_t_saved a_t_past a_t_input a_t_n a_t_order a_t_numbers a_t_output i_t_pastMany i_t_isSaved q7.2 i_t_inputMany i_t_lastError i_t_lastOffset i_t_error i_t_offset i_t_nextByte i_t_begin i_t_value i_t_token i_t_got i_t_orders i_t_outputMany i_t_w x1 q16 hq16) tm_1771 tm_1773 sl_98 tm_15 tm_1774 na_Md_isWhole ⟨Nat.le_of_ble_eq_true rfl, Nat.le_of_ble_eq_true rfl⟩ rfl [0, 1] rfl rfl rfl (ws' := wd_Md_totalOf cI a_t a_t_w a_t_wKept a_t_saved a_t_past a_t_input a_t_n a_t_order a_t_numbers a_t_output i_t_pastMany i_t_isSaved q7.2 i_t_inputMany i_t_lastError i_t_lastOffset i_t_error i_t_offset i_t_nextByte i_t_begin i_t_value i_t_token i_t_got i_t_orders i_t_outputMany i_t_w) rfl 0 11 rfl rfl rfl (st := [.ref a_t]) rfl (Nat.le_of_ble_eq_true rfl) rd_Md_totalOf_16 ?_ ⟨Nat.le_refl _, Nat.le_refl _⟩
    refine jk_if_ne (tgt := 26) C rd_Md_totalOf_19 (by decide) hf (fun _ hf => ?_) (fun _ hf => ?_)
    · refine jk_iconst C rd_Md_totalOf_26 ?_
      refine jk_iconst C rd_Md_totalOf_27 ?_
      obtain ⟨q28, hq28, hf⟩ := jk_bind_h hf
      refine jk_callVi C hZ.1 hz (ct_Md_fails l D Z sq hZ cI cR a_t a_t_w a_t_wKept a_t_saved a_t_past a_t_input a_t_n a_t_order a_t_numbers a_t_output i_t_pastMany i_t_isSaved q7.2 i_t_inputMany i_t_lastError i_t_lastOffset i_t_error i_t_offset i_t_nextByte i_t_begin i_t_value i_t_token i_t_got i_t_orders i_t_outputMany 0 2 q28 hq28) tm_1643 tm_1645 sl_87 tm_15 tm_1646 na_Md_fails ⟨Nat.le_of_ble_eq_true rfl, Nat.le_of_ble_eq_true rfl⟩ rfl [0] rfl rfl rfl (ws' := wd_Md_totalOf cI a_t a_t_w a_t_wKept a_t_saved a_t_past a_t_input a_t_n a_t_order a_t_numbers a_t_output i_t_pastMany i_t_isSaved q28.2 i_t_inputMany i_t_lastError i_t_lastOffset i_t_error i_t_offset i_t_nextByte i_t_begin i_t_value i_t_token i_t_got i_t_orders i_t_outputMany i_t_w) rfl 0 11 rfl rfl rfl (st := []) rfl (Nat.le_of_ble_eq_true rfl) rd_Md_totalOf_28 ?_ ⟨Nat.le_refl _, Nat.le_refl _⟩
      refine jk_if_eq (tgt := 36) C rd_Md_totalOf_31 (by decide) hf (fun _ hf => ?_) (fun _ hf => ?_)
      · refine jk_aload_n C rd_Md_totalOf_36 (k := 0) rfl ?_
        refine jk_iload_n C rd_Md_totalOf_37 (k := 1) rfl ?_
        obtain ⟨q38, hq38, hf⟩ := jk_bind_h hf
        refine jk_callVi C hZ.1 hz (ct_Md_lowest l D Z sq hZ cI cR a_t a_t_w a_t_wKept a_t_saved a_t_past a_t_input a_t_n a_t_order a_t_numbers a_t_output i_t_pastMany i_t_isSaved q28.2 i_t_inputMany i_t_lastError i_t_lastOffset i_t_error i_t_offset i_t_nextByte i_t_begin i_t_value i_t_token i_t_got i_t_orders i_t_outputMany i_t_w x1 q38 hq38) tm_1683 tm_1685 sl_90 tm_15 tm_1686 na_Md_lowest ⟨Nat.le_of_ble_eq_true rfl, Nat.le_of_ble_eq_true rfl⟩ rfl [0, 1] rfl rfl rfl (ws' := wd_Md_totalOf cI a_t a_t_w a_t_wKept a_t_saved a_t_past a_t_input a_t_n a_t_order a_t_numbers a_t_output i_t_pastMany i_t_isSaved q28.2 i_t_inputMany i_t_lastError i_t_lastOffset i_t_error i_t_offset i_t_nextByte i_t_begin i_t_value i_t_token i_t_got i_t_orders i_t_outputMany i_t_w) rfl 0 11 rfl rfl rfl (st := []) rfl (Nat.le_of_ble_eq_true rfl) rd_Md_totalOf_38 ?_ ⟨Nat.le_refl _, Nat.le_refl _⟩
        cases hf
        exact jk_iret C rfl rd_Md_totalOf_41 rfl
      · refine jk_iconst C rd_Md_totalOf_34 ?_
        cases hf
        exact jk_iret C rfl rd_Md_totalOf_35 rfl
    · refine jk_iconst C rd_Md_totalOf_22 ?_
      refine jk_goto (tgt := 27) C rd_Md_totalOf_23 (by decide) ?_
      refine jk_iconst C rd_Md_totalOf_27 ?_
      obtain ⟨q28, hq28, hf⟩ := jk_bind_h hf
      refine jk_callVi C hZ.1 hz (ct_Md_fails l D Z sq hZ cI cR a_t a_t_w a_t_wKept a_t_saved a_t_past a_t_input a_t_n a_t_order a_t_numbers a_t_output i_t_pastMany i_t_isSaved q7.2 i_t_inputMany i_t_lastError i_t_lastOffset i_t_error i_t_offset i_t_nextByte i_t_begin i_t_value i_t_token i_t_got i_t_orders i_t_outputMany 1 2 q28 hq28) tm_1643 tm_1645 sl_87 tm_15 tm_1646 na_Md_fails ⟨Nat.le_of_ble_eq_true rfl, Nat.le_of_ble_eq_true rfl⟩ rfl [0] rfl rfl rfl (ws' := wd_Md_totalOf cI a_t a_t_w a_t_wKept a_t_saved a_t_past a_t_input a_t_n a_t_order a_t_numbers a_t_output i_t_pastMany i_t_isSaved q28.2 i_t_inputMany i_t_lastError i_t_lastOffset i_t_error i_t_offset i_t_nextByte i_t_begin i_t_value i_t_token i_t_got i_t_orders i_t_outputMany i_t_w) rfl 0 11 rfl rfl rfl (st := []) rfl (Nat.le_of_ble_eq_true rfl) rd_Md_totalOf_28 ?_ ⟨Nat.le_refl _, Nat.le_refl _⟩
      refine jk_if_eq (tgt := 36) C rd_Md_totalOf_31 (by decide) hf (fun _ hf => ?_) (fun _ hf => ?_)
      · refine jk_aload_n C rd_Md_totalOf_36 (k := 0) rfl ?_
        refine jk_iload_n C rd_Md_totalOf_37 (k := 1) rfl ?_
        obtain ⟨q38, hq38, hf⟩ := jk_bind_h hf
        refine jk_callVi C hZ.1 hz (ct_Md_lowest l D Z sq hZ cI cR a_t a_t_w a_t_wKept a_t_saved a_t_past a_t_input a_t_n a_t_order a_t_numbers a_t_output i_t_pastMany i_t_isSaved q28.2 i_t_inputMany i_t_lastError i_t_lastOffset i_t_error i_t_offset i_t_nextByte i_t_begin i_t_value i_t_token i_t_got i_t_orders i_t_outputMany i_t_w x1 q38 hq38) tm_1683 tm_1685 sl_90 tm_15 tm_1686 na_Md_lowest ⟨Nat.le_of_ble_eq_true rfl, Nat.le_of_ble_eq_true rfl⟩ rfl [0, 1] rfl rfl rfl (ws' := wd_Md_totalOf cI a_t a_t_w a_t_wKept a_t_saved a_t_past a_t_input a_t_n a_t_order a_t_numbers a_t_output i_t_pastMany i_t_isSaved q28.2 i_t_inputMany i_t_lastError i_t_lastOffset i_t_error i_t_offset i_t_nextByte i_t_begin i_t_value i_t_token i_t_got i_t_orders i_t_outputMany i_t_w) rfl 0 11 rfl rfl rfl (st := []) rfl (Nat.le_of_ble_eq_true rfl) rd_Md_totalOf_38 ?_ ⟨Nat.le_refl _, Nat.le_refl _⟩
        cases hf
        exact jk_iret C rfl rd_Md_totalOf_41 rfl
      · refine jk_iconst C rd_Md_totalOf_34 ?_
        cases hf
        exact jk_iret C rfl rd_Md_totalOf_35 rfl
def wd_Md_sumOf (cI : ClassId) (a_t a_t_w a_t_wKept a_t_saved a_t_past a_t_input a_t_n a_t_order a_t_numbers a_t_output : Nat) (i_t_pastMany : Int) (i_t_isSaved : Int) (i_t_thrown : Int) (i_t_inputMany : Int) (i_t_lastError : Int) (i_t_lastOffset : Int) (i_t_error : Int) (i_t_offset : Int) (i_t_nextByte : Int) (i_t_begin : Int) (i_t_value : Int) (i_t_token : Int) (i_t_got : Int) (i_t_orders : Int) (i_t_outputMany : Int) (i_t_w : (Int → Int)) : va_W := [(a_t, .inr (11, [.ref a_t_w, .ref a_t_wKept, .ref a_t_saved, .ref a_t_past, jk_V i_t_pastMany, jk_V i_t_isSaved, jk_V i_t_thrown, .ref a_t_input, jk_V i_t_inputMany, jk_V i_t_lastError, jk_V i_t_lastOffset, jk_V i_t_error, jk_V i_t_offset, jk_V i_t_nextByte, jk_V i_t_begin, jk_V i_t_value, jk_V i_t_token, jk_V i_t_got, .ref a_t_n, .ref a_t_order, .ref a_t_numbers, jk_V i_t_orders, .ref a_t_output, jk_V i_t_outputMany])), (a_t_w, jk_W cI 259 i_t_w)]
set_option maxHeartbeats 4000000 in
set_option maxRecDepth 20000 in
theorem ct_Md_sumOf (l : Launch) (D : va_G) (Z : (Nat → Prop) → State → Heap → Prop) (sq : Nat → Nat) (hZ : jk_ZK Z sq) (cI cR : ClassId) (a_t a_t_w a_t_wKept a_t_saved a_t_past a_t_input a_t_n a_t_order a_t_numbers a_t_output : Nat) (i_t_pastMany : Int) (i_t_isSaved : Int) (i_t_thrown : Int) (i_t_inputMany : Int) (i_t_lastError : Int) (i_t_lastOffset : Int) (i_t_error : Int) (i_t_offset : Int) (i_t_nextByte : Int) (i_t_begin : Int) (i_t_value : Int) (i_t_token : Int) (i_t_got : Int) (i_t_orders : Int) (i_t_outputMany : Int) (i_t_w : (Int → Int)) (x1 : Int) (q : Int × Int) (hf : fn_Md_sumOf i_t_w i_t_thrown x1 = some q) : jk_MI l D jk_cl (jk_ty cI cR) Z mn_Md_sumOf (.code mn_Md_sumOf mb_Md_sumOf 2 (some .int) :: jk_WA) (jk_rm 6 131) [.ref a_t, jk_V x1] (wd_Md_sumOf cI a_t a_t_w a_t_wKept a_t_saved a_t_past a_t_input a_t_n a_t_order a_t_numbers a_t_output i_t_pastMany i_t_isSaved i_t_thrown i_t_inputMany i_t_lastError i_t_lastOffset i_t_error i_t_offset i_t_nextByte i_t_begin i_t_value i_t_token i_t_got i_t_orders i_t_outputMany i_t_w) (wd_Md_sumOf cI a_t a_t_w a_t_wKept a_t_saved a_t_past a_t_input a_t_n a_t_order a_t_numbers a_t_output i_t_pastMany i_t_isSaved q.2 i_t_inputMany i_t_lastError i_t_lastOffset i_t_error i_t_offset i_t_nextByte i_t_begin i_t_value i_t_token i_t_got i_t_orders i_t_outputMany i_t_w) q.1 := by
  intro sz
  refine jk_body (by decide +kernel) (fun p e s m args below meth c hsz hz hin C => ?_) (Nat.le_of_ble_eq_true rfl)
  subst hsz
  unfold fn_Md_sumOf at hf
  refine jk_aload_n C rd_Md_sumOf_0 (k := 0) rfl ?_
  refine jk_iconst C rd_Md_sumOf_1 ?_
  refine jk_putf C in_Md ty_Md nm_Md (ci := 11) rfl 6 (by decide) tm_1269 rfl rfl rfl 0 rfl (Nat.le_of_ble_eq_true rfl) rd_Md_sumOf_2 (ws' := wd_Md_sumOf cI a_t a_t_w a_t_wKept a_t_saved a_t_past a_t_input a_t_n a_t_order a_t_numbers a_t_output i_t_pastMany i_t_isSaved 0 i_t_inputMany i_t_lastError i_t_lastOffset i_t_error i_t_offset i_t_nextByte i_t_begin i_t_value i_t_token i_t_got i_t_orders i_t_outputMany i_t_w) rfl ?_
  refine jk_aload_n C rd_Md_sumOf_5 (k := 0) rfl ?_
  refine jk_iload_n C rd_Md_sumOf_6 (k := 1) rfl ?_
  obtain ⟨q7, hq7, hf⟩ := jk_bind_h hf
  refine jk_callVi C hZ.1 hz (ct_Md_noCluster l D Z sq hZ cI cR a_t a_t_w a_t_wKept a_t_saved a_t_past a_t_input a_t_n a_t_order a_t_numbers a_t_output i_t_pastMany i_t_isSaved 0 i_t_inputMany i_t_lastError i_t_lastOffset i_t_error i_t_offset i_t_nextByte i_t_begin i_t_value i_t_token i_t_got i_t_orders i_t_outputMany i_t_w x1 q7 hq7) tm_1699 tm_1701 sl_92 tm_15 tm_1702 na_Md_noCluster ⟨Nat.le_of_ble_eq_true rfl, Nat.le_of_ble_eq_true rfl⟩ rfl [0, 1] rfl rfl rfl (ws' := wd_Md_sumOf cI a_t a_t_w a_t_wKept a_t_saved a_t_past a_t_input a_t_n a_t_order a_t_numbers a_t_output i_t_pastMany i_t_isSaved q7.2 i_t_inputMany i_t_lastError i_t_lastOffset i_t_error i_t_offset i_t_nextByte i_t_begin i_t_value i_t_token i_t_got i_t_orders i_t_outputMany i_t_w) rfl 0 11 rfl rfl rfl (st := []) rfl (Nat.le_of_ble_eq_true rfl) rd_Md_sumOf_7 ?_ ⟨Nat.le_refl _, Nat.le_refl _⟩
  refine jk_if_ne (tgt := 43) C rd_Md_sumOf_10 (by decide) hf (fun _ hf => ?_) (fun _ hf => ?_)
  · refine jk_iconst C rd_Md_sumOf_43 ?_
    cases hf
    exact jk_iret C rfl rd_Md_sumOf_44 rfl
  · refine jk_aload_n C rd_Md_sumOf_13 (k := 0) rfl ?_
    refine jk_aload_n C rd_Md_sumOf_14 (k := 0) rfl ?_
    refine jk_aload_n C rd_Md_sumOf_15 (k := 0) rfl ?_
    refine jk_iload_n C rd_Md_sumOf_16 (k := 1) rfl ?_
    obtain ⟨q17, hq17, hf⟩ := jk_bind_h hf
    refine jk_callVi C hZ.1 hz (ct_Md_pendantsFrom l D Z sq hZ cI cR a_t a_t_w a_t_wKept a_t_saved a_t_past a_t_input a_t_n a_t_order a_t_numbers a_t_output i_t_pastMany i_t_isSaved q7.2 i_t_inputMany i_t_lastError i_t_lastOffset i_t_error i_t_offset i_t_nextByte i_t_begin i_t_value i_t_token i_t_got i_t_orders i_t_outputMany i_t_w x1 q17 hq17) tm_1575 tm_1577 sl_76 tm_15 tm_1578 na_Md_pendantsFrom ⟨Nat.le_of_ble_eq_true rfl, Nat.le_of_ble_eq_true rfl⟩ rfl [0, 1] rfl rfl rfl (ws' := wd_Md_sumOf cI a_t a_t_w a_t_wKept a_t_saved a_t_past a_t_input a_t_n a_t_order a_t_numbers a_t_output i_t_pastMany i_t_isSaved q7.2 i_t_inputMany i_t_lastError i_t_lastOffset i_t_error i_t_offset i_t_nextByte i_t_begin i_t_value i_t_token i_t_got i_t_orders i_t_outputMany i_t_w) rfl 0 11 rfl rfl rfl (st := [.ref a_t, .ref a_t]) rfl (Nat.le_of_ble_eq_true rfl) rd_Md_sumOf_17 ?_ ⟨Nat.le_refl _, Nat.le_refl _⟩
    refine jk_aload_n C rd_Md_sumOf_20 (k := 0) rfl ?_
    refine jk_iload_n C rd_Md_sumOf_21 (k := 1) rfl ?_
    obtain ⟨q22, hq22, hf⟩ := jk_bind_h hf
    refine jk_callVi C hZ.1 hz (ct_Md_end l D Z sq hZ cI cR a_t a_t_w a_t_wKept a_t_saved a_t_past a_t_input a_t_n a_t_order a_t_numbers a_t_output i_t_pastMany i_t_isSaved q7.2 i_t_inputMany i_t_lastError i_t_lastOffset i_t_error i_t_offset i_t_nextByte i_t_begin i_t_value i_t_token i_t_got i_t_orders i_t_outputMany i_t_w x1 q22 hq22) tm_1437 tm_1439 sl_45 tm_15 tm_1440 na_Md_end ⟨Nat.le_of_ble_eq_true rfl, Nat.le_of_ble_eq_true rfl⟩ rfl [0, 1] rfl rfl rfl (ws' := wd_Md_sumOf cI a_t a_t_w a_t_wKept a_t_saved a_t_past a_t_input a_t_n a_t_order a_t_numbers a_t_output i_t_pastMany i_t_isSaved q7.2 i_t_inputMany i_t_lastError i_t_lastOffset i_t_error i_t_offset i_t_nextByte i_t_begin i_t_value i_t_token i_t_got i_t_orders i_t_outputMany i_t_w) rfl 0 11 rfl rfl rfl (st := [jk_V q17, .ref a_t, .ref a_t]) rfl (Nat.le_of_ble_eq_true rfl) rd_Md_sumOf_22 ?_ ⟨Nat.le_refl _, Nat.le_refl _⟩
    obtain ⟨q25, hq25, hf⟩ := jk_bind_h hf
    refine jk_callVi C hZ.1 hz (ct_Md_isWholeFrom l D Z sq hZ cI cR a_t a_t_w a_t_wKept a_t_saved a_t_past a_t_input a_t_n a_t_order a_t_numbers a_t_output i_t_pastMany i_t_isSaved q7.2 i_t_inputMany i_t_lastError i_t_lastOffset i_t_error i_t_offset i_t_nextByte i_t_begin i_t_value i_t_token i_t_got i_t_orders i_t_outputMany i_t_w q17 q22 q25 hq25) tm_1563 tm_1565 sl_73 tm_15 tm_1566 na_Md_isWholeFrom ⟨Nat.le_of_ble_eq_true rfl, Nat.le_of_ble_eq_true rfl⟩ rfl [0, 1] rfl rfl rfl (ws' := wd_Md_sumOf cI a_t a_t_w a_t_wKept a_t_saved a_t_past a_t_input a_t_n a_t_order a_t_numbers a_t_output i_t_pastMany i_t_isSaved q7.2 i_t_inputMany i_t_lastError i_t_lastOffset i_t_error i_t_offset i_t_nextByte i_t_begin i_t_value i_t_token i_t_got i_t_orders i_t_outputMany i_t_w) rfl 0 11 rfl rfl rfl (st := [.ref a_t]) rfl (Nat.le_of_ble_eq_true rfl) rd_Md_sumOf_25 ?_ ⟨Nat.le_refl _, Nat.le_refl _⟩
    refine jk_if_ne (tgt := 35) C rd_Md_sumOf_28 (by decide) hf (fun _ hf => ?_) (fun _ hf => ?_)
    · refine jk_iconst C rd_Md_sumOf_35 ?_
      refine jk_iconst C rd_Md_sumOf_36 ?_
      obtain ⟨q37, hq37, hf⟩ := jk_bind_h hf
      refine jk_callVi C hZ.1 hz (ct_Md_fails l D Z sq hZ cI cR a_t a_t_w a_t_wKept a_t_saved a_t_past a_t_input a_t_n a_t_order a_t_numbers a_t_output i_t_pastMany i_t_isSaved q7.2 i_t_inputMany i_t_lastError i_t_lastOffset i_t_error i_t_offset i_t_nextByte i_t_begin i_t_value i_t_token i_t_got i_t_orders i_t_outputMany 0 2 q37 hq37) tm_1643 tm_1645 sl_87 tm_15 tm_1646 na_Md_fails ⟨Nat.le_of_ble_eq_true rfl, Nat.le_of_ble_eq_true rfl⟩ rfl [0] rfl rfl rfl (ws' := wd_Md_sumOf cI a_t a_t_w a_t_wKept a_t_saved a_t_past a_t_input a_t_n a_t_order a_t_numbers a_t_output i_t_pastMany i_t_isSaved q37.2 i_t_inputMany i_t_lastError i_t_lastOffset i_t_error i_t_offset i_t_nextByte i_t_begin i_t_value i_t_token i_t_got i_t_orders i_t_outputMany i_t_w) rfl 0 11 rfl rfl rfl (st := []) rfl (Nat.le_of_ble_eq_true rfl) rd_Md_sumOf_37 ?_ ⟨Nat.le_refl _, Nat.le_refl _⟩
      refine jk_if_eq (tgt := 45) C rd_Md_sumOf_40 (by decide) hf (fun _ hf => ?_) (fun _ hf => ?_)
      · refine jk_aload_n C rd_Md_sumOf_45 (k := 0) rfl ?_
        refine jk_iload_n C rd_Md_sumOf_46 (k := 1) rfl ?_
        obtain ⟨q47, hq47, hf⟩ := jk_bind_h hf
        refine jk_callVi C hZ.1 hz (ct_Md_knownSum l D Z sq hZ cI cR a_t a_t_w a_t_wKept a_t_saved a_t_past a_t_input a_t_n a_t_order a_t_numbers a_t_output i_t_pastMany i_t_isSaved q37.2 i_t_inputMany i_t_lastError i_t_lastOffset i_t_error i_t_offset i_t_nextByte i_t_begin i_t_value i_t_token i_t_got i_t_orders i_t_outputMany i_t_w x1 q47 hq47) tm_1571 tm_1573 sl_75 tm_15 tm_1574 na_Md_knownSum ⟨Nat.le_of_ble_eq_true rfl, Nat.le_of_ble_eq_true rfl⟩ rfl [0, 1] rfl rfl rfl (ws' := wd_Md_sumOf cI a_t a_t_w a_t_wKept a_t_saved a_t_past a_t_input a_t_n a_t_order a_t_numbers a_t_output i_t_pastMany i_t_isSaved q37.2 i_t_inputMany i_t_lastError i_t_lastOffset i_t_error i_t_offset i_t_nextByte i_t_begin i_t_value i_t_token i_t_got i_t_orders i_t_outputMany i_t_w) rfl 0 11 rfl rfl rfl (st := []) rfl (Nat.le_of_ble_eq_true rfl) rd_Md_sumOf_47 ?_ ⟨Nat.le_refl _, Nat.le_refl _⟩
        cases hf
        exact jk_iret C rfl rd_Md_sumOf_50 rfl
      · refine jk_iconst C rd_Md_sumOf_43 ?_
        cases hf
        exact jk_iret C rfl rd_Md_sumOf_44 rfl
    · refine jk_iconst C rd_Md_sumOf_31 ?_
      refine jk_goto (tgt := 36) C rd_Md_sumOf_32 (by decide) ?_
      refine jk_iconst C rd_Md_sumOf_36 ?_
      obtain ⟨q37, hq37, hf⟩ := jk_bind_h hf
      refine jk_callVi C hZ.1 hz (ct_Md_fails l D Z sq hZ cI cR a_t a_t_w a_t_wKept a_t_saved a_t_past a_t_input a_t_n a_t_order a_t_numbers a_t_output i_t_pastMany i_t_isSaved q7.2 i_t_inputMany i_t_lastError i_t_lastOffset i_t_error i_t_offset i_t_nextByte i_t_begin i_t_value i_t_token i_t_got i_t_orders i_t_outputMany 1 2 q37 hq37) tm_1643 tm_1645 sl_87 tm_15 tm_1646 na_Md_fails ⟨Nat.le_of_ble_eq_true rfl, Nat.le_of_ble_eq_true rfl⟩ rfl [0] rfl rfl rfl (ws' := wd_Md_sumOf cI a_t a_t_w a_t_wKept a_t_saved a_t_past a_t_input a_t_n a_t_order a_t_numbers a_t_output i_t_pastMany i_t_isSaved q37.2 i_t_inputMany i_t_lastError i_t_lastOffset i_t_error i_t_offset i_t_nextByte i_t_begin i_t_value i_t_token i_t_got i_t_orders i_t_outputMany i_t_w) rfl 0 11 rfl rfl rfl (st := []) rfl (Nat.le_of_ble_eq_true rfl) rd_Md_sumOf_37 ?_ ⟨Nat.le_refl _, Nat.le_refl _⟩
      refine jk_if_eq (tgt := 45) C rd_Md_sumOf_40 (by decide) hf (fun _ hf => ?_) (fun _ hf => ?_)
      · refine jk_aload_n C rd_Md_sumOf_45 (k := 0) rfl ?_
        refine jk_iload_n C rd_Md_sumOf_46 (k := 1) rfl ?_
        obtain ⟨q47, hq47, hf⟩ := jk_bind_h hf
        refine jk_callVi C hZ.1 hz (ct_Md_knownSum l D Z sq hZ cI cR a_t a_t_w a_t_wKept a_t_saved a_t_past a_t_input a_t_n a_t_order a_t_numbers a_t_output i_t_pastMany i_t_isSaved q37.2 i_t_inputMany i_t_lastError i_t_lastOffset i_t_error i_t_offset i_t_nextByte i_t_begin i_t_value i_t_token i_t_got i_t_orders i_t_outputMany i_t_w x1 q47 hq47) tm_1571 tm_1573 sl_75 tm_15 tm_1574 na_Md_knownSum ⟨Nat.le_of_ble_eq_true rfl, Nat.le_of_ble_eq_true rfl⟩ rfl [0, 1] rfl rfl rfl (ws' := wd_Md_sumOf cI a_t a_t_w a_t_wKept a_t_saved a_t_past a_t_input a_t_n a_t_order a_t_numbers a_t_output i_t_pastMany i_t_isSaved q37.2 i_t_inputMany i_t_lastError i_t_lastOffset i_t_error i_t_offset i_t_nextByte i_t_begin i_t_value i_t_token i_t_got i_t_orders i_t_outputMany i_t_w) rfl 0 11 rfl rfl rfl (st := []) rfl (Nat.le_of_ble_eq_true rfl) rd_Md_sumOf_47 ?_ ⟨Nat.le_refl _, Nat.le_refl _⟩
        cases hf
        exact jk_iret C rfl rd_Md_sumOf_50 rfl
      · refine jk_iconst C rd_Md_sumOf_43 ?_
        cases hf
        exact jk_iret C rfl rd_Md_sumOf_44 rfl
def wd_Md_guessIn (cI : ClassId) (a_t a_t_w a_t_wKept a_t_saved a_t_past a_t_input a_t_n a_t_order a_t_numbers a_t_output : Nat) (i_t_pastMany : Int) (i_t_isSaved : Int) (i_t_thrown : Int) (i_t_inputMany : Int) (i_t_lastError : Int) (i_t_lastOffset : Int) (i_t_error : Int) (i_t_offset : Int) (i_t_nextByte : Int) (i_t_begin : Int) (i_t_value : Int) (i_t_token : Int) (i_t_got : Int) (i_t_orders : Int) (i_t_outputMany : Int) (i_t_w : (Int → Int)) : va_W := [(a_t, .inr (11, [.ref a_t_w, .ref a_t_wKept, .ref a_t_saved, .ref a_t_past, jk_V i_t_pastMany, jk_V i_t_isSaved, jk_V i_t_thrown, .ref a_t_input, jk_V i_t_inputMany, jk_V i_t_lastError, jk_V i_t_lastOffset, jk_V i_t_error, jk_V i_t_offset, jk_V i_t_nextByte, jk_V i_t_begin, jk_V i_t_value, jk_V i_t_token, jk_V i_t_got, .ref a_t_n, .ref a_t_order, .ref a_t_numbers, jk_V i_t_orders, .ref a_t_output, jk_V i_t_outputMany])), (a_t_w, jk_W cI 259 i_t_w)]
set_option maxHeartbeats 4000000 in
set_option maxRecDepth 20000 in
theorem ct_Md_guessIn (l : Launch) (D : va_G) (Z : (Nat → Prop) → State → Heap → Prop) (sq : Nat → Nat) (hZ : jk_ZK Z sq) (cI cR : ClassId) (a_t a_t_w a_t_wKept a_t_saved a_t_past a_t_input a_t_n a_t_order a_t_numbers a_t_output : Nat) (i_t_pastMany : Int) (i_t_isSaved : Int) (i_t_thrown : Int) (i_t_inputMany : Int) (i_t_lastError : Int) (i_t_lastOffset : Int) (i_t_error : Int) (i_t_offset : Int) (i_t_nextByte : Int) (i_t_begin : Int) (i_t_value : Int) (i_t_token : Int) (i_t_got : Int) (i_t_orders : Int) (i_t_outputMany : Int) (i_t_w : (Int → Int)) (x1 : Int) (q : Int × Int) (hf : fn_Md_guessIn i_t_w i_t_thrown x1 = some q) : jk_MI l D jk_cl (jk_ty cI cR) Z mn_Md_guessIn (.code mn_Md_guessIn mb_Md_guessIn 2 (some .int) :: jk_WA) (jk_rm 9 199) [.ref a_t, jk_V x1] (wd_Md_guessIn cI a_t a_t_w a_t_wKept a_t_saved a_t_past a_t_input a_t_n a_t_order a_t_numbers a_t_output i_t_pastMany i_t_isSaved i_t_thrown i_t_inputMany i_t_lastError i_t_lastOffset i_t_error i_t_offset i_t_nextByte i_t_begin i_t_value i_t_token i_t_got i_t_orders i_t_outputMany i_t_w) (wd_Md_guessIn cI a_t a_t_w a_t_wKept a_t_saved a_t_past a_t_input a_t_n a_t_order a_t_numbers a_t_output i_t_pastMany i_t_isSaved q.2 i_t_inputMany i_t_lastError i_t_lastOffset i_t_error i_t_offset i_t_nextByte i_t_begin i_t_value i_t_token i_t_got i_t_orders i_t_outputMany i_t_w) q.1 := by
  intro sz
  refine jk_body (by decide +kernel) (fun p e s m args below meth c hsz hz hin C => ?_) (Nat.le_of_ble_eq_true rfl)
  subst hsz
  unfold fn_Md_guessIn at hf
  refine jk_aload_n C rd_Md_guessIn_0 (k := 0) rfl ?_
  refine jk_iconst C rd_Md_guessIn_1 ?_
  refine jk_putf C in_Md ty_Md nm_Md (ci := 11) rfl 6 (by decide) tm_1269 rfl rfl rfl 0 rfl (Nat.le_of_ble_eq_true rfl) rd_Md_guessIn_2 (ws' := wd_Md_guessIn cI a_t a_t_w a_t_wKept a_t_saved a_t_past a_t_input a_t_n a_t_order a_t_numbers a_t_output i_t_pastMany i_t_isSaved 0 i_t_inputMany i_t_lastError i_t_lastOffset i_t_error i_t_offset i_t_nextByte i_t_begin i_t_value i_t_token i_t_got i_t_orders i_t_outputMany i_t_w) rfl ?_
  refine jk_aload_n C rd_Md_guessIn_5 (k := 0) rfl ?_
  refine jk_iload_n C rd_Md_guessIn_6 (k := 1) rfl ?_
  obtain ⟨q7, hq7, hf⟩ := jk_bind_h hf
  refine jk_callVi C hZ.1 hz (ct_Md_noCluster l D Z sq hZ cI cR a_t a_t_w a_t_wKept a_t_saved a_t_past a_t_input a_t_n a_t_order a_t_numbers a_t_output i_t_pastMany i_t_isSaved 0 i_t_inputMany i_t_lastError i_t_lastOffset i_t_error i_t_offset i_t_nextByte i_t_begin i_t_value i_t_token i_t_got i_t_orders i_t_outputMany i_t_w x1 q7 hq7) tm_1699 tm_1701 sl_92 tm_15 tm_1702 na_Md_noCluster ⟨Nat.le_of_ble_eq_true rfl, Nat.le_of_ble_eq_true rfl⟩ rfl [0, 1] rfl rfl rfl (ws' := wd_Md_guessIn cI a_t a_t_w a_t_wKept a_t_saved a_t_past a_t_input a_t_n a_t_order a_t_numbers a_t_output i_t_pastMany i_t_isSaved q7.2 i_t_inputMany i_t_lastError i_t_lastOffset i_t_error i_t_offset i_t_nextByte i_t_begin i_t_value i_t_token i_t_got i_t_orders i_t_outputMany i_t_w) rfl 0 11 rfl rfl rfl (st := []) rfl (Nat.le_of_ble_eq_true rfl) rd_Md_guessIn_7 ?_ ⟨Nat.le_refl _, Nat.le_refl _⟩
  refine jk_if_ne (tgt := 34) C rd_Md_guessIn_10 (by decide) hf (fun _ hf => ?_) (fun _ hf => ?_)
  · refine jk_iconst C rd_Md_guessIn_34 ?_
    cases hf
    exact jk_iret C rfl rd_Md_guessIn_35 rfl
  · refine jk_aload_n C rd_Md_guessIn_13 (k := 0) rfl ?_
    refine jk_aload_n C rd_Md_guessIn_14 (k := 0) rfl ?_
    refine jk_iload_n C rd_Md_guessIn_15 (k := 1) rfl ?_
    obtain ⟨q16, hq16, hf⟩ := jk_bind_h hf
    refine jk_callVi C hZ.1 hz (ct_Md_guessReason l D Z sq hZ cI cR a_t a_t_w a_t_wKept a_t_saved a_t_past a_t_input a_t_n a_t_order a_t_numbers a_t_output i_t_pastMany i_t_isSaved q7.2 i_t_inputMany i_t_lastError i_t_lastOffset i_t_error i_t_offset i_t_nextByte i_t_begin i_t_value i_t_token i_t_got i_t_orders i_t_outputMany i_t_w x1 q16 hq16) tm_1591 tm_1593 sl_80 tm_15 tm_1594 na_Md_guessReason ⟨Nat.le_of_ble_eq_true rfl, Nat.le_of_ble_eq_true rfl⟩ rfl [0, 1] rfl rfl rfl (ws' := wd_Md_guessIn cI a_t a_t_w a_t_wKept a_t_saved a_t_past a_t_input a_t_n a_t_order a_t_numbers a_t_output i_t_pastMany i_t_isSaved q7.2 i_t_inputMany i_t_lastError i_t_lastOffset i_t_error i_t_offset i_t_nextByte i_t_begin i_t_value i_t_token i_t_got i_t_orders i_t_outputMany i_t_w) rfl 0 11 rfl rfl rfl (st := [.ref a_t]) rfl (Nat.le_of_ble_eq_true rfl) rd_Md_guessIn_16 ?_ ⟨Nat.le_refl _, Nat.le_refl _⟩
    refine jk_if_eq (tgt := 26) C rd_Md_guessIn_19 (by decide) hf (fun _ hf => ?_) (fun _ hf => ?_)
    · refine jk_iconst C rd_Md_guessIn_26 ?_
      refine jk_iconst C rd_Md_guessIn_27 ?_
      obtain ⟨q28, hq28, hf⟩ := jk_bind_h hf
      refine jk_callVi C hZ.1 hz (ct_Md_fails l D Z sq hZ cI cR a_t a_t_w a_t_wKept a_t_saved a_t_past a_t_input a_t_n a_t_order a_t_numbers a_t_output i_t_pastMany i_t_isSaved q7.2 i_t_inputMany i_t_lastError i_t_lastOffset i_t_error i_t_offset i_t_nextByte i_t_begin i_t_value i_t_token i_t_got i_t_orders i_t_outputMany 0 2 q28 hq28) tm_1643 tm_1645 sl_87 tm_15 tm_1646 na_Md_fails ⟨Nat.le_of_ble_eq_true rfl, Nat.le_of_ble_eq_true rfl⟩ rfl [0] rfl rfl rfl (ws' := wd_Md_guessIn cI a_t a_t_w a_t_wKept a_t_saved a_t_past a_t_input a_t_n a_t_order a_t_numbers a_t_output i_t_pastMany i_t_isSaved q28.2 i_t_inputMany i_t_lastError i_t_lastOffset i_t_error i_t_offset i_t_nextByte i_t_begin i_t_value i_t_token i_t_got i_t_orders i_t_outputMany i_t_w) rfl 0 11 rfl rfl rfl (st := []) rfl (Nat.le_of_ble_eq_true rfl) rd_Md_guessIn_28 ?_ ⟨Nat.le_refl _, Nat.le_refl _⟩
      refine jk_if_eq (tgt := 36) C rd_Md_guessIn_31 (by decide) hf (fun _ hf => ?_) (fun _ hf => ?_)
      · refine jk_aload_n C rd_Md_guessIn_36 (k := 0) rfl ?_
        refine jk_iload_n C rd_Md_guessIn_37 (k := 1) rfl ?_
        obtain ⟨q38, hq38, hf⟩ := jk_bind_h hf
        refine jk_callVi C hZ.1 hz (ct_Md_guess l D Z sq hZ cI cR a_t a_t_w a_t_wKept a_t_saved a_t_past a_t_input a_t_n a_t_order a_t_numbers a_t_output i_t_pastMany i_t_isSaved q28.2 i_t_inputMany i_t_lastError i_t_lastOffset i_t_error i_t_offset i_t_nextByte i_t_begin i_t_value i_t_token i_t_got i_t_orders i_t_outputMany i_t_w x1 q38 hq38) tm_1607 tm_1609 sl_84 tm_15 tm_1610 na_Md_guess ⟨Nat.le_of_ble_eq_true rfl, Nat.le_of_ble_eq_true rfl⟩ rfl [0, 1] rfl rfl rfl (ws' := wd_Md_guessIn cI a_t a_t_w a_t_wKept a_t_saved a_t_past a_t_input a_t_n a_t_order a_t_numbers a_t_output i_t_pastMany i_t_isSaved q28.2 i_t_inputMany i_t_lastError i_t_lastOffset i_t_error i_t_offset i_t_nextByte i_t_begin i_t_value i_t_token i_t_got i_t_orders i_t_outputMany i_t_w) rfl 0 11 rfl rfl rfl (st := []) rfl (Nat.le_of_ble_eq_true rfl) rd_Md_guessIn_38 ?_ ⟨Nat.le_refl _, Nat.le_refl _⟩
        cases hf
        exact jk_iret C rfl rd_Md_guessIn_41 rfl
      · refine jk_iconst C rd_Md_guessIn_34 ?_
        cases hf
        exact jk_iret C rfl rd_Md_guessIn_35 rfl
    · refine jk_iconst C rd_Md_guessIn_22 ?_
      refine jk_goto (tgt := 27) C rd_Md_guessIn_23 (by decide) ?_
      refine jk_iconst C rd_Md_guessIn_27 ?_
      obtain ⟨q28, hq28, hf⟩ := jk_bind_h hf
      refine jk_callVi C hZ.1 hz (ct_Md_fails l D Z sq hZ cI cR a_t a_t_w a_t_wKept a_t_saved a_t_past a_t_input a_t_n a_t_order a_t_numbers a_t_output i_t_pastMany i_t_isSaved q7.2 i_t_inputMany i_t_lastError i_t_lastOffset i_t_error i_t_offset i_t_nextByte i_t_begin i_t_value i_t_token i_t_got i_t_orders i_t_outputMany 1 2 q28 hq28) tm_1643 tm_1645 sl_87 tm_15 tm_1646 na_Md_fails ⟨Nat.le_of_ble_eq_true rfl, Nat.le_of_ble_eq_true rfl⟩ rfl [0] rfl rfl rfl (ws' := wd_Md_guessIn cI a_t a_t_w a_t_wKept a_t_saved a_t_past a_t_input a_t_n a_t_order a_t_numbers a_t_output i_t_pastMany i_t_isSaved q28.2 i_t_inputMany i_t_lastError i_t_lastOffset i_t_error i_t_offset i_t_nextByte i_t_begin i_t_value i_t_token i_t_got i_t_orders i_t_outputMany i_t_w) rfl 0 11 rfl rfl rfl (st := []) rfl (Nat.le_of_ble_eq_true rfl) rd_Md_guessIn_28 ?_ ⟨Nat.le_refl _, Nat.le_refl _⟩
      refine jk_if_eq (tgt := 36) C rd_Md_guessIn_31 (by decide) hf (fun _ hf => ?_) (fun _ hf => ?_)
      · refine jk_aload_n C rd_Md_guessIn_36 (k := 0) rfl ?_
        refine jk_iload_n C rd_Md_guessIn_37 (k := 1) rfl ?_
        obtain ⟨q38, hq38, hf⟩ := jk_bind_h hf
        refine jk_callVi C hZ.1 hz (ct_Md_guess l D Z sq hZ cI cR a_t a_t_w a_t_wKept a_t_saved a_t_past a_t_input a_t_n a_t_order a_t_numbers a_t_output i_t_pastMany i_t_isSaved q28.2 i_t_inputMany i_t_lastError i_t_lastOffset i_t_error i_t_offset i_t_nextByte i_t_begin i_t_value i_t_token i_t_got i_t_orders i_t_outputMany i_t_w x1 q38 hq38) tm_1607 tm_1609 sl_84 tm_15 tm_1610 na_Md_guess ⟨Nat.le_of_ble_eq_true rfl, Nat.le_of_ble_eq_true rfl⟩ rfl [0, 1] rfl rfl rfl (ws' := wd_Md_guessIn cI a_t a_t_w a_t_wKept a_t_saved a_t_past a_t_input a_t_n a_t_order a_t_numbers a_t_output i_t_pastMany i_t_isSaved q28.2 i_t_inputMany i_t_lastError i_t_lastOffset i_t_error i_t_offset i_t_nextByte i_t_begin i_t_value i_t_token i_t_got i_t_orders i_t_outputMany i_t_w) rfl 0 11 rfl rfl rfl (st := []) rfl (Nat.le_of_ble_eq_true rfl) rd_Md_guessIn_38 ?_ ⟨Nat.le_refl _, Nat.le_refl _⟩
        cases hf
        exact jk_iret C rfl rd_Md_guessIn_41 rfl
      · refine jk_iconst C rd_Md_guessIn_34 ?_
        cases hf
        exact jk_iret C rfl rd_Md_guessIn_35 rfl
def wd_Md_cordsWith (cI : ClassId) (a_t a_t_w a_t_wKept a_t_saved a_t_past a_t_input a_t_n a_t_order a_t_numbers a_t_output : Nat) (i_t_pastMany : Int) (i_t_isSaved : Int) (i_t_thrown : Int) (i_t_inputMany : Int) (i_t_lastError : Int) (i_t_lastOffset : Int) (i_t_error : Int) (i_t_offset : Int) (i_t_nextByte : Int) (i_t_begin : Int) (i_t_value : Int) (i_t_token : Int) (i_t_got : Int) (i_t_orders : Int) (i_t_outputMany : Int) (i_t_w : (Int → Int)) : va_W := [(a_t, .inr (11, [.ref a_t_w, .ref a_t_wKept, .ref a_t_saved, .ref a_t_past, jk_V i_t_pastMany, jk_V i_t_isSaved, jk_V i_t_thrown, .ref a_t_input, jk_V i_t_inputMany, jk_V i_t_lastError, jk_V i_t_lastOffset, jk_V i_t_error, jk_V i_t_offset, jk_V i_t_nextByte, jk_V i_t_begin, jk_V i_t_value, jk_V i_t_token, jk_V i_t_got, .ref a_t_n, .ref a_t_order, .ref a_t_numbers, jk_V i_t_orders, .ref a_t_output, jk_V i_t_outputMany])), (a_t_w, jk_W cI 259 i_t_w)]
set_option maxHeartbeats 4000000 in
set_option maxRecDepth 20000 in
theorem ct_Md_cordsWith (l : Launch) (D : va_G) (Z : (Nat → Prop) → State → Heap → Prop) (sq : Nat → Nat) (hZ : jk_ZK Z sq) (cI cR : ClassId) (a_t a_t_w a_t_wKept a_t_saved a_t_past a_t_input a_t_n a_t_order a_t_numbers a_t_output : Nat) (i_t_pastMany : Int) (i_t_isSaved : Int) (i_t_thrown : Int) (i_t_inputMany : Int) (i_t_lastError : Int) (i_t_lastOffset : Int) (i_t_error : Int) (i_t_offset : Int) (i_t_nextByte : Int) (i_t_begin : Int) (i_t_value : Int) (i_t_token : Int) (i_t_got : Int) (i_t_orders : Int) (i_t_outputMany : Int) (i_t_w : (Int → Int)) (x1 : Int) (q : Int) (hf : fn_Md_cordsWith i_t_w x1 = some q) : jk_MI l D jk_cl (jk_ty cI cR) Z mn_Md_cordsWith (.code mn_Md_cordsWith mb_Md_cordsWith 4 (some .int) :: jk_WA) (jk_rm 1 22) [.ref a_t, jk_V x1] (wd_Md_cordsWith cI a_t a_t_w a_t_wKept a_t_saved a_t_past a_t_input a_t_n a_t_order a_t_numbers a_t_output i_t_pastMany i_t_isSaved i_t_thrown i_t_inputMany i_t_lastError i_t_lastOffset i_t_error i_t_offset i_t_nextByte i_t_begin i_t_value i_t_token i_t_got i_t_orders i_t_outputMany i_t_w) (wd_Md_cordsWith cI a_t a_t_w a_t_wKept a_t_saved a_t_past a_t_input a_t_n a_t_order a_t_numbers a_t_output i_t_pastMany i_t_isSaved i_t_thrown i_t_inputMany i_t_lastError i_t_lastOffset i_t_error i_t_offset i_t_nextByte i_t_begin i_t_value i_t_token i_t_got i_t_orders i_t_outputMany i_t_w) q := by
  intro sz
  refine jk_body (by decide +kernel) (fun p e s m args below meth c hsz hz hin C => ?_) (Nat.le_of_ble_eq_true rfl)
  subst hsz
  unfold fn_Md_cordsWith at hf
  have bk_4 : ∀ (n : Nat) (v1 : Int) (v2 : Int) (v3 : Int), fn_Md_cordsWith_b4 n i_t_w v1 v2 v3 = some q → jk_J p l e (jk_rm 1 22) s m args below meth c 0 0 (jk_QI below D jk_cl (jk_ty cI cR) (wd_Md_cordsWith cI a_t a_t_w a_t_wKept a_t_saved a_t_past a_t_input a_t_n a_t_order a_t_numbers a_t_output i_t_pastMany i_t_isSaved i_t_thrown i_t_inputMany i_t_lastError i_t_lastOffset i_t_error i_t_offset i_t_nextByte i_t_begin i_t_value i_t_token i_t_got i_t_orders i_t_outputMany i_t_w) (wd_Md_cordsWith cI a_t a_t_w a_t_wKept a_t_saved a_t_past a_t_input a_t_n a_t_order a_t_numbers a_t_output i_t_pastMany i_t_isSaved i_t_thrown i_t_inputMany i_t_lastError i_t_lastOffset i_t_error i_t_offset i_t_nextByte i_t_begin i_t_value i_t_token i_t_got i_t_orders i_t_outputMany i_t_w) args s q) D jk_cl (va_A (wd_Md_cordsWith cI a_t a_t_w a_t_wKept a_t_saved a_t_past a_t_input a_t_n a_t_order a_t_numbers a_t_output i_t_pastMany i_t_isSaved i_t_thrown i_t_inputMany i_t_lastError i_t_lastOffset i_t_error i_t_offset i_t_nextByte i_t_begin i_t_value i_t_token i_t_got i_t_orders i_t_outputMany i_t_w) s.heap.size) 4 (wd_Md_cordsWith cI a_t a_t_w a_t_wKept a_t_saved a_t_past a_t_input a_t_n a_t_order a_t_numbers a_t_output i_t_pastMany i_t_isSaved i_t_thrown i_t_inputMany i_t_lastError i_t_lastOffset i_t_error i_t_offset i_t_nextByte i_t_begin i_t_value i_t_token i_t_got i_t_orders i_t_outputMany i_t_w) [(0, .ref a_t), (1, jk_V v1), (2, jk_V v2), (3, jk_V v3)] 4 [] := by
    intro n
    induction n with
    | zero => intro v1 v2 v3 hf; exact nomatch (show none = some q from hf)
    | succ n ih =>
      intro v1 v2 v3 hf
      rw [fn_Md_cordsWith_b4] at hf
      refine jk_iload_n C rd_Md_cordsWith_4 (k := 3) rfl ?_
      refine jk_aload_n C rd_Md_cordsWith_5 (k := 0) rfl ?_
      refine jk_get C in_Md (ci := 11) rfl 0 (by decide) tm_1263 0 rfl rfl rd_Md_cordsWith_6 ?_
      refine jk_iconst C rd_Md_cordsWith_9 ?_
      refine jk_iald C 1 0 rfl rfl (Nat.le_of_ble_eq_true rfl) rd_Md_cordsWith_10 hf (fun hf => ?_)
      refine jk_icmp_ge (tgt := 41) C rd_Md_cordsWith_11 (by decide) hf (fun _ hf => ?_) (fun _ hf => ?_)
      · refine jk_iload_n C rd_Md_cordsWith_41 (k := 2) rfl ?_
        cases hf
        exact jk_iret C rfl rd_Md_cordsWith_42 rfl
      · refine jk_iload_n C rd_Md_cordsWith_14 (k := 2) rfl ?_
        refine jk_aload_n C rd_Md_cordsWith_15 (k := 0) rfl ?_
        refine jk_iload_n C rd_Md_cordsWith_16 (k := 3) rfl ?_
        refine jk_iconst C rd_Md_cordsWith_17 ?_
        obtain ⟨q18, hq18, hf⟩ := jk_bind_h hf
        refine jk_callVi C hZ.1 hz (ct_Md_of l D Z sq hZ cI cR a_t a_t_w a_t_wKept a_t_saved a_t_past a_t_input a_t_n a_t_order a_t_numbers a_t_output i_t_pastMany i_t_isSaved i_t_thrown i_t_inputMany i_t_lastError i_t_lastOffset i_t_error i_t_offset i_t_nextByte i_t_begin i_t_value i_t_token i_t_got i_t_orders i_t_outputMany i_t_w v3 2 q18 hq18) tm_1256 tm_1258 sl_26 tm_15 tm_1259 na_Md_of ⟨Nat.le_of_ble_eq_true rfl, Nat.le_of_ble_eq_true rfl⟩ rfl [0, 1] rfl rfl rfl (ws' := wd_Md_cordsWith cI a_t a_t_w a_t_wKept a_t_saved a_t_past a_t_input a_t_n a_t_order a_t_numbers a_t_output i_t_pastMany i_t_isSaved i_t_thrown i_t_inputMany i_t_lastError i_t_lastOffset i_t_error i_t_offset i_t_nextByte i_t_begin i_t_value i_t_token i_t_got i_t_orders i_t_outputMany i_t_w) rfl 0 11 rfl rfl rfl (st := [jk_V v2]) rfl (Nat.le_of_ble_eq_true rfl) rd_Md_cordsWith_18 ?_ ⟨Nat.le_refl _, Nat.le_refl _⟩
        refine jk_iload_n C rd_Md_cordsWith_21 (k := 1) rfl ?_
        refine jk_icmp_ne (tgt := 29) C rd_Md_cordsWith_22 (by decide) hf (fun _ hf => ?_) (fun _ hf => ?_)
        · refine jk_iconst C rd_Md_cordsWith_29 ?_
          obtain ⟨q30, hq30, hf⟩ := jk_bind_h hf
          refine jk_callSi C hZ.1 hz (ct_Md_one l D Z sq hZ cI cR 0 q30 hq30) tm_1560 tm_1561 tm_15 tm_1562 na_Md_one ⟨Nat.le_of_ble_eq_true rfl, Nat.le_of_ble_eq_true rfl⟩ rfl [] rfl rfl rfl (ws' := wd_Md_cordsWith cI a_t a_t_w a_t_wKept a_t_saved a_t_past a_t_input a_t_n a_t_order a_t_numbers a_t_output i_t_pastMany i_t_isSaved i_t_thrown i_t_inputMany i_t_lastError i_t_lastOffset i_t_error i_t_offset i_t_nextByte i_t_begin i_t_value i_t_token i_t_got i_t_orders i_t_outputMany i_t_w) rfl (st := [jk_V v2]) rfl (Nat.le_of_ble_eq_true rfl) rd_Md_cordsWith_30 ?_ ⟨Nat.le_refl _, Nat.le_refl _⟩
          refine jk_iadd C rd_Md_cordsWith_33 ?_
          refine jk_istore_n C rd_Md_cordsWith_34 (by decide) (lv' := [(2, jk_V (v2 + q30)), (0, .ref a_t), (1, jk_V v1), (3, jk_V v3)]) rfl ?_
          refine jk_iinc C rd_Md_cordsWith_35 (k := 3) rfl (by decide) (lv' := [(3, jk_V (v3 + 1)), (2, jk_V (v2 + q30)), (0, .ref a_t), (1, jk_V v1)]) rfl ?_
          refine jk_goto (tgt := 4) C rd_Md_cordsWith_38 (by decide) ?_
          refine jk_lv (lv' := [(0, .ref a_t), (1, jk_V v1), (2, jk_V (v2 + q30)), (3, jk_V (v3 + 1))]) [2, 3, 1, 0] rfl ?_
          exact ih v1 (v2 + q30) (v3 + 1) hf
        · refine jk_iconst C rd_Md_cordsWith_25 ?_
          refine jk_goto (tgt := 30) C rd_Md_cordsWith_26 (by decide) ?_
          obtain ⟨q30, hq30, hf⟩ := jk_bind_h hf
          refine jk_callSi C hZ.1 hz (ct_Md_one l D Z sq hZ cI cR 1 q30 hq30) tm_1560 tm_1561 tm_15 tm_1562 na_Md_one ⟨Nat.le_of_ble_eq_true rfl, Nat.le_of_ble_eq_true rfl⟩ rfl [] rfl rfl rfl (ws' := wd_Md_cordsWith cI a_t a_t_w a_t_wKept a_t_saved a_t_past a_t_input a_t_n a_t_order a_t_numbers a_t_output i_t_pastMany i_t_isSaved i_t_thrown i_t_inputMany i_t_lastError i_t_lastOffset i_t_error i_t_offset i_t_nextByte i_t_begin i_t_value i_t_token i_t_got i_t_orders i_t_outputMany i_t_w) rfl (st := [jk_V v2]) rfl (Nat.le_of_ble_eq_true rfl) rd_Md_cordsWith_30 ?_ ⟨Nat.le_refl _, Nat.le_refl _⟩
          refine jk_iadd C rd_Md_cordsWith_33 ?_
          refine jk_istore_n C rd_Md_cordsWith_34 (by decide) (lv' := [(2, jk_V (v2 + q30)), (0, .ref a_t), (1, jk_V v1), (3, jk_V v3)]) rfl ?_
          refine jk_iinc C rd_Md_cordsWith_35 (k := 3) rfl (by decide) (lv' := [(3, jk_V (v3 + 1)), (2, jk_V (v2 + q30)), (0, .ref a_t), (1, jk_V v1)]) rfl ?_
          refine jk_goto (tgt := 4) C rd_Md_cordsWith_38 (by decide) ?_
          refine jk_lv (lv' := [(0, .ref a_t), (1, jk_V v1), (2, jk_V (v2 + q30)), (3, jk_V (v3 + 1))]) [2, 3, 1, 0] rfl ?_
          exact ih v1 (v2 + q30) (v3 + 1) hf
  refine jk_iconst C rd_Md_cordsWith_0 ?_
  refine jk_istore_n C rd_Md_cordsWith_1 (by decide) (lv' := [(2, jk_V 0), (0, .ref a_t), (1, jk_V x1)]) rfl ?_
  refine jk_iconst C rd_Md_cordsWith_2 ?_
  refine jk_istore_n C rd_Md_cordsWith_3 (by decide) (lv' := [(3, jk_V 0), (2, jk_V 0), (0, .ref a_t), (1, jk_V x1)]) rfl ?_
  refine jk_lv (lv' := [(0, .ref a_t), (1, jk_V x1), (2, jk_V 0), (3, jk_V 0)]) [2, 3, 1, 0] rfl ?_
  exact bk_4 jk_F x1 0 0 hf
