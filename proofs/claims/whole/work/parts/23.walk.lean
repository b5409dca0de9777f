theorem rd_Md_advanceToken_0 : decode mb_Md_advanceToken 0 = .ok (.aload_n 0, 1) := by decide +kernel
theorem rd_Md_advanceToken_1 : decode mb_Md_advanceToken 1 = .ok (.aload_n 0, 1) := by decide +kernel
theorem rd_Md_advanceToken_2 : decode mb_Md_advanceToken 2 = .ok (.getfield 149, 3) := by decide +kernel
theorem rd_Md_advanceToken_5 : decode mb_Md_advanceToken 5 = .ok (.invokevirtual 146, 3) := by decide +kernel
theorem rd_Md_advanceToken_8 : decode mb_Md_advanceToken 8 = .ok (.bipush 32, 2) := by decide +kernel
theorem rd_Md_advanceToken_10 : decode mb_Md_advanceToken 10 = .ok (.if_icmp .eq 16, 3) := by decide +kernel
theorem rd_Md_advanceToken_13 : decode mb_Md_advanceToken 13 = .ok (.aload_n 0, 1) := by decide +kernel
theorem rd_Md_advanceToken_14 : decode mb_Md_advanceToken 14 = .ok (.aload_n 0, 1) := by decide +kernel
theorem rd_Md_advanceToken_15 : decode mb_Md_advanceToken 15 = .ok (.getfield 149, 3) := by decide +kernel
theorem rd_Md_advanceToken_18 : decode mb_Md_advanceToken 18 = .ok (.invokevirtual 146, 3) := by decide +kernel
theorem rd_Md_advanceToken_21 : decode mb_Md_advanceToken 21 = .ok (.bipush 10, 2) := by decide +kernel
theorem rd_Md_advanceToken_23 : decode mb_Md_advanceToken 23 = .ok (.if_icmp .ne 16, 3) := by decide +kernel
theorem rd_Md_advanceToken_26 : decode mb_Md_advanceToken 26 = .ok (.aload_n 0, 1) := by decide +kernel
theorem rd_Md_advanceToken_27 : decode mb_Md_advanceToken 27 = .ok (.dup, 1) := by decide +kernel
theorem rd_Md_advanceToken_28 : decode mb_Md_advanceToken 28 = .ok (.getfield 149, 3) := by decide +kernel
theorem rd_Md_advanceToken_31 : decode mb_Md_advanceToken 31 = .ok (.iconst 1, 1) := by decide +kernel
theorem rd_Md_advanceToken_32 : decode mb_Md_advanceToken 32 = .ok (.iadd, 1) := by decide +kernel
theorem rd_Md_advanceToken_33 : decode mb_Md_advanceToken 33 = .ok (.putfield 149, 3) := by decide +kernel
theorem rd_Md_advanceToken_36 : decode mb_Md_advanceToken 36 = .ok (.goto (-36), 3) := by decide +kernel
theorem rd_Md_advanceToken_39 : decode mb_Md_advanceToken 39 = .ok (.aload_n 0, 1) := by decide +kernel
theorem rd_Md_advanceToken_40 : decode mb_Md_advanceToken 40 = .ok (.aload_n 0, 1) := by decide +kernel
theorem rd_Md_advanceToken_41 : decode mb_Md_advanceToken 41 = .ok (.getfield 149, 3) := by decide +kernel
theorem rd_Md_advanceToken_44 : decode mb_Md_advanceToken 44 = .ok (.putfield 152, 3) := by decide +kernel
theorem rd_Md_advanceToken_47 : decode mb_Md_advanceToken 47 = .ok (.aload_n 0, 1) := by decide +kernel
theorem rd_Md_advanceToken_48 : decode mb_Md_advanceToken 48 = .ok (.aload_n 0, 1) := by decide +kernel
theorem rd_Md_advanceToken_49 : decode mb_Md_advanceToken 49 = .ok (.getfield 149, 3) := by decide +kernel
theorem rd_Md_advanceToken_52 : decode mb_Md_advanceToken 52 = .ok (.invokevirtual 146, 3) := by decide +kernel
theorem rd_Md_advanceToken_55 : decode mb_Md_advanceToken 55 = .ok (.istore_n 1, 1) := by decide +kernel
theorem rd_Md_advanceToken_56 : decode mb_Md_advanceToken 56 = .ok (.aload_n 0, 1) := by decide +kernel
theorem rd_Md_advanceToken_57 : decode mb_Md_advanceToken 57 = .ok (.iconst 0, 1) := by decide +kernel
theorem rd_Md_advanceToken_58 : decode mb_Md_advanceToken 58 = .ok (.putfield 155, 3) := by decide +kernel
theorem rd_Md_advanceToken_61 : decode mb_Md_advanceToken 61 = .ok (.iload_n 1, 1) := by decide +kernel
theorem rd_Md_advanceToken_62 : decode mb_Md_advanceToken 62 = .ok (.iconst (-1), 1) := by decide +kernel
theorem rd_Md_advanceToken_63 : decode mb_Md_advanceToken 63 = .ok (.if_icmp .ne 11, 3) := by decide +kernel
theorem rd_Md_advanceToken_66 : decode mb_Md_advanceToken 66 = .ok (.aload_n 0, 1) := by decide +kernel
theorem rd_Md_advanceToken_67 : decode mb_Md_advanceToken 67 = .ok (.iconst 0, 1) := by decide +kernel
theorem rd_Md_advanceToken_68 : decode mb_Md_advanceToken 68 = .ok (.putfield 158, 3) := by decide +kernel
theorem rd_Md_advanceToken_71 : decode mb_Md_advanceToken 71 = .ok (.goto 199, 3) := by decide +kernel
theorem rd_Md_advanceToken_74 : decode mb_Md_advanceToken 74 = .ok (.aload_n 0, 1) := by decide +kernel
theorem rd_Md_advanceToken_75 : decode mb_Md_advanceToken 75 = .ok (.aload_n 0, 1) := by decide +kernel
theorem rd_Md_advanceToken_76 : decode mb_Md_advanceToken 76 = .ok (.getfield 149, 3) := by decide +kernel
theorem rd_Md_advanceToken_79 : decode mb_Md_advanceToken 79 = .ok (.invokevirtual 161, 3) := by decide +kernel
theorem rd_Md_advanceToken_82 : decode mb_Md_advanceToken 82 = .ok (.ifCond .eq 53, 3) := by decide +kernel
theorem rd_Md_advanceToken_85 : decode mb_Md_advanceToken 85 = .ok (.aload_n 0, 1) := by decide +kernel
theorem rd_Md_advanceToken_86 : decode mb_Md_advanceToken 86 = .ok (.aload_n 0, 1) := by decide +kernel
theorem rd_Md_advanceToken_87 : decode mb_Md_advanceToken 87 = .ok (.getfield 149, 3) := by decide +kernel
theorem rd_Md_advanceToken_90 : decode mb_Md_advanceToken 90 = .ok (.invokevirtual 161, 3) := by decide +kernel
theorem rd_Md_advanceToken_93 : decode mb_Md_advanceToken 93 = .ok (.ifCond .eq 16, 3) := by decide +kernel
theorem rd_Md_advanceToken_96 : decode mb_Md_advanceToken 96 = .ok (.aload_n 0, 1) := by decide +kernel
theorem rd_Md_advanceToken_97 : decode mb_Md_advanceToken 97 = .ok (.dup, 1) := by decide +kernel
theorem rd_Md_advanceToken_98 : decode mb_Md_advanceToken 98 = .ok (.getfield 149, 3) := by decide +kernel
theorem rd_Md_advanceToken_101 : decode mb_Md_advanceToken 101 = .ok (.iconst 1, 1) := by decide +kernel
theorem rd_Md_advanceToken_102 : decode mb_Md_advanceToken 102 = .ok (.iadd, 1) := by decide +kernel
theorem rd_Md_advanceToken_103 : decode mb_Md_advanceToken 103 = .ok (.putfield 149, 3) := by decide +kernel
theorem rd_Md_advanceToken_106 : decode mb_Md_advanceToken 106 = .ok (.goto (-21), 3) := by decide +kernel
theorem rd_Md_advanceToken_109 : decode mb_Md_advanceToken 109 = .ok (.aload_n 0, 1) := by decide +kernel
theorem rd_Md_advanceToken_110 : decode mb_Md_advanceToken 110 = .ok (.aload_n 0, 1) := by decide +kernel
theorem rd_Md_advanceToken_111 : decode mb_Md_advanceToken 111 = .ok (.getfield 149, 3) := by decide +kernel
theorem rd_Md_advanceToken_114 : decode mb_Md_advanceToken 114 = .ok (.aload_n 0, 1) := by decide +kernel
theorem rd_Md_advanceToken_115 : decode mb_Md_advanceToken 115 = .ok (.getfield 152, 3) := by decide +kernel
theorem rd_Md_advanceToken_118 : decode mb_Md_advanceToken 118 = .ok (.isub, 1) := by decide +kernel
theorem rd_Md_advanceToken_119 : decode mb_Md_advanceToken 119 = .ok (.bipush 8, 2) := by decide +kernel
theorem rd_Md_advanceToken_121 : decode mb_Md_advanceToken 121 = .ok (.if_icmp .le 7, 3) := by decide +kernel
theorem rd_Md_advanceToken_124 : decode mb_Md_advanceToken 124 = .ok (.iconst 4, 1) := by decide +kernel
theorem rd_Md_advanceToken_125 : decode mb_Md_advanceToken 125 = .ok (.goto 4, 3) := by decide +kernel
theorem rd_Md_advanceToken_128 : decode mb_Md_advanceToken 128 = .ok (.iconst 1, 1) := by decide +kernel
theorem rd_Md_advanceToken_129 : decode mb_Md_advanceToken 129 = .ok (.putfield 158, 3) := by decide +kernel
theorem rd_Md_advanceToken_132 : decode mb_Md_advanceToken 132 = .ok (.goto 138, 3) := by decide +kernel
theorem rd_Md_advanceToken_135 : decode mb_Md_advanceToken 135 = .ok (.iload_n 1, 1) := by decide +kernel
theorem rd_Md_advanceToken_136 : decode mb_Md_advanceToken 136 = .ok (.bipush 48, 2) := by decide +kernel
theorem rd_Md_advanceToken_138 : decode mb_Md_advanceToken 138 = .ok (.bipush 57, 2) := by decide +kernel
theorem rd_Md_advanceToken_140 : decode mb_Md_advanceToken 140 = .ok (.invokestatic 115, 3) := by decide +kernel
theorem rd_Md_advanceToken_143 : decode mb_Md_advanceToken 143 = .ok (.ifCond .eq 102, 3) := by decide +kernel
theorem rd_Md_advanceToken_146 : decode mb_Md_advanceToken 146 = .ok (.aload_n 0, 1) := by decide +kernel
theorem rd_Md_advanceToken_147 : decode mb_Md_advanceToken 147 = .ok (.aload_n 0, 1) := by decide +kernel
theorem rd_Md_advanceToken_148 : decode mb_Md_advanceToken 148 = .ok (.getfield 149, 3) := by decide +kernel
theorem rd_Md_advanceToken_151 : decode mb_Md_advanceToken 151 = .ok (.invokevirtual 146, 3) := by decide +kernel
theorem rd_Md_advanceToken_154 : decode mb_Md_advanceToken 154 = .ok (.bipush 48, 2) := by decide +kernel
theorem rd_Md_advanceToken_156 : decode mb_Md_advanceToken 156 = .ok (.bipush 57, 2) := by decide +kernel
theorem rd_Md_advanceToken_158 : decode mb_Md_advanceToken 158 = .ok (.invokestatic 115, 3) := by decide +kernel
theorem rd_Md_advanceToken_161 : decode mb_Md_advanceToken 161 = .ok (.ifCond .eq 59, 3) := by decide +kernel
theorem rd_Md_advanceToken_164 : decode mb_Md_advanceToken 164 = .ok (.aload_n 0, 1) := by decide +kernel
theorem rd_Md_advanceToken_165 : decode mb_Md_advanceToken 165 = .ok (.aload_n 0, 1) := by decide +kernel
theorem rd_Md_advanceToken_166 : decode mb_Md_advanceToken 166 = .ok (.getfield 149, 3) := by decide +kernel
theorem rd_Md_advanceToken_169 : decode mb_Md_advanceToken 169 = .ok (.aload_n 0, 1) := by decide +kernel
theorem rd_Md_advanceToken_170 : decode mb_Md_advanceToken 170 = .ok (.getfield 152, 3) := by decide +kernel
theorem rd_Md_advanceToken_173 : decode mb_Md_advanceToken 173 = .ok (.isub, 1) := by decide +kernel
theorem rd_Md_advanceToken_174 : decode mb_Md_advanceToken 174 = .ok (.iconst 4, 1) := by decide +kernel
theorem rd_Md_advanceToken_175 : decode mb_Md_advanceToken 175 = .ok (.if_icmp .ge 25, 3) := by decide +kernel
theorem rd_Md_advanceToken_178 : decode mb_Md_advanceToken 178 = .ok (.bipush 10, 2) := by decide +kernel
theorem rd_Md_advanceToken_180 : decode mb_Md_advanceToken 180 = .ok (.aload_n 0, 1) := by decide +kernel
theorem rd_Md_advanceToken_181 : decode mb_Md_advanceToken 181 = .ok (.getfield 155, 3) := by decide +kernel
theorem rd_Md_advanceToken_184 : decode mb_Md_advanceToken 184 = .ok (.imul, 1) := by decide +kernel
theorem rd_Md_advanceToken_185 : decode mb_Md_advanceToken 185 = .ok (.aload_n 0, 1) := by decide +kernel
theorem rd_Md_advanceToken_186 : decode mb_Md_advanceToken 186 = .ok (.aload_n 0, 1) := by decide +kernel
theorem rd_Md_advanceToken_187 : decode mb_Md_advanceToken 187 = .ok (.getfield 149, 3) := by decide +kernel
theorem rd_Md_advanceToken_190 : decode mb_Md_advanceToken 190 = .ok (.invokevirtual 146, 3) := by decide +kernel
theorem rd_Md_advanceToken_193 : decode mb_Md_advanceToken 193 = .ok (.iadd, 1) := by decide +kernel
theorem rd_Md_advanceToken_194 : decode mb_Md_advanceToken 194 = .ok (.bipush 48, 2) := by decide +kernel
theorem rd_Md_advanceToken_196 : decode mb_Md_advanceToken 196 = .ok (.isub, 1) := by decide +kernel
theorem rd_Md_advanceToken_197 : decode mb_Md_advanceToken 197 = .ok (.goto 7, 3) := by decide +kernel
theorem rd_Md_advanceToken_200 : decode mb_Md_advanceToken 200 = .ok (.aload_n 0, 1) := by decide +kernel
theorem rd_Md_advanceToken_201 : decode mb_Md_advanceToken 201 = .ok (.getfield 155, 3) := by decide +kernel
theorem rd_Md_advanceToken_204 : decode mb_Md_advanceToken 204 = .ok (.putfield 155, 3) := by decide +kernel
theorem rd_Md_advanceToken_207 : decode mb_Md_advanceToken 207 = .ok (.aload_n 0, 1) := by decide +kernel
theorem rd_Md_advanceToken_208 : decode mb_Md_advanceToken 208 = .ok (.dup, 1) := by decide +kernel
theorem rd_Md_advanceToken_209 : decode mb_Md_advanceToken 209 = .ok (.getfield 149, 3) := by decide +kernel
theorem rd_Md_advanceToken_212 : decode mb_Md_advanceToken 212 = .ok (.iconst 1, 1) := by decide +kernel
theorem rd_Md_advanceToken_213 : decode mb_Md_advanceToken 213 = .ok (.iadd, 1) := by decide +kernel
theorem rd_Md_advanceToken_214 : decode mb_Md_advanceToken 214 = .ok (.putfield 149, 3) := by decide +kernel
theorem rd_Md_advanceToken_217 : decode mb_Md_advanceToken 217 = .ok (.goto (-71), 3) := by decide +kernel
theorem rd_Md_advanceToken_220 : decode mb_Md_advanceToken 220 = .ok (.aload_n 0, 1) := by decide +kernel
theorem rd_Md_advanceToken_221 : decode mb_Md_advanceToken 221 = .ok (.aload_n 0, 1) := by decide +kernel
theorem rd_Md_advanceToken_222 : decode mb_Md_advanceToken 222 = .ok (.getfield 149, 3) := by decide +kernel
theorem rd_Md_advanceToken_225 : decode mb_Md_advanceToken 225 = .ok (.aload_n 0, 1) := by decide +kernel
theorem rd_Md_advanceToken_226 : decode mb_Md_advanceToken 226 = .ok (.getfield 152, 3) := by decide +kernel
theorem rd_Md_advanceToken_229 : decode mb_Md_advanceToken 229 = .ok (.isub, 1) := by decide +kernel
theorem rd_Md_advanceToken_230 : decode mb_Md_advanceToken 230 = .ok (.iconst 4, 1) := by decide +kernel
theorem rd_Md_advanceToken_231 : decode mb_Md_advanceToken 231 = .ok (.if_icmp .le 7, 3) := by decide +kernel
theorem rd_Md_advanceToken_234 : decode mb_Md_advanceToken 234 = .ok (.iconst 4, 1) := by decide +kernel
theorem rd_Md_advanceToken_235 : decode mb_Md_advanceToken 235 = .ok (.goto 4, 3) := by decide +kernel
theorem rd_Md_advanceToken_238 : decode mb_Md_advanceToken 238 = .ok (.iconst 2, 1) := by decide +kernel
theorem rd_Md_advanceToken_239 : decode mb_Md_advanceToken 239 = .ok (.putfield 158, 3) := by decide +kernel
theorem rd_Md_advanceToken_242 : decode mb_Md_advanceToken 242 = .ok (.goto 28, 3) := by decide +kernel
theorem rd_Md_advanceToken_245 : decode mb_Md_advanceToken 245 = .ok (.aload_n 0, 1) := by decide +kernel
theorem rd_Md_advanceToken_246 : decode mb_Md_advanceToken 246 = .ok (.iload_n 1, 1) := by decide +kernel
theorem rd_Md_advanceToken_247 : decode mb_Md_advanceToken 247 = .ok (.bipush 59, 2) := by decide +kernel
theorem rd_Md_advanceToken_249 : decode mb_Md_advanceToken 249 = .ok (.if_icmp .ne 7, 3) := by decide +kernel
theorem rd_Md_advanceToken_252 : decode mb_Md_advanceToken 252 = .ok (.iconst 3, 1) := by decide +kernel
theorem rd_Md_advanceToken_253 : decode mb_Md_advanceToken 253 = .ok (.goto 4, 3) := by decide +kernel
theorem rd_Md_advanceToken_256 : decode mb_Md_advanceToken 256 = .ok (.iconst 4, 1) := by decide +kernel
theorem rd_Md_advanceToken_257 : decode mb_Md_advanceToken 257 = .ok (.putfield 158, 3) := by decide +kernel
theorem rd_Md_advanceToken_260 : decode mb_Md_advanceToken 260 = .ok (.aload_n 0, 1) := by decide +kernel
theorem rd_Md_advanceToken_261 : decode mb_Md_advanceToken 261 = .ok (.dup, 1) := by decide +kernel
theorem rd_Md_advanceToken_262 : decode mb_Md_advanceToken 262 = .ok (.getfield 149, 3) := by decide +kernel
theorem rd_Md_advanceToken_265 : decode mb_Md_advanceToken 265 = .ok (.iconst 1, 1) := by decide +kernel
theorem rd_Md_advanceToken_266 : decode mb_Md_advanceToken 266 = .ok (.iadd, 1) := by decide +kernel
theorem rd_Md_advanceToken_267 : decode mb_Md_advanceToken 267 = .ok (.putfield 149, 3) := by decide +kernel
theorem rd_Md_advanceToken_270 : decode mb_Md_advanceToken 270 = .ok (.return_, 1) := by decide +kernel
theorem rd_Md_failsAt_0 : decode mb_Md_failsAt 0 = .ok (.aload_n 0, 1) := by decide +kernel
theorem rd_Md_failsAt_1 : decode mb_Md_failsAt 1 = .ok (.getfield 164, 3) := by decide +kernel
theorem rd_Md_failsAt_4 : decode mb_Md_failsAt 4 = .ok (.ifCond .ne 16, 3) := by decide +kernel
theorem rd_Md_failsAt_7 : decode mb_Md_failsAt 7 = .ok (.aload_n 0, 1) := by decide +kernel
theorem rd_Md_failsAt_8 : decode mb_Md_failsAt 8 = .ok (.iload_n 1, 1) := by decide +kernel
theorem rd_Md_failsAt_9 : decode mb_Md_failsAt 9 = .ok (.putfield 164, 3) := by decide +kernel
theorem rd_Md_failsAt_12 : decode mb_Md_failsAt 12 = .ok (.aload_n 0, 1) := by decide +kernel
theorem rd_Md_failsAt_13 : decode mb_Md_failsAt 13 = .ok (.aload_n 0, 1) := by decide +kernel
theorem rd_Md_failsAt_14 : decode mb_Md_failsAt 14 = .ok (.getfield 152, 3) := by decide +kernel
theorem rd_Md_failsAt_17 : decode mb_Md_failsAt 17 = .ok (.putfield 167, 3) := by decide +kernel
theorem rd_Md_failsAt_20 : decode mb_Md_failsAt 20 = .ok (.iconst 0, 1) := by decide +kernel
theorem rd_Md_failsAt_21 : decode mb_Md_failsAt 21 = .ok (.ireturn, 1) := by decide +kernel
theorem rd_Md_isWord_0 : decode mb_Md_isWord 0 = .ok (.aload_n 0, 1) := by decide +kernel
theorem rd_Md_isWord_1 : decode mb_Md_isWord 1 = .ok (.getfield 158, 3) := by decide +kernel
theorem rd_Md_isWord_4 : decode mb_Md_isWord 4 = .ok (.iconst 1, 1) := by decide +kernel
theorem rd_Md_isWord_5 : decode mb_Md_isWord 5 = .ok (.if_icmp .ne 19, 3) := by decide +kernel
theorem rd_Md_isWord_8 : decode mb_Md_isWord 8 = .ok (.aload_n 0, 1) := by decide +kernel
theorem rd_Md_isWord_9 : decode mb_Md_isWord 9 = .ok (.getfield 149, 3) := by decide +kernel
theorem rd_Md_isWord_12 : decode mb_Md_isWord 12 = .ok (.aload_n 0, 1) := by decide +kernel
theorem rd_Md_isWord_13 : decode mb_Md_isWord 13 = .ok (.getfield 152, 3) := by decide +kernel
theorem rd_Md_isWord_16 : decode mb_Md_isWord 16 = .ok (.isub, 1) := by decide +kernel
theorem rd_Md_isWord_17 : decode mb_Md_isWord 17 = .ok (.aload_n 1, 1) := by decide +kernel
theorem rd_Md_isWord_18 : decode mb_Md_isWord 18 = .ok (.invokevirtual 170, 3) := by decide +kernel
theorem rd_Md_isWord_21 : decode mb_Md_isWord 21 = .ok (.if_icmp .eq 5, 3) := by decide +kernel
theorem rd_Md_isWord_24 : decode mb_Md_isWord 24 = .ok (.iconst 0, 1) := by decide +kernel
theorem rd_Md_isWord_25 : decode mb_Md_isWord 25 = .ok (.ireturn, 1) := by decide +kernel
theorem rd_Md_isWord_26 : decode mb_Md_isWord 26 = .ok (.iconst 0, 1) := by decide +kernel
theorem rd_Md_isWord_27 : decode mb_Md_isWord 27 = .ok (.istore_n 2, 1) := by decide +kernel
theorem rd_Md_isWord_28 : decode mb_Md_isWord 28 = .ok (.iload_n 2, 1) := by decide +kernel
theorem rd_Md_isWord_29 : decode mb_Md_isWord 29 = .ok (.aload_n 1, 1) := by decide +kernel
theorem rd_Md_isWord_30 : decode mb_Md_isWord 30 = .ok (.invokevirtual 170, 3) := by decide +kernel
theorem rd_Md_isWord_33 : decode mb_Md_isWord 33 = .ok (.if_icmp .ge 30, 3) := by decide +kernel
theorem rd_Md_isWord_36 : decode mb_Md_isWord 36 = .ok (.aload_n 0, 1) := by decide +kernel
theorem rd_Md_isWord_37 : decode mb_Md_isWord 37 = .ok (.getfield 22, 3) := by decide +kernel
theorem rd_Md_isWord_40 : decode mb_Md_isWord 40 = .ok (.aload_n 0, 1) := by decide +kernel
theorem rd_Md_isWord_41 : decode mb_Md_isWord 41 = .ok (.getfield 152, 3) := by decide +kernel
theorem rd_Md_isWord_44 : decode mb_Md_isWord 44 = .ok (.iload_n 2, 1) := by decide +kernel
theorem rd_Md_isWord_45 : decode mb_Md_isWord 45 = .ok (.iadd, 1) := by decide +kernel
theorem rd_Md_isWord_46 : decode mb_Md_isWord 46 = .ok (.iaload, 1) := by decide +kernel
theorem rd_Md_isWord_47 : decode mb_Md_isWord 47 = .ok (.aload_n 1, 1) := by decide +kernel
theorem rd_Md_isWord_48 : decode mb_Md_isWord 48 = .ok (.iload_n 2, 1) := by decide +kernel
theorem rd_Md_isWord_49 : decode mb_Md_isWord 49 = .ok (.invokevirtual 176, 3) := by decide +kernel
theorem rd_Md_isWord_52 : decode mb_Md_isWord 52 = .ok (.if_icmp .eq 5, 3) := by decide +kernel
theorem rd_Md_isWord_55 : decode mb_Md_isWord 55 = .ok (.iconst 0, 1) := by decide +kernel
theorem rd_Md_isWord_56 : decode mb_Md_isWord 56 = .ok (.ireturn, 1) := by decide +kernel
theorem rd_Md_isWord_57 : decode mb_Md_isWord 57 = .ok (.iinc 2 1, 3) := by decide +kernel
theorem rd_Md_isWord_60 : decode mb_Md_isWord 60 = .ok (.goto (-32), 3) := by decide +kernel
theorem rd_Md_isWord_63 : decode mb_Md_isWord 63 = .ok (.iconst 1, 1) := by decide +kernel
theorem rd_Md_isWord_64 : decode mb_Md_isWord 64 = .ok (.ireturn, 1) := by decide +kernel
theorem rd_Md_seesNumber_0 : decode mb_Md_seesNumber 0 = .ok (.aload_n 0, 1) := by decide +kernel
theorem rd_Md_seesNumber_1 : decode mb_Md_seesNumber 1 = .ok (.getfield 158, 3) := by decide +kernel
theorem rd_Md_seesNumber_4 : decode mb_Md_seesNumber 4 = .ok (.iconst 2, 1) := by decide +kernel
theorem rd_Md_seesNumber_5 : decode mb_Md_seesNumber 5 = .ok (.if_icmp .eq 9, 3) := by decide +kernel
theorem rd_Md_seesNumber_8 : decode mb_Md_seesNumber 8 = .ok (.aload_n 0, 1) := by decide +kernel
theorem rd_Md_seesNumber_9 : decode mb_Md_seesNumber 9 = .ok (.iconst 1, 1) := by decide +kernel
theorem rd_Md_seesNumber_10 : decode mb_Md_seesNumber 10 = .ok (.invokevirtual 180, 3) := by decide +kernel
theorem rd_Md_seesNumber_13 : decode mb_Md_seesNumber 13 = .ok (.ireturn, 1) := by decide +kernel
theorem rd_Md_seesNumber_14 : decode mb_Md_seesNumber 14 = .ok (.aload_n 0, 1) := by decide +kernel
theorem rd_Md_seesNumber_15 : decode mb_Md_seesNumber 15 = .ok (.getfield 155, 3) := by decide +kernel
theorem rd_Md_seesNumber_18 : decode mb_Md_seesNumber 18 = .ok (.iload_n 1, 1) := by decide +kernel
theorem rd_Md_seesNumber_19 : decode mb_Md_seesNumber 19 = .ok (.iload_n 2, 1) := by decide +kernel
theorem rd_Md_seesNumber_20 : decode mb_Md_seesNumber 20 = .ok (.invokestatic 115, 3) := by decide +kernel
theorem rd_Md_seesNumber_23 : decode mb_Md_seesNumber 23 = .ok (.ifCond .ne 9, 3) := by decide +kernel
theorem rd_Md_seesNumber_26 : decode mb_Md_seesNumber 26 = .ok (.aload_n 0, 1) := by decide +kernel
theorem rd_Md_seesNumber_27 : decode mb_Md_seesNumber 27 = .ok (.iconst 2, 1) := by decide +kernel
theorem rd_Md_seesNumber_28 : decode mb_Md_seesNumber 28 = .ok (.invokevirtual 180, 3) := by decide +kernel
theorem rd_Md_seesNumber_31 : decode mb_Md_seesNumber 31 = .ok (.ireturn, 1) := by decide +kernel
theorem rd_Md_seesNumber_32 : decode mb_Md_seesNumber 32 = .ok (.aload_n 0, 1) := by decide +kernel
theorem rd_Md_seesNumber_33 : decode mb_Md_seesNumber 33 = .ok (.aload_n 0, 1) := by decide +kernel
theorem rd_Md_seesNumber_34 : decode mb_Md_seesNumber 34 = .ok (.getfield 155, 3) := by decide +kernel
theorem rd_Md_seesNumber_37 : decode mb_Md_seesNumber 37 = .ok (.putfield 183, 3) := by decide +kernel
theorem rd_Md_seesNumber_40 : decode mb_Md_seesNumber 40 = .ok (.iconst 1, 1) := by decide +kernel
theorem rd_Md_seesNumber_41 : decode mb_Md_seesNumber 41 = .ok (.ireturn, 1) := by decide +kernel
theorem rd_Md_takesNumber_0 : decode mb_Md_takesNumber 0 = .ok (.aload_n 0, 1) := by decide +kernel
theorem rd_Md_takesNumber_1 : decode mb_Md_takesNumber 1 = .ok (.iload_n 1, 1) := by decide +kernel
theorem rd_Md_takesNumber_2 : decode mb_Md_takesNumber 2 = .ok (.iload_n 2, 1) := by decide +kernel
theorem rd_Md_takesNumber_3 : decode mb_Md_takesNumber 3 = .ok (.invokevirtual 186, 3) := by decide +kernel
theorem rd_Md_takesNumber_6 : decode mb_Md_takesNumber 6 = .ok (.ifCond .ne 5, 3) := by decide +kernel
theorem rd_Md_takesNumber_9 : decode mb_Md_takesNumber 9 = .ok (.iconst 0, 1) := by decide +kernel
theorem rd_Md_takesNumber_10 : decode mb_Md_takesNumber 10 = .ok (.ireturn, 1) := by decide +kernel
theorem rd_Md_takesNumber_11 : decode mb_Md_takesNumber 11 = .ok (.aload_n 0, 1) := by decide +kernel
theorem rd_Md_takesNumber_12 : decode mb_Md_takesNumber 12 = .ok (.invokevirtual 189, 3) := by decide +kernel
theorem rd_Md_takesNumber_15 : decode mb_Md_takesNumber 15 = .ok (.iconst 1, 1) := by decide +kernel
theorem rd_Md_takesNumber_16 : decode mb_Md_takesNumber 16 = .ok (.ireturn, 1) := by decide +kernel
theorem rd_Md_takesSemicolon_0 : decode mb_Md_takesSemicolon 0 = .ok (.aload_n 0, 1) := by decide +kernel
theorem rd_Md_takesSemicolon_1 : decode mb_Md_takesSemicolon 1 = .ok (.getfield 158, 3) := by decide +kernel
theorem rd_Md_takesSemicolon_4 : decode mb_Md_takesSemicolon 4 = .ok (.iconst 3, 1) := by decide +kernel
theorem rd_Md_takesSemicolon_5 : decode mb_Md_takesSemicolon 5 = .ok (.if_icmp .eq 9, 3) := by decide +kernel
theorem rd_Md_takesSemicolon_8 : decode mb_Md_takesSemicolon 8 = .ok (.aload_n 0, 1) := by decide +kernel
theorem rd_Md_takesSemicolon_9 : decode mb_Md_takesSemicolon 9 = .ok (.iconst 1, 1) := by decide +kernel
theorem rd_Md_takesSemicolon_10 : decode mb_Md_takesSemicolon 10 = .ok (.invokevirtual 180, 3) := by decide +kernel
theorem rd_Md_takesSemicolon_13 : decode mb_Md_takesSemicolon 13 = .ok (.ireturn, 1) := by decide +kernel
theorem rd_Md_takesSemicolon_14 : decode mb_Md_takesSemicolon 14 = .ok (.aload_n 0, 1) := by decide +kernel
theorem rd_Md_takesSemicolon_15 : decode mb_Md_takesSemicolon 15 = .ok (.invokevirtual 189, 3) := by decide +kernel
theorem rd_Md_takesSemicolon_18 : decode mb_Md_takesSemicolon 18 = .ok (.iconst 1, 1) := by decide +kernel
theorem rd_Md_takesSemicolon_19 : decode mb_Md_takesSemicolon 19 = .ok (.ireturn, 1) := by decide +kernel
theorem rd_Md_seesName_0 : decode mb_Md_seesName 0 = .ok (.aload_n 0, 1) := by decide +kernel
theorem rd_Md_seesName_1 : decode mb_Md_seesName 1 = .ok (.getfield 158, 3) := by decide +kernel
theorem rd_Md_seesName_4 : decode mb_Md_seesName 4 = .ok (.iconst 1, 1) := by decide +kernel
theorem rd_Md_seesName_5 : decode mb_Md_seesName 5 = .ok (.if_icmp .ne 17, 3) := by decide +kernel
theorem rd_Md_seesName_8 : decode mb_Md_seesName 8 = .ok (.aload_n 0, 1) := by decide +kernel
theorem rd_Md_seesName_9 : decode mb_Md_seesName 9 = .ok (.getfield 149, 3) := by decide +kernel
theorem rd_Md_seesName_12 : decode mb_Md_seesName 12 = .ok (.aload_n 0, 1) := by decide +kernel
theorem rd_Md_seesName_13 : decode mb_Md_seesName 13 = .ok (.getfield 152, 3) := by decide +kernel
theorem rd_Md_seesName_16 : decode mb_Md_seesName 16 = .ok (.isub, 1) := by decide +kernel
theorem rd_Md_seesName_17 : decode mb_Md_seesName 17 = .ok (.bipush 6, 2) := by decide +kernel
theorem rd_Md_seesName_19 : decode mb_Md_seesName 19 = .ok (.if_icmp .le 11, 3) := by decide +kernel
theorem rd_Md_seesName_22 : decode mb_Md_seesName 22 = .ok (.aload_n 0, 1) := by decide +kernel
theorem rd_Md_seesName_23 : decode mb_Md_seesName 23 = .ok (.iconst 1, 1) := by decide +kernel
theorem rd_Md_seesName_24 : decode mb_Md_seesName 24 = .ok (.invokevirtual 180, 3) := by decide +kernel
theorem rd_Md_seesName_27 : decode mb_Md_seesName 27 = .ok (.ifCond .eq 7, 3) := by decide +kernel
theorem rd_Md_seesName_30 : decode mb_Md_seesName 30 = .ok (.iconst 1, 1) := by decide +kernel
theorem rd_Md_seesName_31 : decode mb_Md_seesName 31 = .ok (.goto 4, 3) := by decide +kernel
theorem rd_Md_seesName_34 : decode mb_Md_seesName 34 = .ok (.iconst 0, 1) := by decide +kernel
theorem rd_Md_seesName_35 : decode mb_Md_seesName 35 = .ok (.ireturn, 1) := by decide +kernel
theorem rd_Md_isNameAt_0 : decode mb_Md_isNameAt 0 = .ok (.aload_n 0, 1) := by decide +kernel
theorem rd_Md_isNameAt_1 : decode mb_Md_isNameAt 1 = .ok (.getfield 7, 3) := by decide +kernel
theorem rd_Md_isNameAt_4 : decode mb_Md_isNameAt 4 = .ok (.iload_n 1, 1) := by decide +kernel
theorem rd_Md_isNameAt_5 : decode mb_Md_isNameAt 5 = .ok (.iconst 0, 1) := by decide +kernel
theorem rd_Md_isNameAt_6 : decode mb_Md_isNameAt 6 = .ok (.iadd, 1) := by decide +kernel
theorem rd_Md_isNameAt_7 : decode mb_Md_isNameAt 7 = .ok (.iaload, 1) := by decide +kernel
theorem rd_Md_isNameAt_8 : decode mb_Md_isNameAt 8 = .ok (.aload_n 0, 1) := by decide +kernel
theorem rd_Md_isNameAt_9 : decode mb_Md_isNameAt 9 = .ok (.getfield 149, 3) := by decide +kernel
theorem rd_Md_isNameAt_12 : decode mb_Md_isNameAt 12 = .ok (.aload_n 0, 1) := by decide +kernel
theorem rd_Md_isNameAt_13 : decode mb_Md_isNameAt 13 = .ok (.getfield 152, 3) := by decide +kernel
theorem rd_Md_isNameAt_16 : decode mb_Md_isNameAt 16 = .ok (.isub, 1) := by decide +kernel
theorem rd_Md_isNameAt_17 : decode mb_Md_isNameAt 17 = .ok (.if_icmp .eq 5, 3) := by decide +kernel
theorem rd_Md_isNameAt_20 : decode mb_Md_isNameAt 20 = .ok (.iconst 0, 1) := by decide +kernel
theorem rd_Md_isNameAt_21 : decode mb_Md_isNameAt 21 = .ok (.ireturn, 1) := by decide +kernel
theorem rd_Md_isNameAt_22 : decode mb_Md_isNameAt 22 = .ok (.iconst 0, 1) := by decide +kernel
theorem rd_Md_isNameAt_23 : decode mb_Md_isNameAt 23 = .ok (.istore_n 2, 1) := by decide +kernel
theorem rd_Md_isNameAt_24 : decode mb_Md_isNameAt 24 = .ok (.iload_n 2, 1) := by decide +kernel
theorem rd_Md_isNameAt_25 : decode mb_Md_isNameAt 25 = .ok (.aload_n 0, 1) := by decide +kernel
theorem rd_Md_isNameAt_26 : decode mb_Md_isNameAt 26 = .ok (.getfield 149, 3) := by decide +kernel
theorem rd_Md_isNameAt_29 : decode mb_Md_isNameAt 29 = .ok (.aload_n 0, 1) := by decide +kernel
theorem rd_Md_isNameAt_30 : decode mb_Md_isNameAt 30 = .ok (.getfield 152, 3) := by decide +kernel
theorem rd_Md_isNameAt_33 : decode mb_Md_isNameAt 33 = .ok (.isub, 1) := by decide +kernel
theorem rd_Md_isNameAt_34 : decode mb_Md_isNameAt 34 = .ok (.if_icmp .ge 35, 3) := by decide +kernel
theorem rd_Md_isNameAt_37 : decode mb_Md_isNameAt 37 = .ok (.aload_n 0, 1) := by decide +kernel
theorem rd_Md_isNameAt_38 : decode mb_Md_isNameAt 38 = .ok (.getfield 7, 3) := by decide +kernel
theorem rd_Md_isNameAt_41 : decode mb_Md_isNameAt 41 = .ok (.iload_n 1, 1) := by decide +kernel
theorem rd_Md_isNameAt_42 : decode mb_Md_isNameAt 42 = .ok (.iconst 1, 1) := by decide +kernel
theorem rd_Md_isNameAt_43 : decode mb_Md_isNameAt 43 = .ok (.iadd, 1) := by decide +kernel
theorem rd_Md_isNameAt_44 : decode mb_Md_isNameAt 44 = .ok (.iload_n 2, 1) := by decide +kernel
theorem rd_Md_isNameAt_45 : decode mb_Md_isNameAt 45 = .ok (.iadd, 1) := by decide +kernel
theorem rd_Md_isNameAt_46 : decode mb_Md_isNameAt 46 = .ok (.iaload, 1) := by decide +kernel
theorem rd_Md_isNameAt_47 : decode mb_Md_isNameAt 47 = .ok (.aload_n 0, 1) := by decide +kernel
theorem rd_Md_isNameAt_48 : decode mb_Md_isNameAt 48 = .ok (.getfield 22, 3) := by decide +kernel
theorem rd_Md_isNameAt_51 : decode mb_Md_isNameAt 51 = .ok (.aload_n 0, 1) := by decide +kernel
theorem rd_Md_isNameAt_52 : decode mb_Md_isNameAt 52 = .ok (.getfield 152, 3) := by decide +kernel
theorem rd_Md_isNameAt_55 : decode mb_Md_isNameAt 55 = .ok (.iload_n 2, 1) := by decide +kernel
theorem rd_Md_isNameAt_56 : decode mb_Md_isNameAt 56 = .ok (.iadd, 1) := by decide +kernel
theorem rd_Md_isNameAt_57 : decode mb_Md_isNameAt 57 = .ok (.iaload, 1) := by decide +kernel
theorem rd_Md_isNameAt_58 : decode mb_Md_isNameAt 58 = .ok (.if_icmp .eq 5, 3) := by decide +kernel
theorem rd_Md_isNameAt_61 : decode mb_Md_isNameAt 61 = .ok (.iconst 0, 1) := by decide +kernel
theorem rd_Md_isNameAt_62 : decode mb_Md_isNameAt 62 = .ok (.ireturn, 1) := by decide +kernel
theorem rd_Md_isNameAt_63 : decode mb_Md_isNameAt 63 = .ok (.iinc 2 1, 3) := by decide +kernel
theorem rd_Md_isNameAt_66 : decode mb_Md_isNameAt 66 = .ok (.goto (-42), 3) := by decide +kernel
theorem rd_Md_isNameAt_69 : decode mb_Md_isNameAt 69 = .ok (.iconst 1, 1) := by decide +kernel
theorem rd_Md_isNameAt_70 : decode mb_Md_isNameAt 70 = .ok (.ireturn, 1) := by decide +kernel
theorem rd_Md_topicHere_0 : decode mb_Md_topicHere 0 = .ok (.iconst 0, 1) := by decide +kernel
theorem rd_Md_topicHere_1 : decode mb_Md_topicHere 1 = .ok (.istore_n 1, 1) := by decide +kernel
theorem rd_Md_topicHere_2 : decode mb_Md_topicHere 2 = .ok (.iload_n 1, 1) := by decide +kernel
theorem rd_Md_topicHere_3 : decode mb_Md_topicHere 3 = .ok (.aload_n 0, 1) := by decide +kernel
theorem rd_Md_topicHere_4 : decode mb_Md_topicHere 4 = .ok (.getfield 7, 3) := by decide +kernel
theorem rd_Md_topicHere_7 : decode mb_Md_topicHere 7 = .ok (.iconst 0, 1) := by decide +kernel
theorem rd_Md_topicHere_8 : decode mb_Md_topicHere 8 = .ok (.iaload, 1) := by decide +kernel
theorem rd_Md_topicHere_9 : decode mb_Md_topicHere 9 = .ok (.if_icmp .ge 24, 3) := by decide +kernel
theorem rd_Md_topicHere_12 : decode mb_Md_topicHere 12 = .ok (.aload_n 0, 1) := by decide +kernel
theorem rd_Md_topicHere_13 : decode mb_Md_topicHere 13 = .ok (.iconst 3, 1) := by decide +kernel
theorem rd_Md_topicHere_14 : decode mb_Md_topicHere 14 = .ok (.bipush 7, 2) := by decide +kernel
theorem rd_Md_topicHere_16 : decode mb_Md_topicHere 16 = .ok (.iload_n 1, 1) := by decide +kernel
theorem rd_Md_topicHere_17 : decode mb_Md_topicHere 17 = .ok (.imul, 1) := by decide +kernel
theorem rd_Md_topicHere_18 : decode mb_Md_topicHere 18 = .ok (.iadd, 1) := by decide +kernel
theorem rd_Md_topicHere_19 : decode mb_Md_topicHere 19 = .ok (.invokevirtual 192, 3) := by decide +kernel
theorem rd_Md_topicHere_22 : decode mb_Md_topicHere 22 = .ok (.ifCond .eq 5, 3) := by decide +kernel
theorem rd_Md_topicHere_25 : decode mb_Md_topicHere 25 = .ok (.iload_n 1, 1) := by decide +kernel
theorem rd_Md_topicHere_26 : decode mb_Md_topicHere 26 = .ok (.ireturn, 1) := by decide +kernel
theorem rd_Md_topicHere_27 : decode mb_Md_topicHere 27 = .ok (.iinc 1 1, 3) := by decide +kernel
theorem rd_Md_topicHere_30 : decode mb_Md_topicHere 30 = .ok (.goto (-28), 3) := by decide +kernel
theorem rd_Md_topicHere_33 : decode mb_Md_topicHere 33 = .ok (.iconst (-1), 1) := by decide +kernel
theorem rd_Md_topicHere_34 : decode mb_Md_topicHere 34 = .ok (.ireturn, 1) := by decide +kernel
theorem rd_Md_takes_0 : decode mb_Md_takes 0 = .ok (.aload_n 0, 1) := by decide +kernel
theorem rd_Md_takes_1 : decode mb_Md_takes 1 = .ok (.iload_n 2, 1) := by decide +kernel
theorem rd_Md_takes_2 : decode mb_Md_takes 2 = .ok (.iload_n 3, 1) := by decide +kernel
theorem rd_Md_takes_3 : decode mb_Md_takes 3 = .ok (.invokevirtual 195, 3) := by decide +kernel
theorem rd_Md_takes_6 : decode mb_Md_takes 6 = .ok (.ifCond .ne 5, 3) := by decide +kernel
theorem rd_Md_takes_9 : decode mb_Md_takes 9 = .ok (.iconst 0, 1) := by decide +kernel
theorem rd_Md_takes_10 : decode mb_Md_takes 10 = .ok (.ireturn, 1) := by decide +kernel
theorem rd_Md_takes_11 : decode mb_Md_takes 11 = .ok (.aload_n 0, 1) := by decide +kernel
theorem rd_Md_takes_12 : decode mb_Md_takes 12 = .ok (.getfield 29, 3) := by decide +kernel
theorem rd_Md_takes_15 : decode mb_Md_takes 15 = .ok (.iload_n 1, 1) := by decide +kernel
theorem rd_Md_takes_16 : decode mb_Md_takes 16 = .ok (.aload_n 0, 1) := by decide +kernel
theorem rd_Md_takes_17 : decode mb_Md_takes 17 = .ok (.getfield 183, 3) := by decide +kernel
theorem rd_Md_takes_20 : decode mb_Md_takes 20 = .ok (.iastore, 1) := by decide +kernel
theorem rd_Md_takes_21 : decode mb_Md_takes 21 = .ok (.iconst 1, 1) := by decide +kernel
theorem rd_Md_takes_22 : decode mb_Md_takes 22 = .ok (.ireturn, 1) := by decide +kernel
theorem rd_Md_takesTopic_0 : decode mb_Md_takesTopic 0 = .ok (.aload_n 0, 1) := by decide +kernel
theorem rd_Md_takesTopic_1 : decode mb_Md_takesTopic 1 = .ok (.invokevirtual 198, 3) := by decide +kernel
theorem rd_Md_takesTopic_4 : decode mb_Md_takesTopic 4 = .ok (.ifCond .ne 5, 3) := by decide +kernel
theorem rd_Md_takesTopic_7 : decode mb_Md_takesTopic 7 = .ok (.iconst 0, 1) := by decide +kernel
theorem rd_Md_takesTopic_8 : decode mb_Md_takesTopic 8 = .ok (.ireturn, 1) := by decide +kernel
theorem rd_Md_takesTopic_9 : decode mb_Md_takesTopic 9 = .ok (.aload_n 0, 1) := by decide +kernel
theorem rd_Md_takesTopic_10 : decode mb_Md_takesTopic 10 = .ok (.getfield 29, 3) := by decide +kernel
theorem rd_Md_takesTopic_13 : decode mb_Md_takesTopic 13 = .ok (.iload_n 1, 1) := by decide +kernel
theorem rd_Md_takesTopic_14 : decode mb_Md_takesTopic 14 = .ok (.aload_n 0, 1) := by decide +kernel
theorem rd_Md_takesTopic_15 : decode mb_Md_takesTopic 15 = .ok (.invokevirtual 201, 3) := by decide +kernel
theorem rd_Md_takesTopic_18 : decode mb_Md_takesTopic 18 = .ok (.iastore, 1) := by decide +kernel
theorem rd_Md_takesTopic_19 : decode mb_Md_takesTopic 19 = .ok (.aload_n 0, 1) := by decide +kernel
theorem rd_Md_takesTopic_20 : decode mb_Md_takesTopic 20 = .ok (.getfield 29, 3) := by decide +kernel
theorem rd_Md_takesTopic_23 : decode mb_Md_takesTopic 23 = .ok (.iload_n 1, 1) := by decide +kernel
theorem rd_Md_takesTopic_24 : decode mb_Md_takesTopic 24 = .ok (.iaload, 1) := by decide +kernel
theorem rd_Md_takesTopic_25 : decode mb_Md_takesTopic 25 = .ok (.iconst (-1), 1) := by decide +kernel
theorem rd_Md_takesTopic_26 : decode mb_Md_takesTopic 26 = .ok (.if_icmp .ne 9, 3) := by decide +kernel
theorem rd_Md_takesTopic_29 : decode mb_Md_takesTopic 29 = .ok (.aload_n 0, 1) := by decide +kernel
theorem rd_Md_takesTopic_30 : decode mb_Md_takesTopic 30 = .ok (.iconst 4, 1) := by decide +kernel
theorem rd_Md_takesTopic_31 : decode mb_Md_takesTopic 31 = .ok (.invokevirtual 180, 3) := by decide +kernel
theorem rd_Md_takesTopic_34 : decode mb_Md_takesTopic 34 = .ok (.ireturn, 1) := by decide +kernel
theorem rd_Md_takesTopic_35 : decode mb_Md_takesTopic 35 = .ok (.aload_n 0, 1) := by decide +kernel
theorem rd_Md_takesTopic_36 : decode mb_Md_takesTopic 36 = .ok (.invokevirtual 189, 3) := by decide +kernel
theorem rd_Md_takesTopic_39 : decode mb_Md_takesTopic 39 = .ok (.iconst 1, 1) := by decide +kernel
theorem rd_Md_takesTopic_40 : decode mb_Md_takesTopic 40 = .ok (.ireturn, 1) := by decide +kernel
def wd_Md_advanceToken (cI : ClassId) (a_t a_t_w a_t_wKept a_t_saved a_t_past a_t_input a_t_n a_t_order a_t_numbers a_t_output : Nat) (i_t_pastMany : Int) (i_t_isSaved : Int) (i_t_thrown : Int) (i_t_inputMany : Int) (i_t_lastError : Int) (i_t_lastOffset : Int) (i_t_error : Int) (i_t_offset : Int) (i_t_nextByte : Int) (i_t_begin : Int) (i_t_value : Int) (i_t_token : Int) (i_t_got : Int) (i_t_orders : Int) (i_t_outputMany : Int) (i_t_input : (Int → Int)) : va_W := [(a_t, .inr (11, [.ref a_t_w, .ref a_t_wKept, .ref a_t_saved, .ref a_t_past, jk_V i_t_pastMany, jk_V i_t_isSaved, jk_V i_t_thrown, .ref a_t_input, jk_V i_t_inputMany, jk_V i_t_lastError, jk_V i_t_lastOffset, jk_V i_t_error, jk_V i_t_offset, jk_V i_t_nextByte, jk_V i_t_begin, jk_V i_t_value, jk_V i_t_token, jk_V i_t_got, .ref a_t_n, .ref a_t_order, .ref a_t_numbers, jk_V i_t_orders, .ref a_t_output, jk_V i_t_outputMany])), (a_t_input, jk_W cI 700 i_t_input)]
set_option maxHeartbeats 4000000 in
set_option maxRecDepth 20000 in
theorem ct_Md_advanceToken (l : Launch) (D : va_G) (Z : (Nat → Prop) → State → Heap → Prop) (sq : Nat → Nat) (hZ : jk_ZK Z sq) (cI cR : ClassId) (a_t a_t_w a_t_wKept a_t_saved a_t_past a_t_input a_t_n a_t_order a_t_numbers a_t_output : Nat) (i_t_pastMany : Int) (i_t_isSaved : Int) (i_t_thrown : Int) (i_t_inputMany : Int) (i_t_lastError : Int) (i_t_lastOffset : Int) (i_t_error : Int) (i_t_offset : Int) (i_t_nextByte : Int) (i_t_begin : Int) (i_t_value : Int) (i_t_token : Int) (i_t_got : Int) (i_t_orders : Int) (i_t_outputMany : Int) (i_t_input : (Int → Int)) (q : Int × Int × Int × Int) (hf : fn_Md_advanceToken i_t_input i_t_inputMany i_t_nextByte i_t_begin i_t_value i_t_token = some q) : jk_MV l D jk_cl (jk_ty cI cR) Z mn_Md_advanceToken (.code mn_Md_advanceToken mb_Md_advanceToken 2 none :: jk_WA) (jk_rm 2 43) [.ref a_t] (wd_Md_advanceToken cI a_t a_t_w a_t_wKept a_t_saved a_t_past a_t_input a_t_n a_t_order a_t_numbers a_t_output i_t_pastMany i_t_isSaved i_t_thrown i_t_inputMany i_t_lastError i_t_lastOffset i_t_error i_t_offset i_t_nextByte i_t_begin i_t_value i_t_token i_t_got i_t_orders i_t_outputMany i_t_input) (wd_Md_advanceToken cI a_t a_t_w a_t_wKept a_t_saved a_t_past a_t_input a_t_n a_t_order a_t_numbers a_t_output i_t_pastMany i_t_isSaved i_t_thrown i_t_inputMany i_t_lastError i_t_lastOffset i_t_error i_t_offset q.1 q.2.1 q.2.2.1 q.2.2.2 i_t_got i_t_orders i_t_outputMany i_t_input) := by
  intro sz
  refine jk_body (by decide +kernel) (fun p e s m args below meth c hsz hz hin C => ?_) (Nat.le_of_ble_eq_true rfl)
  subst hsz
  unfold fn_Md_advanceToken at hf
  have bk_146 : ∀ (n : Nat) (t_nextByte : Int) (t_begin : Int) (t_value : Int) (t_token : Int), fn_Md_advanceToken_b146 n i_t_input i_t_inputMany t_nextByte t_begin t_value t_token = some q → jk_J p l e (jk_rm 2 43) s m args below meth c 0 0 (jk_QV below D jk_cl (jk_ty cI cR) (wd_Md_advanceToken cI a_t a_t_w a_t_wKept a_t_saved a_t_past a_t_input a_t_n a_t_order a_t_numbers a_t_output i_t_pastMany i_t_isSaved i_t_thrown i_t_inputMany i_t_lastError i_t_lastOffset i_t_error i_t_offset i_t_nextByte i_t_begin i_t_value i_t_token i_t_got i_t_orders i_t_outputMany i_t_input) (wd_Md_advanceToken cI a_t a_t_w a_t_wKept a_t_saved a_t_past a_t_input a_t_n a_t_order a_t_numbers a_t_output i_t_pastMany i_t_isSaved i_t_thrown i_t_inputMany i_t_lastError i_t_lastOffset i_t_error i_t_offset q.1 q.2.1 q.2.2.1 q.2.2.2 i_t_got i_t_orders i_t_outputMany i_t_input) args s) D jk_cl (va_A (wd_Md_advanceToken cI a_t a_t_w a_t_wKept a_t_saved a_t_past a_t_input a_t_n a_t_order a_t_numbers a_t_output i_t_pastMany i_t_isSaved i_t_thrown i_t_inputMany i_t_lastError i_t_lastOffset i_t_error i_t_offset i_t_nextByte i_t_begin i_t_value i_t_token i_t_got i_t_orders i_t_outputMany i_t_input) s.heap.size) 2 (wd_Md_advanceToken cI a_t a_t_w a_t_wKept a_t_saved a_t_past a_t_input a_t_n a_t_order a_t_numbers a_t_output i_t_pastMany i_t_isSaved i_t_thrown i_t_inputMany i_t_lastError i_t_lastOffset i_t_error i_t_offset t_nextByte t_begin t_value t_token i_t_got i_t_orders i_t_outputMany i_t_input) [(0, .ref a_t)] 146 [] := by
    intro n
    induction n with
    | zero => intro t_nextByte t_begin t_value t_token hf; exact nomatch (show none = some q from hf)
    | succ n ih =>
      intro t_nextByte t_begin t_value t_token hf
      rw [fn_Md_advanceToken_b146] at hf
      refine jk_aload_n C rd_Md_advanceToken_146 (k := 0) rfl ?_
      refine jk_aload_n C rd_Md_advanceToken_147 (k := 0) rfl ?_
      refine jk_get C in_Md (ci := 11) rfl 13 (by decide) tm_1276 0 rfl rfl rd_Md_advanceToken_148 ?_
      obtain ⟨q151, hq151, hf⟩ := jk_bind_h hf
      refine jk_callVi C hZ.1 hz (ct_Md_byteAt l D Z sq hZ cI cR a_t a_t_w a_t_wKept a_t_saved a_t_past a_t_input a_t_n a_t_order a_t_numbers a_t_output i_t_pastMany i_t_isSaved i_t_thrown i_t_inputMany i_t_lastError i_t_lastOffset i_t_error i_t_offset t_nextByte t_begin t_value t_token i_t_got i_t_orders i_t_outputMany i_t_input t_nextByte q151 hq151) tm_1370 tm_1372 sl_30 tm_15 tm_1373 na_Md_byteAt ⟨Nat.le_of_ble_eq_true rfl, Nat.le_of_ble_eq_true rfl⟩ rfl [0, 1] rfl rfl rfl (ws' := wd_Md_advanceToken cI a_t a_t_w a_t_wKept a_t_saved a_t_past a_t_input a_t_n a_t_order a_t_numbers a_t_output i_t_pastMany i_t_isSaved i_t_thrown i_t_inputMany i_t_lastError i_t_lastOffset i_t_error i_t_offset t_nextByte t_begin t_value t_token i_t_got i_t_orders i_t_outputMany i_t_input) rfl 0 11 rfl rfl rfl (st := []) rfl (Nat.le_of_ble_eq_true rfl) rd_Md_advanceToken_151 ?_ ⟨Nat.le_of_ble_eq_true rfl, Nat.le_of_ble_eq_true rfl⟩
      refine jk_bipush C rd_Md_advanceToken_154 (by decide +kernel) ?_
      refine jk_bipush C rd_Md_advanceToken_156 (by decide +kernel) ?_
      obtain ⟨q158, hq158, hf⟩ := jk_bind_h hf
      refine jk_callSi C hZ.1 hz (ct_Md_inRange l D Z sq hZ cI cR q151 48 57 q158 hq158) tm_1352 tm_1353 tm_15 tm_1354 na_Md_inRange ⟨Nat.le_of_ble_eq_true rfl, Nat.le_of_ble_eq_true rfl⟩ rfl [] rfl rfl rfl (ws' := wd_Md_advanceToken cI a_t a_t_w a_t_wKept a_t_saved a_t_past a_t_input a_t_n a_t_order a_t_numbers a_t_output i_t_pastMany i_t_isSaved i_t_thrown i_t_inputMany i_t_lastError i_t_lastOffset i_t_error i_t_offset t_nextByte t_begin t_value t_token i_t_got i_t_orders i_t_outputMany i_t_input) rfl (st := []) rfl (Nat.le_of_ble_eq_true rfl) rd_Md_advanceToken_158 ?_ ⟨Nat.le_of_ble_eq_true rfl, Nat.le_of_ble_eq_true rfl⟩
      refine jk_if_eq (tgt := 220) C rd_Md_advanceToken_161 (by decide) hf (fun _ hf => ?_) (fun _ hf => ?_)
      · refine jk_aload_n C rd_Md_advanceToken_220 (k := 0) rfl ?_
        refine jk_aload_n C rd_Md_advanceToken_221 (k := 0) rfl ?_
        refine jk_get C in_Md (ci := 11) rfl 13 (by decide) tm_1276 0 rfl rfl rd_Md_advanceToken_222 ?_
        refine jk_aload_n C rd_Md_advanceToken_225 (k := 0) rfl ?_
        refine jk_get C in_Md (ci := 11) rfl 14 (by decide) tm_1277 0 rfl rfl rd_Md_advanceToken_226 ?_
        refine jk_isub C rd_Md_advanceToken_229 ?_
        refine jk_iconst C rd_Md_advanceToken_230 ?_
        refine jk_icmp_le (tgt := 238) C rd_Md_advanceToken_231 (by decide) hf (fun _ hf => ?_) (fun _ hf => ?_)
        · refine jk_iconst C rd_Md_advanceToken_238 ?_
          refine jk_putf C in_Md ty_Md nm_Md (ci := 11) rfl 16 (by decide) tm_1279 rfl rfl rfl 0 rfl (Nat.le_of_ble_eq_true rfl) rd_Md_advanceToken_239 (ws' := wd_Md_advanceToken cI a_t a_t_w a_t_wKept a_t_saved a_t_past a_t_input a_t_n a_t_order a_t_numbers a_t_output i_t_pastMany i_t_isSaved i_t_thrown i_t_inputMany i_t_lastError i_t_lastOffset i_t_error i_t_offset t_nextByte t_begin t_value 2 i_t_got i_t_orders i_t_outputMany i_t_input) rfl ?_
          refine jk_goto (tgt := 270) C rd_Md_advanceToken_242 (by decide) ?_
          cases hf
          exact jk_vret C rfl rd_Md_advanceToken_270 rfl
        · refine jk_iconst C rd_Md_advanceToken_234 ?_
          refine jk_goto (tgt := 239) C rd_Md_advanceToken_235 (by decide) ?_
          refine jk_putf C in_Md ty_Md nm_Md (ci := 11) rfl 16 (by decide) tm_1279 rfl rfl rfl 0 rfl (Nat.le_of_ble_eq_true rfl) rd_Md_advanceToken_239 (ws' := wd_Md_advanceToken cI a_t a_t_w a_t_wKept a_t_saved a_t_past a_t_input a_t_n a_t_order a_t_numbers a_t_output i_t_pastMany i_t_isSaved i_t_thrown i_t_inputMany i_t_lastError i_t_lastOffset i_t_error i_t_offset t_nextByte t_begin t_value 4 i_t_got i_t_orders i_t_outputMany i_t_input) rfl ?_
          refine jk_goto (tgt := 270) C rd_Md_advanceToken_242 (by decide) ?_
          cases hf
          exact jk_vret C rfl rd_Md_advanceToken_270 rfl
      · refine jk_aload_n C rd_Md_advanceToken_164 (k := 0) rfl ?_
        refine jk_aload_n C rd_Md_advanceToken_165 (k := 0) rfl ?_
        refine jk_get C in_Md (ci := 11) rfl 13 (by decide) tm_1276 0 rfl rfl rd_Md_advanceToken_166 ?_
        refine jk_aload_n C rd_Md_advanceToken_169 (k := 0) rfl ?_
        refine jk_get C in_Md (ci := 11) rfl 14 (by decide) tm_1277 0 rfl rfl rd_Md_advanceToken_170 ?_
        refine jk_isub C rd_Md_advanceToken_173 ?_
        refine jk_iconst C rd_Md_advanceToken_174 ?_
        refine jk_icmp_ge (tgt := 200) C rd_Md_advanceToken_175 (by decide) hf (fun _ hf => ?_) (fun _ hf => ?_)
        · refine jk_aload_n C rd_Md_advanceToken_200 (k := 0) rfl ?_
          refine jk_get C in_Md (ci := 11) rfl 15 (by decide) tm_1278 0 rfl rfl rd_Md_advanceToken_201 ?_
          refine jk_putf C in_Md ty_Md nm_Md (ci := 11) rfl 15 (by decide) tm_1278 rfl rfl rfl 0 rfl (Nat.le_of_ble_eq_true rfl) rd_Md_advanceToken_204 (ws' := wd_Md_advanceToken cI a_t a_t_w a_t_wKept a_t_saved a_t_past a_t_input a_t_n a_t_order a_t_numbers a_t_output i_t_pastMany i_t_isSaved i_t_thrown i_t_inputMany i_t_lastError i_t_lastOffset i_t_error i_t_offset t_nextByte t_begin t_value t_token i_t_got i_t_orders i_t_outputMany i_t_input) rfl ?_
          refine jk_aload_n C rd_Md_advanceToken_207 (k := 0) rfl ?_
          refine jk_dup C rd_Md_advanceToken_208 rfl ?_
          refine jk_get C in_Md (ci := 11) rfl 13 (by decide) tm_1276 0 rfl rfl rd_Md_advanceToken_209 ?_
          refine jk_iconst C rd_Md_advanceToken_212 ?_
          refine jk_iadd C rd_Md_advanceToken_213 ?_
          refine jk_putf C in_Md ty_Md nm_Md (ci := 11) rfl 13 (by decide) tm_1276 rfl rfl rfl 0 rfl (Nat.le_of_ble_eq_true rfl) rd_Md_advanceToken_214 (ws' := wd_Md_advanceToken cI a_t a_t_w a_t_wKept a_t_saved a_t_past a_t_input a_t_n a_t_order a_t_numbers a_t_output i_t_pastMany i_t_isSaved i_t_thrown i_t_inputMany i_t_lastError i_t_lastOffset i_t_error i_t_offset (t_nextByte + 1) t_begin t_value t_token i_t_got i_t_orders i_t_outputMany i_t_input) rfl ?_
          refine jk_goto (tgt := 146) C rd_Md_advanceToken_217 (by decide) ?_
          refine jk_lv (lv' := [(0, .ref a_t)]) [0] rfl ?_
          exact ih (t_nextByte + 1) t_begin t_value t_token hf
        · refine jk_bipush C rd_Md_advanceToken_178 (by decide +kernel) ?_
          refine jk_aload_n C rd_Md_advanceToken_180 (k := 0) rfl ?_
          refine jk_get C in_Md (ci := 11) rfl 15 (by decide) tm_1278 0 rfl rfl rd_Md_advanceToken_181 ?_
          refine jk_imul C rd_Md_advanceToken_184 ?_
          refine jk_aload_n C rd_Md_advanceToken_185 (k := 0) rfl ?_
          refine jk_aload_n C rd_Md_advanceToken_186 (k := 0) rfl ?_
          refine jk_get C in_Md (ci := 11) rfl 13 (by decide) tm_1276 0 rfl rfl rd_Md_advanceToken_187 ?_
          obtain ⟨q190, hq190, hf⟩ := jk_bind_h hf
          refine jk_callVi C hZ.1 hz (ct_Md_byteAt l D Z sq hZ cI cR a_t a_t_w a_t_wKept a_t_saved a_t_past a_t_input a_t_n a_t_order a_t_numbers a_t_output i_t_pastMany i_t_isSaved i_t_thrown i_t_inputMany i_t_lastError i_t_lastOffset i_t_error i_t_offset t_nextByte t_begin t_value t_token i_t_got i_t_orders i_t_outputMany i_t_input t_nextByte q190 hq190) tm_1370 tm_1372 sl_30 tm_15 tm_1373 na_Md_byteAt ⟨Nat.le_of_ble_eq_true rfl, Nat.le_of_ble_eq_true rfl⟩ rfl [0, 1] rfl rfl rfl (ws' := wd_Md_advanceToken cI a_t a_t_w a_t_wKept a_t_saved a_t_past a_t_input a_t_n a_t_order a_t_numbers a_t_output i_t_pastMany i_t_isSaved i_t_thrown i_t_inputMany i_t_lastError i_t_lastOffset i_t_error i_t_offset t_nextByte t_begin t_value t_token i_t_got i_t_orders i_t_outputMany i_t_input) rfl 0 11 rfl rfl rfl (st := [jk_V (10 * t_value), .ref a_t]) rfl (Nat.le_of_ble_eq_true rfl) rd_Md_advanceToken_190 ?_ ⟨Nat.le_of_ble_eq_true rfl, Nat.le_of_ble_eq_true rfl⟩
          refine jk_iadd C rd_Md_advanceToken_193 ?_
          refine jk_bipush C rd_Md_advanceToken_194 (by decide +kernel) ?_
          refine jk_isub C rd_Md_advanceToken_196 ?_
          refine jk_goto (tgt := 204) C rd_Md_advanceToken_197 (by decide) ?_
          refine jk_putf C in_Md ty_Md nm_Md (ci := 11) rfl 15 (by decide) tm_1278 rfl rfl rfl 0 rfl (Nat.le_of_ble_eq_true rfl) rd_Md_advanceToken_204 (ws' := wd_Md_advanceToken cI a_t a_t_w a_t_wKept a_t_saved a_t_past a_t_input a_t_n a_t_order a_t_numbers a_t_output i_t_pastMany i_t_isSaved i_t_thrown i_t_inputMany i_t_lastError i_t_lastOffset i_t_error i_t_offset t_nextByte t_begin (((10 * t_value) + q190) - 48) t_token i_t_got i_t_orders i_t_outputMany i_t_input) rfl ?_
          refine jk_aload_n C rd_Md_advanceToken_207 (k := 0) rfl ?_
          refine jk_dup C rd_Md_advanceToken_208 rfl ?_
          refine jk_get C in_Md (ci := 11) rfl 13 (by decide) tm_1276 0 rfl rfl rd_Md_advanceToken_209 ?_
          refine jk_iconst C rd_Md_advanceToken_212 ?_
          refine jk_iadd C rd_Md_advanceToken_213 ?_
          refine jk_putf C in_Md ty_Md nm_Md (ci := 11) rfl 13 (by decide) tm_1276 rfl rfl rfl 0 rfl (Nat.le_of_ble_eq_true rfl) rd_Md_advanceToken_214 (ws' := wd_Md_advanceToken cI a_t a_t_w a_t_wKept a_t_saved a_t_past a_t_input a_t_n a_t_order a_t_numbers a_t_output i_t_pastMany i_t_isSaved i_t_thrown i_t_inputMany i_t_lastError i_t_lastOffset i_t_error i_t_offset (t_nextByte + 1) t_begin (((10 * t_value) + q190) - 48) t_token i_t_got i_t_orders i_t_outputMany i_t_input) rfl ?_
          refine jk_goto (tgt := 146) C rd_Md_advanceToken_217 (by decide) ?_
          refine jk_lv (lv' := [(0, .ref a_t)]) [0] rfl ?_
          exact ih (t_nextByte + 1) t_begin (((10 * t_value) + q190) - 48) t_token hf
  have bk_85 : ∀ (n : Nat) (t_nextByte : Int) (t_begin : Int) (t_value : Int) (t_token : Int), fn_Md_advanceToken_b85 n i_t_input i_t_inputMany t_nextByte t_begin t_value t_token = some q → jk_J p l e (jk_rm 2 43) s m args below meth c 0 0 (jk_QV below D jk_cl (jk_ty cI cR) (wd_Md_advanceToken cI a_t a_t_w a_t_wKept a_t_saved a_t_past a_t_input a_t_n a_t_order a_t_numbers a_t_output i_t_pastMany i_t_isSaved i_t_thrown i_t_inputMany i_t_lastError i_t_lastOffset i_t_error i_t_offset i_t_nextByte i_t_begin i_t_value i_t_token i_t_got i_t_orders i_t_outputMany i_t_input) (wd_Md_advanceToken cI a_t a_t_w a_t_wKept a_t_saved a_t_past a_t_input a_t_n a_t_order a_t_numbers a_t_output i_t_pastMany i_t_isSaved i_t_thrown i_t_inputMany i_t_lastError i_t_lastOffset i_t_error i_t_offset q.1 q.2.1 q.2.2.1 q.2.2.2 i_t_got i_t_orders i_t_outputMany i_t_input) args s) D jk_cl (va_A (wd_Md_advanceToken cI a_t a_t_w a_t_wKept a_t_saved a_t_past a_t_input a_t_n a_t_order a_t_numbers a_t_output i_t_pastMany i_t_isSaved i_t_thrown i_t_inputMany i_t_lastError i_t_lastOffset i_t_error i_t_offset i_t_nextByte i_t_begin i_t_value i_t_token i_t_got i_t_orders i_t_outputMany i_t_input) s.heap.size) 2 (wd_Md_advanceToken cI a_t a_t_w a_t_wKept a_t_saved a_t_past a_t_input a_t_n a_t_order a_t_numbers a_t_output i_t_pastMany i_t_isSaved i_t_thrown i_t_inputMany i_t_lastError i_t_lastOffset i_t_error i_t_offset t_nextByte t_begin t_value t_token i_t_got i_t_orders i_t_outputMany i_t_input) [(0, .ref a_t)] 85 [] := by
    intro n
    induction n with
    | zero => intro t_nextByte t_begin t_value t_token hf; exact nomatch (show none = some q from hf)
    | succ n ih =>
      intro t_nextByte t_begin t_value t_token hf
      rw [fn_Md_advanceToken_b85] at hf
      refine jk_aload_n C rd_Md_advanceToken_85 (k := 0) rfl ?_
      refine jk_aload_n C rd_Md_advanceToken_86 (k := 0) rfl ?_
      refine jk_get C in_Md (ci := 11) rfl 13 (by decide) tm_1276 0 rfl rfl rd_Md_advanceToken_87 ?_
      obtain ⟨q90, hq90, hf⟩ := jk_bind_h hf
      refine jk_callVi C hZ.1 hz (ct_Md_isLetter l D Z sq hZ cI cR a_t a_t_w a_t_wKept a_t_saved a_t_past a_t_input a_t_n a_t_order a_t_numbers a_t_output i_t_pastMany i_t_isSaved i_t_thrown i_t_inputMany i_t_lastError i_t_lastOffset i_t_error i_t_offset t_nextByte t_begin t_value t_token i_t_got i_t_orders i_t_outputMany i_t_input t_nextByte q90 hq90) tm_1374 tm_1376 sl_31 tm_15 tm_1377 na_Md_isLetter ⟨Nat.le_of_ble_eq_true rfl, Nat.le_of_ble_eq_true rfl⟩ rfl [0, 1] rfl rfl rfl (ws' := wd_Md_advanceToken cI a_t a_t_w a_t_wKept a_t_saved a_t_past a_t_input a_t_n a_t_order a_t_numbers a_t_output i_t_pastMany i_t_isSaved i_t_thrown i_t_inputMany i_t_lastError i_t_lastOffset i_t_error i_t_offset t_nextByte t_begin t_value t_token i_t_got i_t_orders i_t_outputMany i_t_input) rfl 0 11 rfl rfl rfl (st := []) rfl (Nat.le_of_ble_eq_true rfl) rd_Md_advanceToken_90 ?_ ⟨Nat.le_of_ble_eq_true rfl, Nat.le_of_ble_eq_true rfl⟩
      refine jk_if_eq (tgt := 109) C rd_Md_advanceToken_93 (by decide) hf (fun _ hf => ?_) (fun _ hf => ?_)
      · refine jk_aload_n C rd_Md_advanceToken_109 (k := 0) rfl ?_
        refine jk_aload_n C rd_Md_advanceToken_110 (k := 0) rfl ?_
        refine jk_get C in_Md (ci := 11) rfl 13 (by decide) tm_1276 0 rfl rfl rd_Md_advanceToken_111 ?_
        refine jk_aload_n C rd_Md_advanceToken_114 (k := 0) rfl ?_
        refine jk_get C in_Md (ci := 11) rfl 14 (by decide) tm_1277 0 rfl rfl rd_Md_advanceToken_115 ?_
        refine jk_isub C rd_Md_advanceToken_118 ?_
        refine jk_bipush C rd_Md_advanceToken_119 (by decide +kernel) ?_
        refine jk_icmp_le (tgt := 128) C rd_Md_advanceToken_121 (by decide) hf (fun _ hf => ?_) (fun _ hf => ?_)
        · refine jk_iconst C rd_Md_advanceToken_128 ?_
          refine jk_putf C in_Md ty_Md nm_Md (ci := 11) rfl 16 (by decide) tm_1279 rfl rfl rfl 0 rfl (Nat.le_of_ble_eq_true rfl) rd_Md_advanceToken_129 (ws' := wd_Md_advanceToken cI a_t a_t_w a_t_wKept a_t_saved a_t_past a_t_input a_t_n a_t_order a_t_numbers a_t_output i_t_pastMany i_t_isSaved i_t_thrown i_t_inputMany i_t_lastError i_t_lastOffset i_t_error i_t_offset t_nextByte t_begin t_value 1 i_t_got i_t_orders i_t_outputMany i_t_input) rfl ?_
          refine jk_goto (tgt := 270) C rd_Md_advanceToken_132 (by decide) ?_
          cases hf
          exact jk_vret C rfl rd_Md_advanceToken_270 rfl
        · refine jk_iconst C rd_Md_advanceToken_124 ?_
          refine jk_goto (tgt := 129) C rd_Md_advanceToken_125 (by decide) ?_
          refine jk_putf C in_Md ty_Md nm_Md (ci := 11) rfl 16 (by decide) tm_1279 rfl rfl rfl 0 rfl (Nat.le_of_ble_eq_true rfl) rd_Md_advanceToken_129 (ws' := wd_Md_advanceToken cI a_t a_t_w a_t_wKept a_t_saved a_t_past a_t_input a_t_n a_t_order a_t_numbers a_t_output i_t_pastMany i_t_isSaved i_t_thrown i_t_inputMany i_t_lastError i_t_lastOffset i_t_error i_t_offset t_nextByte t_begin t_value 4 i_t_got i_t_orders i_t_outputMany i_t_input) rfl ?_
          refine jk_goto (tgt := 270) C rd_Md_advanceToken_132 (by decide) ?_
          cases hf
          exact jk_vret C rfl rd_Md_advanceToken_270 rfl
      · refine jk_aload_n C rd_Md_advanceToken_96 (k := 0) rfl ?_
        refine jk_dup C rd_Md_advanceToken_97 rfl ?_
        refine jk_get C in_Md (ci := 11) rfl 13 (by decide) tm_1276 0 rfl rfl rd_Md_advanceToken_98 ?_
        refine jk_iconst C rd_Md_advanceToken_101 ?_
        refine jk_iadd C rd_Md_advanceToken_102 ?_
        refine jk_putf C in_Md ty_Md nm_Md (ci := 11) rfl 13 (by decide) tm_1276 rfl rfl rfl 0 rfl (Nat.le_of_ble_eq_true rfl) rd_Md_advanceToken_103 (ws' := wd_Md_advanceToken cI a_t a_t_w a_t_wKept a_t_saved a_t_past a_t_input a_t_n a_t_order a_t_numbers a_t_output i_t_pastMany i_t_isSaved i_t_thrown i_t_inputMany i_t_lastError i_t_lastOffset i_t_error i_t_offset (t_nextByte + 1) t_begin t_value t_token i_t_got i_t_orders i_t_outputMany i_t_input) rfl ?_
        refine jk_goto (tgt := 85) C rd_Md_advanceToken_106 (by decide) ?_
        refine jk_lv (lv' := [(0, .ref a_t)]) [0] rfl ?_
        exact ih (t_nextByte + 1) t_begin t_value t_token hf
  have bk_0 : ∀ (n : Nat) (t_nextByte : Int) (t_begin : Int) (t_value : Int) (t_token : Int), fn_Md_advanceToken_b0 n i_t_input i_t_inputMany t_nextByte t_begin t_value t_token = some q → jk_J p l e (jk_rm 2 43) s m args below meth c 0 0 (jk_QV below D jk_cl (jk_ty cI cR) (wd_Md_advanceToken cI a_t a_t_w a_t_wKept a_t_saved a_t_past a_t_input a_t_n a_t_order a_t_numbers a_t_output i_t_pastMany i_t_isSaved i_t_thrown i_t_inputMany i_t_lastError i_t_lastOffset i_t_error i_t_offset i_t_nextByte i_t_begin i_t_value i_t_token i_t_got i_t_orders i_t_outputMany i_t_input) (wd_Md_advanceToken cI a_t a_t_w a_t_wKept a_t_saved a_t_past a_t_input a_t_n a_t_order a_t_numbers a_t_output i_t_pastMany i_t_isSaved i_t_thrown i_t_inputMany i_t_lastError i_t_lastOffset i_t_error i_t_offset q.1 q.2.1 q.2.2.1 q.2.2.2 i_t_got i_t_orders i_t_outputMany i_t_input) args s) D jk_cl (va_A (wd_Md_advanceToken cI a_t a_t_w a_t_wKept a_t_saved a_t_past a_t_input a_t_n a_t_order a_t_numbers a_t_output i_t_pastMany i_t_isSaved i_t_thrown i_t_inputMany i_t_lastError i_t_lastOffset i_t_error i_t_offset i_t_nextByte i_t_begin i_t_value i_t_token i_t_got i_t_orders i_t_outputMany i_t_input) s.heap.size) 2 (wd_Md_advanceToken cI a_t a_t_w a_t_wKept a_t_saved a_t_past a_t_input a_t_n a_t_order a_t_numbers a_t_output i_t_pastMany i_t_isSaved i_t_thrown i_t_inputMany i_t_lastError i_t_lastOffset i_t_error i_t_offset t_nextByte t_begin t_value t_token i_t_got i_t_orders i_t_outputMany i_t_input) [(0, .ref a_t)] 0 [] := by
    intro n
    induction n with
    | zero => intro t_nextByte t_begin t_value t_token hf; exact nomatch (show none = some q from hf)
    | succ n ih =>
      intro t_nextByte t_begin t_value t_token hf
      rw [fn_Md_advanceToken_b0] at hf
      refine jk_aload_n C rd_Md_advanceToken_0 (k := 0) rfl ?_
      refine jk_aload_n C rd_Md_advanceToken_1 (k := 0) rfl ?_
      refine jk_get C in_Md (ci := 11) rfl 13 (by decide) tm_1276 0 rfl rfl rd_Md_advanceToken_2 ?_
      obtain ⟨q5, hq5, hf⟩ := jk_bind_h hf
      refine jk_callVi C hZ.1 hz (ct_Md_byteAt l D Z sq hZ cI cR a_t a_t_w a_t_wKept a_t_saved a_t_past a_t_input a_t_n a_t_order a_t_numbers a_t_output i_t_pastMany i_t_isSaved i_t_thrown i_t_inputMany i_t_lastError i_t_lastOffset i_t_error i_t_offset t_nextByte t_begin t_value t_token i_t_got i_t_orders i_t_outputMany i_t_input t_nextByte q5 hq5) tm_1370 tm_1372 sl_30 tm_15 tm_1373 na_Md_byteAt ⟨Nat.le_of_ble_eq_true rfl, Nat.le_of_ble_eq_true rfl⟩ rfl [0, 1] rfl rfl rfl (ws' := wd_Md_advanceToken cI a_t a_t_w a_t_wKept a_t_saved a_t_past a_t_input a_t_n a_t_order a_t_numbers a_t_output i_t_pastMany i_t_isSaved i_t_thrown i_t_inputMany i_t_lastError i_t_lastOffset i_t_error i_t_offset t_nextByte t_begin t_value t_token i_t_got i_t_orders i_t_outputMany i_t_input) rfl 0 11 rfl rfl rfl (st := []) rfl (Nat.le_of_ble_eq_true rfl) rd_Md_advanceToken_5 ?_ ⟨Nat.le_of_ble_eq_true rfl, Nat.le_of_ble_eq_true rfl⟩
      refine jk_bipush C rd_Md_advanceToken_8 (by decide +kernel) ?_
      refine jk_icmp_eq (tgt := 26) C rd_Md_advanceToken_10 (by decide) hf (fun _ hf => ?_) (fun _ hf => ?_)
      · refine jk_aload_n C rd_Md_advanceToken_26 (k := 0) rfl ?_
        refine jk_dup C rd_Md_advanceToken_27 rfl ?_
        refine jk_get C in_Md (ci := 11) rfl 13 (by decide) tm_1276 0 rfl rfl rd_Md_advanceToken_28 ?_
        refine jk_iconst C rd_Md_advanceToken_31 ?_
        refine jk_iadd C rd_Md_advanceToken_32 ?_
        refine jk_putf C in_Md ty_Md nm_Md (ci := 11) rfl 13 (by decide) tm_1276 rfl rfl rfl 0 rfl (Nat.le_of_ble_eq_true rfl) rd_Md_advanceToken_33 (ws' := wd_Md_advanceToken cI a_t a_t_w a_t_wKept a_t_saved a_t_past a_t_input a_t_n a_t_order a_t_numbers a_t_output i_t_pastMany i_t_isSaved i_t_thrown i_t_inputMany i_t_lastError i_t_lastOffset i_t_error i_t_offset (t_nextByte + 1) t_begin t_value t_token i_t_got i_t_orders i_t_outputMany i_t_input) rfl ?_
        refine jk_goto (tgt := 0) C rd_Md_advanceToken_36 (by decide) ?_
        refine jk_lv (lv' := [(0, .ref a_t)]) [0] rfl ?_
        exact ih (t_nextByte + 1) t_begin t_value t_token hf
      · refine jk_aload_n C rd_Md_advanceToken_13 (k := 0) rfl ?_
        refine jk_aload_n C rd_Md_advanceToken_14 (k := 0) rfl ?_
        refine jk_get C in_Md (ci := 11) rfl 13 (by decide) tm_1276 0 rfl rfl rd_Md_advanceToken_15 ?_
        obtain ⟨q18, hq18, hf⟩ := jk_bind_h hf
        refine jk_callVi C hZ.1 hz (ct_Md_byteAt l D Z sq hZ cI cR a_t a_t_w a_t_wKept a_t_saved a_t_past a_t_input a_t_n a_t_order a_t_numbers a_t_output i_t_pastMany i_t_isSaved i_t_thrown i_t_inputMany i_t_lastError i_t_lastOffset i_t_error i_t_offset t_nextByte t_begin t_value t_token i_t_got i_t_orders i_t_outputMany i_t_input t_nextByte q18 hq18) tm_1370 tm_1372 sl_30 tm_15 tm_1373 na_Md_byteAt ⟨Nat.le_of_ble_eq_true rfl, Nat.le_of_ble_eq_true rfl⟩ rfl [0, 1] rfl rfl rfl (ws' := wd_Md_advanceToken cI a_t a_t_w a_t_wKept a_t_saved a_t_past a_t_input a_t_n a_t_order a_t_numbers a_t_output i_t_pastMany i_t_isSaved i_t_thrown i_t_inputMany i_t_lastError i_t_lastOffset i_t_error i_t_offset t_nextByte t_begin t_value t_token i_t_got i_t_orders i_t_outputMany i_t_input) rfl 0 11 rfl rfl rfl (st := []) rfl (Nat.le_of_ble_eq_true rfl) rd_Md_advanceToken_18 ?_ ⟨Nat.le_of_ble_eq_true rfl, Nat.le_of_ble_eq_true rfl⟩
        refine jk_bipush C rd_Md_advanceToken_21 (by decide +kernel) ?_
        refine jk_icmp_ne (tgt := 39) C rd_Md_advanceToken_23 (by decide) hf (fun _ hf => ?_) (fun _ hf => ?_)
        · refine jk_aload_n C rd_Md_advanceToken_39 (k := 0) rfl ?_
          refine jk_aload_n C rd_Md_advanceToken_40 (k := 0) rfl ?_
          refine jk_get C in_Md (ci := 11) rfl 13 (by decide) tm_1276 0 rfl rfl rd_Md_advanceToken_41 ?_
          refine jk_putf C in_Md ty_Md nm_Md (ci := 11) rfl 14 (by decide) tm_1277 rfl rfl rfl 0 rfl (Nat.le_of_ble_eq_true rfl) rd_Md_advanceToken_44 (ws' := wd_Md_advanceToken cI a_t a_t_w a_t_wKept a_t_saved a_t_past a_t_input a_t_n a_t_order a_t_numbers a_t_output i_t_pastMany i_t_isSaved i_t_thrown i_t_inputMany i_t_lastError i_t_lastOffset i_t_error i_t_offset t_nextByte t_nextByte t_value t_token i_t_got i_t_orders i_t_outputMany i_t_input) rfl ?_
          refine jk_aload_n C rd_Md_advanceToken_47 (k := 0) rfl ?_
          refine jk_aload_n C rd_Md_advanceToken_48 (k := 0) rfl ?_
          refine jk_get C in_Md (ci := 11) rfl 13 (by decide) tm_1276 0 rfl rfl rd_Md_advanceToken_49 ?_
          obtain ⟨q52, hq52, hf⟩ := jk_bind_h hf
          refine jk_callVi C hZ.1 hz (ct_Md_byteAt l D Z sq hZ cI cR a_t a_t_w a_t_wKept a_t_saved a_t_past a_t_input a_t_n a_t_order a_t_numbers a_t_output i_t_pastMany i_t_isSaved i_t_thrown i_t_inputMany i_t_lastError i_t_lastOffset i_t_error i_t_offset t_nextByte t_nextByte t_value t_token i_t_got i_t_orders i_t_outputMany i_t_input t_nextByte q52 hq52) tm_1370 tm_1372 sl_30 tm_15 tm_1373 na_Md_byteAt ⟨Nat.le_of_ble_eq_true rfl, Nat.le_of_ble_eq_true rfl⟩ rfl [0, 1] rfl rfl rfl (ws' := wd_Md_advanceToken cI a_t a_t_w a_t_wKept a_t_saved a_t_past a_t_input a_t_n a_t_order a_t_numbers a_t_output i_t_pastMany i_t_isSaved i_t_thrown i_t_inputMany i_t_lastError i_t_lastOffset i_t_error i_t_offset t_nextByte t_nextByte t_value t_token i_t_got i_t_orders i_t_outputMany i_t_input) rfl 0 11 rfl rfl rfl (st := []) rfl (Nat.le_of_ble_eq_true rfl) rd_Md_advanceToken_52 ?_ ⟨Nat.le_of_ble_eq_true rfl, Nat.le_of_ble_eq_true rfl⟩
          refine jk_istore_n C rd_Md_advanceToken_55 (by decide) (lv' := [(1, jk_V q52), (0, .ref a_t)]) rfl ?_
          refine jk_aload_n C rd_Md_advanceToken_56 (k := 1) rfl ?_
          refine jk_iconst C rd_Md_advanceToken_57 ?_
          refine jk_putf C in_Md ty_Md nm_Md (ci := 11) rfl 15 (by decide) tm_1278 rfl rfl rfl 0 rfl (Nat.le_of_ble_eq_true rfl) rd_Md_advanceToken_58 (ws' := wd_Md_advanceToken cI a_t a_t_w a_t_wKept a_t_saved a_t_past a_t_input a_t_n a_t_order a_t_numbers a_t_output i_t_pastMany i_t_isSaved i_t_thrown i_t_inputMany i_t_lastError i_t_lastOffset i_t_error i_t_offset t_nextByte t_nextByte 0 t_token i_t_got i_t_orders i_t_outputMany i_t_input) rfl ?_
          refine jk_iload_n C rd_Md_advanceToken_61 (k := 0) rfl ?_
          refine jk_iconst C rd_Md_advanceToken_62 ?_
          refine jk_icmp_ne (tgt := 74) C rd_Md_advanceToken_63 (by decide) hf (fun _ hf => ?_) (fun _ hf => ?_)
          · refine jk_aload_n C rd_Md_advanceToken_74 (k := 1) rfl ?_
            refine jk_aload_n C rd_Md_advanceToken_75 (k := 1) rfl ?_
            refine jk_get C in_Md (ci := 11) rfl 13 (by decide) tm_1276 0 rfl rfl rd_Md_advanceToken_76 ?_
            obtain ⟨q79, hq79, hf⟩ := jk_bind_h hf
            refine jk_callVi C hZ.1 hz (ct_Md_isLetter l D Z sq hZ cI cR a_t a_t_w a_t_wKept a_t_saved a_t_past a_t_input a_t_n a_t_order a_t_numbers a_t_output i_t_pastMany i_t_isSaved i_t_thrown i_t_inputMany i_t_lastError i_t_lastOffset i_t_error i_t_offset t_nextByte t_nextByte 0 t_token i_t_got i_t_orders i_t_outputMany i_t_input t_nextByte q79 hq79) tm_1374 tm_1376 sl_31 tm_15 tm_1377 na_Md_isLetter ⟨Nat.le_of_ble_eq_true rfl, Nat.le_of_ble_eq_true rfl⟩ rfl [0, 1] rfl rfl rfl (ws' := wd_Md_advanceToken cI a_t a_t_w a_t_wKept a_t_saved a_t_past a_t_input a_t_n a_t_order a_t_numbers a_t_output i_t_pastMany i_t_isSaved i_t_thrown i_t_inputMany i_t_lastError i_t_lastOffset i_t_error i_t_offset t_nextByte t_nextByte 0 t_token i_t_got i_t_orders i_t_outputMany i_t_input) rfl 0 11 rfl rfl rfl (st := []) rfl (Nat.le_of_ble_eq_true rfl) rd_Md_advanceToken_79 ?_ ⟨Nat.le_of_ble_eq_true rfl, Nat.le_of_ble_eq_true rfl⟩
            refine jk_if_eq (tgt := 135) C rd_Md_advanceToken_82 (by decide) hf (fun _ hf => ?_) (fun _ hf => ?_)
            · refine jk_iload_n C rd_Md_advanceToken_135 (k := 0) rfl ?_
              refine jk_bipush C rd_Md_advanceToken_136 (by decide +kernel) ?_
              refine jk_bipush C rd_Md_advanceToken_138 (by decide +kernel) ?_
              obtain ⟨q140, hq140, hf⟩ := jk_bind_h hf
              refine jk_callSi C hZ.1 hz (ct_Md_inRange l D Z sq hZ cI cR q52 48 57 q140 hq140) tm_1352 tm_1353 tm_15 tm_1354 na_Md_inRange ⟨Nat.le_of_ble_eq_true rfl, Nat.le_of_ble_eq_true rfl⟩ rfl [] rfl rfl rfl (ws' := wd_Md_advanceToken cI a_t a_t_w a_t_wKept a_t_saved a_t_past a_t_input a_t_n a_t_order a_t_numbers a_t_output i_t_pastMany i_t_isSaved i_t_thrown i_t_inputMany i_t_lastError i_t_lastOffset i_t_error i_t_offset t_nextByte t_nextByte 0 t_token i_t_got i_t_orders i_t_outputMany i_t_input) rfl (st := []) rfl (Nat.le_of_ble_eq_true rfl) rd_Md_advanceToken_140 ?_ ⟨Nat.le_of_ble_eq_true rfl, Nat.le_of_ble_eq_true rfl⟩
              refine jk_if_eq (tgt := 245) C rd_Md_advanceToken_143 (by decide) hf (fun _ hf => ?_) (fun _ hf => ?_)
              · refine jk_aload_n C rd_Md_advanceToken_245 (k := 1) rfl ?_
                refine jk_iload_n C rd_Md_advanceToken_246 (k := 0) rfl ?_
                refine jk_bipush C rd_Md_advanceToken_247 (by decide +kernel) ?_
                refine jk_icmp_ne (tgt := 256) C rd_Md_advanceToken_249 (by decide) hf (fun _ hf => ?_) (fun _ hf => ?_)
                · refine jk_iconst C rd_Md_advanceToken_256 ?_
                  refine jk_putf C in_Md ty_Md nm_Md (ci := 11) rfl 16 (by decide) tm_1279 rfl rfl rfl 0 rfl (Nat.le_of_ble_eq_true rfl) rd_Md_advanceToken_257 (ws' := wd_Md_advanceToken cI a_t a_t_w a_t_wKept a_t_saved a_t_past a_t_input a_t_n a_t_order a_t_numbers a_t_output i_t_pastMany i_t_isSaved i_t_thrown i_t_inputMany i_t_lastError i_t_lastOffset i_t_error i_t_offset t_nextByte t_nextByte 0 4 i_t_got i_t_orders i_t_outputMany i_t_input) rfl ?_
                  refine jk_aload_n C rd_Md_advanceToken_260 (k := 1) rfl ?_
                  refine jk_dup C rd_Md_advanceToken_261 rfl ?_
                  refine jk_get C in_Md (ci := 11) rfl 13 (by decide) tm_1276 0 rfl rfl rd_Md_advanceToken_262 ?_
                  refine jk_iconst C rd_Md_advanceToken_265 ?_
                  refine jk_iadd C rd_Md_advanceToken_266 ?_
                  refine jk_putf C in_Md ty_Md nm_Md (ci := 11) rfl 13 (by decide) tm_1276 rfl rfl rfl 0 rfl (Nat.le_of_ble_eq_true rfl) rd_Md_advanceToken_267 (ws' := wd_Md_advanceToken cI a_t a_t_w a_t_wKept a_t_saved a_t_past a_t_input a_t_n a_t_order a_t_numbers a_t_output i_t_pastMany i_t_isSaved i_t_thrown i_t_inputMany i_t_lastError i_t_lastOffset i_t_error i_t_offset (t_nextByte + 1) t_nextByte 0 4 i_t_got i_t_orders i_t_outputMany i_t_input) rfl ?_
                  cases hf
                  exact jk_vret C rfl rd_Md_advanceToken_270 rfl
                · refine jk_iconst C rd_Md_advanceToken_252 ?_
                  refine jk_goto (tgt := 257) C rd_Md_advanceToken_253 (by decide) ?_
                  refine jk_putf C in_Md ty_Md nm_Md (ci := 11) rfl 16 (by decide) tm_1279 rfl rfl rfl 0 rfl (Nat.le_of_ble_eq_true rfl) rd_Md_advanceToken_257 (ws' := wd_Md_advanceToken cI a_t a_t_w a_t_wKept a_t_saved a_t_past a_t_input a_t_n a_t_order a_t_numbers a_t_output i_t_pastMany i_t_isSaved i_t_thrown i_t_inputMany i_t_lastError i_t_lastOffset i_t_error i_t_offset t_nextByte t_nextByte 0 3 i_t_got i_t_orders i_t_outputMany i_t_input) rfl ?_
                  refine jk_aload_n C rd_Md_advanceToken_260 (k := 1) rfl ?_
                  refine jk_dup C rd_Md_advanceToken_261 rfl ?_
                  refine jk_get C in_Md (ci := 11) rfl 13 (by decide) tm_1276 0 rfl rfl rd_Md_advanceToken_262 ?_
                  refine jk_iconst C rd_Md_advanceToken_265 ?_
                  refine jk_iadd C rd_Md_advanceToken_266 ?_
                  refine jk_putf C in_Md ty_Md nm_Md (ci := 11) rfl 13 (by decide) tm_1276 rfl rfl rfl 0 rfl (Nat.le_of_ble_eq_true rfl) rd_Md_advanceToken_267 (ws' := wd_Md_advanceToken cI a_t a_t_w a_t_wKept a_t_saved a_t_past a_t_input a_t_n a_t_order a_t_numbers a_t_output i_t_pastMany i_t_isSaved i_t_thrown i_t_inputMany i_t_lastError i_t_lastOffset i_t_error i_t_offset (t_nextByte + 1) t_nextByte 0 3 i_t_got i_t_orders i_t_outputMany i_t_input) rfl ?_
                  cases hf
                  exact jk_vret C rfl rd_Md_advanceToken_270 rfl
              · refine jk_lv (lv' := [(0, .ref a_t)]) [1] rfl ?_
                exact bk_146 jk_F t_nextByte t_nextByte 0 t_token hf
            · refine jk_lv (lv' := [(0, .ref a_t)]) [1] rfl ?_
              exact bk_85 jk_F t_nextByte t_nextByte 0 t_token hf
          · refine jk_aload_n C rd_Md_advanceToken_66 (k := 1) rfl ?_
            refine jk_iconst C rd_Md_advanceToken_67 ?_
            refine jk_putf C in_Md ty_Md nm_Md (ci := 11) rfl 16 (by decide) tm_1279 rfl rfl rfl 0 rfl (Nat.le_of_ble_eq_true rfl) rd_Md_advanceToken_68 (ws' := wd_Md_advanceToken cI a_t a_t_w a_t_wKept a_t_saved a_t_past a_t_input a_t_n a_t_order a_t_numbers a_t_output i_t_pastMany i_t_isSaved i_t_thrown i_t_inputMany i_t_lastError i_t_lastOffset i_t_error i_t_offset t_nextByte t_nextByte 0 0 i_t_got i_t_orders i_t_outputMany i_t_input) rfl ?_
            refine jk_goto (tgt := 270) C rd_Md_advanceToken_71 (by decide) ?_
            cases hf
            exact jk_vret C rfl rd_Md_advanceToken_270 rfl
        · refine jk_aload_n C rd_Md_advanceToken_26 (k := 0) rfl ?_
          refine jk_dup C rd_Md_advanceToken_27 rfl ?_
          refine jk_get C in_Md (ci := 11) rfl 13 (by decide) tm_1276 0 rfl rfl rd_Md_advanceToken_28 ?_
          refine jk_iconst C rd_Md_advanceToken_31 ?_
          refine jk_iadd C rd_Md_advanceToken_32 ?_
          refine jk_putf C in_Md ty_Md nm_Md (ci := 11) rfl 13 (by decide) tm_1276 rfl rfl rfl 0 rfl (Nat.le_of_ble_eq_true rfl) rd_Md_advanceToken_33 (ws' := wd_Md_advanceToken cI a_t a_t_w a_t_wKept a_t_saved a_t_past a_t_input a_t_n a_t_order a_t_numbers a_t_output i_t_pastMany i_t_isSaved i_t_thrown i_t_inputMany i_t_lastError i_t_lastOffset i_t_error i_t_offset (t_nextByte + 1) t_begin t_value t_token i_t_got i_t_orders i_t_outputMany i_t_input) rfl ?_
          refine jk_goto (tgt := 0) C rd_Md_advanceToken_36 (by decide) ?_
          refine jk_lv (lv' := [(0, .ref a_t)]) [0] rfl ?_
          exact ih (t_nextByte + 1) t_begin t_value t_token hf
  refine jk_lv (lv' := [(0, .ref a_t)]) [0] rfl ?_
  exact bk_0 jk_F i_t_nextByte i_t_begin i_t_value i_t_token hf
def wd_Md_failsAt (cI : ClassId) (a_t a_t_w a_t_wKept a_t_saved a_t_past a_t_input a_t_n a_t_order a_t_numbers a_t_output : Nat) (i_t_pastMany : Int) (i_t_isSaved : Int) (i_t_thrown : Int) (i_t_inputMany : Int) (i_t_lastError : Int) (i_t_lastOffset : Int) (i_t_error : Int) (i_t_offset : Int) (i_t_nextByte : Int) (i_t_begin : Int) (i_t_value : Int) (i_t_token : Int) (i_t_got : Int) (i_t_orders : Int) (i_t_outputMany : Int) : va_W := [(a_t, .inr (11, [.ref a_t_w, .ref a_t_wKept, .ref a_t_saved, .ref a_t_past, jk_V i_t_pastMany, jk_V i_t_isSaved, jk_V i_t_thrown, .ref a_t_input, jk_V i_t_inputMany, jk_V i_t_lastError, jk_V i_t_lastOffset, jk_V i_t_error, jk_V i_t_offset, jk_V i_t_nextByte, jk_V i_t_begin, jk_V i_t_value, jk_V i_t_token, jk_V i_t_got, .ref a_t_n, .ref a_t_order, .ref a_t_numbers, jk_V i_t_orders, .ref a_t_output, jk_V i_t_outputMany]))]
set_option maxHeartbeats 4000000 in
set_option maxRecDepth 20000 in
theorem ct_Md_failsAt (l : Launch) (D : va_G) (Z : (Nat → Prop) → State → Heap → Prop) (sq : Nat → Nat) (hZ : jk_ZK Z sq) (cI cR : ClassId) (a_t a_t_w a_t_wKept a_t_saved a_t_past a_t_input a_t_n a_t_order a_t_numbers a_t_output : Nat) (i_t_pastMany : Int) (i_t_isSaved : Int) (i_t_thrown : Int) (i_t_inputMany : Int) (i_t_lastError : Int) (i_t_lastOffset : Int) (i_t_error : Int) (i_t_offset : Int) (i_t_nextByte : Int) (i_t_begin : Int) (i_t_value : Int) (i_t_token : Int) (i_t_got : Int) (i_t_orders : Int) (i_t_outputMany : Int) (x1 : Int) (q : Int × Int × Int) (hf : fn_Md_failsAt i_t_error i_t_offset i_t_begin x1 = some q) : jk_MI l D jk_cl (jk_ty cI cR) Z mn_Md_failsAt (.code mn_Md_failsAt mb_Md_failsAt 2 (some .boolean) :: jk_WA) (jk_rm 0 0) [.ref a_t, jk_V x1] (wd_Md_failsAt cI a_t a_t_w a_t_wKept a_t_saved a_t_past a_t_input a_t_n a_t_order a_t_numbers a_t_output i_t_pastMany i_t_isSaved i_t_thrown i_t_inputMany i_t_lastError i_t_lastOffset i_t_error i_t_offset i_t_nextByte i_t_begin i_t_value i_t_token i_t_got i_t_orders i_t_outputMany) (wd_Md_failsAt cI a_t a_t_w a_t_wKept a_t_saved a_t_past a_t_input a_t_n a_t_order a_t_numbers a_t_output i_t_pastMany i_t_isSaved i_t_thrown i_t_inputMany i_t_lastError i_t_lastOffset q.2.1 q.2.2 i_t_nextByte i_t_begin i_t_value i_t_token i_t_got i_t_orders i_t_outputMany) q.1 := by
  intro sz
  refine jk_body (by decide +kernel) (fun p e s m args below meth c hsz hz hin C => ?_) (Nat.le_of_ble_eq_true rfl)
  subst hsz
  unfold fn_Md_failsAt at hf
  refine jk_aload_n C rd_Md_failsAt_0 (k := 0) rfl ?_
  refine jk_get C in_Md (ci := 11) rfl 11 (by decide) tm_1274 0 rfl rfl rd_Md_failsAt_1 ?_
  refine jk_if_ne (tgt := 20) C rd_Md_failsAt_4 (by decide) hf (fun _ hf => ?_) (fun _ hf => ?_)
  · refine jk_iconst C rd_Md_failsAt_20 ?_
    cases hf
    exact jk_zret C (Or.inl rfl) rfl rd_Md_failsAt_21 rfl
  · refine jk_aload_n C rd_Md_failsAt_7 (k := 0) rfl ?_
    refine jk_iload_n C rd_Md_failsAt_8 (k := 1) rfl ?_
    refine jk_putf C in_Md ty_Md nm_Md (ci := 11) rfl 11 (by decide) tm_1274 rfl rfl rfl 0 rfl (Nat.le_of_ble_eq_true rfl) rd_Md_failsAt_9 (ws' := wd_Md_failsAt cI a_t a_t_w a_t_wKept a_t_saved a_t_past a_t_input a_t_n a_t_order a_t_numbers a_t_output i_t_pastMany i_t_isSaved i_t_thrown i_t_inputMany i_t_lastError i_t_lastOffset x1 i_t_offset i_t_nextByte i_t_begin i_t_value i_t_token i_t_got i_t_orders i_t_outputMany) rfl ?_
    refine jk_aload_n C rd_Md_failsAt_12 (k := 0) rfl ?_
    refine jk_aload_n C rd_Md_failsAt_13 (k := 0) rfl ?_
    refine jk_get C in_Md (ci := 11) rfl 14 (by decide) tm_1277 0 rfl rfl rd_Md_failsAt_14 ?_
    refine jk_putf C in_Md ty_Md nm_Md (ci := 11) rfl 12 (by decide) tm_1275 rfl rfl rfl 0 rfl (Nat.le_of_ble_eq_true rfl) rd_Md_failsAt_17 (ws' := wd_Md_failsAt cI a_t a_t_w a_t_wKept a_t_saved a_t_past a_t_input a_t_n a_t_order a_t_numbers a_t_output i_t_pastMany i_t_isSaved i_t_thrown i_t_inputMany i_t_lastError i_t_lastOffset x1 i_t_begin i_t_nextByte i_t_begin i_t_value i_t_token i_t_got i_t_orders i_t_outputMany) rfl ?_
    refine jk_iconst C rd_Md_failsAt_20 ?_
    cases hf
    exact jk_zret C (Or.inl rfl) rfl rd_Md_failsAt_21 rfl
def wd_Md_isWord (cI : ClassId) (a_t a_t_w a_t_wKept a_t_saved a_t_past a_t_input a_t_n a_t_order a_t_numbers a_t_output : Nat) (i_t_pastMany : Int) (i_t_isSaved : Int) (i_t_thrown : Int) (i_t_inputMany : Int) (i_t_lastError : Int) (i_t_lastOffset : Int) (i_t_error : Int) (i_t_offset : Int) (i_t_nextByte : Int) (i_t_begin : Int) (i_t_value : Int) (i_t_token : Int) (i_t_got : Int) (i_t_orders : Int) (i_t_outputMany : Int) (i_t_input : (Int → Int)) : va_W := [(a_t, .inr (11, [.ref a_t_w, .ref a_t_wKept, .ref a_t_saved, .ref a_t_past, jk_V i_t_pastMany, jk_V i_t_isSaved, jk_V i_t_thrown, .ref a_t_input, jk_V i_t_inputMany, jk_V i_t_lastError, jk_V i_t_lastOffset, jk_V i_t_error, jk_V i_t_offset, jk_V i_t_nextByte, jk_V i_t_begin, jk_V i_t_value, jk_V i_t_token, jk_V i_t_got, .ref a_t_n, .ref a_t_order, .ref a_t_numbers, jk_V i_t_orders, .ref a_t_output, jk_V i_t_outputMany])), (a_t_input, jk_W cI 700 i_t_input)]
set_option maxHeartbeats 4000000 in
set_option maxRecDepth 20000 in
theorem ct_Md_isWord (l : Launch) (D : va_G) (Z : (Nat → Prop) → State → Heap → Prop) (sq : Nat → Nat) (hZ : jk_ZK Z sq) (cI cR : ClassId) (a_t a_t_w a_t_wKept a_t_saved a_t_past a_t_input a_t_n a_t_order a_t_numbers a_t_output : Nat) (i_t_pastMany : Int) (i_t_isSaved : Int) (i_t_thrown : Int) (i_t_inputMany : Int) (i_t_lastError : Int) (i_t_lastOffset : Int) (i_t_error : Int) (i_t_offset : Int) (i_t_nextByte : Int) (i_t_begin : Int) (i_t_value : Int) (i_t_token : Int) (i_t_got : Int) (i_t_orders : Int) (i_t_outputMany : Int) (i_t_input : (Int → Int)) (i_x1 : List Int) (q_i_x1 : Nat) (hq_i_x1 : jk_St Z q_i_x1 i_x1) (q : Int) (hf : fn_Md_isWord i_t_input i_t_nextByte i_t_begin i_t_token i_x1 = some q) : jk_MI l D jk_cl (jk_ty cI cR) Z mn_Md_isWord (.code mn_Md_isWord mb_Md_isWord 3 (some .boolean) :: jk_WA) (jk_rm 6 300) [.ref a_t, .ref q_i_x1] (wd_Md_isWord cI a_t a_t_w a_t_wKept a_t_saved a_t_past a_t_input a_t_n a_t_order a_t_numbers a_t_output i_t_pastMany i_t_isSaved i_t_thrown i_t_inputMany i_t_lastError i_t_lastOffset i_t_error i_t_offset i_t_nextByte i_t_begin i_t_value i_t_token i_t_got i_t_orders i_t_outputMany i_t_input) (wd_Md_isWord cI a_t a_t_w a_t_wKept a_t_saved a_t_past a_t_input a_t_n a_t_order a_t_numbers a_t_output i_t_pastMany i_t_isSaved i_t_thrown i_t_inputMany i_t_lastError i_t_lastOffset i_t_error i_t_offset i_t_nextByte i_t_begin i_t_value i_t_token i_t_got i_t_orders i_t_outputMany i_t_input) q := by
  intro sz
  refine jk_body (by decide +kernel) (fun p e s m args below meth c hsz hz hin C => ?_) (Nat.le_of_ble_eq_true rfl)
  subst hsz
  unfold fn_Md_isWord at hf
  have bk_28 : ∀ (n : Nat) (v2 : Int), fn_Md_isWord_b28 n i_t_input i_t_begin i_x1 v2 = some q → jk_J p l e (jk_rm 6 300) s m args below meth c 0 0 (jk_QI below D jk_cl (jk_ty cI cR) (wd_Md_isWord cI a_t a_t_w a_t_wKept a_t_saved a_t_past a_t_input a_t_n a_t_order a_t_numbers a_t_output i_t_pastMany i_t_isSaved i_t_thrown i_t_inputMany i_t_lastError i_t_lastOffset i_t_error i_t_offset i_t_nextByte i_t_begin i_t_value i_t_token i_t_got i_t_orders i_t_outputMany i_t_input) (wd_Md_isWord cI a_t a_t_w a_t_wKept a_t_saved a_t_past a_t_input a_t_n a_t_order a_t_numbers a_t_output i_t_pastMany i_t_isSaved i_t_thrown i_t_inputMany i_t_lastError i_t_lastOffset i_t_error i_t_offset i_t_nextByte i_t_begin i_t_value i_t_token i_t_got i_t_orders i_t_outputMany i_t_input) args s q) D jk_cl (va_A (wd_Md_isWord cI a_t a_t_w a_t_wKept a_t_saved a_t_past a_t_input a_t_n a_t_order a_t_numbers a_t_output i_t_pastMany i_t_isSaved i_t_thrown i_t_inputMany i_t_lastError i_t_lastOffset i_t_error i_t_offset i_t_nextByte i_t_begin i_t_value i_t_token i_t_got i_t_orders i_t_outputMany i_t_input) s.heap.size) 3 (wd_Md_isWord cI a_t a_t_w a_t_wKept a_t_saved a_t_past a_t_input a_t_n a_t_order a_t_numbers a_t_output i_t_pastMany i_t_isSaved i_t_thrown i_t_inputMany i_t_lastError i_t_lastOffset i_t_error i_t_offset i_t_nextByte i_t_begin i_t_value i_t_token i_t_got i_t_orders i_t_outputMany i_t_input) [(0, .ref a_t), (1, .ref q_i_x1), (2, jk_V v2)] 28 [] := by
    intro n
    induction n with
    | zero => intro v2 hf; exact nomatch (show none = some q from hf)
    | succ n ih =>
      intro v2 hf
      rw [fn_Md_isWord_b28] at hf
      refine jk_iload_n C rd_Md_isWord_28 (k := 2) rfl ?_
      refine jk_aload_n C rd_Md_isWord_29 (k := 1) rfl ?_
      refine jk_slen C hZ hz hq_i_x1 rd_Md_isWord_30 W_slen_Md_170 ⟨Nat.le_of_ble_eq_true rfl, Nat.le_of_ble_eq_true rfl⟩ (Nat.le_of_ble_eq_true rfl) ⟨Nat.le_of_ble_eq_true rfl, Nat.le_of_ble_eq_true rfl⟩ ?_
      refine jk_icmp_ge (tgt := 63) C rd_Md_isWord_33 (by decide) hf (fun _ hf => ?_) (fun _ hf => ?_)
      · refine jk_iconst C rd_Md_isWord_63 ?_
        cases hf
        exact jk_zret C (Or.inr rfl) rfl rd_Md_isWord_64 rfl
      · refine jk_aload_n C rd_Md_isWord_36 (k := 0) rfl ?_
        refine jk_get C in_Md (ci := 11) rfl 7 (by decide) tm_1270 0 rfl rfl rd_Md_isWord_37 ?_
        refine jk_aload_n C rd_Md_isWord_40 (k := 0) rfl ?_
        refine jk_get C in_Md (ci := 11) rfl 14 (by decide) tm_1277 0 rfl rfl rd_Md_isWord_41 ?_
        refine jk_iload_n C rd_Md_isWord_44 (k := 2) rfl ?_
        refine jk_iadd C rd_Md_isWord_45 ?_
        refine jk_iald C 1 0 rfl rfl (Nat.le_of_ble_eq_true rfl) rd_Md_isWord_46 hf (fun hf => ?_)
        refine jk_aload_n C rd_Md_isWord_47 (k := 1) rfl ?_
        refine jk_iload_n C rd_Md_isWord_48 (k := 2) rfl ?_
        refine jk_sch C hZ hz hq_i_x1 rd_Md_isWord_49 W_sch_Md_176 ⟨Nat.le_of_ble_eq_true rfl, Nat.le_of_ble_eq_true rfl⟩ (Nat.le_of_ble_eq_true rfl) ⟨Nat.le_of_ble_eq_true rfl, Nat.le_of_ble_eq_true rfl⟩ hf (fun hf => ?_)
        refine jk_icmp_eq (tgt := 57) C rd_Md_isWord_52 (by decide) hf (fun _ hf => ?_) (fun _ hf => ?_)
        · refine jk_iinc C rd_Md_isWord_57 (k := 2) rfl (by decide) (lv' := [(2, jk_V (v2 + 1)), (0, .ref a_t), (1, .ref q_i_x1)]) rfl ?_
          refine jk_goto (tgt := 28) C rd_Md_isWord_60 (by decide) ?_
          refine jk_lv (lv' := [(0, .ref a_t), (1, .ref q_i_x1), (2, jk_V (v2 + 1))]) [1, 2, 0] rfl ?_
          exact ih (v2 + 1) hf
        · refine jk_iconst C rd_Md_isWord_55 ?_
          cases hf
          exact jk_zret C (Or.inl rfl) rfl rd_Md_isWord_56 rfl
  refine jk_aload_n C rd_Md_isWord_0 (k := 0) rfl ?_
  refine jk_get C in_Md (ci := 11) rfl 16 (by decide) tm_1279 0 rfl rfl rd_Md_isWord_1 ?_
  refine jk_iconst C rd_Md_isWord_4 ?_
  refine jk_icmp_ne (tgt := 24) C rd_Md_isWord_5 (by decide) hf (fun _ hf => ?_) (fun _ hf => ?_)
  · refine jk_iconst C rd_Md_isWord_24 ?_
    cases hf
    exact jk_zret C (Or.inl rfl) rfl rd_Md_isWord_25 rfl
  · refine jk_aload_n C rd_Md_isWord_8 (k := 0) rfl ?_
    refine jk_get C in_Md (ci := 11) rfl 13 (by decide) tm_1276 0 rfl rfl rd_Md_isWord_9 ?_
    refine jk_aload_n C rd_Md_isWord_12 (k := 0) rfl ?_
    refine jk_get C in_Md (ci := 11) rfl 14 (by decide) tm_1277 0 rfl rfl rd_Md_isWord_13 ?_
    refine jk_isub C rd_Md_isWord_16 ?_
    refine jk_aload_n C rd_Md_isWord_17 (k := 1) rfl ?_
    refine jk_slen C hZ hz hq_i_x1 rd_Md_isWord_18 W_slen_Md_170 ⟨Nat.le_of_ble_eq_true rfl, Nat.le_of_ble_eq_true rfl⟩ (Nat.le_of_ble_eq_true rfl) ⟨Nat.le_of_ble_eq_true rfl, Nat.le_of_ble_eq_true rfl⟩ ?_
    refine jk_icmp_eq (tgt := 26) C rd_Md_isWord_21 (by decide) hf (fun _ hf => ?_) (fun _ hf => ?_)
    · refine jk_iconst C rd_Md_isWord_26 ?_
      refine jk_istore_n C rd_Md_isWord_27 (by decide) (lv' := [(2, jk_V 0), (0, .ref a_t), (1, .ref q_i_x1)]) rfl ?_
      refine jk_lv (lv' := [(0, .ref a_t), (1, .ref q_i_x1), (2, jk_V 0)]) [1, 2, 0] rfl ?_
      exact bk_28 jk_F 0 hf
    · refine jk_iconst C rd_Md_isWord_24 ?_
      cases hf
      exact jk_zret C (Or.inl rfl) rfl rd_Md_isWord_25 rfl
def wd_Md_seesNumber (cI : ClassId) (a_t a_t_w a_t_wKept a_t_saved a_t_past a_t_input a_t_n a_t_order a_t_numbers a_t_output : Nat) (i_t_pastMany : Int) (i_t_isSaved : Int) (i_t_thrown : Int) (i_t_inputMany : Int) (i_t_lastError : Int) (i_t_lastOffset : Int) (i_t_error : Int) (i_t_offset : Int) (i_t_nextByte : Int) (i_t_begin : Int) (i_t_value : Int) (i_t_token : Int) (i_t_got : Int) (i_t_orders : Int) (i_t_outputMany : Int) : va_W := [(a_t, .inr (11, [.ref a_t_w, .ref a_t_wKept, .ref a_t_saved, .ref a_t_past, jk_V i_t_pastMany, jk_V i_t_isSaved, jk_V i_t_thrown, .ref a_t_input, jk_V i_t_inputMany, jk_V i_t_lastError, jk_V i_t_lastOffset, jk_V i_t_error, jk_V i_t_offset, jk_V i_t_nextByte, jk_V i_t_begin, jk_V i_t_value, jk_V i_t_token, jk_V i_t_got, .ref a_t_n, .ref a_t_order, .ref a_t_numbers, jk_V i_t_orders, .ref a_t_output, jk_V i_t_outputMany]))]
set_option maxHeartbeats 4000000 in
set_option maxRecDepth 20000 in
theorem ct_Md_seesNumber (l : Launch) (D : va_G) (Z : (Nat → Prop) → State → Heap → Prop) (sq : Nat → Nat) (hZ : jk_ZK Z sq) (cI cR : ClassId) (a_t a_t_w a_t_wKept a_t_saved a_t_past a_t_input a_t_n a_t_order a_t_numbers a_t_output : Nat) (i_t_pastMany : Int) (i_t_isSaved : Int) (i_t_thrown : Int) (i_t_inputMany : Int) (i_t_lastError : Int) (i_t_lastOffset : Int) (i_t_error : Int) (i_t_offset : Int) (i_t_nextByte : Int) (i_t_begin : Int) (i_t_value : Int) (i_t_token : Int) (i_t_got : Int) (i_t_orders : Int) (i_t_outputMany : Int) (x1 : Int) (x2 : Int) (q : Int × Int × Int × Int) (hf : fn_Md_seesNumber i_t_error i_t_offset i_t_begin i_t_value i_t_token i_t_got x1 x2 = some q) : jk_MI l D jk_cl (jk_ty cI cR) Z mn_Md_seesNumber (.code mn_Md_seesNumber mb_Md_seesNumber 3 (some .boolean) :: jk_WA) (jk_rm 1 22) [.ref a_t, jk_V x1, jk_V x2] (wd_Md_seesNumber cI a_t a_t_w a_t_wKept a_t_saved a_t_past a_t_input a_t_n a_t_order a_t_numbers a_t_output i_t_pastMany i_t_isSaved i_t_thrown i_t_inputMany i_t_lastError i_t_lastOffset i_t_error i_t_offset i_t_nextByte i_t_begin i_t_value i_t_token i_t_got i_t_orders i_t_outputMany) (wd_Md_seesNumber cI a_t a_t_w a_t_wKept a_t_saved a_t_past a_t_input a_t_n a_t_order a_t_numbers a_t_output i_t_pastMany i_t_isSaved i_t_thrown i_t_inputMany i_t_lastError i_t_lastOffset q.2.1 q.2.2.1 i_t_nextByte i_t_begin i_t_value i_t_token q.2.2.2 i_t_orders i_t_outputMany) q.1 := by
  intro sz
  refine jk_body (by decide +kernel) (fun p e s m args below meth c hsz hz hin C => ?_) (Nat.le_of_ble_eq_true rfl)
  subst hsz
  unfold fn_Md_seesNumber at hf
  refine jk_aload_n C rd_Md_seesNumber_0 (k := 0) rfl ?_
  refine jk_get C in_Md (ci := 11) rfl 16 (by decide) tm_1279 0 rfl rfl rd_Md_seesNumber_1 ?_
  refine jk_iconst C rd_Md_seesNumber_4 ?_
  refine jk_icmp_eq (tgt := 14) C rd_Md_seesNumber_5 (by decide) hf (fun _ hf => ?_) (fun _ hf => ?_)
  · refine jk_aload_n C rd_Md_seesNumber_14 (k := 0) rfl ?_
    refine jk_get C in_Md (ci := 11) rfl 15 (by decide) tm_1278 0 rfl rfl rd_Md_seesNumber_15 ?_
    refine jk_iload_n C rd_Md_seesNumber_18 (k := 1) rfl ?_
    refine jk_iload_n C rd_Md_seesNumber_19 (k := 2) rfl ?_
    obtain ⟨q20, hq20, hf⟩ := jk_bind_h hf
    refine jk_callSi C hZ.1 hz (ct_Md_inRange l D Z sq hZ cI cR i_t_value x1 x2 q20 hq20) tm_1352 tm_1353 tm_15 tm_1354 na_Md_inRange ⟨Nat.le_of_ble_eq_true rfl, Nat.le_of_ble_eq_true rfl⟩ rfl [] rfl rfl rfl (ws' := wd_Md_seesNumber cI a_t a_t_w a_t_wKept a_t_saved a_t_past a_t_input a_t_n a_t_order a_t_numbers a_t_output i_t_pastMany i_t_isSaved i_t_thrown i_t_inputMany i_t_lastError i_t_lastOffset i_t_error i_t_offset i_t_nextByte i_t_begin i_t_value i_t_token i_t_got i_t_orders i_t_outputMany) rfl (st := []) rfl (Nat.le_of_ble_eq_true rfl) rd_Md_seesNumber_20 ?_ ⟨Nat.le_of_ble_eq_true rfl, Nat.le_of_ble_eq_true rfl⟩
    refine jk_if_ne (tgt := 32) C rd_Md_seesNumber_23 (by decide) hf (fun _ hf => ?_) (fun _ hf => ?_)
    · refine jk_aload_n C rd_Md_seesNumber_32 (k := 0) rfl ?_
      refine jk_aload_n C rd_Md_seesNumber_33 (k := 0) rfl ?_
      refine jk_get C in_Md (ci := 11) rfl 15 (by decide) tm_1278 0 rfl rfl rd_Md_seesNumber_34 ?_
      refine jk_putf C in_Md ty_Md nm_Md (ci := 11) rfl 17 (by decide) tm_1280 rfl rfl rfl 0 rfl (Nat.le_of_ble_eq_true rfl) rd_Md_seesNumber_37 (ws' := wd_Md_seesNumber cI a_t a_t_w a_t_wKept a_t_saved a_t_past a_t_input a_t_n a_t_order a_t_numbers a_t_output i_t_pastMany i_t_isSaved i_t_thrown i_t_inputMany i_t_lastError i_t_lastOffset i_t_error i_t_offset i_t_nextByte i_t_begin i_t_value i_t_token i_t_value i_t_orders i_t_outputMany) rfl ?_
      refine jk_iconst C rd_Md_seesNumber_40 ?_
      cases hf
      exact jk_zret C (Or.inr rfl) rfl rd_Md_seesNumber_41 rfl
    · refine jk_aload_n C rd_Md_seesNumber_26 (k := 0) rfl ?_
      refine jk_iconst C rd_Md_seesNumber_27 ?_
      obtain ⟨q28, hq28, hf⟩ := jk_bind_h hf
      refine jk_callVi C hZ.1 hz (ct_Md_failsAt l D Z sq hZ cI cR a_t a_t_w a_t_wKept a_t_saved a_t_past a_t_input a_t_n a_t_order a_t_numbers a_t_output i_t_pastMany i_t_isSaved i_t_thrown i_t_inputMany i_t_lastError i_t_lastOffset i_t_error i_t_offset i_t_nextByte i_t_begin i_t_value i_t_token i_t_got i_t_orders i_t_outputMany 2 q28 hq28) tm_1397 tm_1399 sl_36 tm_15 tm_1400 na_Md_failsAt ⟨Nat.le_of_ble_eq_true rfl, Nat.le_of_ble_eq_true rfl⟩ rfl [0] rfl rfl rfl (ws' := wd_Md_seesNumber cI a_t a_t_w a_t_wKept a_t_saved a_t_past a_t_input a_t_n a_t_order a_t_numbers a_t_output i_t_pastMany i_t_isSaved i_t_thrown i_t_inputMany i_t_lastError i_t_lastOffset q28.2.1 q28.2.2 i_t_nextByte i_t_begin i_t_value i_t_token i_t_got i_t_orders i_t_outputMany) rfl 0 11 rfl rfl rfl (st := []) rfl (Nat.le_of_ble_eq_true rfl) rd_Md_seesNumber_28 ?_ ⟨Nat.le_of_ble_eq_true rfl, Nat.le_of_ble_eq_true rfl⟩
      obtain ⟨hbo, hf⟩ := jk_bo_h hf
      cases hf
      exact jk_zret C hbo rfl rd_Md_seesNumber_31 rfl
  · refine jk_aload_n C rd_Md_seesNumber_8 (k := 0) rfl ?_
    refine jk_iconst C rd_Md_seesNumber_9 ?_
    obtain ⟨q10, hq10, hf⟩ := jk_bind_h hf
    refine jk_callVi C hZ.1 hz (ct_Md_failsAt l D Z sq hZ cI cR a_t a_t_w a_t_wKept a_t_saved a_t_past a_t_input a_t_n a_t_order a_t_numbers a_t_output i_t_pastMany i_t_isSaved i_t_thrown i_t_inputMany i_t_lastError i_t_lastOffset i_t_error i_t_offset i_t_nextByte i_t_begin i_t_value i_t_token i_t_got i_t_orders i_t_outputMany 1 q10 hq10) tm_1397 tm_1399 sl_36 tm_15 tm_1400 na_Md_failsAt ⟨Nat.le_of_ble_eq_true rfl, Nat.le_of_ble_eq_true rfl⟩ rfl [0] rfl rfl rfl (ws' := wd_Md_seesNumber cI a_t a_t_w a_t_wKept a_t_saved a_t_past a_t_input a_t_n a_t_order a_t_numbers a_t_output i_t_pastMany i_t_isSaved i_t_thrown i_t_inputMany i_t_lastError i_t_lastOffset q10.2.1 q10.2.2 i_t_nextByte i_t_begin i_t_value i_t_token i_t_got i_t_orders i_t_outputMany) rfl 0 11 rfl rfl rfl (st := []) rfl (Nat.le_of_ble_eq_true rfl) rd_Md_seesNumber_10 ?_ ⟨Nat.le_of_ble_eq_true rfl, Nat.le_of_ble_eq_true rfl⟩
    obtain ⟨hbo, hf⟩ := jk_bo_h hf
    cases hf
    exact jk_zret C hbo rfl rd_Md_seesNumber_13 rfl
def wd_Md_takesNumber (cI : ClassId) (a_t a_t_w a_t_wKept a_t_saved a_t_past a_t_input a_t_n a_t_order a_t_numbers a_t_output : Nat) (i_t_pastMany : Int) (i_t_isSaved : Int) (i_t_thrown : Int) (i_t_inputMany : Int) (i_t_lastError : Int) (i_t_lastOffset : Int) (i_t_error : Int) (i_t_offset : Int) (i_t_nextByte : Int) (i_t_begin : Int) (i_t_value : Int) (i_t_token : Int) (i_t_got : Int) (i_t_orders : Int) (i_t_outputMany : Int) (i_t_input : (Int → Int)) : va_W := [(a_t, .inr (11, [.ref a_t_w, .ref a_t_wKept, .ref a_t_saved, .ref a_t_past, jk_V i_t_pastMany, jk_V i_t_isSaved, jk_V i_t_thrown, .ref a_t_input, jk_V i_t_inputMany, jk_V i_t_lastError, jk_V i_t_lastOffset, jk_V i_t_error, jk_V i_t_offset, jk_V i_t_nextByte, jk_V i_t_begin, jk_V i_t_value, jk_V i_t_token, jk_V i_t_got, .ref a_t_n, .ref a_t_order, .ref a_t_numbers, jk_V i_t_orders, .ref a_t_output, jk_V i_t_outputMany])), (a_t_input, jk_W cI 700 i_t_input)]
set_option maxHeartbeats 4000000 in
set_option maxRecDepth 20000 in
theorem ct_Md_takesNumber (l : Launch) (D : va_G) (Z : (Nat → Prop) → State → Heap → Prop) (sq : Nat → Nat) (hZ : jk_ZK Z sq) (cI cR : ClassId) (a_t a_t_w a_t_wKept a_t_saved a_t_past a_t_input a_t_n a_t_order a_t_numbers a_t_output : Nat) (i_t_pastMany : Int) (i_t_isSaved : Int) (i_t_thrown : Int) (i_t_inputMany : Int) (i_t_lastError : Int) (i_t_lastOffset : Int) (i_t_error : Int) (i_t_offset : Int) (i_t_nextByte : Int) (i_t_begin : Int) (i_t_value : Int) (i_t_token : Int) (i_t_got : Int) (i_t_orders : Int) (i_t_outputMany : Int) (i_t_input : (Int → Int)) (x1 : Int) (x2 : Int) (q : Int × Int × Int × Int × Int × Int × Int × Int) (hf : fn_Md_takesNumber i_t_input i_t_inputMany i_t_error i_t_offset i_t_nextByte i_t_begin i_t_value i_t_token i_t_got x1 x2 = some q) : jk_MI l D jk_cl (jk_ty cI cR) Z mn_Md_takesNumber (.code mn_Md_takesNumber mb_Md_takesNumber 3 (some .boolean) :: jk_WA) (jk_rm 3 64) [.ref a_t, jk_V x1, jk_V x2] (wd_Md_takesNumber cI a_t a_t_w a_t_wKept a_t_saved a_t_past a_t_input a_t_n a_t_order a_t_numbers a_t_output i_t_pastMany i_t_isSaved i_t_thrown i_t_inputMany i_t_lastError i_t_lastOffset i_t_error i_t_offset i_t_nextByte i_t_begin i_t_value i_t_token i_t_got i_t_orders i_t_outputMany i_t_input) (wd_Md_takesNumber cI a_t a_t_w a_t_wKept a_t_saved a_t_past a_t_input a_t_n a_t_order a_t_numbers a_t_output i_t_pastMany i_t_isSaved i_t_thrown i_t_inputMany i_t_lastError i_t_lastOffset q.2.1 q.2.2.1 q.2.2.2.1 q.2.2.2.2.1 q.2.2.2.2.2.1 q.2.2.2.2.2.2.1 q.2.2.2.2.2.2.2 i_t_orders i_t_outputMany i_t_input) q.1 := by
  intro sz
  refine jk_body (by decide +kernel) (fun p e s m args below meth c hsz hz hin C => ?_) (Nat.le_of_ble_eq_true rfl)
  subst hsz
  unfold fn_Md_takesNumber at hf
  refine jk_aload_n C rd_Md_takesNumber_0 (k := 0) rfl ?_
  refine jk_iload_n C rd_Md_takesNumber_1 (k := 1) rfl ?_
  refine jk_iload_n C rd_Md_takesNumber_2 (k := 2) rfl ?_
  obtain ⟨q3, hq3, hf⟩ := jk_bind_h hf
  refine jk_callVi C hZ.1 hz (ct_Md_seesNumber l D Z sq hZ cI cR a_t a_t_w a_t_wKept a_t_saved a_t_past a_t_input a_t_n a_t_order a_t_numbers a_t_output i_t_pastMany i_t_isSaved i_t_thrown i_t_inputMany i_t_lastError i_t_lastOffset i_t_error i_t_offset i_t_nextByte i_t_begin i_t_value i_t_token i_t_got i_t_orders i_t_outputMany x1 x2 q3 hq3) tm_1449 tm_1451 sl_48 tm_15 tm_1452 na_Md_seesNumber ⟨Nat.le_of_ble_eq_true rfl, Nat.le_of_ble_eq_true rfl⟩ rfl [0] rfl rfl rfl (ws' := wd_Md_takesNumber cI a_t a_t_w a_t_wKept a_t_saved a_t_past a_t_input a_t_n a_t_order a_t_numbers a_t_output i_t_pastMany i_t_isSaved i_t_thrown i_t_inputMany i_t_lastError i_t_lastOffset q3.2.1 q3.2.2.1 i_t_nextByte i_t_begin i_t_value i_t_token q3.2.2.2 i_t_orders i_t_outputMany i_t_input) rfl 0 11 rfl rfl rfl (st := []) rfl (Nat.le_of_ble_eq_true rfl) rd_Md_takesNumber_3 ?_ ⟨Nat.le_of_ble_eq_true rfl, Nat.le_of_ble_eq_true rfl⟩
  refine jk_if_ne (tgt := 11) C rd_Md_takesNumber_6 (by decide) hf (fun _ hf => ?_) (fun _ hf => ?_)
  · refine jk_aload_n C rd_Md_takesNumber_11 (k := 0) rfl ?_
    obtain ⟨q12, hq12, hf⟩ := jk_bind_h hf
    refine jk_callVv C hZ.1 hz (ct_Md_advanceToken l D Z sq hZ cI cR a_t a_t_w a_t_wKept a_t_saved a_t_past a_t_input a_t_n a_t_order a_t_numbers a_t_output i_t_pastMany i_t_isSaved i_t_thrown i_t_inputMany i_t_lastError i_t_lastOffset q3.2.1 q3.2.2.1 i_t_nextByte i_t_begin i_t_value i_t_token q3.2.2.2 i_t_orders i_t_outputMany i_t_input q12 hq12) tm_1366 tm_1368 sl_29 tm_15 tm_1369 na_Md_advanceToken ⟨Nat.le_of_ble_eq_true rfl, Nat.le_of_ble_eq_true rfl⟩ rfl [0, 1] rfl rfl rfl (ws' := wd_Md_takesNumber cI a_t a_t_w a_t_wKept a_t_saved a_t_past a_t_input a_t_n a_t_order a_t_numbers a_t_output i_t_pastMany i_t_isSaved i_t_thrown i_t_inputMany i_t_lastError i_t_lastOffset q3.2.1 q3.2.2.1 q12.1 q12.2.1 q12.2.2.1 q12.2.2.2 q3.2.2.2 i_t_orders i_t_outputMany i_t_input) rfl 0 11 rfl rfl rfl (st := []) rfl (Nat.le_of_ble_eq_true rfl) rd_Md_takesNumber_12 ?_ ⟨Nat.le_of_ble_eq_true rfl, Nat.le_of_ble_eq_true rfl⟩
    refine jk_iconst C rd_Md_takesNumber_15 ?_
    cases hf
    exact jk_zret C (Or.inr rfl) rfl rd_Md_takesNumber_16 rfl
  · refine jk_iconst C rd_Md_takesNumber_9 ?_
    cases hf
    exact jk_zret C (Or.inl rfl) rfl rd_Md_takesNumber_10 rfl
def wd_Md_takesSemicolon (cI : ClassId) (a_t a_t_w a_t_wKept a_t_saved a_t_past a_t_input a_t_n a_t_order a_t_numbers a_t_output : Nat) (i_t_pastMany : Int) (i_t_isSaved : Int) (i_t_thrown : Int) (i_t_inputMany : Int) (i_t_lastError : Int) (i_t_lastOffset : Int) (i_t_error : Int) (i_t_offset : Int) (i_t_nextByte : Int) (i_t_begin : Int) (i_t_value : Int) (i_t_token : Int) (i_t_got : Int) (i_t_orders : Int) (i_t_outputMany : Int) (i_t_input : (Int → Int)) : va_W := [(a_t, .inr (11, [.ref a_t_w, .ref a_t_wKept, .ref a_t_saved, .ref a_t_past, jk_V i_t_pastMany, jk_V i_t_isSaved, jk_V i_t_thrown, .ref a_t_input, jk_V i_t_inputMany, jk_V i_t_lastError, jk_V i_t_lastOffset, jk_V i_t_error, jk_V i_t_offset, jk_V i_t_nextByte, jk_V i_t_begin, jk_V i_t_value, jk_V i_t_token, jk_V i_t_got, .ref a_t_n, .ref a_t_order, .ref a_t_numbers, jk_V i_t_orders, .ref a_t_output, jk_V i_t_outputMany])), (a_t_input, jk_W cI 700 i_t_input)]
set_option maxHeartbeats 4000000 in
set_option maxRecDepth 20000 in
theorem ct_Md_takesSemicolon (l : Launch) (D : va_G) (Z : (Nat → Prop) → State → Heap → Prop) (sq : Nat → Nat) (hZ : jk_ZK Z sq) (cI cR : ClassId) (a_t a_t_w a_t_wKept a_t_saved a_t_past a_t_input a_t_n a_t_order a_t_numbers a_t_output : Nat) (i_t_pastMany : Int) (i_t_isSaved : Int) (i_t_thrown : Int) (i_t_inputMany : Int) (i_t_lastError : Int) (i_t_lastOffset : Int) (i_t_error : Int) (i_t_offset : Int) (i_t_nextByte : Int) (i_t_begin : Int) (i_t_value : Int) (i_t_token : Int) (i_t_got : Int) (i_t_orders : Int) (i_t_outputMany : Int) (i_t_input : (Int → Int)) (q : Int × Int × Int × Int × Int × Int × Int) (hf : fn_Md_takesSemicolon i_t_input i_t_inputMany i_t_error i_t_offset i_t_nextByte i_t_begin i_t_value i_t_token = some q) : jk_MI l D jk_cl (jk_ty cI cR) Z mn_Md_takesSemicolon (.code mn_Md_takesSemicolon mb_Md_takesSemicolon 1 (some .boolean) :: jk_WA) (jk_rm 3 64) [.ref a_t] (wd_Md_takesSemicolon cI a_t a_t_w a_t_wKept a_t_saved a_t_past a_t_input a_t_n a_t_order a_t_numbers a_t_output i_t_pastMany i_t_isSaved i_t_thrown i_t_inputMany i_t_lastError i_t_lastOffset i_t_error i_t_offset i_t_nextByte i_t_begin i_t_value i_t_token i_t_got i_t_orders i_t_outputMany i_t_input) (wd_Md_takesSemicolon cI a_t a_t_w a_t_wKept a_t_saved a_t_past a_t_input a_t_n a_t_order a_t_numbers a_t_output i_t_pastMany i_t_isSaved i_t_thrown i_t_inputMany i_t_lastError i_t_lastOffset q.2.1 q.2.2.1 q.2.2.2.1 q.2.2.2.2.1 q.2.2.2.2.2.1 q.2.2.2.2.2.2 i_t_got i_t_orders i_t_outputMany i_t_input) q.1 := by
  intro sz
  refine jk_body (by decide +kernel) (fun p e s m args below meth c hsz hz hin C => ?_) (Nat.le_of_ble_eq_true rfl)
  subst hsz
  unfold fn_Md_takesSemicolon at hf
  refine jk_aload_n C rd_Md_takesSemicolon_0 (k := 0) rfl ?_
  refine jk_get C in_Md (ci := 11) rfl 16 (by decide) tm_1279 0 rfl rfl rd_Md_takesSemicolon_1 ?_
  refine jk_iconst C rd_Md_takesSemicolon_4 ?_
  refine jk_icmp_eq (tgt := 14) C rd_Md_takesSemicolon_5 (by decide) hf (fun _ hf => ?_) (fun _ hf => ?_)
  · refine jk_aload_n C rd_Md_takesSemicolon_14 (k := 0) rfl ?_
    obtain ⟨q15, hq15, hf⟩ := jk_bind_h hf
    refine jk_callVv C hZ.1 hz (ct_Md_advanceToken l D Z sq hZ cI cR a_t a_t_w a_t_wKept a_t_saved a_t_past a_t_input a_t_n a_t_order a_t_numbers a_t_output i_t_pastMany i_t_isSaved i_t_thrown i_t_inputMany i_t_lastError i_t_lastOffset i_t_error i_t_offset i_t_nextByte i_t_begin i_t_value i_t_token i_t_got i_t_orders i_t_outputMany i_t_input q15 hq15) tm_1366 tm_1368 sl_29 tm_15 tm_1369 na_Md_advanceToken ⟨Nat.le_of_ble_eq_true rfl, Nat.le_of_ble_eq_true rfl⟩ rfl [0, 1] rfl rfl rfl (ws' := wd_Md_takesSemicolon cI a_t a_t_w a_t_wKept a_t_saved a_t_past a_t_input a_t_n a_t_order a_t_numbers a_t_output i_t_pastMany i_t_isSaved i_t_thrown i_t_inputMany i_t_lastError i_t_lastOffset i_t_error i_t_offset q15.1 q15.2.1 q15.2.2.1 q15.2.2.2 i_t_got i_t_orders i_t_outputMany i_t_input) rfl 0 11 rfl rfl rfl (st := []) rfl (Nat.le_of_ble_eq_true rfl) rd_Md_takesSemicolon_15 ?_ ⟨Nat.le_of_ble_eq_true rfl, Nat.le_of_ble_eq_true rfl⟩
    refine jk_iconst C rd_Md_takesSemicolon_18 ?_
    cases hf
    exact jk_zret C (Or.inr rfl) rfl rd_Md_takesSemicolon_19 rfl
  · refine jk_aload_n C rd_Md_takesSemicolon_8 (k := 0) rfl ?_
    refine jk_iconst C rd_Md_takesSemicolon_9 ?_
    obtain ⟨q10, hq10, hf⟩ := jk_bind_h hf
    refine jk_callVi C hZ.1 hz (ct_Md_failsAt l D Z sq hZ cI cR a_t a_t_w a_t_wKept a_t_saved a_t_past a_t_input a_t_n a_t_order a_t_numbers a_t_output i_t_pastMany i_t_isSaved i_t_thrown i_t_inputMany i_t_lastError i_t_lastOffset i_t_error i_t_offset i_t_nextByte i_t_begin i_t_value i_t_token i_t_got i_t_orders i_t_outputMany 1 q10 hq10) tm_1397 tm_1399 sl_36 tm_15 tm_1400 na_Md_failsAt ⟨Nat.le_of_ble_eq_true rfl, Nat.le_of_ble_eq_true rfl⟩ rfl [0] rfl rfl rfl (ws' := wd_Md_takesSemicolon cI a_t a_t_w a_t_wKept a_t_saved a_t_past a_t_input a_t_n a_t_order a_t_numbers a_t_output i_t_pastMany i_t_isSaved i_t_thrown i_t_inputMany i_t_lastError i_t_lastOffset q10.2.1 q10.2.2 i_t_nextByte i_t_begin i_t_value i_t_token i_t_got i_t_orders i_t_outputMany i_t_input) rfl 0 11 rfl rfl rfl (st := []) rfl (Nat.le_of_ble_eq_true rfl) rd_Md_takesSemicolon_10 ?_ ⟨Nat.le_of_ble_eq_true rfl, Nat.le_of_ble_eq_true rfl⟩
    obtain ⟨hbo, hf⟩ := jk_bo_h hf
    cases hf
    exact jk_zret C hbo rfl rd_Md_takesSemicolon_13 rfl
def wd_Md_seesName (cI : ClassId) (a_t a_t_w a_t_wKept a_t_saved a_t_past a_t_input a_t_n a_t_order a_t_numbers a_t_output : Nat) (i_t_pastMany : Int) (i_t_isSaved : Int) (i_t_thrown : Int) (i_t_inputMany : Int) (i_t_lastError : Int) (i_t_lastOffset : Int) (i_t_error : Int) (i_t_offset : Int) (i_t_nextByte : Int) (i_t_begin : Int) (i_t_value : Int) (i_t_token : Int) (i_t_got : Int) (i_t_orders : Int) (i_t_outputMany : Int) : va_W := [(a_t, .inr (11, [.ref a_t_w, .ref a_t_wKept, .ref a_t_saved, .ref a_t_past, jk_V i_t_pastMany, jk_V i_t_isSaved, jk_V i_t_thrown, .ref a_t_input, jk_V i_t_inputMany, jk_V i_t_lastError, jk_V i_t_lastOffset, jk_V i_t_error, jk_V i_t_offset, jk_V i_t_nextByte, jk_V i_t_begin, jk_V i_t_value, jk_V i_t_token, jk_V i_t_got, .ref a_t_n, .ref a_t_order, .ref a_t_numbers, jk_V i_t_orders, .ref a_t_output, jk_V i_t_outputMany]))]
set_option maxHeartbeats 4000000 in
set_option maxRecDepth 20000 in
theorem ct_Md_seesName (l : Launch) (D : va_G) (Z : (Nat → Prop) → State → Heap → Prop) (sq : Nat → Nat) (hZ : jk_ZK Z sq) (cI cR : ClassId) (a_t a_t_w a_t_wKept a_t_saved a_t_past a_t_input a_t_n a_t_order a_t_numbers a_t_output : Nat) (i_t_pastMany : Int) (i_t_isSaved : Int) (i_t_thrown : Int) (i_t_inputMany : Int) (i_t_lastError : Int) (i_t_lastOffset : Int) (i_t_error : Int) (i_t_offset : Int) (i_t_nextByte : Int) (i_t_begin : Int) (i_t_value : Int) (i_t_token : Int) (i_t_got : Int) (i_t_orders : Int) (i_t_outputMany : Int) (q : Int × Int × Int) (hf : fn_Md_seesName i_t_error i_t_offset i_t_nextByte i_t_begin i_t_token = some q) : jk_MI l D jk_cl (jk_ty cI cR) Z mn_Md_seesName (.code mn_Md_seesName mb_Md_seesName 1 (some .boolean) :: jk_WA) (jk_rm 1 21) [.ref a_t] (wd_Md_seesName cI a_t a_t_w a_t_wKept a_t_saved a_t_past a_t_input a_t_n a_t_order a_t_numbers a_t_output i_t_pastMany i_t_isSaved i_t_thrown i_t_inputMany i_t_lastError i_t_lastOffset i_t_error i_t_offset i_t_nextByte i_t_begin i_t_value i_t_token i_t_got i_t_orders i_t_outputMany) (wd_Md_seesName cI a_t a_t_w a_t_wKept a_t_saved a_t_past a_t_input a_t_n a_t_order a_t_numbers a_t_output i_t_pastMany i_t_isSaved i_t_thrown i_t_inputMany i_t_lastError i_t_lastOffset q.2.1 q.2.2 i_t_nextByte i_t_begin i_t_value i_t_token i_t_got i_t_orders i_t_outputMany) q.1 := by
  intro sz
  refine jk_body (by decide +kernel) (fun p e s m args below meth c hsz hz hin C => ?_) (Nat.le_of_ble_eq_true rfl)
  subst hsz
  unfold fn_Md_seesName at hf
  refine jk_aload_n C rd_Md_seesName_0 (k := 0) rfl ?_
  refine jk_get C in_Md (ci := 11) rfl 16 (by decide) tm_1279 0 rfl rfl rd_Md_seesName_1 ?_
  refine jk_iconst C rd_Md_seesName_4 ?_
  refine jk_icmp_ne (tgt := 22) C rd_Md_seesName_5 (by decide) hf (fun _ hf => ?_) (fun _ hf => ?_)
  · refine jk_aload_n C rd_Md_seesName_22 (k := 0) rfl ?_
    refine jk_iconst C rd_Md_seesName_23 ?_
    obtain ⟨q24, hq24, hf⟩ := jk_bind_h hf
    refine jk_callVi C hZ.1 hz (ct_Md_failsAt l D Z sq hZ cI cR a_t a_t_w a_t_wKept a_t_saved a_t_past a_t_input a_t_n a_t_order a_t_numbers a_t_output i_t_pastMany i_t_isSaved i_t_thrown i_t_inputMany i_t_lastError i_t_lastOffset i_t_error i_t_offset i_t_nextByte i_t_begin i_t_value i_t_token i_t_got i_t_orders i_t_outputMany 1 q24 hq24) tm_1397 tm_1399 sl_36 tm_15 tm_1400 na_Md_failsAt ⟨Nat.le_of_ble_eq_true rfl, Nat.le_of_ble_eq_true rfl⟩ rfl [0] rfl rfl rfl (ws' := wd_Md_seesName cI a_t a_t_w a_t_wKept a_t_saved a_t_past a_t_input a_t_n a_t_order a_t_numbers a_t_output i_t_pastMany i_t_isSaved i_t_thrown i_t_inputMany i_t_lastError i_t_lastOffset q24.2.1 q24.2.2 i_t_nextByte i_t_begin i_t_value i_t_token i_t_got i_t_orders i_t_outputMany) rfl 0 11 rfl rfl rfl (st := []) rfl (Nat.le_of_ble_eq_true rfl) rd_Md_seesName_24 ?_ ⟨Nat.le_of_ble_eq_true rfl, Nat.le_of_ble_eq_true rfl⟩
    refine jk_if_eq (tgt := 34) C rd_Md_seesName_27 (by decide) hf (fun _ hf => ?_) (fun _ hf => ?_)
    · refine jk_iconst C rd_Md_seesName_34 ?_
      cases hf
      exact jk_zret C (Or.inl rfl) rfl rd_Md_seesName_35 rfl
    · refine jk_iconst C rd_Md_seesName_30 ?_
      refine jk_goto (tgt := 35) C rd_Md_seesName_31 (by decide) ?_
      cases hf
      exact jk_zret C (Or.inr rfl) rfl rd_Md_seesName_35 rfl
  · refine jk_aload_n C rd_Md_seesName_8 (k := 0) rfl ?_
    refine jk_get C in_Md (ci := 11) rfl 13 (by decide) tm_1276 0 rfl rfl rd_Md_seesName_9 ?_
    refine jk_aload_n C rd_Md_seesName_12 (k := 0) rfl ?_
    refine jk_get C in_Md (ci := 11) rfl 14 (by decide) tm_1277 0 rfl rfl rd_Md_seesName_13 ?_
    refine jk_isub C rd_Md_seesName_16 ?_
    refine jk_bipush C rd_Md_seesName_17 (by decide +kernel) ?_
    refine jk_icmp_le (tgt := 30) C rd_Md_seesName_19 (by decide) hf (fun _ hf => ?_) (fun _ hf => ?_)
    · refine jk_iconst C rd_Md_seesName_30 ?_
      refine jk_goto (tgt := 35) C rd_Md_seesName_31 (by decide) ?_
      cases hf
      exact jk_zret C (Or.inr rfl) rfl rd_Md_seesName_35 rfl
    · refine jk_aload_n C rd_Md_seesName_22 (k := 0) rfl ?_
      refine jk_iconst C rd_Md_seesName_23 ?_
      obtain ⟨q24, hq24, hf⟩ := jk_bind_h hf
      refine jk_callVi C hZ.1 hz (ct_Md_failsAt l D Z sq hZ cI cR a_t a_t_w a_t_wKept a_t_saved a_t_past a_t_input a_t_n a_t_order a_t_numbers a_t_output i_t_pastMany i_t_isSaved i_t_thrown i_t_inputMany i_t_lastError i_t_lastOffset i_t_error i_t_offset i_t_nextByte i_t_begin i_t_value i_t_token i_t_got i_t_orders i_t_outputMany 1 q24 hq24) tm_1397 tm_1399 sl_36 tm_15 tm_1400 na_Md_failsAt ⟨Nat.le_of_ble_eq_true rfl, Nat.le_of_ble_eq_true rfl⟩ rfl [0] rfl rfl rfl (ws' := wd_Md_seesName cI a_t a_t_w a_t_wKept a_t_saved a_t_past a_t_input a_t_n a_t_order a_t_numbers a_t_output i_t_pastMany i_t_isSaved i_t_thrown i_t_inputMany i_t_lastError i_t_lastOffset q24.2.1 q24.2.2 i_t_nextByte i_t_begin i_t_value i_t_token i_t_got i_t_orders i_t_outputMany) rfl 0 11 rfl rfl rfl (st := []) rfl (Nat.le_of_ble_eq_true rfl) rd_Md_seesName_24 ?_ ⟨Nat.le_of_ble_eq_true rfl, Nat.le_of_ble_eq_true rfl⟩
      refine jk_if_eq (tgt := 34) C rd_Md_seesName_27 (by decide) hf (fun _ hf => ?_) (fun _ hf => ?_)
      · refine jk_iconst C rd_Md_seesName_34 ?_
        cases hf
        exact jk_zret C (Or.inl rfl) rfl rd_Md_seesName_35 rfl
      · refine jk_iconst C rd_Md_seesName_30 ?_
        refine jk_goto (tgt := 35) C rd_Md_seesName_31 (by decide) ?_
        cases hf
        exact jk_zret C (Or.inr rfl) rfl rd_Md_seesName_35 rfl
def wd_Md_isNameAt (cI : ClassId) (a_t a_t_w a_t_wKept a_t_saved a_t_past a_t_input a_t_n a_t_order a_t_numbers a_t_output : Nat) (i_t_pastMany : Int) (i_t_isSaved : Int) (i_t_thrown : Int) (i_t_inputMany : Int) (i_t_lastError : Int) (i_t_lastOffset : Int) (i_t_error : Int) (i_t_offset : Int) (i_t_nextByte : Int) (i_t_begin : Int) (i_t_value : Int) (i_t_token : Int) (i_t_got : Int) (i_t_orders : Int) (i_t_outputMany : Int) (i_t_w : (Int → Int)) (i_t_input : (Int → Int)) : va_W := [(a_t, .inr (11, [.ref a_t_w, .ref a_t_wKept, .ref a_t_saved, .ref a_t_past, jk_V i_t_pastMany, jk_V i_t_isSaved, jk_V i_t_thrown, .ref a_t_input, jk_V i_t_inputMany, jk_V i_t_lastError, jk_V i_t_lastOffset, jk_V i_t_error, jk_V i_t_offset, jk_V i_t_nextByte, jk_V i_t_begin, jk_V i_t_value, jk_V i_t_token, jk_V i_t_got, .ref a_t_n, .ref a_t_order, .ref a_t_numbers, jk_V i_t_orders, .ref a_t_output, jk_V i_t_outputMany])), (a_t_w, jk_W cI 259 i_t_w), (a_t_input, jk_W cI 700 i_t_input)]
set_option maxHeartbeats 4000000 in
set_option maxRecDepth 20000 in
theorem ct_Md_isNameAt (l : Launch) (D : va_G) (Z : (Nat → Prop) → State → Heap → Prop) (sq : Nat → Nat) (hZ : jk_ZK Z sq) (cI cR : ClassId) (a_t a_t_w a_t_wKept a_t_saved a_t_past a_t_input a_t_n a_t_order a_t_numbers a_t_output : Nat) (i_t_pastMany : Int) (i_t_isSaved : Int) (i_t_thrown : Int) (i_t_inputMany : Int) (i_t_lastError : Int) (i_t_lastOffset : Int) (i_t_error : Int) (i_t_offset : Int) (i_t_nextByte : Int) (i_t_begin : Int) (i_t_value : Int) (i_t_token : Int) (i_t_got : Int) (i_t_orders : Int) (i_t_outputMany : Int) (i_t_w : (Int → Int)) (i_t_input : (Int → Int)) (x1 : Int) (q : Int) (hf : fn_Md_isNameAt i_t_w i_t_input i_t_nextByte i_t_begin x1 = some q) : jk_MI l D jk_cl (jk_ty cI cR) Z mn_Md_isNameAt (.code mn_Md_isNameAt mb_Md_isNameAt 3 (some .boolean) :: jk_WA) (jk_rm 0 0) [.ref a_t, jk_V x1] (wd_Md_isNameAt cI a_t a_t_w a_t_wKept a_t_saved a_t_past a_t_input a_t_n a_t_order a_t_numbers a_t_output i_t_pastMany i_t_isSaved i_t_thrown i_t_inputMany i_t_lastError i_t_lastOffset i_t_error i_t_offset i_t_nextByte i_t_begin i_t_value i_t_token i_t_got i_t_orders i_t_outputMany i_t_w i_t_input) (wd_Md_isNameAt cI a_t a_t_w a_t_wKept a_t_saved a_t_past a_t_input a_t_n a_t_order a_t_numbers a_t_output i_t_pastMany i_t_isSaved i_t_thrown i_t_inputMany i_t_lastError i_t_lastOffset i_t_error i_t_offset i_t_nextByte i_t_begin i_t_value i_t_token i_t_got i_t_orders i_t_outputMany i_t_w i_t_input) q := by
  intro sz
  refine jk_body (by decide +kernel) (fun p e s m args below meth c hsz hz hin C => ?_) (Nat.le_of_ble_eq_true rfl)
  subst hsz
  unfold fn_Md_isNameAt at hf
  have bk_24 : ∀ (n : Nat) (v1 : Int) (v2 : Int), fn_Md_isNameAt_b24 n i_t_w i_t_input i_t_nextByte i_t_begin v1 v2 = some q → jk_J p l e (jk_rm 0 0) s m args below meth c 0 0 (jk_QI below D jk_cl (jk_ty cI cR) (wd_Md_isNameAt cI a_t a_t_w a_t_wKept a_t_saved a_t_past a_t_input a_t_n a_t_order a_t_numbers a_t_output i_t_pastMany i_t_isSaved i_t_thrown i_t_inputMany i_t_lastError i_t_lastOffset i_t_error i_t_offset i_t_nextByte i_t_begin i_t_value i_t_token i_t_got i_t_orders i_t_outputMany i_t_w i_t_input) (wd_Md_isNameAt cI a_t a_t_w a_t_wKept a_t_saved a_t_past a_t_input a_t_n a_t_order a_t_numbers a_t_output i_t_pastMany i_t_isSaved i_t_thrown i_t_inputMany i_t_lastError i_t_lastOffset i_t_error i_t_offset i_t_nextByte i_t_begin i_t_value i_t_token i_t_got i_t_orders i_t_outputMany i_t_w i_t_input) args s q) D jk_cl (va_A (wd_Md_isNameAt cI a_t a_t_w a_t_wKept a_t_saved a_t_past a_t_input a_t_n a_t_order a_t_numbers a_t_output i_t_pastMany i_t_isSaved i_t_thrown i_t_inputMany i_t_lastError i_t_lastOffset i_t_error i_t_offset i_t_nextByte i_t_begin i_t_value i_t_token i_t_got i_t_orders i_t_outputMany i_t_w i_t_input) s.heap.size) 3 (wd_Md_isNameAt cI a_t a_t_w a_t_wKept a_t_saved a_t_past a_t_input a_t_n a_t_order a_t_numbers a_t_output i_t_pastMany i_t_isSaved i_t_thrown i_t_inputMany i_t_lastError i_t_lastOffset i_t_error i_t_offset i_t_nextByte i_t_begin i_t_value i_t_token i_t_got i_t_orders i_t_outputMany i_t_w i_t_input) [(0, .ref a_t), (1, jk_V v1), (2, jk_V v2)] 24 [] := by
    intro n
    induction n with
    | zero => intro v1 v2 hf; exact nomatch (show none = some q from hf)
    | succ n ih =>
      intro v1 v2 hf
      rw [fn_Md_isNameAt_b24] at hf
      refine jk_iload_n C rd_Md_isNameAt_24 (k := 2) rfl ?_
      refine jk_aload_n C rd_Md_isNameAt_25 (k := 0) rfl ?_
      refine jk_get C in_Md (ci := 11) rfl 13 (by decide) tm_1276 0 rfl rfl rd_Md_isNameAt_26 ?_
      refine jk_aload_n C rd_Md_isNameAt_29 (k := 0) rfl ?_
      refine jk_get C in_Md (ci := 11) rfl 14 (by decide) tm_1277 0 rfl rfl rd_Md_isNameAt_30 ?_
      refine jk_isub C rd_Md_isNameAt_33 ?_
      refine jk_icmp_ge (tgt := 69) C rd_Md_isNameAt_34 (by decide) hf (fun _ hf => ?_) (fun _ hf => ?_)
      · refine jk_iconst C rd_Md_isNameAt_69 ?_
        cases hf
        exact jk_zret C (Or.inr rfl) rfl rd_Md_isNameAt_70 rfl
      · refine jk_aload_n C rd_Md_isNameAt_37 (k := 0) rfl ?_
        refine jk_get C in_Md (ci := 11) rfl 0 (by decide) tm_1263 0 rfl rfl rd_Md_isNameAt_38 ?_
        refine jk_iload_n C rd_Md_isNameAt_41 (k := 1) rfl ?_
        refine jk_iconst C rd_Md_isNameAt_42 ?_
        refine jk_iadd C rd_Md_isNameAt_43 ?_
        refine jk_iload_n C rd_Md_isNameAt_44 (k := 2) rfl ?_
        refine jk_iadd C rd_Md_isNameAt_45 ?_
        refine jk_iald C 1 0 rfl rfl (Nat.le_of_ble_eq_true rfl) rd_Md_isNameAt_46 hf (fun hf => ?_)
        refine jk_aload_n C rd_Md_isNameAt_47 (k := 0) rfl ?_
        refine jk_get C in_Md (ci := 11) rfl 7 (by decide) tm_1270 0 rfl rfl rd_Md_isNameAt_48 ?_
        refine jk_aload_n C rd_Md_isNameAt_51 (k := 0) rfl ?_
        refine jk_get C in_Md (ci := 11) rfl 14 (by decide) tm_1277 0 rfl rfl rd_Md_isNameAt_52 ?_
        refine jk_iload_n C rd_Md_isNameAt_55 (k := 2) rfl ?_
        refine jk_iadd C rd_Md_isNameAt_56 ?_
        refine jk_iald C 2 0 rfl rfl (Nat.le_of_ble_eq_true rfl) rd_Md_isNameAt_57 hf (fun hf => ?_)
        refine jk_icmp_eq (tgt := 63) C rd_Md_isNameAt_58 (by decide) hf (fun _ hf => ?_) (fun _ hf => ?_)
        · refine jk_iinc C rd_Md_isNameAt_63 (k := 2) rfl (by decide) (lv' := [(2, jk_V (v2 + 1)), (0, .ref a_t), (1, jk_V v1)]) rfl ?_
          refine jk_goto (tgt := 24) C rd_Md_isNameAt_66 (by decide) ?_
          refine jk_lv (lv' := [(0, .ref a_t), (1, jk_V v1), (2, jk_V (v2 + 1))]) [1, 2, 0] rfl ?_
          exact ih v1 (v2 + 1) hf
        · refine jk_iconst C rd_Md_isNameAt_61 ?_
          cases hf
          exact jk_zret C (Or.inl rfl) rfl rd_Md_isNameAt_62 rfl
  refine jk_aload_n C rd_Md_isNameAt_0 (k := 0) rfl ?_
  refine jk_get C in_Md (ci := 11) rfl 0 (by decide) tm_1263 0 rfl rfl rd_Md_isNameAt_1 ?_
  refine jk_iload_n C rd_Md_isNameAt_4 (k := 1) rfl ?_
  refine jk_iconst C rd_Md_isNameAt_5 ?_
  refine jk_iadd C rd_Md_isNameAt_6 ?_
  refine jk_iald C 1 0 rfl rfl (Nat.le_of_ble_eq_true rfl) rd_Md_isNameAt_7 hf (fun hf => ?_)
  refine jk_aload_n C rd_Md_isNameAt_8 (k := 0) rfl ?_
  refine jk_get C in_Md (ci := 11) rfl 13 (by decide) tm_1276 0 rfl rfl rd_Md_isNameAt_9 ?_
  refine jk_aload_n C rd_Md_isNameAt_12 (k := 0) rfl ?_
  refine jk_get C in_Md (ci := 11) rfl 14 (by decide) tm_1277 0 rfl rfl rd_Md_isNameAt_13 ?_
  refine jk_isub C rd_Md_isNameAt_16 ?_
  refine jk_icmp_eq (tgt := 22) C rd_Md_isNameAt_17 (by decide) hf (fun _ hf => ?_) (fun _ hf => ?_)
  · refine jk_iconst C rd_Md_isNameAt_22 ?_
    refine jk_istore_n C rd_Md_isNameAt_23 (by decide) (lv' := [(2, jk_V 0), (0, .ref a_t), (1, jk_V x1)]) rfl ?_
    refine jk_lv (lv' := [(0, .ref a_t), (1, jk_V x1), (2, jk_V 0)]) [1, 2, 0] rfl ?_
    exact bk_24 jk_F x1 0 hf
  · refine jk_iconst C rd_Md_isNameAt_20 ?_
    cases hf
    exact jk_zret C (Or.inl rfl) rfl rd_Md_isNameAt_21 rfl
def wd_Md_topicHere (cI : ClassId) (a_t a_t_w a_t_wKept a_t_saved a_t_past a_t_input a_t_n a_t_order a_t_numbers a_t_output : Nat) (i_t_pastMany : Int) (i_t_isSaved : Int) (i_t_thrown : Int) (i_t_inputMany : Int) (i_t_lastError : Int) (i_t_lastOffset : Int) (i_t_error : Int) (i_t_offset : Int) (i_t_nextByte : Int) (i_t_begin : Int) (i_t_value : Int) (i_t_token : Int) (i_t_got : Int) (i_t_orders : Int) (i_t_outputMany : Int) (i_t_w : (Int → Int)) (i_t_input : (Int → Int)) : va_W := [(a_t, .inr (11, [.ref a_t_w, .ref a_t_wKept, .ref a_t_saved, .ref a_t_past, jk_V i_t_pastMany, jk_V i_t_isSaved, jk_V i_t_thrown, .ref a_t_input, jk_V i_t_inputMany, jk_V i_t_lastError, jk_V i_t_lastOffset, jk_V i_t_error, jk_V i_t_offset, jk_V i_t_nextByte, jk_V i_t_begin, jk_V i_t_value, jk_V i_t_token, jk_V i_t_got, .ref a_t_n, .ref a_t_order, .ref a_t_numbers, jk_V i_t_orders, .ref a_t_output, jk_V i_t_outputMany])), (a_t_w, jk_W cI 259 i_t_w), (a_t_input, jk_W cI 700 i_t_input)]
set_option maxHeartbeats 4000000 in
set_option maxRecDepth 20000 in
theorem ct_Md_topicHere (l : Launch) (D : va_G) (Z : (Nat → Prop) → State → Heap → Prop) (sq : Nat → Nat) (hZ : jk_ZK Z sq) (cI cR : ClassId) (a_t a_t_w a_t_wKept a_t_saved a_t_past a_t_input a_t_n a_t_order a_t_numbers a_t_output : Nat) (i_t_pastMany : Int) (i_t_isSaved : Int) (i_t_thrown : Int) (i_t_inputMany : Int) (i_t_lastError : Int) (i_t_lastOffset : Int) (i_t_error : Int) (i_t_offset : Int) (i_t_nextByte : Int) (i_t_begin : Int) (i_t_value : Int) (i_t_token : Int) (i_t_got : Int) (i_t_orders : Int) (i_t_outputMany : Int) (i_t_w : (Int → Int)) (i_t_input : (Int → Int)) (q : Int) (hf : fn_Md_topicHere i_t_w i_t_input i_t_nextByte i_t_begin = some q) : jk_MI l D jk_cl (jk_ty cI cR) Z mn_Md_topicHere (.code mn_Md_topicHere mb_Md_topicHere 2 (some .int) :: jk_WA) (jk_rm 1 22) [.ref a_t] (wd_Md_topicHere cI a_t a_t_w a_t_wKept a_t_saved a_t_past a_t_input a_t_n a_t_order a_t_numbers a_t_output i_t_pastMany i_t_isSaved i_t_thrown i_t_inputMany i_t_lastError i_t_lastOffset i_t_error i_t_offset i_t_nextByte i_t_begin i_t_value i_t_token i_t_got i_t_orders i_t_outputMany i_t_w i_t_input) (wd_Md_topicHere cI a_t a_t_w a_t_wKept a_t_saved a_t_past a_t_input a_t_n a_t_order a_t_numbers a_t_output i_t_pastMany i_t_isSaved i_t_thrown i_t_inputMany i_t_lastError i_t_lastOffset i_t_error i_t_offset i_t_nextByte i_t_begin i_t_value i_t_token i_t_got i_t_orders i_t_outputMany i_t_w i_t_input) q := by
  intro sz
  refine jk_body (by decide +kernel) (fun p e s m args below meth c hsz hz hin C => ?_) (Nat.le_of_ble_eq_true rfl)
  subst hsz
  unfold fn_Md_topicHere at hf
  have bk_2 : ∀ (n : Nat) (v1 : Int), fn_Md_topicHere_b2 n i_t_w i_t_input i_t_nextByte i_t_begin v1 = some q → jk_J p l e (jk_rm 1 22) s m args below meth c 0 0 (jk_QI below D jk_cl (jk_ty cI cR) (wd_Md_topicHere cI a_t a_t_w a_t_wKept a_t_saved a_t_past a_t_input a_t_n a_t_order a_t_numbers a_t_output i_t_pastMany i_t_isSaved i_t_thrown i_t_inputMany i_t_lastError i_t_lastOffset i_t_error i_t_offset i_t_nextByte i_t_begin i_t_value i_t_token i_t_got i_t_orders i_t_outputMany i_t_w i_t_input) (wd_Md_topicHere cI a_t a_t_w a_t_wKept a_t_saved a_t_past a_t_input a_t_n a_t_order a_t_numbers a_t_output i_t_pastMany i_t_isSaved i_t_thrown i_t_inputMany i_t_lastError i_t_lastOffset i_t_error i_t_offset i_t_nextByte i_t_begin i_t_value i_t_token i_t_got i_t_orders i_t_outputMany i_t_w i_t_input) args s q) D jk_cl (va_A (wd_Md_topicHere cI a_t a_t_w a_t_wKept a_t_saved a_t_past a_t_input a_t_n a_t_order a_t_numbers a_t_output i_t_pastMany i_t_isSaved i_t_thrown i_t_inputMany i_t_lastError i_t_lastOffset i_t_error i_t_offset i_t_nextByte i_t_begin i_t_value i_t_token i_t_got i_t_orders i_t_outputMany i_t_w i_t_input) s.heap.size) 2 (wd_Md_topicHere cI a_t a_t_w a_t_wKept a_t_saved a_t_past a_t_input a_t_n a_t_order a_t_numbers a_t_output i_t_pastMany i_t_isSaved i_t_thrown i_t_inputMany i_t_lastError i_t_lastOffset i_t_error i_t_offset i_t_nextByte i_t_begin i_t_value i_t_token i_t_got i_t_orders i_t_outputMany i_t_w i_t_input) [(0, .ref a_t), (1, jk_V v1)] 2 [] := by
    intro n
    induction n with
    | zero => intro v1 hf; exact nomatch (show none = some q from hf)
    | succ n ih =>
      intro v1 hf
      rw [fn_Md_topicHere_b2] at hf
      refine jk_iload_n C rd_Md_topicHere_2 (k := 1) rfl ?_
      refine jk_aload_n C rd_Md_topicHere_3 (k := 0) rfl ?_
      refine jk_get C in_Md (ci := 11) rfl 0 (by decide) tm_1263 0 rfl rfl rd_Md_topicHere_4 ?_
      refine jk_iconst C rd_Md_topicHere_7 ?_
      refine jk_iald C 1 0 rfl rfl (Nat.le_of_ble_eq_true rfl) rd_Md_topicHere_8 hf (fun hf => ?_)
      refine jk_icmp_ge (tgt := 33) C rd_Md_topicHere_9 (by decide) hf (fun _ hf => ?_) (fun _ hf => ?_)
      · refine jk_iconst C rd_Md_topicHere_33 ?_
        cases hf
        exact jk_iret C rfl rd_Md_topicHere_34 rfl
      · refine jk_aload_n C rd_Md_topicHere_12 (k := 0) rfl ?_
        refine jk_iconst C rd_Md_topicHere_13 ?_
        refine jk_bipush C rd_Md_topicHere_14 (by decide +kernel) ?_
        refine jk_iload_n C rd_Md_topicHere_16 (k := 1) rfl ?_
        refine jk_imul C rd_Md_topicHere_17 ?_
        refine jk_iadd C rd_Md_topicHere_18 ?_
        obtain ⟨q19, hq19, hf⟩ := jk_bind_h hf
        refine jk_callVi C hZ.1 hz (ct_Md_isNameAt l D Z sq hZ cI cR a_t a_t_w a_t_wKept a_t_saved a_t_past a_t_input a_t_n a_t_order a_t_numbers a_t_output i_t_pastMany i_t_isSaved i_t_thrown i_t_inputMany i_t_lastError i_t_lastOffset i_t_error i_t_offset i_t_nextByte i_t_begin i_t_value i_t_token i_t_got i_t_orders i_t_outputMany i_t_w i_t_input (3 + (7 * v1)) q19 hq19) tm_1409 tm_1411 sl_39 tm_15 tm_1412 na_Md_isNameAt ⟨Nat.le_of_ble_eq_true rfl, Nat.le_of_ble_eq_true rfl⟩ rfl [0, 1, 2] rfl rfl rfl (ws' := wd_Md_topicHere cI a_t a_t_w a_t_wKept a_t_saved a_t_past a_t_input a_t_n a_t_order a_t_numbers a_t_output i_t_pastMany i_t_isSaved i_t_thrown i_t_inputMany i_t_lastError i_t_lastOffset i_t_error i_t_offset i_t_nextByte i_t_begin i_t_value i_t_token i_t_got i_t_orders i_t_outputMany i_t_w i_t_input) rfl 0 11 rfl rfl rfl (st := []) rfl (Nat.le_of_ble_eq_true rfl) rd_Md_topicHere_19 ?_ ⟨Nat.le_of_ble_eq_true rfl, Nat.le_of_ble_eq_true rfl⟩
        refine jk_if_eq (tgt := 27) C rd_Md_topicHere_22 (by decide) hf (fun _ hf => ?_) (fun _ hf => ?_)
        · refine jk_iinc C rd_Md_topicHere_27 (k := 1) rfl (by decide) (lv' := [(1, jk_V (v1 + 1)), (0, .ref a_t)]) rfl ?_
          refine jk_goto (tgt := 2) C rd_Md_topicHere_30 (by decide) ?_
          refine jk_lv (lv' := [(0, .ref a_t), (1, jk_V (v1 + 1))]) [1, 0] rfl ?_
          exact ih (v1 + 1) hf
        · refine jk_iload_n C rd_Md_topicHere_25 (k := 1) rfl ?_
          cases hf
          exact jk_iret C rfl rd_Md_topicHere_26 rfl
  refine jk_iconst C rd_Md_topicHere_0 ?_
  refine jk_istore_n C rd_Md_topicHere_1 (by decide) (lv' := [(1, jk_V 0), (0, .ref a_t)]) rfl ?_
  refine jk_lv (lv' := [(0, .ref a_t), (1, jk_V 0)]) [1, 0] rfl ?_
  exact bk_2 jk_F 0 hf
def wd_Md_takes (cI : ClassId) (a_t a_t_w a_t_wKept a_t_saved a_t_past a_t_input a_t_n a_t_order a_t_numbers a_t_output : Nat) (i_t_pastMany : Int) (i_t_isSaved : Int) (i_t_thrown : Int) (i_t_inputMany : Int) (i_t_lastError : Int) (i_t_lastOffset : Int) (i_t_error : Int) (i_t_offset : Int) (i_t_nextByte : Int) (i_t_begin : Int) (i_t_value : Int) (i_t_token : Int) (i_t_got : Int) (i_t_orders : Int) (i_t_outputMany : Int) (i_t_input : (Int → Int)) (i_t_n : (Int → Int)) : va_W := [(a_t, .inr (11, [.ref a_t_w, .ref a_t_wKept, .ref a_t_saved, .ref a_t_past, jk_V i_t_pastMany, jk_V i_t_isSaved, jk_V i_t_thrown, .ref a_t_input, jk_V i_t_inputMany, jk_V i_t_lastError, jk_V i_t_lastOffset, jk_V i_t_error, jk_V i_t_offset, jk_V i_t_nextByte, jk_V i_t_begin, jk_V i_t_value, jk_V i_t_token, jk_V i_t_got, .ref a_t_n, .ref a_t_order, .ref a_t_numbers, jk_V i_t_orders, .ref a_t_output, jk_V i_t_outputMany])), (a_t_input, jk_W cI 700 i_t_input), (a_t_n, jk_W cI 3 i_t_n)]
set_option maxHeartbeats 4000000 in
set_option maxRecDepth 20000 in
theorem ct_Md_takes (l : Launch) (D : va_G) (Z : (Nat → Prop) → State → Heap → Prop) (sq : Nat → Nat) (hZ : jk_ZK Z sq) (cI cR : ClassId) (a_t a_t_w a_t_wKept a_t_saved a_t_past a_t_input a_t_n a_t_order a_t_numbers a_t_output : Nat) (i_t_pastMany : Int) (i_t_isSaved : Int) (i_t_thrown : Int) (i_t_inputMany : Int) (i_t_lastError : Int) (i_t_lastOffset : Int) (i_t_error : Int) (i_t_offset : Int) (i_t_nextByte : Int) (i_t_begin : Int) (i_t_value : Int) (i_t_token : Int) (i_t_got : Int) (i_t_orders : Int) (i_t_outputMany : Int) (i_t_input : (Int → Int)) (i_t_n : (Int → Int)) (x1 : Int) (x2 : Int) (x3 : Int) (q : Int × Int × Int × Int × Int × Int × Int × Int × (Int → Int)) (hf : fn_Md_takes i_t_input i_t_inputMany i_t_error i_t_offset i_t_nextByte i_t_begin i_t_value i_t_token i_t_got i_t_n x1 x2 x3 = some q) : jk_MI l D jk_cl (jk_ty cI cR) Z mn_Md_takes (.code mn_Md_takes mb_Md_takes 4 (some .boolean) :: jk_WA) (jk_rm 4 86) [.ref a_t, jk_V x1, jk_V x2, jk_V x3] (wd_Md_takes cI a_t a_t_w a_t_wKept a_t_saved a_t_past a_t_input a_t_n a_t_order a_t_numbers a_t_output i_t_pastMany i_t_isSaved i_t_thrown i_t_inputMany i_t_lastError i_t_lastOffset i_t_error i_t_offset i_t_nextByte i_t_begin i_t_value i_t_token i_t_got i_t_orders i_t_outputMany i_t_input i_t_n) (wd_Md_takes cI a_t a_t_w a_t_wKept a_t_saved a_t_past a_t_input a_t_n a_t_order a_t_numbers a_t_output i_t_pastMany i_t_isSaved i_t_thrown i_t_inputMany i_t_lastError i_t_lastOffset q.2.1 q.2.2.1 q.2.2.2.1 q.2.2.2.2.1 q.2.2.2.2.2.1 q.2.2.2.2.2.2.1 q.2.2.2.2.2.2.2.1 i_t_orders i_t_outputMany i_t_input q.2.2.2.2.2.2.2.2) q.1 := by
  intro sz
  refine jk_body (by decide +kernel) (fun p e s m args below meth c hsz hz hin C => ?_) (Nat.le_of_ble_eq_true rfl)
  subst hsz
  unfold fn_Md_takes at hf
  refine jk_aload_n C rd_Md_takes_0 (k := 0) rfl ?_
  refine jk_iload_n C rd_Md_takes_1 (k := 2) rfl ?_
  refine jk_iload_n C rd_Md_takes_2 (k := 3) rfl ?_
  obtain ⟨q3, hq3, hf⟩ := jk_bind_h hf
  refine jk_callVi C hZ.1 hz (ct_Md_takesNumber l D Z sq hZ cI cR a_t a_t_w a_t_wKept a_t_saved a_t_past a_t_input a_t_n a_t_order a_t_numbers a_t_output i_t_pastMany i_t_isSaved i_t_thrown i_t_inputMany i_t_lastError i_t_lastOffset i_t_error i_t_offset i_t_nextByte i_t_begin i_t_value i_t_token i_t_got i_t_orders i_t_outputMany i_t_input x2 x3 q3 hq3) tm_1473 tm_1475 sl_54 tm_15 tm_1476 na_Md_takesNumber ⟨Nat.le_of_ble_eq_true rfl, Nat.le_of_ble_eq_true rfl⟩ rfl [0, 1] rfl rfl rfl (ws' := wd_Md_takes cI a_t a_t_w a_t_wKept a_t_saved a_t_past a_t_input a_t_n a_t_order a_t_numbers a_t_output i_t_pastMany i_t_isSaved i_t_thrown i_t_inputMany i_t_lastError i_t_lastOffset q3.2.1 q3.2.2.1 q3.2.2.2.1 q3.2.2.2.2.1 q3.2.2.2.2.2.1 q3.2.2.2.2.2.2.1 q3.2.2.2.2.2.2.2 i_t_orders i_t_outputMany i_t_input i_t_n) rfl 0 11 rfl rfl rfl (st := []) rfl (Nat.le_of_ble_eq_true rfl) rd_Md_takes_3 ?_ ⟨Nat.le_of_ble_eq_true rfl, Nat.le_of_ble_eq_true rfl⟩
  refine jk_if_ne (tgt := 11) C rd_Md_takes_6 (by decide) hf (fun _ hf => ?_) (fun _ hf => ?_)
  · refine jk_aload_n C rd_Md_takes_11 (k := 0) rfl ?_
    refine jk_get C in_Md (ci := 11) rfl 18 (by decide) tm_1281 0 rfl rfl rd_Md_takes_12 ?_
    refine jk_iload_n C rd_Md_takes_15 (k := 1) rfl ?_
    refine jk_aload_n C rd_Md_takes_16 (k := 0) rfl ?_
    refine jk_get C in_Md (ci := 11) rfl 17 (by decide) tm_1280 0 rfl rfl rd_Md_takes_17 ?_
    refine jk_iast C 2 0 rfl rfl (Nat.le_of_ble_eq_true rfl) rd_Md_takes_20 hf (ws' := wd_Md_takes cI a_t a_t_w a_t_wKept a_t_saved a_t_past a_t_input a_t_n a_t_order a_t_numbers a_t_output i_t_pastMany i_t_isSaved i_t_thrown i_t_inputMany i_t_lastError i_t_lastOffset q3.2.1 q3.2.2.1 q3.2.2.2.1 q3.2.2.2.2.1 q3.2.2.2.2.2.1 q3.2.2.2.2.2.2.1 q3.2.2.2.2.2.2.2 i_t_orders i_t_outputMany i_t_input (jk_up i_t_n x1 q3.2.2.2.2.2.2.2)) rfl (fun hf => ?_)
    refine jk_iconst C rd_Md_takes_21 ?_
    cases hf
    exact jk_zret C (Or.inr rfl) rfl rd_Md_takes_22 rfl
  · refine jk_iconst C rd_Md_takes_9 ?_
    cases hf
    exact jk_zret C (Or.inl rfl) rfl rd_Md_takes_10 rfl
def wd_Md_takesTopic (cI : ClassId) (a_t a_t_w a_t_wKept a_t_saved a_t_past a_t_input a_t_n a_t_order a_t_numbers a_t_output : Nat) (i_t_pastMany : Int) (i_t_isSaved : Int) (i_t_thrown : Int) (i_t_inputMany : Int) (i_t_lastError : Int) (i_t_lastOffset : Int) (i_t_error : Int) (i_t_offset : Int) (i_t_nextByte : Int) (i_t_begin : Int) (i_t_value : Int) (i_t_token : Int) (i_t_got : Int) (i_t_orders : Int) (i_t_outputMany : Int) (i_t_w : (Int → Int)) (i_t_input : (Int → Int)) (i_t_n : (Int → Int)) : va_W := [(a_t, .inr (11, [.ref a_t_w, .ref a_t_wKept, .ref a_t_saved, .ref a_t_past, jk_V i_t_pastMany, jk_V i_t_isSaved, jk_V i_t_thrown, .ref a_t_input, jk_V i_t_inputMany, jk_V i_t_lastError, jk_V i_t_lastOffset, jk_V i_t_error, jk_V i_t_offset, jk_V i_t_nextByte, jk_V i_t_begin, jk_V i_t_value, jk_V i_t_token, jk_V i_t_got, .ref a_t_n, .ref a_t_order, .ref a_t_numbers, jk_V i_t_orders, .ref a_t_output, jk_V i_t_outputMany])), (a_t_w, jk_W cI 259 i_t_w), (a_t_input, jk_W cI 700 i_t_input), (a_t_n, jk_W cI 3 i_t_n)]
set_option maxHeartbeats 4000000 in
set_option maxRecDepth 20000 in
theorem ct_Md_takesTopic (l : Launch) (D : va_G) (Z : (Nat → Prop) → State → Heap → Prop) (sq : Nat → Nat) (hZ : jk_ZK Z sq) (cI cR : ClassId) (a_t a_t_w a_t_wKept a_t_saved a_t_past a_t_input a_t_n a_t_order a_t_numbers a_t_output : Nat) (i_t_pastMany : Int) (i_t_isSaved : Int) (i_t_thrown : Int) (i_t_inputMany : Int) (i_t_lastError : Int) (i_t_lastOffset : Int) (i_t_error : Int) (i_t_offset : Int) (i_t_nextByte : Int) (i_t_begin : Int) (i_t_value : Int) (i_t_token : Int) (i_t_got : Int) (i_t_orders : Int) (i_t_outputMany : Int) (i_t_w : (Int → Int)) (i_t_input : (Int → Int)) (i_t_n : (Int → Int)) (x1 : Int) (q : Int × Int × Int × Int × Int × Int × Int × (Int → Int)) (hf : fn_Md_takesTopic i_t_w i_t_input i_t_inputMany i_t_error i_t_offset i_t_nextByte i_t_begin i_t_value i_t_token i_t_n x1 = some q) : jk_MI l D jk_cl (jk_ty cI cR) Z mn_Md_takesTopic (.code mn_Md_takesTopic mb_Md_takesTopic 2 (some .boolean) :: jk_WA) (jk_rm 3 64) [.ref a_t, jk_V x1] (wd_Md_takesTopic cI a_t a_t_w a_t_wKept a_t_saved a_t_past a_t_input a_t_n a_t_order a_t_numbers a_t_output i_t_pastMany i_t_isSaved i_t_thrown i_t_inputMany i_t_lastError i_t_lastOffset i_t_error i_t_offset i_t_nextByte i_t_begin i_t_value i_t_token i_t_got i_t_orders i_t_outputMany i_t_w i_t_input i_t_n) (wd_Md_takesTopic cI a_t a_t_w a_t_wKept a_t_saved a_t_past a_t_input a_t_n a_t_order a_t_numbers a_t_output i_t_pastMany i_t_isSaved i_t_thrown i_t_inputMany i_t_lastError i_t_lastOffset q.2.1 q.2.2.1 q.2.2.2.1 q.2.2.2.2.1 q.2.2.2.2.2.1 q.2.2.2.2.2.2.1 i_t_got i_t_orders i_t_outputMany i_t_w i_t_input q.2.2.2.2.2.2.2) q.1 := by
  intro sz
  refine jk_body (by decide +kernel) (fun p e s m args below meth c hsz hz hin C => ?_) (Nat.le_of_ble_eq_true rfl)
  subst hsz
  unfold fn_Md_takesTopic at hf
  refine jk_aload_n C rd_Md_takesTopic_0 (k := 0) rfl ?_
  obtain ⟨q1, hq1, hf⟩ := jk_bind_h hf
  refine jk_callVi C hZ.1 hz (ct_Md_seesName l D Z sq hZ cI cR a_t a_t_w a_t_wKept a_t_saved a_t_past a_t_input a_t_n a_t_order a_t_numbers a_t_output i_t_pastMany i_t_isSaved i_t_thrown i_t_inputMany i_t_lastError i_t_lastOffset i_t_error i_t_offset i_t_nextByte i_t_begin i_t_value i_t_token i_t_got i_t_orders i_t_outputMany q1 hq1) tm_1401 tm_1403 sl_37 tm_15 tm_1404 na_Md_seesName ⟨Nat.le_of_ble_eq_true rfl, Nat.le_of_ble_eq_true rfl⟩ rfl [0] rfl rfl rfl (ws' := wd_Md_takesTopic cI a_t a_t_w a_t_wKept a_t_saved a_t_past a_t_input a_t_n a_t_order a_t_numbers a_t_output i_t_pastMany i_t_isSaved i_t_thrown i_t_inputMany i_t_lastError i_t_lastOffset q1.2.1 q1.2.2 i_t_nextByte i_t_begin i_t_value i_t_token i_t_got i_t_orders i_t_outputMany i_t_w i_t_input i_t_n) rfl 0 11 rfl rfl rfl (st := []) rfl (Nat.le_of_ble_eq_true rfl) rd_Md_takesTopic_1 ?_ ⟨Nat.le_of_ble_eq_true rfl, Nat.le_of_ble_eq_true rfl⟩
  refine jk_if_ne (tgt := 9) C rd_Md_takesTopic_4 (by decide) hf (fun _ hf => ?_) (fun _ hf => ?_)
  · refine jk_aload_n C rd_Md_takesTopic_9 (k := 0) rfl ?_
    refine jk_get C in_Md (ci := 11) rfl 18 (by decide) tm_1281 0 rfl rfl rd_Md_takesTopic_10 ?_
    refine jk_iload_n C rd_Md_takesTopic_13 (k := 1) rfl ?_
    refine jk_aload_n C rd_Md_takesTopic_14 (k := 0) rfl ?_
    obtain ⟨q15, hq15, hf⟩ := jk_bind_h hf
    refine jk_callVi C hZ.1 hz (ct_Md_topicHere l D Z sq hZ cI cR a_t a_t_w a_t_wKept a_t_saved a_t_past a_t_input a_t_n a_t_order a_t_numbers a_t_output i_t_pastMany i_t_isSaved i_t_thrown i_t_inputMany i_t_lastError i_t_lastOffset q1.2.1 q1.2.2 i_t_nextByte i_t_begin i_t_value i_t_token i_t_got i_t_orders i_t_outputMany i_t_w i_t_input q15 hq15) tm_1405 tm_1407 sl_38 tm_15 tm_1408 na_Md_topicHere ⟨Nat.le_of_ble_eq_true rfl, Nat.le_of_ble_eq_true rfl⟩ rfl [0, 1, 2] rfl rfl rfl (ws' := wd_Md_takesTopic cI a_t a_t_w a_t_wKept a_t_saved a_t_past a_t_input a_t_n a_t_order a_t_numbers a_t_output i_t_pastMany i_t_isSaved i_t_thrown i_t_inputMany i_t_lastError i_t_lastOffset q1.2.1 q1.2.2 i_t_nextByte i_t_begin i_t_value i_t_token i_t_got i_t_orders i_t_outputMany i_t_w i_t_input i_t_n) rfl 0 11 rfl rfl rfl (st := [jk_V x1, .ref a_t_n]) rfl (Nat.le_of_ble_eq_true rfl) rd_Md_takesTopic_15 ?_ ⟨Nat.le_of_ble_eq_true rfl, Nat.le_of_ble_eq_true rfl⟩
    refine jk_iast C 3 0 rfl rfl (Nat.le_of_ble_eq_true rfl) rd_Md_takesTopic_18 hf (ws' := wd_Md_takesTopic cI a_t a_t_w a_t_wKept a_t_saved a_t_past a_t_input a_t_n a_t_order a_t_numbers a_t_output i_t_pastMany i_t_isSaved i_t_thrown i_t_inputMany i_t_lastError i_t_lastOffset q1.2.1 q1.2.2 i_t_nextByte i_t_begin i_t_value i_t_token i_t_got i_t_orders i_t_outputMany i_t_w i_t_input (jk_up i_t_n x1 q15)) rfl (fun hf => ?_)
    refine jk_aload_n C rd_Md_takesTopic_19 (k := 0) rfl ?_
    refine jk_get C in_Md (ci := 11) rfl 18 (by decide) tm_1281 0 rfl rfl rd_Md_takesTopic_20 ?_
    refine jk_iload_n C rd_Md_takesTopic_23 (k := 1) rfl ?_
    refine jk_iald C 3 0 rfl rfl (Nat.le_of_ble_eq_true rfl) rd_Md_takesTopic_24 hf (fun hf => ?_)
    refine jk_iconst C rd_Md_takesTopic_25 ?_
    refine jk_icmp_ne (tgt := 35) C rd_Md_takesTopic_26 (by decide) hf (fun _ hf => ?_) (fun _ hf => ?_)
    · refine jk_aload_n C rd_Md_takesTopic_35 (k := 0) rfl ?_
      obtain ⟨q36, hq36, hf⟩ := jk_bind_h hf
      refine jk_callVv C hZ.1 hz (ct_Md_advanceToken l D Z sq hZ cI cR a_t a_t_w a_t_wKept a_t_saved a_t_past a_t_input a_t_n a_t_order a_t_numbers a_t_output i_t_pastMany i_t_isSaved i_t_thrown i_t_inputMany i_t_lastError i_t_lastOffset q1.2.1 q1.2.2 i_t_nextByte i_t_begin i_t_value i_t_token i_t_got i_t_orders i_t_outputMany i_t_input q36 hq36) tm_1366 tm_1368 sl_29 tm_15 tm_1369 na_Md_advanceToken ⟨Nat.le_of_ble_eq_true rfl, Nat.le_of_ble_eq_true rfl⟩ rfl [0, 2] rfl rfl rfl (ws' := wd_Md_takesTopic cI a_t a_t_w a_t_wKept a_t_saved a_t_past a_t_input a_t_n a_t_order a_t_numbers a_t_output i_t_pastMany i_t_isSaved i_t_thrown i_t_inputMany i_t_lastError i_t_lastOffset q1.2.1 q1.2.2 q36.1 q36.2.1 q36.2.2.1 q36.2.2.2 i_t_got i_t_orders i_t_outputMany i_t_w i_t_input (jk_up i_t_n x1 q15)) rfl 0 11 rfl rfl rfl (st := []) rfl (Nat.le_of_ble_eq_true rfl) rd_Md_takesTopic_36 ?_ ⟨Nat.le_of_ble_eq_true rfl, Nat.le_of_ble_eq_true rfl⟩
      refine jk_iconst C rd_Md_takesTopic_39 ?_
      cases hf
      exact jk_zret C (Or.inr rfl) rfl rd_Md_takesTopic_40 rfl
    · refine jk_aload_n C rd_Md_takesTopic_29 (k := 0) rfl ?_
      refine jk_iconst C rd_Md_takesTopic_30 ?_
      obtain ⟨q31, hq31, hf⟩ := jk_bind_h hf
      refine jk_callVi C hZ.1 hz (ct_Md_failsAt l D Z sq hZ cI cR a_t a_t_w a_t_wKept a_t_saved a_t_past a_t_input a_t_n a_t_order a_t_numbers a_t_output i_t_pastMany i_t_isSaved i_t_thrown i_t_inputMany i_t_lastError i_t_lastOffset q1.2.1 q1.2.2 i_t_nextByte i_t_begin i_t_value i_t_token i_t_got i_t_orders i_t_outputMany 4 q31 hq31) tm_1397 tm_1399 sl_36 tm_15 tm_1400 na_Md_failsAt ⟨Nat.le_of_ble_eq_true rfl, Nat.le_of_ble_eq_true rfl⟩ rfl [0] rfl rfl rfl (ws' := wd_Md_takesTopic cI a_t a_t_w a_t_wKept a_t_saved a_t_past a_t_input a_t_n a_t_order a_t_numbers a_t_output i_t_pastMany i_t_isSaved i_t_thrown i_t_inputMany i_t_lastError i_t_lastOffset q31.2.1 q31.2.2 i_t_nextByte i_t_begin i_t_value i_t_token i_t_got i_t_orders i_t_outputMany i_t_w i_t_input (jk_up i_t_n x1 q15)) rfl 0 11 rfl rfl rfl (st := []) rfl (Nat.le_of_ble_eq_true rfl) rd_Md_takesTopic_31 ?_ ⟨Nat.le_of_ble_eq_true rfl, Nat.le_of_ble_eq_true rfl⟩
      obtain ⟨hbo, hf⟩ := jk_bo_h hf
      cases hf
      exact jk_zret C hbo rfl rd_Md_takesTopic_34 rfl
  · refine jk_iconst C rd_Md_takesTopic_7 ?_
    cases hf
    exact jk_zret C (Or.inl rfl) rfl rd_Md_takesTopic_8 rfl
