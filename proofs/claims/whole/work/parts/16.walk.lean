theorem rd_KR_problemOf_0 : decode mb_KR_problemOf 0 = .ok (.iload_n 1, 1) := by decide +kernel
theorem rd_KR_problemOf_1 : decode mb_KR_problemOf 1 = .ok (.tableswitch 210 0 8 #[51, 69, 86, 110, 127, 134, 143, 150, 178], 51) := by decide +kernel
theorem rd_KR_problemOf_52 : decode mb_KR_problemOf 52 = .ok (.aload_n 0, 1) := by decide +kernel
theorem rd_KR_problemOf_53 : decode mb_KR_problemOf 53 = .ok (.getfield 33, 3) := by decide +kernel
theorem rd_KR_problemOf_56 : decode mb_KR_problemOf 56 = .ok (.getfield 148, 3) := by decide +kernel
theorem rd_KR_problemOf_59 : decode mb_KR_problemOf 59 = .ok (.bipush 6, 2) := by decide +kernel
theorem rd_KR_problemOf_61 : decode mb_KR_problemOf 61 = .ok (.if_icmp .ge 7, 3) := by decide +kernel
theorem rd_KR_problemOf_64 : decode mb_KR_problemOf 64 = .ok (.iconst 0, 1) := by decide +kernel
theorem rd_KR_problemOf_65 : decode mb_KR_problemOf 65 = .ok (.goto 4, 3) := by decide +kernel
theorem rd_KR_problemOf_68 : decode mb_KR_problemOf 68 = .ok (.iconst 3, 1) := by decide +kernel
theorem rd_KR_problemOf_69 : decode mb_KR_problemOf 69 = .ok (.ireturn, 1) := by decide +kernel
theorem rd_KR_problemOf_70 : decode mb_KR_problemOf 70 = .ok (.aload_n 0, 1) := by decide +kernel
theorem rd_KR_problemOf_71 : decode mb_KR_problemOf 71 = .ok (.aload_n 0, 1) := by decide +kernel
theorem rd_KR_problemOf_72 : decode mb_KR_problemOf 72 = .ok (.getfield 33, 3) := by decide +kernel
theorem rd_KR_problemOf_75 : decode mb_KR_problemOf 75 = .ok (.iload_n 2, 1) := by decide +kernel
theorem rd_KR_problemOf_76 : decode mb_KR_problemOf 76 = .ok (.invokevirtual 307, 3) := by decide +kernel
theorem rd_KR_problemOf_79 : decode mb_KR_problemOf 79 = .ok (.iconst 1, 1) := by decide +kernel
theorem rd_KR_problemOf_80 : decode mb_KR_problemOf 80 = .ok (.iload_n 3, 1) := by decide +kernel
theorem rd_KR_problemOf_81 : decode mb_KR_problemOf 81 = .ok (.iload 4, 2) := by decide +kernel
theorem rd_KR_problemOf_83 : decode mb_KR_problemOf 83 = .ok (.invokevirtual 324, 3) := by decide +kernel
theorem rd_KR_problemOf_86 : decode mb_KR_problemOf 86 = .ok (.ireturn, 1) := by decide +kernel
theorem rd_KR_problemOf_87 : decode mb_KR_problemOf 87 = .ok (.aload_n 0, 1) := by decide +kernel
theorem rd_KR_problemOf_88 : decode mb_KR_problemOf 88 = .ok (.aload_n 0, 1) := by decide +kernel
theorem rd_KR_problemOf_89 : decode mb_KR_problemOf 89 = .ok (.getfield 33, 3) := by decide +kernel
theorem rd_KR_problemOf_92 : decode mb_KR_problemOf 92 = .ok (.iload_n 2, 1) := by decide +kernel
theorem rd_KR_problemOf_93 : decode mb_KR_problemOf 93 = .ok (.invokevirtual 312, 3) := by decide +kernel
theorem rd_KR_problemOf_96 : decode mb_KR_problemOf 96 = .ok (.aload_n 0, 1) := by decide +kernel
theorem rd_KR_problemOf_97 : decode mb_KR_problemOf 97 = .ok (.getfield 33, 3) := by decide +kernel
theorem rd_KR_problemOf_100 : decode mb_KR_problemOf 100 = .ok (.iload_n 2, 1) := by decide +kernel
theorem rd_KR_problemOf_101 : decode mb_KR_problemOf 101 = .ok (.invokevirtual 328, 3) := by decide +kernel
theorem rd_KR_problemOf_104 : decode mb_KR_problemOf 104 = .ok (.iload_n 3, 1) := by decide +kernel
theorem rd_KR_problemOf_105 : decode mb_KR_problemOf 105 = .ok (.iload 4, 2) := by decide +kernel
theorem rd_KR_problemOf_107 : decode mb_KR_problemOf 107 = .ok (.invokevirtual 324, 3) := by decide +kernel
theorem rd_KR_problemOf_110 : decode mb_KR_problemOf 110 = .ok (.ireturn, 1) := by decide +kernel
theorem rd_KR_problemOf_111 : decode mb_KR_problemOf 111 = .ok (.aload_n 0, 1) := by decide +kernel
theorem rd_KR_problemOf_112 : decode mb_KR_problemOf 112 = .ok (.getfield 33, 3) := by decide +kernel
theorem rd_KR_problemOf_115 : decode mb_KR_problemOf 115 = .ok (.iload_n 2, 1) := by decide +kernel
theorem rd_KR_problemOf_116 : decode mb_KR_problemOf 116 = .ok (.invokevirtual 312, 3) := by decide +kernel
theorem rd_KR_problemOf_119 : decode mb_KR_problemOf 119 = .ok (.ifCond .eq 7, 3) := by decide +kernel
theorem rd_KR_problemOf_122 : decode mb_KR_problemOf 122 = .ok (.iconst 0, 1) := by decide +kernel
theorem rd_KR_problemOf_123 : decode mb_KR_problemOf 123 = .ok (.goto 4, 3) := by decide +kernel
theorem rd_KR_problemOf_126 : decode mb_KR_problemOf 126 = .ok (.iconst 1, 1) := by decide +kernel
theorem rd_KR_problemOf_127 : decode mb_KR_problemOf 127 = .ok (.ireturn, 1) := by decide +kernel
theorem rd_KR_problemOf_128 : decode mb_KR_problemOf 128 = .ok (.aload_n 0, 1) := by decide +kernel
theorem rd_KR_problemOf_129 : decode mb_KR_problemOf 129 = .ok (.iload_n 2, 1) := by decide +kernel
theorem rd_KR_problemOf_130 : decode mb_KR_problemOf 130 = .ok (.iload_n 3, 1) := by decide +kernel
theorem rd_KR_problemOf_131 : decode mb_KR_problemOf 131 = .ok (.invokevirtual 331, 3) := by decide +kernel
theorem rd_KR_problemOf_134 : decode mb_KR_problemOf 134 = .ok (.ireturn, 1) := by decide +kernel
theorem rd_KR_problemOf_135 : decode mb_KR_problemOf 135 = .ok (.aload_n 0, 1) := by decide +kernel
theorem rd_KR_problemOf_136 : decode mb_KR_problemOf 136 = .ok (.iload_n 2, 1) := by decide +kernel
theorem rd_KR_problemOf_137 : decode mb_KR_problemOf 137 = .ok (.iload_n 3, 1) := by decide +kernel
theorem rd_KR_problemOf_138 : decode mb_KR_problemOf 138 = .ok (.iload 4, 2) := by decide +kernel
theorem rd_KR_problemOf_140 : decode mb_KR_problemOf 140 = .ok (.invokevirtual 334, 3) := by decide +kernel
theorem rd_KR_problemOf_143 : decode mb_KR_problemOf 143 = .ok (.ireturn, 1) := by decide +kernel
theorem rd_KR_problemOf_144 : decode mb_KR_problemOf 144 = .ok (.aload_n 0, 1) := by decide +kernel
theorem rd_KR_problemOf_145 : decode mb_KR_problemOf 145 = .ok (.iload_n 2, 1) := by decide +kernel
theorem rd_KR_problemOf_146 : decode mb_KR_problemOf 146 = .ok (.iload_n 3, 1) := by decide +kernel
theorem rd_KR_problemOf_147 : decode mb_KR_problemOf 147 = .ok (.invokevirtual 337, 3) := by decide +kernel
theorem rd_KR_problemOf_150 : decode mb_KR_problemOf 150 = .ok (.ireturn, 1) := by decide +kernel
theorem rd_KR_problemOf_151 : decode mb_KR_problemOf 151 = .ok (.aload_n 0, 1) := by decide +kernel
theorem rd_KR_problemOf_152 : decode mb_KR_problemOf 152 = .ok (.getfield 33, 3) := by decide +kernel
theorem rd_KR_problemOf_155 : decode mb_KR_problemOf 155 = .ok (.iload_n 2, 1) := by decide +kernel
theorem rd_KR_problemOf_156 : decode mb_KR_problemOf 156 = .ok (.invokevirtual 312, 3) := by decide +kernel
theorem rd_KR_problemOf_159 : decode mb_KR_problemOf 159 = .ok (.ifCond .eq 18, 3) := by decide +kernel
theorem rd_KR_problemOf_162 : decode mb_KR_problemOf 162 = .ok (.aload_n 0, 1) := by decide +kernel
theorem rd_KR_problemOf_163 : decode mb_KR_problemOf 163 = .ok (.getfield 26, 3) := by decide +kernel
theorem rd_KR_problemOf_166 : decode mb_KR_problemOf 166 = .ok (.iload_n 3, 1) := by decide +kernel
theorem rd_KR_problemOf_167 : decode mb_KR_problemOf 167 = .ok (.invokevirtual 299, 3) := by decide +kernel
theorem rd_KR_problemOf_170 : decode mb_KR_problemOf 170 = .ok (.ifCond .eq 7, 3) := by decide +kernel
theorem rd_KR_problemOf_173 : decode mb_KR_problemOf 173 = .ok (.iconst 0, 1) := by decide +kernel
theorem rd_KR_problemOf_174 : decode mb_KR_problemOf 174 = .ok (.goto 4, 3) := by decide +kernel
theorem rd_KR_problemOf_177 : decode mb_KR_problemOf 177 = .ok (.iconst 1, 1) := by decide +kernel
theorem rd_KR_problemOf_178 : decode mb_KR_problemOf 178 = .ok (.ireturn, 1) := by decide +kernel
theorem rd_KR_problemOf_179 : decode mb_KR_problemOf 179 = .ok (.aload_n 0, 1) := by decide +kernel
theorem rd_KR_problemOf_180 : decode mb_KR_problemOf 180 = .ok (.getfield 33, 3) := by decide +kernel
theorem rd_KR_problemOf_183 : decode mb_KR_problemOf 183 = .ok (.iload_n 2, 1) := by decide +kernel
theorem rd_KR_problemOf_184 : decode mb_KR_problemOf 184 = .ok (.invokevirtual 307, 3) := by decide +kernel
theorem rd_KR_problemOf_187 : decode mb_KR_problemOf 187 = .ok (.ifCond .ne 7, 3) := by decide +kernel
theorem rd_KR_problemOf_190 : decode mb_KR_problemOf 190 = .ok (.iconst 1, 1) := by decide +kernel
theorem rd_KR_problemOf_191 : decode mb_KR_problemOf 191 = .ok (.goto 19, 3) := by decide +kernel
theorem rd_KR_problemOf_194 : decode mb_KR_problemOf 194 = .ok (.aload_n 0, 1) := by decide +kernel
theorem rd_KR_problemOf_195 : decode mb_KR_problemOf 195 = .ok (.getfield 33, 3) := by decide +kernel
theorem rd_KR_problemOf_198 : decode mb_KR_problemOf 198 = .ok (.iload_n 2, 1) := by decide +kernel
theorem rd_KR_problemOf_199 : decode mb_KR_problemOf 199 = .ok (.invokevirtual 236, 3) := by decide +kernel
theorem rd_KR_problemOf_202 : decode mb_KR_problemOf 202 = .ok (.ifCond .ne 7, 3) := by decide +kernel
theorem rd_KR_problemOf_205 : decode mb_KR_problemOf 205 = .ok (.iconst 0, 1) := by decide +kernel
theorem rd_KR_problemOf_206 : decode mb_KR_problemOf 206 = .ok (.goto 4, 3) := by decide +kernel
theorem rd_KR_problemOf_209 : decode mb_KR_problemOf 209 = .ok (.iconst 3, 1) := by decide +kernel
theorem rd_KR_problemOf_210 : decode mb_KR_problemOf 210 = .ok (.ireturn, 1) := by decide +kernel
theorem rd_KR_problemOf_211 : decode mb_KR_problemOf 211 = .ok (.iconst 3, 1) := by decide +kernel
theorem rd_KR_problemOf_212 : decode mb_KR_problemOf 212 = .ok (.ireturn, 1) := by decide +kernel
theorem rd_KR_runScript_0 : decode mb_KR_runScript 0 = .ok (.aload_n 0, 1) := by decide +kernel
theorem rd_KR_runScript_1 : decode mb_KR_runScript 1 = .ok (.getfield 56, 3) := by decide +kernel
theorem rd_KR_runScript_4 : decode mb_KR_runScript 4 = .ok (.aload_n 0, 1) := by decide +kernel
theorem rd_KR_runScript_5 : decode mb_KR_runScript 5 = .ok (.getfield 12, 3) := by decide +kernel
theorem rd_KR_runScript_8 : decode mb_KR_runScript 8 = .ok (.aload_n 0, 1) := by decide +kernel
theorem rd_KR_runScript_9 : decode mb_KR_runScript 9 = .ok (.getfield 26, 3) := by decide +kernel
theorem rd_KR_runScript_12 : decode mb_KR_runScript 12 = .ok (.invokevirtual 108, 3) := by decide +kernel
theorem rd_KR_runScript_15 : decode mb_KR_runScript 15 = .ok (.aload_n 0, 1) := by decide +kernel
theorem rd_KR_runScript_16 : decode mb_KR_runScript 16 = .ok (.invokevirtual 93, 3) := by decide +kernel
theorem rd_KR_runScript_19 : decode mb_KR_runScript 19 = .ok (.ifCond .ne 5, 3) := by decide +kernel
theorem rd_KR_runScript_22 : decode mb_KR_runScript 22 = .ok (.iconst (-1), 1) := by decide +kernel
theorem rd_KR_runScript_23 : decode mb_KR_runScript 23 = .ok (.ireturn, 1) := by decide +kernel
theorem rd_KR_runScript_24 : decode mb_KR_runScript 24 = .ok (.aload_n 0, 1) := by decide +kernel
theorem rd_KR_runScript_25 : decode mb_KR_runScript 25 = .ok (.getfield 49, 3) := by decide +kernel
theorem rd_KR_runScript_28 : decode mb_KR_runScript 28 = .ok (.aload_n 0, 1) := by decide +kernel
theorem rd_KR_runScript_29 : decode mb_KR_runScript 29 = .ok (.getfield 33, 3) := by decide +kernel
theorem rd_KR_runScript_32 : decode mb_KR_runScript 32 = .ok (.invokevirtual 111, 3) := by decide +kernel
theorem rd_KR_runScript_35 : decode mb_KR_runScript 35 = .ok (.iconst 0, 1) := by decide +kernel
theorem rd_KR_runScript_36 : decode mb_KR_runScript 36 = .ok (.istore_n 1, 1) := by decide +kernel
theorem rd_KR_runScript_37 : decode mb_KR_runScript 37 = .ok (.iload_n 1, 1) := by decide +kernel
theorem rd_KR_runScript_38 : decode mb_KR_runScript 38 = .ok (.aload_n 0, 1) := by decide +kernel
theorem rd_KR_runScript_39 : decode mb_KR_runScript 39 = .ok (.getfield 56, 3) := by decide +kernel
theorem rd_KR_runScript_42 : decode mb_KR_runScript 42 = .ok (.getfield 114, 3) := by decide +kernel
theorem rd_KR_runScript_45 : decode mb_KR_runScript 45 = .ok (.if_icmp .ge 85, 3) := by decide +kernel
theorem rd_KR_runScript_48 : decode mb_KR_runScript 48 = .ok (.aload_n 0, 1) := by decide +kernel
theorem rd_KR_runScript_49 : decode mb_KR_runScript 49 = .ok (.getfield 56, 3) := by decide +kernel
theorem rd_KR_runScript_52 : decode mb_KR_runScript 52 = .ok (.getfield 115, 3) := by decide +kernel
theorem rd_KR_runScript_55 : decode mb_KR_runScript 55 = .ok (.iload_n 1, 1) := by decide +kernel
theorem rd_KR_runScript_56 : decode mb_KR_runScript 56 = .ok (.invokevirtual 119, 3) := by decide +kernel
theorem rd_KR_runScript_59 : decode mb_KR_runScript 59 = .ok (.istore_n 2, 1) := by decide +kernel
theorem rd_KR_runScript_60 : decode mb_KR_runScript 60 = .ok (.aload_n 0, 1) := by decide +kernel
theorem rd_KR_runScript_61 : decode mb_KR_runScript 61 = .ok (.getfield 56, 3) := by decide +kernel
theorem rd_KR_runScript_64 : decode mb_KR_runScript 64 = .ok (.getfield 125, 3) := by decide +kernel
theorem rd_KR_runScript_67 : decode mb_KR_runScript 67 = .ok (.iload_n 1, 1) := by decide +kernel
theorem rd_KR_runScript_68 : decode mb_KR_runScript 68 = .ok (.invokevirtual 119, 3) := by decide +kernel
theorem rd_KR_runScript_71 : decode mb_KR_runScript 71 = .ok (.istore_n 3, 1) := by decide +kernel
theorem rd_KR_runScript_72 : decode mb_KR_runScript 72 = .ok (.aload_n 0, 1) := by decide +kernel
theorem rd_KR_runScript_73 : decode mb_KR_runScript 73 = .ok (.getfield 56, 3) := by decide +kernel
theorem rd_KR_runScript_76 : decode mb_KR_runScript 76 = .ok (.getfield 128, 3) := by decide +kernel
theorem rd_KR_runScript_79 : decode mb_KR_runScript 79 = .ok (.iload_n 1, 1) := by decide +kernel
theorem rd_KR_runScript_80 : decode mb_KR_runScript 80 = .ok (.invokevirtual 119, 3) := by decide +kernel
theorem rd_KR_runScript_83 : decode mb_KR_runScript 83 = .ok (.istore 4, 2) := by decide +kernel
theorem rd_KR_runScript_85 : decode mb_KR_runScript 85 = .ok (.aload_n 0, 1) := by decide +kernel
theorem rd_KR_runScript_86 : decode mb_KR_runScript 86 = .ok (.getfield 56, 3) := by decide +kernel
theorem rd_KR_runScript_89 : decode mb_KR_runScript 89 = .ok (.getfield 131, 3) := by decide +kernel
theorem rd_KR_runScript_92 : decode mb_KR_runScript 92 = .ok (.iload_n 1, 1) := by decide +kernel
theorem rd_KR_runScript_93 : decode mb_KR_runScript 93 = .ok (.invokevirtual 119, 3) := by decide +kernel
theorem rd_KR_runScript_96 : decode mb_KR_runScript 96 = .ok (.istore 5, 2) := by decide +kernel
theorem rd_KR_runScript_98 : decode mb_KR_runScript 98 = .ok (.aload_n 0, 1) := by decide +kernel
theorem rd_KR_runScript_99 : decode mb_KR_runScript 99 = .ok (.iload_n 2, 1) := by decide +kernel
theorem rd_KR_runScript_100 : decode mb_KR_runScript 100 = .ok (.iload_n 3, 1) := by decide +kernel
theorem rd_KR_runScript_101 : decode mb_KR_runScript 101 = .ok (.iload 4, 2) := by decide +kernel
theorem rd_KR_runScript_103 : decode mb_KR_runScript 103 = .ok (.iload 5, 2) := by decide +kernel
theorem rd_KR_runScript_105 : decode mb_KR_runScript 105 = .ok (.invokevirtual 134, 3) := by decide +kernel
theorem rd_KR_runScript_108 : decode mb_KR_runScript 108 = .ok (.ifCond .eq 5, 3) := by decide +kernel
theorem rd_KR_runScript_111 : decode mb_KR_runScript 111 = .ok (.iload_n 1, 1) := by decide +kernel
theorem rd_KR_runScript_112 : decode mb_KR_runScript 112 = .ok (.ireturn, 1) := by decide +kernel
theorem rd_KR_runScript_113 : decode mb_KR_runScript 113 = .ok (.aload_n 0, 1) := by decide +kernel
theorem rd_KR_runScript_114 : decode mb_KR_runScript 114 = .ok (.iload_n 2, 1) := by decide +kernel
theorem rd_KR_runScript_115 : decode mb_KR_runScript 115 = .ok (.iload_n 3, 1) := by decide +kernel
theorem rd_KR_runScript_116 : decode mb_KR_runScript 116 = .ok (.iload 4, 2) := by decide +kernel
theorem rd_KR_runScript_118 : decode mb_KR_runScript 118 = .ok (.iload 5, 2) := by decide +kernel
theorem rd_KR_runScript_120 : decode mb_KR_runScript 120 = .ok (.invokevirtual 138, 3) := by decide +kernel
theorem rd_KR_runScript_123 : decode mb_KR_runScript 123 = .ok (.pop, 1) := by decide +kernel
theorem rd_KR_runScript_124 : decode mb_KR_runScript 124 = .ok (.iinc 1 1, 3) := by decide +kernel
theorem rd_KR_runScript_127 : decode mb_KR_runScript 127 = .ok (.goto (-90), 3) := by decide +kernel
theorem rd_KR_runScript_130 : decode mb_KR_runScript 130 = .ok (.aload_n 0, 1) := by decide +kernel
theorem rd_KR_runScript_131 : decode mb_KR_runScript 131 = .ok (.getfield 56, 3) := by decide +kernel
theorem rd_KR_runScript_134 : decode mb_KR_runScript 134 = .ok (.getfield 114, 3) := by decide +kernel
theorem rd_KR_runScript_137 : decode mb_KR_runScript 137 = .ok (.ireturn, 1) := by decide +kernel
theorem rd_KR_errorCode_0 : decode mb_KR_errorCode 0 = .ok (.aload_n 0, 1) := by decide +kernel
theorem rd_KR_errorCode_1 : decode mb_KR_errorCode 1 = .ok (.getfield 64, 3) := by decide +kernel
theorem rd_KR_errorCode_4 : decode mb_KR_errorCode 4 = .ok (.ireturn, 1) := by decide +kernel
theorem rd_KR_errorOffset_0 : decode mb_KR_errorOffset 0 = .ok (.aload_n 0, 1) := by decide +kernel
theorem rd_KR_errorOffset_1 : decode mb_KR_errorOffset 1 = .ok (.getfield 68, 3) := by decide +kernel
theorem rd_KR_errorOffset_4 : decode mb_KR_errorOffset 4 = .ok (.ireturn, 1) := by decide +kernel
theorem rd_KR_topicCount_0 : decode mb_KR_topicCount 0 = .ok (.aload_n 0, 1) := by decide +kernel
theorem rd_KR_topicCount_1 : decode mb_KR_topicCount 1 = .ok (.getfield 26, 3) := by decide +kernel
theorem rd_KR_topicCount_4 : decode mb_KR_topicCount 4 = .ok (.getfield 147, 3) := by decide +kernel
theorem rd_KR_topicCount_7 : decode mb_KR_topicCount 7 = .ok (.ireturn, 1) := by decide +kernel
theorem rd_KR_clusterCount_0 : decode mb_KR_clusterCount 0 = .ok (.aload_n 0, 1) := by decide +kernel
theorem rd_KR_clusterCount_1 : decode mb_KR_clusterCount 1 = .ok (.getfield 33, 3) := by decide +kernel
theorem rd_KR_clusterCount_4 : decode mb_KR_clusterCount 4 = .ok (.getfield 148, 3) := by decide +kernel
theorem rd_KR_clusterCount_7 : decode mb_KR_clusterCount 7 = .ok (.ireturn, 1) := by decide +kernel
theorem rd_KR_cordCount_0 : decode mb_KR_cordCount 0 = .ok (.aload_n 0, 1) := by decide +kernel
theorem rd_KR_cordCount_1 : decode mb_KR_cordCount 1 = .ok (.getfield 33, 3) := by decide +kernel
theorem rd_KR_cordCount_4 : decode mb_KR_cordCount 4 = .ok (.getfield 105, 3) := by decide +kernel
theorem rd_KR_cordCount_7 : decode mb_KR_cordCount 7 = .ok (.ireturn, 1) := by decide +kernel
theorem rd_KR_knotCount_0 : decode mb_KR_knotCount 0 = .ok (.iconst 0, 1) := by decide +kernel
theorem rd_KR_knotCount_1 : decode mb_KR_knotCount 1 = .ok (.istore_n 1, 1) := by decide +kernel
theorem rd_KR_knotCount_2 : decode mb_KR_knotCount 2 = .ok (.iconst 0, 1) := by decide +kernel
theorem rd_KR_knotCount_3 : decode mb_KR_knotCount 3 = .ok (.istore_n 2, 1) := by decide +kernel
theorem rd_KR_knotCount_4 : decode mb_KR_knotCount 4 = .ok (.iload_n 2, 1) := by decide +kernel
theorem rd_KR_knotCount_5 : decode mb_KR_knotCount 5 = .ok (.aload_n 0, 1) := by decide +kernel
theorem rd_KR_knotCount_6 : decode mb_KR_knotCount 6 = .ok (.getfield 33, 3) := by decide +kernel
theorem rd_KR_knotCount_9 : decode mb_KR_knotCount 9 = .ok (.getfield 105, 3) := by decide +kernel
theorem rd_KR_knotCount_12 : decode mb_KR_knotCount 12 = .ok (.if_icmp .ge 26, 3) := by decide +kernel
theorem rd_KR_knotCount_15 : decode mb_KR_knotCount 15 = .ok (.iload_n 1, 1) := by decide +kernel
theorem rd_KR_knotCount_16 : decode mb_KR_knotCount 16 = .ok (.aload_n 0, 1) := by decide +kernel
theorem rd_KR_knotCount_17 : decode mb_KR_knotCount 17 = .ok (.getfield 33, 3) := by decide +kernel
theorem rd_KR_knotCount_20 : decode mb_KR_knotCount 20 = .ok (.getfield 151, 3) := by decide +kernel
theorem rd_KR_knotCount_23 : decode mb_KR_knotCount 23 = .ok (.iload_n 2, 1) := by decide +kernel
theorem rd_KR_knotCount_24 : decode mb_KR_knotCount 24 = .ok (.invokevirtual 119, 3) := by decide +kernel
theorem rd_KR_knotCount_27 : decode mb_KR_knotCount 27 = .ok (.invokestatic 154, 3) := by decide +kernel
theorem rd_KR_knotCount_30 : decode mb_KR_knotCount 30 = .ok (.iadd, 1) := by decide +kernel
theorem rd_KR_knotCount_31 : decode mb_KR_knotCount 31 = .ok (.istore_n 1, 1) := by decide +kernel
theorem rd_KR_knotCount_32 : decode mb_KR_knotCount 32 = .ok (.iinc 2 1, 3) := by decide +kernel
theorem rd_KR_knotCount_35 : decode mb_KR_knotCount 35 = .ok (.goto (-31), 3) := by decide +kernel
theorem rd_KR_knotCount_38 : decode mb_KR_knotCount 38 = .ok (.iload_n 1, 1) := by decide +kernel
theorem rd_KR_knotCount_39 : decode mb_KR_knotCount 39 = .ok (.ireturn, 1) := by decide +kernel
theorem rd_KR_nibbledCount_0 : decode mb_KR_nibbledCount 0 = .ok (.aload_n 0, 1) := by decide +kernel
theorem rd_KR_nibbledCount_1 : decode mb_KR_nibbledCount 1 = .ok (.getfield 33, 3) := by decide +kernel
theorem rd_KR_nibbledCount_4 : decode mb_KR_nibbledCount 4 = .ok (.iconst 0, 1) := by decide +kernel
theorem rd_KR_nibbledCount_5 : decode mb_KR_nibbledCount 5 = .ok (.aload_n 0, 1) := by decide +kernel
theorem rd_KR_nibbledCount_6 : decode mb_KR_nibbledCount 6 = .ok (.getfield 33, 3) := by decide +kernel
theorem rd_KR_nibbledCount_9 : decode mb_KR_nibbledCount 9 = .ok (.getfield 105, 3) := by decide +kernel
theorem rd_KR_nibbledCount_12 : decode mb_KR_nibbledCount 12 = .ok (.invokevirtual 159, 3) := by decide +kernel
theorem rd_KR_nibbledCount_15 : decode mb_KR_nibbledCount 15 = .ok (.ireturn, 1) := by decide +kernel
theorem rd_KR_matchingCount_0 : decode mb_KR_matchingCount 0 = .ok (.iconst 0, 1) := by decide +kernel
theorem rd_KR_matchingCount_1 : decode mb_KR_matchingCount 1 = .ok (.istore_n 1, 1) := by decide +kernel
theorem rd_KR_matchingCount_2 : decode mb_KR_matchingCount 2 = .ok (.iconst 0, 1) := by decide +kernel
theorem rd_KR_matchingCount_3 : decode mb_KR_matchingCount 3 = .ok (.istore_n 2, 1) := by decide +kernel
theorem rd_KR_matchingCount_4 : decode mb_KR_matchingCount 4 = .ok (.iload_n 2, 1) := by decide +kernel
theorem rd_KR_matchingCount_5 : decode mb_KR_matchingCount 5 = .ok (.aload_n 0, 1) := by decide +kernel
theorem rd_KR_matchingCount_6 : decode mb_KR_matchingCount 6 = .ok (.getfield 33, 3) := by decide +kernel
theorem rd_KR_matchingCount_9 : decode mb_KR_matchingCount 9 = .ok (.getfield 148, 3) := by decide +kernel
theorem rd_KR_matchingCount_12 : decode mb_KR_matchingCount 12 = .ok (.if_icmp .ge 24, 3) := by decide +kernel
theorem rd_KR_matchingCount_15 : decode mb_KR_matchingCount 15 = .ok (.aload_n 0, 1) := by decide +kernel
theorem rd_KR_matchingCount_16 : decode mb_KR_matchingCount 16 = .ok (.getfield 33, 3) := by decide +kernel
theorem rd_KR_matchingCount_19 : decode mb_KR_matchingCount 19 = .ok (.iload_n 2, 1) := by decide +kernel
theorem rd_KR_matchingCount_20 : decode mb_KR_matchingCount 20 = .ok (.invokevirtual 163, 3) := by decide +kernel
theorem rd_KR_matchingCount_23 : decode mb_KR_matchingCount 23 = .ok (.iconst 2, 1) := by decide +kernel
theorem rd_KR_matchingCount_24 : decode mb_KR_matchingCount 24 = .ok (.if_icmp .ne 6, 3) := by decide +kernel
theorem rd_KR_matchingCount_27 : decode mb_KR_matchingCount 27 = .ok (.iinc 1 1, 3) := by decide +kernel
theorem rd_KR_matchingCount_30 : decode mb_KR_matchingCount 30 = .ok (.iinc 2 1, 3) := by decide +kernel
theorem rd_KR_matchingCount_33 : decode mb_KR_matchingCount 33 = .ok (.goto (-29), 3) := by decide +kernel
theorem rd_KR_matchingCount_36 : decode mb_KR_matchingCount 36 = .ok (.iload_n 1, 1) := by decide +kernel
theorem rd_KR_matchingCount_37 : decode mb_KR_matchingCount 37 = .ok (.ireturn, 1) := by decide +kernel
theorem rd_KR_requireTopic_0 : decode mb_KR_requireTopic 0 = .ok (.aload_n 0, 1) := by decide +kernel
theorem rd_KR_requireTopic_1 : decode mb_KR_requireTopic 1 = .ok (.getfield 26, 3) := by decide +kernel
theorem rd_KR_requireTopic_4 : decode mb_KR_requireTopic 4 = .ok (.iload_n 1, 1) := by decide +kernel
theorem rd_KR_requireTopic_5 : decode mb_KR_requireTopic 5 = .ok (.invokevirtual 299, 3) := by decide +kernel
theorem rd_KR_requireTopic_8 : decode mb_KR_requireTopic 8 = .ok (.ifCond .ne 14, 3) := by decide +kernel
theorem rd_KR_requireTopic_11 : decode mb_KR_requireTopic 11 = .ok (.new 302, 3) := by decide +kernel
theorem rd_KR_requireTopic_14 : decode mb_KR_requireTopic 14 = .ok (.dup, 1) := by decide +kernel
theorem rd_KR_requireTopic_15 : decode mb_KR_requireTopic 15 = .ok (.ldc_w 304, 3) := by decide +kernel
theorem rd_KR_requireTopic_18 : decode mb_KR_requireTopic 18 = .ok (.invokespecial 306, 3) := by decide +kernel
theorem rd_KR_requireTopic_21 : decode mb_KR_requireTopic 21 = .ok (.athrow, 1) := by decide +kernel
theorem rd_KR_requireTopic_22 : decode mb_KR_requireTopic 22 = .ok (.return_, 1) := by decide +kernel
theorem rd_KR_topicByte_0 : decode mb_KR_topicByte 0 = .ok (.aload_n 0, 1) := by decide +kernel
theorem rd_KR_topicByte_1 : decode mb_KR_topicByte 1 = .ok (.iload_n 1, 1) := by decide +kernel
theorem rd_KR_topicByte_2 : decode mb_KR_topicByte 2 = .ok (.invokevirtual 166, 3) := by decide +kernel
theorem rd_KR_topicByte_5 : decode mb_KR_topicByte 5 = .ok (.aload_n 0, 1) := by decide +kernel
theorem rd_KR_topicByte_6 : decode mb_KR_topicByte 6 = .ok (.getfield 26, 3) := by decide +kernel
theorem rd_KR_topicByte_9 : decode mb_KR_topicByte 9 = .ok (.iload_n 1, 1) := by decide +kernel
theorem rd_KR_topicByte_10 : decode mb_KR_topicByte 10 = .ok (.iload_n 2, 1) := by decide +kernel
theorem rd_KR_topicByte_11 : decode mb_KR_topicByte 11 = .ok (.invokevirtual 169, 3) := by decide +kernel
theorem rd_KR_topicByte_14 : decode mb_KR_topicByte 14 = .ok (.ireturn, 1) := by decide +kernel
theorem rd_KR_requireCord_0 : decode mb_KR_requireCord 0 = .ok (.aload_n 0, 1) := by decide +kernel
theorem rd_KR_requireCord_1 : decode mb_KR_requireCord 1 = .ok (.getfield 33, 3) := by decide +kernel
theorem rd_KR_requireCord_4 : decode mb_KR_requireCord 4 = .ok (.iload_n 1, 1) := by decide +kernel
theorem rd_KR_requireCord_5 : decode mb_KR_requireCord 5 = .ok (.invokevirtual 312, 3) := by decide +kernel
theorem rd_KR_requireCord_8 : decode mb_KR_requireCord 8 = .ok (.ifCond .ne 14, 3) := by decide +kernel
theorem rd_KR_requireCord_11 : decode mb_KR_requireCord 11 = .ok (.new 302, 3) := by decide +kernel
theorem rd_KR_requireCord_14 : decode mb_KR_requireCord 14 = .ok (.dup, 1) := by decide +kernel
theorem rd_KR_requireCord_15 : decode mb_KR_requireCord 15 = .ok (.ldc_w 313, 3) := by decide +kernel
theorem rd_KR_requireCord_18 : decode mb_KR_requireCord 18 = .ok (.invokespecial 306, 3) := by decide +kernel
theorem rd_KR_requireCord_21 : decode mb_KR_requireCord 21 = .ok (.athrow, 1) := by decide +kernel
theorem rd_KR_requireCord_22 : decode mb_KR_requireCord 22 = .ok (.return_, 1) := by decide +kernel
theorem rd_KR_clusterOf_0 : decode mb_KR_clusterOf 0 = .ok (.aload_n 0, 1) := by decide +kernel
theorem rd_KR_clusterOf_1 : decode mb_KR_clusterOf 1 = .ok (.iload_n 1, 1) := by decide +kernel
theorem rd_KR_clusterOf_2 : decode mb_KR_clusterOf 2 = .ok (.invokevirtual 172, 3) := by decide +kernel
theorem rd_KR_clusterOf_5 : decode mb_KR_clusterOf 5 = .ok (.aload_n 0, 1) := by decide +kernel
theorem rd_KR_clusterOf_6 : decode mb_KR_clusterOf 6 = .ok (.getfield 33, 3) := by decide +kernel
theorem rd_KR_clusterOf_9 : decode mb_KR_clusterOf 9 = .ok (.iload_n 1, 1) := by decide +kernel
theorem rd_KR_clusterOf_10 : decode mb_KR_clusterOf 10 = .ok (.invokevirtual 175, 3) := by decide +kernel
theorem rd_KR_clusterOf_13 : decode mb_KR_clusterOf 13 = .ok (.ireturn, 1) := by decide +kernel
theorem rd_KR_depthOf_0 : decode mb_KR_depthOf 0 = .ok (.aload_n 0, 1) := by decide +kernel
theorem rd_KR_depthOf_1 : decode mb_KR_depthOf 1 = .ok (.iload_n 1, 1) := by decide +kernel
theorem rd_KR_depthOf_2 : decode mb_KR_depthOf 2 = .ok (.invokevirtual 172, 3) := by decide +kernel
theorem rd_KR_depthOf_5 : decode mb_KR_depthOf 5 = .ok (.aload_n 0, 1) := by decide +kernel
theorem rd_KR_depthOf_6 : decode mb_KR_depthOf 6 = .ok (.getfield 33, 3) := by decide +kernel
theorem rd_KR_depthOf_9 : decode mb_KR_depthOf 9 = .ok (.getfield 178, 3) := by decide +kernel
theorem rd_KR_depthOf_12 : decode mb_KR_depthOf 12 = .ok (.iload_n 1, 1) := by decide +kernel
theorem rd_KR_depthOf_13 : decode mb_KR_depthOf 13 = .ok (.invokevirtual 119, 3) := by decide +kernel
theorem rd_KR_depthOf_16 : decode mb_KR_depthOf 16 = .ok (.ireturn, 1) := by decide +kernel
theorem rd_KR_parentOf_0 : decode mb_KR_parentOf 0 = .ok (.aload_n 0, 1) := by decide +kernel
theorem rd_KR_parentOf_1 : decode mb_KR_parentOf 1 = .ok (.iload_n 1, 1) := by decide +kernel
theorem rd_KR_parentOf_2 : decode mb_KR_parentOf 2 = .ok (.invokevirtual 172, 3) := by decide +kernel
theorem rd_KR_parentOf_5 : decode mb_KR_parentOf 5 = .ok (.aload_n 0, 1) := by decide +kernel
theorem rd_KR_parentOf_6 : decode mb_KR_parentOf 6 = .ok (.getfield 33, 3) := by decide +kernel
theorem rd_KR_parentOf_9 : decode mb_KR_parentOf 9 = .ok (.iload_n 1, 1) := by decide +kernel
theorem rd_KR_parentOf_10 : decode mb_KR_parentOf 10 = .ok (.invokevirtual 181, 3) := by decide +kernel
theorem rd_KR_parentOf_13 : decode mb_KR_parentOf 13 = .ok (.ireturn, 1) := by decide +kernel
theorem rd_KR_topicOf_0 : decode mb_KR_topicOf 0 = .ok (.aload_n 0, 1) := by decide +kernel
theorem rd_KR_topicOf_1 : decode mb_KR_topicOf 1 = .ok (.iload_n 1, 1) := by decide +kernel
theorem rd_KR_topicOf_2 : decode mb_KR_topicOf 2 = .ok (.invokevirtual 172, 3) := by decide +kernel
theorem rd_KR_topicOf_5 : decode mb_KR_topicOf 5 = .ok (.aload_n 0, 1) := by decide +kernel
theorem rd_KR_topicOf_6 : decode mb_KR_topicOf 6 = .ok (.getfield 33, 3) := by decide +kernel
theorem rd_KR_topicOf_9 : decode mb_KR_topicOf 9 = .ok (.getfield 184, 3) := by decide +kernel
theorem rd_KR_topicOf_12 : decode mb_KR_topicOf 12 = .ok (.iload_n 1, 1) := by decide +kernel
theorem rd_KR_topicOf_13 : decode mb_KR_topicOf 13 = .ok (.invokevirtual 119, 3) := by decide +kernel
theorem rd_KR_topicOf_16 : decode mb_KR_topicOf 16 = .ok (.ireturn, 1) := by decide +kernel
def wd_KR_problemOf (cI : ClassId) (a_t a_t_input a_t_output a_t_topics a_t_cords a_t_draftTopics a_t_draft a_t_saved a_t_history a_t_script a_t_topics_names a_t_cords_starts a_t_cords_depth a_t_cords_topic a_t_cords_value a_t_cords_nibbled a_t_cords_starts_k a_t_cords_depth_k a_t_cords_value_k a_t_cords_nibbled_k : Nat) (i_t_hasSaved : Int) (i_t_reportedCode : Int) (i_t_reportedOffset : Int) (i_t_topics_size : Int) (i_t_cords_clusters : Int) (i_t_cords_size : Int) (i_t_cords_starts : (Int → Int)) (i_t_cords_depth : (Int → Int)) (i_t_cords_value : (Int → Int)) (i_t_cords_nibbled : (Int → Int)) : va_W := [(a_t, .inr (10, [.ref a_t_input, .ref a_t_output, .ref a_t_topics, .ref a_t_cords, .ref a_t_draftTopics, .ref a_t_draft, .ref a_t_saved, .ref a_t_history, .ref a_t_script, jk_V i_t_hasSaved, jk_V i_t_reportedCode, jk_V i_t_reportedOffset])), (a_t_topics, .inr (2, [jk_V i_t_topics_size, .ref a_t_topics_names])), (a_t_cords, .inr (5, [jk_V i_t_cords_clusters, jk_V i_t_cords_size, .ref a_t_cords_starts, .ref a_t_cords_depth, .ref a_t_cords_topic, .ref a_t_cords_value, .ref a_t_cords_nibbled])), (a_t_cords_starts, .inr (0, [.ref a_t_cords_starts_k])), (a_t_cords_starts_k, jk_W cI 7 i_t_cords_starts), (a_t_cords_depth, .inr (0, [.ref a_t_cords_depth_k])), (a_t_cords_depth_k, jk_W cI 40 i_t_cords_depth), (a_t_cords_value, .inr (0, [.ref a_t_cords_value_k])), (a_t_cords_value_k, jk_W cI 40 i_t_cords_value), (a_t_cords_nibbled, .inr (0, [.ref a_t_cords_nibbled_k])), (a_t_cords_nibbled_k, jk_W cI 40 i_t_cords_nibbled)]
set_option maxHeartbeats 4000000 in
set_option maxRecDepth 20000 in
theorem ct_KR_problemOf (l : Launch) (D : va_G) (Z : (Nat → Prop) → State → Heap → Prop) (sq : Nat → Nat) (hZ : jk_ZK Z sq) (cI cR : ClassId) (a_t a_t_input a_t_output a_t_topics a_t_cords a_t_draftTopics a_t_draft a_t_saved a_t_history a_t_script a_t_topics_names a_t_cords_starts a_t_cords_depth a_t_cords_topic a_t_cords_value a_t_cords_nibbled a_t_cords_starts_k a_t_cords_depth_k a_t_cords_value_k a_t_cords_nibbled_k : Nat) (i_t_hasSaved : Int) (i_t_reportedCode : Int) (i_t_reportedOffset : Int) (i_t_topics_size : Int) (i_t_cords_clusters : Int) (i_t_cords_size : Int) (i_t_cords_starts : (Int → Int)) (i_t_cords_depth : (Int → Int)) (i_t_cords_value : (Int → Int)) (i_t_cords_nibbled : (Int → Int)) (x1 : Int) (x2 : Int) (x3 : Int) (x4 : Int) (q : Int) (hf : fn_KR_problemOf i_t_topics_size i_t_cords_clusters i_t_cords_size i_t_cords_starts i_t_cords_depth i_t_cords_value i_t_cords_nibbled x1 x2 x3 x4 = some q) : jk_MI l D jk_cl (jk_ty cI cR) Z mn_KR_problemOf (.code mn_KR_problemOf mb_KR_problemOf 5 (some .int) :: jk_WA) (jk_rm 4 91) [.ref a_t, jk_V x1, jk_V x2, jk_V x3, jk_V x4] (wd_KR_problemOf cI a_t a_t_input a_t_output a_t_topics a_t_cords a_t_draftTopics a_t_draft a_t_saved a_t_history a_t_script a_t_topics_names a_t_cords_starts a_t_cords_depth a_t_cords_topic a_t_cords_value a_t_cords_nibbled a_t_cords_starts_k a_t_cords_depth_k a_t_cords_value_k a_t_cords_nibbled_k i_t_hasSaved i_t_reportedCode i_t_reportedOffset i_t_topics_size i_t_cords_clusters i_t_cords_size i_t_cords_starts i_t_cords_depth i_t_cords_value i_t_cords_nibbled) (wd_KR_problemOf cI a_t a_t_input a_t_output a_t_topics a_t_cords a_t_draftTopics a_t_draft a_t_saved a_t_history a_t_script a_t_topics_names a_t_cords_starts a_t_cords_depth a_t_cords_topic a_t_cords_value a_t_cords_nibbled a_t_cords_starts_k a_t_cords_depth_k a_t_cords_value_k a_t_cords_nibbled_k i_t_hasSaved i_t_reportedCode i_t_reportedOffset i_t_topics_size i_t_cords_clusters i_t_cords_size i_t_cords_starts i_t_cords_depth i_t_cords_value i_t_cords_nibbled) q := by
  intro sz
  refine jk_body (by decide +kernel) (fun p e s m args below meth c hsz hz hin C => ?_) (Nat.le_of_ble_eq_true rfl)
  subst hsz
  unfold fn_KR_problemOf at hf
  refine jk_iload_n C rd_KR_problemOf_0 (k := 1) rfl ?_
  refine jk_eqs_c hf (fun hx hf => ?_) (fun hx0 hf => ?_)
  · refine jk_tabIn (off := 51) (tgt := 52) C rd_KR_problemOf_1 (k := 0) hx (by decide +kernel) (by decide) ?_
    refine jk_aload_n C rd_KR_problemOf_52 (k := 0) rfl ?_
    refine jk_get C in_KR (ci := 10) rfl 3 (by decide) tm_427 0 rfl rfl rd_KR_problemOf_53 ?_
    refine jk_getN C in_Cords (ci := 5) rfl 0 (by decide) (jk_nw hZ hz tn_13) 2 rfl rfl rd_KR_problemOf_56 ?_
    refine jk_bipush C rd_KR_problemOf_59 (by decide +kernel) ?_
    refine jk_icmp_ge (tgt := 68) C rd_KR_problemOf_61 (by decide) hf (fun _ hf => ?_) (fun _ hf => ?_)
    · refine jk_iconst C rd_KR_problemOf_68 ?_
      cases hf
      exact jk_iret C rfl rd_KR_problemOf_69 rfl
    · refine jk_iconst C rd_KR_problemOf_64 ?_
      refine jk_goto (tgt := 69) C rd_KR_problemOf_65 (by decide) ?_
      cases hf
      exact jk_iret C rfl rd_KR_problemOf_69 rfl
  refine jk_eqs_c hf (fun hx hf => ?_) (fun hx1 hf => ?_)
  · refine jk_tabIn (off := 69) (tgt := 70) C rd_KR_problemOf_1 (k := 1) hx (by decide +kernel) (by decide) ?_
    refine jk_aload_n C rd_KR_problemOf_70 (k := 0) rfl ?_
    refine jk_aload_n C rd_KR_problemOf_71 (k := 0) rfl ?_
    refine jk_get C in_KR (ci := 10) rfl 3 (by decide) tm_427 0 rfl rfl rd_KR_problemOf_72 ?_
    refine jk_iload_n C rd_KR_problemOf_75 (k := 2) rfl ?_
    obtain ⟨q76, hq76, hf⟩ := jk_bind_h hf
    refine jk_callVi C hZ.1 hz (ct_Cords_hasCluster l D Z sq hZ cI cR a_t_cords a_t_cords_starts a_t_cords_depth a_t_cords_topic a_t_cords_value a_t_cords_nibbled i_t_cords_clusters i_t_cords_size x2 q76 hq76) tm_554 tm_555 tm_556 tm_6 tm_557 na_Cords_hasCluster ⟨Nat.le_of_ble_eq_true rfl, Nat.le_of_ble_eq_true rfl⟩ rfl [2] rfl rfl rfl (ws' := wd_KR_problemOf cI a_t a_t_input a_t_output a_t_topics a_t_cords a_t_draftTopics a_t_draft a_t_saved a_t_history a_t_script a_t_topics_names a_t_cords_starts a_t_cords_depth a_t_cords_topic a_t_cords_value a_t_cords_nibbled a_t_cords_starts_k a_t_cords_depth_k a_t_cords_value_k a_t_cords_nibbled_k i_t_hasSaved i_t_reportedCode i_t_reportedOffset i_t_topics_size i_t_cords_clusters i_t_cords_size i_t_cords_starts i_t_cords_depth i_t_cords_value i_t_cords_nibbled) rfl 2 5 rfl rfl rfl (st := [.ref a_t]) rfl (Nat.le_of_ble_eq_true rfl) rd_KR_problemOf_76 ?_ ⟨Nat.le_of_ble_eq_true rfl, Nat.le_of_ble_eq_true rfl⟩
    refine jk_iconst C rd_KR_problemOf_79 ?_
    refine jk_iload_n C rd_KR_problemOf_80 (k := 3) rfl ?_
    refine jk_iload C rd_KR_problemOf_81 (k := 4) rfl ?_
    obtain ⟨q83, hq83, hf⟩ := jk_bind_h hf
    refine jk_callVi C hZ.1 hz (ct_KR_newCordProblem l D Z sq hZ cI cR a_t a_t_input a_t_output a_t_topics a_t_cords a_t_draftTopics a_t_draft a_t_saved a_t_history a_t_script a_t_topics_names a_t_cords_starts a_t_cords_depth a_t_cords_topic a_t_cords_value a_t_cords_nibbled i_t_hasSaved i_t_reportedCode i_t_reportedOffset i_t_topics_size i_t_cords_clusters i_t_cords_size q76 1 x3 x4 q83 hq83) tm_558 tm_560 sl_8 tm_1 tm_561 na_KR_newCordProblem ⟨Nat.le_of_ble_eq_true rfl, Nat.le_of_ble_eq_true rfl⟩ rfl [0, 1, 2] rfl rfl rfl (ws' := wd_KR_problemOf cI a_t a_t_input a_t_output a_t_topics a_t_cords a_t_draftTopics a_t_draft a_t_saved a_t_history a_t_script a_t_topics_names a_t_cords_starts a_t_cords_depth a_t_cords_topic a_t_cords_value a_t_cords_nibbled a_t_cords_starts_k a_t_cords_depth_k a_t_cords_value_k a_t_cords_nibbled_k i_t_hasSaved i_t_reportedCode i_t_reportedOffset i_t_topics_size i_t_cords_clusters i_t_cords_size i_t_cords_starts i_t_cords_depth i_t_cords_value i_t_cords_nibbled) rfl 0 10 rfl rfl rfl (st := []) rfl (Nat.le_of_ble_eq_true rfl) rd_KR_problemOf_83 ?_ ⟨Nat.le_of_ble_eq_true rfl, Nat.le_of_ble_eq_true rfl⟩
    cases hf
    exact jk_iret C rfl rd_KR_problemOf_86 rfl
  refine jk_eqs_c hf (fun hx hf => ?_) (fun hx2 hf => ?_)
  · refine jk_tabIn (off := 86) (tgt := 87) C rd_KR_problemOf_1 (k := 2) hx (by decide +kernel) (by decide) ?_
    refine jk_aload_n C rd_KR_problemOf_87 (k := 0) rfl ?_
    refine jk_aload_n C rd_KR_problemOf_88 (k := 0) rfl ?_
    refine jk_get C in_KR (ci := 10) rfl 3 (by decide) tm_427 0 rfl rfl rd_KR_problemOf_89 ?_
    refine jk_iload_n C rd_KR_problemOf_92 (k := 2) rfl ?_
    obtain ⟨q93, hq93, hf⟩ := jk_bind_h hf
    refine jk_callVi C hZ.1 hz (ct_Cords_has l D Z sq hZ cI cR a_t_cords a_t_cords_starts a_t_cords_depth a_t_cords_topic a_t_cords_value a_t_cords_nibbled i_t_cords_clusters i_t_cords_size x2 q93 hq93) tm_569 tm_570 tm_571 tm_6 tm_572 na_Cords_has ⟨Nat.le_of_ble_eq_true rfl, Nat.le_of_ble_eq_true rfl⟩ rfl [2] rfl rfl rfl (ws' := wd_KR_problemOf cI a_t a_t_input a_t_output a_t_topics a_t_cords a_t_draftTopics a_t_draft a_t_saved a_t_history a_t_script a_t_topics_names a_t_cords_starts a_t_cords_depth a_t_cords_topic a_t_cords_value a_t_cords_nibbled a_t_cords_starts_k a_t_cords_depth_k a_t_cords_value_k a_t_cords_nibbled_k i_t_hasSaved i_t_reportedCode i_t_reportedOffset i_t_topics_size i_t_cords_clusters i_t_cords_size i_t_cords_starts i_t_cords_depth i_t_cords_value i_t_cords_nibbled) rfl 2 5 rfl rfl rfl (st := [.ref a_t]) rfl (Nat.le_of_ble_eq_true rfl) rd_KR_problemOf_93 ?_ ⟨Nat.le_of_ble_eq_true rfl, Nat.le_of_ble_eq_true rfl⟩
    refine jk_aload_n C rd_KR_problemOf_96 (k := 0) rfl ?_
    refine jk_get C in_KR (ci := 10) rfl 3 (by decide) tm_427 0 rfl rfl rd_KR_problemOf_97 ?_
    refine jk_iload_n C rd_KR_problemOf_100 (k := 2) rfl ?_
    obtain ⟨q101, hq101, hf⟩ := jk_bind_h hf
    refine jk_callVi C hZ.1 hz (ct_Cords_canHoldMore l D Z sq hZ cI cR a_t_cords a_t_cords_starts a_t_cords_depth a_t_cords_topic a_t_cords_value a_t_cords_nibbled a_t_cords_depth_k i_t_cords_clusters i_t_cords_size i_t_cords_depth x2 q101 hq101) tm_573 tm_574 tm_575 tm_6 tm_576 na_Cords_canHoldMore ⟨Nat.le_of_ble_eq_true rfl, Nat.le_of_ble_eq_true rfl⟩ rfl [2, 5, 6] rfl rfl rfl (ws' := wd_KR_problemOf cI a_t a_t_input a_t_output a_t_topics a_t_cords a_t_draftTopics a_t_draft a_t_saved a_t_history a_t_script a_t_topics_names a_t_cords_starts a_t_cords_depth a_t_cords_topic a_t_cords_value a_t_cords_nibbled a_t_cords_starts_k a_t_cords_depth_k a_t_cords_value_k a_t_cords_nibbled_k i_t_hasSaved i_t_reportedCode i_t_reportedOffset i_t_topics_size i_t_cords_clusters i_t_cords_size i_t_cords_starts i_t_cords_depth i_t_cords_value i_t_cords_nibbled) rfl 2 5 rfl rfl rfl (st := [jk_V q93, .ref a_t]) rfl (Nat.le_of_ble_eq_true rfl) rd_KR_problemOf_101 ?_ ⟨Nat.le_of_ble_eq_true rfl, Nat.le_of_ble_eq_true rfl⟩
    refine jk_iload_n C rd_KR_problemOf_104 (k := 3) rfl ?_
    refine jk_iload C rd_KR_problemOf_105 (k := 4) rfl ?_
    obtain ⟨q107, hq107, hf⟩ := jk_bind_h hf
    refine jk_callVi C hZ.1 hz (ct_KR_newCordProblem l D Z sq hZ cI cR a_t a_t_input a_t_output a_t_topics a_t_cords a_t_draftTopics a_t_draft a_t_saved a_t_history a_t_script a_t_topics_names a_t_cords_starts a_t_cords_depth a_t_cords_topic a_t_cords_value a_t_cords_nibbled i_t_hasSaved i_t_reportedCode i_t_reportedOffset i_t_topics_size i_t_cords_clusters i_t_cords_size q93 q101 x3 x4 q107 hq107) tm_558 tm_560 sl_8 tm_1 tm_561 na_KR_newCordProblem ⟨Nat.le_of_ble_eq_true rfl, Nat.le_of_ble_eq_true rfl⟩ rfl [0, 1, 2] rfl rfl rfl (ws' := wd_KR_problemOf cI a_t a_t_input a_t_output a_t_topics a_t_cords a_t_draftTopics a_t_draft a_t_saved a_t_history a_t_script a_t_topics_names a_t_cords_starts a_t_cords_depth a_t_cords_topic a_t_cords_value a_t_cords_nibbled a_t_cords_starts_k a_t_cords_depth_k a_t_cords_value_k a_t_cords_nibbled_k i_t_hasSaved i_t_reportedCode i_t_reportedOffset i_t_topics_size i_t_cords_clusters i_t_cords_size i_t_cords_starts i_t_cords_depth i_t_cords_value i_t_cords_nibbled) rfl 0 10 rfl rfl rfl (st := []) rfl (Nat.le_of_ble_eq_true rfl) rd_KR_problemOf_107 ?_ ⟨Nat.le_of_ble_eq_true rfl, Nat.le_of_ble_eq_true rfl⟩
    cases hf
    exact jk_iret C rfl rd_KR_problemOf_110 rfl
  refine jk_eqs_c hf (fun hx hf => ?_) (fun hx3 hf => ?_)
  · refine jk_tabIn (off := 110) (tgt := 111) C rd_KR_problemOf_1 (k := 3) hx (by decide +kernel) (by decide) ?_
    refine jk_aload_n C rd_KR_problemOf_111 (k := 0) rfl ?_
    refine jk_get C in_KR (ci := 10) rfl 3 (by decide) tm_427 0 rfl rfl rd_KR_problemOf_112 ?_
    refine jk_iload_n C rd_KR_problemOf_115 (k := 2) rfl ?_
    obtain ⟨q116, hq116, hf⟩ := jk_bind_h hf
    refine jk_callVi C hZ.1 hz (ct_Cords_has l D Z sq hZ cI cR a_t_cords a_t_cords_starts a_t_cords_depth a_t_cords_topic a_t_cords_value a_t_cords_nibbled i_t_cords_clusters i_t_cords_size x2 q116 hq116) tm_569 tm_570 tm_571 tm_6 tm_572 na_Cords_has ⟨Nat.le_of_ble_eq_true rfl, Nat.le_of_ble_eq_true rfl⟩ rfl [2] rfl rfl rfl (ws' := wd_KR_problemOf cI a_t a_t_input a_t_output a_t_topics a_t_cords a_t_draftTopics a_t_draft a_t_saved a_t_history a_t_script a_t_topics_names a_t_cords_starts a_t_cords_depth a_t_cords_topic a_t_cords_value a_t_cords_nibbled a_t_cords_starts_k a_t_cords_depth_k a_t_cords_value_k a_t_cords_nibbled_k i_t_hasSaved i_t_reportedCode i_t_reportedOffset i_t_topics_size i_t_cords_clusters i_t_cords_size i_t_cords_starts i_t_cords_depth i_t_cords_value i_t_cords_nibbled) rfl 2 5 rfl rfl rfl (st := []) rfl (Nat.le_of_ble_eq_true rfl) rd_KR_problemOf_116 ?_ ⟨Nat.le_of_ble_eq_true rfl, Nat.le_of_ble_eq_true rfl⟩
    refine jk_if_eq (tgt := 126) C rd_KR_problemOf_119 (by decide) hf (fun _ hf => ?_) (fun _ hf => ?_)
    · refine jk_iconst C rd_KR_problemOf_126 ?_
      cases hf
      exact jk_iret C rfl rd_KR_problemOf_127 rfl
    · refine jk_iconst C rd_KR_problemOf_122 ?_
      refine jk_goto (tgt := 127) C rd_KR_problemOf_123 (by decide) ?_
      cases hf
      exact jk_iret C rfl rd_KR_problemOf_127 rfl
  refine jk_eqs_c hf (fun hx hf => ?_) (fun hx4 hf => ?_)
  · refine jk_tabIn (off := 127) (tgt := 128) C rd_KR_problemOf_1 (k := 4) hx (by decide +kernel) (by decide) ?_
    refine jk_aload_n C rd_KR_problemOf_128 (k := 0) rfl ?_
    refine jk_iload_n C rd_KR_problemOf_129 (k := 2) rfl ?_
    refine jk_iload_n C rd_KR_problemOf_130 (k := 3) rfl ?_
    obtain ⟨q131, hq131, hf⟩ := jk_bind_h hf
    refine jk_callVi C hZ.1 hz (ct_KR_tieProblem l D Z sq hZ cI cR a_t a_t_input a_t_output a_t_topics a_t_cords a_t_draftTopics a_t_draft a_t_saved a_t_history a_t_script a_t_topics_names a_t_cords_starts a_t_cords_depth a_t_cords_topic a_t_cords_value a_t_cords_nibbled a_t_cords_starts_k a_t_cords_depth_k a_t_cords_value_k a_t_cords_nibbled_k i_t_hasSaved i_t_reportedCode i_t_reportedOffset i_t_topics_size i_t_cords_clusters i_t_cords_size i_t_cords_starts i_t_cords_depth i_t_cords_value i_t_cords_nibbled x2 x3 q131 hq131) tm_577 tm_579 sl_9 tm_1 tm_580 na_KR_tieProblem ⟨Nat.le_of_ble_eq_true rfl, Nat.le_of_ble_eq_true rfl⟩ rfl [0, 1, 2, 3, 4, 5, 6, 7, 8, 9, 10] rfl rfl rfl (ws' := wd_KR_problemOf cI a_t a_t_input a_t_output a_t_topics a_t_cords a_t_draftTopics a_t_draft a_t_saved a_t_history a_t_script a_t_topics_names a_t_cords_starts a_t_cords_depth a_t_cords_topic a_t_cords_value a_t_cords_nibbled a_t_cords_starts_k a_t_cords_depth_k a_t_cords_value_k a_t_cords_nibbled_k i_t_hasSaved i_t_reportedCode i_t_reportedOffset i_t_topics_size i_t_cords_clusters i_t_cords_size i_t_cords_starts i_t_cords_depth i_t_cords_value i_t_cords_nibbled) rfl 0 10 rfl rfl rfl (st := []) rfl (Nat.le_of_ble_eq_true rfl) rd_KR_problemOf_131 ?_ ⟨Nat.le_of_ble_eq_true rfl, Nat.le_of_ble_eq_true rfl⟩
    cases hf
    exact jk_iret C rfl rd_KR_problemOf_134 rfl
  refine jk_eqs_c hf (fun hx hf => ?_) (fun hx5 hf => ?_)
  · refine jk_tabIn (off := 134) (tgt := 135) C rd_KR_problemOf_1 (k := 5) hx (by decide +kernel) (by decide) ?_
    refine jk_aload_n C rd_KR_problemOf_135 (k := 0) rfl ?_
    refine jk_iload_n C rd_KR_problemOf_136 (k := 2) rfl ?_
    refine jk_iload_n C rd_KR_problemOf_137 (k := 3) rfl ?_
    refine jk_iload C rd_KR_problemOf_138 (k := 4) rfl ?_
    obtain ⟨q140, hq140, hf⟩ := jk_bind_h hf
    refine jk_callVi C hZ.1 hz (ct_KR_knotsProblem l D Z sq hZ cI cR a_t a_t_input a_t_output a_t_topics a_t_cords a_t_draftTopics a_t_draft a_t_saved a_t_history a_t_script a_t_cords_starts a_t_cords_depth a_t_cords_topic a_t_cords_value a_t_cords_nibbled a_t_cords_nibbled_k i_t_hasSaved i_t_reportedCode i_t_reportedOffset i_t_cords_clusters i_t_cords_size i_t_cords_nibbled x2 x3 x4 q140 hq140) tm_604 tm_606 sl_10 tm_1 tm_607 na_KR_knotsProblem ⟨Nat.le_of_ble_eq_true rfl, Nat.le_of_ble_eq_true rfl⟩ rfl [0, 2, 9, 10] rfl rfl rfl (ws' := wd_KR_problemOf cI a_t a_t_input a_t_output a_t_topics a_t_cords a_t_draftTopics a_t_draft a_t_saved a_t_history a_t_script a_t_topics_names a_t_cords_starts a_t_cords_depth a_t_cords_topic a_t_cords_value a_t_cords_nibbled a_t_cords_starts_k a_t_cords_depth_k a_t_cords_value_k a_t_cords_nibbled_k i_t_hasSaved i_t_reportedCode i_t_reportedOffset i_t_topics_size i_t_cords_clusters i_t_cords_size i_t_cords_starts i_t_cords_depth i_t_cords_value i_t_cords_nibbled) rfl 0 10 rfl rfl rfl (st := []) rfl (Nat.le_of_ble_eq_true rfl) rd_KR_problemOf_140 ?_ ⟨Nat.le_of_ble_eq_true rfl, Nat.le_of_ble_eq_true rfl⟩
    cases hf
    exact jk_iret C rfl rd_KR_problemOf_143 rfl
  refine jk_eqs_c hf (fun hx hf => ?_) (fun hx6 hf => ?_)
  · refine jk_tabIn (off := 143) (tgt := 144) C rd_KR_problemOf_1 (k := 6) hx (by decide +kernel) (by decide) ?_
    refine jk_aload_n C rd_KR_problemOf_144 (k := 0) rfl ?_
    refine jk_iload_n C rd_KR_problemOf_145 (k := 2) rfl ?_
    refine jk_iload_n C rd_KR_problemOf_146 (k := 3) rfl ?_
    obtain ⟨q147, hq147, hf⟩ := jk_bind_h hf
    refine jk_callVi C hZ.1 hz (ct_KR_nibbleProblem l D Z sq hZ cI cR a_t a_t_input a_t_output a_t_topics a_t_cords a_t_draftTopics a_t_draft a_t_saved a_t_history a_t_script a_t_cords_starts a_t_cords_depth a_t_cords_topic a_t_cords_value a_t_cords_nibbled a_t_cords_nibbled_k i_t_hasSaved i_t_reportedCode i_t_reportedOffset i_t_cords_clusters i_t_cords_size i_t_cords_nibbled x2 x3 q147 hq147) tm_611 tm_613 sl_11 tm_1 tm_614 na_KR_nibbleProblem ⟨Nat.le_of_ble_eq_true rfl, Nat.le_of_ble_eq_true rfl⟩ rfl [0, 2, 9, 10] rfl rfl rfl (ws' := wd_KR_problemOf cI a_t a_t_input a_t_output a_t_topics a_t_cords a_t_draftTopics a_t_draft a_t_saved a_t_history a_t_script a_t_topics_names a_t_cords_starts a_t_cords_depth a_t_cords_topic a_t_cords_value a_t_cords_nibbled a_t_cords_starts_k a_t_cords_depth_k a_t_cords_value_k a_t_cords_nibbled_k i_t_hasSaved i_t_reportedCode i_t_reportedOffset i_t_topics_size i_t_cords_clusters i_t_cords_size i_t_cords_starts i_t_cords_depth i_t_cords_value i_t_cords_nibbled) rfl 0 10 rfl rfl rfl (st := []) rfl (Nat.le_of_ble_eq_true rfl) rd_KR_problemOf_147 ?_ ⟨Nat.le_of_ble_eq_true rfl, Nat.le_of_ble_eq_true rfl⟩
    cases hf
    exact jk_iret C rfl rd_KR_problemOf_150 rfl
  refine jk_eqs_c hf (fun hx hf => ?_) (fun hx7 hf => ?_)
  · refine jk_tabIn (off := 150) (tgt := 151) C rd_KR_problemOf_1 (k := 7) hx (by decide +kernel) (by decide) ?_
    refine jk_aload_n C rd_KR_problemOf_151 (k := 0) rfl ?_
    refine jk_get C in_KR (ci := 10) rfl 3 (by decide) tm_427 0 rfl rfl rd_KR_problemOf_152 ?_
    refine jk_iload_n C rd_KR_problemOf_155 (k := 2) rfl ?_
    obtain ⟨q156, hq156, hf⟩ := jk_bind_h hf
    refine jk_callVi C hZ.1 hz (ct_Cords_has l D Z sq hZ cI cR a_t_cords a_t_cords_starts a_t_cords_depth a_t_cords_topic a_t_cords_value a_t_cords_nibbled i_t_cords_clusters i_t_cords_size x2 q156 hq156) tm_569 tm_570 tm_571 tm_6 tm_572 na_Cords_has ⟨Nat.le_of_ble_eq_true rfl, Nat.le_of_ble_eq_true rfl⟩ rfl [2] rfl rfl rfl (ws' := wd_KR_problemOf cI a_t a_t_input a_t_output a_t_topics a_t_cords a_t_draftTopics a_t_draft a_t_saved a_t_history a_t_script a_t_topics_names a_t_cords_starts a_t_cords_depth a_t_cords_topic a_t_cords_value a_t_cords_nibbled a_t_cords_starts_k a_t_cords_depth_k a_t_cords_value_k a_t_cords_nibbled_k i_t_hasSaved i_t_reportedCode i_t_reportedOffset i_t_topics_size i_t_cords_clusters i_t_cords_size i_t_cords_starts i_t_cords_depth i_t_cords_value i_t_cords_nibbled) rfl 2 5 rfl rfl rfl (st := []) rfl (Nat.le_of_ble_eq_true rfl) rd_KR_problemOf_156 ?_ ⟨Nat.le_of_ble_eq_true rfl, Nat.le_of_ble_eq_true rfl⟩
    refine jk_if_eq (tgt := 177) C rd_KR_problemOf_159 (by decide) hf (fun _ hf => ?_) (fun _ hf => ?_)
    · refine jk_iconst C rd_KR_problemOf_177 ?_
      cases hf
      exact jk_iret C rfl rd_KR_problemOf_178 rfl
    · refine jk_aload_n C rd_KR_problemOf_162 (k := 0) rfl ?_
      refine jk_get C in_KR (ci := 10) rfl 2 (by decide) tm_426 0 rfl rfl rd_KR_problemOf_163 ?_
      refine jk_iload_n C rd_KR_problemOf_166 (k := 3) rfl ?_
      obtain ⟨q167, hq167, hf⟩ := jk_bind_h hf
      refine jk_callVi C hZ.1 hz (ct_Topics_has l D Z sq hZ cI cR a_t_topics a_t_topics_names i_t_topics_size x3 q167 hq167) tm_562 tm_563 tm_564 tm_5 tm_565 na_Topics_has ⟨Nat.le_of_ble_eq_true rfl, Nat.le_of_ble_eq_true rfl⟩ rfl [1] rfl rfl rfl (ws' := wd_KR_problemOf cI a_t a_t_input a_t_output a_t_topics a_t_cords a_t_draftTopics a_t_draft a_t_saved a_t_history a_t_script a_t_topics_names a_t_cords_starts a_t_cords_depth a_t_cords_topic a_t_cords_value a_t_cords_nibbled a_t_cords_starts_k a_t_cords_depth_k a_t_cords_value_k a_t_cords_nibbled_k i_t_hasSaved i_t_reportedCode i_t_reportedOffset i_t_topics_size i_t_cords_clusters i_t_cords_size i_t_cords_starts i_t_cords_depth i_t_cords_value i_t_cords_nibbled) rfl 1 2 rfl rfl rfl (st := []) rfl (Nat.le_of_ble_eq_true rfl) rd_KR_problemOf_167 ?_ ⟨Nat.le_of_ble_eq_true rfl, Nat.le_of_ble_eq_true rfl⟩
      refine jk_if_eq (tgt := 177) C rd_KR_problemOf_170 (by decide) hf (fun _ hf => ?_) (fun _ hf => ?_)
      · refine jk_iconst C rd_KR_problemOf_177 ?_
        cases hf
        exact jk_iret C rfl rd_KR_problemOf_178 rfl
      · refine jk_iconst C rd_KR_problemOf_173 ?_
        refine jk_goto (tgt := 178) C rd_KR_problemOf_174 (by decide) ?_
        cases hf
        exact jk_iret C rfl rd_KR_problemOf_178 rfl
  refine jk_eqs_c hf (fun hx hf => ?_) (fun hx8 hf => ?_)
  · refine jk_tabIn (off := 178) (tgt := 179) C rd_KR_problemOf_1 (k := 8) hx (by decide +kernel) (by decide) ?_
    refine jk_aload_n C rd_KR_problemOf_179 (k := 0) rfl ?_
    refine jk_get C in_KR (ci := 10) rfl 3 (by decide) tm_427 0 rfl rfl rd_KR_problemOf_180 ?_
    refine jk_iload_n C rd_KR_problemOf_183 (k := 2) rfl ?_
    obtain ⟨q184, hq184, hf⟩ := jk_bind_h hf
    refine jk_callVi C hZ.1 hz (ct_Cords_hasCluster l D Z sq hZ cI cR a_t_cords a_t_cords_starts a_t_cords_depth a_t_cords_topic a_t_cords_value a_t_cords_nibbled i_t_cords_clusters i_t_cords_size x2 q184 hq184) tm_554 tm_555 tm_556 tm_6 tm_557 na_Cords_hasCluster ⟨Nat.le_of_ble_eq_true rfl, Nat.le_of_ble_eq_true rfl⟩ rfl [2] rfl rfl rfl (ws' := wd_KR_problemOf cI a_t a_t_input a_t_output a_t_topics a_t_cords a_t_draftTopics a_t_draft a_t_saved a_t_history a_t_script a_t_topics_names a_t_cords_starts a_t_cords_depth a_t_cords_topic a_t_cords_value a_t_cords_nibbled a_t_cords_starts_k a_t_cords_depth_k a_t_cords_value_k a_t_cords_nibbled_k i_t_hasSaved i_t_reportedCode i_t_reportedOffset i_t_topics_size i_t_cords_clusters i_t_cords_size i_t_cords_starts i_t_cords_depth i_t_cords_value i_t_cords_nibbled) rfl 2 5 rfl rfl rfl (st := []) rfl (Nat.le_of_ble_eq_true rfl) rd_KR_problemOf_184 ?_ ⟨Nat.le_of_ble_eq_true rfl, Nat.le_of_ble_eq_true rfl⟩
    refine jk_if_ne (tgt := 194) C rd_KR_problemOf_187 (by decide) hf (fun _ hf => ?_) (fun _ hf => ?_)
    · refine jk_aload_n C rd_KR_problemOf_194 (k := 0) rfl ?_
      refine jk_get C in_KR (ci := 10) rfl 3 (by decide) tm_427 0 rfl rfl rd_KR_problemOf_195 ?_
      refine jk_iload_n C rd_KR_problemOf_198 (k := 2) rfl ?_
      obtain ⟨q199, hq199, hf⟩ := jk_bind_h hf
      refine jk_callVi C hZ.1 hz (ct_Cords_obstacle l D Z sq hZ cI cR a_t_cords a_t_cords_starts a_t_cords_depth a_t_cords_topic a_t_cords_value a_t_cords_nibbled a_t_cords_starts_k a_t_cords_depth_k a_t_cords_value_k a_t_cords_nibbled_k i_t_cords_clusters i_t_cords_size i_t_cords_starts i_t_cords_depth i_t_cords_value i_t_cords_nibbled x2 q199 hq199) tm_615 tm_616 tm_617 tm_6 tm_618 na_Cords_obstacle ⟨Nat.le_of_ble_eq_true rfl, Nat.le_of_ble_eq_true rfl⟩ rfl [2, 3, 4, 5, 6, 7, 8, 9, 10] rfl rfl rfl (ws' := wd_KR_problemOf cI a_t a_t_input a_t_output a_t_topics a_t_cords a_t_draftTopics a_t_draft a_t_saved a_t_history a_t_script a_t_topics_names a_t_cords_starts a_t_cords_depth a_t_cords_topic a_t_cords_value a_t_cords_nibbled a_t_cords_starts_k a_t_cords_depth_k a_t_cords_value_k a_t_cords_nibbled_k i_t_hasSaved i_t_reportedCode i_t_reportedOffset i_t_topics_size i_t_cords_clusters i_t_cords_size i_t_cords_starts i_t_cords_depth i_t_cords_value i_t_cords_nibbled) rfl 2 5 rfl rfl rfl (st := []) rfl (Nat.le_of_ble_eq_true rfl) rd_KR_problemOf_199 ?_ ⟨Nat.le_of_ble_eq_true rfl, Nat.le_of_ble_eq_true rfl⟩
      refine jk_if_ne (tgt := 209) C rd_KR_problemOf_202 (by decide) hf (fun _ hf => ?_) (fun _ hf => ?_)
      · refine jk_iconst C rd_KR_problemOf_209 ?_
        cases hf
        exact jk_iret C rfl rd_KR_problemOf_210 rfl
      · refine jk_iconst C rd_KR_problemOf_205 ?_
        refine jk_goto (tgt := 210) C rd_KR_problemOf_206 (by decide) ?_
        cases hf
        exact jk_iret C rfl rd_KR_problemOf_210 rfl
    · refine jk_iconst C rd_KR_problemOf_190 ?_
      refine jk_goto (tgt := 210) C rd_KR_problemOf_191 (by decide) ?_
      cases hf
      exact jk_iret C rfl rd_KR_problemOf_210 rfl
  refine jk_tabOut (tgt := 211) C rd_KR_problemOf_1 (jk_rg_h hf).1 (by omega) (by decide) ?_
  replace hf := (jk_rg_h hf).2
  refine jk_iconst C rd_KR_problemOf_211 ?_
  cases hf
  exact jk_iret C rfl rd_KR_problemOf_212 rfl
def wd_KR_runScript (cI : ClassId) (cR : ClassId) (g_t_history_ring : Nat → Option Nat) (a_t a_t_input a_t_output a_t_topics a_t_cords a_t_draftTopics a_t_draft a_t_saved a_t_history a_t_script a_t_input_bytes a_t_input_bytes_k a_t_topics_names a_t_topics_names_k a_t_cords_starts a_t_cords_depth a_t_cords_topic a_t_cords_value a_t_cords_nibbled a_t_cords_starts_k a_t_cords_depth_k a_t_cords_topic_k a_t_cords_value_k a_t_cords_nibbled_k a_t_history_ring a_t_history_slot a_t_history_slot_starts a_t_history_slot_depth a_t_history_slot_topic a_t_history_slot_value a_t_history_slot_nibbled a_t_history_slot_starts_k a_t_history_slot_depth_k a_t_history_slot_topic_k a_t_history_slot_value_k a_t_history_slot_nibbled_k a_t_script_kinds a_t_script_firsts a_t_script_seconds a_t_script_thirds a_t_script_kinds_k a_t_script_firsts_k a_t_script_seconds_k a_t_script_thirds_k : Nat) (i_t_hasSaved : Int) (i_t_reportedCode : Int) (i_t_reportedOffset : Int) (i_t_input_length : Int) (i_t_input_kind : Int) (i_t_input_start : Int) (i_t_input_end : Int) (i_t_input_code : Int) (i_t_input_offset : Int) (i_t_input_bytes : (Int → Int)) (i_t_topics_size : Int) (i_t_topics_names : (Int → Int)) (i_t_cords_clusters : Int) (i_t_cords_size : Int) (i_t_cords_starts : (Int → Int)) (i_t_cords_depth : (Int → Int)) (i_t_cords_topic : (Int → Int)) (i_t_cords_value : (Int → Int)) (i_t_cords_nibbled : (Int → Int)) (i_t_history_latest : Int) (i_t_history_size : Int) (i_t_history_slot_clusters : Int) (i_t_history_slot_size : Int) (i_t_history_slot_starts : (Int → Int)) (i_t_history_slot_depth : (Int → Int)) (i_t_history_slot_topic : (Int → Int)) (i_t_history_slot_value : (Int → Int)) (i_t_history_slot_nibbled : (Int → Int)) (i_t_script_size : Int) (i_t_script_kinds : (Int → Int)) (i_t_script_firsts : (Int → Int)) (i_t_script_seconds : (Int → Int)) (i_t_script_thirds : (Int → Int)) : va_W := [(a_t, .inr (10, [.ref a_t_input, .ref a_t_output, .ref a_t_topics, .ref a_t_cords, .ref a_t_draftTopics, .ref a_t_draft, .ref a_t_saved, .ref a_t_history, .ref a_t_script, jk_V i_t_hasSaved, jk_V i_t_reportedCode, jk_V i_t_reportedOffset])), (a_t_input, .inr (3, [.ref a_t_input_bytes, jk_V i_t_input_length, jk_V i_t_input_kind, jk_V i_t_input_start, jk_V i_t_input_end, jk_V i_t_input_code, jk_V i_t_input_offset])), (a_t_input_bytes, .inr (0, [.ref a_t_input_bytes_k])), (a_t_input_bytes_k, jk_W cI 700 i_t_input_bytes), (a_t_topics, .inr (2, [jk_V i_t_topics_size, .ref a_t_topics_names])), (a_t_topics_names, .inr (0, [.ref a_t_topics_names_k])), (a_t_topics_names_k, jk_W cI 8 i_t_topics_names), (a_t_cords, .inr (5, [jk_V i_t_cords_clusters, jk_V i_t_cords_size, .ref a_t_cords_starts, .ref a_t_cords_depth, .ref a_t_cords_topic, .ref a_t_cords_value, .ref a_t_cords_nibbled])), (a_t_cords_starts, .inr (0, [.ref a_t_cords_starts_k])), (a_t_cords_starts_k, jk_W cI 7 i_t_cords_starts), (a_t_cords_depth, .inr (0, [.ref a_t_cords_depth_k])), (a_t_cords_depth_k, jk_W cI 40 i_t_cords_depth), (a_t_cords_topic, .inr (0, [.ref a_t_cords_topic_k])), (a_t_cords_topic_k, jk_W cI 40 i_t_cords_topic), (a_t_cords_value, .inr (0, [.ref a_t_cords_value_k])), (a_t_cords_value_k, jk_W cI 40 i_t_cords_value), (a_t_cords_nibbled, .inr (0, [.ref a_t_cords_nibbled_k])), (a_t_cords_nibbled_k, jk_W cI 40 i_t_cords_nibbled), (a_t_history, .inr (6, [.ref a_t_history_ring, jk_V i_t_history_latest, jk_V i_t_history_size])), (a_t_history_ring, .inl (cR, 8, .inr (.inr (.inr (.inr g_t_history_ring))))), (a_t_history_slot, .inr (5, [jk_V i_t_history_slot_clusters, jk_V i_t_history_slot_size, .ref a_t_history_slot_starts, .ref a_t_history_slot_depth, .ref a_t_history_slot_topic, .ref a_t_history_slot_value, .ref a_t_history_slot_nibbled])), (a_t_history_slot_starts, .inr (0, [.ref a_t_history_slot_starts_k])), (a_t_history_slot_starts_k, jk_W cI 7 i_t_history_slot_starts), (a_t_history_slot_depth, .inr (0, [.ref a_t_history_slot_depth_k])), (a_t_history_slot_depth_k, jk_W cI 40 i_t_history_slot_depth), (a_t_history_slot_topic, .inr (0, [.ref a_t_history_slot_topic_k])), (a_t_history_slot_topic_k, jk_W cI 40 i_t_history_slot_topic), (a_t_history_slot_value, .inr (0, [.ref a_t_history_slot_value_k])), (a_t_history_slot_value_k, jk_W cI 40 i_t_history_slot_value), (a_t_history_slot_nibbled, .inr (0, [.ref a_t_history_slot_nibbled_k])), (a_t_history_slot_nibbled_k, jk_W cI 40 i_t_history_slot_nibbled), (a_t_script, .inr (7, [jk_V i_t_script_size, .ref a_t_script_kinds, .ref a_t_script_firsts, .ref a_t_script_seconds, .ref a_t_script_thirds])), (a_t_script_kinds, .inr (0, [.ref a_t_script_kinds_k])), (a_t_script_kinds_k, jk_W cI 30 i_t_script_kinds), (a_t_script_firsts, .inr (0, [.ref a_t_script_firsts_k])), (a_t_script_firsts_k, jk_W cI 30 i_t_script_firsts), (a_t_script_seconds, .inr (0, [.ref a_t_script_seconds_k])), (a_t_script_seconds_k, jk_W cI 30 i_t_script_seconds), (a_t_script_thirds, .inr (0, [.ref a_t_script_thirds_k])), (a_t_script_thirds_k, jk_W cI 30 i_t_script_thirds)]
set_option maxHeartbeats 4000000 in
set_option maxRecDepth 20000 in
theorem ct_KR_runScript (l : Launch) (D : va_G) (Z : (Nat → Prop) → State → Heap → Prop) (sq : Nat → Nat) (hZ : jk_ZK Z sq) (cI cR : ClassId) (g_t_history_ring : Nat → Option Nat) (a_t a_t_input a_t_output a_t_topics a_t_cords a_t_draftTopics a_t_draft a_t_saved a_t_history a_t_script a_t_input_bytes a_t_input_bytes_k a_t_topics_names a_t_topics_names_k a_t_cords_starts a_t_cords_depth a_t_cords_topic a_t_cords_value a_t_cords_nibbled a_t_cords_starts_k a_t_cords_depth_k a_t_cords_topic_k a_t_cords_value_k a_t_cords_nibbled_k a_t_history_ring a_t_history_slot a_t_history_slot_starts a_t_history_slot_depth a_t_history_slot_topic a_t_history_slot_value a_t_history_slot_nibbled a_t_history_slot_starts_k a_t_history_slot_depth_k a_t_history_slot_topic_k a_t_history_slot_value_k a_t_history_slot_nibbled_k a_t_script_kinds a_t_script_firsts a_t_script_seconds a_t_script_thirds a_t_script_kinds_k a_t_script_firsts_k a_t_script_seconds_k a_t_script_thirds_k : Nat) (i_t_hasSaved : Int) (i_t_reportedCode : Int) (i_t_reportedOffset : Int) (i_t_input_length : Int) (i_t_input_kind : Int) (i_t_input_start : Int) (i_t_input_end : Int) (i_t_input_code : Int) (i_t_input_offset : Int) (i_t_input_bytes : (Int → Int)) (i_t_topics_size : Int) (i_t_topics_names : (Int → Int)) (i_t_cords_clusters : Int) (i_t_cords_size : Int) (i_t_cords_starts : (Int → Int)) (i_t_cords_depth : (Int → Int)) (i_t_cords_topic : (Int → Int)) (i_t_cords_value : (Int → Int)) (i_t_cords_nibbled : (Int → Int)) (i_t_history_latest : Int) (i_t_history_size : Int) (i_t_history_slot_clusters : Int) (i_t_history_slot_size : Int) (i_t_history_slot_starts : (Int → Int)) (i_t_history_slot_depth : (Int → Int)) (i_t_history_slot_topic : (Int → Int)) (i_t_history_slot_value : (Int → Int)) (i_t_history_slot_nibbled : (Int → Int)) (i_t_script_size : Int) (i_t_script_kinds : (Int → Int)) (i_t_script_firsts : (Int → Int)) (i_t_script_seconds : (Int → Int)) (i_t_script_thirds : (Int → Int)) (hg : g_t_history_ring ((i_t_history_latest + 1) % 8).toNat = some a_t_history_slot) (q : Int × Int × Int × Int × Int × Int × Int × Int × Int × (Int → Int) × (Int → Int) × (Int → Int) × (Int → Int) × (Int → Int) × Int × Int × Int × Int × (Int → Int) × (Int → Int) × (Int → Int) × (Int → Int) × (Int → Int) × Int × (Int → Int) × (Int → Int) × (Int → Int) × (Int → Int) × Int × Int) (hf : fn_KR_runScript i_t_input_bytes i_t_input_length i_t_input_kind i_t_input_start i_t_input_end i_t_input_code i_t_input_offset i_t_topics_size i_t_topics_names i_t_cords_clusters i_t_cords_size i_t_cords_starts i_t_cords_depth i_t_cords_topic i_t_cords_value i_t_cords_nibbled i_t_history_latest i_t_history_size i_t_history_slot_clusters i_t_history_slot_size i_t_history_slot_starts i_t_history_slot_depth i_t_history_slot_topic i_t_history_slot_value i_t_history_slot_nibbled i_t_script_size i_t_script_kinds i_t_script_firsts i_t_script_seconds i_t_script_thirds i_t_reportedCode i_t_reportedOffset = some q) : jk_MI l D jk_cl (jk_ty cI cR) Z mn_KR_runScript (.code mn_KR_runScript mb_KR_runScript 6 (some .int) :: jk_WA) (jk_rm 10 388) [.ref a_t] (wd_KR_runScript cI cR g_t_history_ring a_t a_t_input a_t_output a_t_topics a_t_cords a_t_draftTopics a_t_draft a_t_saved a_t_history a_t_script a_t_input_bytes a_t_input_bytes_k a_t_topics_names a_t_topics_names_k a_t_cords_starts a_t_cords_depth a_t_cords_topic a_t_cords_value a_t_cords_nibbled a_t_cords_starts_k a_t_cords_depth_k a_t_cords_topic_k a_t_cords_value_k a_t_cords_nibbled_k a_t_history_ring a_t_history_slot a_t_history_slot_starts a_t_history_slot_depth a_t_history_slot_topic a_t_history_slot_value a_t_history_slot_nibbled a_t_history_slot_starts_k a_t_history_slot_depth_k a_t_history_slot_topic_k a_t_history_slot_value_k a_t_history_slot_nibbled_k a_t_script_kinds a_t_script_firsts a_t_script_seconds a_t_script_thirds a_t_script_kinds_k a_t_script_firsts_k a_t_script_seconds_k a_t_script_thirds_k i_t_hasSaved i_t_reportedCode i_t_reportedOffset i_t_input_length i_t_input_kind i_t_input_start i_t_input_end i_t_input_code i_t_input_offset i_t_input_bytes i_t_topics_size i_t_topics_names i_t_cords_clusters i_t_cords_size i_t_cords_starts i_t_cords_depth i_t_cords_topic i_t_cords_value i_t_cords_nibbled i_t_history_latest i_t_history_size i_t_history_slot_clusters i_t_history_slot_size i_t_history_slot_starts i_t_history_slot_depth i_t_history_slot_topic i_t_history_slot_value i_t_history_slot_nibbled i_t_script_size i_t_script_kinds i_t_script_firsts i_t_script_seconds i_t_script_thirds) (wd_KR_runScript cI cR g_t_history_ring a_t a_t_input a_t_output a_t_topics a_t_cords a_t_draftTopics a_t_draft a_t_saved a_t_history a_t_script a_t_input_bytes a_t_input_bytes_k a_t_topics_names a_t_topics_names_k a_t_cords_starts a_t_cords_depth a_t_cords_topic a_t_cords_value a_t_cords_nibbled a_t_cords_starts_k a_t_cords_depth_k a_t_cords_topic_k a_t_cords_value_k a_t_cords_nibbled_k a_t_history_ring a_t_history_slot a_t_history_slot_starts a_t_history_slot_depth a_t_history_slot_topic a_t_history_slot_value a_t_history_slot_nibbled a_t_history_slot_starts_k a_t_history_slot_depth_k a_t_history_slot_topic_k a_t_history_slot_value_k a_t_history_slot_nibbled_k a_t_script_kinds a_t_script_firsts a_t_script_seconds a_t_script_thirds a_t_script_kinds_k a_t_script_firsts_k a_t_script_seconds_k a_t_script_thirds_k i_t_hasSaved q.2.2.2.2.2.2.2.2.2.2.2.2.2.2.2.2.2.2.2.2.2.2.2.2.2.2.2.2.1 q.2.2.2.2.2.2.2.2.2.2.2.2.2.2.2.2.2.2.2.2.2.2.2.2.2.2.2.2.2 q.2.1 q.2.2.1 q.2.2.2.1 q.2.2.2.2.1 q.2.2.2.2.2.1 q.2.2.2.2.2.2.1 i_t_input_bytes i_t_topics_size i_t_topics_names q.2.2.2.2.2.2.2.1 q.2.2.2.2.2.2.2.2.1 q.2.2.2.2.2.2.2.2.2.1 q.2.2.2.2.2.2.2.2.2.2.1 q.2.2.2.2.2.2.2.2.2.2.2.1 q.2.2.2.2.2.2.2.2.2.2.2.2.1 q.2.2.2.2.2.2.2.2.2.2.2.2.2.1 q.2.2.2.2.2.2.2.2.2.2.2.2.2.2.1 q.2.2.2.2.2.2.2.2.2.2.2.2.2.2.2.1 q.2.2.2.2.2.2.2.2.2.2.2.2.2.2.2.2.1 q.2.2.2.2.2.2.2.2.2.2.2.2.2.2.2.2.2.1 q.2.2.2.2.2.2.2.2.2.2.2.2.2.2.2.2.2.2.1 q.2.2.2.2.2.2.2.2.2.2.2.2.2.2.2.2.2.2.2.1 q.2.2.2.2.2.2.2.2.2.2.2.2.2.2.2.2.2.2.2.2.1 q.2.2.2.2.2.2.2.2.2.2.2.2.2.2.2.2.2.2.2.2.2.1 q.2.2.2.2.2.2.2.2.2.2.2.2.2.2.2.2.2.2.2.2.2.2.1 q.2.2.2.2.2.2.2.2.2.2.2.2.2.2.2.2.2.2.2.2.2.2.2.1 q.2.2.2.2.2.2.2.2.2.2.2.2.2.2.2.2.2.2.2.2.2.2.2.2.1 q.2.2.2.2.2.2.2.2.2.2.2.2.2.2.2.2.2.2.2.2.2.2.2.2.2.1 q.2.2.2.2.2.2.2.2.2.2.2.2.2.2.2.2.2.2.2.2.2.2.2.2.2.2.1 q.2.2.2.2.2.2.2.2.2.2.2.2.2.2.2.2.2.2.2.2.2.2.2.2.2.2.2.1) q.1 := by
  intro sz
  refine jk_body (by decide +kernel) (fun p e s m args below meth c hsz hz hin C => ?_) (Nat.le_of_ble_eq_true rfl)
  subst hsz
  unfold fn_KR_runScript at hf
  have bk_37 : ∀ (n : Nat) (t_input_length : Int) (t_input_kind : Int) (t_input_start : Int) (t_input_end : Int) (t_input_code : Int) (t_input_offset : Int) (t_cords_clusters : Int) (t_cords_size : Int) (t_cords_starts : (Int → Int)) (t_cords_depth : (Int → Int)) (t_cords_topic : (Int → Int)) (t_cords_value : (Int → Int)) (t_cords_nibbled : (Int → Int)) (t_history_latest : Int) (t_history_size : Int) (t_history_slot_clusters : Int) (t_history_slot_size : Int) (t_history_slot_starts : (Int → Int)) (t_history_slot_depth : (Int → Int)) (t_history_slot_topic : (Int → Int)) (t_history_slot_value : (Int → Int)) (t_history_slot_nibbled : (Int → Int)) (t_script_size : Int) (t_script_kinds : (Int → Int)) (t_script_firsts : (Int → Int)) (t_script_seconds : (Int → Int)) (t_script_thirds : (Int → Int)) (t_reportedCode : Int) (t_reportedOffset : Int) (v1 : Int), fn_KR_runScript_b37 n t_input_length t_input_kind t_input_start t_input_end t_input_code t_input_offset i_t_topics_size t_cords_clusters t_cords_size t_cords_starts t_cords_depth t_cords_topic t_cords_value t_cords_nibbled t_history_latest t_history_size t_history_slot_clusters t_history_slot_size t_history_slot_starts t_history_slot_depth t_history_slot_topic t_history_slot_value t_history_slot_nibbled t_script_size t_script_kinds t_script_firsts t_script_seconds t_script_thirds t_reportedCode t_reportedOffset v1 = some q → jk_J p l e (jk_rm 10 388) s m args below meth c 0 0 (jk_QI below D jk_cl (jk_ty cI cR) (wd_KR_runScript cI cR g_t_history_ring a_t a_t_input a_t_output a_t_topics a_t_cords a_t_draftTopics a_t_draft a_t_saved a_t_history a_t_script a_t_input_bytes a_t_input_bytes_k a_t_topics_names a_t_topics_names_k a_t_cords_starts a_t_cords_depth a_t_cords_topic a_t_cords_value a_t_cords_nibbled a_t_cords_starts_k a_t_cords_depth_k a_t_cords_topic_k a_t_cords_value_k a_t_cords_nibbled_k a_t_history_ring a_t_history_slot a_t_history_slot_starts a_t_history_slot_depth a_t_history_slot_topic a_t_history_slot_value a_t_history_slot_nibbled a_t_history_slot_starts_k a_t_history_slot_depth_k a_t_history_slot_topic_k a_t_history_slot_value_k a_t_history_slot_nibbled_k a_t_script_kinds a_t_script_firsts a_t_script_seconds a_t_script_thirds a_t_script_kinds_k a_t_script_firsts_k a_t_script_seconds_k a_t_script_thirds_k i_t_hasSaved i_t_reportedCode i_t_reportedOffset i_t_input_length i_t_input_kind i_t_input_start i_t_input_end i_t_input_code i_t_input_offset i_t_input_bytes i_t_topics_size i_t_topics_names i_t_cords_clusters i_t_cords_size i_t_cords_starts i_t_cords_depth i_t_cords_topic i_t_cords_value i_t_cords_nibbled i_t_history_latest i_t_history_size i_t_history_slot_clusters i_t_history_slot_size i_t_history_slot_starts i_t_history_slot_depth i_t_history_slot_topic i_t_history_slot_value i_t_history_slot_nibbled i_t_script_size i_t_script_kinds i_t_script_firsts i_t_script_seconds i_t_script_thirds) (wd_KR_runScript cI cR g_t_history_ring a_t a_t_input a_t_output a_t_topics a_t_cords a_t_draftTopics a_t_draft a_t_saved a_t_history a_t_script a_t_input_bytes a_t_input_bytes_k a_t_topics_names a_t_topics_names_k a_t_cords_starts a_t_cords_depth a_t_cords_topic a_t_cords_value a_t_cords_nibbled a_t_cords_starts_k a_t_cords_depth_k a_t_cords_topic_k a_t_cords_value_k a_t_cords_nibbled_k a_t_history_ring a_t_history_slot a_t_history_slot_starts a_t_history_slot_depth a_t_history_slot_topic a_t_history_slot_value a_t_history_slot_nibbled a_t_history_slot_starts_k a_t_history_slot_depth_k a_t_history_slot_topic_k a_t_history_slot_value_k a_t_history_slot_nibbled_k a_t_script_kinds a_t_script_firsts a_t_script_seconds a_t_script_thirds a_t_script_kinds_k a_t_script_firsts_k a_t_script_seconds_k a_t_script_thirds_k i_t_hasSaved q.2.2.2.2.2.2.2.2.2.2.2.2.2.2.2.2.2.2.2.2.2.2.2.2.2.2.2.2.1 q.2.2.2.2.2.2.2.2.2.2.2.2.2.2.2.2.2.2.2.2.2.2.2.2.2.2.2.2.2 q.2.1 q.2.2.1 q.2.2.2.1 q.2.2.2.2.1 q.2.2.2.2.2.1 q.2.2.2.2.2.2.1 i_t_input_bytes i_t_topics_size i_t_topics_names q.2.2.2.2.2.2.2.1 q.2.2.2.2.2.2.2.2.1 q.2.2.2.2.2.2.2.2.2.1 q.2.2.2.2.2.2.2.2.2.2.1 q.2.2.2.2.2.2.2.2.2.2.2.1 q.2.2.2.2.2.2.2.2.2.2.2.2.1 q.2.2.2.2.2.2.2.2.2.2.2.2.2.1 q.2.2.2.2.2.2.2.2.2.2.2.2.2.2.1 q.2.2.2.2.2.2.2.2.2.2.2.2.2.2.2.1 q.2.2.2.2.2.2.2.2.2.2.2.2.2.2.2.2.1 q.2.2.2.2.2.2.2.2.2.2.2.2.2.2.2.2.2.1 q.2.2.2.2.2.2.2.2.2.2.2.2.2.2.2.2.2.2.1 q.2.2.2.2.2.2.2.2.2.2.2.2.2.2.2.2.2.2.2.1 q.2.2.2.2.2.2.2.2.2.2.2.2.2.2.2.2.2.2.2.2.1 q.2.2.2.2.2.2.2.2.2.2.2.2.2.2.2.2.2.2.2.2.2.1 q.2.2.2.2.2.2.2.2.2.2.2.2.2.2.2.2.2.2.2.2.2.2.1 q.2.2.2.2.2.2.2.2.2.2.2.2.2.2.2.2.2.2.2.2.2.2.2.1 q.2.2.2.2.2.2.2.2.2.2.2.2.2.2.2.2.2.2.2.2.2.2.2.2.1 q.2.2.2.2.2.2.2.2.2.2.2.2.2.2.2.2.2.2.2.2.2.2.2.2.2.1 q.2.2.2.2.2.2.2.2.2.2.2.2.2.2.2.2.2.2.2.2.2.2.2.2.2.2.1 q.2.2.2.2.2.2.2.2.2.2.2.2.2.2.2.2.2.2.2.2.2.2.2.2.2.2.2.1) args s q.1) D jk_cl (va_A (wd_KR_runScript cI cR g_t_history_ring a_t a_t_input a_t_output a_t_topics a_t_cords a_t_draftTopics a_t_draft a_t_saved a_t_history a_t_script a_t_input_bytes a_t_input_bytes_k a_t_topics_names a_t_topics_names_k a_t_cords_starts a_t_cords_depth a_t_cords_topic a_t_cords_value a_t_cords_nibbled a_t_cords_starts_k a_t_cords_depth_k a_t_cords_topic_k a_t_cords_value_k a_t_cords_nibbled_k a_t_history_ring a_t_history_slot a_t_history_slot_starts a_t_history_slot_depth a_t_history_slot_topic a_t_history_slot_value a_t_history_slot_nibbled a_t_history_slot_starts_k a_t_history_slot_depth_k a_t_history_slot_topic_k a_t_history_slot_value_k a_t_history_slot_nibbled_k a_t_script_kinds a_t_script_firsts a_t_script_seconds a_t_script_thirds a_t_script_kinds_k a_t_script_firsts_k a_t_script_seconds_k a_t_script_thirds_k i_t_hasSaved i_t_reportedCode i_t_reportedOffset i_t_input_length i_t_input_kind i_t_input_start i_t_input_end i_t_input_code i_t_input_offset i_t_input_bytes i_t_topics_size i_t_topics_names i_t_cords_clusters i_t_cords_size i_t_cords_starts i_t_cords_depth i_t_cords_topic i_t_cords_value i_t_cords_nibbled i_t_history_latest i_t_history_size i_t_history_slot_clusters i_t_history_slot_size i_t_history_slot_starts i_t_history_slot_depth i_t_history_slot_topic i_t_history_slot_value i_t_history_slot_nibbled i_t_script_size i_t_script_kinds i_t_script_firsts i_t_script_seconds i_t_script_thirds) s.heap.size) 6 (wd_KR_runScript cI cR g_t_history_ring a_t a_t_input a_t_output a_t_topics a_t_cords a_t_draftTopics a_t_draft a_t_saved a_t_history a_t_script a_t_input_bytes a_t_input_bytes_k a_t_topics_names a_t_topics_names_k a_t_cords_starts a_t_cords_depth a_t_cords_topic a_t_cords_value a_t_cords_nibbled a_t_cords_starts_k a_t_cords_depth_k a_t_cords_topic_k a_t_cords_value_k a_t_cords_nibbled_k a_t_history_ring a_t_history_slot a_t_history_slot_starts a_t_history_slot_depth a_t_history_slot_topic a_t_history_slot_value a_t_history_slot_nibbled a_t_history_slot_starts_k a_t_history_slot_depth_k a_t_history_slot_topic_k a_t_history_slot_value_k a_t_history_slot_nibbled_k a_t_script_kinds a_t_script_firsts a_t_script_seconds a_t_script_thirds a_t_script_kinds_k a_t_script_firsts_k a_t_script_seconds_k a_t_script_thirds_k i_t_hasSaved t_reportedCode t_reportedOffset t_input_length t_input_kind t_input_start t_input_end t_input_code t_input_offset i_t_input_bytes i_t_topics_size i_t_topics_names t_cords_clusters t_cords_size t_cords_starts t_cords_depth t_cords_topic t_cords_value t_cords_nibbled t_history_latest t_history_size t_history_slot_clusters t_history_slot_size t_history_slot_starts t_history_slot_depth t_history_slot_topic t_history_slot_value t_history_slot_nibbled t_script_size t_script_kinds t_script_firsts t_script_seconds t_script_thirds) [(0, .ref a_t), (1, jk_V v1)] 37 [] := by
    intro n
    induction n with
    | zero => intro t_input_length t_input_kind t_input_start t_input_end t_input_code t_input_offset t_cords_clusters t_cords_size t_cords_starts t_cords_depth t_cords_topic t_cords_value t_cords_nibbled t_history_latest t_history_size t_history_slot_clusters t_history_slot_size t_history_slot_starts t_history_slot_depth t_history_slot_topic t_history_slot_value t_history_slot_nibbled t_script_size t_script_kinds t_script_firsts t_script_seconds t_script_thirds t_reportedCode t_reportedOffset v1 hf; exact nomatch (show none = some q from hf)
    | succ n ih =>
      intro t_input_length t_input_kind t_input_start t_input_end t_input_code t_input_offset t_cords_clusters t_cords_size t_cords_starts t_cords_depth t_cords_topic t_cords_value t_cords_nibbled t_history_latest t_history_size t_history_slot_clusters t_history_slot_size t_history_slot_starts t_history_slot_depth t_history_slot_topic t_history_slot_value t_history_slot_nibbled t_script_size t_script_kinds t_script_firsts t_script_seconds t_script_thirds t_reportedCode t_reportedOffset v1 hf
      rw [fn_KR_runScript_b37] at hf
      refine jk_iload_n C rd_KR_runScript_37 (k := 1) rfl ?_
      refine jk_aload_n C rd_KR_runScript_38 (k := 0) rfl ?_
      refine jk_get C in_KR (ci := 10) rfl 8 (by decide) tm_432 0 rfl rfl rd_KR_runScript_39 ?_
      refine jk_getN C in_Script (ci := 7) rfl 0 (by decide) (jk_nw hZ hz tn_26) 31 rfl rfl rd_KR_runScript_42 ?_
      refine jk_icmp_ge (tgt := 130) C rd_KR_runScript_45 (by decide) hf (fun _ hf => ?_) (fun _ hf => ?_)
      · refine jk_aload_n C rd_KR_runScript_130 (k := 0) rfl ?_
        refine jk_get C in_KR (ci := 10) rfl 8 (by decide) tm_432 0 rfl rfl rd_KR_runScript_131 ?_
        refine jk_getN C in_Script (ci := 7) rfl 0 (by decide) (jk_nw hZ hz tn_26) 31 rfl rfl rd_KR_runScript_134 ?_
        cases hf
        exact jk_iret C rfl rd_KR_runScript_137 rfl
      · refine jk_aload_n C rd_KR_runScript_48 (k := 0) rfl ?_
        refine jk_get C in_KR (ci := 10) rfl 8 (by decide) tm_432 0 rfl rfl rd_KR_runScript_49 ?_
        refine jk_getN C in_Script (ci := 7) rfl 1 (by decide) (jk_nw hZ hz tn_27) 31 rfl rfl rd_KR_runScript_52 ?_
        refine jk_iload_n C rd_KR_runScript_55 (k := 1) rfl ?_
        obtain ⟨q56, hq56, hf⟩ := jk_bind_h hf
        refine jk_callVi C hZ.1 hz (ct_Row_get l D Z sq hZ cI cR (n_t := 30) (Nat.le_of_ble_eq_true rfl) a_t_script_kinds a_t_script_kinds_k t_script_kinds v1 q56 hq56) tm_549 tm_292 tm_293 tm_3 tm_294 na_Row_get ⟨Nat.le_of_ble_eq_true rfl, Nat.le_of_ble_eq_true rfl⟩ rfl [32, 33] rfl rfl rfl (ws' := wd_KR_runScript cI cR g_t_history_ring a_t a_t_input a_t_output a_t_topics a_t_cords a_t_draftTopics a_t_draft a_t_saved a_t_history a_t_script a_t_input_bytes a_t_input_bytes_k a_t_topics_names a_t_topics_names_k a_t_cords_starts a_t_cords_depth a_t_cords_topic a_t_cords_value a_t_cords_nibbled a_t_cords_starts_k a_t_cords_depth_k a_t_cords_topic_k a_t_cords_value_k a_t_cords_nibbled_k a_t_history_ring a_t_history_slot a_t_history_slot_starts a_t_history_slot_depth a_t_history_slot_topic a_t_history_slot_value a_t_history_slot_nibbled a_t_history_slot_starts_k a_t_history_slot_depth_k a_t_history_slot_topic_k a_t_history_slot_value_k a_t_history_slot_nibbled_k a_t_script_kinds a_t_script_firsts a_t_script_seconds a_t_script_thirds a_t_script_kinds_k a_t_script_firsts_k a_t_script_seconds_k a_t_script_thirds_k i_t_hasSaved t_reportedCode t_reportedOffset t_input_length t_input_kind t_input_start t_input_end t_input_code t_input_offset i_t_input_bytes i_t_topics_size i_t_topics_names t_cords_clusters t_cords_size t_cords_starts t_cords_depth t_cords_topic t_cords_value t_cords_nibbled t_history_latest t_history_size t_history_slot_clusters t_history_slot_size t_history_slot_starts t_history_slot_depth t_history_slot_topic t_history_slot_value t_history_slot_nibbled t_script_size t_script_kinds t_script_firsts t_script_seconds t_script_thirds) rfl 32 0 rfl rfl rfl (st := []) rfl (Nat.le_of_ble_eq_true rfl) rd_KR_runScript_56 ?_ ⟨Nat.le_of_ble_eq_true rfl, Nat.le_of_ble_eq_true rfl⟩
        refine jk_istore_n C rd_KR_runScript_59 (by decide) (lv' := [(2, jk_V q56), (0, .ref a_t), (1, jk_V v1)]) rfl ?_
        refine jk_aload_n C rd_KR_runScript_60 (k := 1) rfl ?_
        refine jk_get C in_KR (ci := 10) rfl 8 (by decide) tm_432 0 rfl rfl rd_KR_runScript_61 ?_
        refine jk_getN C in_Script (ci := 7) rfl 2 (by decide) (jk_nw hZ hz tn_28) 31 rfl rfl rd_KR_runScript_64 ?_
        refine jk_iload_n C rd_KR_runScript_67 (k := 2) rfl ?_
        obtain ⟨q68, hq68, hf⟩ := jk_bind_h hf
        refine jk_callVi C hZ.1 hz (ct_Row_get l D Z sq hZ cI cR (n_t := 30) (Nat.le_of_ble_eq_true rfl) a_t_script_firsts a_t_script_firsts_k t_script_firsts v1 q68 hq68) tm_549 tm_292 tm_293 tm_3 tm_294 na_Row_get ⟨Nat.le_of_ble_eq_true rfl, Nat.le_of_ble_eq_true rfl⟩ rfl [34, 35] rfl rfl rfl (ws' := wd_KR_runScript cI cR g_t_history_ring a_t a_t_input a_t_output a_t_topics a_t_cords a_t_draftTopics a_t_draft a_t_saved a_t_history a_t_script a_t_input_bytes a_t_input_bytes_k a_t_topics_names a_t_topics_names_k a_t_cords_starts a_t_cords_depth a_t_cords_topic a_t_cords_value a_t_cords_nibbled a_t_cords_starts_k a_t_cords_depth_k a_t_cords_topic_k a_t_cords_value_k a_t_cords_nibbled_k a_t_history_ring a_t_history_slot a_t_history_slot_starts a_t_history_slot_depth a_t_history_slot_topic a_t_history_slot_value a_t_history_slot_nibbled a_t_history_slot_starts_k a_t_history_slot_depth_k a_t_history_slot_topic_k a_t_history_slot_value_k a_t_history_slot_nibbled_k a_t_script_kinds a_t_script_firsts a_t_script_seconds a_t_script_thirds a_t_script_kinds_k a_t_script_firsts_k a_t_script_seconds_k a_t_script_thirds_k i_t_hasSaved t_reportedCode t_reportedOffset t_input_length t_input_kind t_input_start t_input_end t_input_code t_input_offset i_t_input_bytes i_t_topics_size i_t_topics_names t_cords_clusters t_cords_size t_cords_starts t_cords_depth t_cords_topic t_cords_value t_cords_nibbled t_history_latest t_history_size t_history_slot_clusters t_history_slot_size t_history_slot_starts t_history_slot_depth t_history_slot_topic t_history_slot_value t_history_slot_nibbled t_script_size t_script_kinds t_script_firsts t_script_seconds t_script_thirds) rfl 34 0 rfl rfl rfl (st := []) rfl (Nat.le_of_ble_eq_true rfl) rd_KR_runScript_68 ?_ ⟨Nat.le_of_ble_eq_true rfl, Nat.le_of_ble_eq_true rfl⟩
        refine jk_istore_n C rd_KR_runScript_71 (by decide) (lv' := [(3, jk_V q68), (2, jk_V q56), (0, .ref a_t), (1, jk_V v1)]) rfl ?_
        refine jk_aload_n C rd_KR_runScript_72 (k := 2) rfl ?_
        refine jk_get C in_KR (ci := 10) rfl 8 (by decide) tm_432 0 rfl rfl rd_KR_runScript_73 ?_
        refine jk_getN C in_Script (ci := 7) rfl 3 (by decide) (jk_nw hZ hz tn_29) 31 rfl rfl rd_KR_runScript_76 ?_
        refine jk_iload_n C rd_KR_runScript_79 (k := 3) rfl ?_
        obtain ⟨q80, hq80, hf⟩ := jk_bind_h hf
        refine jk_callVi C hZ.1 hz (ct_Row_get l D Z sq hZ cI cR (n_t := 30) (Nat.le_of_ble_eq_true rfl) a_t_script_seconds a_t_script_seconds_k t_script_seconds v1 q80 hq80) tm_549 tm_292 tm_293 tm_3 tm_294 na_Row_get ⟨Nat.le_of_ble_eq_true rfl, Nat.le_of_ble_eq_true rfl⟩ rfl [36, 37] rfl rfl rfl (ws' := wd_KR_runScript cI cR g_t_history_ring a_t a_t_input a_t_output a_t_topics a_t_cords a_t_draftTopics a_t_draft a_t_saved a_t_history a_t_script a_t_input_bytes a_t_input_bytes_k a_t_topics_names a_t_topics_names_k a_t_cords_starts a_t_cords_depth a_t_cords_topic a_t_cords_value a_t_cords_nibbled a_t_cords_starts_k a_t_cords_depth_k a_t_cords_topic_k a_t_cords_value_k a_t_cords_nibbled_k a_t_history_ring a_t_history_slot a_t_history_slot_starts a_t_history_slot_depth a_t_history_slot_topic a_t_history_slot_value a_t_history_slot_nibbled a_t_history_slot_starts_k a_t_history_slot_depth_k a_t_history_slot_topic_k a_t_history_slot_value_k a_t_history_slot_nibbled_k a_t_script_kinds a_t_script_firsts a_t_script_seconds a_t_script_thirds a_t_script_kinds_k a_t_script_firsts_k a_t_script_seconds_k a_t_script_thirds_k i_t_hasSaved t_reportedCode t_reportedOffset t_input_length t_input_kind t_input_start t_input_end t_input_code t_input_offset i_t_input_bytes i_t_topics_size i_t_topics_names t_cords_clusters t_cords_size t_cords_starts t_cords_depth t_cords_topic t_cords_value t_cords_nibbled t_history_latest t_history_size t_history_slot_clusters t_history_slot_size t_history_slot_starts t_history_slot_depth t_history_slot_topic t_history_slot_value t_history_slot_nibbled t_script_size t_script_kinds t_script_firsts t_script_seconds t_script_thirds) rfl 36 0 rfl rfl rfl (st := []) rfl (Nat.le_of_ble_eq_true rfl) rd_KR_runScript_80 ?_ ⟨Nat.le_of_ble_eq_true rfl, Nat.le_of_ble_eq_true rfl⟩
        refine jk_istore C rd_KR_runScript_83 (by decide) (lv' := [(4, jk_V q80), (3, jk_V q68), (2, jk_V q56), (0, .ref a_t), (1, jk_V v1)]) rfl ?_
        refine jk_aload_n C rd_KR_runScript_85 (k := 3) rfl ?_
        refine jk_get C in_KR (ci := 10) rfl 8 (by decide) tm_432 0 rfl rfl rd_KR_runScript_86 ?_
        refine jk_getN C in_Script (ci := 7) rfl 4 (by decide) (jk_nw hZ hz tn_30) 31 rfl rfl rd_KR_runScript_89 ?_
        refine jk_iload_n C rd_KR_runScript_92 (k := 4) rfl ?_
        obtain ⟨q93, hq93, hf⟩ := jk_bind_h hf
        refine jk_callVi C hZ.1 hz (ct_Row_get l D Z sq hZ cI cR (n_t := 30) (Nat.le_of_ble_eq_true rfl) a_t_script_thirds a_t_script_thirds_k t_script_thirds v1 q93 hq93) tm_549 tm_292 tm_293 tm_3 tm_294 na_Row_get ⟨Nat.le_of_ble_eq_true rfl, Nat.le_of_ble_eq_true rfl⟩ rfl [38, 39] rfl rfl rfl (ws' := wd_KR_runScript cI cR g_t_history_ring a_t a_t_input a_t_output a_t_topics a_t_cords a_t_draftTopics a_t_draft a_t_saved a_t_history a_t_script a_t_input_bytes a_t_input_bytes_k a_t_topics_names a_t_topics_names_k a_t_cords_starts a_t_cords_depth a_t_cords_topic a_t_cords_value a_t_cords_nibbled a_t_cords_starts_k a_t_cords_depth_k a_t_cords_topic_k a_t_cords_value_k a_t_cords_nibbled_k a_t_history_ring a_t_history_slot a_t_history_slot_starts a_t_history_slot_depth a_t_history_slot_topic a_t_history_slot_value a_t_history_slot_nibbled a_t_history_slot_starts_k a_t_history_slot_depth_k a_t_history_slot_topic_k a_t_history_slot_value_k a_t_history_slot_nibbled_k a_t_script_kinds a_t_script_firsts a_t_script_seconds a_t_script_thirds a_t_script_kinds_k a_t_script_firsts_k a_t_script_seconds_k a_t_script_thirds_k i_t_hasSaved t_reportedCode t_reportedOffset t_input_length t_input_kind t_input_start t_input_end t_input_code t_input_offset i_t_input_bytes i_t_topics_size i_t_topics_names t_cords_clusters t_cords_size t_cords_starts t_cords_depth t_cords_topic t_cords_value t_cords_nibbled t_history_latest t_history_size t_history_slot_clusters t_history_slot_size t_history_slot_starts t_history_slot_depth t_history_slot_topic t_history_slot_value t_history_slot_nibbled t_script_size t_script_kinds t_script_firsts t_script_seconds t_script_thirds) rfl 38 0 rfl rfl rfl (st := []) rfl (Nat.le_of_ble_eq_true rfl) rd_KR_runScript_93 ?_ ⟨Nat.le_of_ble_eq_true rfl, Nat.le_of_ble_eq_true rfl⟩
        refine jk_istore C rd_KR_runScript_96 (by decide) (lv' := [(5, jk_V q93), (4, jk_V q80), (3, jk_V q68), (2, jk_V q56), (0, .ref a_t), (1, jk_V v1)]) rfl ?_
        refine jk_aload_n C rd_KR_runScript_98 (k := 4) rfl ?_
        refine jk_iload_n C rd_KR_runScript_99 (k := 3) rfl ?_
        refine jk_iload_n C rd_KR_runScript_100 (k := 2) rfl ?_
        refine jk_iload C rd_KR_runScript_101 (k := 1) rfl ?_
        refine jk_iload C rd_KR_runScript_103 (k := 0) rfl ?_
        obtain ⟨q105, hq105, hf⟩ := jk_bind_h hf
        refine jk_callVi C hZ.1 hz (ct_KR_problemOf l D Z sq hZ cI cR a_t a_t_input a_t_output a_t_topics a_t_cords a_t_draftTopics a_t_draft a_t_saved a_t_history a_t_script a_t_topics_names a_t_cords_starts a_t_cords_depth a_t_cords_topic a_t_cords_value a_t_cords_nibbled a_t_cords_starts_k a_t_cords_depth_k a_t_cords_value_k a_t_cords_nibbled_k i_t_hasSaved t_reportedCode t_reportedOffset i_t_topics_size t_cords_clusters t_cords_size t_cords_starts t_cords_depth t_cords_value t_cords_nibbled q56 q68 q80 q93 q105 hq105) tm_550 tm_552 sl_7 tm_1 tm_553 na_KR_problemOf ⟨Nat.le_of_ble_eq_true rfl, Nat.le_of_ble_eq_true rfl⟩ rfl [0, 4, 7, 8, 9, 10, 11, 14, 15, 16, 17] rfl rfl rfl (ws' := wd_KR_runScript cI cR g_t_history_ring a_t a_t_input a_t_output a_t_topics a_t_cords a_t_draftTopics a_t_draft a_t_saved a_t_history a_t_script a_t_input_bytes a_t_input_bytes_k a_t_topics_names a_t_topics_names_k a_t_cords_starts a_t_cords_depth a_t_cords_topic a_t_cords_value a_t_cords_nibbled a_t_cords_starts_k a_t_cords_depth_k a_t_cords_topic_k a_t_cords_value_k a_t_cords_nibbled_k a_t_history_ring a_t_history_slot a_t_history_slot_starts a_t_history_slot_depth a_t_history_slot_topic a_t_history_slot_value a_t_history_slot_nibbled a_t_history_slot_starts_k a_t_history_slot_depth_k a_t_history_slot_topic_k a_t_history_slot_value_k a_t_history_slot_nibbled_k a_t_script_kinds a_t_script_firsts a_t_script_seconds a_t_script_thirds a_t_script_kinds_k a_t_script_firsts_k a_t_script_seconds_k a_t_script_thirds_k i_t_hasSaved t_reportedCode t_reportedOffset t_input_length t_input_kind t_input_start t_input_end t_input_code t_input_offset i_t_input_bytes i_t_topics_size i_t_topics_names t_cords_clusters t_cords_size t_cords_starts t_cords_depth t_cords_topic t_cords_value t_cords_nibbled t_history_latest t_history_size t_history_slot_clusters t_history_slot_size t_history_slot_starts t_history_slot_depth t_history_slot_topic t_history_slot_value t_history_slot_nibbled t_script_size t_script_kinds t_script_firsts t_script_seconds t_script_thirds) rfl 0 10 rfl rfl rfl (st := []) rfl (Nat.le_of_ble_eq_true rfl) rd_KR_runScript_105 ?_ ⟨Nat.le_of_ble_eq_true rfl, Nat.le_of_ble_eq_true rfl⟩
        refine jk_if_eq (tgt := 113) C rd_KR_runScript_108 (by decide) hf (fun _ hf => ?_) (fun _ hf => ?_)
        · refine jk_aload_n C rd_KR_runScript_113 (k := 4) rfl ?_
          refine jk_iload_n C rd_KR_runScript_114 (k := 3) rfl ?_
          refine jk_iload_n C rd_KR_runScript_115 (k := 2) rfl ?_
          refine jk_iload C rd_KR_runScript_116 (k := 1) rfl ?_
          refine jk_iload C rd_KR_runScript_118 (k := 0) rfl ?_
          obtain ⟨q120, hq120, hf⟩ := jk_bind_h hf
          refine jk_callVi C hZ.1 hz (ct_KR_perform l D Z sq hZ cI cR a_t a_t_input a_t_output a_t_topics a_t_cords a_t_draftTopics a_t_draft a_t_saved a_t_history a_t_script a_t_cords_starts a_t_cords_depth a_t_cords_topic a_t_cords_value a_t_cords_nibbled a_t_cords_starts_k a_t_cords_depth_k a_t_cords_topic_k a_t_cords_value_k a_t_cords_nibbled_k i_t_hasSaved t_reportedCode t_reportedOffset t_cords_clusters t_cords_size t_cords_starts t_cords_depth t_cords_topic t_cords_value t_cords_nibbled q56 q68 q80 q93 q120 hq120) tm_634 tm_636 sl_13 tm_1 tm_637 na_KR_perform ⟨Nat.le_of_ble_eq_true rfl, Nat.le_of_ble_eq_true rfl⟩ rfl [0, 7, 8, 9, 10, 11, 12, 13, 14, 15, 16, 17] rfl rfl rfl (ws' := wd_KR_runScript cI cR g_t_history_ring a_t a_t_input a_t_output a_t_topics a_t_cords a_t_draftTopics a_t_draft a_t_saved a_t_history a_t_script a_t_input_bytes a_t_input_bytes_k a_t_topics_names a_t_topics_names_k a_t_cords_starts a_t_cords_depth a_t_cords_topic a_t_cords_value a_t_cords_nibbled a_t_cords_starts_k a_t_cords_depth_k a_t_cords_topic_k a_t_cords_value_k a_t_cords_nibbled_k a_t_history_ring a_t_history_slot a_t_history_slot_starts a_t_history_slot_depth a_t_history_slot_topic a_t_history_slot_value a_t_history_slot_nibbled a_t_history_slot_starts_k a_t_history_slot_depth_k a_t_history_slot_topic_k a_t_history_slot_value_k a_t_history_slot_nibbled_k a_t_script_kinds a_t_script_firsts a_t_script_seconds a_t_script_thirds a_t_script_kinds_k a_t_script_firsts_k a_t_script_seconds_k a_t_script_thirds_k i_t_hasSaved t_reportedCode t_reportedOffset t_input_length t_input_kind t_input_start t_input_end t_input_code t_input_offset i_t_input_bytes i_t_topics_size i_t_topics_names q120.2.1 q120.2.2.1 q120.2.2.2.1 q120.2.2.2.2.1 q120.2.2.2.2.2.1 q120.2.2.2.2.2.2.1 q120.2.2.2.2.2.2.2 t_history_latest t_history_size t_history_slot_clusters t_history_slot_size t_history_slot_starts t_history_slot_depth t_history_slot_topic t_history_slot_value t_history_slot_nibbled t_script_size t_script_kinds t_script_firsts t_script_seconds t_script_thirds) rfl 0 10 rfl rfl rfl (st := []) rfl (Nat.le_of_ble_eq_true rfl) rd_KR_runScript_120 ?_ ⟨Nat.le_of_ble_eq_true rfl, Nat.le_of_ble_eq_true rfl⟩
          refine jk_pop C rd_KR_runScript_123 rfl ?_
          refine jk_iinc C rd_KR_runScript_124 (k := 5) rfl (by decide) (lv' := [(1, jk_V (v1 + 1)), (5, jk_V q93), (4, jk_V q80), (3, jk_V q68), (2, jk_V q56), (0, .ref a_t)]) rfl ?_
          refine jk_goto (tgt := 37) C rd_KR_runScript_127 (by decide) ?_
          refine jk_lv (lv' := [(0, .ref a_t), (1, jk_V (v1 + 1))]) [5, 0] rfl ?_
          exact ih t_input_length t_input_kind t_input_start t_input_end t_input_code t_input_offset q120.2.1 q120.2.2.1 q120.2.2.2.1 q120.2.2.2.2.1 q120.2.2.2.2.2.1 q120.2.2.2.2.2.2.1 q120.2.2.2.2.2.2.2 t_history_latest t_history_size t_history_slot_clusters t_history_slot_size t_history_slot_starts t_history_slot_depth t_history_slot_topic t_history_slot_value t_history_slot_nibbled t_script_size t_script_kinds t_script_firsts t_script_seconds t_script_thirds t_reportedCode t_reportedOffset (v1 + 1) hf
        · refine jk_iload_n C rd_KR_runScript_111 (k := 5) rfl ?_
          cases hf
          exact jk_iret C rfl rd_KR_runScript_112 rfl
  refine jk_aload_n C rd_KR_runScript_0 (k := 0) rfl ?_
  refine jk_get C in_KR (ci := 10) rfl 8 (by decide) tm_432 0 rfl rfl rd_KR_runScript_1 ?_
  refine jk_aload_n C rd_KR_runScript_4 (k := 0) rfl ?_
  refine jk_get C in_KR (ci := 10) rfl 0 (by decide) tm_424 0 rfl rfl rd_KR_runScript_5 ?_
  refine jk_aload_n C rd_KR_runScript_8 (k := 0) rfl ?_
  refine jk_get C in_KR (ci := 10) rfl 2 (by decide) tm_426 0 rfl rfl rd_KR_runScript_9 ?_
  obtain ⟨q12, hq12, hf⟩ := jk_bind_h hf
  refine jk_callVv C hZ.1 hz (ct_Script_parse l D Z sq hZ cI cR a_t_script a_t_script_kinds a_t_script_firsts a_t_script_seconds a_t_script_thirds a_t_script_kinds_k a_t_script_firsts_k a_t_script_seconds_k a_t_script_thirds_k a_t_input a_t_input_bytes a_t_input_bytes_k a_t_topics a_t_topics_names a_t_topics_names_k i_t_script_size i_t_script_kinds i_t_script_firsts i_t_script_seconds i_t_script_thirds i_t_input_length i_t_input_kind i_t_input_start i_t_input_end i_t_input_code i_t_input_offset i_t_input_bytes i_t_topics_size i_t_topics_names q12 hq12) tm_503 tm_504 tm_505 tm_8 tm_506 na_Script_parse ⟨Nat.le_of_ble_eq_true rfl, Nat.le_of_ble_eq_true rfl⟩ rfl [31, 32, 33, 34, 35, 36, 37, 38, 39, 1, 2, 3, 4, 5, 6] rfl rfl rfl (ws' := wd_KR_runScript cI cR g_t_history_ring a_t a_t_input a_t_output a_t_topics a_t_cords a_t_draftTopics a_t_draft a_t_saved a_t_history a_t_script a_t_input_bytes a_t_input_bytes_k a_t_topics_names a_t_topics_names_k a_t_cords_starts a_t_cords_depth a_t_cords_topic a_t_cords_value a_t_cords_nibbled a_t_cords_starts_k a_t_cords_depth_k a_t_cords_topic_k a_t_cords_value_k a_t_cords_nibbled_k a_t_history_ring a_t_history_slot a_t_history_slot_starts a_t_history_slot_depth a_t_history_slot_topic a_t_history_slot_value a_t_history_slot_nibbled a_t_history_slot_starts_k a_t_history_slot_depth_k a_t_history_slot_topic_k a_t_history_slot_value_k a_t_history_slot_nibbled_k a_t_script_kinds a_t_script_firsts a_t_script_seconds a_t_script_thirds a_t_script_kinds_k a_t_script_firsts_k a_t_script_seconds_k a_t_script_thirds_k i_t_hasSaved i_t_reportedCode i_t_reportedOffset i_t_input_length q12.2.2.2.2.2.1 q12.2.2.2.2.2.2.1 q12.2.2.2.2.2.2.2.1 q12.2.2.2.2.2.2.2.2.1 q12.2.2.2.2.2.2.2.2.2 i_t_input_bytes i_t_topics_size i_t_topics_names i_t_cords_clusters i_t_cords_size i_t_cords_starts i_t_cords_depth i_t_cords_topic i_t_cords_value i_t_cords_nibbled i_t_history_latest i_t_history_size i_t_history_slot_clusters i_t_history_slot_size i_t_history_slot_starts i_t_history_slot_depth i_t_history_slot_topic i_t_history_slot_value i_t_history_slot_nibbled q12.1 q12.2.1 q12.2.2.1 q12.2.2.2.1 q12.2.2.2.2.1) rfl 31 7 rfl rfl rfl (st := []) rfl (Nat.le_of_ble_eq_true rfl) rd_KR_runScript_12 ?_ ⟨Nat.le_of_ble_eq_true rfl, Nat.le_of_ble_eq_true rfl⟩
  refine jk_aload_n C rd_KR_runScript_15 (k := 0) rfl ?_
  obtain ⟨q16, hq16, hf⟩ := jk_bind_h hf
  refine jk_callVi C hZ.1 hz (ct_KR_closeText l D Z sq hZ cI cR a_t a_t_input a_t_output a_t_topics a_t_cords a_t_draftTopics a_t_draft a_t_saved a_t_history a_t_script a_t_input_bytes i_t_hasSaved i_t_reportedCode i_t_reportedOffset i_t_input_length q12.2.2.2.2.2.1 q12.2.2.2.2.2.2.1 q12.2.2.2.2.2.2.2.1 q12.2.2.2.2.2.2.2.2.1 q12.2.2.2.2.2.2.2.2.2 q16 hq16) tm_478 tm_480 sl_4 tm_1 tm_481 na_KR_closeText ⟨Nat.le_of_ble_eq_true rfl, Nat.le_of_ble_eq_true rfl⟩ rfl [0, 1] rfl rfl rfl (ws' := wd_KR_runScript cI cR g_t_history_ring a_t a_t_input a_t_output a_t_topics a_t_cords a_t_draftTopics a_t_draft a_t_saved a_t_history a_t_script a_t_input_bytes a_t_input_bytes_k a_t_topics_names a_t_topics_names_k a_t_cords_starts a_t_cords_depth a_t_cords_topic a_t_cords_value a_t_cords_nibbled a_t_cords_starts_k a_t_cords_depth_k a_t_cords_topic_k a_t_cords_value_k a_t_cords_nibbled_k a_t_history_ring a_t_history_slot a_t_history_slot_starts a_t_history_slot_depth a_t_history_slot_topic a_t_history_slot_value a_t_history_slot_nibbled a_t_history_slot_starts_k a_t_history_slot_depth_k a_t_history_slot_topic_k a_t_history_slot_value_k a_t_history_slot_nibbled_k a_t_script_kinds a_t_script_firsts a_t_script_seconds a_t_script_thirds a_t_script_kinds_k a_t_script_firsts_k a_t_script_seconds_k a_t_script_thirds_k i_t_hasSaved q16.2.2.1 q16.2.2.2 q16.2.1 q12.2.2.2.2.2.1 q12.2.2.2.2.2.2.1 q12.2.2.2.2.2.2.2.1 q12.2.2.2.2.2.2.2.2.1 q12.2.2.2.2.2.2.2.2.2 i_t_input_bytes i_t_topics_size i_t_topics_names i_t_cords_clusters i_t_cords_size i_t_cords_starts i_t_cords_depth i_t_cords_topic i_t_cords_value i_t_cords_nibbled i_t_history_latest i_t_history_size i_t_history_slot_clusters i_t_history_slot_size i_t_history_slot_starts i_t_history_slot_depth i_t_history_slot_topic i_t_history_slot_value i_t_history_slot_nibbled q12.1 q12.2.1 q12.2.2.1 q12.2.2.2.1 q12.2.2.2.2.1) rfl 0 10 rfl rfl rfl (st := []) rfl (Nat.le_of_ble_eq_true rfl) rd_KR_runScript_16 ?_ ⟨Nat.le_of_ble_eq_true rfl, Nat.le_of_ble_eq_true rfl⟩
  refine jk_if_ne (tgt := 24) C rd_KR_runScript_19 (by decide) hf (fun _ hf => ?_) (fun _ hf => ?_)
  · refine jk_aload_n C rd_KR_runScript_24 (k := 0) rfl ?_
    refine jk_get C in_KR (ci := 10) rfl 7 (by decide) tm_431 0 rfl rfl rd_KR_runScript_25 ?_
    refine jk_aload_n C rd_KR_runScript_28 (k := 0) rfl ?_
    refine jk_get C in_KR (ci := 10) rfl 3 (by decide) tm_427 0 rfl rfl rd_KR_runScript_29 ?_
    obtain ⟨q32, hq32, hf⟩ := jk_bind_h hf
    refine jk_callVv C hZ.1 hz (ct_History_push l D Z sq hZ cI cR g_t_history_ring a_t_history a_t_history_ring a_t_history_slot a_t_history_slot_starts a_t_history_slot_depth a_t_history_slot_topic a_t_history_slot_value a_t_history_slot_nibbled a_t_history_slot_starts_k a_t_history_slot_depth_k a_t_history_slot_topic_k a_t_history_slot_value_k a_t_history_slot_nibbled_k a_t_cords a_t_cords_starts a_t_cords_depth a_t_cords_topic a_t_cords_value a_t_cords_nibbled a_t_cords_starts_k a_t_cords_depth_k a_t_cords_topic_k a_t_cords_value_k a_t_cords_nibbled_k i_t_history_latest i_t_history_size i_t_history_slot_clusters i_t_history_slot_size i_t_history_slot_starts i_t_history_slot_depth i_t_history_slot_topic i_t_history_slot_value i_t_history_slot_nibbled i_t_cords_clusters i_t_cords_size i_t_cords_starts i_t_cords_depth i_t_cords_topic i_t_cords_value i_t_cords_nibbled hg q32 hq32) tm_540 tm_541 tm_542 tm_7 tm_543 na_History_push ⟨Nat.le_of_ble_eq_true rfl, Nat.le_of_ble_eq_true rfl⟩ rfl [18, 19, 20, 21, 22, 23, 24, 25, 26, 27, 28, 29, 30, 7, 8, 9, 10, 11, 12, 13, 14, 15, 16, 17] rfl rfl rfl (ws' := wd_KR_runScript cI cR g_t_history_ring a_t a_t_input a_t_output a_t_topics a_t_cords a_t_draftTopics a_t_draft a_t_saved a_t_history a_t_script a_t_input_bytes a_t_input_bytes_k a_t_topics_names a_t_topics_names_k a_t_cords_starts a_t_cords_depth a_t_cords_topic a_t_cords_value a_t_cords_nibbled a_t_cords_starts_k a_t_cords_depth_k a_t_cords_topic_k a_t_cords_value_k a_t_cords_nibbled_k a_t_history_ring a_t_history_slot a_t_history_slot_starts a_t_history_slot_depth a_t_history_slot_topic a_t_history_slot_value a_t_history_slot_nibbled a_t_history_slot_starts_k a_t_history_slot_depth_k a_t_history_slot_topic_k a_t_history_slot_value_k a_t_history_slot_nibbled_k a_t_script_kinds a_t_script_firsts a_t_script_seconds a_t_script_thirds a_t_script_kinds_k a_t_script_firsts_k a_t_script_seconds_k a_t_script_thirds_k i_t_hasSaved q16.2.2.1 q16.2.2.2 q16.2.1 q12.2.2.2.2.2.1 q12.2.2.2.2.2.2.1 q12.2.2.2.2.2.2.2.1 q12.2.2.2.2.2.2.2.2.1 q12.2.2.2.2.2.2.2.2.2 i_t_input_bytes i_t_topics_size i_t_topics_names i_t_cords_clusters i_t_cords_size i_t_cords_starts i_t_cords_depth i_t_cords_topic i_t_cords_value i_t_cords_nibbled q32.1 q32.2.1 q32.2.2.1 q32.2.2.2.1 q32.2.2.2.2.1 q32.2.2.2.2.2.1 q32.2.2.2.2.2.2.1 q32.2.2.2.2.2.2.2.1 q32.2.2.2.2.2.2.2.2 q12.1 q12.2.1 q12.2.2.1 q12.2.2.2.1 q12.2.2.2.2.1) rfl 18 6 rfl rfl rfl (st := []) rfl (Nat.le_of_ble_eq_true rfl) rd_KR_runScript_32 ?_ ⟨Nat.le_of_ble_eq_true rfl, Nat.le_of_ble_eq_true rfl⟩
    refine jk_iconst C rd_KR_runScript_35 ?_
    refine jk_istore_n C rd_KR_runScript_36 (by decide) (lv' := [(1, jk_V 0), (0, .ref a_t)]) rfl ?_
    refine jk_lv (lv' := [(0, .ref a_t), (1, jk_V 0)]) [1, 0] rfl ?_
    exact bk_37 jk_F q16.2.1 q12.2.2.2.2.2.1 q12.2.2.2.2.2.2.1 q12.2.2.2.2.2.2.2.1 q12.2.2.2.2.2.2.2.2.1 q12.2.2.2.2.2.2.2.2.2 i_t_cords_clusters i_t_cords_size i_t_cords_starts i_t_cords_depth i_t_cords_topic i_t_cords_value i_t_cords_nibbled q32.1 q32.2.1 q32.2.2.1 q32.2.2.2.1 q32.2.2.2.2.1 q32.2.2.2.2.2.1 q32.2.2.2.2.2.2.1 q32.2.2.2.2.2.2.2.1 q32.2.2.2.2.2.2.2.2 q12.1 q12.2.1 q12.2.2.1 q12.2.2.2.1 q12.2.2.2.2.1 q16.2.2.1 q16.2.2.2 0 hf
  · refine jk_iconst C rd_KR_runScript_22 ?_
    cases hf
    exact jk_iret C rfl rd_KR_runScript_23 rfl
def wd_KR_errorCode (cI : ClassId) (a_t a_t_input a_t_output a_t_topics a_t_cords a_t_draftTopics a_t_draft a_t_saved a_t_history a_t_script : Nat) (i_t_hasSaved : Int) (i_t_reportedCode : Int) (i_t_reportedOffset : Int) : va_W := [(a_t, .inr (10, [.ref a_t_input, .ref a_t_output, .ref a_t_topics, .ref a_t_cords, .ref a_t_draftTopics, .ref a_t_draft, .ref a_t_saved, .ref a_t_history, .ref a_t_script, jk_V i_t_hasSaved, jk_V i_t_reportedCode, jk_V i_t_reportedOffset]))]
set_option maxHeartbeats 4000000 in
set_option maxRecDepth 20000 in
theorem ct_KR_errorCode (l : Launch) (D : va_G) (Z : (Nat → Prop) → State → Heap → Prop) (sq : Nat → Nat) (hZ : jk_ZK Z sq) (cI cR : ClassId) (a_t a_t_input a_t_output a_t_topics a_t_cords a_t_draftTopics a_t_draft a_t_saved a_t_history a_t_script : Nat) (i_t_hasSaved : Int) (i_t_reportedCode : Int) (i_t_reportedOffset : Int) (q : Int) (hf : fn_KR_errorCode i_t_reportedCode = some q) : jk_MI l D jk_cl (jk_ty cI cR) Z mn_KR_errorCode (.code mn_KR_errorCode mb_KR_errorCode 1 (some .int) :: jk_WA) (jk_rm 0 0) [.ref a_t] (wd_KR_errorCode cI a_t a_t_input a_t_output a_t_topics a_t_cords a_t_draftTopics a_t_draft a_t_saved a_t_history a_t_script i_t_hasSaved i_t_reportedCode i_t_reportedOffset) (wd_KR_errorCode cI a_t a_t_input a_t_output a_t_topics a_t_cords a_t_draftTopics a_t_draft a_t_saved a_t_history a_t_script i_t_hasSaved i_t_reportedCode i_t_reportedOffset) q := by
  intro sz
  refine jk_body (by decide +kernel) (fun p e s m args below meth c hsz hz hin C => ?_) (Nat.le_of_ble_eq_true rfl)
  subst hsz
  unfold fn_KR_errorCode at hf
  refine jk_aload_n C rd_KR_errorCode_0 (k := 0) rfl ?_
  refine jk_get C in_KR (ci := 10) rfl 10 (by decide) tm_434 0 rfl rfl rd_KR_errorCode_1 ?_
  cases hf
  exact jk_iret C rfl rd_KR_errorCode_4 rfl
def wd_KR_errorOffset (cI : ClassId) (a_t a_t_input a_t_output a_t_topics a_t_cords a_t_draftTopics a_t_draft a_t_saved a_t_history a_t_script : Nat) (i_t_hasSaved : Int) (i_t_reportedCode : Int) (i_t_reportedOffset : Int) : va_W := [(a_t, .inr (10, [.ref a_t_input, .ref a_t_output, .ref a_t_topics, .ref a_t_cords, .ref a_t_draftTopics, .ref a_t_draft, .ref a_t_saved, .ref a_t_history, .ref a_t_script, jk_V i_t_hasSaved, jk_V i_t_reportedCode, jk_V i_t_reportedOffset]))]
set_option maxHeartbeats 4000000 in
set_option maxRecDepth 20000 in
theorem ct_KR_errorOffset (l : Launch) (D : va_G) (Z : (Nat → Prop) → State → Heap → Prop) (sq : Nat → Nat) (hZ : jk_ZK Z sq) (cI cR : ClassId) (a_t a_t_input a_t_output a_t_topics a_t_cords a_t_draftTopics a_t_draft a_t_saved a_t_history a_t_script : Nat) (i_t_hasSaved : Int) (i_t_reportedCode : Int) (i_t_reportedOffset : Int) (q : Int) (hf : fn_KR_errorOffset i_t_reportedOffset = some q) : jk_MI l D jk_cl (jk_ty cI cR) Z mn_KR_errorOffset (.code mn_KR_errorOffset mb_KR_errorOffset 1 (some .int) :: jk_WA) (jk_rm 0 0) [.ref a_t] (wd_KR_errorOffset cI a_t a_t_input a_t_output a_t_topics a_t_cords a_t_draftTopics a_t_draft a_t_saved a_t_history a_t_script i_t_hasSaved i_t_reportedCode i_t_reportedOffset) (wd_KR_errorOffset cI a_t a_t_input a_t_output a_t_topics a_t_cords a_t_draftTopics a_t_draft a_t_saved a_t_history a_t_script i_t_hasSaved i_t_reportedCode i_t_reportedOffset) q := by
  intro sz
  refine jk_body (by decide +kernel) (fun p e s m args below meth c hsz hz hin C => ?_) (Nat.le_of_ble_eq_true rfl)
  subst hsz
  unfold fn_KR_errorOffset at hf
  refine jk_aload_n C rd_KR_errorOffset_0 (k := 0) rfl ?_
  refine jk_get C in_KR (ci := 10) rfl 11 (by decide) tm_435 0 rfl rfl rd_KR_errorOffset_1 ?_
  cases hf
  exact jk_iret C rfl rd_KR_errorOffset_4 rfl
def wd_KR_topicCount (cI : ClassId) (a_t a_t_input a_t_output a_t_topics a_t_cords a_t_draftTopics a_t_draft a_t_saved a_t_history a_t_script a_t_topics_names : Nat) (i_t_hasSaved : Int) (i_t_reportedCode : Int) (i_t_reportedOffset : Int) (i_t_topics_size : Int) : va_W := [(a_t, .inr (10, [.ref a_t_input, .ref a_t_output, .ref a_t_topics, .ref a_t_cords, .ref a_t_draftTopics, .ref a_t_draft, .ref a_t_saved, .ref a_t_history, .ref a_t_script, jk_V i_t_hasSaved, jk_V i_t_reportedCode, jk_V i_t_reportedOffset])), (a_t_topics, .inr (2, [jk_V i_t_topics_size, .ref a_t_topics_names]))]
set_option maxHeartbeats 4000000 in
set_option maxRecDepth 20000 in
theorem ct_KR_topicCount (l : Launch) (D : va_G) (Z : (Nat → Prop) → State → Heap → Prop) (sq : Nat → Nat) (hZ : jk_ZK Z sq) (cI cR : ClassId) (a_t a_t_input a_t_output a_t_topics a_t_cords a_t_draftTopics a_t_draft a_t_saved a_t_history a_t_script a_t_topics_names : Nat) (i_t_hasSaved : Int) (i_t_reportedCode : Int) (i_t_reportedOffset : Int) (i_t_topics_size : Int) (q : Int) (hf : fn_KR_topicCount i_t_topics_size = some q) : jk_MI l D jk_cl (jk_ty cI cR) Z mn_KR_topicCount (.code mn_KR_topicCount mb_KR_topicCount 1 (some .int) :: jk_WA) (jk_rm 0 0) [.ref a_t] (wd_KR_topicCount cI a_t a_t_input a_t_output a_t_topics a_t_cords a_t_draftTopics a_t_draft a_t_saved a_t_history a_t_script a_t_topics_names i_t_hasSaved i_t_reportedCode i_t_reportedOffset i_t_topics_size) (wd_KR_topicCount cI a_t a_t_input a_t_output a_t_topics a_t_cords a_t_draftTopics a_t_draft a_t_saved a_t_history a_t_script a_t_topics_names i_t_hasSaved i_t_reportedCode i_t_reportedOffset i_t_topics_size) q := by
  intro sz
  refine jk_body (by decide +kernel) (fun p e s m args below meth c hsz hz hin C => ?_) (Nat.le_of_ble_eq_true rfl)
  subst hsz
  unfold fn_KR_topicCount at hf
  refine jk_aload_n C rd_KR_topicCount_0 (k := 0) rfl ?_
  refine jk_get C in_KR (ci := 10) rfl 2 (by decide) tm_426 0 rfl rfl rd_KR_topicCount_1 ?_
  refine jk_getN C in_Topics (ci := 2) rfl 0 (by decide) (jk_nw hZ hz tn_9) 1 rfl rfl rd_KR_topicCount_4 ?_
  cases hf
  exact jk_iret C rfl rd_KR_topicCount_7 rfl
def wd_KR_clusterCount (cI : ClassId) (a_t a_t_input a_t_output a_t_topics a_t_cords a_t_draftTopics a_t_draft a_t_saved a_t_history a_t_script a_t_cords_starts a_t_cords_depth a_t_cords_topic a_t_cords_value a_t_cords_nibbled : Nat) (i_t_hasSaved : Int) (i_t_reportedCode : Int) (i_t_reportedOffset : Int) (i_t_cords_clusters : Int) (i_t_cords_size : Int) : va_W := [(a_t, .inr (10, [.ref a_t_input, .ref a_t_output, .ref a_t_topics, .ref a_t_cords, .ref a_t_draftTopics, .ref a_t_draft, .ref a_t_saved, .ref a_t_history, .ref a_t_script, jk_V i_t_hasSaved, jk_V i_t_reportedCode, jk_V i_t_reportedOffset])), (a_t_cords, .inr (5, [jk_V i_t_cords_clusters, jk_V i_t_cords_size, .ref a_t_cords_starts, .ref a_t_cords_depth, .ref a_t_cords_topic, .ref a_t_cords_value, .ref a_t_cords_nibbled]))]
set_option maxHeartbeats 4000000 in
set_option maxRecDepth 20000 in
theorem ct_KR_clusterCount (l : Launch) (D : va_G) (Z : (Nat → Prop) → State → Heap → Prop) (sq : Nat → Nat) (hZ : jk_ZK Z sq) (cI cR : ClassId) (a_t a_t_input a_t_output a_t_topics a_t_cords a_t_draftTopics a_t_draft a_t_saved a_t_history a_t_script a_t_cords_starts a_t_cords_depth a_t_cords_topic a_t_cords_value a_t_cords_nibbled : Nat) (i_t_hasSaved : Int) (i_t_reportedCode : Int) (i_t_reportedOffset : Int) (i_t_cords_clusters : Int) (i_t_cords_size : Int) (q : Int) (hf : fn_KR_clusterCount i_t_cords_clusters = some q) : jk_MI l D jk_cl (jk_ty cI cR) Z mn_KR_clusterCount (.code mn_KR_clusterCount mb_KR_clusterCount 1 (some .int) :: jk_WA) (jk_rm 0 0) [.ref a_t] (wd_KR_clusterCount cI a_t a_t_input a_t_output a_t_topics a_t_cords a_t_draftTopics a_t_draft a_t_saved a_t_history a_t_script a_t_cords_starts a_t_cords_depth a_t_cords_topic a_t_cords_value a_t_cords_nibbled i_t_hasSaved i_t_reportedCode i_t_reportedOffset i_t_cords_clusters i_t_cords_size) (wd_KR_clusterCount cI a_t a_t_input a_t_output a_t_topics a_t_cords a_t_draftTopics a_t_draft a_t_saved a_t_history a_t_script a_t_cords_starts a_t_cords_depth a_t_cords_topic a_t_cords_value a_t_cords_nibbled i_t_hasSaved i_t_reportedCode i_t_reportedOffset i_t_cords_clusters i_t_cords_size) q := by
  intro sz
  refine jk_body (by decide +kernel) (fun p e s m args below meth c hsz hz hin C => ?_) (Nat.le_of_ble_eq_true rfl)
  subst hsz
  unfold fn_KR_clusterCount at hf
  refine jk_aload_n C rd_KR_clusterCount_0 (k := 0) rfl ?_
  refine jk_get C in_KR (ci := 10) rfl 3 (by decide) tm_427 0 rfl rfl rd_KR_clusterCount_1 ?_
  refine jk_getN C in_Cords (ci := 5) rfl 0 (by decide) (jk_nw hZ hz tn_13) 1 rfl rfl rd_KR_clusterCount_4 ?_
  cases hf
  exact jk_iret C rfl rd_KR_clusterCount_7 rfl
def wd_KR_cordCount (cI : ClassId) (a_t a_t_input a_t_output a_t_topics a_t_cords a_t_draftTopics a_t_draft a_t_saved a_t_history a_t_script a_t_cords_starts a_t_cords_depth a_t_cords_topic a_t_cords_value a_t_cords_nibbled : Nat) (i_t_hasSaved : Int) (i_t_reportedCode : Int) (i_t_reportedOffset : Int) (i_t_cords_clusters : Int) (i_t_cords_size : Int) : va_W := [(a_t, .inr (10, [.ref a_t_input, .ref a_t_output, .ref a_t_topics, .ref a_t_cords, .ref a_t_draftTopics, .ref a_t_draft, .ref a_t_saved, .ref a_t_history, .ref a_t_script, jk_V i_t_hasSaved, jk_V i_t_reportedCode, jk_V i_t_reportedOffset])), (a_t_cords, .inr (5, [jk_V i_t_cords_clusters, jk_V i_t_cords_size, .ref a_t_cords_starts, .ref a_t_cords_depth, .ref a_t_cords_topic, .ref a_t_cords_value, .ref a_t_cords_nibbled]))]
set_option maxHeartbeats 4000000 in
set_option maxRecDepth 20000 in
theorem ct_KR_cordCount (l : Launch) (D : va_G) (Z : (Nat → Prop) → State → Heap → Prop) (sq : Nat → Nat) (hZ : jk_ZK Z sq) (cI cR : ClassId) (a_t a_t_input a_t_output a_t_topics a_t_cords a_t_draftTopics a_t_draft a_t_saved a_t_history a_t_script a_t_cords_starts a_t_cords_depth a_t_cords_topic a_t_cords_value a_t_cords_nibbled : Nat) (i_t_hasSaved : Int) (i_t_reportedCode : Int) (i_t_reportedOffset : Int) (i_t_cords_clusters : Int) (i_t_cords_size : Int) (q : Int) (hf : fn_KR_cordCount i_t_cords_size = some q) : jk_MI l D jk_cl (jk_ty cI cR) Z mn_KR_cordCount (.code mn_KR_cordCount mb_KR_cordCount 1 (some .int) :: jk_WA) (jk_rm 0 0) [.ref a_t] (wd_KR_cordCount cI a_t a_t_input a_t_output a_t_topics a_t_cords a_t_draftTopics a_t_draft a_t_saved a_t_history a_t_script a_t_cords_starts a_t_cords_depth a_t_cords_topic a_t_cords_value a_t_cords_nibbled i_t_hasSaved i_t_reportedCode i_t_reportedOffset i_t_cords_clusters i_t_cords_size) (wd_KR_cordCount cI a_t a_t_input a_t_output a_t_topics a_t_cords a_t_draftTopics a_t_draft a_t_saved a_t_history a_t_script a_t_cords_starts a_t_cords_depth a_t_cords_topic a_t_cords_value a_t_cords_nibbled i_t_hasSaved i_t_reportedCode i_t_reportedOffset i_t_cords_clusters i_t_cords_size) q := by
  intro sz
  refine jk_body (by decide +kernel) (fun p e s m args below meth c hsz hz hin C => ?_) (Nat.le_of_ble_eq_true rfl)
  subst hsz
  unfold fn_KR_cordCount at hf
  refine jk_aload_n C rd_KR_cordCount_0 (k := 0) rfl ?_
  refine jk_get C in_KR (ci := 10) rfl 3 (by decide) tm_427 0 rfl rfl rd_KR_cordCount_1 ?_
  refine jk_getN C in_Cords (ci := 5) rfl 1 (by decide) (jk_nw hZ hz tn_15) 1 rfl rfl rd_KR_cordCount_4 ?_
  cases hf
  exact jk_iret C rfl rd_KR_cordCount_7 rfl
def wd_KR_knotCount (cI : ClassId) (a_t a_t_input a_t_output a_t_topics a_t_cords a_t_draftTopics a_t_draft a_t_saved a_t_history a_t_script a_t_cords_starts a_t_cords_depth a_t_cords_topic a_t_cords_value a_t_cords_nibbled a_t_cords_value_k : Nat) (i_t_hasSaved : Int) (i_t_reportedCode : Int) (i_t_reportedOffset : Int) (i_t_cords_clusters : Int) (i_t_cords_size : Int) (i_t_cords_value : (Int → Int)) : va_W := [(a_t, .inr (10, [.ref a_t_input, .ref a_t_output, .ref a_t_topics, .ref a_t_cords, .ref a_t_draftTopics, .ref a_t_draft, .ref a_t_saved, .ref a_t_history, .ref a_t_script, jk_V i_t_hasSaved, jk_V i_t_reportedCode, jk_V i_t_reportedOffset])), (a_t_cords, .inr (5, [jk_V i_t_cords_clusters, jk_V i_t_cords_size, .ref a_t_cords_starts, .ref a_t_cords_depth, .ref a_t_cords_topic, .ref a_t_cords_value, .ref a_t_cords_nibbled])), (a_t_cords_value, .inr (0, [.ref a_t_cords_value_k])), (a_t_cords_value_k, jk_W cI 40 i_t_cords_value)]
set_option maxHeartbeats 4000000 in
set_option maxRecDepth 20000 in
theorem ct_KR_knotCount (l : Launch) (D : va_G) (Z : (Nat → Prop) → State → Heap → Prop) (sq : Nat → Nat) (hZ : jk_ZK Z sq) (cI cR : ClassId) (a_t a_t_input a_t_output a_t_topics a_t_cords a_t_draftTopics a_t_draft a_t_saved a_t_history a_t_script a_t_cords_starts a_t_cords_depth a_t_cords_topic a_t_cords_value a_t_cords_nibbled a_t_cords_value_k : Nat) (i_t_hasSaved : Int) (i_t_reportedCode : Int) (i_t_reportedOffset : Int) (i_t_cords_clusters : Int) (i_t_cords_size : Int) (i_t_cords_value : (Int → Int)) (q : Int) (hf : fn_KR_knotCount i_t_cords_size i_t_cords_value = some q) : jk_MI l D jk_cl (jk_ty cI cR) Z mn_KR_knotCount (.code mn_KR_knotCount mb_KR_knotCount 3 (some .int) :: jk_WA) (jk_rm 3 66) [.ref a_t] (wd_KR_knotCount cI a_t a_t_input a_t_output a_t_topics a_t_cords a_t_draftTopics a_t_draft a_t_saved a_t_history a_t_script a_t_cords_starts a_t_cords_depth a_t_cords_topic a_t_cords_value a_t_cords_nibbled a_t_cords_value_k i_t_hasSaved i_t_reportedCode i_t_reportedOffset i_t_cords_clusters i_t_cords_size i_t_cords_value) (wd_KR_knotCount cI a_t a_t_input a_t_output a_t_topics a_t_cords a_t_draftTopics a_t_draft a_t_saved a_t_history a_t_script a_t_cords_starts a_t_cords_depth a_t_cords_topic a_t_cords_value a_t_cords_nibbled a_t_cords_value_k i_t_hasSaved i_t_reportedCode i_t_reportedOffset i_t_cords_clusters i_t_cords_size i_t_cords_value) q := by
  intro sz
  refine jk_body (by decide +kernel) (fun p e s m args below meth c hsz hz hin C => ?_) (Nat.le_of_ble_eq_true rfl)
  subst hsz
  unfold fn_KR_knotCount at hf
  have bk_4 : ∀ (n : Nat) (v1 : Int) (v2 : Int), fn_KR_knotCount_b4 n i_t_cords_size i_t_cords_value v1 v2 = some q → jk_J p l e (jk_rm 3 66) s m args below meth c 0 0 (jk_QI below D jk_cl (jk_ty cI cR) (wd_KR_knotCount cI a_t a_t_input a_t_output a_t_topics a_t_cords a_t_draftTopics a_t_draft a_t_saved a_t_history a_t_script a_t_cords_starts a_t_cords_depth a_t_cords_topic a_t_cords_value a_t_cords_nibbled a_t_cords_value_k i_t_hasSaved i_t_reportedCode i_t_reportedOffset i_t_cords_clusters i_t_cords_size i_t_cords_value) (wd_KR_knotCount cI a_t a_t_input a_t_output a_t_topics a_t_cords a_t_draftTopics a_t_draft a_t_saved a_t_history a_t_script a_t_cords_starts a_t_cords_depth a_t_cords_topic a_t_cords_value a_t_cords_nibbled a_t_cords_value_k i_t_hasSaved i_t_reportedCode i_t_reportedOffset i_t_cords_clusters i_t_cords_size i_t_cords_value) args s q) D jk_cl (va_A (wd_KR_knotCount cI a_t a_t_input a_t_output a_t_topics a_t_cords a_t_draftTopics a_t_draft a_t_saved a_t_history a_t_script a_t_cords_starts a_t_cords_depth a_t_cords_topic a_t_cords_value a_t_cords_nibbled a_t_cords_value_k i_t_hasSaved i_t_reportedCode i_t_reportedOffset i_t_cords_clusters i_t_cords_size i_t_cords_value) s.heap.size) 3 (wd_KR_knotCount cI a_t a_t_input a_t_output a_t_topics a_t_cords a_t_draftTopics a_t_draft a_t_saved a_t_history a_t_script a_t_cords_starts a_t_cords_depth a_t_cords_topic a_t_cords_value a_t_cords_nibbled a_t_cords_value_k i_t_hasSaved i_t_reportedCode i_t_reportedOffset i_t_cords_clusters i_t_cords_size i_t_cords_value) [(0, .ref a_t), (1, jk_V v1), (2, jk_V v2)] 4 [] := by
    intro n
    induction n with
    | zero => intro v1 v2 hf; exact nomatch (show none = some q from hf)
    | succ n ih =>
      intro v1 v2 hf
      rw [fn_KR_knotCount_b4] at hf
      refine jk_iload_n C rd_KR_knotCount_4 (k := 2) rfl ?_
      refine jk_aload_n C rd_KR_knotCount_5 (k := 0) rfl ?_
      refine jk_get C in_KR (ci := 10) rfl 3 (by decide) tm_427 0 rfl rfl rd_KR_knotCount_6 ?_
      refine jk_getN C in_Cords (ci := 5) rfl 1 (by decide) (jk_nw hZ hz tn_15) 1 rfl rfl rd_KR_knotCount_9 ?_
      refine jk_icmp_ge (tgt := 38) C rd_KR_knotCount_12 (by decide) hf (fun _ hf => ?_) (fun _ hf => ?_)
      · refine jk_iload_n C rd_KR_knotCount_38 (k := 1) rfl ?_
        cases hf
        exact jk_iret C rfl rd_KR_knotCount_39 rfl
      · refine jk_iload_n C rd_KR_knotCount_15 (k := 1) rfl ?_
        refine jk_aload_n C rd_KR_knotCount_16 (k := 0) rfl ?_
        refine jk_get C in_KR (ci := 10) rfl 3 (by decide) tm_427 0 rfl rfl rd_KR_knotCount_17 ?_
        refine jk_getN C in_Cords (ci := 5) rfl 5 (by decide) (jk_nw hZ hz tn_21) 1 rfl rfl rd_KR_knotCount_20 ?_
        refine jk_iload_n C rd_KR_knotCount_23 (k := 2) rfl ?_
        obtain ⟨q24, hq24, hf⟩ := jk_bind_h hf
        refine jk_callVi C hZ.1 hz (ct_Row_get l D Z sq hZ cI cR (n_t := 40) (Nat.le_of_ble_eq_true rfl) a_t_cords_value a_t_cords_value_k i_t_cords_value v2 q24 hq24) tm_549 tm_292 tm_293 tm_3 tm_294 na_Row_get ⟨Nat.le_of_ble_eq_true rfl, Nat.le_of_ble_eq_true rfl⟩ rfl [2, 3] rfl rfl rfl (ws' := wd_KR_knotCount cI a_t a_t_input a_t_output a_t_topics a_t_cords a_t_draftTopics a_t_draft a_t_saved a_t_history a_t_script a_t_cords_starts a_t_cords_depth a_t_cords_topic a_t_cords_value a_t_cords_nibbled a_t_cords_value_k i_t_hasSaved i_t_reportedCode i_t_reportedOffset i_t_cords_clusters i_t_cords_size i_t_cords_value) rfl 2 0 rfl rfl rfl (st := [jk_V v1]) rfl (Nat.le_of_ble_eq_true rfl) rd_KR_knotCount_24 ?_ ⟨Nat.le_of_ble_eq_true rfl, Nat.le_of_ble_eq_true rfl⟩
        obtain ⟨q27, hq27, hf⟩ := jk_bind_h hf
        refine jk_callSi C hZ.1 hz (ct_Knots_sum l D Z sq hZ cI cR q24 q27 hq27) tm_699 tm_406 tm_14 tm_407 na_Knots_sum ⟨Nat.le_of_ble_eq_true rfl, Nat.le_of_ble_eq_true rfl⟩ rfl [] rfl rfl rfl (ws' := wd_KR_knotCount cI a_t a_t_input a_t_output a_t_topics a_t_cords a_t_draftTopics a_t_draft a_t_saved a_t_history a_t_script a_t_cords_starts a_t_cords_depth a_t_cords_topic a_t_cords_value a_t_cords_nibbled a_t_cords_value_k i_t_hasSaved i_t_reportedCode i_t_reportedOffset i_t_cords_clusters i_t_cords_size i_t_cords_value) rfl (st := [jk_V v1]) rfl (Nat.le_of_ble_eq_true rfl) rd_KR_knotCount_27 ?_ ⟨Nat.le_of_ble_eq_true rfl, Nat.le_of_ble_eq_true rfl⟩
        refine jk_iadd C rd_KR_knotCount_30 ?_
        refine jk_istore_n C rd_KR_knotCount_31 (by decide) (lv' := [(1, jk_V (v1 + q27)), (0, .ref a_t), (2, jk_V v2)]) rfl ?_
        refine jk_iinc C rd_KR_knotCount_32 (k := 2) rfl (by decide) (lv' := [(2, jk_V (v2 + 1)), (1, jk_V (v1 + q27)), (0, .ref a_t)]) rfl ?_
        refine jk_goto (tgt := 4) C rd_KR_knotCount_35 (by decide) ?_
        refine jk_lv (lv' := [(0, .ref a_t), (1, jk_V (v1 + q27)), (2, jk_V (v2 + 1))]) [2, 1, 0] rfl ?_
        exact ih (v1 + q27) (v2 + 1) hf
  refine jk_iconst C rd_KR_knotCount_0 ?_
  refine jk_istore_n C rd_KR_knotCount_1 (by decide) (lv' := [(1, jk_V 0), (0, .ref a_t)]) rfl ?_
  refine jk_iconst C rd_KR_knotCount_2 ?_
  refine jk_istore_n C rd_KR_knotCount_3 (by decide) (lv' := [(2, jk_V 0), (1, jk_V 0), (0, .ref a_t)]) rfl ?_
  refine jk_lv (lv' := [(0, .ref a_t), (1, jk_V 0), (2, jk_V 0)]) [2, 1, 0] rfl ?_
  exact bk_4 jk_F 0 0 hf
def wd_KR_nibbledCount (cI : ClassId) (a_t a_t_input a_t_output a_t_topics a_t_cords a_t_draftTopics a_t_draft a_t_saved a_t_history a_t_script a_t_cords_starts a_t_cords_depth a_t_cords_topic a_t_cords_value a_t_cords_nibbled a_t_cords_nibbled_k : Nat) (i_t_hasSaved : Int) (i_t_reportedCode : Int) (i_t_reportedOffset : Int) (i_t_cords_clusters : Int) (i_t_cords_size : Int) (i_t_cords_nibbled : (Int → Int)) : va_W := [(a_t, .inr (10, [.ref a_t_input, .ref a_t_output, .ref a_t_topics, .ref a_t_cords, .ref a_t_draftTopics, .ref a_t_draft, .ref a_t_saved, .ref a_t_history, .ref a_t_script, jk_V i_t_hasSaved, jk_V i_t_reportedCode, jk_V i_t_reportedOffset])), (a_t_cords, .inr (5, [jk_V i_t_cords_clusters, jk_V i_t_cords_size, .ref a_t_cords_starts, .ref a_t_cords_depth, .ref a_t_cords_topic, .ref a_t_cords_value, .ref a_t_cords_nibbled])), (a_t_cords_nibbled, .inr (0, [.ref a_t_cords_nibbled_k])), (a_t_cords_nibbled_k, jk_W cI 40 i_t_cords_nibbled)]
set_option maxHeartbeats 4000000 in
set_option maxRecDepth 20000 in
theorem ct_KR_nibbledCount (l : Launch) (D : va_G) (Z : (Nat → Prop) → State → Heap → Prop) (sq : Nat → Nat) (hZ : jk_ZK Z sq) (cI cR : ClassId) (a_t a_t_input a_t_output a_t_topics a_t_cords a_t_draftTopics a_t_draft a_t_saved a_t_history a_t_script a_t_cords_starts a_t_cords_depth a_t_cords_topic a_t_cords_value a_t_cords_nibbled a_t_cords_nibbled_k : Nat) (i_t_hasSaved : Int) (i_t_reportedCode : Int) (i_t_reportedOffset : Int) (i_t_cords_clusters : Int) (i_t_cords_size : Int) (i_t_cords_nibbled : (Int → Int)) (q : Int) (hf : fn_KR_nibbledCount i_t_cords_size i_t_cords_nibbled = some q) : jk_MI l D jk_cl (jk_ty cI cR) Z mn_KR_nibbledCount (.code mn_KR_nibbledCount mb_KR_nibbledCount 1 (some .int) :: jk_WA) (jk_rm 2 45) [.ref a_t] (wd_KR_nibbledCount cI a_t a_t_input a_t_output a_t_topics a_t_cords a_t_draftTopics a_t_draft a_t_saved a_t_history a_t_script a_t_cords_starts a_t_cords_depth a_t_cords_topic a_t_cords_value a_t_cords_nibbled a_t_cords_nibbled_k i_t_hasSaved i_t_reportedCode i_t_reportedOffset i_t_cords_clusters i_t_cords_size i_t_cords_nibbled) (wd_KR_nibbledCount cI a_t a_t_input a_t_output a_t_topics a_t_cords a_t_draftTopics a_t_draft a_t_saved a_t_history a_t_script a_t_cords_starts a_t_cords_depth a_t_cords_topic a_t_cords_value a_t_cords_nibbled a_t_cords_nibbled_k i_t_hasSaved i_t_reportedCode i_t_reportedOffset i_t_cords_clusters i_t_cords_size i_t_cords_nibbled) q := by
  intro sz
  refine jk_body (by decide +kernel) (fun p e s m args below meth c hsz hz hin C => ?_) (Nat.le_of_ble_eq_true rfl)
  subst hsz
  unfold fn_KR_nibbledCount at hf
  refine jk_aload_n C rd_KR_nibbledCount_0 (k := 0) rfl ?_
  refine jk_get C in_KR (ci := 10) rfl 3 (by decide) tm_427 0 rfl rfl rd_KR_nibbledCount_1 ?_
  refine jk_iconst C rd_KR_nibbledCount_4 ?_
  refine jk_aload_n C rd_KR_nibbledCount_5 (k := 0) rfl ?_
  refine jk_get C in_KR (ci := 10) rfl 3 (by decide) tm_427 0 rfl rfl rd_KR_nibbledCount_6 ?_
  refine jk_getN C in_Cords (ci := 5) rfl 1 (by decide) (jk_nw hZ hz tn_15) 1 rfl rfl rd_KR_nibbledCount_9 ?_
  obtain ⟨q12, hq12, hf⟩ := jk_bind_h hf
  refine jk_callVi C hZ.1 hz (ct_Cords_nibbledAmong l D Z sq hZ cI cR a_t_cords a_t_cords_starts a_t_cords_depth a_t_cords_topic a_t_cords_value a_t_cords_nibbled a_t_cords_nibbled_k i_t_cords_clusters i_t_cords_size i_t_cords_nibbled 0 i_t_cords_size q12 hq12) tm_704 tm_593 tm_594 tm_6 tm_595 na_Cords_nibbledAmong ⟨Nat.le_of_ble_eq_true rfl, Nat.le_of_ble_eq_true rfl⟩ rfl [1, 2, 3] rfl rfl rfl (ws' := wd_KR_nibbledCount cI a_t a_t_input a_t_output a_t_topics a_t_cords a_t_draftTopics a_t_draft a_t_saved a_t_history a_t_script a_t_cords_starts a_t_cords_depth a_t_cords_topic a_t_cords_value a_t_cords_nibbled a_t_cords_nibbled_k i_t_hasSaved i_t_reportedCode i_t_reportedOffset i_t_cords_clusters i_t_cords_size i_t_cords_nibbled) rfl 1 5 rfl rfl rfl (st := []) rfl (Nat.le_of_ble_eq_true rfl) rd_KR_nibbledCount_12 ?_ ⟨Nat.le_of_ble_eq_true rfl, Nat.le_of_ble_eq_true rfl⟩
  cases hf
  exact jk_iret C rfl rd_KR_nibbledCount_15 rfl
def wd_KR_matchingCount (cI : ClassId) (a_t a_t_input a_t_output a_t_topics a_t_cords a_t_draftTopics a_t_draft a_t_saved a_t_history a_t_script a_t_cords_starts a_t_cords_depth a_t_cords_topic a_t_cords_value a_t_cords_nibbled a_t_cords_starts_k a_t_cords_depth_k a_t_cords_value_k a_t_cords_nibbled_k : Nat) (i_t_hasSaved : Int) (i_t_reportedCode : Int) (i_t_reportedOffset : Int) (i_t_cords_clusters : Int) (i_t_cords_size : Int) (i_t_cords_starts : (Int → Int)) (i_t_cords_depth : (Int → Int)) (i_t_cords_value : (Int → Int)) (i_t_cords_nibbled : (Int → Int)) : va_W := [(a_t, .inr (10, [.ref a_t_input, .ref a_t_output, .ref a_t_topics, .ref a_t_cords, .ref a_t_draftTopics, .ref a_t_draft, .ref a_t_saved, .ref a_t_history, .ref a_t_script, jk_V i_t_hasSaved, jk_V i_t_reportedCode, jk_V i_t_reportedOffset])), (a_t_cords, .inr (5, [jk_V i_t_cords_clusters, jk_V i_t_cords_size, .ref a_t_cords_starts, .ref a_t_cords_depth, .ref a_t_cords_topic, .ref a_t_cords_value, .ref a_t_cords_nibbled])), (a_t_cords_starts, .inr (0, [.ref a_t_cords_starts_k])), (a_t_cords_starts_k, jk_W cI 7 i_t_cords_starts), (a_t_cords_depth, .inr (0, [.ref a_t_cords_depth_k])), (a_t_cords_depth_k, jk_W cI 40 i_t_cords_depth), (a_t_cords_value, .inr (0, [.ref a_t_cords_value_k])), (a_t_cords_value_k, jk_W cI 40 i_t_cords_value), (a_t_cords_nibbled, .inr (0, [.ref a_t_cords_nibbled_k])), (a_t_cords_nibbled_k, jk_W cI 40 i_t_cords_nibbled)]
set_option maxHeartbeats 4000000 in
set_option maxRecDepth 20000 in
theorem ct_KR_matchingCount (l : Launch) (D : va_G) (Z : (Nat → Prop) → State → Heap → Prop) (sq : Nat → Nat) (hZ : jk_ZK Z sq) (cI cR : ClassId) (a_t a_t_input a_t_output a_t_topics a_t_cords a_t_draftTopics a_t_draft a_t_saved a_t_history a_t_script a_t_cords_starts a_t_cords_depth a_t_cords_topic a_t_cords_value a_t_cords_nibbled a_t_cords_starts_k a_t_cords_depth_k a_t_cords_value_k a_t_cords_nibbled_k : Nat) (i_t_hasSaved : Int) (i_t_reportedCode : Int) (i_t_reportedOffset : Int) (i_t_cords_clusters : Int) (i_t_cords_size : Int) (i_t_cords_starts : (Int → Int)) (i_t_cords_depth : (Int → Int)) (i_t_cords_value : (Int → Int)) (i_t_cords_nibbled : (Int → Int)) (q : Int) (hf : fn_KR_matchingCount i_t_cords_clusters i_t_cords_starts i_t_cords_depth i_t_cords_value i_t_cords_nibbled = some q) : jk_MI l D jk_cl (jk_ty cI cR) Z mn_KR_matchingCount (.code mn_KR_matchingCount mb_KR_matchingCount 3 (some .int) :: jk_WA) (jk_rm 4 88) [.ref a_t] (wd_KR_matchingCount cI a_t a_t_input a_t_output a_t_topics a_t_cords a_t_draftTopics a_t_draft a_t_saved a_t_history a_t_script a_t_cords_starts a_t_cords_depth a_t_cords_topic a_t_cords_value a_t_cords_nibbled a_t_cords_starts_k a_t_cords_depth_k a_t_cords_value_k a_t_cords_nibbled_k i_t_hasSaved i_t_reportedCode i_t_reportedOffset i_t_cords_clusters i_t_cords_size i_t_cords_starts i_t_cords_depth i_t_cords_value i_t_cords_nibbled) (wd_KR_matchingCount cI a_t a_t_input a_t_output a_t_topics a_t_cords a_t_draftTopics a_t_draft a_t_saved a_t_history a_t_script a_t_cords_starts a_t_cords_depth a_t_cords_topic a_t_cords_value a_t_cords_nibbled a_t_cords_starts_k a_t_cords_depth_k a_t_cords_value_k a_t_cords_nibbled_k i_t_hasSaved i_t_reportedCode i_t_reportedOffset i_t_cords_clusters i_t_cords_size i_t_cords_starts i_t_cords_depth i_t_cords_value i_t_cords_nibbled) q := by
  intro sz
  refine jk_body (by decide +kernel) (fun p e s m args below meth c hsz hz hin C => ?_) (Nat.le_of_ble_eq_true rfl)
  subst hsz
  unfold fn_KR_matchingCount at hf
  have bk_4 : ∀ (n : Nat) (v1 : Int) (v2 : Int), fn_KR_matchingCount_b4 n i_t_cords_clusters i_t_cords_starts i_t_cords_depth i_t_cords_value i_t_cords_nibbled v1 v2 = some q → jk_J p l e (jk_rm 4 88) s m args below meth c 0 0 (jk_QI below D jk_cl (jk_ty cI cR) (wd_KR_matchingCount cI a_t a_t_input a_t_output a_t_topics a_t_cords a_t_draftTopics a_t_draft a_t_saved a_t_history a_t_script a_t_cords_starts a_t_cords_depth a_t_cords_topic a_t_cords_value a_t_cords_nibbled a_t_cords_starts_k a_t_cords_depth_k a_t_cords_value_k a_t_cords_nibbled_k i_t_hasSaved i_t_reportedCode i_t_reportedOffset i_t_cords_clusters i_t_cords_size i_t_cords_starts i_t_cords_depth i_t_cords_value i_t_cords_nibbled) (wd_KR_matchingCount cI a_t a_t_input a_t_output a_t_topics a_t_cords a_t_draftTopics a_t_draft a_t_saved a_t_history a_t_script a_t_cords_starts a_t_cords_depth a_t_cords_topic a_t_cords_value a_t_cords_nibbled a_t_cords_starts_k a_t_cords_depth_k a_t_cords_value_k a_t_cords_nibbled_k i_t_hasSaved i_t_reportedCode i_t_reportedOffset i_t_cords_clusters i_t_cords_size i_t_cords_starts i_t_cords_depth i_t_cords_value i_t_cords_nibbled) args s q) D jk_cl (va_A (wd_KR_matchingCount cI a_t a_t_input a_t_output a_t_topics a_t_cords a_t_draftTopics a_t_draft a_t_saved a_t_history a_t_script a_t_cords_starts a_t_cords_depth a_t_cords_topic a_t_cords_value a_t_cords_nibbled a_t_cords_starts_k a_t_cords_depth_k a_t_cords_value_k a_t_cords_nibbled_k i_t_hasSaved i_t_reportedCode i_t_reportedOffset i_t_cords_clusters i_t_cords_size i_t_cords_starts i_t_cords_depth i_t_cords_value i_t_cords_nibbled) s.heap.size) 3 (wd_KR_matchingCount cI a_t a_t_input a_t_output a_t_topics a_t_cords a_t_draftTopics a_t_draft a_t_saved a_t_history a_t_script a_t_cords_starts a_t_cords_depth a_t_cords_topic a_t_cords_value a_t_cords_nibbled a_t_cords_starts_k a_t_cords_depth_k a_t_cords_value_k a_t_cords_nibbled_k i_t_hasSaved i_t_reportedCode i_t_reportedOffset i_t_cords_clusters i_t_cords_size i_t_cords_starts i_t_cords_depth i_t_cords_value i_t_cords_nibbled) [(0, .ref a_t), (1, jk_V v1), (2, jk_V v2)] 4 [] := by
    intro n
    induction n with
    | zero => intro v1 v2 hf; exact nomatch (show none = some q from hf)
    | succ n ih =>
      intro v1 v2 hf
      rw [fn_KR_matchingCount_b4] at hf
      refine jk_iload_n C rd_KR_matchingCount_4 (k := 2) rfl ?_
      refine jk_aload_n C rd_KR_matchingCount_5 (k := 0) rfl ?_
      refine jk_get C in_KR (ci := 10) rfl 3 (by decide) tm_427 0 rfl rfl rd_KR_matchingCount_6 ?_
      refine jk_getN C in_Cords (ci := 5) rfl 0 (by decide) (jk_nw hZ hz tn_13) 1 rfl rfl rd_KR_matchingCount_9 ?_
      refine jk_icmp_ge (tgt := 36) C rd_KR_matchingCount_12 (by decide) hf (fun _ hf => ?_) (fun _ hf => ?_)
      · refine jk_iload_n C rd_KR_matchingCount_36 (k := 1) rfl ?_
        cases hf
        exact jk_iret C rfl rd_KR_matchingCount_37 rfl
      · refine jk_aload_n C rd_KR_matchingCount_15 (k := 0) rfl ?_
        refine jk_get C in_KR (ci := 10) rfl 3 (by decide) tm_427 0 rfl rfl rd_KR_matchingCount_16 ?_
        refine jk_iload_n C rd_KR_matchingCount_19 (k := 2) rfl ?_
        obtain ⟨q20, hq20, hf⟩ := jk_bind_h hf
        refine jk_callVi C hZ.1 hz (ct_Cords_state l D Z sq hZ cI cR a_t_cords a_t_cords_starts a_t_cords_depth a_t_cords_topic a_t_cords_value a_t_cords_nibbled a_t_cords_starts_k a_t_cords_depth_k a_t_cords_value_k a_t_cords_nibbled_k i_t_cords_clusters i_t_cords_size i_t_cords_starts i_t_cords_depth i_t_cords_value i_t_cords_nibbled v2 q20 hq20) tm_709 tm_710 tm_711 tm_6 tm_712 na_Cords_state ⟨Nat.le_of_ble_eq_true rfl, Nat.le_of_ble_eq_true rfl⟩ rfl [1, 2, 3, 4, 5, 6, 7, 8, 9] rfl rfl rfl (ws' := wd_KR_matchingCount cI a_t a_t_input a_t_output a_t_topics a_t_cords a_t_draftTopics a_t_draft a_t_saved a_t_history a_t_script a_t_cords_starts a_t_cords_depth a_t_cords_topic a_t_cords_value a_t_cords_nibbled a_t_cords_starts_k a_t_cords_depth_k a_t_cords_value_k a_t_cords_nibbled_k i_t_hasSaved i_t_reportedCode i_t_reportedOffset i_t_cords_clusters i_t_cords_size i_t_cords_starts i_t_cords_depth i_t_cords_value i_t_cords_nibbled) rfl 1 5 rfl rfl rfl (st := []) rfl (Nat.le_of_ble_eq_true rfl) rd_KR_matchingCount_20 ?_ ⟨Nat.le_of_ble_eq_true rfl, Nat.le_of_ble_eq_true rfl⟩
        refine jk_iconst C rd_KR_matchingCount_23 ?_
        refine jk_icmp_ne (tgt := 30) C rd_KR_matchingCount_24 (by decide) hf (fun _ hf => ?_) (fun _ hf => ?_)
        · refine jk_iinc C rd_KR_matchingCount_30 (k := 2) rfl (by decide) (lv' := [(2, jk_V (v2 + 1)), (0, .ref a_t), (1, jk_V v1)]) rfl ?_
          refine jk_goto (tgt := 4) C rd_KR_matchingCount_33 (by decide) ?_
          refine jk_lv (lv' := [(0, .ref a_t), (1, jk_V v1), (2, jk_V (v2 + 1))]) [1, 2, 0] rfl ?_
          exact ih v1 (v2 + 1) hf
        · refine jk_iinc C rd_KR_matchingCount_27 (k := 1) rfl (by decide) (lv' := [(1, jk_V (v1 + 1)), (0, .ref a_t), (2, jk_V v2)]) rfl ?_
          refine jk_iinc C rd_KR_matchingCount_30 (k := 2) rfl (by decide) (lv' := [(2, jk_V (v2 + 1)), (1, jk_V (v1 + 1)), (0, .ref a_t)]) rfl ?_
          refine jk_goto (tgt := 4) C rd_KR_matchingCount_33 (by decide) ?_
          refine jk_lv (lv' := [(0, .ref a_t), (1, jk_V (v1 + 1)), (2, jk_V (v2 + 1))]) [2, 1, 0] rfl ?_
          exact ih (v1 + 1) (v2 + 1) hf
  refine jk_iconst C rd_KR_matchingCount_0 ?_
  refine jk_istore_n C rd_KR_matchingCount_1 (by decide) (lv' := [(1, jk_V 0), (0, .ref a_t)]) rfl ?_
  refine jk_iconst C rd_KR_matchingCount_2 ?_
  refine jk_istore_n C rd_KR_matchingCount_3 (by decide) (lv' := [(2, jk_V 0), (1, jk_V 0), (0, .ref a_t)]) rfl ?_
  refine jk_lv (lv' := [(0, .ref a_t), (1, jk_V 0), (2, jk_V 0)]) [2, 1, 0] rfl ?_
  exact bk_4 jk_F 0 0 hf
def wd_KR_requireTopic (cI : ClassId) (a_t a_t_input a_t_output a_t_topics a_t_cords a_t_draftTopics a_t_draft a_t_saved a_t_history a_t_script a_t_topics_names : Nat) (i_t_hasSaved : Int) (i_t_reportedCode : Int) (i_t_reportedOffset : Int) (i_t_topics_size : Int) : va_W := [(a_t, .inr (10, [.ref a_t_input, .ref a_t_output, .ref a_t_topics, .ref a_t_cords, .ref a_t_draftTopics, .ref a_t_draft, .ref a_t_saved, .ref a_t_history, .ref a_t_script, jk_V i_t_hasSaved, jk_V i_t_reportedCode, jk_V i_t_reportedOffset])), (a_t_topics, .inr (2, [jk_V i_t_topics_size, .ref a_t_topics_names]))]
set_option maxHeartbeats 4000000 in
set_option maxRecDepth 20000 in
theorem ct_KR_requireTopic (l : Launch) (D : va_G) (Z : (Nat → Prop) → State → Heap → Prop) (sq : Nat → Nat) (hZ : jk_ZK Z sq) (hl : l.stackTraces = false) (cI cR : ClassId) (a_t a_t_input a_t_output a_t_topics a_t_cords a_t_draftTopics a_t_draft a_t_saved a_t_history a_t_script a_t_topics_names : Nat) (i_t_hasSaved : Int) (i_t_reportedCode : Int) (i_t_reportedOffset : Int) (i_t_topics_size : Int) (x1 : Int) (q : Nat ⊕ (Unit)) (hf : fn_KR_requireTopic i_t_topics_size x1 = some q) : jk_XV l D jk_cl (jk_ty cI cR) Z mn_KR_requireTopic (.code mn_KR_requireTopic mb_KR_requireTopic 2 none :: jk_WA) (jk_rx 6 1 6 100) [.ref a_t, jk_V x1] (wd_KR_requireTopic cI a_t a_t_input a_t_output a_t_topics a_t_cords a_t_draftTopics a_t_draft a_t_saved a_t_history a_t_script a_t_topics_names i_t_hasSaved i_t_reportedCode i_t_reportedOffset i_t_topics_size) (Sum.map id (fun (z : Unit) => wd_KR_requireTopic cI a_t a_t_input a_t_output a_t_topics a_t_cords a_t_draftTopics a_t_draft a_t_saved a_t_history a_t_script a_t_topics_names i_t_hasSaved i_t_reportedCode i_t_reportedOffset i_t_topics_size) q) 1 6 := by
  intro sz
  refine jk_xbody (by decide +kernel) (fun p e s m args below meth c hsz hz hnh C => ?_) (Nat.le_of_ble_eq_true rfl)
  subst hsz
  unfold fn_KR_requireTopic at hf
  refine jk_aload_n C rd_KR_requireTopic_0 (k := 0) rfl ?_
  refine jk_get C in_KR (ci := 10) rfl 2 (by decide) tm_426 0 rfl rfl rd_KR_requireTopic_1 ?_
  refine jk_iload_n C rd_KR_requireTopic_4 (k := 1) rfl ?_
  obtain ⟨q5, hq5, hf⟩ := jk_bind_h hf
  refine jk_callVi C hZ.1 hz (ct_Topics_has l D Z sq hZ cI cR a_t_topics a_t_topics_names i_t_topics_size x1 q5 hq5) tm_562 tm_563 tm_564 tm_5 tm_565 na_Topics_has ⟨Nat.le_of_ble_eq_true rfl, Nat.le_of_ble_eq_true rfl⟩ rfl [1] rfl rfl rfl (ws' := wd_KR_requireTopic cI a_t a_t_input a_t_output a_t_topics a_t_cords a_t_draftTopics a_t_draft a_t_saved a_t_history a_t_script a_t_topics_names i_t_hasSaved i_t_reportedCode i_t_reportedOffset i_t_topics_size) rfl 1 2 rfl rfl rfl (st := []) rfl (Nat.le_of_ble_eq_true rfl) rd_KR_requireTopic_5 ?_ ⟨Nat.le_of_ble_eq_true rfl, Nat.le_of_ble_eq_true rfl⟩
  refine jk_if_ne (tgt := 22) C rd_KR_requireTopic_8 (by decide) hf (fun _ hf => ?_) (fun _ hf => ?_)
  · cases hf
    exact jk_xvret C rfl rfl (Nat.le_of_ble_eq_true rfl) (Nat.le_of_ble_eq_true rfl) rd_KR_requireTopic_22
  · cases hf
    exact jk_throwW (k := 1) (kk := 16) C hZ hz hl hnh rfl rfl rfl tm_796 tm_19 rfl tw_306_1 ⟨by decide +kernel, by decide +kernel, by decide +kernel⟩ rd_KR_requireTopic_11 rd_KR_requireTopic_14 rd_KR_requireTopic_15 rd_KR_requireTopic_18 rd_KR_requireTopic_21 (Nat.le_of_ble_eq_true rfl) (Nat.le_of_ble_eq_true rfl) (Nat.le_of_ble_eq_true rfl) (Nat.le_of_ble_eq_true rfl) (Nat.le_of_ble_eq_true rfl) (Nat.le_of_ble_eq_true rfl)
def wd_KR_topicByte (cI : ClassId) (a_t a_t_input a_t_output a_t_topics a_t_cords a_t_draftTopics a_t_draft a_t_saved a_t_history a_t_script a_t_topics_names a_t_topics_names_k : Nat) (i_t_hasSaved : Int) (i_t_reportedCode : Int) (i_t_reportedOffset : Int) (i_t_topics_size : Int) (i_t_topics_names : (Int → Int)) : va_W := [(a_t, .inr (10, [.ref a_t_input, .ref a_t_output, .ref a_t_topics, .ref a_t_cords, .ref a_t_draftTopics, .ref a_t_draft, .ref a_t_saved, .ref a_t_history, .ref a_t_script, jk_V i_t_hasSaved, jk_V i_t_reportedCode, jk_V i_t_reportedOffset])), (a_t_topics, .inr (2, [jk_V i_t_topics_size, .ref a_t_topics_names])), (a_t_topics_names, .inr (0, [.ref a_t_topics_names_k])), (a_t_topics_names_k, jk_W cI 8 i_t_topics_names)]
set_option maxHeartbeats 4000000 in
set_option maxRecDepth 20000 in
theorem ct_KR_topicByte (l : Launch) (D : va_G) (Z : (Nat → Prop) → State → Heap → Prop) (sq : Nat → Nat) (hZ : jk_ZK Z sq) (hl : l.stackTraces = false) (cI cR : ClassId) (a_t a_t_input a_t_output a_t_topics a_t_cords a_t_draftTopics a_t_draft a_t_saved a_t_history a_t_script a_t_topics_names a_t_topics_names_k : Nat) (i_t_hasSaved : Int) (i_t_reportedCode : Int) (i_t_reportedOffset : Int) (i_t_topics_size : Int) (i_t_topics_names : (Int → Int)) (x1 : Int) (x2 : Int) (q : Nat ⊕ (Int)) (hf : fn_KR_topicByte i_t_topics_size i_t_topics_names x1 x2 = some q) : jk_XI l D jk_cl (jk_ty cI cR) Z mn_KR_topicByte (.code mn_KR_topicByte mb_KR_topicByte 3 (some .int) :: jk_WA) (jk_rx 7 1 6 121) [.ref a_t, jk_V x1, jk_V x2] (wd_KR_topicByte cI a_t a_t_input a_t_output a_t_topics a_t_cords a_t_draftTopics a_t_draft a_t_saved a_t_history a_t_script a_t_topics_names a_t_topics_names_k i_t_hasSaved i_t_reportedCode i_t_reportedOffset i_t_topics_size i_t_topics_names) (Sum.map id (fun (z : Int) => ((z : Int), wd_KR_topicByte cI a_t a_t_input a_t_output a_t_topics a_t_cords a_t_draftTopics a_t_draft a_t_saved a_t_history a_t_script a_t_topics_names a_t_topics_names_k i_t_hasSaved i_t_reportedCode i_t_reportedOffset i_t_topics_size i_t_topics_names)) q) 1 6 := by
  intro sz
  refine jk_xbody (by decide +kernel) (fun p e s m args below meth c hsz hz hnh C => ?_) (Nat.le_of_ble_eq_true rfl)
  subst hsz
  unfold fn_KR_topicByte at hf
  refine jk_aload_n C rd_KR_topicByte_0 (k := 0) rfl ?_
  refine jk_iload_n C rd_KR_topicByte_1 (k := 1) rfl ?_
  obtain ⟨q2, hq2, hf⟩ := jk_bind_h hf
  rcases q2 with k2 | q2
  · replace hf : (some (Sum.inl k2) : Option (Nat ⊕ (Int))) = some q := hf
    cases hf
    exact jk_callXv_t C hZ.1 hz hnh rfl rfl rfl rfl (ct_KR_requireTopic l D Z sq hZ hl cI cR a_t a_t_input a_t_output a_t_topics a_t_cords a_t_draftTopics a_t_draft a_t_saved a_t_history a_t_script a_t_topics_names i_t_hasSaved i_t_reportedCode i_t_reportedOffset i_t_topics_size x1 _ hq2) tm_792 tm_794 sl_14 tm_1 tm_795 na_KR_requireTopic ⟨Nat.le_of_ble_eq_true rfl, Nat.le_of_ble_eq_true rfl⟩ rfl [0, 1] rfl rfl rfl 0 10 rfl rfl rfl (st := []) rfl (Nat.le_of_ble_eq_true rfl) rd_KR_topicByte_2 ⟨Nat.le_of_ble_eq_true rfl, Nat.le_of_ble_eq_true rfl⟩ (Nat.le_of_ble_eq_true rfl) (Nat.le_of_ble_eq_true rfl)
  · refine jk_callXv_r C hZ.1 hz rfl (ct_KR_requireTopic l D Z sq hZ hl cI cR a_t a_t_input a_t_output a_t_topics a_t_cords a_t_draftTopics a_t_draft a_t_saved a_t_history a_t_script a_t_topics_names i_t_hasSaved i_t_reportedCode i_t_reportedOffset i_t_topics_size x1 _ hq2) tm_792 tm_794 sl_14 tm_1 tm_795 na_KR_requireTopic ⟨Nat.le_of_ble_eq_true rfl, Nat.le_of_ble_eq_true rfl⟩ rfl [0, 1] rfl rfl rfl (ws' := wd_KR_topicByte cI a_t a_t_input a_t_output a_t_topics a_t_cords a_t_draftTopics a_t_draft a_t_saved a_t_history a_t_script a_t_topics_names a_t_topics_names_k i_t_hasSaved i_t_reportedCode i_t_reportedOffset i_t_topics_size i_t_topics_names) rfl 0 10 rfl rfl rfl (st := []) rfl (Nat.le_of_ble_eq_true rfl) rd_KR_topicByte_2 ⟨Nat.le_of_ble_eq_true rfl, Nat.le_of_ble_eq_true rfl⟩ ?_
    refine jk_aload_n C rd_KR_topicByte_5 (k := 0) rfl ?_
    refine jk_get C in_KR (ci := 10) rfl 2 (by decide) tm_426 0 rfl rfl rd_KR_topicByte_6 ?_
    refine jk_iload_n C rd_KR_topicByte_9 (k := 1) rfl ?_
    refine jk_iload_n C rd_KR_topicByte_10 (k := 2) rfl ?_
    obtain ⟨q11, hq11, hf⟩ := jk_bind_h hf
    refine jk_callVi C hZ.1 hz (ct_Topics_letter l D Z sq hZ cI cR a_t_topics a_t_topics_names a_t_topics_names_k i_t_topics_size i_t_topics_names x1 x2 q11 hq11) tm_864 tm_865 tm_866 tm_5 tm_867 na_Topics_letter ⟨Nat.le_of_ble_eq_true rfl, Nat.le_of_ble_eq_true rfl⟩ rfl [1, 2, 3] rfl rfl rfl (ws' := wd_KR_topicByte cI a_t a_t_input a_t_output a_t_topics a_t_cords a_t_draftTopics a_t_draft a_t_saved a_t_history a_t_script a_t_topics_names a_t_topics_names_k i_t_hasSaved i_t_reportedCode i_t_reportedOffset i_t_topics_size i_t_topics_names) rfl 1 2 rfl rfl rfl (st := []) rfl (Nat.le_of_ble_eq_true rfl) rd_KR_topicByte_11 ?_ ⟨Nat.le_of_ble_eq_true rfl, Nat.le_of_ble_eq_true rfl⟩
    cases hf
    exact jk_xiret C rfl rfl (Nat.le_of_ble_eq_true rfl) (Nat.le_of_ble_eq_true rfl) rd_KR_topicByte_14
def wd_KR_requireCord (cI : ClassId) (a_t a_t_input a_t_output a_t_topics a_t_cords a_t_draftTopics a_t_draft a_t_saved a_t_history a_t_script a_t_cords_starts a_t_cords_depth a_t_cords_topic a_t_cords_value a_t_cords_nibbled : Nat) (i_t_hasSaved : Int) (i_t_reportedCode : Int) (i_t_reportedOffset : Int) (i_t_cords_clusters : Int) (i_t_cords_size : Int) : va_W := [(a_t, .inr (10, [.ref a_t_input, .ref a_t_output, .ref a_t_topics, .ref a_t_cords, .ref a_t_draftTopics, .ref a_t_draft, .ref a_t_saved, .ref a_t_history, .ref a_t_script, jk_V i_t_hasSaved, jk_V i_t_reportedCode, jk_V i_t_reportedOffset])), (a_t_cords, .inr (5, [jk_V i_t_cords_clusters, jk_V i_t_cords_size, .ref a_t_cords_starts, .ref a_t_cords_depth, .ref a_t_cords_topic, .ref a_t_cords_value, .ref a_t_cords_nibbled]))]
set_option maxHeartbeats 4000000 in
set_option maxRecDepth 20000 in
theorem ct_KR_requireCord (l : Launch) (D : va_G) (Z : (Nat → Prop) → State → Heap → Prop) (sq : Nat → Nat) (hZ : jk_ZK Z sq) (hl : l.stackTraces = false) (cI cR : ClassId) (a_t a_t_input a_t_output a_t_topics a_t_cords a_t_draftTopics a_t_draft a_t_saved a_t_history a_t_script a_t_cords_starts a_t_cords_depth a_t_cords_topic a_t_cords_value a_t_cords_nibbled : Nat) (i_t_hasSaved : Int) (i_t_reportedCode : Int) (i_t_reportedOffset : Int) (i_t_cords_clusters : Int) (i_t_cords_size : Int) (x1 : Int) (q : Nat ⊕ (Unit)) (hf : fn_KR_requireCord i_t_cords_size x1 = some q) : jk_XV l D jk_cl (jk_ty cI cR) Z mn_KR_requireCord (.code mn_KR_requireCord mb_KR_requireCord 2 none :: jk_WA) (jk_rx 6 1 6 100) [.ref a_t, jk_V x1] (wd_KR_requireCord cI a_t a_t_input a_t_output a_t_topics a_t_cords a_t_draftTopics a_t_draft a_t_saved a_t_history a_t_script a_t_cords_starts a_t_cords_depth a_t_cords_topic a_t_cords_value a_t_cords_nibbled i_t_hasSaved i_t_reportedCode i_t_reportedOffset i_t_cords_clusters i_t_cords_size) (Sum.map id (fun (z : Unit) => wd_KR_requireCord cI a_t a_t_input a_t_output a_t_topics a_t_cords a_t_draftTopics a_t_draft a_t_saved a_t_history a_t_script a_t_cords_starts a_t_cords_depth a_t_cords_topic a_t_cords_value a_t_cords_nibbled i_t_hasSaved i_t_reportedCode i_t_reportedOffset i_t_cords_clusters i_t_cords_size) q) 1 6 := by
  intro sz
  refine jk_xbody (by decide +kernel) (fun p e s m args below meth c hsz hz hnh C => ?_) (Nat.le_of_ble_eq_true rfl)
  subst hsz
  unfold fn_KR_requireCord at hf
  refine jk_aload_n C rd_KR_requireCord_0 (k := 0) rfl ?_
  refine jk_get C in_KR (ci := 10) rfl 3 (by decide) tm_427 0 rfl rfl rd_KR_requireCord_1 ?_
  refine jk_iload_n C rd_KR_requireCord_4 (k := 1) rfl ?_
  obtain ⟨q5, hq5, hf⟩ := jk_bind_h hf
  refine jk_callVi C hZ.1 hz (ct_Cords_has l D Z sq hZ cI cR a_t_cords a_t_cords_starts a_t_cords_depth a_t_cords_topic a_t_cords_value a_t_cords_nibbled i_t_cords_clusters i_t_cords_size x1 q5 hq5) tm_569 tm_570 tm_571 tm_6 tm_572 na_Cords_has ⟨Nat.le_of_ble_eq_true rfl, Nat.le_of_ble_eq_true rfl⟩ rfl [1] rfl rfl rfl (ws' := wd_KR_requireCord cI a_t a_t_input a_t_output a_t_topics a_t_cords a_t_draftTopics a_t_draft a_t_saved a_t_history a_t_script a_t_cords_starts a_t_cords_depth a_t_cords_topic a_t_cords_value a_t_cords_nibbled i_t_hasSaved i_t_reportedCode i_t_reportedOffset i_t_cords_clusters i_t_cords_size) rfl 1 5 rfl rfl rfl (st := []) rfl (Nat.le_of_ble_eq_true rfl) rd_KR_requireCord_5 ?_ ⟨Nat.le_of_ble_eq_true rfl, Nat.le_of_ble_eq_true rfl⟩
  refine jk_if_ne (tgt := 22) C rd_KR_requireCord_8 (by decide) hf (fun _ hf => ?_) (fun _ hf => ?_)
  · cases hf
    exact jk_xvret C rfl rfl (Nat.le_of_ble_eq_true rfl) (Nat.le_of_ble_eq_true rfl) rd_KR_requireCord_22
  · cases hf
    exact jk_throwW (k := 1) (kk := 17) C hZ hz hl hnh rfl rfl rfl tm_796 tm_19 rfl tw_306_1 ⟨by decide +kernel, by decide +kernel, by decide +kernel⟩ rd_KR_requireCord_11 rd_KR_requireCord_14 rd_KR_requireCord_15 rd_KR_requireCord_18 rd_KR_requireCord_21 (Nat.le_of_ble_eq_true rfl) (Nat.le_of_ble_eq_true rfl) (Nat.le_of_ble_eq_true rfl) (Nat.le_of_ble_eq_true rfl) (Nat.le_of_ble_eq_true rfl) (Nat.le_of_ble_eq_true rfl)
def wd_KR_clusterOf (cI : ClassId) (a_t a_t_input a_t_output a_t_topics a_t_cords a_t_draftTopics a_t_draft a_t_saved a_t_history a_t_script a_t_cords_starts a_t_cords_depth a_t_cords_topic a_t_cords_value a_t_cords_nibbled a_t_cords_starts_k : Nat) (i_t_hasSaved : Int) (i_t_reportedCode : Int) (i_t_reportedOffset : Int) (i_t_cords_clusters : Int) (i_t_cords_size : Int) (i_t_cords_starts : (Int → Int)) : va_W := [(a_t, .inr (10, [.ref a_t_input, .ref a_t_output, .ref a_t_topics, .ref a_t_cords, .ref a_t_draftTopics, .ref a_t_draft, .ref a_t_saved, .ref a_t_history, .ref a_t_script, jk_V i_t_hasSaved, jk_V i_t_reportedCode, jk_V i_t_reportedOffset])), (a_t_cords, .inr (5, [jk_V i_t_cords_clusters, jk_V i_t_cords_size, .ref a_t_cords_starts, .ref a_t_cords_depth, .ref a_t_cords_topic, .ref a_t_cords_value, .ref a_t_cords_nibbled])), (a_t_cords_starts, .inr (0, [.ref a_t_cords_starts_k])), (a_t_cords_starts_k, jk_W cI 7 i_t_cords_starts)]
set_option maxHeartbeats 4000000 in
set_option maxRecDepth 20000 in
theorem ct_KR_clusterOf (l : Launch) (D : va_G) (Z : (Nat → Prop) → State → Heap → Prop) (sq : Nat → Nat) (hZ : jk_ZK Z sq) (hl : l.stackTraces = false) (cI cR : ClassId) (a_t a_t_input a_t_output a_t_topics a_t_cords a_t_draftTopics a_t_draft a_t_saved a_t_history a_t_script a_t_cords_starts a_t_cords_depth a_t_cords_topic a_t_cords_value a_t_cords_nibbled a_t_cords_starts_k : Nat) (i_t_hasSaved : Int) (i_t_reportedCode : Int) (i_t_reportedOffset : Int) (i_t_cords_clusters : Int) (i_t_cords_size : Int) (i_t_cords_starts : (Int → Int)) (x1 : Int) (q : Nat ⊕ (Int)) (hf : fn_KR_clusterOf i_t_cords_clusters i_t_cords_size i_t_cords_starts x1 = some q) : jk_XI l D jk_cl (jk_ty cI cR) Z mn_KR_clusterOf (.code mn_KR_clusterOf mb_KR_clusterOf 2 (some .int) :: jk_WA) (jk_rx 7 1 6 121) [.ref a_t, jk_V x1] (wd_KR_clusterOf cI a_t a_t_input a_t_output a_t_topics a_t_cords a_t_draftTopics a_t_draft a_t_saved a_t_history a_t_script a_t_cords_starts a_t_cords_depth a_t_cords_topic a_t_cords_value a_t_cords_nibbled a_t_cords_starts_k i_t_hasSaved i_t_reportedCode i_t_reportedOffset i_t_cords_clusters i_t_cords_size i_t_cords_starts) (Sum.map id (fun (z : Int) => ((z : Int), wd_KR_clusterOf cI a_t a_t_input a_t_output a_t_topics a_t_cords a_t_draftTopics a_t_draft a_t_saved a_t_history a_t_script a_t_cords_starts a_t_cords_depth a_t_cords_topic a_t_cords_value a_t_cords_nibbled a_t_cords_starts_k i_t_hasSaved i_t_reportedCode i_t_reportedOffset i_t_cords_clusters i_t_cords_size i_t_cords_starts)) q) 1 6 := by
  intro sz
  refine jk_xbody (by decide +kernel) (fun p e s m args below meth c hsz hz hnh C => ?_) (Nat.le_of_ble_eq_true rfl)
  subst hsz
  unfold fn_KR_clusterOf at hf
  refine jk_aload_n C rd_KR_clusterOf_0 (k := 0) rfl ?_
  refine jk_iload_n C rd_KR_clusterOf_1 (k := 1) rfl ?_
  obtain ⟨q2, hq2, hf⟩ := jk_bind_h hf
  rcases q2 with k2 | q2
  · replace hf : (some (Sum.inl k2) : Option (Nat ⊕ (Int))) = some q := hf
    cases hf
    exact jk_callXv_t C hZ.1 hz hnh rfl rfl rfl rfl (ct_KR_requireCord l D Z sq hZ hl cI cR a_t a_t_input a_t_output a_t_topics a_t_cords a_t_draftTopics a_t_draft a_t_saved a_t_history a_t_script a_t_cords_starts a_t_cords_depth a_t_cords_topic a_t_cords_value a_t_cords_nibbled i_t_hasSaved i_t_reportedCode i_t_reportedOffset i_t_cords_clusters i_t_cords_size x1 _ hq2) tm_875 tm_877 sl_16 tm_1 tm_878 na_KR_requireCord ⟨Nat.le_of_ble_eq_true rfl, Nat.le_of_ble_eq_true rfl⟩ rfl [0, 1] rfl rfl rfl 0 10 rfl rfl rfl (st := []) rfl (Nat.le_of_ble_eq_true rfl) rd_KR_clusterOf_2 ⟨Nat.le_of_ble_eq_true rfl, Nat.le_of_ble_eq_true rfl⟩ (Nat.le_of_ble_eq_true rfl) (Nat.le_of_ble_eq_true rfl)
  · refine jk_callXv_r C hZ.1 hz rfl (ct_KR_requireCord l D Z sq hZ hl cI cR a_t a_t_input a_t_output a_t_topics a_t_cords a_t_draftTopics a_t_draft a_t_saved a_t_history a_t_script a_t_cords_starts a_t_cords_depth a_t_cords_topic a_t_cords_value a_t_cords_nibbled i_t_hasSaved i_t_reportedCode i_t_reportedOffset i_t_cords_clusters i_t_cords_size x1 _ hq2) tm_875 tm_877 sl_16 tm_1 tm_878 na_KR_requireCord ⟨Nat.le_of_ble_eq_true rfl, Nat.le_of_ble_eq_true rfl⟩ rfl [0, 1] rfl rfl rfl (ws' := wd_KR_clusterOf cI a_t a_t_input a_t_output a_t_topics a_t_cords a_t_draftTopics a_t_draft a_t_saved a_t_history a_t_script a_t_cords_starts a_t_cords_depth a_t_cords_topic a_t_cords_value a_t_cords_nibbled a_t_cords_starts_k i_t_hasSaved i_t_reportedCode i_t_reportedOffset i_t_cords_clusters i_t_cords_size i_t_cords_starts) rfl 0 10 rfl rfl rfl (st := []) rfl (Nat.le_of_ble_eq_true rfl) rd_KR_clusterOf_2 ⟨Nat.le_of_ble_eq_true rfl, Nat.le_of_ble_eq_true rfl⟩ ?_
    refine jk_aload_n C rd_KR_clusterOf_5 (k := 0) rfl ?_
    refine jk_get C in_KR (ci := 10) rfl 3 (by decide) tm_427 0 rfl rfl rd_KR_clusterOf_6 ?_
    refine jk_iload_n C rd_KR_clusterOf_9 (k := 1) rfl ?_
    obtain ⟨q10, hq10, hf⟩ := jk_bind_h hf
    refine jk_callVi C hZ.1 hz (ct_Cords_clusterAt l D Z sq hZ cI cR a_t_cords a_t_cords_starts a_t_cords_depth a_t_cords_topic a_t_cords_value a_t_cords_nibbled a_t_cords_starts_k i_t_cords_clusters i_t_cords_size i_t_cords_starts x1 q10 hq10) tm_641 tm_642 tm_643 tm_6 tm_644 na_Cords_clusterAt ⟨Nat.le_of_ble_eq_true rfl, Nat.le_of_ble_eq_true rfl⟩ rfl [1, 2, 3] rfl rfl rfl (ws' := wd_KR_clusterOf cI a_t a_t_input a_t_output a_t_topics a_t_cords a_t_draftTopics a_t_draft a_t_saved a_t_history a_t_script a_t_cords_starts a_t_cords_depth a_t_cords_topic a_t_cords_value a_t_cords_nibbled a_t_cords_starts_k i_t_hasSaved i_t_reportedCode i_t_reportedOffset i_t_cords_clusters i_t_cords_size i_t_cords_starts) rfl 1 5 rfl rfl rfl (st := []) rfl (Nat.le_of_ble_eq_true rfl) rd_KR_clusterOf_10 ?_ ⟨Nat.le_of_ble_eq_true rfl, Nat.le_of_ble_eq_true rfl⟩
    cases hf
    exact jk_xiret C rfl rfl (Nat.le_of_ble_eq_true rfl) (Nat.le_of_ble_eq_true rfl) rd_KR_clusterOf_13
def wd_KR_depthOf (cI : ClassId) (a_t a_t_input a_t_output a_t_topics a_t_cords a_t_draftTopics a_t_draft a_t_saved a_t_history a_t_script a_t_cords_starts a_t_cords_depth a_t_cords_topic a_t_cords_value a_t_cords_nibbled a_t_cords_depth_k : Nat) (i_t_hasSaved : Int) (i_t_reportedCode : Int) (i_t_reportedOffset : Int) (i_t_cords_clusters : Int) (i_t_cords_size : Int) (i_t_cords_depth : (Int → Int)) : va_W := [(a_t, .inr (10, [.ref a_t_input, .ref a_t_output, .ref a_t_topics, .ref a_t_cords, .ref a_t_draftTopics, .ref a_t_draft, .ref a_t_saved, .ref a_t_history, .ref a_t_script, jk_V i_t_hasSaved, jk_V i_t_reportedCode, jk_V i_t_reportedOffset])), (a_t_cords, .inr (5, [jk_V i_t_cords_clusters, jk_V i_t_cords_size, .ref a_t_cords_starts, .ref a_t_cords_depth, .ref a_t_cords_topic, .ref a_t_cords_value, .ref a_t_cords_nibbled])), (a_t_cords_depth, .inr (0, [.ref a_t_cords_depth_k])), (a_t_cords_depth_k, jk_W cI 40 i_t_cords_depth)]
set_option maxHeartbeats 4000000 in
set_option maxRecDepth 20000 in
theorem ct_KR_depthOf (l : Launch) (D : va_G) (Z : (Nat → Prop) → State → Heap → Prop) (sq : Nat → Nat) (hZ : jk_ZK Z sq) (hl : l.stackTraces = false) (cI cR : ClassId) (a_t a_t_input a_t_output a_t_topics a_t_cords a_t_draftTopics a_t_draft a_t_saved a_t_history a_t_script a_t_cords_starts a_t_cords_depth a_t_cords_topic a_t_cords_value a_t_cords_nibbled a_t_cords_depth_k : Nat) (i_t_hasSaved : Int) (i_t_reportedCode : Int) (i_t_reportedOffset : Int) (i_t_cords_clusters : Int) (i_t_cords_size : Int) (i_t_cords_depth : (Int → Int)) (x1 : Int) (q : Nat ⊕ (Int)) (hf : fn_KR_depthOf i_t_cords_size i_t_cords_depth x1 = some q) : jk_XI l D jk_cl (jk_ty cI cR) Z mn_KR_depthOf (.code mn_KR_depthOf mb_KR_depthOf 2 (some .int) :: jk_WA) (jk_rx 7 1 6 121) [.ref a_t, jk_V x1] (wd_KR_depthOf cI a_t a_t_input a_t_output a_t_topics a_t_cords a_t_draftTopics a_t_draft a_t_saved a_t_history a_t_script a_t_cords_starts a_t_cords_depth a_t_cords_topic a_t_cords_value a_t_cords_nibbled a_t_cords_depth_k i_t_hasSaved i_t_reportedCode i_t_reportedOffset i_t_cords_clusters i_t_cords_size i_t_cords_depth) (Sum.map id (fun (z : Int) => ((z : Int), wd_KR_depthOf cI a_t a_t_input a_t_output a_t_topics a_t_cords a_t_draftTopics a_t_draft a_t_saved a_t_history a_t_script a_t_cords_starts a_t_cords_depth a_t_cords_topic a_t_cords_value a_t_cords_nibbled a_t_cords_depth_k i_t_hasSaved i_t_reportedCode i_t_reportedOffset i_t_cords_clusters i_t_cords_size i_t_cords_depth)) q) 1 6 := by
  intro sz
  refine jk_xbody (by decide +kernel) (fun p e s m args below meth c hsz hz hnh C => ?_) (Nat.le_of_ble_eq_true rfl)
  subst hsz
  unfold fn_KR_depthOf at hf
  refine jk_aload_n C rd_KR_depthOf_0 (k := 0) rfl ?_
  refine jk_iload_n C rd_KR_depthOf_1 (k := 1) rfl ?_
  obtain ⟨q2, hq2, hf⟩ := jk_bind_h hf
  rcases q2 with k2 | q2
  · replace hf : (some (Sum.inl k2) : Option (Nat ⊕ (Int))) = some q := hf
    cases hf
    exact jk_callXv_t C hZ.1 hz hnh rfl rfl rfl rfl (ct_KR_requireCord l D Z sq hZ hl cI cR a_t a_t_input a_t_output a_t_topics a_t_cords a_t_draftTopics a_t_draft a_t_saved a_t_history a_t_script a_t_cords_starts a_t_cords_depth a_t_cords_topic a_t_cords_value a_t_cords_nibbled i_t_hasSaved i_t_reportedCode i_t_reportedOffset i_t_cords_clusters i_t_cords_size x1 _ hq2) tm_875 tm_877 sl_16 tm_1 tm_878 na_KR_requireCord ⟨Nat.le_of_ble_eq_true rfl, Nat.le_of_ble_eq_true rfl⟩ rfl [0, 1] rfl rfl rfl 0 10 rfl rfl rfl (st := []) rfl (Nat.le_of_ble_eq_true rfl) rd_KR_depthOf_2 ⟨Nat.le_of_ble_eq_true rfl, Nat.le_of_ble_eq_true rfl⟩ (Nat.le_of_ble_eq_true rfl) (Nat.le_of_ble_eq_true rfl)
  · refine jk_callXv_r C hZ.1 hz rfl (ct_KR_requireCord l D Z sq hZ hl cI cR a_t a_t_input a_t_output a_t_topics a_t_cords a_t_draftTopics a_t_draft a_t_saved a_t_history a_t_script a_t_cords_starts a_t_cords_depth a_t_cords_topic a_t_cords_value a_t_cords_nibbled i_t_hasSaved i_t_reportedCode i_t_reportedOffset i_t_cords_clusters i_t_cords_size x1 _ hq2) tm_875 tm_877 sl_16 tm_1 tm_878 na_KR_requireCord ⟨Nat.le_of_ble_eq_true rfl, Nat.le_of_ble_eq_true rfl⟩ rfl [0, 1] rfl rfl rfl (ws' := wd_KR_depthOf cI a_t a_t_input a_t_output a_t_topics a_t_cords a_t_draftTopics a_t_draft a_t_saved a_t_history a_t_script a_t_cords_starts a_t_cords_depth a_t_cords_topic a_t_cords_value a_t_cords_nibbled a_t_cords_depth_k i_t_hasSaved i_t_reportedCode i_t_reportedOffset i_t_cords_clusters i_t_cords_size i_t_cords_depth) rfl 0 10 rfl rfl rfl (st := []) rfl (Nat.le_of_ble_eq_true rfl) rd_KR_depthOf_2 ⟨Nat.le_of_ble_eq_true rfl, Nat.le_of_ble_eq_true rfl⟩ ?_
    refine jk_aload_n C rd_KR_depthOf_5 (k := 0) rfl ?_
    refine jk_get C in_KR (ci := 10) rfl 3 (by decide) tm_427 0 rfl rfl rd_KR_depthOf_6 ?_
    refine jk_getN C in_Cords (ci := 5) rfl 3 (by decide) (jk_nw hZ hz tn_18) 1 rfl rfl rd_KR_depthOf_9 ?_
    refine jk_iload_n C rd_KR_depthOf_12 (k := 1) rfl ?_
    obtain ⟨q13, hq13, hf⟩ := jk_bind_h hf
    refine jk_callVi C hZ.1 hz (ct_Row_get l D Z sq hZ cI cR (n_t := 40) (Nat.le_of_ble_eq_true rfl) a_t_cords_depth a_t_cords_depth_k i_t_cords_depth x1 q13 hq13) tm_549 tm_292 tm_293 tm_3 tm_294 na_Row_get ⟨Nat.le_of_ble_eq_true rfl, Nat.le_of_ble_eq_true rfl⟩ rfl [2, 3] rfl rfl rfl (ws' := wd_KR_depthOf cI a_t a_t_input a_t_output a_t_topics a_t_cords a_t_draftTopics a_t_draft a_t_saved a_t_history a_t_script a_t_cords_starts a_t_cords_depth a_t_cords_topic a_t_cords_value a_t_cords_nibbled a_t_cords_depth_k i_t_hasSaved i_t_reportedCode i_t_reportedOffset i_t_cords_clusters i_t_cords_size i_t_cords_depth) rfl 2 0 rfl rfl rfl (st := []) rfl (Nat.le_of_ble_eq_true rfl) rd_KR_depthOf_13 ?_ ⟨Nat.le_of_ble_eq_true rfl, Nat.le_of_ble_eq_true rfl⟩
    cases hf
    exact jk_xiret C rfl rfl (Nat.le_of_ble_eq_true rfl) (Nat.le_of_ble_eq_true rfl) rd_KR_depthOf_16
def wd_KR_parentOf (cI : ClassId) (a_t a_t_input a_t_output a_t_topics a_t_cords a_t_draftTopics a_t_draft a_t_saved a_t_history a_t_script a_t_cords_starts a_t_cords_depth a_t_cords_topic a_t_cords_value a_t_cords_nibbled a_t_cords_depth_k : Nat) (i_t_hasSaved : Int) (i_t_reportedCode : Int) (i_t_reportedOffset : Int) (i_t_cords_clusters : Int) (i_t_cords_size : Int) (i_t_cords_depth : (Int → Int)) : va_W := [(a_t, .inr (10, [.ref a_t_input, .ref a_t_output, .ref a_t_topics, .ref a_t_cords, .ref a_t_draftTopics, .ref a_t_draft, .ref a_t_saved, .ref a_t_history, .ref a_t_script, jk_V i_t_hasSaved, jk_V i_t_reportedCode, jk_V i_t_reportedOffset])), (a_t_cords, .inr (5, [jk_V i_t_cords_clusters, jk_V i_t_cords_size, .ref a_t_cords_starts, .ref a_t_cords_depth, .ref a_t_cords_topic, .ref a_t_cords_value, .ref a_t_cords_nibbled])), (a_t_cords_depth, .inr (0, [.ref a_t_cords_depth_k])), (a_t_cords_depth_k, jk_W cI 40 i_t_cords_depth)]
set_option maxHeartbeats 4000000 in
set_option maxRecDepth 20000 in
theorem ct_KR_parentOf (l : Launch) (D : va_G) (Z : (Nat → Prop) → State → Heap → Prop) (sq : Nat → Nat) (hZ : jk_ZK Z sq) (hl : l.stackTraces = false) (cI cR : ClassId) (a_t a_t_input a_t_output a_t_topics a_t_cords a_t_draftTopics a_t_draft a_t_saved a_t_history a_t_script a_t_cords_starts a_t_cords_depth a_t_cords_topic a_t_cords_value a_t_cords_nibbled a_t_cords_depth_k : Nat) (i_t_hasSaved : Int) (i_t_reportedCode : Int) (i_t_reportedOffset : Int) (i_t_cords_clusters : Int) (i_t_cords_size : Int) (i_t_cords_depth : (Int → Int)) (x1 : Int) (q : Nat ⊕ (Int)) (hf : fn_KR_parentOf i_t_cords_size i_t_cords_depth x1 = some q) : jk_XI l D jk_cl (jk_ty cI cR) Z mn_KR_parentOf (.code mn_KR_parentOf mb_KR_parentOf 2 (some .int) :: jk_WA) (jk_rx 7 1 6 121) [.ref a_t, jk_V x1] (wd_KR_parentOf cI a_t a_t_input a_t_output a_t_topics a_t_cords a_t_draftTopics a_t_draft a_t_saved a_t_history a_t_script a_t_cords_starts a_t_cords_depth a_t_cords_topic a_t_cords_value a_t_cords_nibbled a_t_cords_depth_k i_t_hasSaved i_t_reportedCode i_t_reportedOffset i_t_cords_clusters i_t_cords_size i_t_cords_depth) (Sum.map id (fun (z : Int) => ((z : Int), wd_KR_parentOf cI a_t a_t_input a_t_output a_t_topics a_t_cords a_t_draftTopics a_t_draft a_t_saved a_t_history a_t_script a_t_cords_starts a_t_cords_depth a_t_cords_topic a_t_cords_value a_t_cords_nibbled a_t_cords_depth_k i_t_hasSaved i_t_reportedCode i_t_reportedOffset i_t_cords_clusters i_t_cords_size i_t_cords_depth)) q) 1 6 := by
  intro sz
  refine jk_xbody (by decide +kernel) (fun p e s m args below meth c hsz hz hnh C => ?_) (Nat.le_of_ble_eq_true rfl)
  subst hsz
  unfold fn_KR_parentOf at hf
  refine jk_aload_n C rd_KR_parentOf_0 (k := 0) rfl ?_
  refine jk_iload_n C rd_KR_parentOf_1 (k := 1) rfl ?_
  obtain ⟨q2, hq2, hf⟩ := jk_bind_h hf
  rcases q2 with k2 | q2
  · replace hf : (some (Sum.inl k2) : Option (Nat ⊕ (Int))) = some q := hf
    cases hf
    exact jk_callXv_t C hZ.1 hz hnh rfl rfl rfl rfl (ct_KR_requireCord l D Z sq hZ hl cI cR a_t a_t_input a_t_output a_t_topics a_t_cords a_t_draftTopics a_t_draft a_t_saved a_t_history a_t_script a_t_cords_starts a_t_cords_depth a_t_cords_topic a_t_cords_value a_t_cords_nibbled i_t_hasSaved i_t_reportedCode i_t_reportedOffset i_t_cords_clusters i_t_cords_size x1 _ hq2) tm_875 tm_877 sl_16 tm_1 tm_878 na_KR_requireCord ⟨Nat.le_of_ble_eq_true rfl, Nat.le_of_ble_eq_true rfl⟩ rfl [0, 1] rfl rfl rfl 0 10 rfl rfl rfl (st := []) rfl (Nat.le_of_ble_eq_true rfl) rd_KR_parentOf_2 ⟨Nat.le_of_ble_eq_true rfl, Nat.le_of_ble_eq_true rfl⟩ (Nat.le_of_ble_eq_true rfl) (Nat.le_of_ble_eq_true rfl)
  · refine jk_callXv_r C hZ.1 hz rfl (ct_KR_requireCord l D Z sq hZ hl cI cR a_t a_t_input a_t_output a_t_topics a_t_cords a_t_draftTopics a_t_draft a_t_saved a_t_history a_t_script a_t_cords_starts a_t_cords_depth a_t_cords_topic a_t_cords_value a_t_cords_nibbled i_t_hasSaved i_t_reportedCode i_t_reportedOffset i_t_cords_clusters i_t_cords_size x1 _ hq2) tm_875 tm_877 sl_16 tm_1 tm_878 na_KR_requireCord ⟨Nat.le_of_ble_eq_true rfl, Nat.le_of_ble_eq_true rfl⟩ rfl [0, 1] rfl rfl rfl (ws' := wd_KR_parentOf cI a_t a_t_input a_t_output a_t_topics a_t_cords a_t_draftTopics a_t_draft a_t_saved a_t_history a_t_script a_t_cords_starts a_t_cords_depth a_t_cords_topic a_t_cords_value a_t_cords_nibbled a_t_cords_depth_k i_t_hasSaved i_t_reportedCode i_t_reportedOffset i_t_cords_clusters i_t_cords_size i_t_cords_depth) rfl 0 10 rfl rfl rfl (st := []) rfl (Nat.le_of_ble_eq_true rfl) rd_KR_parentOf_2 ⟨Nat.le_of_ble_eq_true rfl, Nat.le_of_ble_eq_true rfl⟩ ?_
    refine jk_aload_n C rd_KR_parentOf_5 (k := 0) rfl ?_
    refine jk_get C in_KR (ci := 10) rfl 3 (by decide) tm_427 0 rfl rfl rd_KR_parentOf_6 ?_
    refine jk_iload_n C rd_KR_parentOf_9 (k := 1) rfl ?_
    obtain ⟨q10, hq10, hf⟩ := jk_bind_h hf
    refine jk_callVi C hZ.1 hz (ct_Cords_parent l D Z sq hZ cI cR a_t_cords a_t_cords_starts a_t_cords_depth a_t_cords_topic a_t_cords_value a_t_cords_nibbled a_t_cords_depth_k i_t_cords_clusters i_t_cords_size i_t_cords_depth x1 q10 hq10) tm_894 tm_895 tm_896 tm_6 tm_897 na_Cords_parent ⟨Nat.le_of_ble_eq_true rfl, Nat.le_of_ble_eq_true rfl⟩ rfl [1, 2, 3] rfl rfl rfl (ws' := wd_KR_parentOf cI a_t a_t_input a_t_output a_t_topics a_t_cords a_t_draftTopics a_t_draft a_t_saved a_t_history a_t_script a_t_cords_starts a_t_cords_depth a_t_cords_topic a_t_cords_value a_t_cords_nibbled a_t_cords_depth_k i_t_hasSaved i_t_reportedCode i_t_reportedOffset i_t_cords_clusters i_t_cords_size i_t_cords_depth) rfl 1 5 rfl rfl rfl (st := []) rfl (Nat.le_of_ble_eq_true rfl) rd_KR_parentOf_10 ?_ ⟨Nat.le_of_ble_eq_true rfl, Nat.le_of_ble_eq_true rfl⟩
    cases hf
    exact jk_xiret C rfl rfl (Nat.le_of_ble_eq_true rfl) (Nat.le_of_ble_eq_true rfl) rd_KR_parentOf_13
def wd_KR_topicOf (cI : ClassId) (a_t a_t_input a_t_output a_t_topics a_t_cords a_t_draftTopics a_t_draft a_t_saved a_t_history a_t_script a_t_cords_starts a_t_cords_depth a_t_cords_topic a_t_cords_value a_t_cords_nibbled a_t_cords_topic_k : Nat) (i_t_hasSaved : Int) (i_t_reportedCode : Int) (i_t_reportedOffset : Int) (i_t_cords_clusters : Int) (i_t_cords_size : Int) (i_t_cords_topic : (Int → Int)) : va_W := [(a_t, .inr (10, [.ref a_t_input, .ref a_t_output, .ref a_t_topics, .ref a_t_cords, .ref a_t_draftTopics, .ref a_t_draft, .ref a_t_saved, .ref a_t_history, .ref a_t_script, jk_V i_t_hasSaved, jk_V i_t_reportedCode, jk_V i_t_reportedOffset])), (a_t_cords, .inr (5, [jk_V i_t_cords_clusters, jk_V i_t_cords_size, .ref a_t_cords_starts, .ref a_t_cords_depth, .ref a_t_cords_topic, .ref a_t_cords_value, .ref a_t_cords_nibbled])), (a_t_cords_topic, .inr (0, [.ref a_t_cords_topic_k])), (a_t_cords_topic_k, jk_W cI 40 i_t_cords_topic)]
set_option maxHeartbeats 4000000 in
set_option maxRecDepth 20000 in
theorem ct_KR_topicOf (l : Launch) (D : va_G) (Z : (Nat → Prop) → State → Heap → Prop) (sq : Nat → Nat) (hZ : jk_ZK Z sq) (hl : l.stackTraces = false) (cI cR : ClassId) (a_t a_t_input a_t_output a_t_topics a_t_cords a_t_draftTopics a_t_draft a_t_saved a_t_history a_t_script a_t_cords_starts a_t_cords_depth a_t_cords_topic a_t_cords_value a_t_cords_nibbled a_t_cords_topic_k : Nat) (i_t_hasSaved : Int) (i_t_reportedCode : Int) (i_t_reportedOffset : Int) (i_t_cords_clusters : Int) (i_t_cords_size : Int) (i_t_cords_topic : (Int → Int)) (x1 : Int) (q : Nat ⊕ (Int)) (hf : fn_KR_topicOf i_t_cords_size i_t_cords_topic x1 = some q) : jk_XI l D jk_cl (jk_ty cI cR) Z mn_KR_topicOf (.code mn_KR_topicOf mb_KR_topicOf 2 (some .int) :: jk_WA) (jk_rx 7 1 6 121) [.ref a_t, jk_V x1] (wd_KR_topicOf cI a_t a_t_input a_t_output a_t_topics a_t_cords a_t_draftTopics a_t_draft a_t_saved a_t_history a_t_script a_t_cords_starts a_t_cords_depth a_t_cords_topic a_t_cords_value a_t_cords_nibbled a_t_cords_topic_k i_t_hasSaved i_t_reportedCode i_t_reportedOffset i_t_cords_clusters i_t_cords_size i_t_cords_topic) (Sum.map id (fun (z : Int) => ((z : Int), wd_KR_topicOf cI a_t a_t_input a_t_output a_t_topics a_t_cords a_t_draftTopics a_t_draft a_t_saved a_t_history a_t_script a_t_cords_starts a_t_cords_depth a_t_cords_topic a_t_cords_value a_t_cords_nibbled a_t_cords_topic_k i_t_hasSaved i_t_reportedCode i_t_reportedOffset i_t_cords_clusters i_t_cords_size i_t_cords_topic)) q) 1 6 := by
  intro sz
  refine jk_xbody (by decide +kernel) (fun p e s m args below meth c hsz hz hnh C => ?_) (Nat.le_of_ble_eq_true rfl)
  subst hsz
  unfold fn_KR_topicOf at hf
  refine jk_aload_n C rd_KR_topicOf_0 (k := 0) rfl ?_
  refine jk_iload_n C rd_KR_topicOf_1 (k := 1) rfl ?_
  obtain ⟨q2, hq2, hf⟩ := jk_bind_h hf
  rcases q2 with k2 | q2
  · replace hf : (some (Sum.inl k2) : Option (Nat ⊕ (Int))) = some q := hf
    cases hf
    exact jk_callXv_t C hZ.1 hz hnh rfl rfl rfl rfl (ct_KR_requireCord l D Z sq hZ hl cI cR a_t a_t_input a_t_output a_t_topics a_t_cords a_t_draftTopics a_t_draft a_t_saved a_t_history a_t_script a_t_cords_starts a_t_cords_depth a_t_cords_topic a_t_cords_value a_t_cords_nibbled i_t_hasSaved i_t_reportedCode i_t_reportedOffset i_t_cords_clusters i_t_cords_size x1 _ hq2) tm_875 tm_877 sl_16 tm_1 tm_878 na_KR_requireCord ⟨Nat.le_of_ble_eq_true rfl, Nat.le_of_ble_eq_true rfl⟩ rfl [0, 1] rfl rfl rfl 0 10 rfl rfl rfl (st := []) rfl (Nat.le_of_ble_eq_true rfl) rd_KR_topicOf_2 ⟨Nat.le_of_ble_eq_true rfl, Nat.le_of_ble_eq_true rfl⟩ (Nat.le_of_ble_eq_true rfl) (Nat.le_of_ble_eq_true rfl)
  · refine jk_callXv_r C hZ.1 hz rfl (ct_KR_requireCord l D Z sq hZ hl cI cR a_t a_t_input a_t_output a_t_topics a_t_cords a_t_draftTopics a_t_draft a_t_saved a_t_history a_t_script a_t_cords_starts a_t_cords_depth a_t_cords_topic a_t_cords_value a_t_cords_nibbled i_t_hasSaved i_t_reportedCode i_t_reportedOffset i_t_cords_clusters i_t_cords_size x1 _ hq2) tm_875 tm_877 sl_16 tm_1 tm_878 na_KR_requireCord ⟨Nat.le_of_ble_eq_true rfl, Nat.le_of_ble_eq_true rfl⟩ rfl [0, 1] rfl rfl rfl (ws' := wd_KR_topicOf cI a_t a_t_input a_t_output a_t_topics a_t_cords a_t_draftTopics a_t_draft a_t_saved a_t_history a_t_script a_t_cords_starts a_t_cords_depth a_t_cords_topic a_t_cords_value a_t_cords_nibbled a_t_cords_topic_k i_t_hasSaved i_t_reportedCode i_t_reportedOffset i_t_cords_clusters i_t_cords_size i_t_cords_topic) rfl 0 10 rfl rfl rfl (st := []) rfl (Nat.le_of_ble_eq_true rfl) rd_KR_topicOf_2 ⟨Nat.le_of_ble_eq_true rfl, Nat.le_of_ble_eq_true rfl⟩ ?_
    refine jk_aload_n C rd_KR_topicOf_5 (k := 0) rfl ?_
    refine jk_get C in_KR (ci := 10) rfl 3 (by decide) tm_427 0 rfl rfl rd_KR_topicOf_6 ?_
    refine jk_getN C in_Cords (ci := 5) rfl 4 (by decide) (jk_nw hZ hz tn_19) 1 rfl rfl rd_KR_topicOf_9 ?_
    refine jk_iload_n C rd_KR_topicOf_12 (k := 1) rfl ?_
    obtain ⟨q13, hq13, hf⟩ := jk_bind_h hf
    refine jk_callVi C hZ.1 hz (ct_Row_get l D Z sq hZ cI cR (n_t := 40) (Nat.le_of_ble_eq_true rfl) a_t_cords_topic a_t_cords_topic_k i_t_cords_topic x1 q13 hq13) tm_549 tm_292 tm_293 tm_3 tm_294 na_Row_get ⟨Nat.le_of_ble_eq_true rfl, Nat.le_of_ble_eq_true rfl⟩ rfl [2, 3] rfl rfl rfl (ws' := wd_KR_topicOf cI a_t a_t_input a_t_output a_t_topics a_t_cords a_t_draftTopics a_t_draft a_t_saved a_t_history a_t_script a_t_cords_starts a_t_cords_depth a_t_cords_topic a_t_cords_value a_t_cords_nibbled a_t_cords_topic_k i_t_hasSaved i_t_reportedCode i_t_reportedOffset i_t_cords_clusters i_t_cords_size i_t_cords_topic) rfl 2 0 rfl rfl rfl (st := []) rfl (Nat.le_of_ble_eq_true rfl) rd_KR_topicOf_13 ?_ ⟨Nat.le_of_ble_eq_true rfl, Nat.le_of_ble_eq_true rfl⟩
    cases hf
    exact jk_xiret C rfl rfl (Nat.le_of_ble_eq_true rfl) (Nat.le_of_ble_eq_true rfl) rd_KR_topicOf_16
