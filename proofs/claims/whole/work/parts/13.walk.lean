theorem rd_Text_sortAt_0 : decode mb_Text_sortAt 0 = .ok (.iload_n 1, 1) := by decide +kernel
theorem rd_Text_sortAt_1 : decode mb_Text_sortAt 1 = .ok (.aload_n 0, 1) := by decide +kernel
theorem rd_Text_sortAt_2 : decode mb_Text_sortAt 2 = .ok (.getfield 20, 3) := by decide +kernel
theorem rd_Text_sortAt_5 : decode mb_Text_sortAt 5 = .ok (.if_icmp .lt 5, 3) := by decide +kernel
theorem rd_Text_sortAt_8 : decode mb_Text_sortAt 8 = .ok (.iconst 0, 1) := by decide +kernel
theorem rd_Text_sortAt_9 : decode mb_Text_sortAt 9 = .ok (.ireturn, 1) := by decide +kernel
theorem rd_Text_sortAt_10 : decode mb_Text_sortAt 10 = .ok (.aload_n 0, 1) := by decide +kernel
theorem rd_Text_sortAt_11 : decode mb_Text_sortAt 11 = .ok (.getfield 14, 3) := by decide +kernel
theorem rd_Text_sortAt_14 : decode mb_Text_sortAt 14 = .ok (.iload_n 1, 1) := by decide +kernel
theorem rd_Text_sortAt_15 : decode mb_Text_sortAt 15 = .ok (.invokevirtual 59, 3) := by decide +kernel
theorem rd_Text_sortAt_18 : decode mb_Text_sortAt 18 = .ok (.istore_n 2, 1) := by decide +kernel
theorem rd_Text_sortAt_19 : decode mb_Text_sortAt 19 = .ok (.iload_n 2, 1) := by decide +kernel
theorem rd_Text_sortAt_20 : decode mb_Text_sortAt 20 = .ok (.bipush 32, 2) := by decide +kernel
theorem rd_Text_sortAt_22 : decode mb_Text_sortAt 22 = .ok (.if_icmp .eq 9, 3) := by decide +kernel
theorem rd_Text_sortAt_25 : decode mb_Text_sortAt 25 = .ok (.iload_n 2, 1) := by decide +kernel
theorem rd_Text_sortAt_26 : decode mb_Text_sortAt 26 = .ok (.bipush 10, 2) := by decide +kernel
theorem rd_Text_sortAt_28 : decode mb_Text_sortAt 28 = .ok (.if_icmp .ne 5, 3) := by decide +kernel
theorem rd_Text_sortAt_31 : decode mb_Text_sortAt 31 = .ok (.iconst 1, 1) := by decide +kernel
theorem rd_Text_sortAt_32 : decode mb_Text_sortAt 32 = .ok (.ireturn, 1) := by decide +kernel
theorem rd_Text_sortAt_33 : decode mb_Text_sortAt 33 = .ok (.iload_n 2, 1) := by decide +kernel
theorem rd_Text_sortAt_34 : decode mb_Text_sortAt 34 = .ok (.bipush 97, 2) := by decide +kernel
theorem rd_Text_sortAt_36 : decode mb_Text_sortAt 36 = .ok (.if_icmp .lt 11, 3) := by decide +kernel
theorem rd_Text_sortAt_39 : decode mb_Text_sortAt 39 = .ok (.iload_n 2, 1) := by decide +kernel
theorem rd_Text_sortAt_40 : decode mb_Text_sortAt 40 = .ok (.bipush 122, 2) := by decide +kernel
theorem rd_Text_sortAt_42 : decode mb_Text_sortAt 42 = .ok (.if_icmp .gt 5, 3) := by decide +kernel
theorem rd_Text_sortAt_45 : decode mb_Text_sortAt 45 = .ok (.iconst 2, 1) := by decide +kernel
theorem rd_Text_sortAt_46 : decode mb_Text_sortAt 46 = .ok (.ireturn, 1) := by decide +kernel
theorem rd_Text_sortAt_47 : decode mb_Text_sortAt 47 = .ok (.iload_n 2, 1) := by decide +kernel
theorem rd_Text_sortAt_48 : decode mb_Text_sortAt 48 = .ok (.bipush 48, 2) := by decide +kernel
theorem rd_Text_sortAt_50 : decode mb_Text_sortAt 50 = .ok (.if_icmp .lt 11, 3) := by decide +kernel
theorem rd_Text_sortAt_53 : decode mb_Text_sortAt 53 = .ok (.iload_n 2, 1) := by decide +kernel
theorem rd_Text_sortAt_54 : decode mb_Text_sortAt 54 = .ok (.bipush 57, 2) := by decide +kernel
theorem rd_Text_sortAt_56 : decode mb_Text_sortAt 56 = .ok (.if_icmp .gt 5, 3) := by decide +kernel
theorem rd_Text_sortAt_59 : decode mb_Text_sortAt 59 = .ok (.iconst 3, 1) := by decide +kernel
theorem rd_Text_sortAt_60 : decode mb_Text_sortAt 60 = .ok (.ireturn, 1) := by decide +kernel
theorem rd_Text_sortAt_61 : decode mb_Text_sortAt 61 = .ok (.iload_n 2, 1) := by decide +kernel
theorem rd_Text_sortAt_62 : decode mb_Text_sortAt 62 = .ok (.bipush 59, 2) := by decide +kernel
theorem rd_Text_sortAt_64 : decode mb_Text_sortAt 64 = .ok (.if_icmp .ne 7, 3) := by decide +kernel
theorem rd_Text_sortAt_67 : decode mb_Text_sortAt 67 = .ok (.iconst 4, 1) := by decide +kernel
theorem rd_Text_sortAt_68 : decode mb_Text_sortAt 68 = .ok (.goto 4, 3) := by decide +kernel
theorem rd_Text_sortAt_71 : decode mb_Text_sortAt 71 = .ok (.iconst 5, 1) := by decide +kernel
theorem rd_Text_sortAt_72 : decode mb_Text_sortAt 72 = .ok (.ireturn, 1) := by decide +kernel
theorem rd_Text_next_0 : decode mb_Text_next 0 = .ok (.aload_n 0, 1) := by decide +kernel
theorem rd_Text_next_1 : decode mb_Text_next 1 = .ok (.aload_n 0, 1) := by decide +kernel
theorem rd_Text_next_2 : decode mb_Text_next 2 = .ok (.getfield 30, 3) := by decide +kernel
theorem rd_Text_next_5 : decode mb_Text_next 5 = .ok (.putfield 27, 3) := by decide +kernel
theorem rd_Text_next_8 : decode mb_Text_next 8 = .ok (.aload_n 0, 1) := by decide +kernel
theorem rd_Text_next_9 : decode mb_Text_next 9 = .ok (.getfield 27, 3) := by decide +kernel
theorem rd_Text_next_12 : decode mb_Text_next 12 = .ok (.aload_n 0, 1) := by decide +kernel
theorem rd_Text_next_13 : decode mb_Text_next 13 = .ok (.getfield 20, 3) := by decide +kernel
theorem rd_Text_next_16 : decode mb_Text_next 16 = .ok (.if_icmp .ge 28, 3) := by decide +kernel
theorem rd_Text_next_19 : decode mb_Text_next 19 = .ok (.aload_n 0, 1) := by decide +kernel
theorem rd_Text_next_20 : decode mb_Text_next 20 = .ok (.aload_n 0, 1) := by decide +kernel
theorem rd_Text_next_21 : decode mb_Text_next 21 = .ok (.getfield 27, 3) := by decide +kernel
theorem rd_Text_next_24 : decode mb_Text_next 24 = .ok (.invokevirtual 55, 3) := by decide +kernel
theorem rd_Text_next_27 : decode mb_Text_next 27 = .ok (.iconst 1, 1) := by decide +kernel
theorem rd_Text_next_28 : decode mb_Text_next 28 = .ok (.if_icmp .ne 16, 3) := by decide +kernel
theorem rd_Text_next_31 : decode mb_Text_next 31 = .ok (.aload_n 0, 1) := by decide +kernel
theorem rd_Text_next_32 : decode mb_Text_next 32 = .ok (.dup, 1) := by decide +kernel
theorem rd_Text_next_33 : decode mb_Text_next 33 = .ok (.getfield 27, 3) := by decide +kernel
theorem rd_Text_next_36 : decode mb_Text_next 36 = .ok (.iconst 1, 1) := by decide +kernel
theorem rd_Text_next_37 : decode mb_Text_next 37 = .ok (.iadd, 1) := by decide +kernel
theorem rd_Text_next_38 : decode mb_Text_next 38 = .ok (.putfield 27, 3) := by decide +kernel
theorem rd_Text_next_41 : decode mb_Text_next 41 = .ok (.goto (-33), 3) := by decide +kernel
theorem rd_Text_next_44 : decode mb_Text_next 44 = .ok (.aload_n 0, 1) := by decide +kernel
theorem rd_Text_next_45 : decode mb_Text_next 45 = .ok (.aload_n 0, 1) := by decide +kernel
theorem rd_Text_next_46 : decode mb_Text_next 46 = .ok (.aload_n 0, 1) := by decide +kernel
theorem rd_Text_next_47 : decode mb_Text_next 47 = .ok (.getfield 27, 3) := by decide +kernel
theorem rd_Text_next_50 : decode mb_Text_next 50 = .ok (.invokevirtual 55, 3) := by decide +kernel
theorem rd_Text_next_53 : decode mb_Text_next 53 = .ok (.putfield 24, 3) := by decide +kernel
theorem rd_Text_next_56 : decode mb_Text_next 56 = .ok (.aload_n 0, 1) := by decide +kernel
theorem rd_Text_next_57 : decode mb_Text_next 57 = .ok (.aload_n 0, 1) := by decide +kernel
theorem rd_Text_next_58 : decode mb_Text_next 58 = .ok (.getfield 27, 3) := by decide +kernel
theorem rd_Text_next_61 : decode mb_Text_next 61 = .ok (.aload_n 0, 1) := by decide +kernel
theorem rd_Text_next_62 : decode mb_Text_next 62 = .ok (.getfield 20, 3) := by decide +kernel
theorem rd_Text_next_65 : decode mb_Text_next 65 = .ok (.if_icmp .ge 12, 3) := by decide +kernel
theorem rd_Text_next_68 : decode mb_Text_next 68 = .ok (.aload_n 0, 1) := by decide +kernel
theorem rd_Text_next_69 : decode mb_Text_next 69 = .ok (.getfield 27, 3) := by decide +kernel
theorem rd_Text_next_72 : decode mb_Text_next 72 = .ok (.iconst 1, 1) := by decide +kernel
theorem rd_Text_next_73 : decode mb_Text_next 73 = .ok (.iadd, 1) := by decide +kernel
theorem rd_Text_next_74 : decode mb_Text_next 74 = .ok (.goto 7, 3) := by decide +kernel
theorem rd_Text_next_77 : decode mb_Text_next 77 = .ok (.aload_n 0, 1) := by decide +kernel
theorem rd_Text_next_78 : decode mb_Text_next 78 = .ok (.getfield 27, 3) := by decide +kernel
theorem rd_Text_next_81 : decode mb_Text_next 81 = .ok (.putfield 30, 3) := by decide +kernel
theorem rd_Text_next_84 : decode mb_Text_next 84 = .ok (.aload_n 0, 1) := by decide +kernel
theorem rd_Text_next_85 : decode mb_Text_next 85 = .ok (.getfield 24, 3) := by decide +kernel
theorem rd_Text_next_88 : decode mb_Text_next 88 = .ok (.iconst 2, 1) := by decide +kernel
theorem rd_Text_next_89 : decode mb_Text_next 89 = .ok (.if_icmp .eq 11, 3) := by decide +kernel
theorem rd_Text_next_92 : decode mb_Text_next 92 = .ok (.aload_n 0, 1) := by decide +kernel
theorem rd_Text_next_93 : decode mb_Text_next 93 = .ok (.getfield 24, 3) := by decide +kernel
theorem rd_Text_next_96 : decode mb_Text_next 96 = .ok (.iconst 3, 1) := by decide +kernel
theorem rd_Text_next_97 : decode mb_Text_next 97 = .ok (.if_icmp .ne 7, 3) := by decide +kernel
theorem rd_Text_next_100 : decode mb_Text_next 100 = .ok (.iconst 1, 1) := by decide +kernel
theorem rd_Text_next_101 : decode mb_Text_next 101 = .ok (.goto 4, 3) := by decide +kernel
theorem rd_Text_next_104 : decode mb_Text_next 104 = .ok (.iconst 0, 1) := by decide +kernel
theorem rd_Text_next_105 : decode mb_Text_next 105 = .ok (.istore_n 1, 1) := by decide +kernel
theorem rd_Text_next_106 : decode mb_Text_next 106 = .ok (.iload_n 1, 1) := by decide +kernel
theorem rd_Text_next_107 : decode mb_Text_next 107 = .ok (.ifCond .eq 42, 3) := by decide +kernel
theorem rd_Text_next_110 : decode mb_Text_next 110 = .ok (.aload_n 0, 1) := by decide +kernel
theorem rd_Text_next_111 : decode mb_Text_next 111 = .ok (.getfield 30, 3) := by decide +kernel
theorem rd_Text_next_114 : decode mb_Text_next 114 = .ok (.aload_n 0, 1) := by decide +kernel
theorem rd_Text_next_115 : decode mb_Text_next 115 = .ok (.getfield 20, 3) := by decide +kernel
theorem rd_Text_next_118 : decode mb_Text_next 118 = .ok (.if_icmp .ge 31, 3) := by decide +kernel
theorem rd_Text_next_121 : decode mb_Text_next 121 = .ok (.aload_n 0, 1) := by decide +kernel
theorem rd_Text_next_122 : decode mb_Text_next 122 = .ok (.aload_n 0, 1) := by decide +kernel
theorem rd_Text_next_123 : decode mb_Text_next 123 = .ok (.getfield 30, 3) := by decide +kernel
theorem rd_Text_next_126 : decode mb_Text_next 126 = .ok (.invokevirtual 55, 3) := by decide +kernel
theorem rd_Text_next_129 : decode mb_Text_next 129 = .ok (.aload_n 0, 1) := by decide +kernel
theorem rd_Text_next_130 : decode mb_Text_next 130 = .ok (.getfield 24, 3) := by decide +kernel
theorem rd_Text_next_133 : decode mb_Text_next 133 = .ok (.if_icmp .ne 16, 3) := by decide +kernel
theorem rd_Text_next_136 : decode mb_Text_next 136 = .ok (.aload_n 0, 1) := by decide +kernel
theorem rd_Text_next_137 : decode mb_Text_next 137 = .ok (.dup, 1) := by decide +kernel
theorem rd_Text_next_138 : decode mb_Text_next 138 = .ok (.getfield 30, 3) := by decide +kernel
theorem rd_Text_next_141 : decode mb_Text_next 141 = .ok (.iconst 1, 1) := by decide +kernel
theorem rd_Text_next_142 : decode mb_Text_next 142 = .ok (.iadd, 1) := by decide +kernel
theorem rd_Text_next_143 : decode mb_Text_next 143 = .ok (.putfield 30, 3) := by decide +kernel
theorem rd_Text_next_146 : decode mb_Text_next 146 = .ok (.goto (-40), 3) := by decide +kernel
theorem rd_Text_next_149 : decode mb_Text_next 149 = .ok (.iload_n 1, 1) := by decide +kernel
theorem rd_Text_next_150 : decode mb_Text_next 150 = .ok (.ifCond .eq 34, 3) := by decide +kernel
theorem rd_Text_next_153 : decode mb_Text_next 153 = .ok (.aload_n 0, 1) := by decide +kernel
theorem rd_Text_next_154 : decode mb_Text_next 154 = .ok (.getfield 30, 3) := by decide +kernel
theorem rd_Text_next_157 : decode mb_Text_next 157 = .ok (.aload_n 0, 1) := by decide +kernel
theorem rd_Text_next_158 : decode mb_Text_next 158 = .ok (.getfield 27, 3) := by decide +kernel
theorem rd_Text_next_161 : decode mb_Text_next 161 = .ok (.isub, 1) := by decide +kernel
theorem rd_Text_next_162 : decode mb_Text_next 162 = .ok (.aload_n 0, 1) := by decide +kernel
theorem rd_Text_next_163 : decode mb_Text_next 163 = .ok (.getfield 24, 3) := by decide +kernel
theorem rd_Text_next_166 : decode mb_Text_next 166 = .ok (.iconst 2, 1) := by decide +kernel
theorem rd_Text_next_167 : decode mb_Text_next 167 = .ok (.if_icmp .ne 8, 3) := by decide +kernel
theorem rd_Text_next_170 : decode mb_Text_next 170 = .ok (.bipush 8, 2) := by decide +kernel
theorem rd_Text_next_172 : decode mb_Text_next 172 = .ok (.goto 4, 3) := by decide +kernel
theorem rd_Text_next_175 : decode mb_Text_next 175 = .ok (.iconst 4, 1) := by decide +kernel
theorem rd_Text_next_176 : decode mb_Text_next 176 = .ok (.if_icmp .le 8, 3) := by decide +kernel
theorem rd_Text_next_179 : decode mb_Text_next 179 = .ok (.aload_n 0, 1) := by decide +kernel
theorem rd_Text_next_180 : decode mb_Text_next 180 = .ok (.iconst 5, 1) := by decide +kernel
theorem rd_Text_next_181 : decode mb_Text_next 181 = .ok (.putfield 24, 3) := by decide +kernel
theorem rd_Text_next_184 : decode mb_Text_next 184 = .ok (.return_, 1) := by decide +kernel
theorem rd_Text_readNumber_0 : decode mb_Text_readNumber 0 = .ok (.aload_n 0, 1) := by decide +kernel
theorem rd_Text_readNumber_1 : decode mb_Text_readNumber 1 = .ok (.invokevirtual 62, 3) := by decide +kernel
theorem rd_Text_readNumber_4 : decode mb_Text_readNumber 4 = .ok (.ifCond .eq 5, 3) := by decide +kernel
theorem rd_Text_readNumber_7 : decode mb_Text_readNumber 7 = .ok (.iconst 0, 1) := by decide +kernel
theorem rd_Text_readNumber_8 : decode mb_Text_readNumber 8 = .ok (.ireturn, 1) := by decide +kernel
theorem rd_Text_readNumber_9 : decode mb_Text_readNumber 9 = .ok (.aload_n 0, 1) := by decide +kernel
theorem rd_Text_readNumber_10 : decode mb_Text_readNumber 10 = .ok (.invokevirtual 66, 3) := by decide +kernel
theorem rd_Text_readNumber_13 : decode mb_Text_readNumber 13 = .ok (.aload_n 0, 1) := by decide +kernel
theorem rd_Text_readNumber_14 : decode mb_Text_readNumber 14 = .ok (.getfield 24, 3) := by decide +kernel
theorem rd_Text_readNumber_17 : decode mb_Text_readNumber 17 = .ok (.iconst 3, 1) := by decide +kernel
theorem rd_Text_readNumber_18 : decode mb_Text_readNumber 18 = .ok (.if_icmp .eq 10, 3) := by decide +kernel
theorem rd_Text_readNumber_21 : decode mb_Text_readNumber 21 = .ok (.aload_n 0, 1) := by decide +kernel
theorem rd_Text_readNumber_22 : decode mb_Text_readNumber 22 = .ok (.iconst 1, 1) := by decide +kernel
theorem rd_Text_readNumber_23 : decode mb_Text_readNumber 23 = .ok (.invokevirtual 69, 3) := by decide +kernel
theorem rd_Text_readNumber_26 : decode mb_Text_readNumber 26 = .ok (.iconst 0, 1) := by decide +kernel
theorem rd_Text_readNumber_27 : decode mb_Text_readNumber 27 = .ok (.ireturn, 1) := by decide +kernel
theorem rd_Text_readNumber_28 : decode mb_Text_readNumber 28 = .ok (.iconst 0, 1) := by decide +kernel
theorem rd_Text_readNumber_29 : decode mb_Text_readNumber 29 = .ok (.istore_n 3, 1) := by decide +kernel
theorem rd_Text_readNumber_30 : decode mb_Text_readNumber 30 = .ok (.aload_n 0, 1) := by decide +kernel
theorem rd_Text_readNumber_31 : decode mb_Text_readNumber 31 = .ok (.getfield 27, 3) := by decide +kernel
theorem rd_Text_readNumber_34 : decode mb_Text_readNumber 34 = .ok (.istore 4, 2) := by decide +kernel
theorem rd_Text_readNumber_36 : decode mb_Text_readNumber 36 = .ok (.iload 4, 2) := by decide +kernel
theorem rd_Text_readNumber_38 : decode mb_Text_readNumber 38 = .ok (.aload_n 0, 1) := by decide +kernel
theorem rd_Text_readNumber_39 : decode mb_Text_readNumber 39 = .ok (.getfield 30, 3) := by decide +kernel
theorem rd_Text_readNumber_42 : decode mb_Text_readNumber 42 = .ok (.if_icmp .ge 27, 3) := by decide +kernel
theorem rd_Text_readNumber_45 : decode mb_Text_readNumber 45 = .ok (.iload_n 3, 1) := by decide +kernel
theorem rd_Text_readNumber_46 : decode mb_Text_readNumber 46 = .ok (.bipush 10, 2) := by decide +kernel
theorem rd_Text_readNumber_48 : decode mb_Text_readNumber 48 = .ok (.imul, 1) := by decide +kernel
theorem rd_Text_readNumber_49 : decode mb_Text_readNumber 49 = .ok (.aload_n 0, 1) := by decide +kernel
theorem rd_Text_readNumber_50 : decode mb_Text_readNumber 50 = .ok (.getfield 14, 3) := by decide +kernel
theorem rd_Text_readNumber_53 : decode mb_Text_readNumber 53 = .ok (.iload 4, 2) := by decide +kernel
theorem rd_Text_readNumber_55 : decode mb_Text_readNumber 55 = .ok (.invokevirtual 59, 3) := by decide +kernel
theorem rd_Text_readNumber_58 : decode mb_Text_readNumber 58 = .ok (.iadd, 1) := by decide +kernel
theorem rd_Text_readNumber_59 : decode mb_Text_readNumber 59 = .ok (.bipush 48, 2) := by decide +kernel
theorem rd_Text_readNumber_61 : decode mb_Text_readNumber 61 = .ok (.isub, 1) := by decide +kernel
theorem rd_Text_readNumber_62 : decode mb_Text_readNumber 62 = .ok (.istore_n 3, 1) := by decide +kernel
theorem rd_Text_readNumber_63 : decode mb_Text_readNumber 63 = .ok (.iinc 4 1, 3) := by decide +kernel
theorem rd_Text_readNumber_66 : decode mb_Text_readNumber 66 = .ok (.goto (-30), 3) := by decide +kernel
theorem rd_Text_readNumber_69 : decode mb_Text_readNumber 69 = .ok (.iload_n 3, 1) := by decide +kernel
theorem rd_Text_readNumber_70 : decode mb_Text_readNumber 70 = .ok (.iload_n 1, 1) := by decide +kernel
theorem rd_Text_readNumber_71 : decode mb_Text_readNumber 71 = .ok (.if_icmp .lt 8, 3) := by decide +kernel
theorem rd_Text_readNumber_74 : decode mb_Text_readNumber 74 = .ok (.iload_n 3, 1) := by decide +kernel
theorem rd_Text_readNumber_75 : decode mb_Text_readNumber 75 = .ok (.iload_n 2, 1) := by decide +kernel
theorem rd_Text_readNumber_76 : decode mb_Text_readNumber 76 = .ok (.if_icmp .le 8, 3) := by decide +kernel
theorem rd_Text_readNumber_79 : decode mb_Text_readNumber 79 = .ok (.aload_n 0, 1) := by decide +kernel
theorem rd_Text_readNumber_80 : decode mb_Text_readNumber 80 = .ok (.iconst 2, 1) := by decide +kernel
theorem rd_Text_readNumber_81 : decode mb_Text_readNumber 81 = .ok (.invokevirtual 69, 3) := by decide +kernel
theorem rd_Text_readNumber_84 : decode mb_Text_readNumber 84 = .ok (.iload_n 3, 1) := by decide +kernel
theorem rd_Text_readNumber_85 : decode mb_Text_readNumber 85 = .ok (.ireturn, 1) := by decide +kernel
theorem rd_Script_readFirst_0 : decode mb_Script_readFirst 0 = .ok (.iload_n 1, 1) := by decide +kernel
theorem rd_Script_readFirst_1 : decode mb_Script_readFirst 1 = .ok (.ifCond .ne 5, 3) := by decide +kernel
theorem rd_Script_readFirst_4 : decode mb_Script_readFirst 4 = .ok (.iconst 0, 1) := by decide +kernel
theorem rd_Script_readFirst_5 : decode mb_Script_readFirst 5 = .ok (.ireturn, 1) := by decide +kernel
theorem rd_Script_readFirst_6 : decode mb_Script_readFirst 6 = .ok (.iload_n 1, 1) := by decide +kernel
theorem rd_Script_readFirst_7 : decode mb_Script_readFirst 7 = .ok (.iconst 1, 1) := by decide +kernel
theorem rd_Script_readFirst_8 : decode mb_Script_readFirst 8 = .ok (.if_icmp .eq 14, 3) := by decide +kernel
theorem rd_Script_readFirst_11 : decode mb_Script_readFirst 11 = .ok (.iload_n 1, 1) := by decide +kernel
theorem rd_Script_readFirst_12 : decode mb_Script_readFirst 12 = .ok (.iconst 4, 1) := by decide +kernel
theorem rd_Script_readFirst_13 : decode mb_Script_readFirst 13 = .ok (.if_icmp .eq 9, 3) := by decide +kernel
theorem rd_Script_readFirst_16 : decode mb_Script_readFirst 16 = .ok (.iload_n 1, 1) := by decide +kernel
theorem rd_Script_readFirst_17 : decode mb_Script_readFirst 17 = .ok (.bipush 8, 2) := by decide +kernel
theorem rd_Script_readFirst_19 : decode mb_Script_readFirst 19 = .ok (.if_icmp .ne 10, 3) := by decide +kernel
theorem rd_Script_readFirst_22 : decode mb_Script_readFirst 22 = .ok (.aload_n 0, 1) := by decide +kernel
theorem rd_Script_readFirst_23 : decode mb_Script_readFirst 23 = .ok (.iconst 0, 1) := by decide +kernel
theorem rd_Script_readFirst_24 : decode mb_Script_readFirst 24 = .ok (.iconst 5, 1) := by decide +kernel
theorem rd_Script_readFirst_25 : decode mb_Script_readFirst 25 = .ok (.invokevirtual 92, 3) := by decide +kernel
theorem rd_Script_readFirst_28 : decode mb_Script_readFirst 28 = .ok (.ireturn, 1) := by decide +kernel
theorem rd_Script_readFirst_29 : decode mb_Script_readFirst 29 = .ok (.aload_n 0, 1) := by decide +kernel
theorem rd_Script_readFirst_30 : decode mb_Script_readFirst 30 = .ok (.iconst 0, 1) := by decide +kernel
theorem rd_Script_readFirst_31 : decode mb_Script_readFirst 31 = .ok (.bipush 39, 2) := by decide +kernel
theorem rd_Script_readFirst_33 : decode mb_Script_readFirst 33 = .ok (.invokevirtual 92, 3) := by decide +kernel
theorem rd_Script_readFirst_36 : decode mb_Script_readFirst 36 = .ok (.ireturn, 1) := by decide +kernel
theorem rd_Text_isWord_0 : decode mb_Text_isWord 0 = .ok (.aload_n 0, 1) := by decide +kernel
theorem rd_Text_isWord_1 : decode mb_Text_isWord 1 = .ok (.getfield 24, 3) := by decide +kernel
theorem rd_Text_isWord_4 : decode mb_Text_isWord 4 = .ok (.iconst 2, 1) := by decide +kernel
theorem rd_Text_isWord_5 : decode mb_Text_isWord 5 = .ok (.if_icmp .ne 19, 3) := by decide +kernel
theorem rd_Text_isWord_8 : decode mb_Text_isWord 8 = .ok (.aload_n 0, 1) := by decide +kernel
theorem rd_Text_isWord_9 : decode mb_Text_isWord 9 = .ok (.getfield 30, 3) := by decide +kernel
theorem rd_Text_isWord_12 : decode mb_Text_isWord 12 = .ok (.aload_n 0, 1) := by decide +kernel
theorem rd_Text_isWord_13 : decode mb_Text_isWord 13 = .ok (.getfield 27, 3) := by decide +kernel
theorem rd_Text_isWord_16 : decode mb_Text_isWord 16 = .ok (.isub, 1) := by decide +kernel
theorem rd_Text_isWord_17 : decode mb_Text_isWord 17 = .ok (.aload_n 1, 1) := by decide +kernel
theorem rd_Text_isWord_18 : decode mb_Text_isWord 18 = .ok (.invokevirtual 39, 3) := by decide +kernel
theorem rd_Text_isWord_21 : decode mb_Text_isWord 21 = .ok (.if_icmp .eq 5, 3) := by decide +kernel
theorem rd_Text_isWord_24 : decode mb_Text_isWord 24 = .ok (.iconst 0, 1) := by decide +kernel
theorem rd_Text_isWord_25 : decode mb_Text_isWord 25 = .ok (.ireturn, 1) := by decide +kernel
theorem rd_Text_isWord_26 : decode mb_Text_isWord 26 = .ok (.iconst 0, 1) := by decide +kernel
theorem rd_Text_isWord_27 : decode mb_Text_isWord 27 = .ok (.istore_n 2, 1) := by decide +kernel
theorem rd_Text_isWord_28 : decode mb_Text_isWord 28 = .ok (.iload_n 2, 1) := by decide +kernel
theorem rd_Text_isWord_29 : decode mb_Text_isWord 29 = .ok (.aload_n 1, 1) := by decide +kernel
theorem rd_Text_isWord_30 : decode mb_Text_isWord 30 = .ok (.invokevirtual 39, 3) := by decide +kernel
theorem rd_Text_isWord_33 : decode mb_Text_isWord 33 = .ok (.if_icmp .ge 32, 3) := by decide +kernel
theorem rd_Text_isWord_36 : decode mb_Text_isWord 36 = .ok (.aload_n 0, 1) := by decide +kernel
theorem rd_Text_isWord_37 : decode mb_Text_isWord 37 = .ok (.getfield 14, 3) := by decide +kernel
theorem rd_Text_isWord_40 : decode mb_Text_isWord 40 = .ok (.aload_n 0, 1) := by decide +kernel
theorem rd_Text_isWord_41 : decode mb_Text_isWord 41 = .ok (.getfield 27, 3) := by decide +kernel
theorem rd_Text_isWord_44 : decode mb_Text_isWord 44 = .ok (.iload_n 2, 1) := by decide +kernel
theorem rd_Text_isWord_45 : decode mb_Text_isWord 45 = .ok (.iadd, 1) := by decide +kernel
theorem rd_Text_isWord_46 : decode mb_Text_isWord 46 = .ok (.invokevirtual 59, 3) := by decide +kernel
theorem rd_Text_isWord_49 : decode mb_Text_isWord 49 = .ok (.aload_n 1, 1) := by decide +kernel
theorem rd_Text_isWord_50 : decode mb_Text_isWord 50 = .ok (.iload_n 2, 1) := by decide +kernel
theorem rd_Text_isWord_51 : decode mb_Text_isWord 51 = .ok (.invokevirtual 44, 3) := by decide +kernel
theorem rd_Text_isWord_54 : decode mb_Text_isWord 54 = .ok (.if_icmp .eq 5, 3) := by decide +kernel
theorem rd_Text_isWord_57 : decode mb_Text_isWord 57 = .ok (.iconst 0, 1) := by decide +kernel
theorem rd_Text_isWord_58 : decode mb_Text_isWord 58 = .ok (.ireturn, 1) := by decide +kernel
theorem rd_Text_isWord_59 : decode mb_Text_isWord 59 = .ok (.iinc 2 1, 3) := by decide +kernel
theorem rd_Text_isWord_62 : decode mb_Text_isWord 62 = .ok (.goto (-34), 3) := by decide +kernel
theorem rd_Text_isWord_65 : decode mb_Text_isWord 65 = .ok (.iconst 1, 1) := by decide +kernel
theorem rd_Text_isWord_66 : decode mb_Text_isWord 66 = .ok (.ireturn, 1) := by decide +kernel
theorem rd_Script_kindOf_0 : decode mb_Script_kindOf 0 = .ok (.aload_n 0, 1) := by decide +kernel
theorem rd_Script_kindOf_1 : decode mb_Script_kindOf 1 = .ok (.ldc 70, 2) := by decide +kernel
theorem rd_Script_kindOf_3 : decode mb_Script_kindOf 3 = .ok (.invokevirtual 72, 3) := by decide +kernel
theorem rd_Script_kindOf_6 : decode mb_Script_kindOf 6 = .ok (.ifCond .eq 5, 3) := by decide +kernel
theorem rd_Script_kindOf_9 : decode mb_Script_kindOf 9 = .ok (.iconst 0, 1) := by decide +kernel
theorem rd_Script_kindOf_10 : decode mb_Script_kindOf 10 = .ok (.ireturn, 1) := by decide +kernel
theorem rd_Script_kindOf_11 : decode mb_Script_kindOf 11 = .ok (.aload_n 0, 1) := by decide +kernel
theorem rd_Script_kindOf_12 : decode mb_Script_kindOf 12 = .ok (.ldc 76, 2) := by decide +kernel
theorem rd_Script_kindOf_14 : decode mb_Script_kindOf 14 = .ok (.invokevirtual 72, 3) := by decide +kernel
theorem rd_Script_kindOf_17 : decode mb_Script_kindOf 17 = .ok (.ifCond .eq 5, 3) := by decide +kernel
theorem rd_Script_kindOf_20 : decode mb_Script_kindOf 20 = .ok (.iconst 1, 1) := by decide +kernel
theorem rd_Script_kindOf_21 : decode mb_Script_kindOf 21 = .ok (.ireturn, 1) := by decide +kernel
theorem rd_Script_kindOf_22 : decode mb_Script_kindOf 22 = .ok (.aload_n 0, 1) := by decide +kernel
theorem rd_Script_kindOf_23 : decode mb_Script_kindOf 23 = .ok (.ldc 78, 2) := by decide +kernel
theorem rd_Script_kindOf_25 : decode mb_Script_kindOf 25 = .ok (.invokevirtual 72, 3) := by decide +kernel
theorem rd_Script_kindOf_28 : decode mb_Script_kindOf 28 = .ok (.ifCond .eq 5, 3) := by decide +kernel
theorem rd_Script_kindOf_31 : decode mb_Script_kindOf 31 = .ok (.iconst 2, 1) := by decide +kernel
theorem rd_Script_kindOf_32 : decode mb_Script_kindOf 32 = .ok (.ireturn, 1) := by decide +kernel
theorem rd_Script_kindOf_33 : decode mb_Script_kindOf 33 = .ok (.aload_n 0, 1) := by decide +kernel
theorem rd_Script_kindOf_34 : decode mb_Script_kindOf 34 = .ok (.ldc 80, 2) := by decide +kernel
theorem rd_Script_kindOf_36 : decode mb_Script_kindOf 36 = .ok (.invokevirtual 72, 3) := by decide +kernel
theorem rd_Script_kindOf_39 : decode mb_Script_kindOf 39 = .ok (.ifCond .eq 5, 3) := by decide +kernel
theorem rd_Script_kindOf_42 : decode mb_Script_kindOf 42 = .ok (.iconst 3, 1) := by decide +kernel
theorem rd_Script_kindOf_43 : decode mb_Script_kindOf 43 = .ok (.ireturn, 1) := by decide +kernel
theorem rd_Script_kindOf_44 : decode mb_Script_kindOf 44 = .ok (.aload_n 0, 1) := by decide +kernel
theorem rd_Script_kindOf_45 : decode mb_Script_kindOf 45 = .ok (.ldc 82, 2) := by decide +kernel
theorem rd_Script_kindOf_47 : decode mb_Script_kindOf 47 = .ok (.invokevirtual 72, 3) := by decide +kernel
theorem rd_Script_kindOf_50 : decode mb_Script_kindOf 50 = .ok (.ifCond .eq 5, 3) := by decide +kernel
theorem rd_Script_kindOf_53 : decode mb_Script_kindOf 53 = .ok (.iconst 4, 1) := by decide +kernel
theorem rd_Script_kindOf_54 : decode mb_Script_kindOf 54 = .ok (.ireturn, 1) := by decide +kernel
theorem rd_Script_kindOf_55 : decode mb_Script_kindOf 55 = .ok (.aload_n 0, 1) := by decide +kernel
theorem rd_Script_kindOf_56 : decode mb_Script_kindOf 56 = .ok (.ldc 84, 2) := by decide +kernel
theorem rd_Script_kindOf_58 : decode mb_Script_kindOf 58 = .ok (.invokevirtual 72, 3) := by decide +kernel
theorem rd_Script_kindOf_61 : decode mb_Script_kindOf 61 = .ok (.ifCond .eq 5, 3) := by decide +kernel
theorem rd_Script_kindOf_64 : decode mb_Script_kindOf 64 = .ok (.iconst 5, 1) := by decide +kernel
theorem rd_Script_kindOf_65 : decode mb_Script_kindOf 65 = .ok (.ireturn, 1) := by decide +kernel
theorem rd_Script_kindOf_66 : decode mb_Script_kindOf 66 = .ok (.aload_n 0, 1) := by decide +kernel
theorem rd_Script_kindOf_67 : decode mb_Script_kindOf 67 = .ok (.ldc 86, 2) := by decide +kernel
theorem rd_Script_kindOf_69 : decode mb_Script_kindOf 69 = .ok (.invokevirtual 72, 3) := by decide +kernel
theorem rd_Script_kindOf_72 : decode mb_Script_kindOf 72 = .ok (.ifCond .eq 6, 3) := by decide +kernel
theorem rd_Script_kindOf_75 : decode mb_Script_kindOf 75 = .ok (.bipush 6, 2) := by decide +kernel
theorem rd_Script_kindOf_77 : decode mb_Script_kindOf 77 = .ok (.ireturn, 1) := by decide +kernel
theorem rd_Script_kindOf_78 : decode mb_Script_kindOf 78 = .ok (.aload_n 0, 1) := by decide +kernel
theorem rd_Script_kindOf_79 : decode mb_Script_kindOf 79 = .ok (.ldc 88, 2) := by decide +kernel
theorem rd_Script_kindOf_81 : decode mb_Script_kindOf 81 = .ok (.invokevirtual 72, 3) := by decide +kernel
theorem rd_Script_kindOf_84 : decode mb_Script_kindOf 84 = .ok (.ifCond .eq 6, 3) := by decide +kernel
theorem rd_Script_kindOf_87 : decode mb_Script_kindOf 87 = .ok (.bipush 7, 2) := by decide +kernel
theorem rd_Script_kindOf_89 : decode mb_Script_kindOf 89 = .ok (.ireturn, 1) := by decide +kernel
theorem rd_Script_kindOf_90 : decode mb_Script_kindOf 90 = .ok (.aload_n 0, 1) := by decide +kernel
theorem rd_Script_kindOf_91 : decode mb_Script_kindOf 91 = .ok (.ldc 90, 2) := by decide +kernel
theorem rd_Script_kindOf_93 : decode mb_Script_kindOf 93 = .ok (.invokevirtual 72, 3) := by decide +kernel
theorem rd_Script_kindOf_96 : decode mb_Script_kindOf 96 = .ok (.ifCond .eq 8, 3) := by decide +kernel
theorem rd_Script_kindOf_99 : decode mb_Script_kindOf 99 = .ok (.bipush 8, 2) := by decide +kernel
theorem rd_Script_kindOf_101 : decode mb_Script_kindOf 101 = .ok (.goto 4, 3) := by decide +kernel
theorem rd_Script_kindOf_104 : decode mb_Script_kindOf 104 = .ok (.iconst (-1), 1) := by decide +kernel
theorem rd_Script_kindOf_105 : decode mb_Script_kindOf 105 = .ok (.ireturn, 1) := by decide +kernel
theorem rd_Script_readKind_0 : decode mb_Script_readKind 0 = .ok (.aload_n 1, 1) := by decide +kernel
theorem rd_Script_readKind_1 : decode mb_Script_readKind 1 = .ok (.invokestatic 64, 3) := by decide +kernel
theorem rd_Script_readKind_4 : decode mb_Script_readKind 4 = .ok (.istore_n 2, 1) := by decide +kernel
theorem rd_Script_readKind_5 : decode mb_Script_readKind 5 = .ok (.iload_n 2, 1) := by decide +kernel
theorem rd_Script_readKind_6 : decode mb_Script_readKind 6 = .ok (.iconst (-1), 1) := by decide +kernel
theorem rd_Script_readKind_7 : decode mb_Script_readKind 7 = .ok (.if_icmp .ne 8, 3) := by decide +kernel
theorem rd_Script_readKind_10 : decode mb_Script_readKind 10 = .ok (.aload_n 1, 1) := by decide +kernel
theorem rd_Script_readKind_11 : decode mb_Script_readKind 11 = .ok (.iconst 1, 1) := by decide +kernel
theorem rd_Script_readKind_12 : decode mb_Script_readKind 12 = .ok (.invokevirtual 67, 3) := by decide +kernel
theorem rd_Script_readKind_15 : decode mb_Script_readKind 15 = .ok (.aload_n 0, 1) := by decide +kernel
theorem rd_Script_readKind_16 : decode mb_Script_readKind 16 = .ok (.getfield 9, 3) := by decide +kernel
theorem rd_Script_readKind_19 : decode mb_Script_readKind 19 = .ok (.bipush 30, 2) := by decide +kernel
theorem rd_Script_readKind_21 : decode mb_Script_readKind 21 = .ok (.if_icmp .lt 9, 3) := by decide +kernel
theorem rd_Script_readKind_24 : decode mb_Script_readKind 24 = .ok (.aload_n 1, 1) := by decide +kernel
theorem rd_Script_readKind_25 : decode mb_Script_readKind 25 = .ok (.bipush 6, 2) := by decide +kernel
theorem rd_Script_readKind_27 : decode mb_Script_readKind 27 = .ok (.invokevirtual 67, 3) := by decide +kernel
theorem rd_Script_readKind_30 : decode mb_Script_readKind 30 = .ok (.iload_n 2, 1) := by decide +kernel
theorem rd_Script_readKind_31 : decode mb_Script_readKind 31 = .ok (.ireturn, 1) := by decide +kernel
theorem rd_Text_name_0 : decode mb_Text_name 0 = .ok (.aload_n 0, 1) := by decide +kernel
theorem rd_Text_name_1 : decode mb_Text_name 1 = .ok (.getfield 24, 3) := by decide +kernel
theorem rd_Text_name_4 : decode mb_Text_name 4 = .ok (.iconst 2, 1) := by decide +kernel
theorem rd_Text_name_5 : decode mb_Text_name 5 = .ok (.if_icmp .ne 17, 3) := by decide +kernel
theorem rd_Text_name_8 : decode mb_Text_name 8 = .ok (.aload_n 0, 1) := by decide +kernel
theorem rd_Text_name_9 : decode mb_Text_name 9 = .ok (.getfield 30, 3) := by decide +kernel
theorem rd_Text_name_12 : decode mb_Text_name 12 = .ok (.aload_n 0, 1) := by decide +kernel
theorem rd_Text_name_13 : decode mb_Text_name 13 = .ok (.getfield 27, 3) := by decide +kernel
theorem rd_Text_name_16 : decode mb_Text_name 16 = .ok (.isub, 1) := by decide +kernel
theorem rd_Text_name_17 : decode mb_Text_name 17 = .ok (.bipush 6, 2) := by decide +kernel
theorem rd_Text_name_19 : decode mb_Text_name 19 = .ok (.if_icmp .le 10, 3) := by decide +kernel
theorem rd_Text_name_22 : decode mb_Text_name 22 = .ok (.aload_n 0, 1) := by decide +kernel
theorem rd_Text_name_23 : decode mb_Text_name 23 = .ok (.iconst 1, 1) := by decide +kernel
theorem rd_Text_name_24 : decode mb_Text_name 24 = .ok (.invokevirtual 69, 3) := by decide +kernel
theorem rd_Text_name_27 : decode mb_Text_name 27 = .ok (.iconst 0, 1) := by decide +kernel
theorem rd_Text_name_28 : decode mb_Text_name 28 = .ok (.ireturn, 1) := by decide +kernel
theorem rd_Text_name_29 : decode mb_Text_name 29 = .ok (.iconst 0, 1) := by decide +kernel
theorem rd_Text_name_30 : decode mb_Text_name 30 = .ok (.istore_n 1, 1) := by decide +kernel
theorem rd_Text_name_31 : decode mb_Text_name 31 = .ok (.aload_n 0, 1) := by decide +kernel
theorem rd_Text_name_32 : decode mb_Text_name 32 = .ok (.getfield 30, 3) := by decide +kernel
theorem rd_Text_name_35 : decode mb_Text_name 35 = .ok (.iconst 1, 1) := by decide +kernel
theorem rd_Text_name_36 : decode mb_Text_name 36 = .ok (.isub, 1) := by decide +kernel
theorem rd_Text_name_37 : decode mb_Text_name 37 = .ok (.istore_n 2, 1) := by decide +kernel
theorem rd_Text_name_38 : decode mb_Text_name 38 = .ok (.iload_n 2, 1) := by decide +kernel
theorem rd_Text_name_39 : decode mb_Text_name 39 = .ok (.aload_n 0, 1) := by decide +kernel
theorem rd_Text_name_40 : decode mb_Text_name 40 = .ok (.getfield 27, 3) := by decide +kernel
theorem rd_Text_name_43 : decode mb_Text_name 43 = .ok (.if_icmp .lt 27, 3) := by decide +kernel
theorem rd_Text_name_46 : decode mb_Text_name 46 = .ok (.iload_n 1, 1) := by decide +kernel
theorem rd_Text_name_47 : decode mb_Text_name 47 = .ok (.iconst 5, 1) := by decide +kernel
theorem rd_Text_name_48 : decode mb_Text_name 48 = .ok (.ishl, 1) := by decide +kernel
theorem rd_Text_name_49 : decode mb_Text_name 49 = .ok (.aload_n 0, 1) := by decide +kernel
theorem rd_Text_name_50 : decode mb_Text_name 50 = .ok (.getfield 14, 3) := by decide +kernel
theorem rd_Text_name_53 : decode mb_Text_name 53 = .ok (.iload_n 2, 1) := by decide +kernel
theorem rd_Text_name_54 : decode mb_Text_name 54 = .ok (.invokevirtual 59, 3) := by decide +kernel
theorem rd_Text_name_57 : decode mb_Text_name 57 = .ok (.bipush 97, 2) := by decide +kernel
theorem rd_Text_name_59 : decode mb_Text_name 59 = .ok (.isub, 1) := by decide +kernel
theorem rd_Text_name_60 : decode mb_Text_name 60 = .ok (.iconst 1, 1) := by decide +kernel
theorem rd_Text_name_61 : decode mb_Text_name 61 = .ok (.iadd, 1) := by decide +kernel
theorem rd_Text_name_62 : decode mb_Text_name 62 = .ok (.ior, 1) := by decide +kernel
theorem rd_Text_name_63 : decode mb_Text_name 63 = .ok (.istore_n 1, 1) := by decide +kernel
theorem rd_Text_name_64 : decode mb_Text_name 64 = .ok (.iinc 2 (-1), 3) := by decide +kernel
theorem rd_Text_name_67 : decode mb_Text_name 67 = .ok (.goto (-29), 3) := by decide +kernel
theorem rd_Text_name_70 : decode mb_Text_name 70 = .ok (.iload_n 1, 1) := by decide +kernel
theorem rd_Text_name_71 : decode mb_Text_name 71 = .ok (.ireturn, 1) := by decide +kernel
theorem rd_Topics_find_0 : decode mb_Topics_find 0 = .ok (.iconst 0, 1) := by decide +kernel
theorem rd_Topics_find_1 : decode mb_Topics_find 1 = .ok (.istore_n 2, 1) := by decide +kernel
theorem rd_Topics_find_2 : decode mb_Topics_find 2 = .ok (.iload_n 2, 1) := by decide +kernel
theorem rd_Topics_find_3 : decode mb_Topics_find 3 = .ok (.aload_n 0, 1) := by decide +kernel
theorem rd_Topics_find_4 : decode mb_Topics_find 4 = .ok (.getfield 9, 3) := by decide +kernel
theorem rd_Topics_find_7 : decode mb_Topics_find 7 = .ok (.if_icmp .ge 23, 3) := by decide +kernel
theorem rd_Topics_find_10 : decode mb_Topics_find 10 = .ok (.aload_n 0, 1) := by decide +kernel
theorem rd_Topics_find_11 : decode mb_Topics_find 11 = .ok (.getfield 20, 3) := by decide +kernel
theorem rd_Topics_find_14 : decode mb_Topics_find 14 = .ok (.iload_n 2, 1) := by decide +kernel
theorem rd_Topics_find_15 : decode mb_Topics_find 15 = .ok (.invokevirtual 28, 3) := by decide +kernel
theorem rd_Topics_find_18 : decode mb_Topics_find 18 = .ok (.iload_n 1, 1) := by decide +kernel
theorem rd_Topics_find_19 : decode mb_Topics_find 19 = .ok (.if_icmp .ne 5, 3) := by decide +kernel
theorem rd_Topics_find_22 : decode mb_Topics_find 22 = .ok (.iload_n 2, 1) := by decide +kernel
theorem rd_Topics_find_23 : decode mb_Topics_find 23 = .ok (.ireturn, 1) := by decide +kernel
theorem rd_Topics_find_24 : decode mb_Topics_find 24 = .ok (.iinc 2 1, 3) := by decide +kernel
theorem rd_Topics_find_27 : decode mb_Topics_find 27 = .ok (.goto (-25), 3) := by decide +kernel
theorem rd_Topics_find_30 : decode mb_Topics_find 30 = .ok (.iconst (-1), 1) := by decide +kernel
theorem rd_Topics_find_31 : decode mb_Topics_find 31 = .ok (.ireturn, 1) := by decide +kernel
theorem rd_Text_readTopic_0 : decode mb_Text_readTopic 0 = .ok (.aload_n 0, 1) := by decide +kernel
theorem rd_Text_readTopic_1 : decode mb_Text_readTopic 1 = .ok (.invokevirtual 62, 3) := by decide +kernel
theorem rd_Text_readTopic_4 : decode mb_Text_readTopic 4 = .ok (.ifCond .eq 5, 3) := by decide +kernel
theorem rd_Text_readTopic_7 : decode mb_Text_readTopic 7 = .ok (.iconst 0, 1) := by decide +kernel
theorem rd_Text_readTopic_8 : decode mb_Text_readTopic 8 = .ok (.ireturn, 1) := by decide +kernel
theorem rd_Text_readTopic_9 : decode mb_Text_readTopic 9 = .ok (.aload_n 0, 1) := by decide +kernel
theorem rd_Text_readTopic_10 : decode mb_Text_readTopic 10 = .ok (.invokevirtual 66, 3) := by decide +kernel
theorem rd_Text_readTopic_13 : decode mb_Text_readTopic 13 = .ok (.aload_n 1, 1) := by decide +kernel
theorem rd_Text_readTopic_14 : decode mb_Text_readTopic 14 = .ok (.aload_n 0, 1) := by decide +kernel
theorem rd_Text_readTopic_15 : decode mb_Text_readTopic 15 = .ok (.invokevirtual 72, 3) := by decide +kernel
theorem rd_Text_readTopic_18 : decode mb_Text_readTopic 18 = .ok (.invokevirtual 75, 3) := by decide +kernel
theorem rd_Text_readTopic_21 : decode mb_Text_readTopic 21 = .ok (.istore_n 2, 1) := by decide +kernel
theorem rd_Text_readTopic_22 : decode mb_Text_readTopic 22 = .ok (.iload_n 2, 1) := by decide +kernel
theorem rd_Text_readTopic_23 : decode mb_Text_readTopic 23 = .ok (.iconst (-1), 1) := by decide +kernel
theorem rd_Text_readTopic_24 : decode mb_Text_readTopic 24 = .ok (.if_icmp .ne 8, 3) := by decide +kernel
theorem rd_Text_readTopic_27 : decode mb_Text_readTopic 27 = .ok (.aload_n 0, 1) := by decide +kernel
theorem rd_Text_readTopic_28 : decode mb_Text_readTopic 28 = .ok (.iconst 4, 1) := by decide +kernel
theorem rd_Text_readTopic_29 : decode mb_Text_readTopic 29 = .ok (.invokevirtual 69, 3) := by decide +kernel
theorem rd_Text_readTopic_32 : decode mb_Text_readTopic 32 = .ok (.iload_n 2, 1) := by decide +kernel
theorem rd_Text_readTopic_33 : decode mb_Text_readTopic 33 = .ok (.ireturn, 1) := by decide +kernel
theorem rd_Script_readSecond_0 : decode mb_Script_readSecond 0 = .ok (.iload_n 2, 1) := by decide +kernel
theorem rd_Script_readSecond_1 : decode mb_Script_readSecond 1 = .ok (.tableswitch 63 1 7 #[43, 43, 63, 43, 49, 56, 43], 43) := by decide +kernel
theorem rd_Script_readSecond_44 : decode mb_Script_readSecond 44 = .ok (.aload_n 0, 1) := by decide +kernel
theorem rd_Script_readSecond_45 : decode mb_Script_readSecond 45 = .ok (.aload_n 1, 1) := by decide +kernel
theorem rd_Script_readSecond_46 : decode mb_Script_readSecond 46 = .ok (.invokevirtual 96, 3) := by decide +kernel
theorem rd_Script_readSecond_49 : decode mb_Script_readSecond 49 = .ok (.ireturn, 1) := by decide +kernel
theorem rd_Script_readSecond_50 : decode mb_Script_readSecond 50 = .ok (.aload_n 0, 1) := by decide +kernel
theorem rd_Script_readSecond_51 : decode mb_Script_readSecond 51 = .ok (.iconst 0, 1) := by decide +kernel
theorem rd_Script_readSecond_52 : decode mb_Script_readSecond 52 = .ok (.iconst 3, 1) := by decide +kernel
theorem rd_Script_readSecond_53 : decode mb_Script_readSecond 53 = .ok (.invokevirtual 92, 3) := by decide +kernel
theorem rd_Script_readSecond_56 : decode mb_Script_readSecond 56 = .ok (.ireturn, 1) := by decide +kernel
theorem rd_Script_readSecond_57 : decode mb_Script_readSecond 57 = .ok (.aload_n 0, 1) := by decide +kernel
theorem rd_Script_readSecond_58 : decode mb_Script_readSecond 58 = .ok (.iconst 1, 1) := by decide +kernel
theorem rd_Script_readSecond_59 : decode mb_Script_readSecond 59 = .ok (.iconst 4, 1) := by decide +kernel
theorem rd_Script_readSecond_60 : decode mb_Script_readSecond 60 = .ok (.invokevirtual 92, 3) := by decide +kernel
theorem rd_Script_readSecond_63 : decode mb_Script_readSecond 63 = .ok (.ireturn, 1) := by decide +kernel
theorem rd_Script_readSecond_64 : decode mb_Script_readSecond 64 = .ok (.iconst 0, 1) := by decide +kernel
theorem rd_Script_readSecond_65 : decode mb_Script_readSecond 65 = .ok (.ireturn, 1) := by decide +kernel
theorem rd_Script_readThird_0 : decode mb_Script_readThird 0 = .ok (.iload_n 1, 1) := by decide +kernel
theorem rd_Script_readThird_1 : decode mb_Script_readThird 1 = .ok (.iconst 1, 1) := by decide +kernel
theorem rd_Script_readThird_2 : decode mb_Script_readThird 2 = .ok (.if_icmp .eq 8, 3) := by decide +kernel
theorem rd_Script_readThird_5 : decode mb_Script_readThird 5 = .ok (.iload_n 1, 1) := by decide +kernel
theorem rd_Script_readThird_6 : decode mb_Script_readThird 6 = .ok (.iconst 2, 1) := by decide +kernel
theorem rd_Script_readThird_7 : decode mb_Script_readThird 7 = .ok (.if_icmp .ne 12, 3) := by decide +kernel
theorem rd_Script_readThird_10 : decode mb_Script_readThird 10 = .ok (.aload_n 0, 1) := by decide +kernel
theorem rd_Script_readThird_11 : decode mb_Script_readThird 11 = .ok (.iconst 0, 1) := by decide +kernel
theorem rd_Script_readThird_12 : decode mb_Script_readThird 12 = .ok (.sipush 9999, 3) := by decide +kernel
theorem rd_Script_readThird_15 : decode mb_Script_readThird 15 = .ok (.invokevirtual 92, 3) := by decide +kernel
theorem rd_Script_readThird_18 : decode mb_Script_readThird 18 = .ok (.ireturn, 1) := by decide +kernel
theorem rd_Script_readThird_19 : decode mb_Script_readThird 19 = .ok (.iload_n 1, 1) := by decide +kernel
theorem rd_Script_readThird_20 : decode mb_Script_readThird 20 = .ok (.iconst 5, 1) := by decide +kernel
theorem rd_Script_readThird_21 : decode mb_Script_readThird 21 = .ok (.if_icmp .ne 13, 3) := by decide +kernel
theorem rd_Script_readThird_24 : decode mb_Script_readThird 24 = .ok (.aload_n 0, 1) := by decide +kernel
theorem rd_Script_readThird_25 : decode mb_Script_readThird 25 = .ok (.iconst 0, 1) := by decide +kernel
theorem rd_Script_readThird_26 : decode mb_Script_readThird 26 = .ok (.bipush 9, 2) := by decide +kernel
theorem rd_Script_readThird_28 : decode mb_Script_readThird 28 = .ok (.invokevirtual 92, 3) := by decide +kernel
theorem rd_Script_readThird_31 : decode mb_Script_readThird 31 = .ok (.goto 4, 3) := by decide +kernel
theorem rd_Script_readThird_34 : decode mb_Script_readThird 34 = .ok (.iconst 0, 1) := by decide +kernel
theorem rd_Script_readThird_35 : decode mb_Script_readThird 35 = .ok (.ireturn, 1) := by decide +kernel
theorem rd_Text_begin_0 : decode mb_Text_begin 0 = .ok (.aload_n 0, 1) := by decide +kernel
theorem rd_Text_begin_1 : decode mb_Text_begin 1 = .ok (.iconst 0, 1) := by decide +kernel
theorem rd_Text_begin_2 : decode mb_Text_begin 2 = .ok (.putfield 30, 3) := by decide +kernel
theorem rd_Text_begin_5 : decode mb_Text_begin 5 = .ok (.aload_n 0, 1) := by decide +kernel
theorem rd_Text_begin_6 : decode mb_Text_begin 6 = .ok (.iconst 0, 1) := by decide +kernel
theorem rd_Text_begin_7 : decode mb_Text_begin 7 = .ok (.putfield 33, 3) := by decide +kernel
theorem rd_Text_begin_10 : decode mb_Text_begin 10 = .ok (.aload_n 0, 1) := by decide +kernel
theorem rd_Text_begin_11 : decode mb_Text_begin 11 = .ok (.iconst (-1), 1) := by decide +kernel
theorem rd_Text_begin_12 : decode mb_Text_begin 12 = .ok (.putfield 36, 3) := by decide +kernel
theorem rd_Text_begin_15 : decode mb_Text_begin 15 = .ok (.return_, 1) := by decide +kernel
theorem rd_Text_nextStatement_0 : decode mb_Text_nextStatement 0 = .ok (.aload_n 0, 1) := by decide +kernel
theorem rd_Text_nextStatement_1 : decode mb_Text_nextStatement 1 = .ok (.invokevirtual 62, 3) := by decide +kernel
theorem rd_Text_nextStatement_4 : decode mb_Text_nextStatement 4 = .ok (.ifCond .eq 5, 3) := by decide +kernel
theorem rd_Text_nextStatement_7 : decode mb_Text_nextStatement 7 = .ok (.iconst 0, 1) := by decide +kernel
theorem rd_Text_nextStatement_8 : decode mb_Text_nextStatement 8 = .ok (.ireturn, 1) := by decide +kernel
theorem rd_Text_nextStatement_9 : decode mb_Text_nextStatement 9 = .ok (.aload_n 0, 1) := by decide +kernel
theorem rd_Text_nextStatement_10 : decode mb_Text_nextStatement 10 = .ok (.invokevirtual 66, 3) := by decide +kernel
theorem rd_Text_nextStatement_13 : decode mb_Text_nextStatement 13 = .ok (.aload_n 0, 1) := by decide +kernel
theorem rd_Text_nextStatement_14 : decode mb_Text_nextStatement 14 = .ok (.getfield 24, 3) := by decide +kernel
theorem rd_Text_nextStatement_17 : decode mb_Text_nextStatement 17 = .ok (.ifCond .eq 7, 3) := by decide +kernel
theorem rd_Text_nextStatement_20 : decode mb_Text_nextStatement 20 = .ok (.iconst 1, 1) := by decide +kernel
theorem rd_Text_nextStatement_21 : decode mb_Text_nextStatement 21 = .ok (.goto 4, 3) := by decide +kernel
theorem rd_Text_nextStatement_24 : decode mb_Text_nextStatement 24 = .ok (.iconst 0, 1) := by decide +kernel
theorem rd_Text_nextStatement_25 : decode mb_Text_nextStatement 25 = .ok (.ireturn, 1) := by decide +kernel
theorem rd_Text_readSemicolon_0 : decode mb_Text_readSemicolon 0 = .ok (.aload_n 0, 1) := by decide +kernel
theorem rd_Text_readSemicolon_1 : decode mb_Text_readSemicolon 1 = .ok (.invokevirtual 62, 3) := by decide +kernel
theorem rd_Text_readSemicolon_4 : decode mb_Text_readSemicolon 4 = .ok (.ifCond .eq 4, 3) := by decide +kernel
theorem rd_Text_readSemicolon_7 : decode mb_Text_readSemicolon 7 = .ok (.return_, 1) := by decide +kernel
theorem rd_Text_readSemicolon_8 : decode mb_Text_readSemicolon 8 = .ok (.aload_n 0, 1) := by decide +kernel
theorem rd_Text_readSemicolon_9 : decode mb_Text_readSemicolon 9 = .ok (.invokevirtual 66, 3) := by decide +kernel
theorem rd_Text_readSemicolon_12 : decode mb_Text_readSemicolon 12 = .ok (.aload_n 0, 1) := by decide +kernel
theorem rd_Text_readSemicolon_13 : decode mb_Text_readSemicolon 13 = .ok (.getfield 24, 3) := by decide +kernel
theorem rd_Text_readSemicolon_16 : decode mb_Text_readSemicolon 16 = .ok (.iconst 4, 1) := by decide +kernel
theorem rd_Text_readSemicolon_17 : decode mb_Text_readSemicolon 17 = .ok (.if_icmp .eq 8, 3) := by decide +kernel
theorem rd_Text_readSemicolon_20 : decode mb_Text_readSemicolon 20 = .ok (.aload_n 0, 1) := by decide +kernel
theorem rd_Text_readSemicolon_21 : decode mb_Text_readSemicolon 21 = .ok (.iconst 1, 1) := by decide +kernel
theorem rd_Text_readSemicolon_22 : decode mb_Text_readSemicolon 22 = .ok (.invokevirtual 69, 3) := by decide +kernel
theorem rd_Text_readSemicolon_25 : decode mb_Text_readSemicolon 25 = .ok (.return_, 1) := by decide +kernel
def wd_Text_sortAt (cI : ClassId) (a_t a_t_bytes a_t_bytes_k : Nat) (i_t_length : Int) (i_t_kind : Int) (i_t_start : Int) (i_t_end : Int) (i_t_code : Int) (i_t_offset : Int) (i_t_bytes : (Int → Int)) : va_W := [(a_t, .inr (3, [.ref a_t_bytes, jk_V i_t_length, jk_V i_t_kind, jk_V i_t_start, jk_V i_t_end, jk_V i_t_code, jk_V i_t_offset])), (a_t_bytes, .inr (0, [.ref a_t_bytes_k])), (a_t_bytes_k, jk_W cI 700 i_t_bytes)]
set_option maxHeartbeats 4000000 in
set_option maxRecDepth 20000 in
theorem ct_Text_sortAt (l : Launch) (D : va_G) (Z : (Nat → Prop) → State → Heap → Prop) (sq : Nat → Nat) (hZ : jk_ZK Z sq) (cI cR : ClassId) (a_t a_t_bytes a_t_bytes_k : Nat) (i_t_length : Int) (i_t_kind : Int) (i_t_start : Int) (i_t_end : Int) (i_t_code : Int) (i_t_offset : Int) (i_t_bytes : (Int → Int)) (x1 : Int) (q : Int) (hf : fn_Text_sortAt i_t_bytes i_t_length x1 = some q) : jk_MI l D jk_cl (jk_ty cI cR) Z mn_Text_sortAt (.code mn_Text_sortAt mb_Text_sortAt 3 (some .int) :: jk_WA) (jk_rm 1 21) [.ref a_t, jk_V x1] (wd_Text_sortAt cI a_t a_t_bytes a_t_bytes_k i_t_length i_t_kind i_t_start i_t_end i_t_code i_t_offset i_t_bytes) (wd_Text_sortAt cI a_t a_t_bytes a_t_bytes_k i_t_length i_t_kind i_t_start i_t_end i_t_code i_t_offset i_t_bytes) q := by
  intro sz
  refine jk_body (by decide +kernel) (fun p e s m args below meth c hsz hz hin C => ?_) (Nat.le_of_ble_eq_true rfl)
  subst hsz
  unfold fn_Text_sortAt at hf
  have bk_47 : ∀ (v2 : Int), fn_Text_sortAt_b47 v2 = some q → jk_J p l e (jk_rm 1 21) s m args below meth c 0 0 (jk_QI below D jk_cl (jk_ty cI cR) (wd_Text_sortAt cI a_t a_t_bytes a_t_bytes_k i_t_length i_t_kind i_t_start i_t_end i_t_code i_t_offset i_t_bytes) (wd_Text_sortAt cI a_t a_t_bytes a_t_bytes_k i_t_length i_t_kind i_t_start i_t_end i_t_code i_t_offset i_t_bytes) args s q) D jk_cl (va_A (wd_Text_sortAt cI a_t a_t_bytes a_t_bytes_k i_t_length i_t_kind i_t_start i_t_end i_t_code i_t_offset i_t_bytes) s.heap.size) 3 (wd_Text_sortAt cI a_t a_t_bytes a_t_bytes_k i_t_length i_t_kind i_t_start i_t_end i_t_code i_t_offset i_t_bytes) [(2, jk_V v2)] 47 [] := by
    intro v2 hf
    unfold fn_Text_sortAt_b47 at hf
    refine jk_iload_n C rd_Text_sortAt_47 (k := 0) rfl ?_
    refine jk_bipush C rd_Text_sortAt_48 (by decide +kernel) ?_
    refine jk_icmp_lt (tgt := 61) C rd_Text_sortAt_50 (by decide) hf (fun _ hf => ?_) (fun _ hf => ?_)
    · refine jk_iload_n C rd_Text_sortAt_61 (k := 0) rfl ?_
      refine jk_bipush C rd_Text_sortAt_62 (by decide +kernel) ?_
      refine jk_icmp_ne (tgt := 71) C rd_Text_sortAt_64 (by decide) hf (fun _ hf => ?_) (fun _ hf => ?_)
      · refine jk_iconst C rd_Text_sortAt_71 ?_
        cases hf
        exact jk_iret C rfl rd_Text_sortAt_72 rfl
      · refine jk_iconst C rd_Text_sortAt_67 ?_
        refine jk_goto (tgt := 72) C rd_Text_sortAt_68 (by decide) ?_
        cases hf
        exact jk_iret C rfl rd_Text_sortAt_72 rfl
    · refine jk_iload_n C rd_Text_sortAt_53 (k := 0) rfl ?_
      refine jk_bipush C rd_Text_sortAt_54 (by decide +kernel) ?_
      refine jk_icmp_gt (tgt := 61) C rd_Text_sortAt_56 (by decide) hf (fun _ hf => ?_) (fun _ hf => ?_)
      · refine jk_iload_n C rd_Text_sortAt_61 (k := 0) rfl ?_
        refine jk_bipush C rd_Text_sortAt_62 (by decide +kernel) ?_
        refine jk_icmp_ne (tgt := 71) C rd_Text_sortAt_64 (by decide) hf (fun _ hf => ?_) (fun _ hf => ?_)
        · refine jk_iconst C rd_Text_sortAt_71 ?_
          cases hf
          exact jk_iret C rfl rd_Text_sortAt_72 rfl
        · refine jk_iconst C rd_Text_sortAt_67 ?_
          refine jk_goto (tgt := 72) C rd_Text_sortAt_68 (by decide) ?_
          cases hf
          exact jk_iret C rfl rd_Text_sortAt_72 rfl
      · refine jk_iconst C rd_Text_sortAt_59 ?_
        cases hf
        exact jk_iret C rfl rd_Text_sortAt_60 rfl
  refine jk_iload_n C rd_Text_sortAt_0 (k := 1) rfl ?_
  refine jk_aload_n C rd_Text_sortAt_1 (k := 0) rfl ?_
  refine jk_get C in_Text (ci := 3) rfl 1 (by decide) tm_50 0 rfl rfl rd_Text_sortAt_2 ?_
  refine jk_icmp_lt (tgt := 10) C rd_Text_sortAt_5 (by decide) hf (fun _ hf => ?_) (fun _ hf => ?_)
  · refine jk_aload_n C rd_Text_sortAt_10 (k := 0) rfl ?_
    refine jk_get C in_Text (ci := 3) rfl 0 (by decide) tm_49 0 rfl rfl rd_Text_sortAt_11 ?_
    refine jk_iload_n C rd_Text_sortAt_14 (k := 1) rfl ?_
    obtain ⟨q15, hq15, hf⟩ := jk_bind_h hf
    refine jk_callVi C hZ.1 hz (ct_Row_get l D Z sq hZ cI cR (n_t := 700) (Nat.le_of_ble_eq_true rfl) a_t_bytes a_t_bytes_k i_t_bytes x1 q15 hq15) tm_291 tm_292 tm_293 tm_3 tm_294 na_Row_get ⟨Nat.le_of_ble_eq_true rfl, Nat.le_of_ble_eq_true rfl⟩ rfl [1, 2] rfl rfl rfl (ws' := wd_Text_sortAt cI a_t a_t_bytes a_t_bytes_k i_t_length i_t_kind i_t_start i_t_end i_t_code i_t_offset i_t_bytes) rfl 1 0 rfl rfl rfl (st := []) rfl (Nat.le_of_ble_eq_true rfl) rd_Text_sortAt_15 ?_ ⟨Nat.le_of_ble_eq_true rfl, Nat.le_of_ble_eq_true rfl⟩
    refine jk_istore_n C rd_Text_sortAt_18 (by decide) (lv' := [(2, jk_V q15), (0, .ref a_t), (1, jk_V x1)]) rfl ?_
    refine jk_iload_n C rd_Text_sortAt_19 (k := 0) rfl ?_
    refine jk_bipush C rd_Text_sortAt_20 (by decide +kernel) ?_
    refine jk_icmp_eq (tgt := 31) C rd_Text_sortAt_22 (by decide) hf (fun _ hf => ?_) (fun _ hf => ?_)
    · refine jk_iconst C rd_Text_sortAt_31 ?_
      cases hf
      exact jk_iret C rfl rd_Text_sortAt_32 rfl
    · refine jk_iload_n C rd_Text_sortAt_25 (k := 0) rfl ?_
      refine jk_bipush C rd_Text_sortAt_26 (by decide +kernel) ?_
      refine jk_icmp_ne (tgt := 33) C rd_Text_sortAt_28 (by decide) hf (fun _ hf => ?_) (fun _ hf => ?_)
      · refine jk_iload_n C rd_Text_sortAt_33 (k := 0) rfl ?_
        refine jk_bipush C rd_Text_sortAt_34 (by decide +kernel) ?_
        refine jk_icmp_lt (tgt := 47) C rd_Text_sortAt_36 (by decide) hf (fun _ hf => ?_) (fun _ hf => ?_)
        · refine jk_lv (lv' := [(2, jk_V q15)]) [0] rfl ?_
          exact bk_47 q15 hf
        · refine jk_iload_n C rd_Text_sortAt_39 (k := 0) rfl ?_
          refine jk_bipush C rd_Text_sortAt_40 (by decide +kernel) ?_
          refine jk_icmp_gt (tgt := 47) C rd_Text_sortAt_42 (by decide) hf (fun _ hf => ?_) (fun _ hf => ?_)
          · refine jk_lv (lv' := [(2, jk_V q15)]) [0] rfl ?_
            exact bk_47 q15 hf
          · refine jk_iconst C rd_Text_sortAt_45 ?_
            cases hf
            exact jk_iret C rfl rd_Text_sortAt_46 rfl
      · refine jk_iconst C rd_Text_sortAt_31 ?_
        cases hf
        exact jk_iret C rfl rd_Text_sortAt_32 rfl
  · refine jk_iconst C rd_Text_sortAt_8 ?_
    cases hf
    exact jk_iret C rfl rd_Text_sortAt_9 rfl
def wd_Text_next (cI : ClassId) (a_t a_t_bytes a_t_bytes_k : Nat) (i_t_length : Int) (i_t_kind : Int) (i_t_start : Int) (i_t_end : Int) (i_t_code : Int) (i_t_offset : Int) (i_t_bytes : (Int → Int)) : va_W := [(a_t, .inr (3, [.ref a_t_bytes, jk_V i_t_length, jk_V i_t_kind, jk_V i_t_start, jk_V i_t_end, jk_V i_t_code, jk_V i_t_offset])), (a_t_bytes, .inr (0, [.ref a_t_bytes_k])), (a_t_bytes_k, jk_W cI 700 i_t_bytes)]
set_option maxHeartbeats 4000000 in
set_option maxRecDepth 20000 in
theorem ct_Text_next (l : Launch) (D : va_G) (Z : (Nat → Prop) → State → Heap → Prop) (sq : Nat → Nat) (hZ : jk_ZK Z sq) (cI cR : ClassId) (a_t a_t_bytes a_t_bytes_k : Nat) (i_t_length : Int) (i_t_kind : Int) (i_t_start : Int) (i_t_end : Int) (i_t_code : Int) (i_t_offset : Int) (i_t_bytes : (Int → Int)) (q : Int × Int × Int) (hf : fn_Text_next i_t_bytes i_t_length i_t_kind i_t_start i_t_end = some q) : jk_MV l D jk_cl (jk_ty cI cR) Z mn_Text_next (.code mn_Text_next mb_Text_next 2 none :: jk_WA) (jk_rm 2 43) [.ref a_t] (wd_Text_next cI a_t a_t_bytes a_t_bytes_k i_t_length i_t_kind i_t_start i_t_end i_t_code i_t_offset i_t_bytes) (wd_Text_next cI a_t a_t_bytes a_t_bytes_k i_t_length q.1 q.2.1 q.2.2 i_t_code i_t_offset i_t_bytes) := by
  intro sz
  refine jk_body (by decide +kernel) (fun p e s m args below meth c hsz hz hin C => ?_) (Nat.le_of_ble_eq_true rfl)
  subst hsz
  unfold fn_Text_next at hf
  have bk_149 : ∀ (t_kind : Int) (t_start : Int) (t_end : Int) (v1 : Int), fn_Text_next_b149 t_kind t_start t_end v1 = some q → jk_J p l e (jk_rm 2 43) s m args below meth c 0 0 (jk_QV below D jk_cl (jk_ty cI cR) (wd_Text_next cI a_t a_t_bytes a_t_bytes_k i_t_length i_t_kind i_t_start i_t_end i_t_code i_t_offset i_t_bytes) (wd_Text_next cI a_t a_t_bytes a_t_bytes_k i_t_length q.1 q.2.1 q.2.2 i_t_code i_t_offset i_t_bytes) args s) D jk_cl (va_A (wd_Text_next cI a_t a_t_bytes a_t_bytes_k i_t_length i_t_kind i_t_start i_t_end i_t_code i_t_offset i_t_bytes) s.heap.size) 2 (wd_Text_next cI a_t a_t_bytes a_t_bytes_k i_t_length t_kind t_start t_end i_t_code i_t_offset i_t_bytes) [(0, .ref a_t), (1, jk_V v1)] 149 [] := by
    intro t_kind t_start t_end v1 hf
    unfold fn_Text_next_b149 at hf
    refine jk_iload_n C rd_Text_next_149 (k := 1) rfl ?_
    refine jk_if_eq (tgt := 184) C rd_Text_next_150 (by decide) hf (fun _ hf => ?_) (fun _ hf => ?_)
    · cases hf
      exact jk_vret C rfl rd_Text_next_184 rfl
    · refine jk_aload_n C rd_Text_next_153 (k := 0) rfl ?_
      refine jk_get C in_Text (ci := 3) rfl 4 (by decide) tm_54 0 rfl rfl rd_Text_next_154 ?_
      refine jk_aload_n C rd_Text_next_157 (k := 0) rfl ?_
      refine jk_get C in_Text (ci := 3) rfl 3 (by decide) tm_53 0 rfl rfl rd_Text_next_158 ?_
      refine jk_isub C rd_Text_next_161 ?_
      refine jk_aload_n C rd_Text_next_162 (k := 0) rfl ?_
      refine jk_get C in_Text (ci := 3) rfl 2 (by decide) tm_52 0 rfl rfl rd_Text_next_163 ?_
      refine jk_iconst C rd_Text_next_166 ?_
      refine jk_icmp_ne (tgt := 175) C rd_Text_next_167 (by decide) hf (fun _ hf => ?_) (fun _ hf => ?_)
      · refine jk_iconst C rd_Text_next_175 ?_
        refine jk_icmp_le (tgt := 184) C rd_Text_next_176 (by decide) hf (fun _ hf => ?_) (fun _ hf => ?_)
        · cases hf
          exact jk_vret C rfl rd_Text_next_184 rfl
        · refine jk_aload_n C rd_Text_next_179 (k := 0) rfl ?_
          refine jk_iconst C rd_Text_next_180 ?_
          refine jk_putf C in_Text ty_Text nm_Text (ci := 3) rfl 2 (by decide) tm_52 rfl rfl rfl 0 rfl (Nat.le_of_ble_eq_true rfl) rd_Text_next_181 (ws' := wd_Text_next cI a_t a_t_bytes a_t_bytes_k i_t_length 5 t_start t_end i_t_code i_t_offset i_t_bytes) rfl ?_
          cases hf
          exact jk_vret C rfl rd_Text_next_184 rfl
      · refine jk_bipush C rd_Text_next_170 (by decide +kernel) ?_
        refine jk_goto (tgt := 176) C rd_Text_next_172 (by decide) ?_
        refine jk_icmp_le (tgt := 184) C rd_Text_next_176 (by decide) hf (fun _ hf => ?_) (fun _ hf => ?_)
        · cases hf
          exact jk_vret C rfl rd_Text_next_184 rfl
        · refine jk_aload_n C rd_Text_next_179 (k := 0) rfl ?_
          refine jk_iconst C rd_Text_next_180 ?_
          refine jk_putf C in_Text ty_Text nm_Text (ci := 3) rfl 2 (by decide) tm_52 rfl rfl rfl 0 rfl (Nat.le_of_ble_eq_true rfl) rd_Text_next_181 (ws' := wd_Text_next cI a_t a_t_bytes a_t_bytes_k i_t_length 5 t_start t_end i_t_code i_t_offset i_t_bytes) rfl ?_
          cases hf
          exact jk_vret C rfl rd_Text_next_184 rfl
  have bk_106 : ∀ (n : Nat) (t_kind : Int) (t_start : Int) (t_end : Int) (v1 : Int), fn_Text_next_b106 n i_t_bytes i_t_length t_kind t_start t_end v1 = some q → jk_J p l e (jk_rm 2 43) s m args below meth c 0 0 (jk_QV below D jk_cl (jk_ty cI cR) (wd_Text_next cI a_t a_t_bytes a_t_bytes_k i_t_length i_t_kind i_t_start i_t_end i_t_code i_t_offset i_t_bytes) (wd_Text_next cI a_t a_t_bytes a_t_bytes_k i_t_length q.1 q.2.1 q.2.2 i_t_code i_t_offset i_t_bytes) args s) D jk_cl (va_A (wd_Text_next cI a_t a_t_bytes a_t_bytes_k i_t_length i_t_kind i_t_start i_t_end i_t_code i_t_offset i_t_bytes) s.heap.size) 2 (wd_Text_next cI a_t a_t_bytes a_t_bytes_k i_t_length t_kind t_start t_end i_t_code i_t_offset i_t_bytes) [(0, .ref a_t), (1, jk_V v1)] 106 [] := by
    intro n
    induction n with
    | zero => intro t_kind t_start t_end v1 hf; exact nomatch (show none = some q from hf)
    | succ n ih =>
      intro t_kind t_start t_end v1 hf
      rw [fn_Text_next_b106] at hf
      refine jk_iload_n C rd_Text_next_106 (k := 1) rfl ?_
      refine jk_if_eq (tgt := 149) C rd_Text_next_107 (by decide) hf (fun _ hf => ?_) (fun _ hf => ?_)
      · refine jk_lv (lv' := [(0, .ref a_t), (1, jk_V v1)]) [0, 1] rfl ?_
        exact bk_149 t_kind t_start t_end v1 hf
      · refine jk_aload_n C rd_Text_next_110 (k := 0) rfl ?_
        refine jk_get C in_Text (ci := 3) rfl 4 (by decide) tm_54 0 rfl rfl rd_Text_next_111 ?_
        refine jk_aload_n C rd_Text_next_114 (k := 0) rfl ?_
        refine jk_get C in_Text (ci := 3) rfl 1 (by decide) tm_50 0 rfl rfl rd_Text_next_115 ?_
        refine jk_icmp_ge (tgt := 149) C rd_Text_next_118 (by decide) hf (fun _ hf => ?_) (fun _ hf => ?_)
        · refine jk_lv (lv' := [(0, .ref a_t), (1, jk_V v1)]) [0, 1] rfl ?_
          exact bk_149 t_kind t_start t_end v1 hf
        · refine jk_aload_n C rd_Text_next_121 (k := 0) rfl ?_
          refine jk_aload_n C rd_Text_next_122 (k := 0) rfl ?_
          refine jk_get C in_Text (ci := 3) rfl 4 (by decide) tm_54 0 rfl rfl rd_Text_next_123 ?_
          obtain ⟨q126, hq126, hf⟩ := jk_bind_h hf
          refine jk_callVi C hZ.1 hz (ct_Text_sortAt l D Z sq hZ cI cR a_t a_t_bytes a_t_bytes_k i_t_length t_kind t_start t_end i_t_code i_t_offset i_t_bytes t_end q126 hq126) tm_287 tm_289 sl_1 tm_2 tm_290 na_Text_sortAt ⟨Nat.le_of_ble_eq_true rfl, Nat.le_of_ble_eq_true rfl⟩ rfl [0, 1, 2] rfl rfl rfl (ws' := wd_Text_next cI a_t a_t_bytes a_t_bytes_k i_t_length t_kind t_start t_end i_t_code i_t_offset i_t_bytes) rfl 0 3 rfl rfl rfl (st := []) rfl (Nat.le_of_ble_eq_true rfl) rd_Text_next_126 ?_ ⟨Nat.le_of_ble_eq_true rfl, Nat.le_of_ble_eq_true rfl⟩
          refine jk_aload_n C rd_Text_next_129 (k := 0) rfl ?_
          refine jk_get C in_Text (ci := 3) rfl 2 (by decide) tm_52 0 rfl rfl rd_Text_next_130 ?_
          refine jk_icmp_ne (tgt := 149) C rd_Text_next_133 (by decide) hf (fun _ hf => ?_) (fun _ hf => ?_)
          · refine jk_lv (lv' := [(0, .ref a_t), (1, jk_V v1)]) [0, 1] rfl ?_
            exact bk_149 t_kind t_start t_end v1 hf
          · refine jk_aload_n C rd_Text_next_136 (k := 0) rfl ?_
            refine jk_dup C rd_Text_next_137 rfl ?_
            refine jk_get C in_Text (ci := 3) rfl 4 (by decide) tm_54 0 rfl rfl rd_Text_next_138 ?_
            refine jk_iconst C rd_Text_next_141 ?_
            refine jk_iadd C rd_Text_next_142 ?_
            refine jk_putf C in_Text ty_Text nm_Text (ci := 3) rfl 4 (by decide) tm_54 rfl rfl rfl 0 rfl (Nat.le_of_ble_eq_true rfl) rd_Text_next_143 (ws' := wd_Text_next cI a_t a_t_bytes a_t_bytes_k i_t_length t_kind t_start (t_end + 1) i_t_code i_t_offset i_t_bytes) rfl ?_
            refine jk_goto (tgt := 106) C rd_Text_next_146 (by decide) ?_
            refine jk_lv (lv' := [(0, .ref a_t), (1, jk_V v1)]) [0, 1] rfl ?_
            exact ih t_kind t_start (t_end + 1) v1 hf
  have bk_81 : ∀ (t_kind : Int) (t_start : Int) (t_end : Int) (s0 : Int), fn_Text_next_b81 i_t_bytes i_t_length t_kind t_start t_end s0 = some q → jk_J p l e (jk_rm 2 43) s m args below meth c 0 0 (jk_QV below D jk_cl (jk_ty cI cR) (wd_Text_next cI a_t a_t_bytes a_t_bytes_k i_t_length i_t_kind i_t_start i_t_end i_t_code i_t_offset i_t_bytes) (wd_Text_next cI a_t a_t_bytes a_t_bytes_k i_t_length q.1 q.2.1 q.2.2 i_t_code i_t_offset i_t_bytes) args s) D jk_cl (va_A (wd_Text_next cI a_t a_t_bytes a_t_bytes_k i_t_length i_t_kind i_t_start i_t_end i_t_code i_t_offset i_t_bytes) s.heap.size) 2 (wd_Text_next cI a_t a_t_bytes a_t_bytes_k i_t_length t_kind t_start t_end i_t_code i_t_offset i_t_bytes) [(0, .ref a_t)] 81 [jk_V s0, .ref a_t] := by
    intro t_kind t_start t_end s0 hf
    unfold fn_Text_next_b81 at hf
    refine jk_putf C in_Text ty_Text nm_Text (ci := 3) rfl 4 (by decide) tm_54 rfl rfl rfl 0 rfl (Nat.le_of_ble_eq_true rfl) rd_Text_next_81 (ws' := wd_Text_next cI a_t a_t_bytes a_t_bytes_k i_t_length t_kind t_start s0 i_t_code i_t_offset i_t_bytes) rfl ?_
    refine jk_aload_n C rd_Text_next_84 (k := 0) rfl ?_
    refine jk_get C in_Text (ci := 3) rfl 2 (by decide) tm_52 0 rfl rfl rd_Text_next_85 ?_
    refine jk_iconst C rd_Text_next_88 ?_
    refine jk_icmp_eq (tgt := 100) C rd_Text_next_89 (by decide) hf (fun _ hf => ?_) (fun _ hf => ?_)
    · refine jk_iconst C rd_Text_next_100 ?_
      refine jk_goto (tgt := 105) C rd_Text_next_101 (by decide) ?_
      refine jk_istore_n C rd_Text_next_105 (by decide) (lv' := [(1, jk_V 1), (0, .ref a_t)]) rfl ?_
      refine jk_lv (lv' := [(0, .ref a_t), (1, jk_V 1)]) [1, 0] rfl ?_
      exact bk_106 jk_F t_kind t_start s0 1 hf
    · refine jk_aload_n C rd_Text_next_92 (k := 0) rfl ?_
      refine jk_get C in_Text (ci := 3) rfl 2 (by decide) tm_52 0 rfl rfl rd_Text_next_93 ?_
      refine jk_iconst C rd_Text_next_96 ?_
      refine jk_icmp_ne (tgt := 104) C rd_Text_next_97 (by decide) hf (fun _ hf => ?_) (fun _ hf => ?_)
      · refine jk_iconst C rd_Text_next_104 ?_
        refine jk_istore_n C rd_Text_next_105 (by decide) (lv' := [(1, jk_V 0), (0, .ref a_t)]) rfl ?_
        refine jk_lv (lv' := [(0, .ref a_t), (1, jk_V 0)]) [1, 0] rfl ?_
        exact bk_106 jk_F t_kind t_start s0 0 hf
      · refine jk_iconst C rd_Text_next_100 ?_
        refine jk_goto (tgt := 105) C rd_Text_next_101 (by decide) ?_
        refine jk_istore_n C rd_Text_next_105 (by decide) (lv' := [(1, jk_V 1), (0, .ref a_t)]) rfl ?_
        refine jk_lv (lv' := [(0, .ref a_t), (1, jk_V 1)]) [1, 0] rfl ?_
        exact bk_106 jk_F t_kind t_start s0 1 hf
  have bk_44 : ∀ (t_kind : Int) (t_start : Int) (t_end : Int), fn_Text_next_b44 i_t_bytes i_t_length t_kind t_start t_end = some q → jk_J p l e (jk_rm 2 43) s m args below meth c 0 0 (jk_QV below D jk_cl (jk_ty cI cR) (wd_Text_next cI a_t a_t_bytes a_t_bytes_k i_t_length i_t_kind i_t_start i_t_end i_t_code i_t_offset i_t_bytes) (wd_Text_next cI a_t a_t_bytes a_t_bytes_k i_t_length q.1 q.2.1 q.2.2 i_t_code i_t_offset i_t_bytes) args s) D jk_cl (va_A (wd_Text_next cI a_t a_t_bytes a_t_bytes_k i_t_length i_t_kind i_t_start i_t_end i_t_code i_t_offset i_t_bytes) s.heap.size) 2 (wd_Text_next cI a_t a_t_bytes a_t_bytes_k i_t_length t_kind t_start t_end i_t_code i_t_offset i_t_bytes) [(0, .ref a_t)] 44 [] := by
    intro t_kind t_start t_end hf
    unfold fn_Text_next_b44 at hf
    refine jk_aload_n C rd_Text_next_44 (k := 0) rfl ?_
    refine jk_aload_n C rd_Text_next_45 (k := 0) rfl ?_
    refine jk_aload_n C rd_Text_next_46 (k := 0) rfl ?_
    refine jk_get C in_Text (ci := 3) rfl 3 (by decide) tm_53 0 rfl rfl rd_Text_next_47 ?_
    obtain ⟨q50, hq50, hf⟩ := jk_bind_h hf
    refine jk_callVi C hZ.1 hz (ct_Text_sortAt l D Z sq hZ cI cR a_t a_t_bytes a_t_bytes_k i_t_length t_kind t_start t_end i_t_code i_t_offset i_t_bytes t_start q50 hq50) tm_287 tm_289 sl_1 tm_2 tm_290 na_Text_sortAt ⟨Nat.le_of_ble_eq_true rfl, Nat.le_of_ble_eq_true rfl⟩ rfl [0, 1, 2] rfl rfl rfl (ws' := wd_Text_next cI a_t a_t_bytes a_t_bytes_k i_t_length t_kind t_start t_end i_t_code i_t_offset i_t_bytes) rfl 0 3 rfl rfl rfl (st := [.ref a_t]) rfl (Nat.le_of_ble_eq_true rfl) rd_Text_next_50 ?_ ⟨Nat.le_of_ble_eq_true rfl, Nat.le_of_ble_eq_true rfl⟩
    refine jk_putf C in_Text ty_Text nm_Text (ci := 3) rfl 2 (by decide) tm_52 rfl rfl rfl 0 rfl (Nat.le_of_ble_eq_true rfl) rd_Text_next_53 (ws' := wd_Text_next cI a_t a_t_bytes a_t_bytes_k i_t_length q50 t_start t_end i_t_code i_t_offset i_t_bytes) rfl ?_
    refine jk_aload_n C rd_Text_next_56 (k := 0) rfl ?_
    refine jk_aload_n C rd_Text_next_57 (k := 0) rfl ?_
    refine jk_get C in_Text (ci := 3) rfl 3 (by decide) tm_53 0 rfl rfl rd_Text_next_58 ?_
    refine jk_aload_n C rd_Text_next_61 (k := 0) rfl ?_
    refine jk_get C in_Text (ci := 3) rfl 1 (by decide) tm_50 0 rfl rfl rd_Text_next_62 ?_
    refine jk_icmp_ge (tgt := 77) C rd_Text_next_65 (by decide) hf (fun _ hf => ?_) (fun _ hf => ?_)
    · refine jk_aload_n C rd_Text_next_77 (k := 0) rfl ?_
      refine jk_get C in_Text (ci := 3) rfl 3 (by decide) tm_53 0 rfl rfl rd_Text_next_78 ?_
      refine jk_lv (lv' := [(0, .ref a_t)]) [0] rfl ?_
      exact bk_81 q50 t_start t_end t_start hf
    · refine jk_aload_n C rd_Text_next_68 (k := 0) rfl ?_
      refine jk_get C in_Text (ci := 3) rfl 3 (by decide) tm_53 0 rfl rfl rd_Text_next_69 ?_
      refine jk_iconst C rd_Text_next_72 ?_
      refine jk_iadd C rd_Text_next_73 ?_
      refine jk_goto (tgt := 81) C rd_Text_next_74 (by decide) ?_
      refine jk_lv (lv' := [(0, .ref a_t)]) [0] rfl ?_
      exact bk_81 q50 t_start t_end (t_start + 1) hf
  have bk_8 : ∀ (n : Nat) (t_kind : Int) (t_start : Int) (t_end : Int), fn_Text_next_b8 n i_t_bytes i_t_length t_kind t_start t_end = some q → jk_J p l e (jk_rm 2 43) s m args below meth c 0 0 (jk_QV below D jk_cl (jk_ty cI cR) (wd_Text_next cI a_t a_t_bytes a_t_bytes_k i_t_length i_t_kind i_t_start i_t_end i_t_code i_t_offset i_t_bytes) (wd_Text_next cI a_t a_t_bytes a_t_bytes_k i_t_length q.1 q.2.1 q.2.2 i_t_code i_t_offset i_t_bytes) args s) D jk_cl (va_A (wd_Text_next cI a_t a_t_bytes a_t_bytes_k i_t_length i_t_kind i_t_start i_t_end i_t_code i_t_offset i_t_bytes) s.heap.size) 2 (wd_Text_next cI a_t a_t_bytes a_t_bytes_k i_t_length t_kind t_start t_end i_t_code i_t_offset i_t_bytes) [(0, .ref a_t)] 8 [] := by
    intro n
    induction n with
    | zero => intro t_kind t_start t_end hf; exact nomatch (show none = some q from hf)
    | succ n ih =>
      intro t_kind t_start t_end hf
      rw [fn_Text_next_b8] at hf
      refine jk_aload_n C rd_Text_next_8 (k := 0) rfl ?_
      refine jk_get C in_Text (ci := 3) rfl 3 (by decide) tm_53 0 rfl rfl rd_Text_next_9 ?_
      refine jk_aload_n C rd_Text_next_12 (k := 0) rfl ?_
      refine jk_get C in_Text (ci := 3) rfl 1 (by decide) tm_50 0 rfl rfl rd_Text_next_13 ?_
      refine jk_icmp_ge (tgt := 44) C rd_Text_next_16 (by decide) hf (fun _ hf => ?_) (fun _ hf => ?_)
      · refine jk_lv (lv' := [(0, .ref a_t)]) [0] rfl ?_
        exact bk_44 t_kind t_start t_end hf
      · refine jk_aload_n C rd_Text_next_19 (k := 0) rfl ?_
        refine jk_aload_n C rd_Text_next_20 (k := 0) rfl ?_
        refine jk_get C in_Text (ci := 3) rfl 3 (by decide) tm_53 0 rfl rfl rd_Text_next_21 ?_
        obtain ⟨q24, hq24, hf⟩ := jk_bind_h hf
        refine jk_callVi C hZ.1 hz (ct_Text_sortAt l D Z sq hZ cI cR a_t a_t_bytes a_t_bytes_k i_t_length t_kind t_start t_end i_t_code i_t_offset i_t_bytes t_start q24 hq24) tm_287 tm_289 sl_1 tm_2 tm_290 na_Text_sortAt ⟨Nat.le_of_ble_eq_true rfl, Nat.le_of_ble_eq_true rfl⟩ rfl [0, 1, 2] rfl rfl rfl (ws' := wd_Text_next cI a_t a_t_bytes a_t_bytes_k i_t_length t_kind t_start t_end i_t_code i_t_offset i_t_bytes) rfl 0 3 rfl rfl rfl (st := []) rfl (Nat.le_of_ble_eq_true rfl) rd_Text_next_24 ?_ ⟨Nat.le_of_ble_eq_true rfl, Nat.le_of_ble_eq_true rfl⟩
        refine jk_iconst C rd_Text_next_27 ?_
        refine jk_icmp_ne (tgt := 44) C rd_Text_next_28 (by decide) hf (fun _ hf => ?_) (fun _ hf => ?_)
        · refine jk_lv (lv' := [(0, .ref a_t)]) [0] rfl ?_
          exact bk_44 t_kind t_start t_end hf
        · refine jk_aload_n C rd_Text_next_31 (k := 0) rfl ?_
          refine jk_dup C rd_Text_next_32 rfl ?_
          refine jk_get C in_Text (ci := 3) rfl 3 (by decide) tm_53 0 rfl rfl rd_Text_next_33 ?_
          refine jk_iconst C rd_Text_next_36 ?_
          refine jk_iadd C rd_Text_next_37 ?_
          refine jk_putf C in_Text ty_Text nm_Text (ci := 3) rfl 3 (by decide) tm_53 rfl rfl rfl 0 rfl (Nat.le_of_ble_eq_true rfl) rd_Text_next_38 (ws' := wd_Text_next cI a_t a_t_bytes a_t_bytes_k i_t_length t_kind (t_start + 1) t_end i_t_code i_t_offset i_t_bytes) rfl ?_
          refine jk_goto (tgt := 8) C rd_Text_next_41 (by decide) ?_
          refine jk_lv (lv' := [(0, .ref a_t)]) [0] rfl ?_
          exact ih t_kind (t_start + 1) t_end hf
  refine jk_aload_n C rd_Text_next_0 (k := 0) rfl ?_
  refine jk_aload_n C rd_Text_next_1 (k := 0) rfl ?_
  refine jk_get C in_Text (ci := 3) rfl 4 (by decide) tm_54 0 rfl rfl rd_Text_next_2 ?_
  refine jk_putf C in_Text ty_Text nm_Text (ci := 3) rfl 3 (by decide) tm_53 rfl rfl rfl 0 rfl (Nat.le_of_ble_eq_true rfl) rd_Text_next_5 (ws' := wd_Text_next cI a_t a_t_bytes a_t_bytes_k i_t_length i_t_kind i_t_end i_t_end i_t_code i_t_offset i_t_bytes) rfl ?_
  refine jk_lv (lv' := [(0, .ref a_t)]) [0] rfl ?_
  exact bk_8 jk_F i_t_kind i_t_end i_t_end hf
def wd_Text_readNumber (cI : ClassId) (a_t a_t_bytes a_t_bytes_k : Nat) (i_t_length : Int) (i_t_kind : Int) (i_t_start : Int) (i_t_end : Int) (i_t_code : Int) (i_t_offset : Int) (i_t_bytes : (Int → Int)) : va_W := [(a_t, .inr (3, [.ref a_t_bytes, jk_V i_t_length, jk_V i_t_kind, jk_V i_t_start, jk_V i_t_end, jk_V i_t_code, jk_V i_t_offset])), (a_t_bytes, .inr (0, [.ref a_t_bytes_k])), (a_t_bytes_k, jk_W cI 700 i_t_bytes)]
set_option maxHeartbeats 4000000 in
set_option maxRecDepth 20000 in
theorem ct_Text_readNumber (l : Launch) (D : va_G) (Z : (Nat → Prop) → State → Heap → Prop) (sq : Nat → Nat) (hZ : jk_ZK Z sq) (cI cR : ClassId) (a_t a_t_bytes a_t_bytes_k : Nat) (i_t_length : Int) (i_t_kind : Int) (i_t_start : Int) (i_t_end : Int) (i_t_code : Int) (i_t_offset : Int) (i_t_bytes : (Int → Int)) (x1 : Int) (x2 : Int) (q : Int × Int × Int × Int × Int × Int) (hf : fn_Text_readNumber i_t_bytes i_t_length i_t_kind i_t_start i_t_end i_t_code i_t_offset x1 x2 = some q) : jk_MI l D jk_cl (jk_ty cI cR) Z mn_Text_readNumber (.code mn_Text_readNumber mb_Text_readNumber 5 (some .int) :: jk_WA) (jk_rm 3 64) [.ref a_t, jk_V x1, jk_V x2] (wd_Text_readNumber cI a_t a_t_bytes a_t_bytes_k i_t_length i_t_kind i_t_start i_t_end i_t_code i_t_offset i_t_bytes) (wd_Text_readNumber cI a_t a_t_bytes a_t_bytes_k i_t_length q.2.1 q.2.2.1 q.2.2.2.1 q.2.2.2.2.1 q.2.2.2.2.2 i_t_bytes) q.1 := by
  intro sz
  refine jk_body (by decide +kernel) (fun p e s m args below meth c hsz hz hin C => ?_) (Nat.le_of_ble_eq_true rfl)
  subst hsz
  unfold fn_Text_readNumber at hf
  have bk_36 : ∀ (n : Nat) (t_kind : Int) (t_start : Int) (t_end : Int) (t_code : Int) (t_offset : Int) (v1 : Int) (v2 : Int) (v3 : Int) (v4 : Int), fn_Text_readNumber_b36 n i_t_bytes t_kind t_start t_end t_code t_offset v1 v2 v3 v4 = some q → jk_J p l e (jk_rm 3 64) s m args below meth c 0 0 (jk_QI below D jk_cl (jk_ty cI cR) (wd_Text_readNumber cI a_t a_t_bytes a_t_bytes_k i_t_length i_t_kind i_t_start i_t_end i_t_code i_t_offset i_t_bytes) (wd_Text_readNumber cI a_t a_t_bytes a_t_bytes_k i_t_length q.2.1 q.2.2.1 q.2.2.2.1 q.2.2.2.2.1 q.2.2.2.2.2 i_t_bytes) args s q.1) D jk_cl (va_A (wd_Text_readNumber cI a_t a_t_bytes a_t_bytes_k i_t_length i_t_kind i_t_start i_t_end i_t_code i_t_offset i_t_bytes) s.heap.size) 5 (wd_Text_readNumber cI a_t a_t_bytes a_t_bytes_k i_t_length t_kind t_start t_end t_code t_offset i_t_bytes) [(0, .ref a_t), (1, jk_V v1), (2, jk_V v2), (3, jk_V v3), (4, jk_V v4)] 36 [] := by
    intro n
    induction n with
    | zero => intro t_kind t_start t_end t_code t_offset v1 v2 v3 v4 hf; exact nomatch (show none = some q from hf)
    | succ n ih =>
      intro t_kind t_start t_end t_code t_offset v1 v2 v3 v4 hf
      rw [fn_Text_readNumber_b36] at hf
      refine jk_iload C rd_Text_readNumber_36 (k := 4) rfl ?_
      refine jk_aload_n C rd_Text_readNumber_38 (k := 0) rfl ?_
      refine jk_get C in_Text (ci := 3) rfl 4 (by decide) tm_54 0 rfl rfl rd_Text_readNumber_39 ?_
      refine jk_icmp_ge (tgt := 69) C rd_Text_readNumber_42 (by decide) hf (fun _ hf => ?_) (fun _ hf => ?_)
      · refine jk_iload_n C rd_Text_readNumber_69 (k := 3) rfl ?_
        refine jk_iload_n C rd_Text_readNumber_70 (k := 1) rfl ?_
        refine jk_icmp_lt (tgt := 79) C rd_Text_readNumber_71 (by decide) hf (fun _ hf => ?_) (fun _ hf => ?_)
        · refine jk_aload_n C rd_Text_readNumber_79 (k := 0) rfl ?_
          refine jk_iconst C rd_Text_readNumber_80 ?_
          obtain ⟨q81, hq81, hf⟩ := jk_bind_h hf
          refine jk_callVv C hZ.1 hz (ct_Text_fail l D Z sq hZ cI cR a_t a_t_bytes i_t_length t_kind t_start t_end t_code t_offset 2 q81 hq81) tm_315 tm_304 tm_305 tm_2 tm_306 na_Text_fail ⟨Nat.le_of_ble_eq_true rfl, Nat.le_of_ble_eq_true rfl⟩ rfl [0] rfl rfl rfl (ws' := wd_Text_readNumber cI a_t a_t_bytes a_t_bytes_k i_t_length t_kind t_start t_end q81.1 q81.2 i_t_bytes) rfl 0 3 rfl rfl rfl (st := []) rfl (Nat.le_of_ble_eq_true rfl) rd_Text_readNumber_81 ?_ ⟨Nat.le_of_ble_eq_true rfl, Nat.le_of_ble_eq_true rfl⟩
          refine jk_iload_n C rd_Text_readNumber_84 (k := 3) rfl ?_
          cases hf
          exact jk_iret C rfl rd_Text_readNumber_85 rfl
        · refine jk_iload_n C rd_Text_readNumber_74 (k := 3) rfl ?_
          refine jk_iload_n C rd_Text_readNumber_75 (k := 2) rfl ?_
          refine jk_icmp_le (tgt := 84) C rd_Text_readNumber_76 (by decide) hf (fun _ hf => ?_) (fun _ hf => ?_)
          · refine jk_iload_n C rd_Text_readNumber_84 (k := 3) rfl ?_
            cases hf
            exact jk_iret C rfl rd_Text_readNumber_85 rfl
          · refine jk_aload_n C rd_Text_readNumber_79 (k := 0) rfl ?_
            refine jk_iconst C rd_Text_readNumber_80 ?_
            obtain ⟨q81, hq81, hf⟩ := jk_bind_h hf
            refine jk_callVv C hZ.1 hz (ct_Text_fail l D Z sq hZ cI cR a_t a_t_bytes i_t_length t_kind t_start t_end t_code t_offset 2 q81 hq81) tm_315 tm_304 tm_305 tm_2 tm_306 na_Text_fail ⟨Nat.le_of_ble_eq_true rfl, Nat.le_of_ble_eq_true rfl⟩ rfl [0] rfl rfl rfl (ws' := wd_Text_readNumber cI a_t a_t_bytes a_t_bytes_k i_t_length t_kind t_start t_end q81.1 q81.2 i_t_bytes) rfl 0 3 rfl rfl rfl (st := []) rfl (Nat.le_of_ble_eq_true rfl) rd_Text_readNumber_81 ?_ ⟨Nat.le_of_ble_eq_true rfl, Nat.le_of_ble_eq_true rfl⟩
            refine jk_iload_n C rd_Text_readNumber_84 (k := 3) rfl ?_
            cases hf
            exact jk_iret C rfl rd_Text_readNumber_85 rfl
      · refine jk_iload_n C rd_Text_readNumber_45 (k := 3) rfl ?_
        refine jk_bipush C rd_Text_readNumber_46 (by decide +kernel) ?_
        refine jk_imul C rd_Text_readNumber_48 ?_
        refine jk_aload_n C rd_Text_readNumber_49 (k := 0) rfl ?_
        refine jk_get C in_Text (ci := 3) rfl 0 (by decide) tm_49 0 rfl rfl rd_Text_readNumber_50 ?_
        refine jk_iload C rd_Text_readNumber_53 (k := 4) rfl ?_
        obtain ⟨q55, hq55, hf⟩ := jk_bind_h hf
        refine jk_callVi C hZ.1 hz (ct_Row_get l D Z sq hZ cI cR (n_t := 700) (Nat.le_of_ble_eq_true rfl) a_t_bytes a_t_bytes_k i_t_bytes v4 q55 hq55) tm_291 tm_292 tm_293 tm_3 tm_294 na_Row_get ⟨Nat.le_of_ble_eq_true rfl, Nat.le_of_ble_eq_true rfl⟩ rfl [1, 2] rfl rfl rfl (ws' := wd_Text_readNumber cI a_t a_t_bytes a_t_bytes_k i_t_length t_kind t_start t_end t_code t_offset i_t_bytes) rfl 1 0 rfl rfl rfl (st := [jk_V (v3 * 10)]) rfl (Nat.le_of_ble_eq_true rfl) rd_Text_readNumber_55 ?_ ⟨Nat.le_of_ble_eq_true rfl, Nat.le_of_ble_eq_true rfl⟩
        refine jk_iadd C rd_Text_readNumber_58 ?_
        refine jk_bipush C rd_Text_readNumber_59 (by decide +kernel) ?_
        refine jk_isub C rd_Text_readNumber_61 ?_
        refine jk_istore_n C rd_Text_readNumber_62 (by decide) (lv' := [(3, jk_V (((v3 * 10) + q55) - 48)), (0, .ref a_t), (1, jk_V v1), (2, jk_V v2), (4, jk_V v4)]) rfl ?_
        refine jk_iinc C rd_Text_readNumber_63 (k := 4) rfl (by decide) (lv' := [(4, jk_V (v4 + 1)), (3, jk_V (((v3 * 10) + q55) - 48)), (0, .ref a_t), (1, jk_V v1), (2, jk_V v2)]) rfl ?_
        refine jk_goto (tgt := 36) C rd_Text_readNumber_66 (by decide) ?_
        refine jk_lv (lv' := [(0, .ref a_t), (1, jk_V v1), (2, jk_V v2), (3, jk_V (((v3 * 10) + q55) - 48)), (4, jk_V (v4 + 1))]) [2, 3, 4, 1, 0] rfl ?_
        exact ih t_kind t_start t_end t_code t_offset v1 v2 (((v3 * 10) + q55) - 48) (v4 + 1) hf
  refine jk_aload_n C rd_Text_readNumber_0 (k := 0) rfl ?_
  obtain ⟨q1, hq1, hf⟩ := jk_bind_h hf
  refine jk_callVi C hZ.1 hz (ct_Text_hasFailed l D Z sq hZ cI cR a_t a_t_bytes i_t_length i_t_kind i_t_start i_t_end i_t_code i_t_offset q1 hq1) tm_279 tm_280 tm_281 tm_2 tm_282 na_Text_hasFailed ⟨Nat.le_of_ble_eq_true rfl, Nat.le_of_ble_eq_true rfl⟩ rfl [0] rfl rfl rfl (ws' := wd_Text_readNumber cI a_t a_t_bytes a_t_bytes_k i_t_length i_t_kind i_t_start i_t_end i_t_code i_t_offset i_t_bytes) rfl 0 3 rfl rfl rfl (st := []) rfl (Nat.le_of_ble_eq_true rfl) rd_Text_readNumber_1 ?_ ⟨Nat.le_of_ble_eq_true rfl, Nat.le_of_ble_eq_true rfl⟩
  refine jk_if_eq (tgt := 9) C rd_Text_readNumber_4 (by decide) hf (fun _ hf => ?_) (fun _ hf => ?_)
  · refine jk_aload_n C rd_Text_readNumber_9 (k := 0) rfl ?_
    obtain ⟨q10, hq10, hf⟩ := jk_bind_h hf
    refine jk_callVv C hZ.1 hz (ct_Text_next l D Z sq hZ cI cR a_t a_t_bytes a_t_bytes_k i_t_length i_t_kind i_t_start i_t_end i_t_code i_t_offset i_t_bytes q10 hq10) tm_283 tm_284 tm_285 tm_2 tm_286 na_Text_next ⟨Nat.le_of_ble_eq_true rfl, Nat.le_of_ble_eq_true rfl⟩ rfl [0, 1, 2] rfl rfl rfl (ws' := wd_Text_readNumber cI a_t a_t_bytes a_t_bytes_k i_t_length q10.1 q10.2.1 q10.2.2 i_t_code i_t_offset i_t_bytes) rfl 0 3 rfl rfl rfl (st := []) rfl (Nat.le_of_ble_eq_true rfl) rd_Text_readNumber_10 ?_ ⟨Nat.le_of_ble_eq_true rfl, Nat.le_of_ble_eq_true rfl⟩
    refine jk_aload_n C rd_Text_readNumber_13 (k := 0) rfl ?_
    refine jk_get C in_Text (ci := 3) rfl 2 (by decide) tm_52 0 rfl rfl rd_Text_readNumber_14 ?_
    refine jk_iconst C rd_Text_readNumber_17 ?_
    refine jk_icmp_eq (tgt := 28) C rd_Text_readNumber_18 (by decide) hf (fun _ hf => ?_) (fun _ hf => ?_)
    · refine jk_iconst C rd_Text_readNumber_28 ?_
      refine jk_istore_n C rd_Text_readNumber_29 (by decide) (lv' := [(3, jk_V 0), (0, .ref a_t), (1, jk_V x1), (2, jk_V x2)]) rfl ?_
      refine jk_aload_n C rd_Text_readNumber_30 (k := 1) rfl ?_
      refine jk_get C in_Text (ci := 3) rfl 3 (by decide) tm_53 0 rfl rfl rd_Text_readNumber_31 ?_
      refine jk_istore C rd_Text_readNumber_34 (by decide) (lv' := [(4, jk_V q10.2.1), (3, jk_V 0), (0, .ref a_t), (1, jk_V x1), (2, jk_V x2)]) rfl ?_
      refine jk_lv (lv' := [(0, .ref a_t), (1, jk_V x1), (2, jk_V x2), (3, jk_V 0), (4, jk_V q10.2.1)]) [2, 3, 4, 1, 0] rfl ?_
      exact bk_36 jk_F q10.1 q10.2.1 q10.2.2 i_t_code i_t_offset x1 x2 0 q10.2.1 hf
    · refine jk_aload_n C rd_Text_readNumber_21 (k := 0) rfl ?_
      refine jk_iconst C rd_Text_readNumber_22 ?_
      obtain ⟨q23, hq23, hf⟩ := jk_bind_h hf
      refine jk_callVv C hZ.1 hz (ct_Text_fail l D Z sq hZ cI cR a_t a_t_bytes i_t_length q10.1 q10.2.1 q10.2.2 i_t_code i_t_offset 1 q23 hq23) tm_315 tm_304 tm_305 tm_2 tm_306 na_Text_fail ⟨Nat.le_of_ble_eq_true rfl, Nat.le_of_ble_eq_true rfl⟩ rfl [0] rfl rfl rfl (ws' := wd_Text_readNumber cI a_t a_t_bytes a_t_bytes_k i_t_length q10.1 q10.2.1 q10.2.2 q23.1 q23.2 i_t_bytes) rfl 0 3 rfl rfl rfl (st := []) rfl (Nat.le_of_ble_eq_true rfl) rd_Text_readNumber_23 ?_ ⟨Nat.le_of_ble_eq_true rfl, Nat.le_of_ble_eq_true rfl⟩
      refine jk_iconst C rd_Text_readNumber_26 ?_
      cases hf
      exact jk_iret C rfl rd_Text_readNumber_27 rfl
  · refine jk_iconst C rd_Text_readNumber_7 ?_
    cases hf
    exact jk_iret C rfl rd_Text_readNumber_8 rfl
def wd_Script_readFirst (cI : ClassId) (a_a a_a_bytes a_a_bytes_k : Nat) (i_a_length : Int) (i_a_kind : Int) (i_a_start : Int) (i_a_end : Int) (i_a_code : Int) (i_a_offset : Int) (i_a_bytes : (Int → Int)) : va_W := [(a_a, .inr (3, [.ref a_a_bytes, jk_V i_a_length, jk_V i_a_kind, jk_V i_a_start, jk_V i_a_end, jk_V i_a_code, jk_V i_a_offset])), (a_a_bytes, .inr (0, [.ref a_a_bytes_k])), (a_a_bytes_k, jk_W cI 700 i_a_bytes)]
set_option maxHeartbeats 4000000 in
set_option maxRecDepth 20000 in
theorem ct_Script_readFirst (l : Launch) (D : va_G) (Z : (Nat → Prop) → State → Heap → Prop) (sq : Nat → Nat) (hZ : jk_ZK Z sq) (cI cR : ClassId) (a_a a_a_bytes a_a_bytes_k : Nat) (i_a_length : Int) (i_a_kind : Int) (i_a_start : Int) (i_a_end : Int) (i_a_code : Int) (i_a_offset : Int) (i_a_bytes : (Int → Int)) (x1 : Int) (q : Int × Int × Int × Int × Int × Int) (hf : fn_Script_readFirst i_a_bytes i_a_length i_a_kind i_a_start i_a_end i_a_code i_a_offset x1 = some q) : jk_MI l D jk_cl (jk_ty cI cR) Z mn_Script_readFirst (.code mn_Script_readFirst mb_Script_readFirst 2 (some .int) :: jk_WA) (jk_rm 4 88) [.ref a_a, jk_V x1] (wd_Script_readFirst cI a_a a_a_bytes a_a_bytes_k i_a_length i_a_kind i_a_start i_a_end i_a_code i_a_offset i_a_bytes) (wd_Script_readFirst cI a_a a_a_bytes a_a_bytes_k i_a_length q.2.1 q.2.2.1 q.2.2.2.1 q.2.2.2.2.1 q.2.2.2.2.2 i_a_bytes) q.1 := by
  intro sz
  refine jk_body (by decide +kernel) (fun p e s m args below meth c hsz hz hin C => ?_) (Nat.le_of_ble_eq_true rfl)
  subst hsz
  unfold fn_Script_readFirst at hf
  refine jk_iload_n C rd_Script_readFirst_0 (k := 1) rfl ?_
  refine jk_if_ne (tgt := 6) C rd_Script_readFirst_1 (by decide) hf (fun _ hf => ?_) (fun _ hf => ?_)
  · refine jk_iload_n C rd_Script_readFirst_6 (k := 1) rfl ?_
    refine jk_iconst C rd_Script_readFirst_7 ?_
    refine jk_icmp_eq (tgt := 22) C rd_Script_readFirst_8 (by decide) hf (fun _ hf => ?_) (fun _ hf => ?_)
    · refine jk_aload_n C rd_Script_readFirst_22 (k := 0) rfl ?_
      refine jk_iconst C rd_Script_readFirst_23 ?_
      refine jk_iconst C rd_Script_readFirst_24 ?_
      obtain ⟨q25, hq25, hf⟩ := jk_bind_h hf
      refine jk_callVi C hZ.1 hz (ct_Text_readNumber l D Z sq hZ cI cR a_a a_a_bytes a_a_bytes_k i_a_length i_a_kind i_a_start i_a_end i_a_code i_a_offset i_a_bytes 0 5 q25 hq25) tm_531 tm_358 tm_359 tm_2 tm_360 na_Text_readNumber ⟨Nat.le_of_ble_eq_true rfl, Nat.le_of_ble_eq_true rfl⟩ rfl [0, 1, 2] rfl rfl rfl (ws' := wd_Script_readFirst cI a_a a_a_bytes a_a_bytes_k i_a_length q25.2.1 q25.2.2.1 q25.2.2.2.1 q25.2.2.2.2.1 q25.2.2.2.2.2 i_a_bytes) rfl 0 3 rfl rfl rfl (st := []) rfl (Nat.le_of_ble_eq_true rfl) rd_Script_readFirst_25 ?_ ⟨Nat.le_of_ble_eq_true rfl, Nat.le_of_ble_eq_true rfl⟩
      cases hf
      exact jk_iret C rfl rd_Script_readFirst_28 rfl
    · refine jk_iload_n C rd_Script_readFirst_11 (k := 1) rfl ?_
      refine jk_iconst C rd_Script_readFirst_12 ?_
      refine jk_icmp_eq (tgt := 22) C rd_Script_readFirst_13 (by decide) hf (fun _ hf => ?_) (fun _ hf => ?_)
      · refine jk_aload_n C rd_Script_readFirst_22 (k := 0) rfl ?_
        refine jk_iconst C rd_Script_readFirst_23 ?_
        refine jk_iconst C rd_Script_readFirst_24 ?_
        obtain ⟨q25, hq25, hf⟩ := jk_bind_h hf
        refine jk_callVi C hZ.1 hz (ct_Text_readNumber l D Z sq hZ cI cR a_a a_a_bytes a_a_bytes_k i_a_length i_a_kind i_a_start i_a_end i_a_code i_a_offset i_a_bytes 0 5 q25 hq25) tm_531 tm_358 tm_359 tm_2 tm_360 na_Text_readNumber ⟨Nat.le_of_ble_eq_true rfl, Nat.le_of_ble_eq_true rfl⟩ rfl [0, 1, 2] rfl rfl rfl (ws' := wd_Script_readFirst cI a_a a_a_bytes a_a_bytes_k i_a_length q25.2.1 q25.2.2.1 q25.2.2.2.1 q25.2.2.2.2.1 q25.2.2.2.2.2 i_a_bytes) rfl 0 3 rfl rfl rfl (st := []) rfl (Nat.le_of_ble_eq_true rfl) rd_Script_readFirst_25 ?_ ⟨Nat.le_of_ble_eq_true rfl, Nat.le_of_ble_eq_true rfl⟩
        cases hf
        exact jk_iret C rfl rd_Script_readFirst_28 rfl
      · refine jk_iload_n C rd_Script_readFirst_16 (k := 1) rfl ?_
        refine jk_bipush C rd_Script_readFirst_17 (by decide +kernel) ?_
        refine jk_icmp_ne (tgt := 29) C rd_Script_readFirst_19 (by decide) hf (fun _ hf => ?_) (fun _ hf => ?_)
        · refine jk_aload_n C rd_Script_readFirst_29 (k := 0) rfl ?_
          refine jk_iconst C rd_Script_readFirst_30 ?_
          refine jk_bipush C rd_Script_readFirst_31 (by decide +kernel) ?_
          obtain ⟨q33, hq33, hf⟩ := jk_bind_h hf
          refine jk_callVi C hZ.1 hz (ct_Text_readNumber l D Z sq hZ cI cR a_a a_a_bytes a_a_bytes_k i_a_length i_a_kind i_a_start i_a_end i_a_code i_a_offset i_a_bytes 0 39 q33 hq33) tm_531 tm_358 tm_359 tm_2 tm_360 na_Text_readNumber ⟨Nat.le_of_ble_eq_true rfl, Nat.le_of_ble_eq_true rfl⟩ rfl [0, 1, 2] rfl rfl rfl (ws' := wd_Script_readFirst cI a_a a_a_bytes a_a_bytes_k i_a_length q33.2.1 q33.2.2.1 q33.2.2.2.1 q33.2.2.2.2.1 q33.2.2.2.2.2 i_a_bytes) rfl 0 3 rfl rfl rfl (st := []) rfl (Nat.le_of_ble_eq_true rfl) rd_Script_readFirst_33 ?_ ⟨Nat.le_of_ble_eq_true rfl, Nat.le_of_ble_eq_true rfl⟩
          cases hf
          exact jk_iret C rfl rd_Script_readFirst_36 rfl
        · refine jk_aload_n C rd_Script_readFirst_22 (k := 0) rfl ?_
          refine jk_iconst C rd_Script_readFirst_23 ?_
          refine jk_iconst C rd_Script_readFirst_24 ?_
          obtain ⟨q25, hq25, hf⟩ := jk_bind_h hf
          refine jk_callVi C hZ.1 hz (ct_Text_readNumber l D Z sq hZ cI cR a_a a_a_bytes a_a_bytes_k i_a_length i_a_kind i_a_start i_a_end i_a_code i_a_offset i_a_bytes 0 5 q25 hq25) tm_531 tm_358 tm_359 tm_2 tm_360 na_Text_readNumber ⟨Nat.le_of_ble_eq_true rfl, Nat.le_of_ble_eq_true rfl⟩ rfl [0, 1, 2] rfl rfl rfl (ws' := wd_Script_readFirst cI a_a a_a_bytes a_a_bytes_k i_a_length q25.2.1 q25.2.2.1 q25.2.2.2.1 q25.2.2.2.2.1 q25.2.2.2.2.2 i_a_bytes) rfl 0 3 rfl rfl rfl (st := []) rfl (Nat.le_of_ble_eq_true rfl) rd_Script_readFirst_25 ?_ ⟨Nat.le_of_ble_eq_true rfl, Nat.le_of_ble_eq_true rfl⟩
          cases hf
          exact jk_iret C rfl rd_Script_readFirst_28 rfl
  · refine jk_iconst C rd_Script_readFirst_4 ?_
    cases hf
    exact jk_iret C rfl rd_Script_readFirst_5 rfl
def wd_Text_isWord (cI : ClassId) (a_t a_t_bytes a_t_bytes_k : Nat) (i_t_length : Int) (i_t_kind : Int) (i_t_start : Int) (i_t_end : Int) (i_t_code : Int) (i_t_offset : Int) (i_t_bytes : (Int → Int)) : va_W := [(a_t, .inr (3, [.ref a_t_bytes, jk_V i_t_length, jk_V i_t_kind, jk_V i_t_start, jk_V i_t_end, jk_V i_t_code, jk_V i_t_offset])), (a_t_bytes, .inr (0, [.ref a_t_bytes_k])), (a_t_bytes_k, jk_W cI 700 i_t_bytes)]
set_option maxHeartbeats 4000000 in
set_option maxRecDepth 20000 in
theorem ct_Text_isWord (l : Launch) (D : va_G) (Z : (Nat → Prop) → State → Heap → Prop) (sq : Nat → Nat) (hZ : jk_ZK Z sq) (cI cR : ClassId) (a_t a_t_bytes a_t_bytes_k : Nat) (i_t_length : Int) (i_t_kind : Int) (i_t_start : Int) (i_t_end : Int) (i_t_code : Int) (i_t_offset : Int) (i_t_bytes : (Int → Int)) (i_x1 : List Int) (q_i_x1 : Nat) (hq_i_x1 : jk_St Z q_i_x1 i_x1) (q : Int) (hf : fn_Text_isWord i_t_bytes i_t_kind i_t_start i_t_end i_x1 = some q) : jk_MI l D jk_cl (jk_ty cI cR) Z mn_Text_isWord (.code mn_Text_isWord mb_Text_isWord 3 (some .boolean) :: jk_WA) (jk_rm 6 300) [.ref a_t, .ref q_i_x1] (wd_Text_isWord cI a_t a_t_bytes a_t_bytes_k i_t_length i_t_kind i_t_start i_t_end i_t_code i_t_offset i_t_bytes) (wd_Text_isWord cI a_t a_t_bytes a_t_bytes_k i_t_length i_t_kind i_t_start i_t_end i_t_code i_t_offset i_t_bytes) q := by
  intro sz
  refine jk_body (by decide +kernel) (fun p e s m args below meth c hsz hz hin C => ?_) (Nat.le_of_ble_eq_true rfl)
  subst hsz
  unfold fn_Text_isWord at hf
  have bk_28 : ∀ (n : Nat) (v2 : Int), fn_Text_isWord_b28 n i_t_bytes i_t_start i_x1 v2 = some q → jk_J p l e (jk_rm 6 300) s m args below meth c 0 0 (jk_QI below D jk_cl (jk_ty cI cR) (wd_Text_isWord cI a_t a_t_bytes a_t_bytes_k i_t_length i_t_kind i_t_start i_t_end i_t_code i_t_offset i_t_bytes) (wd_Text_isWord cI a_t a_t_bytes a_t_bytes_k i_t_length i_t_kind i_t_start i_t_end i_t_code i_t_offset i_t_bytes) args s q) D jk_cl (va_A (wd_Text_isWord cI a_t a_t_bytes a_t_bytes_k i_t_length i_t_kind i_t_start i_t_end i_t_code i_t_offset i_t_bytes) s.heap.size) 3 (wd_Text_isWord cI a_t a_t_bytes a_t_bytes_k i_t_length i_t_kind i_t_start i_t_end i_t_code i_t_offset i_t_bytes) [(0, .ref a_t), (1, .ref q_i_x1), (2, jk_V v2)] 28 [] := by
    intro n
    induction n with
    | zero => intro v2 hf; exact nomatch (show none = some q from hf)
    | succ n ih =>
      intro v2 hf
      rw [fn_Text_isWord_b28] at hf
      refine jk_iload_n C rd_Text_isWord_28 (k := 2) rfl ?_
      refine jk_aload_n C rd_Text_isWord_29 (k := 1) rfl ?_
      refine jk_slen C hZ hz hq_i_x1 rd_Text_isWord_30 W_slen_Text_39 ⟨Nat.le_of_ble_eq_true rfl, Nat.le_of_ble_eq_true rfl⟩ (Nat.le_of_ble_eq_true rfl) ⟨Nat.le_of_ble_eq_true rfl, Nat.le_of_ble_eq_true rfl⟩ ?_
      refine jk_icmp_ge (tgt := 65) C rd_Text_isWord_33 (by decide) hf (fun _ hf => ?_) (fun _ hf => ?_)
      · refine jk_iconst C rd_Text_isWord_65 ?_
        cases hf
        exact jk_zret C (Or.inr rfl) rfl rd_Text_isWord_66 rfl
      · refine jk_aload_n C rd_Text_isWord_36 (k := 0) rfl ?_
        refine jk_get C in_Text (ci := 3) rfl 0 (by decide) tm_49 0 rfl rfl rd_Text_isWord_37 ?_
        refine jk_aload_n C rd_Text_isWord_40 (k := 0) rfl ?_
        refine jk_get C in_Text (ci := 3) rfl 3 (by decide) tm_53 0 rfl rfl rd_Text_isWord_41 ?_
        refine jk_iload_n C rd_Text_isWord_44 (k := 2) rfl ?_
        refine jk_iadd C rd_Text_isWord_45 ?_
        obtain ⟨q46, hq46, hf⟩ := jk_bind_h hf
        refine jk_callVi C hZ.1 hz (ct_Row_get l D Z sq hZ cI cR (n_t := 700) (Nat.le_of_ble_eq_true rfl) a_t_bytes a_t_bytes_k i_t_bytes (i_t_start + v2) q46 hq46) tm_291 tm_292 tm_293 tm_3 tm_294 na_Row_get ⟨Nat.le_of_ble_eq_true rfl, Nat.le_of_ble_eq_true rfl⟩ rfl [1, 2] rfl rfl rfl (ws' := wd_Text_isWord cI a_t a_t_bytes a_t_bytes_k i_t_length i_t_kind i_t_start i_t_end i_t_code i_t_offset i_t_bytes) rfl 1 0 rfl rfl rfl (st := []) rfl (Nat.le_of_ble_eq_true rfl) rd_Text_isWord_46 ?_ ⟨Nat.le_of_ble_eq_true rfl, Nat.le_of_ble_eq_true rfl⟩
        refine jk_aload_n C rd_Text_isWord_49 (k := 1) rfl ?_
        refine jk_iload_n C rd_Text_isWord_50 (k := 2) rfl ?_
        refine jk_sch C hZ hz hq_i_x1 rd_Text_isWord_51 W_sch_Text_44 ⟨Nat.le_of_ble_eq_true rfl, Nat.le_of_ble_eq_true rfl⟩ (Nat.le_of_ble_eq_true rfl) ⟨Nat.le_of_ble_eq_true rfl, Nat.le_of_ble_eq_true rfl⟩ hf (fun hf => ?_)
        refine jk_icmp_eq (tgt := 59) C rd_Text_isWord_54 (by decide) hf (fun _ hf => ?_) (fun _ hf => ?_)
        · refine jk_iinc C rd_Text_isWord_59 (k := 2) rfl (by decide) (lv' := [(2, jk_V (v2 + 1)), (0, .ref a_t), (1, .ref q_i_x1)]) rfl ?_
          refine jk_goto (tgt := 28) C rd_Text_isWord_62 (by decide) ?_
          refine jk_lv (lv' := [(0, .ref a_t), (1, .ref q_i_x1), (2, jk_V (v2 + 1))]) [1, 2, 0] rfl ?_
          exact ih (v2 + 1) hf
        · refine jk_iconst C rd_Text_isWord_57 ?_
          cases hf
          exact jk_zret C (Or.inl rfl) rfl rd_Text_isWord_58 rfl
  refine jk_aload_n C rd_Text_isWord_0 (k := 0) rfl ?_
  refine jk_get C in_Text (ci := 3) rfl 2 (by decide) tm_52 0 rfl rfl rd_Text_isWord_1 ?_
  refine jk_iconst C rd_Text_isWord_4 ?_
  refine jk_icmp_ne (tgt := 24) C rd_Text_isWord_5 (by decide) hf (fun _ hf => ?_) (fun _ hf => ?_)
  · refine jk_iconst C rd_Text_isWord_24 ?_
    cases hf
    exact jk_zret C (Or.inl rfl) rfl rd_Text_isWord_25 rfl
  · refine jk_aload_n C rd_Text_isWord_8 (k := 0) rfl ?_
    refine jk_get C in_Text (ci := 3) rfl 4 (by decide) tm_54 0 rfl rfl rd_Text_isWord_9 ?_
    refine jk_aload_n C rd_Text_isWord_12 (k := 0) rfl ?_
    refine jk_get C in_Text (ci := 3) rfl 3 (by decide) tm_53 0 rfl rfl rd_Text_isWord_13 ?_
    refine jk_isub C rd_Text_isWord_16 ?_
    refine jk_aload_n C rd_Text_isWord_17 (k := 1) rfl ?_
    refine jk_slen C hZ hz hq_i_x1 rd_Text_isWord_18 W_slen_Text_39 ⟨Nat.le_of_ble_eq_true rfl, Nat.le_of_ble_eq_true rfl⟩ (Nat.le_of_ble_eq_true rfl) ⟨Nat.le_of_ble_eq_true rfl, Nat.le_of_ble_eq_true rfl⟩ ?_
    refine jk_icmp_eq (tgt := 26) C rd_Text_isWord_21 (by decide) hf (fun _ hf => ?_) (fun _ hf => ?_)
    · refine jk_iconst C rd_Text_isWord_26 ?_
      refine jk_istore_n C rd_Text_isWord_27 (by decide) (lv' := [(2, jk_V 0), (0, .ref a_t), (1, .ref q_i_x1)]) rfl ?_
      refine jk_lv (lv' := [(0, .ref a_t), (1, .ref q_i_x1), (2, jk_V 0)]) [1, 2, 0] rfl ?_
      exact bk_28 jk_F 0 hf
    · refine jk_iconst C rd_Text_isWord_24 ?_
      cases hf
      exact jk_zret C (Or.inl rfl) rfl rd_Text_isWord_25 rfl
def wd_Script_kindOf (cI : ClassId) (a_a a_a_bytes a_a_bytes_k : Nat) (i_a_length : Int) (i_a_kind : Int) (i_a_start : Int) (i_a_end : Int) (i_a_code : Int) (i_a_offset : Int) (i_a_bytes : (Int → Int)) : va_W := [(a_a, .inr (3, [.ref a_a_bytes, jk_V i_a_length, jk_V i_a_kind, jk_V i_a_start, jk_V i_a_end, jk_V i_a_code, jk_V i_a_offset])), (a_a_bytes, .inr (0, [.ref a_a_bytes_k])), (a_a_bytes_k, jk_W cI 700 i_a_bytes)]
set_option maxHeartbeats 4000000 in
set_option maxRecDepth 20000 in
theorem ct_Script_kindOf (l : Launch) (D : va_G) (Z : (Nat → Prop) → State → Heap → Prop) (sq : Nat → Nat) (hZ : jk_ZK Z sq) (cI cR : ClassId) (a_a a_a_bytes a_a_bytes_k : Nat) (i_a_length : Int) (i_a_kind : Int) (i_a_start : Int) (i_a_end : Int) (i_a_code : Int) (i_a_offset : Int) (i_a_bytes : (Int → Int)) (q : Int) (hf : fn_Script_kindOf i_a_bytes i_a_kind i_a_start i_a_end = some q) : jk_MI l D jk_cl (jk_ty cI cR) Z mn_Script_kindOf (.code mn_Script_kindOf mb_Script_kindOf 1 (some .int) :: jk_WA) (jk_rm 7 322) [.ref a_a] (wd_Script_kindOf cI a_a a_a_bytes a_a_bytes_k i_a_length i_a_kind i_a_start i_a_end i_a_code i_a_offset i_a_bytes) (wd_Script_kindOf cI a_a a_a_bytes a_a_bytes_k i_a_length i_a_kind i_a_start i_a_end i_a_code i_a_offset i_a_bytes) q := by
  intro sz
  refine jk_body (by decide +kernel) (fun p e s m args below meth c hsz hz hin C => ?_) (Nat.le_of_ble_eq_true rfl)
  subst hsz
  unfold fn_Script_kindOf at hf
  refine jk_aload_n C rd_Script_kindOf_0 (k := 0) rfl ?_
  refine jk_ldcs C hZ hz rd_Script_kindOf_1 (k := 7) rfl ?_
  obtain ⟨q3, hq3, hf⟩ := jk_bind_h hf
  refine jk_callVi C hZ.1 hz (ct_Text_isWord l D Z sq hZ cI cR a_a a_a_bytes a_a_bytes_k i_a_length i_a_kind i_a_start i_a_end i_a_code i_a_offset i_a_bytes ([99, 108, 117, 115, 116, 101, 114]) ((sq 7)) ((jk_zs hZ (k := 7) rfl)) q3 hq3) tm_517 tm_297 tm_298 tm_2 tm_299 na_Text_isWord ⟨Nat.le_of_ble_eq_true rfl, Nat.le_of_ble_eq_true rfl⟩ rfl [0, 1, 2] rfl rfl rfl (ws' := wd_Script_kindOf cI a_a a_a_bytes a_a_bytes_k i_a_length i_a_kind i_a_start i_a_end i_a_code i_a_offset i_a_bytes) rfl 0 3 rfl rfl rfl (st := []) rfl (Nat.le_of_ble_eq_true rfl) rd_Script_kindOf_3 ?_ ⟨Nat.le_of_ble_eq_true rfl, Nat.le_of_ble_eq_true rfl⟩
  refine jk_if_eq (tgt := 11) C rd_Script_kindOf_6 (by decide) hf (fun _ hf => ?_) (fun _ hf => ?_)
  · refine jk_aload_n C rd_Script_kindOf_11 (k := 0) rfl ?_
    refine jk_ldcs C hZ hz rd_Script_kindOf_12 (k := 8) rfl ?_
    obtain ⟨q14, hq14, hf⟩ := jk_bind_h hf
    refine jk_callVi C hZ.1 hz (ct_Text_isWord l D Z sq hZ cI cR a_a a_a_bytes a_a_bytes_k i_a_length i_a_kind i_a_start i_a_end i_a_code i_a_offset i_a_bytes ([112, 101, 110, 100, 97, 110, 116]) ((sq 8)) ((jk_zs hZ (k := 8) rfl)) q14 hq14) tm_517 tm_297 tm_298 tm_2 tm_299 na_Text_isWord ⟨Nat.le_of_ble_eq_true rfl, Nat.le_of_ble_eq_true rfl⟩ rfl [0, 1, 2] rfl rfl rfl (ws' := wd_Script_kindOf cI a_a a_a_bytes a_a_bytes_k i_a_length i_a_kind i_a_start i_a_end i_a_code i_a_offset i_a_bytes) rfl 0 3 rfl rfl rfl (st := []) rfl (Nat.le_of_ble_eq_true rfl) rd_Script_kindOf_14 ?_ ⟨Nat.le_of_ble_eq_true rfl, Nat.le_of_ble_eq_true rfl⟩
    refine jk_if_eq (tgt := 22) C rd_Script_kindOf_17 (by decide) hf (fun _ hf => ?_) (fun _ hf => ?_)
    · refine jk_aload_n C rd_Script_kindOf_22 (k := 0) rfl ?_
      refine jk_ldcs C hZ hz rd_Script_kindOf_23 (k := 9) rfl ?_
      obtain ⟨q25, hq25, hf⟩ := jk_bind_h hf
      refine jk_callVi C hZ.1 hz (ct_Text_isWord l D Z sq hZ cI cR a_a a_a_bytes a_a_bytes_k i_a_length i_a_kind i_a_start i_a_end i_a_code i_a_offset i_a_bytes ([115, 117, 98]) ((sq 9)) ((jk_zs hZ (k := 9) rfl)) q25 hq25) tm_517 tm_297 tm_298 tm_2 tm_299 na_Text_isWord ⟨Nat.le_of_ble_eq_true rfl, Nat.le_of_ble_eq_true rfl⟩ rfl [0, 1, 2] rfl rfl rfl (ws' := wd_Script_kindOf cI a_a a_a_bytes a_a_bytes_k i_a_length i_a_kind i_a_start i_a_end i_a_code i_a_offset i_a_bytes) rfl 0 3 rfl rfl rfl (st := []) rfl (Nat.le_of_ble_eq_true rfl) rd_Script_kindOf_25 ?_ ⟨Nat.le_of_ble_eq_true rfl, Nat.le_of_ble_eq_true rfl⟩
      refine jk_if_eq (tgt := 33) C rd_Script_kindOf_28 (by decide) hf (fun _ hf => ?_) (fun _ hf => ?_)
      · refine jk_aload_n C rd_Script_kindOf_33 (k := 0) rfl ?_
        refine jk_ldcs C hZ hz rd_Script_kindOf_34 (k := 10) rfl ?_
        obtain ⟨q36, hq36, hf⟩ := jk_bind_h hf
        refine jk_callVi C hZ.1 hz (ct_Text_isWord l D Z sq hZ cI cR a_a a_a_bytes a_a_bytes_k i_a_length i_a_kind i_a_start i_a_end i_a_code i_a_offset i_a_bytes ([99, 117, 116]) ((sq 10)) ((jk_zs hZ (k := 10) rfl)) q36 hq36) tm_517 tm_297 tm_298 tm_2 tm_299 na_Text_isWord ⟨Nat.le_of_ble_eq_true rfl, Nat.le_of_ble_eq_true rfl⟩ rfl [0, 1, 2] rfl rfl rfl (ws' := wd_Script_kindOf cI a_a a_a_bytes a_a_bytes_k i_a_length i_a_kind i_a_start i_a_end i_a_code i_a_offset i_a_bytes) rfl 0 3 rfl rfl rfl (st := []) rfl (Nat.le_of_ble_eq_true rfl) rd_Script_kindOf_36 ?_ ⟨Nat.le_of_ble_eq_true rfl, Nat.le_of_ble_eq_true rfl⟩
        refine jk_if_eq (tgt := 44) C rd_Script_kindOf_39 (by decide) hf (fun _ hf => ?_) (fun _ hf => ?_)
        · refine jk_aload_n C rd_Script_kindOf_44 (k := 0) rfl ?_
          refine jk_ldcs C hZ hz rd_Script_kindOf_45 (k := 11) rfl ?_
          obtain ⟨q47, hq47, hf⟩ := jk_bind_h hf
          refine jk_callVi C hZ.1 hz (ct_Text_isWord l D Z sq hZ cI cR a_a a_a_bytes a_a_bytes_k i_a_length i_a_kind i_a_start i_a_end i_a_code i_a_offset i_a_bytes ([116, 105, 101]) ((sq 11)) ((jk_zs hZ (k := 11) rfl)) q47 hq47) tm_517 tm_297 tm_298 tm_2 tm_299 na_Text_isWord ⟨Nat.le_of_ble_eq_true rfl, Nat.le_of_ble_eq_true rfl⟩ rfl [0, 1, 2] rfl rfl rfl (ws' := wd_Script_kindOf cI a_a a_a_bytes a_a_bytes_k i_a_length i_a_kind i_a_start i_a_end i_a_code i_a_offset i_a_bytes) rfl 0 3 rfl rfl rfl (st := []) rfl (Nat.le_of_ble_eq_true rfl) rd_Script_kindOf_47 ?_ ⟨Nat.le_of_ble_eq_true rfl, Nat.le_of_ble_eq_true rfl⟩
          refine jk_if_eq (tgt := 55) C rd_Script_kindOf_50 (by decide) hf (fun _ hf => ?_) (fun _ hf => ?_)
          · refine jk_aload_n C rd_Script_kindOf_55 (k := 0) rfl ?_
            refine jk_ldcs C hZ hz rd_Script_kindOf_56 (k := 12) rfl ?_
            obtain ⟨q58, hq58, hf⟩ := jk_bind_h hf
            refine jk_callVi C hZ.1 hz (ct_Text_isWord l D Z sq hZ cI cR a_a a_a_bytes a_a_bytes_k i_a_length i_a_kind i_a_start i_a_end i_a_code i_a_offset i_a_bytes ([107, 110, 111, 116]) ((sq 12)) ((jk_zs hZ (k := 12) rfl)) q58 hq58) tm_517 tm_297 tm_298 tm_2 tm_299 na_Text_isWord ⟨Nat.le_of_ble_eq_true rfl, Nat.le_of_ble_eq_true rfl⟩ rfl [0, 1, 2] rfl rfl rfl (ws' := wd_Script_kindOf cI a_a a_a_bytes a_a_bytes_k i_a_length i_a_kind i_a_start i_a_end i_a_code i_a_offset i_a_bytes) rfl 0 3 rfl rfl rfl (st := []) rfl (Nat.le_of_ble_eq_true rfl) rd_Script_kindOf_58 ?_ ⟨Nat.le_of_ble_eq_true rfl, Nat.le_of_ble_eq_true rfl⟩
            refine jk_if_eq (tgt := 66) C rd_Script_kindOf_61 (by decide) hf (fun _ hf => ?_) (fun _ hf => ?_)
            · refine jk_aload_n C rd_Script_kindOf_66 (k := 0) rfl ?_
              refine jk_ldcs C hZ hz rd_Script_kindOf_67 (k := 13) rfl ?_
              obtain ⟨q69, hq69, hf⟩ := jk_bind_h hf
              refine jk_callVi C hZ.1 hz (ct_Text_isWord l D Z sq hZ cI cR a_a a_a_bytes a_a_bytes_k i_a_length i_a_kind i_a_start i_a_end i_a_code i_a_offset i_a_bytes ([110, 105, 98, 98, 108, 101]) ((sq 13)) ((jk_zs hZ (k := 13) rfl)) q69 hq69) tm_517 tm_297 tm_298 tm_2 tm_299 na_Text_isWord ⟨Nat.le_of_ble_eq_true rfl, Nat.le_of_ble_eq_true rfl⟩ rfl [0, 1, 2] rfl rfl rfl (ws' := wd_Script_kindOf cI a_a a_a_bytes a_a_bytes_k i_a_length i_a_kind i_a_start i_a_end i_a_code i_a_offset i_a_bytes) rfl 0 3 rfl rfl rfl (st := []) rfl (Nat.le_of_ble_eq_true rfl) rd_Script_kindOf_69 ?_ ⟨Nat.le_of_ble_eq_true rfl, Nat.le_of_ble_eq_true rfl⟩
              refine jk_if_eq (tgt := 78) C rd_Script_kindOf_72 (by decide) hf (fun _ hf => ?_) (fun _ hf => ?_)
              · refine jk_aload_n C rd_Script_kindOf_78 (k := 0) rfl ?_
                refine jk_ldcs C hZ hz rd_Script_kindOf_79 (k := 14) rfl ?_
                obtain ⟨q81, hq81, hf⟩ := jk_bind_h hf
                refine jk_callVi C hZ.1 hz (ct_Text_isWord l D Z sq hZ cI cR a_a a_a_bytes a_a_bytes_k i_a_length i_a_kind i_a_start i_a_end i_a_code i_a_offset i_a_bytes ([100, 121, 101]) ((sq 14)) ((jk_zs hZ (k := 14) rfl)) q81 hq81) tm_517 tm_297 tm_298 tm_2 tm_299 na_Text_isWord ⟨Nat.le_of_ble_eq_true rfl, Nat.le_of_ble_eq_true rfl⟩ rfl [0, 1, 2] rfl rfl rfl (ws' := wd_Script_kindOf cI a_a a_a_bytes a_a_bytes_k i_a_length i_a_kind i_a_start i_a_end i_a_code i_a_offset i_a_bytes) rfl 0 3 rfl rfl rfl (st := []) rfl (Nat.le_of_ble_eq_true rfl) rd_Script_kindOf_81 ?_ ⟨Nat.le_of_ble_eq_true rfl, Nat.le_of_ble_eq_true rfl⟩
                refine jk_if_eq (tgt := 90) C rd_Script_kindOf_84 (by decide) hf (fun _ hf => ?_) (fun _ hf => ?_)
                · refine jk_aload_n C rd_Script_kindOf_90 (k := 0) rfl ?_
                  refine jk_ldcs C hZ hz rd_Script_kindOf_91 (k := 15) rfl ?_
                  obtain ⟨q93, hq93, hf⟩ := jk_bind_h hf
                  refine jk_callVi C hZ.1 hz (ct_Text_isWord l D Z sq hZ cI cR a_a a_a_bytes a_a_bytes_k i_a_length i_a_kind i_a_start i_a_end i_a_code i_a_offset i_a_bytes ([114, 101, 112, 97, 105, 114]) ((sq 15)) ((jk_zs hZ (k := 15) rfl)) q93 hq93) tm_517 tm_297 tm_298 tm_2 tm_299 na_Text_isWord ⟨Nat.le_of_ble_eq_true rfl, Nat.le_of_ble_eq_true rfl⟩ rfl [0, 1, 2] rfl rfl rfl (ws' := wd_Script_kindOf cI a_a a_a_bytes a_a_bytes_k i_a_length i_a_kind i_a_start i_a_end i_a_code i_a_offset i_a_bytes) rfl 0 3 rfl rfl rfl (st := []) rfl (Nat.le_of_ble_eq_true rfl) rd_Script_kindOf_93 ?_ ⟨Nat.le_of_ble_eq_true rfl, Nat.le_of_ble_eq_true rfl⟩
                  refine jk_if_eq (tgt := 104) C rd_Script_kindOf_96 (by decide) hf (fun _ hf => ?_) (fun _ hf => ?_)
                  · refine jk_iconst C rd_Script_kindOf_104 ?_
                    cases hf
                    exact jk_iret C rfl rd_Script_kindOf_105 rfl
                  · refine jk_bipush C rd_Script_kindOf_99 (by decide +kernel) ?_
                    refine jk_goto (tgt := 105) C rd_Script_kindOf_101 (by decide) ?_
                    cases hf
                    exact jk_iret C rfl rd_Script_kindOf_105 rfl
                · refine jk_bipush C rd_Script_kindOf_87 (by decide +kernel) ?_
                  cases hf
                  exact jk_iret C rfl rd_Script_kindOf_89 rfl
              · refine jk_bipush C rd_Script_kindOf_75 (by decide +kernel) ?_
                cases hf
                exact jk_iret C rfl rd_Script_kindOf_77 rfl
            · refine jk_iconst C rd_Script_kindOf_64 ?_
              cases hf
              exact jk_iret C rfl rd_Script_kindOf_65 rfl
          · refine jk_iconst C rd_Script_kindOf_53 ?_
            cases hf
            exact jk_iret C rfl rd_Script_kindOf_54 rfl
        · refine jk_iconst C rd_Script_kindOf_42 ?_
          cases hf
          exact jk_iret C rfl rd_Script_kindOf_43 rfl
      · refine jk_iconst C rd_Script_kindOf_31 ?_
        cases hf
        exact jk_iret C rfl rd_Script_kindOf_32 rfl
    · refine jk_iconst C rd_Script_kindOf_20 ?_
      cases hf
      exact jk_iret C rfl rd_Script_kindOf_21 rfl
  · refine jk_iconst C rd_Script_kindOf_9 ?_
    cases hf
    exact jk_iret C rfl rd_Script_kindOf_10 rfl
def wd_Script_readKind (cI : ClassId) (a_t a_t_kinds a_t_firsts a_t_seconds a_t_thirds a_a a_a_bytes a_a_bytes_k : Nat) (i_t_size : Int) (i_a_length : Int) (i_a_kind : Int) (i_a_start : Int) (i_a_end : Int) (i_a_code : Int) (i_a_offset : Int) (i_a_bytes : (Int → Int)) : va_W := [(a_t, .inr (7, [jk_V i_t_size, .ref a_t_kinds, .ref a_t_firsts, .ref a_t_seconds, .ref a_t_thirds])), (a_a, .inr (3, [.ref a_a_bytes, jk_V i_a_length, jk_V i_a_kind, jk_V i_a_start, jk_V i_a_end, jk_V i_a_code, jk_V i_a_offset])), (a_a_bytes, .inr (0, [.ref a_a_bytes_k])), (a_a_bytes_k, jk_W cI 700 i_a_bytes)]
set_option maxHeartbeats 4000000 in
set_option maxRecDepth 20000 in
theorem ct_Script_readKind (l : Launch) (D : va_G) (Z : (Nat → Prop) → State → Heap → Prop) (sq : Nat → Nat) (hZ : jk_ZK Z sq) (cI cR : ClassId) (a_t a_t_kinds a_t_firsts a_t_seconds a_t_thirds a_a a_a_bytes a_a_bytes_k : Nat) (i_t_size : Int) (i_a_length : Int) (i_a_kind : Int) (i_a_start : Int) (i_a_end : Int) (i_a_code : Int) (i_a_offset : Int) (i_a_bytes : (Int → Int)) (q : Int × Int × Int) (hf : fn_Script_readKind i_t_size i_a_bytes i_a_kind i_a_start i_a_end i_a_code i_a_offset = some q) : jk_MI l D jk_cl (jk_ty cI cR) Z mn_Script_readKind (.code mn_Script_readKind mb_Script_readKind 3 (some .int) :: jk_WA) (jk_rm 8 342) [.ref a_t, .ref a_a] (wd_Script_readKind cI a_t a_t_kinds a_t_firsts a_t_seconds a_t_thirds a_a a_a_bytes a_a_bytes_k i_t_size i_a_length i_a_kind i_a_start i_a_end i_a_code i_a_offset i_a_bytes) (wd_Script_readKind cI a_t a_t_kinds a_t_firsts a_t_seconds a_t_thirds a_a a_a_bytes a_a_bytes_k i_t_size i_a_length i_a_kind i_a_start i_a_end q.2.1 q.2.2 i_a_bytes) q.1 := by
  intro sz
  refine jk_body (by decide +kernel) (fun p e s m args below meth c hsz hz hin C => ?_) (Nat.le_of_ble_eq_true rfl)
  subst hsz
  unfold fn_Script_readKind at hf
  have bk_15 : ∀ (a_code : Int) (a_offset : Int) (v2 : Int), fn_Script_readKind_b15 i_t_size i_a_start a_code a_offset v2 = some q → jk_J p l e (jk_rm 8 342) s m args below meth c 0 0 (jk_QI below D jk_cl (jk_ty cI cR) (wd_Script_readKind cI a_t a_t_kinds a_t_firsts a_t_seconds a_t_thirds a_a a_a_bytes a_a_bytes_k i_t_size i_a_length i_a_kind i_a_start i_a_end i_a_code i_a_offset i_a_bytes) (wd_Script_readKind cI a_t a_t_kinds a_t_firsts a_t_seconds a_t_thirds a_a a_a_bytes a_a_bytes_k i_t_size i_a_length i_a_kind i_a_start i_a_end q.2.1 q.2.2 i_a_bytes) args s q.1) D jk_cl (va_A (wd_Script_readKind cI a_t a_t_kinds a_t_firsts a_t_seconds a_t_thirds a_a a_a_bytes a_a_bytes_k i_t_size i_a_length i_a_kind i_a_start i_a_end i_a_code i_a_offset i_a_bytes) s.heap.size) 3 (wd_Script_readKind cI a_t a_t_kinds a_t_firsts a_t_seconds a_t_thirds a_a a_a_bytes a_a_bytes_k i_t_size i_a_length i_a_kind i_a_start i_a_end a_code a_offset i_a_bytes) [(0, .ref a_t), (1, .ref a_a), (2, jk_V v2)] 15 [] := by
    intro a_code a_offset v2 hf
    unfold fn_Script_readKind_b15 at hf
    refine jk_aload_n C rd_Script_readKind_15 (k := 0) rfl ?_
    refine jk_get C in_Script (ci := 7) rfl 0 (by decide) tm_178 0 rfl rfl rd_Script_readKind_16 ?_
    refine jk_bipush C rd_Script_readKind_19 (by decide +kernel) ?_
    refine jk_icmp_lt (tgt := 30) C rd_Script_readKind_21 (by decide) hf (fun _ hf => ?_) (fun _ hf => ?_)
    · refine jk_iload_n C rd_Script_readKind_30 (k := 2) rfl ?_
      cases hf
      exact jk_iret C rfl rd_Script_readKind_31 rfl
    · refine jk_aload_n C rd_Script_readKind_24 (k := 1) rfl ?_
      refine jk_bipush C rd_Script_readKind_25 (by decide +kernel) ?_
      obtain ⟨q27, hq27, hf⟩ := jk_bind_h hf
      refine jk_callVv C hZ.1 hz (ct_Text_fail l D Z sq hZ cI cR a_a a_a_bytes i_a_length i_a_kind i_a_start i_a_end a_code a_offset 6 q27 hq27) tm_526 tm_304 tm_305 tm_2 tm_306 na_Text_fail ⟨Nat.le_of_ble_eq_true rfl, Nat.le_of_ble_eq_true rfl⟩ rfl [1] rfl rfl rfl (ws' := wd_Script_readKind cI a_t a_t_kinds a_t_firsts a_t_seconds a_t_thirds a_a a_a_bytes a_a_bytes_k i_t_size i_a_length i_a_kind i_a_start i_a_end q27.1 q27.2 i_a_bytes) rfl 1 3 rfl rfl rfl (st := []) rfl (Nat.le_of_ble_eq_true rfl) rd_Script_readKind_27 ?_ ⟨Nat.le_of_ble_eq_true rfl, Nat.le_of_ble_eq_true rfl⟩
      refine jk_iload_n C rd_Script_readKind_30 (k := 2) rfl ?_
      cases hf
      exact jk_iret C rfl rd_Script_readKind_31 rfl
  refine jk_aload_n C rd_Script_readKind_0 (k := 1) rfl ?_
  obtain ⟨q1, hq1, hf⟩ := jk_bind_h hf
  refine jk_callSi C hZ.1 hz (ct_Script_kindOf l D Z sq hZ cI cR a_a a_a_bytes a_a_bytes_k i_a_length i_a_kind i_a_start i_a_end i_a_code i_a_offset i_a_bytes q1 hq1) tm_513 tm_514 tm_8 tm_515 na_Script_kindOf ⟨Nat.le_of_ble_eq_true rfl, Nat.le_of_ble_eq_true rfl⟩ rfl [1, 2, 3] rfl rfl rfl (ws' := wd_Script_readKind cI a_t a_t_kinds a_t_firsts a_t_seconds a_t_thirds a_a a_a_bytes a_a_bytes_k i_t_size i_a_length i_a_kind i_a_start i_a_end i_a_code i_a_offset i_a_bytes) rfl (st := []) rfl (Nat.le_of_ble_eq_true rfl) rd_Script_readKind_1 ?_ ⟨Nat.le_of_ble_eq_true rfl, Nat.le_of_ble_eq_true rfl⟩
  refine jk_istore_n C rd_Script_readKind_4 (by decide) (lv' := [(2, jk_V q1), (0, .ref a_t), (1, .ref a_a)]) rfl ?_
  refine jk_iload_n C rd_Script_readKind_5 (k := 0) rfl ?_
  refine jk_iconst C rd_Script_readKind_6 ?_
  refine jk_icmp_ne (tgt := 15) C rd_Script_readKind_7 (by decide) hf (fun _ hf => ?_) (fun _ hf => ?_)
  · refine jk_lv (lv' := [(0, .ref a_t), (1, .ref a_a), (2, jk_V q1)]) [1, 2, 0] rfl ?_
    exact bk_15 i_a_code i_a_offset q1 hf
  · refine jk_aload_n C rd_Script_readKind_10 (k := 2) rfl ?_
    refine jk_iconst C rd_Script_readKind_11 ?_
    obtain ⟨q12, hq12, hf⟩ := jk_bind_h hf
    refine jk_callVv C hZ.1 hz (ct_Text_fail l D Z sq hZ cI cR a_a a_a_bytes i_a_length i_a_kind i_a_start i_a_end i_a_code i_a_offset 1 q12 hq12) tm_526 tm_304 tm_305 tm_2 tm_306 na_Text_fail ⟨Nat.le_of_ble_eq_true rfl, Nat.le_of_ble_eq_true rfl⟩ rfl [1] rfl rfl rfl (ws' := wd_Script_readKind cI a_t a_t_kinds a_t_firsts a_t_seconds a_t_thirds a_a a_a_bytes a_a_bytes_k i_t_size i_a_length i_a_kind i_a_start i_a_end q12.1 q12.2 i_a_bytes) rfl 1 3 rfl rfl rfl (st := []) rfl (Nat.le_of_ble_eq_true rfl) rd_Script_readKind_12 ?_ ⟨Nat.le_of_ble_eq_true rfl, Nat.le_of_ble_eq_true rfl⟩
    refine jk_lv (lv' := [(0, .ref a_t), (1, .ref a_a), (2, jk_V q1)]) [1, 2, 0] rfl ?_
    exact bk_15 q12.1 q12.2 q1 hf
def wd_Text_name (cI : ClassId) (a_t a_t_bytes a_t_bytes_k : Nat) (i_t_length : Int) (i_t_kind : Int) (i_t_start : Int) (i_t_end : Int) (i_t_code : Int) (i_t_offset : Int) (i_t_bytes : (Int → Int)) : va_W := [(a_t, .inr (3, [.ref a_t_bytes, jk_V i_t_length, jk_V i_t_kind, jk_V i_t_start, jk_V i_t_end, jk_V i_t_code, jk_V i_t_offset])), (a_t_bytes, .inr (0, [.ref a_t_bytes_k])), (a_t_bytes_k, jk_W cI 700 i_t_bytes)]
set_option maxHeartbeats 4000000 in
set_option maxRecDepth 20000 in
theorem ct_Text_name (l : Launch) (D : va_G) (Z : (Nat → Prop) → State → Heap → Prop) (sq : Nat → Nat) (hZ : jk_ZK Z sq) (cI cR : ClassId) (a_t a_t_bytes a_t_bytes_k : Nat) (i_t_length : Int) (i_t_kind : Int) (i_t_start : Int) (i_t_end : Int) (i_t_code : Int) (i_t_offset : Int) (i_t_bytes : (Int → Int)) (q : Int × Int × Int) (hf : fn_Text_name i_t_bytes i_t_kind i_t_start i_t_end i_t_code i_t_offset = some q) : jk_MI l D jk_cl (jk_ty cI cR) Z mn_Text_name (.code mn_Text_name mb_Text_name 3 (some .int) :: jk_WA) (jk_rm 1 21) [.ref a_t] (wd_Text_name cI a_t a_t_bytes a_t_bytes_k i_t_length i_t_kind i_t_start i_t_end i_t_code i_t_offset i_t_bytes) (wd_Text_name cI a_t a_t_bytes a_t_bytes_k i_t_length i_t_kind i_t_start i_t_end q.2.1 q.2.2 i_t_bytes) q.1 := by
  intro sz
  refine jk_body (by decide +kernel) (fun p e s m args below meth c hsz hz hin C => ?_) (Nat.le_of_ble_eq_true rfl)
  subst hsz
  unfold fn_Text_name at hf
  have bk_38 : ∀ (n : Nat) (t_code : Int) (t_offset : Int) (v1 : Int) (v2 : Int), fn_Text_name_b38 n i_t_bytes i_t_start t_code t_offset v1 v2 = some q → jk_J p l e (jk_rm 1 21) s m args below meth c 0 0 (jk_QI below D jk_cl (jk_ty cI cR) (wd_Text_name cI a_t a_t_bytes a_t_bytes_k i_t_length i_t_kind i_t_start i_t_end i_t_code i_t_offset i_t_bytes) (wd_Text_name cI a_t a_t_bytes a_t_bytes_k i_t_length i_t_kind i_t_start i_t_end q.2.1 q.2.2 i_t_bytes) args s q.1) D jk_cl (va_A (wd_Text_name cI a_t a_t_bytes a_t_bytes_k i_t_length i_t_kind i_t_start i_t_end i_t_code i_t_offset i_t_bytes) s.heap.size) 3 (wd_Text_name cI a_t a_t_bytes a_t_bytes_k i_t_length i_t_kind i_t_start i_t_end t_code t_offset i_t_bytes) [(0, .ref a_t), (1, jk_V v1), (2, jk_V v2)] 38 [] := by
    intro n
    induction n with
    | zero => intro t_code t_offset v1 v2 hf; exact nomatch (show none = some q from hf)
    | succ n ih =>
      intro t_code t_offset v1 v2 hf
      rw [fn_Text_name_b38] at hf
      refine jk_iload_n C rd_Text_name_38 (k := 2) rfl ?_
      refine jk_aload_n C rd_Text_name_39 (k := 0) rfl ?_
      refine jk_get C in_Text (ci := 3) rfl 3 (by decide) tm_53 0 rfl rfl rd_Text_name_40 ?_
      refine jk_icmp_lt (tgt := 70) C rd_Text_name_43 (by decide) hf (fun _ hf => ?_) (fun _ hf => ?_)
      · refine jk_iload_n C rd_Text_name_70 (k := 1) rfl ?_
        cases hf
        exact jk_iret C rfl rd_Text_name_71 rfl
      · refine jk_iload_n C rd_Text_name_46 (k := 1) rfl ?_
        refine jk_iconst C rd_Text_name_47 ?_
        refine jk_ishl C rd_Text_name_48 ?_
        refine jk_aload_n C rd_Text_name_49 (k := 0) rfl ?_
        refine jk_get C in_Text (ci := 3) rfl 0 (by decide) tm_49 0 rfl rfl rd_Text_name_50 ?_
        refine jk_iload_n C rd_Text_name_53 (k := 2) rfl ?_
        obtain ⟨q54, hq54, hf⟩ := jk_bind_h hf
        refine jk_callVi C hZ.1 hz (ct_Row_get l D Z sq hZ cI cR (n_t := 700) (Nat.le_of_ble_eq_true rfl) a_t_bytes a_t_bytes_k i_t_bytes v2 q54 hq54) tm_291 tm_292 tm_293 tm_3 tm_294 na_Row_get ⟨Nat.le_of_ble_eq_true rfl, Nat.le_of_ble_eq_true rfl⟩ rfl [1, 2] rfl rfl rfl (ws' := wd_Text_name cI a_t a_t_bytes a_t_bytes_k i_t_length i_t_kind i_t_start i_t_end t_code t_offset i_t_bytes) rfl 1 0 rfl rfl rfl (st := [jk_V (jk_shl v1 5)]) rfl (Nat.le_of_ble_eq_true rfl) rd_Text_name_54 ?_ ⟨Nat.le_of_ble_eq_true rfl, Nat.le_of_ble_eq_true rfl⟩
        refine jk_bipush C rd_Text_name_57 (by decide +kernel) ?_
        refine jk_isub C rd_Text_name_59 ?_
        refine jk_iconst C rd_Text_name_60 ?_
        refine jk_iadd C rd_Text_name_61 ?_
        refine jk_ior C rd_Text_name_62 ?_
        refine jk_istore_n C rd_Text_name_63 (by decide) (lv' := [(1, jk_V (jk_or (jk_shl v1 5) ((q54 - 97) + 1))), (0, .ref a_t), (2, jk_V v2)]) rfl ?_
        refine jk_iinc C rd_Text_name_64 (k := 2) rfl (by decide) (lv' := [(2, jk_V (v2 + (-1))), (1, jk_V (jk_or (jk_shl v1 5) ((q54 - 97) + 1))), (0, .ref a_t)]) rfl ?_
        refine jk_goto (tgt := 38) C rd_Text_name_67 (by decide) ?_
        refine jk_lv (lv' := [(0, .ref a_t), (1, jk_V (jk_or (jk_shl v1 5) ((q54 - 97) + 1))), (2, jk_V (v2 + (-1)))]) [2, 1, 0] rfl ?_
        exact ih t_code t_offset (jk_or (jk_shl v1 5) ((q54 - 97) + 1)) (v2 + (-1)) hf
  refine jk_aload_n C rd_Text_name_0 (k := 0) rfl ?_
  refine jk_get C in_Text (ci := 3) rfl 2 (by decide) tm_52 0 rfl rfl rd_Text_name_1 ?_
  refine jk_iconst C rd_Text_name_4 ?_
  refine jk_icmp_ne (tgt := 22) C rd_Text_name_5 (by decide) hf (fun _ hf => ?_) (fun _ hf => ?_)
  · refine jk_aload_n C rd_Text_name_22 (k := 0) rfl ?_
    refine jk_iconst C rd_Text_name_23 ?_
    obtain ⟨q24, hq24, hf⟩ := jk_bind_h hf
    refine jk_callVv C hZ.1 hz (ct_Text_fail l D Z sq hZ cI cR a_t a_t_bytes i_t_length i_t_kind i_t_start i_t_end i_t_code i_t_offset 1 q24 hq24) tm_315 tm_304 tm_305 tm_2 tm_306 na_Text_fail ⟨Nat.le_of_ble_eq_true rfl, Nat.le_of_ble_eq_true rfl⟩ rfl [0] rfl rfl rfl (ws' := wd_Text_name cI a_t a_t_bytes a_t_bytes_k i_t_length i_t_kind i_t_start i_t_end q24.1 q24.2 i_t_bytes) rfl 0 3 rfl rfl rfl (st := []) rfl (Nat.le_of_ble_eq_true rfl) rd_Text_name_24 ?_ ⟨Nat.le_of_ble_eq_true rfl, Nat.le_of_ble_eq_true rfl⟩
    refine jk_iconst C rd_Text_name_27 ?_
    cases hf
    exact jk_iret C rfl rd_Text_name_28 rfl
  · refine jk_aload_n C rd_Text_name_8 (k := 0) rfl ?_
    refine jk_get C in_Text (ci := 3) rfl 4 (by decide) tm_54 0 rfl rfl rd_Text_name_9 ?_
    refine jk_aload_n C rd_Text_name_12 (k := 0) rfl ?_
    refine jk_get C in_Text (ci := 3) rfl 3 (by decide) tm_53 0 rfl rfl rd_Text_name_13 ?_
    refine jk_isub C rd_Text_name_16 ?_
    refine jk_bipush C rd_Text_name_17 (by decide +kernel) ?_
    refine jk_icmp_le (tgt := 29) C rd_Text_name_19 (by decide) hf (fun _ hf => ?_) (fun _ hf => ?_)
    · refine jk_iconst C rd_Text_name_29 ?_
      refine jk_istore_n C rd_Text_name_30 (by decide) (lv' := [(1, jk_V 0), (0, .ref a_t)]) rfl ?_
      refine jk_aload_n C rd_Text_name_31 (k := 1) rfl ?_
      refine jk_get C in_Text (ci := 3) rfl 4 (by decide) tm_54 0 rfl rfl rd_Text_name_32 ?_
      refine jk_iconst C rd_Text_name_35 ?_
      refine jk_isub C rd_Text_name_36 ?_
      refine jk_istore_n C rd_Text_name_37 (by decide) (lv' := [(2, jk_V (i_t_end - 1)), (1, jk_V 0), (0, .ref a_t)]) rfl ?_
      refine jk_lv (lv' := [(0, .ref a_t), (1, jk_V 0), (2, jk_V (i_t_end - 1))]) [2, 1, 0] rfl ?_
      exact bk_38 jk_F i_t_code i_t_offset 0 (i_t_end - 1) hf
    · refine jk_aload_n C rd_Text_name_22 (k := 0) rfl ?_
      refine jk_iconst C rd_Text_name_23 ?_
      obtain ⟨q24, hq24, hf⟩ := jk_bind_h hf
      refine jk_callVv C hZ.1 hz (ct_Text_fail l D Z sq hZ cI cR a_t a_t_bytes i_t_length i_t_kind i_t_start i_t_end i_t_code i_t_offset 1 q24 hq24) tm_315 tm_304 tm_305 tm_2 tm_306 na_Text_fail ⟨Nat.le_of_ble_eq_true rfl, Nat.le_of_ble_eq_true rfl⟩ rfl [0] rfl rfl rfl (ws' := wd_Text_name cI a_t a_t_bytes a_t_bytes_k i_t_length i_t_kind i_t_start i_t_end q24.1 q24.2 i_t_bytes) rfl 0 3 rfl rfl rfl (st := []) rfl (Nat.le_of_ble_eq_true rfl) rd_Text_name_24 ?_ ⟨Nat.le_of_ble_eq_true rfl, Nat.le_of_ble_eq_true rfl⟩
      refine jk_iconst C rd_Text_name_27 ?_
      cases hf
      exact jk_iret C rfl rd_Text_name_28 rfl
def wd_Topics_find (cI : ClassId) (a_t a_t_names a_t_names_k : Nat) (i_t_size : Int) (i_t_names : (Int → Int)) : va_W := [(a_t, .inr (2, [jk_V i_t_size, .ref a_t_names])), (a_t_names, .inr (0, [.ref a_t_names_k])), (a_t_names_k, jk_W cI 8 i_t_names)]
set_option maxHeartbeats 4000000 in
set_option maxRecDepth 20000 in
theorem ct_Topics_find (l : Launch) (D : va_G) (Z : (Nat → Prop) → State → Heap → Prop) (sq : Nat → Nat) (hZ : jk_ZK Z sq) (cI cR : ClassId) (a_t a_t_names a_t_names_k : Nat) (i_t_size : Int) (i_t_names : (Int → Int)) (x1 : Int) (q : Int) (hf : fn_Topics_find i_t_size i_t_names x1 = some q) : jk_MI l D jk_cl (jk_ty cI cR) Z mn_Topics_find (.code mn_Topics_find mb_Topics_find 3 (some .int) :: jk_WA) (jk_rm 1 21) [.ref a_t, jk_V x1] (wd_Topics_find cI a_t a_t_names a_t_names_k i_t_size i_t_names) (wd_Topics_find cI a_t a_t_names a_t_names_k i_t_size i_t_names) q := by
  intro sz
  refine jk_body (by decide +kernel) (fun p e s m args below meth c hsz hz hin C => ?_) (Nat.le_of_ble_eq_true rfl)
  subst hsz
  unfold fn_Topics_find at hf
  have bk_2 : ∀ (n : Nat) (v1 : Int) (v2 : Int), fn_Topics_find_b2 n i_t_size i_t_names v1 v2 = some q → jk_J p l e (jk_rm 1 21) s m args below meth c 0 0 (jk_QI below D jk_cl (jk_ty cI cR) (wd_Topics_find cI a_t a_t_names a_t_names_k i_t_size i_t_names) (wd_Topics_find cI a_t a_t_names a_t_names_k i_t_size i_t_names) args s q) D jk_cl (va_A (wd_Topics_find cI a_t a_t_names a_t_names_k i_t_size i_t_names) s.heap.size) 3 (wd_Topics_find cI a_t a_t_names a_t_names_k i_t_size i_t_names) [(0, .ref a_t), (1, jk_V v1), (2, jk_V v2)] 2 [] := by
    intro n
    induction n with
    | zero => intro v1 v2 hf; exact nomatch (show none = some q from hf)
    | succ n ih =>
      intro v1 v2 hf
      rw [fn_Topics_find_b2] at hf
      refine jk_iload_n C rd_Topics_find_2 (k := 2) rfl ?_
      refine jk_aload_n C rd_Topics_find_3 (k := 0) rfl ?_
      refine jk_get C in_Topics (ci := 2) rfl 0 (by decide) tm_99 0 rfl rfl rd_Topics_find_4 ?_
      refine jk_icmp_ge (tgt := 30) C rd_Topics_find_7 (by decide) hf (fun _ hf => ?_) (fun _ hf => ?_)
      · refine jk_iconst C rd_Topics_find_30 ?_
        cases hf
        exact jk_iret C rfl rd_Topics_find_31 rfl
      · refine jk_aload_n C rd_Topics_find_10 (k := 0) rfl ?_
        refine jk_get C in_Topics (ci := 2) rfl 1 (by decide) tm_102 0 rfl rfl rd_Topics_find_11 ?_
        refine jk_iload_n C rd_Topics_find_14 (k := 2) rfl ?_
        obtain ⟨q15, hq15, hf⟩ := jk_bind_h hf
        refine jk_callVi C hZ.1 hz (ct_Row_get l D Z sq hZ cI cR (n_t := 8) (Nat.le_of_ble_eq_true rfl) a_t_names a_t_names_k i_t_names v2 q15 hq15) tm_320 tm_292 tm_293 tm_3 tm_294 na_Row_get ⟨Nat.le_of_ble_eq_true rfl, Nat.le_of_ble_eq_true rfl⟩ rfl [1, 2] rfl rfl rfl (ws' := wd_Topics_find cI a_t a_t_names a_t_names_k i_t_size i_t_names) rfl 1 0 rfl rfl rfl (st := []) rfl (Nat.le_of_ble_eq_true rfl) rd_Topics_find_15 ?_ ⟨Nat.le_of_ble_eq_true rfl, Nat.le_of_ble_eq_true rfl⟩
        refine jk_iload_n C rd_Topics_find_18 (k := 1) rfl ?_
        refine jk_icmp_ne (tgt := 24) C rd_Topics_find_19 (by decide) hf (fun _ hf => ?_) (fun _ hf => ?_)
        · refine jk_iinc C rd_Topics_find_24 (k := 2) rfl (by decide) (lv' := [(2, jk_V (v2 + 1)), (0, .ref a_t), (1, jk_V v1)]) rfl ?_
          refine jk_goto (tgt := 2) C rd_Topics_find_27 (by decide) ?_
          refine jk_lv (lv' := [(0, .ref a_t), (1, jk_V v1), (2, jk_V (v2 + 1))]) [1, 2, 0] rfl ?_
          exact ih v1 (v2 + 1) hf
        · refine jk_iload_n C rd_Topics_find_22 (k := 2) rfl ?_
          cases hf
          exact jk_iret C rfl rd_Topics_find_23 rfl
  refine jk_iconst C rd_Topics_find_0 ?_
  refine jk_istore_n C rd_Topics_find_1 (by decide) (lv' := [(2, jk_V 0), (0, .ref a_t), (1, jk_V x1)]) rfl ?_
  refine jk_lv (lv' := [(0, .ref a_t), (1, jk_V x1), (2, jk_V 0)]) [1, 2, 0] rfl ?_
  exact bk_2 jk_F x1 0 hf
def wd_Text_readTopic (cI : ClassId) (a_t a_t_bytes a_t_bytes_k a_a a_a_names a_a_names_k : Nat) (i_t_length : Int) (i_t_kind : Int) (i_t_start : Int) (i_t_end : Int) (i_t_code : Int) (i_t_offset : Int) (i_t_bytes : (Int → Int)) (i_a_size : Int) (i_a_names : (Int → Int)) : va_W := [(a_t, .inr (3, [.ref a_t_bytes, jk_V i_t_length, jk_V i_t_kind, jk_V i_t_start, jk_V i_t_end, jk_V i_t_code, jk_V i_t_offset])), (a_t_bytes, .inr (0, [.ref a_t_bytes_k])), (a_t_bytes_k, jk_W cI 700 i_t_bytes), (a_a, .inr (2, [jk_V i_a_size, .ref a_a_names])), (a_a_names, .inr (0, [.ref a_a_names_k])), (a_a_names_k, jk_W cI 8 i_a_names)]
set_option maxHeartbeats 4000000 in
set_option maxRecDepth 20000 in
theorem ct_Text_readTopic (l : Launch) (D : va_G) (Z : (Nat → Prop) → State → Heap → Prop) (sq : Nat → Nat) (hZ : jk_ZK Z sq) (cI cR : ClassId) (a_t a_t_bytes a_t_bytes_k a_a a_a_names a_a_names_k : Nat) (i_t_length : Int) (i_t_kind : Int) (i_t_start : Int) (i_t_end : Int) (i_t_code : Int) (i_t_offset : Int) (i_t_bytes : (Int → Int)) (i_a_size : Int) (i_a_names : (Int → Int)) (q : Int × Int × Int × Int × Int × Int) (hf : fn_Text_readTopic i_t_bytes i_t_length i_t_kind i_t_start i_t_end i_t_code i_t_offset i_a_size i_a_names = some q) : jk_MI l D jk_cl (jk_ty cI cR) Z mn_Text_readTopic (.code mn_Text_readTopic mb_Text_readTopic 3 (some .int) :: jk_WA) (jk_rm 3 64) [.ref a_t, .ref a_a] (wd_Text_readTopic cI a_t a_t_bytes a_t_bytes_k a_a a_a_names a_a_names_k i_t_length i_t_kind i_t_start i_t_end i_t_code i_t_offset i_t_bytes i_a_size i_a_names) (wd_Text_readTopic cI a_t a_t_bytes a_t_bytes_k a_a a_a_names a_a_names_k i_t_length q.2.1 q.2.2.1 q.2.2.2.1 q.2.2.2.2.1 q.2.2.2.2.2 i_t_bytes i_a_size i_a_names) q.1 := by
  intro sz
  refine jk_body (by decide +kernel) (fun p e s m args below meth c hsz hz hin C => ?_) (Nat.le_of_ble_eq_true rfl)
  subst hsz
  unfold fn_Text_readTopic at hf
  refine jk_aload_n C rd_Text_readTopic_0 (k := 0) rfl ?_
  obtain ⟨q1, hq1, hf⟩ := jk_bind_h hf
  refine jk_callVi C hZ.1 hz (ct_Text_hasFailed l D Z sq hZ cI cR a_t a_t_bytes i_t_length i_t_kind i_t_start i_t_end i_t_code i_t_offset q1 hq1) tm_279 tm_280 tm_281 tm_2 tm_282 na_Text_hasFailed ⟨Nat.le_of_ble_eq_true rfl, Nat.le_of_ble_eq_true rfl⟩ rfl [0] rfl rfl rfl (ws' := wd_Text_readTopic cI a_t a_t_bytes a_t_bytes_k a_a a_a_names a_a_names_k i_t_length i_t_kind i_t_start i_t_end i_t_code i_t_offset i_t_bytes i_a_size i_a_names) rfl 0 3 rfl rfl rfl (st := []) rfl (Nat.le_of_ble_eq_true rfl) rd_Text_readTopic_1 ?_ ⟨Nat.le_of_ble_eq_true rfl, Nat.le_of_ble_eq_true rfl⟩
  refine jk_if_eq (tgt := 9) C rd_Text_readTopic_4 (by decide) hf (fun _ hf => ?_) (fun _ hf => ?_)
  · refine jk_aload_n C rd_Text_readTopic_9 (k := 0) rfl ?_
    obtain ⟨q10, hq10, hf⟩ := jk_bind_h hf
    refine jk_callVv C hZ.1 hz (ct_Text_next l D Z sq hZ cI cR a_t a_t_bytes a_t_bytes_k i_t_length i_t_kind i_t_start i_t_end i_t_code i_t_offset i_t_bytes q10 hq10) tm_283 tm_284 tm_285 tm_2 tm_286 na_Text_next ⟨Nat.le_of_ble_eq_true rfl, Nat.le_of_ble_eq_true rfl⟩ rfl [0, 1, 2] rfl rfl rfl (ws' := wd_Text_readTopic cI a_t a_t_bytes a_t_bytes_k a_a a_a_names a_a_names_k i_t_length q10.1 q10.2.1 q10.2.2 i_t_code i_t_offset i_t_bytes i_a_size i_a_names) rfl 0 3 rfl rfl rfl (st := []) rfl (Nat.le_of_ble_eq_true rfl) rd_Text_readTopic_10 ?_ ⟨Nat.le_of_ble_eq_true rfl, Nat.le_of_ble_eq_true rfl⟩
    refine jk_aload_n C rd_Text_readTopic_13 (k := 1) rfl ?_
    refine jk_aload_n C rd_Text_readTopic_14 (k := 0) rfl ?_
    obtain ⟨q15, hq15, hf⟩ := jk_bind_h hf
    refine jk_callVi C hZ.1 hz (ct_Text_name l D Z sq hZ cI cR a_t a_t_bytes a_t_bytes_k i_t_length q10.1 q10.2.1 q10.2.2 i_t_code i_t_offset i_t_bytes q15 hq15) tm_311 tm_313 sl_2 tm_2 tm_314 na_Text_name ⟨Nat.le_of_ble_eq_true rfl, Nat.le_of_ble_eq_true rfl⟩ rfl [0, 1, 2] rfl rfl rfl (ws' := wd_Text_readTopic cI a_t a_t_bytes a_t_bytes_k a_a a_a_names a_a_names_k i_t_length q10.1 q10.2.1 q10.2.2 q15.2.1 q15.2.2 i_t_bytes i_a_size i_a_names) rfl 0 3 rfl rfl rfl (st := [.ref a_a]) rfl (Nat.le_of_ble_eq_true rfl) rd_Text_readTopic_15 ?_ ⟨Nat.le_of_ble_eq_true rfl, Nat.le_of_ble_eq_true rfl⟩
    obtain ⟨q18, hq18, hf⟩ := jk_bind_h hf
    refine jk_callVi C hZ.1 hz (ct_Topics_find l D Z sq hZ cI cR a_a a_a_names a_a_names_k i_a_size i_a_names q15.1 q18 hq18) tm_316 tm_317 tm_318 tm_5 tm_319 na_Topics_find ⟨Nat.le_of_ble_eq_true rfl, Nat.le_of_ble_eq_true rfl⟩ rfl [3, 4, 5] rfl rfl rfl (ws' := wd_Text_readTopic cI a_t a_t_bytes a_t_bytes_k a_a a_a_names a_a_names_k i_t_length q10.1 q10.2.1 q10.2.2 q15.2.1 q15.2.2 i_t_bytes i_a_size i_a_names) rfl 3 2 rfl rfl rfl (st := []) rfl (Nat.le_of_ble_eq_true rfl) rd_Text_readTopic_18 ?_ ⟨Nat.le_of_ble_eq_true rfl, Nat.le_of_ble_eq_true rfl⟩
    refine jk_istore_n C rd_Text_readTopic_21 (by decide) (lv' := [(2, jk_V q18), (0, .ref a_t), (1, .ref a_a)]) rfl ?_
    refine jk_iload_n C rd_Text_readTopic_22 (k := 0) rfl ?_
    refine jk_iconst C rd_Text_readTopic_23 ?_
    refine jk_icmp_ne (tgt := 32) C rd_Text_readTopic_24 (by decide) hf (fun _ hf => ?_) (fun _ hf => ?_)
    · refine jk_iload_n C rd_Text_readTopic_32 (k := 0) rfl ?_
      cases hf
      exact jk_iret C rfl rd_Text_readTopic_33 rfl
    · refine jk_aload_n C rd_Text_readTopic_27 (k := 1) rfl ?_
      refine jk_iconst C rd_Text_readTopic_28 ?_
      obtain ⟨q29, hq29, hf⟩ := jk_bind_h hf
      refine jk_callVv C hZ.1 hz (ct_Text_fail l D Z sq hZ cI cR a_t a_t_bytes i_t_length q10.1 q10.2.1 q10.2.2 q15.2.1 q15.2.2 4 q29 hq29) tm_315 tm_304 tm_305 tm_2 tm_306 na_Text_fail ⟨Nat.le_of_ble_eq_true rfl, Nat.le_of_ble_eq_true rfl⟩ rfl [0] rfl rfl rfl (ws' := wd_Text_readTopic cI a_t a_t_bytes a_t_bytes_k a_a a_a_names a_a_names_k i_t_length q10.1 q10.2.1 q10.2.2 q29.1 q29.2 i_t_bytes i_a_size i_a_names) rfl 0 3 rfl rfl rfl (st := []) rfl (Nat.le_of_ble_eq_true rfl) rd_Text_readTopic_29 ?_ ⟨Nat.le_of_ble_eq_true rfl, Nat.le_of_ble_eq_true rfl⟩
      refine jk_iload_n C rd_Text_readTopic_32 (k := 0) rfl ?_
      cases hf
      exact jk_iret C rfl rd_Text_readTopic_33 rfl
  · refine jk_iconst C rd_Text_readTopic_7 ?_
    cases hf
    exact jk_iret C rfl rd_Text_readTopic_8 rfl
def wd_Script_readSecond (cI : ClassId) (a_a a_a_bytes a_a_bytes_k a_b a_b_names a_b_names_k : Nat) (i_a_length : Int) (i_a_kind : Int) (i_a_start : Int) (i_a_end : Int) (i_a_code : Int) (i_a_offset : Int) (i_a_bytes : (Int → Int)) (i_b_size : Int) (i_b_names : (Int → Int)) : va_W := [(a_a, .inr (3, [.ref a_a_bytes, jk_V i_a_length, jk_V i_a_kind, jk_V i_a_start, jk_V i_a_end, jk_V i_a_code, jk_V i_a_offset])), (a_a_bytes, .inr (0, [.ref a_a_bytes_k])), (a_a_bytes_k, jk_W cI 700 i_a_bytes), (a_b, .inr (2, [jk_V i_b_size, .ref a_b_names])), (a_b_names, .inr (0, [.ref a_b_names_k])), (a_b_names_k, jk_W cI 8 i_b_names)]
set_option maxHeartbeats 4000000 in
set_option maxRecDepth 20000 in
theorem ct_Script_readSecond (l : Launch) (D : va_G) (Z : (Nat → Prop) → State → Heap → Prop) (sq : Nat → Nat) (hZ : jk_ZK Z sq) (cI cR : ClassId) (a_a a_a_bytes a_a_bytes_k a_b a_b_names a_b_names_k : Nat) (i_a_length : Int) (i_a_kind : Int) (i_a_start : Int) (i_a_end : Int) (i_a_code : Int) (i_a_offset : Int) (i_a_bytes : (Int → Int)) (i_b_size : Int) (i_b_names : (Int → Int)) (x2 : Int) (q : Int × Int × Int × Int × Int × Int) (hf : fn_Script_readSecond i_a_bytes i_a_length i_a_kind i_a_start i_a_end i_a_code i_a_offset i_b_size i_b_names x2 = some q) : jk_MI l D jk_cl (jk_ty cI cR) Z mn_Script_readSecond (.code mn_Script_readSecond mb_Script_readSecond 3 (some .int) :: jk_WA) (jk_rm 4 88) [.ref a_a, .ref a_b, jk_V x2] (wd_Script_readSecond cI a_a a_a_bytes a_a_bytes_k a_b a_b_names a_b_names_k i_a_length i_a_kind i_a_start i_a_end i_a_code i_a_offset i_a_bytes i_b_size i_b_names) (wd_Script_readSecond cI a_a a_a_bytes a_a_bytes_k a_b a_b_names a_b_names_k i_a_length q.2.1 q.2.2.1 q.2.2.2.1 q.2.2.2.2.1 q.2.2.2.2.2 i_a_bytes i_b_size i_b_names) q.1 := by
  intro sz
  refine jk_body (by decide +kernel) (fun p e s m args below meth c hsz hz hin C => ?_) (Nat.le_of_ble_eq_true rfl)
  subst hsz
  unfold fn_Script_readSecond at hf
  refine jk_iload_n C rd_Script_readSecond_0 (k := 2) rfl ?_
  refine jk_eqs_c hf (fun hx hf => ?_) (fun hx1 hf => ?_)
  · refine jk_tabIn (off := 43) (tgt := 44) C rd_Script_readSecond_1 (k := 1) hx (by decide +kernel) (by decide) ?_
    refine jk_aload_n C rd_Script_readSecond_44 (k := 0) rfl ?_
    refine jk_aload_n C rd_Script_readSecond_45 (k := 1) rfl ?_
    obtain ⟨q46, hq46, hf⟩ := jk_bind_h hf
    refine jk_callVi C hZ.1 hz (ct_Text_readTopic l D Z sq hZ cI cR a_a a_a_bytes a_a_bytes_k a_b a_b_names a_b_names_k i_a_length i_a_kind i_a_start i_a_end i_a_code i_a_offset i_a_bytes i_b_size i_b_names q46 hq46) tm_535 tm_377 tm_378 tm_2 tm_379 na_Text_readTopic ⟨Nat.le_of_ble_eq_true rfl, Nat.le_of_ble_eq_true rfl⟩ rfl [0, 1, 2, 3, 4, 5] rfl rfl rfl (ws' := wd_Script_readSecond cI a_a a_a_bytes a_a_bytes_k a_b a_b_names a_b_names_k i_a_length q46.2.1 q46.2.2.1 q46.2.2.2.1 q46.2.2.2.2.1 q46.2.2.2.2.2 i_a_bytes i_b_size i_b_names) rfl 0 3 rfl rfl rfl (st := []) rfl (Nat.le_of_ble_eq_true rfl) rd_Script_readSecond_46 ?_ ⟨Nat.le_of_ble_eq_true rfl, Nat.le_of_ble_eq_true rfl⟩
    cases hf
    exact jk_iret C rfl rd_Script_readSecond_49 rfl
  refine jk_eqs_c hf (fun hx hf => ?_) (fun hx2 hf => ?_)
  · refine jk_tabIn (off := 43) (tgt := 44) C rd_Script_readSecond_1 (k := 2) hx (by decide +kernel) (by decide) ?_
    refine jk_aload_n C rd_Script_readSecond_44 (k := 0) rfl ?_
    refine jk_aload_n C rd_Script_readSecond_45 (k := 1) rfl ?_
    obtain ⟨q46, hq46, hf⟩ := jk_bind_h hf
    refine jk_callVi C hZ.1 hz (ct_Text_readTopic l D Z sq hZ cI cR a_a a_a_bytes a_a_bytes_k a_b a_b_names a_b_names_k i_a_length i_a_kind i_a_start i_a_end i_a_code i_a_offset i_a_bytes i_b_size i_b_names q46 hq46) tm_535 tm_377 tm_378 tm_2 tm_379 na_Text_readTopic ⟨Nat.le_of_ble_eq_true rfl, Nat.le_of_ble_eq_true rfl⟩ rfl [0, 1, 2, 3, 4, 5] rfl rfl rfl (ws' := wd_Script_readSecond cI a_a a_a_bytes a_a_bytes_k a_b a_b_names a_b_names_k i_a_length q46.2.1 q46.2.2.1 q46.2.2.2.1 q46.2.2.2.2.1 q46.2.2.2.2.2 i_a_bytes i_b_size i_b_names) rfl 0 3 rfl rfl rfl (st := []) rfl (Nat.le_of_ble_eq_true rfl) rd_Script_readSecond_46 ?_ ⟨Nat.le_of_ble_eq_true rfl, Nat.le_of_ble_eq_true rfl⟩
    cases hf
    exact jk_iret C rfl rd_Script_readSecond_49 rfl
  refine jk_eqs_c hf (fun hx hf => ?_) (fun hx3 hf => ?_)
  · refine jk_tabIn (off := 63) (tgt := 64) C rd_Script_readSecond_1 (k := 3) hx (by decide +kernel) (by decide) ?_
    refine jk_iconst C rd_Script_readSecond_64 ?_
    cases hf
    exact jk_iret C rfl rd_Script_readSecond_65 rfl
  refine jk_eqs_c hf (fun hx hf => ?_) (fun hx4 hf => ?_)
  · refine jk_tabIn (off := 43) (tgt := 44) C rd_Script_readSecond_1 (k := 4) hx (by decide +kernel) (by decide) ?_
    refine jk_aload_n C rd_Script_readSecond_44 (k := 0) rfl ?_
    refine jk_aload_n C rd_Script_readSecond_45 (k := 1) rfl ?_
    obtain ⟨q46, hq46, hf⟩ := jk_bind_h hf
    refine jk_callVi C hZ.1 hz (ct_Text_readTopic l D Z sq hZ cI cR a_a a_a_bytes a_a_bytes_k a_b a_b_names a_b_names_k i_a_length i_a_kind i_a_start i_a_end i_a_code i_a_offset i_a_bytes i_b_size i_b_names q46 hq46) tm_535 tm_377 tm_378 tm_2 tm_379 na_Text_readTopic ⟨Nat.le_of_ble_eq_true rfl, Nat.le_of_ble_eq_true rfl⟩ rfl [0, 1, 2, 3, 4, 5] rfl rfl rfl (ws' := wd_Script_readSecond cI a_a a_a_bytes a_a_bytes_k a_b a_b_names a_b_names_k i_a_length q46.2.1 q46.2.2.1 q46.2.2.2.1 q46.2.2.2.2.1 q46.2.2.2.2.2 i_a_bytes i_b_size i_b_names) rfl 0 3 rfl rfl rfl (st := []) rfl (Nat.le_of_ble_eq_true rfl) rd_Script_readSecond_46 ?_ ⟨Nat.le_of_ble_eq_true rfl, Nat.le_of_ble_eq_true rfl⟩
    cases hf
    exact jk_iret C rfl rd_Script_readSecond_49 rfl
  refine jk_eqs_c hf (fun hx hf => ?_) (fun hx5 hf => ?_)
  · refine jk_tabIn (off := 49) (tgt := 50) C rd_Script_readSecond_1 (k := 5) hx (by decide +kernel) (by decide) ?_
    refine jk_aload_n C rd_Script_readSecond_50 (k := 0) rfl ?_
    refine jk_iconst C rd_Script_readSecond_51 ?_
    refine jk_iconst C rd_Script_readSecond_52 ?_
    obtain ⟨q53, hq53, hf⟩ := jk_bind_h hf
    refine jk_callVi C hZ.1 hz (ct_Text_readNumber l D Z sq hZ cI cR a_a a_a_bytes a_a_bytes_k i_a_length i_a_kind i_a_start i_a_end i_a_code i_a_offset i_a_bytes 0 3 q53 hq53) tm_531 tm_358 tm_359 tm_2 tm_360 na_Text_readNumber ⟨Nat.le_of_ble_eq_true rfl, Nat.le_of_ble_eq_true rfl⟩ rfl [0, 1, 2] rfl rfl rfl (ws' := wd_Script_readSecond cI a_a a_a_bytes a_a_bytes_k a_b a_b_names a_b_names_k i_a_length q53.2.1 q53.2.2.1 q53.2.2.2.1 q53.2.2.2.2.1 q53.2.2.2.2.2 i_a_bytes i_b_size i_b_names) rfl 0 3 rfl rfl rfl (st := []) rfl (Nat.le_of_ble_eq_true rfl) rd_Script_readSecond_53 ?_ ⟨Nat.le_of_ble_eq_true rfl, Nat.le_of_ble_eq_true rfl⟩
    cases hf
    exact jk_iret C rfl rd_Script_readSecond_56 rfl
  refine jk_eqs_c hf (fun hx hf => ?_) (fun hx6 hf => ?_)
  · refine jk_tabIn (off := 56) (tgt := 57) C rd_Script_readSecond_1 (k := 6) hx (by decide +kernel) (by decide) ?_
    refine jk_aload_n C rd_Script_readSecond_57 (k := 0) rfl ?_
    refine jk_iconst C rd_Script_readSecond_58 ?_
    refine jk_iconst C rd_Script_readSecond_59 ?_
    obtain ⟨q60, hq60, hf⟩ := jk_bind_h hf
    refine jk_callVi C hZ.1 hz (ct_Text_readNumber l D Z sq hZ cI cR a_a a_a_bytes a_a_bytes_k i_a_length i_a_kind i_a_start i_a_end i_a_code i_a_offset i_a_bytes 1 4 q60 hq60) tm_531 tm_358 tm_359 tm_2 tm_360 na_Text_readNumber ⟨Nat.le_of_ble_eq_true rfl, Nat.le_of_ble_eq_true rfl⟩ rfl [0, 1, 2] rfl rfl rfl (ws' := wd_Script_readSecond cI a_a a_a_bytes a_a_bytes_k a_b a_b_names a_b_names_k i_a_length q60.2.1 q60.2.2.1 q60.2.2.2.1 q60.2.2.2.2.1 q60.2.2.2.2.2 i_a_bytes i_b_size i_b_names) rfl 0 3 rfl rfl rfl (st := []) rfl (Nat.le_of_ble_eq_true rfl) rd_Script_readSecond_60 ?_ ⟨Nat.le_of_ble_eq_true rfl, Nat.le_of_ble_eq_true rfl⟩
    cases hf
    exact jk_iret C rfl rd_Script_readSecond_63 rfl
  refine jk_eqs_c hf (fun hx hf => ?_) (fun hx7 hf => ?_)
  · refine jk_tabIn (off := 43) (tgt := 44) C rd_Script_readSecond_1 (k := 7) hx (by decide +kernel) (by decide) ?_
    refine jk_aload_n C rd_Script_readSecond_44 (k := 0) rfl ?_
    refine jk_aload_n C rd_Script_readSecond_45 (k := 1) rfl ?_
    obtain ⟨q46, hq46, hf⟩ := jk_bind_h hf
    refine jk_callVi C hZ.1 hz (ct_Text_readTopic l D Z sq hZ cI cR a_a a_a_bytes a_a_bytes_k a_b a_b_names a_b_names_k i_a_length i_a_kind i_a_start i_a_end i_a_code i_a_offset i_a_bytes i_b_size i_b_names q46 hq46) tm_535 tm_377 tm_378 tm_2 tm_379 na_Text_readTopic ⟨Nat.le_of_ble_eq_true rfl, Nat.le_of_ble_eq_true rfl⟩ rfl [0, 1, 2, 3, 4, 5] rfl rfl rfl (ws' := wd_Script_readSecond cI a_a a_a_bytes a_a_bytes_k a_b a_b_names a_b_names_k i_a_length q46.2.1 q46.2.2.1 q46.2.2.2.1 q46.2.2.2.2.1 q46.2.2.2.2.2 i_a_bytes i_b_size i_b_names) rfl 0 3 rfl rfl rfl (st := []) rfl (Nat.le_of_ble_eq_true rfl) rd_Script_readSecond_46 ?_ ⟨Nat.le_of_ble_eq_true rfl, Nat.le_of_ble_eq_true rfl⟩
    cases hf
    exact jk_iret C rfl rd_Script_readSecond_49 rfl
  refine jk_tabOut (tgt := 64) C rd_Script_readSecond_1 (jk_rg_h hf).1 (by omega) (by decide) ?_
  replace hf := (jk_rg_h hf).2
  refine jk_iconst C rd_Script_readSecond_64 ?_
  cases hf
  exact jk_iret C rfl rd_Script_readSecond_65 rfl
def wd_Script_readThird (cI : ClassId) (a_a a_a_bytes a_a_bytes_k : Nat) (i_a_length : Int) (i_a_kind : Int) (i_a_start : Int) (i_a_end : Int) (i_a_code : Int) (i_a_offset : Int) (i_a_bytes : (Int → Int)) : va_W := [(a_a, .inr (3, [.ref a_a_bytes, jk_V i_a_length, jk_V i_a_kind, jk_V i_a_start, jk_V i_a_end, jk_V i_a_code, jk_V i_a_offset])), (a_a_bytes, .inr (0, [.ref a_a_bytes_k])), (a_a_bytes_k, jk_W cI 700 i_a_bytes)]
set_option maxHeartbeats 4000000 in
set_option maxRecDepth 20000 in
theorem ct_Script_readThird (l : Launch) (D : va_G) (Z : (Nat → Prop) → State → Heap → Prop) (sq : Nat → Nat) (hZ : jk_ZK Z sq) (cI cR : ClassId) (a_a a_a_bytes a_a_bytes_k : Nat) (i_a_length : Int) (i_a_kind : Int) (i_a_start : Int) (i_a_end : Int) (i_a_code : Int) (i_a_offset : Int) (i_a_bytes : (Int → Int)) (x1 : Int) (q : Int × Int × Int × Int × Int × Int) (hf : fn_Script_readThird i_a_bytes i_a_length i_a_kind i_a_start i_a_end i_a_code i_a_offset x1 = some q) : jk_MI l D jk_cl (jk_ty cI cR) Z mn_Script_readThird (.code mn_Script_readThird mb_Script_readThird 2 (some .int) :: jk_WA) (jk_rm 4 88) [.ref a_a, jk_V x1] (wd_Script_readThird cI a_a a_a_bytes a_a_bytes_k i_a_length i_a_kind i_a_start i_a_end i_a_code i_a_offset i_a_bytes) (wd_Script_readThird cI a_a a_a_bytes a_a_bytes_k i_a_length q.2.1 q.2.2.1 q.2.2.2.1 q.2.2.2.2.1 q.2.2.2.2.2 i_a_bytes) q.1 := by
  intro sz
  refine jk_body (by decide +kernel) (fun p e s m args below meth c hsz hz hin C => ?_) (Nat.le_of_ble_eq_true rfl)
  subst hsz
  unfold fn_Script_readThird at hf
  refine jk_iload_n C rd_Script_readThird_0 (k := 1) rfl ?_
  refine jk_iconst C rd_Script_readThird_1 ?_
  refine jk_icmp_eq (tgt := 10) C rd_Script_readThird_2 (by decide) hf (fun _ hf => ?_) (fun _ hf => ?_)
  · refine jk_aload_n C rd_Script_readThird_10 (k := 0) rfl ?_
    refine jk_iconst C rd_Script_readThird_11 ?_
    refine jk_sipush C rd_Script_readThird_12 (by decide +kernel) ?_
    obtain ⟨q15, hq15, hf⟩ := jk_bind_h hf
    refine jk_callVi C hZ.1 hz (ct_Text_readNumber l D Z sq hZ cI cR a_a a_a_bytes a_a_bytes_k i_a_length i_a_kind i_a_start i_a_end i_a_code i_a_offset i_a_bytes 0 9999 q15 hq15) tm_531 tm_358 tm_359 tm_2 tm_360 na_Text_readNumber ⟨Nat.le_of_ble_eq_true rfl, Nat.le_of_ble_eq_true rfl⟩ rfl [0, 1, 2] rfl rfl rfl (ws' := wd_Script_readThird cI a_a a_a_bytes a_a_bytes_k i_a_length q15.2.1 q15.2.2.1 q15.2.2.2.1 q15.2.2.2.2.1 q15.2.2.2.2.2 i_a_bytes) rfl 0 3 rfl rfl rfl (st := []) rfl (Nat.le_of_ble_eq_true rfl) rd_Script_readThird_15 ?_ ⟨Nat.le_of_ble_eq_true rfl, Nat.le_of_ble_eq_true rfl⟩
    cases hf
    exact jk_iret C rfl rd_Script_readThird_18 rfl
  · refine jk_iload_n C rd_Script_readThird_5 (k := 1) rfl ?_
    refine jk_iconst C rd_Script_readThird_6 ?_
    refine jk_icmp_ne (tgt := 19) C rd_Script_readThird_7 (by decide) hf (fun _ hf => ?_) (fun _ hf => ?_)
    · refine jk_iload_n C rd_Script_readThird_19 (k := 1) rfl ?_
      refine jk_iconst C rd_Script_readThird_20 ?_
      refine jk_icmp_ne (tgt := 34) C rd_Script_readThird_21 (by decide) hf (fun _ hf => ?_) (fun _ hf => ?_)
      · refine jk_iconst C rd_Script_readThird_34 ?_
        cases hf
        exact jk_iret C rfl rd_Script_readThird_35 rfl
      · refine jk_aload_n C rd_Script_readThird_24 (k := 0) rfl ?_
        refine jk_iconst C rd_Script_readThird_25 ?_
        refine jk_bipush C rd_Script_readThird_26 (by decide +kernel) ?_
        obtain ⟨q28, hq28, hf⟩ := jk_bind_h hf
        refine jk_callVi C hZ.1 hz (ct_Text_readNumber l D Z sq hZ cI cR a_a a_a_bytes a_a_bytes_k i_a_length i_a_kind i_a_start i_a_end i_a_code i_a_offset i_a_bytes 0 9 q28 hq28) tm_531 tm_358 tm_359 tm_2 tm_360 na_Text_readNumber ⟨Nat.le_of_ble_eq_true rfl, Nat.le_of_ble_eq_true rfl⟩ rfl [0, 1, 2] rfl rfl rfl (ws' := wd_Script_readThird cI a_a a_a_bytes a_a_bytes_k i_a_length q28.2.1 q28.2.2.1 q28.2.2.2.1 q28.2.2.2.2.1 q28.2.2.2.2.2 i_a_bytes) rfl 0 3 rfl rfl rfl (st := []) rfl (Nat.le_of_ble_eq_true rfl) rd_Script_readThird_28 ?_ ⟨Nat.le_of_ble_eq_true rfl, Nat.le_of_ble_eq_true rfl⟩
        refine jk_goto (tgt := 35) C rd_Script_readThird_31 (by decide) ?_
        cases hf
        exact jk_iret C rfl rd_Script_readThird_35 rfl
    · refine jk_aload_n C rd_Script_readThird_10 (k := 0) rfl ?_
      refine jk_iconst C rd_Script_readThird_11 ?_
      refine jk_sipush C rd_Script_readThird_12 (by decide +kernel) ?_
      obtain ⟨q15, hq15, hf⟩ := jk_bind_h hf
      refine jk_callVi C hZ.1 hz (ct_Text_readNumber l D Z sq hZ cI cR a_a a_a_bytes a_a_bytes_k i_a_length i_a_kind i_a_start i_a_end i_a_code i_a_offset i_a_bytes 0 9999 q15 hq15) tm_531 tm_358 tm_359 tm_2 tm_360 na_Text_readNumber ⟨Nat.le_of_ble_eq_true rfl, Nat.le_of_ble_eq_true rfl⟩ rfl [0, 1, 2] rfl rfl rfl (ws' := wd_Script_readThird cI a_a a_a_bytes a_a_bytes_k i_a_length q15.2.1 q15.2.2.1 q15.2.2.2.1 q15.2.2.2.2.1 q15.2.2.2.2.2 i_a_bytes) rfl 0 3 rfl rfl rfl (st := []) rfl (Nat.le_of_ble_eq_true rfl) rd_Script_readThird_15 ?_ ⟨Nat.le_of_ble_eq_true rfl, Nat.le_of_ble_eq_true rfl⟩
      cases hf
      exact jk_iret C rfl rd_Script_readThird_18 rfl
def wd_Text_begin (cI : ClassId) (a_t a_t_bytes : Nat) (i_t_length : Int) (i_t_kind : Int) (i_t_start : Int) (i_t_end : Int) (i_t_code : Int) (i_t_offset : Int) : va_W := [(a_t, .inr (3, [.ref a_t_bytes, jk_V i_t_length, jk_V i_t_kind, jk_V i_t_start, jk_V i_t_end, jk_V i_t_code, jk_V i_t_offset]))]
set_option maxHeartbeats 4000000 in
set_option maxRecDepth 20000 in
theorem ct_Text_begin (l : Launch) (D : va_G) (Z : (Nat → Prop) → State → Heap → Prop) (sq : Nat → Nat) (hZ : jk_ZK Z sq) (cI cR : ClassId) (a_t a_t_bytes : Nat) (i_t_length : Int) (i_t_kind : Int) (i_t_start : Int) (i_t_end : Int) (i_t_code : Int) (i_t_offset : Int) (q : Int × Int × Int) (hf : fn_Text_begin i_t_end i_t_code i_t_offset = some q) : jk_MV l D jk_cl (jk_ty cI cR) Z mn_Text_begin (.code mn_Text_begin mb_Text_begin 1 none :: jk_WA) (jk_rm 0 0) [.ref a_t] (wd_Text_begin cI a_t a_t_bytes i_t_length i_t_kind i_t_start i_t_end i_t_code i_t_offset) (wd_Text_begin cI a_t a_t_bytes i_t_length i_t_kind i_t_start q.1 q.2.1 q.2.2) := by
  intro sz
  refine jk_body (by decide +kernel) (fun p e s m args below meth c hsz hz hin C => ?_) (Nat.le_of_ble_eq_true rfl)
  subst hsz
  unfold fn_Text_begin at hf
  refine jk_aload_n C rd_Text_begin_0 (k := 0) rfl ?_
  refine jk_iconst C rd_Text_begin_1 ?_
  refine jk_putf C in_Text ty_Text nm_Text (ci := 3) rfl 4 (by decide) tm_54 rfl rfl rfl 0 rfl (Nat.le_of_ble_eq_true rfl) rd_Text_begin_2 (ws' := wd_Text_begin cI a_t a_t_bytes i_t_length i_t_kind i_t_start 0 i_t_code i_t_offset) rfl ?_
  refine jk_aload_n C rd_Text_begin_5 (k := 0) rfl ?_
  refine jk_iconst C rd_Text_begin_6 ?_
  refine jk_putf C in_Text ty_Text nm_Text (ci := 3) rfl 5 (by decide) tm_55 rfl rfl rfl 0 rfl (Nat.le_of_ble_eq_true rfl) rd_Text_begin_7 (ws' := wd_Text_begin cI a_t a_t_bytes i_t_length i_t_kind i_t_start 0 0 i_t_offset) rfl ?_
  refine jk_aload_n C rd_Text_begin_10 (k := 0) rfl ?_
  refine jk_iconst C rd_Text_begin_11 ?_
  refine jk_putf C in_Text ty_Text nm_Text (ci := 3) rfl 6 (by decide) tm_57 rfl rfl rfl 0 rfl (Nat.le_of_ble_eq_true rfl) rd_Text_begin_12 (ws' := wd_Text_begin cI a_t a_t_bytes i_t_length i_t_kind i_t_start 0 0 ((-1))) rfl ?_
  cases hf
  exact jk_vret C rfl rd_Text_begin_15 rfl
def wd_Text_nextStatement (cI : ClassId) (a_t a_t_bytes a_t_bytes_k : Nat) (i_t_length : Int) (i_t_kind : Int) (i_t_start : Int) (i_t_end : Int) (i_t_code : Int) (i_t_offset : Int) (i_t_bytes : (Int → Int)) : va_W := [(a_t, .inr (3, [.ref a_t_bytes, jk_V i_t_length, jk_V i_t_kind, jk_V i_t_start, jk_V i_t_end, jk_V i_t_code, jk_V i_t_offset])), (a_t_bytes, .inr (0, [.ref a_t_bytes_k])), (a_t_bytes_k, jk_W cI 700 i_t_bytes)]
set_option maxHeartbeats 4000000 in
set_option maxRecDepth 20000 in
theorem ct_Text_nextStatement (l : Launch) (D : va_G) (Z : (Nat → Prop) → State → Heap → Prop) (sq : Nat → Nat) (hZ : jk_ZK Z sq) (cI cR : ClassId) (a_t a_t_bytes a_t_bytes_k : Nat) (i_t_length : Int) (i_t_kind : Int) (i_t_start : Int) (i_t_end : Int) (i_t_code : Int) (i_t_offset : Int) (i_t_bytes : (Int → Int)) (q : Int × Int × Int × Int) (hf : fn_Text_nextStatement i_t_bytes i_t_length i_t_kind i_t_start i_t_end i_t_code = some q) : jk_MI l D jk_cl (jk_ty cI cR) Z mn_Text_nextStatement (.code mn_Text_nextStatement mb_Text_nextStatement 1 (some .boolean) :: jk_WA) (jk_rm 3 64) [.ref a_t] (wd_Text_nextStatement cI a_t a_t_bytes a_t_bytes_k i_t_length i_t_kind i_t_start i_t_end i_t_code i_t_offset i_t_bytes) (wd_Text_nextStatement cI a_t a_t_bytes a_t_bytes_k i_t_length q.2.1 q.2.2.1 q.2.2.2 i_t_code i_t_offset i_t_bytes) q.1 := by
  intro sz
  refine jk_body (by decide +kernel) (fun p e s m args below meth c hsz hz hin C => ?_) (Nat.le_of_ble_eq_true rfl)
  subst hsz
  unfold fn_Text_nextStatement at hf
  refine jk_aload_n C rd_Text_nextStatement_0 (k := 0) rfl ?_
  obtain ⟨q1, hq1, hf⟩ := jk_bind_h hf
  refine jk_callVi C hZ.1 hz (ct_Text_hasFailed l D Z sq hZ cI cR a_t a_t_bytes i_t_length i_t_kind i_t_start i_t_end i_t_code i_t_offset q1 hq1) tm_279 tm_280 tm_281 tm_2 tm_282 na_Text_hasFailed ⟨Nat.le_of_ble_eq_true rfl, Nat.le_of_ble_eq_true rfl⟩ rfl [0] rfl rfl rfl (ws' := wd_Text_nextStatement cI a_t a_t_bytes a_t_bytes_k i_t_length i_t_kind i_t_start i_t_end i_t_code i_t_offset i_t_bytes) rfl 0 3 rfl rfl rfl (st := []) rfl (Nat.le_of_ble_eq_true rfl) rd_Text_nextStatement_1 ?_ ⟨Nat.le_of_ble_eq_true rfl, Nat.le_of_ble_eq_true rfl⟩
  refine jk_if_eq (tgt := 9) C rd_Text_nextStatement_4 (by decide) hf (fun _ hf => ?_) (fun _ hf => ?_)
  · refine jk_aload_n C rd_Text_nextStatement_9 (k := 0) rfl ?_
    obtain ⟨q10, hq10, hf⟩ := jk_bind_h hf
    refine jk_callVv C hZ.1 hz (ct_Text_next l D Z sq hZ cI cR a_t a_t_bytes a_t_bytes_k i_t_length i_t_kind i_t_start i_t_end i_t_code i_t_offset i_t_bytes q10 hq10) tm_283 tm_284 tm_285 tm_2 tm_286 na_Text_next ⟨Nat.le_of_ble_eq_true rfl, Nat.le_of_ble_eq_true rfl⟩ rfl [0, 1, 2] rfl rfl rfl (ws' := wd_Text_nextStatement cI a_t a_t_bytes a_t_bytes_k i_t_length q10.1 q10.2.1 q10.2.2 i_t_code i_t_offset i_t_bytes) rfl 0 3 rfl rfl rfl (st := []) rfl (Nat.le_of_ble_eq_true rfl) rd_Text_nextStatement_10 ?_ ⟨Nat.le_of_ble_eq_true rfl, Nat.le_of_ble_eq_true rfl⟩
    refine jk_aload_n C rd_Text_nextStatement_13 (k := 0) rfl ?_
    refine jk_get C in_Text (ci := 3) rfl 2 (by decide) tm_52 0 rfl rfl rd_Text_nextStatement_14 ?_
    refine jk_if_eq (tgt := 24) C rd_Text_nextStatement_17 (by decide) hf (fun _ hf => ?_) (fun _ hf => ?_)
    · refine jk_iconst C rd_Text_nextStatement_24 ?_
      cases hf
      exact jk_zret C (Or.inl rfl) rfl rd_Text_nextStatement_25 rfl
    · refine jk_iconst C rd_Text_nextStatement_20 ?_
      refine jk_goto (tgt := 25) C rd_Text_nextStatement_21 (by decide) ?_
      cases hf
      exact jk_zret C (Or.inr rfl) rfl rd_Text_nextStatement_25 rfl
  · refine jk_iconst C rd_Text_nextStatement_7 ?_
    cases hf
    exact jk_zret C (Or.inl rfl) rfl rd_Text_nextStatement_8 rfl
def wd_Text_readSemicolon (cI : ClassId) (a_t a_t_bytes a_t_bytes_k : Nat) (i_t_length : Int) (i_t_kind : Int) (i_t_start : Int) (i_t_end : Int) (i_t_code : Int) (i_t_offset : Int) (i_t_bytes : (Int → Int)) : va_W := [(a_t, .inr (3, [.ref a_t_bytes, jk_V i_t_length, jk_V i_t_kind, jk_V i_t_start, jk_V i_t_end, jk_V i_t_code, jk_V i_t_offset])), (a_t_bytes, .inr (0, [.ref a_t_bytes_k])), (a_t_bytes_k, jk_W cI 700 i_t_bytes)]
set_option maxHeartbeats 4000000 in
set_option maxRecDepth 20000 in
theorem ct_Text_readSemicolon (l : Launch) (D : va_G) (Z : (Nat → Prop) → State → Heap → Prop) (sq : Nat → Nat) (hZ : jk_ZK Z sq) (cI cR : ClassId) (a_t a_t_bytes a_t_bytes_k : Nat) (i_t_length : Int) (i_t_kind : Int) (i_t_start : Int) (i_t_end : Int) (i_t_code : Int) (i_t_offset : Int) (i_t_bytes : (Int → Int)) (q : Int × Int × Int × Int × Int) (hf : fn_Text_readSemicolon i_t_bytes i_t_length i_t_kind i_t_start i_t_end i_t_code i_t_offset = some q) : jk_MV l D jk_cl (jk_ty cI cR) Z mn_Text_readSemicolon (.code mn_Text_readSemicolon mb_Text_readSemicolon 1 none :: jk_WA) (jk_rm 3 64) [.ref a_t] (wd_Text_readSemicolon cI a_t a_t_bytes a_t_bytes_k i_t_length i_t_kind i_t_start i_t_end i_t_code i_t_offset i_t_bytes) (wd_Text_readSemicolon cI a_t a_t_bytes a_t_bytes_k i_t_length q.1 q.2.1 q.2.2.1 q.2.2.2.1 q.2.2.2.2 i_t_bytes) := by
  intro sz
  refine jk_body (by decide +kernel) (fun p e s m args below meth c hsz hz hin C => ?_) (Nat.le_of_ble_eq_true rfl)
  subst hsz
  unfold fn_Text_readSemicolon at hf
  refine jk_aload_n C rd_Text_readSemicolon_0 (k := 0) rfl ?_
  obtain ⟨q1, hq1, hf⟩ := jk_bind_h hf
  refine jk_callVi C hZ.1 hz (ct_Text_hasFailed l D Z sq hZ cI cR a_t a_t_bytes i_t_length i_t_kind i_t_start i_t_end i_t_code i_t_offset q1 hq1) tm_279 tm_280 tm_281 tm_2 tm_282 na_Text_hasFailed ⟨Nat.le_of_ble_eq_true rfl, Nat.le_of_ble_eq_true rfl⟩ rfl [0] rfl rfl rfl (ws' := wd_Text_readSemicolon cI a_t a_t_bytes a_t_bytes_k i_t_length i_t_kind i_t_start i_t_end i_t_code i_t_offset i_t_bytes) rfl 0 3 rfl rfl rfl (st := []) rfl (Nat.le_of_ble_eq_true rfl) rd_Text_readSemicolon_1 ?_ ⟨Nat.le_of_ble_eq_true rfl, Nat.le_of_ble_eq_true rfl⟩
  refine jk_if_eq (tgt := 8) C rd_Text_readSemicolon_4 (by decide) hf (fun _ hf => ?_) (fun _ hf => ?_)
  · refine jk_aload_n C rd_Text_readSemicolon_8 (k := 0) rfl ?_
    obtain ⟨q9, hq9, hf⟩ := jk_bind_h hf
    refine jk_callVv C hZ.1 hz (ct_Text_next l D Z sq hZ cI cR a_t a_t_bytes a_t_bytes_k i_t_length i_t_kind i_t_start i_t_end i_t_code i_t_offset i_t_bytes q9 hq9) tm_283 tm_284 tm_285 tm_2 tm_286 na_Text_next ⟨Nat.le_of_ble_eq_true rfl, Nat.le_of_ble_eq_true rfl⟩ rfl [0, 1, 2] rfl rfl rfl (ws' := wd_Text_readSemicolon cI a_t a_t_bytes a_t_bytes_k i_t_length q9.1 q9.2.1 q9.2.2 i_t_code i_t_offset i_t_bytes) rfl 0 3 rfl rfl rfl (st := []) rfl (Nat.le_of_ble_eq_true rfl) rd_Text_readSemicolon_9 ?_ ⟨Nat.le_of_ble_eq_true rfl, Nat.le_of_ble_eq_true rfl⟩
    refine jk_aload_n C rd_Text_readSemicolon_12 (k := 0) rfl ?_
    refine jk_get C in_Text (ci := 3) rfl 2 (by decide) tm_52 0 rfl rfl rd_Text_readSemicolon_13 ?_
    refine jk_iconst C rd_Text_readSemicolon_16 ?_
    refine jk_icmp_eq (tgt := 25) C rd_Text_readSemicolon_17 (by decide) hf (fun _ hf => ?_) (fun _ hf => ?_)
    · cases hf
      exact jk_vret C rfl rd_Text_readSemicolon_25 rfl
    · refine jk_aload_n C rd_Text_readSemicolon_20 (k := 0) rfl ?_
      refine jk_iconst C rd_Text_readSemicolon_21 ?_
      obtain ⟨q22, hq22, hf⟩ := jk_bind_h hf
      refine jk_callVv C hZ.1 hz (ct_Text_fail l D Z sq hZ cI cR a_t a_t_bytes i_t_length q9.1 q9.2.1 q9.2.2 i_t_code i_t_offset 1 q22 hq22) tm_315 tm_304 tm_305 tm_2 tm_306 na_Text_fail ⟨Nat.le_of_ble_eq_true rfl, Nat.le_of_ble_eq_true rfl⟩ rfl [0] rfl rfl rfl (ws' := wd_Text_readSemicolon cI a_t a_t_bytes a_t_bytes_k i_t_length q9.1 q9.2.1 q9.2.2 q22.1 q22.2 i_t_bytes) rfl 0 3 rfl rfl rfl (st := []) rfl (Nat.le_of_ble_eq_true rfl) rd_Text_readSemicolon_22 ?_ ⟨Nat.le_of_ble_eq_true rfl, Nat.le_of_ble_eq_true rfl⟩
      cases hf
      exact jk_vret C rfl rd_Text_readSemicolon_25 rfl
  · cases hf
    exact jk_vret C rfl rd_Text_readSemicolon_7 rfl
