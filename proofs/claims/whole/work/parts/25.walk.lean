theorem rd_Md_loadCords_0 : decode mb_Md_loadCords 0 = .ok (.aload_n 0, 1) := by decide +kernel
theorem rd_Md_loadCords_1 : decode mb_Md_loadCords 1 = .ok (.iconst 0, 1) := by decide +kernel
theorem rd_Md_loadCords_2 : decode mb_Md_loadCords 2 = .ok (.putfield 56, 3) := by decide +kernel
theorem rd_Md_loadCords_5 : decode mb_Md_loadCords 5 = .ok (.aload_n 0, 1) := by decide +kernel
theorem rd_Md_loadCords_6 : decode mb_Md_loadCords 6 = .ok (.getfield 7, 3) := by decide +kernel
theorem rd_Md_loadCords_9 : decode mb_Md_loadCords 9 = .ok (.iconst 0, 1) := by decide +kernel
theorem rd_Md_loadCords_10 : decode mb_Md_loadCords 10 = .ok (.aload_n 0, 1) := by decide +kernel
theorem rd_Md_loadCords_11 : decode mb_Md_loadCords 11 = .ok (.getfield 13, 3) := by decide +kernel
theorem rd_Md_loadCords_14 : decode mb_Md_loadCords 14 = .ok (.iconst 0, 1) := by decide +kernel
theorem rd_Md_loadCords_15 : decode mb_Md_loadCords 15 = .ok (.invokestatic 135, 3) := by decide +kernel
theorem rd_Md_loadCords_18 : decode mb_Md_loadCords 18 = .ok (.aload_n 0, 1) := by decide +kernel
theorem rd_Md_loadCords_19 : decode mb_Md_loadCords 19 = .ok (.invokevirtual 256, 3) := by decide +kernel
theorem rd_Md_loadCords_22 : decode mb_Md_loadCords 22 = .ok (.aload_n 0, 1) := by decide +kernel
theorem rd_Md_loadCords_23 : decode mb_Md_loadCords 23 = .ok (.invokevirtual 259, 3) := by decide +kernel
theorem rd_Md_loadCords_26 : decode mb_Md_loadCords 26 = .ok (.istore_n 1, 1) := by decide +kernel
theorem rd_Md_loadCords_27 : decode mb_Md_loadCords 27 = .ok (.aload_n 0, 1) := by decide +kernel
theorem rd_Md_loadCords_28 : decode mb_Md_loadCords 28 = .ok (.invokevirtual 262, 3) := by decide +kernel
theorem rd_Md_loadCords_31 : decode mb_Md_loadCords 31 = .ok (.iload_n 1, 1) := by decide +kernel
theorem rd_Md_loadCords_32 : decode mb_Md_loadCords 32 = .ok (.ifCond .ne 18, 3) := by decide +kernel
theorem rd_Md_loadCords_35 : decode mb_Md_loadCords 35 = .ok (.aload_n 0, 1) := by decide +kernel
theorem rd_Md_loadCords_36 : decode mb_Md_loadCords 36 = .ok (.getfield 13, 3) := by decide +kernel
theorem rd_Md_loadCords_39 : decode mb_Md_loadCords 39 = .ok (.iconst 0, 1) := by decide +kernel
theorem rd_Md_loadCords_40 : decode mb_Md_loadCords 40 = .ok (.aload_n 0, 1) := by decide +kernel
theorem rd_Md_loadCords_41 : decode mb_Md_loadCords 41 = .ok (.getfield 7, 3) := by decide +kernel
theorem rd_Md_loadCords_44 : decode mb_Md_loadCords 44 = .ok (.iconst 0, 1) := by decide +kernel
theorem rd_Md_loadCords_45 : decode mb_Md_loadCords 45 = .ok (.invokestatic 135, 3) := by decide +kernel
theorem rd_Md_loadCords_48 : decode mb_Md_loadCords 48 = .ok (.iconst (-1), 1) := by decide +kernel
theorem rd_Md_loadCords_49 : decode mb_Md_loadCords 49 = .ok (.ireturn, 1) := by decide +kernel
theorem rd_Md_loadCords_50 : decode mb_Md_loadCords 50 = .ok (.aload_n 0, 1) := by decide +kernel
theorem rd_Md_loadCords_51 : decode mb_Md_loadCords 51 = .ok (.iconst 0, 1) := by decide +kernel
theorem rd_Md_loadCords_52 : decode mb_Md_loadCords 52 = .ok (.putfield 132, 3) := by decide +kernel
theorem rd_Md_loadCords_55 : decode mb_Md_loadCords 55 = .ok (.aload_n 0, 1) := by decide +kernel
theorem rd_Md_loadCords_56 : decode mb_Md_loadCords 56 = .ok (.iconst 0, 1) := by decide +kernel
theorem rd_Md_loadCords_57 : decode mb_Md_loadCords 57 = .ok (.putfield 265, 3) := by decide +kernel
theorem rd_Md_loadCords_60 : decode mb_Md_loadCords 60 = .ok (.aload_n 0, 1) := by decide +kernel
theorem rd_Md_loadCords_61 : decode mb_Md_loadCords 61 = .ok (.getfield 7, 3) := by decide +kernel
theorem rd_Md_loadCords_64 : decode mb_Md_loadCords 64 = .ok (.iconst 2, 1) := by decide +kernel
theorem rd_Md_loadCords_65 : decode mb_Md_loadCords 65 = .ok (.iaload, 1) := by decide +kernel
theorem rd_Md_loadCords_66 : decode mb_Md_loadCords 66 = .ok (.ireturn, 1) := by decide +kernel
theorem rd_Md_scriptHere_0 : decode mb_Md_scriptHere 0 = .ok (.aload_n 0, 1) := by decide +kernel
theorem rd_Md_scriptHere_1 : decode mb_Md_scriptHere 1 = .ok (.ldc 237, 2) := by decide +kernel
theorem rd_Md_scriptHere_3 : decode mb_Md_scriptHere 3 = .ok (.invokevirtual 215, 3) := by decide +kernel
theorem rd_Md_scriptHere_6 : decode mb_Md_scriptHere 6 = .ok (.ifCond .eq 5, 3) := by decide +kernel
theorem rd_Md_scriptHere_9 : decode mb_Md_scriptHere 9 = .ok (.iconst 1, 1) := by decide +kernel
theorem rd_Md_scriptHere_10 : decode mb_Md_scriptHere 10 = .ok (.ireturn, 1) := by decide +kernel
theorem rd_Md_scriptHere_11 : decode mb_Md_scriptHere 11 = .ok (.aload_n 0, 1) := by decide +kernel
theorem rd_Md_scriptHere_12 : decode mb_Md_scriptHere 12 = .ok (.ldc 242, 2) := by decide +kernel
theorem rd_Md_scriptHere_14 : decode mb_Md_scriptHere 14 = .ok (.invokevirtual 215, 3) := by decide +kernel
theorem rd_Md_scriptHere_17 : decode mb_Md_scriptHere 17 = .ok (.ifCond .eq 5, 3) := by decide +kernel
theorem rd_Md_scriptHere_20 : decode mb_Md_scriptHere 20 = .ok (.iconst 2, 1) := by decide +kernel
theorem rd_Md_scriptHere_21 : decode mb_Md_scriptHere 21 = .ok (.ireturn, 1) := by decide +kernel
theorem rd_Md_scriptHere_22 : decode mb_Md_scriptHere 22 = .ok (.aload_n 0, 1) := by decide +kernel
theorem rd_Md_scriptHere_23 : decode mb_Md_scriptHere 23 = .ok (.ldc 227, 2) := by decide +kernel
theorem rd_Md_scriptHere_25 : decode mb_Md_scriptHere 25 = .ok (.invokevirtual 215, 3) := by decide +kernel
theorem rd_Md_scriptHere_28 : decode mb_Md_scriptHere 28 = .ok (.ifCond .eq 5, 3) := by decide +kernel
theorem rd_Md_scriptHere_31 : decode mb_Md_scriptHere 31 = .ok (.iconst 3, 1) := by decide +kernel
theorem rd_Md_scriptHere_32 : decode mb_Md_scriptHere 32 = .ok (.ireturn, 1) := by decide +kernel
theorem rd_Md_scriptHere_33 : decode mb_Md_scriptHere 33 = .ok (.aload_n 0, 1) := by decide +kernel
theorem rd_Md_scriptHere_34 : decode mb_Md_scriptHere 34 = .ok (.ldc_w 269, 3) := by decide +kernel
theorem rd_Md_scriptHere_37 : decode mb_Md_scriptHere 37 = .ok (.invokevirtual 215, 3) := by decide +kernel
theorem rd_Md_scriptHere_40 : decode mb_Md_scriptHere 40 = .ok (.ifCond .eq 5, 3) := by decide +kernel
theorem rd_Md_scriptHere_43 : decode mb_Md_scriptHere 43 = .ok (.iconst 4, 1) := by decide +kernel
theorem rd_Md_scriptHere_44 : decode mb_Md_scriptHere 44 = .ok (.ireturn, 1) := by decide +kernel
theorem rd_Md_scriptHere_45 : decode mb_Md_scriptHere 45 = .ok (.aload_n 0, 1) := by decide +kernel
theorem rd_Md_scriptHere_46 : decode mb_Md_scriptHere 46 = .ok (.ldc_w 271, 3) := by decide +kernel
theorem rd_Md_scriptHere_49 : decode mb_Md_scriptHere 49 = .ok (.invokevirtual 215, 3) := by decide +kernel
theorem rd_Md_scriptHere_52 : decode mb_Md_scriptHere 52 = .ok (.ifCond .eq 5, 3) := by decide +kernel
theorem rd_Md_scriptHere_55 : decode mb_Md_scriptHere 55 = .ok (.iconst 5, 1) := by decide +kernel
theorem rd_Md_scriptHere_56 : decode mb_Md_scriptHere 56 = .ok (.ireturn, 1) := by decide +kernel
theorem rd_Md_scriptHere_57 : decode mb_Md_scriptHere 57 = .ok (.aload_n 0, 1) := by decide +kernel
theorem rd_Md_scriptHere_58 : decode mb_Md_scriptHere 58 = .ok (.ldc_w 273, 3) := by decide +kernel
theorem rd_Md_scriptHere_61 : decode mb_Md_scriptHere 61 = .ok (.invokevirtual 215, 3) := by decide +kernel
theorem rd_Md_scriptHere_64 : decode mb_Md_scriptHere 64 = .ok (.ifCond .eq 6, 3) := by decide +kernel
theorem rd_Md_scriptHere_67 : decode mb_Md_scriptHere 67 = .ok (.bipush 6, 2) := by decide +kernel
theorem rd_Md_scriptHere_69 : decode mb_Md_scriptHere 69 = .ok (.ireturn, 1) := by decide +kernel
theorem rd_Md_scriptHere_70 : decode mb_Md_scriptHere 70 = .ok (.aload_n 0, 1) := by decide +kernel
theorem rd_Md_scriptHere_71 : decode mb_Md_scriptHere 71 = .ok (.ldc_w 275, 3) := by decide +kernel
theorem rd_Md_scriptHere_74 : decode mb_Md_scriptHere 74 = .ok (.invokevirtual 215, 3) := by decide +kernel
theorem rd_Md_scriptHere_77 : decode mb_Md_scriptHere 77 = .ok (.ifCond .eq 6, 3) := by decide +kernel
theorem rd_Md_scriptHere_80 : decode mb_Md_scriptHere 80 = .ok (.bipush 7, 2) := by decide +kernel
theorem rd_Md_scriptHere_82 : decode mb_Md_scriptHere 82 = .ok (.ireturn, 1) := by decide +kernel
theorem rd_Md_scriptHere_83 : decode mb_Md_scriptHere 83 = .ok (.aload_n 0, 1) := by decide +kernel
theorem rd_Md_scriptHere_84 : decode mb_Md_scriptHere 84 = .ok (.ldc_w 277, 3) := by decide +kernel
theorem rd_Md_scriptHere_87 : decode mb_Md_scriptHere 87 = .ok (.invokevirtual 215, 3) := by decide +kernel
theorem rd_Md_scriptHere_90 : decode mb_Md_scriptHere 90 = .ok (.ifCond .eq 6, 3) := by decide +kernel
theorem rd_Md_scriptHere_93 : decode mb_Md_scriptHere 93 = .ok (.bipush 8, 2) := by decide +kernel
theorem rd_Md_scriptHere_95 : decode mb_Md_scriptHere 95 = .ok (.ireturn, 1) := by decide +kernel
theorem rd_Md_scriptHere_96 : decode mb_Md_scriptHere 96 = .ok (.aload_n 0, 1) := by decide +kernel
theorem rd_Md_scriptHere_97 : decode mb_Md_scriptHere 97 = .ok (.ldc_w 279, 3) := by decide +kernel
theorem rd_Md_scriptHere_100 : decode mb_Md_scriptHere 100 = .ok (.invokevirtual 215, 3) := by decide +kernel
theorem rd_Md_scriptHere_103 : decode mb_Md_scriptHere 103 = .ok (.ifCond .eq 8, 3) := by decide +kernel
theorem rd_Md_scriptHere_106 : decode mb_Md_scriptHere 106 = .ok (.bipush 9, 2) := by decide +kernel
theorem rd_Md_scriptHere_108 : decode mb_Md_scriptHere 108 = .ok (.goto 4, 3) := by decide +kernel
theorem rd_Md_scriptHere_111 : decode mb_Md_scriptHere 111 = .ok (.iconst 0, 1) := by decide +kernel
theorem rd_Md_scriptHere_112 : decode mb_Md_scriptHere 112 = .ok (.ireturn, 1) := by decide +kernel
theorem rd_Md_takesCluster_0 : decode mb_Md_takesCluster 0 = .ok (.aload_n 0, 1) := by decide +kernel
theorem rd_Md_takesCluster_1 : decode mb_Md_takesCluster 1 = .ok (.iconst 0, 1) := by decide +kernel
theorem rd_Md_takesCluster_2 : decode mb_Md_takesCluster 2 = .ok (.iconst 0, 1) := by decide +kernel
theorem rd_Md_takesCluster_3 : decode mb_Md_takesCluster 3 = .ok (.iconst 5, 1) := by decide +kernel
theorem rd_Md_takesCluster_4 : decode mb_Md_takesCluster 4 = .ok (.invokevirtual 210, 3) := by decide +kernel
theorem rd_Md_takesCluster_7 : decode mb_Md_takesCluster 7 = .ok (.ireturn, 1) := by decide +kernel
theorem rd_Md_takesCordNumber_0 : decode mb_Md_takesCordNumber 0 = .ok (.aload_n 0, 1) := by decide +kernel
theorem rd_Md_takesCordNumber_1 : decode mb_Md_takesCordNumber 1 = .ok (.iconst 0, 1) := by decide +kernel
theorem rd_Md_takesCordNumber_2 : decode mb_Md_takesCordNumber 2 = .ok (.iconst 0, 1) := by decide +kernel
theorem rd_Md_takesCordNumber_3 : decode mb_Md_takesCordNumber 3 = .ok (.bipush 39, 2) := by decide +kernel
theorem rd_Md_takesCordNumber_5 : decode mb_Md_takesCordNumber 5 = .ok (.invokevirtual 210, 3) := by decide +kernel
theorem rd_Md_takesCordNumber_8 : decode mb_Md_takesCordNumber 8 = .ok (.ireturn, 1) := by decide +kernel
theorem rd_Md_takesRest_0 : decode mb_Md_takesRest 0 = .ok (.aload_n 0, 1) := by decide +kernel
theorem rd_Md_takesRest_1 : decode mb_Md_takesRest 1 = .ok (.invokevirtual 189, 3) := by decide +kernel
theorem rd_Md_takesRest_4 : decode mb_Md_takesRest 4 = .ok (.iload_n 1, 1) := by decide +kernel
theorem rd_Md_takesRest_5 : decode mb_Md_takesRest 5 = .ok (.tableswitch 219 1 8 #[47, 49, 82, 115, 120, 141, 175, 198], 47) := by decide +kernel
theorem rd_Md_takesRest_52 : decode mb_Md_takesRest 52 = .ok (.iconst 1, 1) := by decide +kernel
theorem rd_Md_takesRest_53 : decode mb_Md_takesRest 53 = .ok (.ireturn, 1) := by decide +kernel
theorem rd_Md_takesRest_54 : decode mb_Md_takesRest 54 = .ok (.aload_n 0, 1) := by decide +kernel
theorem rd_Md_takesRest_55 : decode mb_Md_takesRest 55 = .ok (.invokevirtual 281, 3) := by decide +kernel
theorem rd_Md_takesRest_58 : decode mb_Md_takesRest 58 = .ok (.ifCond .eq 27, 3) := by decide +kernel
theorem rd_Md_takesRest_61 : decode mb_Md_takesRest 61 = .ok (.aload_n 0, 1) := by decide +kernel
theorem rd_Md_takesRest_62 : decode mb_Md_takesRest 62 = .ok (.iconst 1, 1) := by decide +kernel
theorem rd_Md_takesRest_63 : decode mb_Md_takesRest 63 = .ok (.invokevirtual 207, 3) := by decide +kernel
theorem rd_Md_takesRest_66 : decode mb_Md_takesRest 66 = .ok (.ifCond .eq 19, 3) := by decide +kernel
theorem rd_Md_takesRest_69 : decode mb_Md_takesRest 69 = .ok (.aload_n 0, 1) := by decide +kernel
theorem rd_Md_takesRest_70 : decode mb_Md_takesRest 70 = .ok (.iconst 2, 1) := by decide +kernel
theorem rd_Md_takesRest_71 : decode mb_Md_takesRest 71 = .ok (.iconst 0, 1) := by decide +kernel
theorem rd_Md_takesRest_72 : decode mb_Md_takesRest 72 = .ok (.sipush 9999, 3) := by decide +kernel
theorem rd_Md_takesRest_75 : decode mb_Md_takesRest 75 = .ok (.invokevirtual 210, 3) := by decide +kernel
theorem rd_Md_takesRest_78 : decode mb_Md_takesRest 78 = .ok (.ifCond .eq 7, 3) := by decide +kernel
theorem rd_Md_takesRest_81 : decode mb_Md_takesRest 81 = .ok (.iconst 1, 1) := by decide +kernel
theorem rd_Md_takesRest_82 : decode mb_Md_takesRest 82 = .ok (.goto 4, 3) := by decide +kernel
theorem rd_Md_takesRest_85 : decode mb_Md_takesRest 85 = .ok (.iconst 0, 1) := by decide +kernel
theorem rd_Md_takesRest_86 : decode mb_Md_takesRest 86 = .ok (.ireturn, 1) := by decide +kernel
theorem rd_Md_takesRest_87 : decode mb_Md_takesRest 87 = .ok (.aload_n 0, 1) := by decide +kernel
theorem rd_Md_takesRest_88 : decode mb_Md_takesRest 88 = .ok (.invokevirtual 284, 3) := by decide +kernel
theorem rd_Md_takesRest_91 : decode mb_Md_takesRest 91 = .ok (.ifCond .eq 27, 3) := by decide +kernel
theorem rd_Md_takesRest_94 : decode mb_Md_takesRest 94 = .ok (.aload_n 0, 1) := by decide +kernel
theorem rd_Md_takesRest_95 : decode mb_Md_takesRest 95 = .ok (.iconst 1, 1) := by decide +kernel
theorem rd_Md_takesRest_96 : decode mb_Md_takesRest 96 = .ok (.invokevirtual 207, 3) := by decide +kernel
theorem rd_Md_takesRest_99 : decode mb_Md_takesRest 99 = .ok (.ifCond .eq 19, 3) := by decide +kernel
theorem rd_Md_takesRest_102 : decode mb_Md_takesRest 102 = .ok (.aload_n 0, 1) := by decide +kernel
theorem rd_Md_takesRest_103 : decode mb_Md_takesRest 103 = .ok (.iconst 2, 1) := by decide +kernel
theorem rd_Md_takesRest_104 : decode mb_Md_takesRest 104 = .ok (.iconst 0, 1) := by decide +kernel
theorem rd_Md_takesRest_105 : decode mb_Md_takesRest 105 = .ok (.sipush 9999, 3) := by decide +kernel
theorem rd_Md_takesRest_108 : decode mb_Md_takesRest 108 = .ok (.invokevirtual 210, 3) := by decide +kernel
theorem rd_Md_takesRest_111 : decode mb_Md_takesRest 111 = .ok (.ifCond .eq 7, 3) := by decide +kernel
theorem rd_Md_takesRest_114 : decode mb_Md_takesRest 114 = .ok (.iconst 1, 1) := by decide +kernel
theorem rd_Md_takesRest_115 : decode mb_Md_takesRest 115 = .ok (.goto 4, 3) := by decide +kernel
theorem rd_Md_takesRest_118 : decode mb_Md_takesRest 118 = .ok (.iconst 0, 1) := by decide +kernel
theorem rd_Md_takesRest_119 : decode mb_Md_takesRest 119 = .ok (.ireturn, 1) := by decide +kernel
theorem rd_Md_takesRest_120 : decode mb_Md_takesRest 120 = .ok (.aload_n 0, 1) := by decide +kernel
theorem rd_Md_takesRest_121 : decode mb_Md_takesRest 121 = .ok (.invokevirtual 284, 3) := by decide +kernel
theorem rd_Md_takesRest_124 : decode mb_Md_takesRest 124 = .ok (.ireturn, 1) := by decide +kernel
theorem rd_Md_takesRest_125 : decode mb_Md_takesRest 125 = .ok (.aload_n 0, 1) := by decide +kernel
theorem rd_Md_takesRest_126 : decode mb_Md_takesRest 126 = .ok (.invokevirtual 281, 3) := by decide +kernel
theorem rd_Md_takesRest_129 : decode mb_Md_takesRest 129 = .ok (.ifCond .eq 15, 3) := by decide +kernel
theorem rd_Md_takesRest_132 : decode mb_Md_takesRest 132 = .ok (.aload_n 0, 1) := by decide +kernel
theorem rd_Md_takesRest_133 : decode mb_Md_takesRest 133 = .ok (.iconst 1, 1) := by decide +kernel
theorem rd_Md_takesRest_134 : decode mb_Md_takesRest 134 = .ok (.invokevirtual 207, 3) := by decide +kernel
theorem rd_Md_takesRest_137 : decode mb_Md_takesRest 137 = .ok (.ifCond .eq 7, 3) := by decide +kernel
theorem rd_Md_takesRest_140 : decode mb_Md_takesRest 140 = .ok (.iconst 1, 1) := by decide +kernel
theorem rd_Md_takesRest_141 : decode mb_Md_takesRest 141 = .ok (.goto 4, 3) := by decide +kernel
theorem rd_Md_takesRest_144 : decode mb_Md_takesRest 144 = .ok (.iconst 0, 1) := by decide +kernel
theorem rd_Md_takesRest_145 : decode mb_Md_takesRest 145 = .ok (.ireturn, 1) := by decide +kernel
theorem rd_Md_takesRest_146 : decode mb_Md_takesRest 146 = .ok (.aload_n 0, 1) := by decide +kernel
theorem rd_Md_takesRest_147 : decode mb_Md_takesRest 147 = .ok (.invokevirtual 284, 3) := by decide +kernel
theorem rd_Md_takesRest_150 : decode mb_Md_takesRest 150 = .ok (.ifCond .eq 28, 3) := by decide +kernel
theorem rd_Md_takesRest_153 : decode mb_Md_takesRest 153 = .ok (.aload_n 0, 1) := by decide +kernel
theorem rd_Md_takesRest_154 : decode mb_Md_takesRest 154 = .ok (.iconst 1, 1) := by decide +kernel
theorem rd_Md_takesRest_155 : decode mb_Md_takesRest 155 = .ok (.iconst 0, 1) := by decide +kernel
theorem rd_Md_takesRest_156 : decode mb_Md_takesRest 156 = .ok (.iconst 3, 1) := by decide +kernel
theorem rd_Md_takesRest_157 : decode mb_Md_takesRest 157 = .ok (.invokevirtual 210, 3) := by decide +kernel
theorem rd_Md_takesRest_160 : decode mb_Md_takesRest 160 = .ok (.ifCond .eq 18, 3) := by decide +kernel
theorem rd_Md_takesRest_163 : decode mb_Md_takesRest 163 = .ok (.aload_n 0, 1) := by decide +kernel
theorem rd_Md_takesRest_164 : decode mb_Md_takesRest 164 = .ok (.iconst 2, 1) := by decide +kernel
theorem rd_Md_takesRest_165 : decode mb_Md_takesRest 165 = .ok (.iconst 0, 1) := by decide +kernel
theorem rd_Md_takesRest_166 : decode mb_Md_takesRest 166 = .ok (.bipush 9, 2) := by decide +kernel
theorem rd_Md_takesRest_168 : decode mb_Md_takesRest 168 = .ok (.invokevirtual 210, 3) := by decide +kernel
theorem rd_Md_takesRest_171 : decode mb_Md_takesRest 171 = .ok (.ifCond .eq 7, 3) := by decide +kernel
theorem rd_Md_takesRest_174 : decode mb_Md_takesRest 174 = .ok (.iconst 1, 1) := by decide +kernel
theorem rd_Md_takesRest_175 : decode mb_Md_takesRest 175 = .ok (.goto 4, 3) := by decide +kernel
theorem rd_Md_takesRest_178 : decode mb_Md_takesRest 178 = .ok (.iconst 0, 1) := by decide +kernel
theorem rd_Md_takesRest_179 : decode mb_Md_takesRest 179 = .ok (.ireturn, 1) := by decide +kernel
theorem rd_Md_takesRest_180 : decode mb_Md_takesRest 180 = .ok (.aload_n 0, 1) := by decide +kernel
theorem rd_Md_takesRest_181 : decode mb_Md_takesRest 181 = .ok (.invokevirtual 284, 3) := by decide +kernel
theorem rd_Md_takesRest_184 : decode mb_Md_takesRest 184 = .ok (.ifCond .eq 17, 3) := by decide +kernel
theorem rd_Md_takesRest_187 : decode mb_Md_takesRest 187 = .ok (.aload_n 0, 1) := by decide +kernel
theorem rd_Md_takesRest_188 : decode mb_Md_takesRest 188 = .ok (.iconst 1, 1) := by decide +kernel
theorem rd_Md_takesRest_189 : decode mb_Md_takesRest 189 = .ok (.iconst 1, 1) := by decide +kernel
theorem rd_Md_takesRest_190 : decode mb_Md_takesRest 190 = .ok (.iconst 4, 1) := by decide +kernel
theorem rd_Md_takesRest_191 : decode mb_Md_takesRest 191 = .ok (.invokevirtual 210, 3) := by decide +kernel
theorem rd_Md_takesRest_194 : decode mb_Md_takesRest 194 = .ok (.ifCond .eq 7, 3) := by decide +kernel
theorem rd_Md_takesRest_197 : decode mb_Md_takesRest 197 = .ok (.iconst 1, 1) := by decide +kernel
theorem rd_Md_takesRest_198 : decode mb_Md_takesRest 198 = .ok (.goto 4, 3) := by decide +kernel
theorem rd_Md_takesRest_201 : decode mb_Md_takesRest 201 = .ok (.iconst 0, 1) := by decide +kernel
theorem rd_Md_takesRest_202 : decode mb_Md_takesRest 202 = .ok (.ireturn, 1) := by decide +kernel
theorem rd_Md_takesRest_203 : decode mb_Md_takesRest 203 = .ok (.aload_n 0, 1) := by decide +kernel
theorem rd_Md_takesRest_204 : decode mb_Md_takesRest 204 = .ok (.invokevirtual 284, 3) := by decide +kernel
theorem rd_Md_takesRest_207 : decode mb_Md_takesRest 207 = .ok (.ifCond .eq 15, 3) := by decide +kernel
theorem rd_Md_takesRest_210 : decode mb_Md_takesRest 210 = .ok (.aload_n 0, 1) := by decide +kernel
theorem rd_Md_takesRest_211 : decode mb_Md_takesRest 211 = .ok (.iconst 1, 1) := by decide +kernel
theorem rd_Md_takesRest_212 : decode mb_Md_takesRest 212 = .ok (.invokevirtual 207, 3) := by decide +kernel
theorem rd_Md_takesRest_215 : decode mb_Md_takesRest 215 = .ok (.ifCond .eq 7, 3) := by decide +kernel
theorem rd_Md_takesRest_218 : decode mb_Md_takesRest 218 = .ok (.iconst 1, 1) := by decide +kernel
theorem rd_Md_takesRest_219 : decode mb_Md_takesRest 219 = .ok (.goto 4, 3) := by decide +kernel
theorem rd_Md_takesRest_222 : decode mb_Md_takesRest 222 = .ok (.iconst 0, 1) := by decide +kernel
theorem rd_Md_takesRest_223 : decode mb_Md_takesRest 223 = .ok (.ireturn, 1) := by decide +kernel
theorem rd_Md_takesRest_224 : decode mb_Md_takesRest 224 = .ok (.aload_n 0, 1) := by decide +kernel
theorem rd_Md_takesRest_225 : decode mb_Md_takesRest 225 = .ok (.invokevirtual 281, 3) := by decide +kernel
theorem rd_Md_takesRest_228 : decode mb_Md_takesRest 228 = .ok (.ireturn, 1) := by decide +kernel
theorem rd_Md_readScriptStatement_0 : decode mb_Md_readScriptStatement 0 = .ok (.aload_n 0, 1) := by decide +kernel
theorem rd_Md_readScriptStatement_1 : decode mb_Md_readScriptStatement 1 = .ok (.invokevirtual 287, 3) := by decide +kernel
theorem rd_Md_readScriptStatement_4 : decode mb_Md_readScriptStatement 4 = .ok (.istore_n 1, 1) := by decide +kernel
theorem rd_Md_readScriptStatement_5 : decode mb_Md_readScriptStatement 5 = .ok (.iload_n 1, 1) := by decide +kernel
theorem rd_Md_readScriptStatement_6 : decode mb_Md_readScriptStatement 6 = .ok (.ifCond .ne 9, 3) := by decide +kernel
theorem rd_Md_readScriptStatement_9 : decode mb_Md_readScriptStatement 9 = .ok (.aload_n 0, 1) := by decide +kernel
theorem rd_Md_readScriptStatement_10 : decode mb_Md_readScriptStatement 10 = .ok (.iconst 1, 1) := by decide +kernel
theorem rd_Md_readScriptStatement_11 : decode mb_Md_readScriptStatement 11 = .ok (.invokevirtual 180, 3) := by decide +kernel
theorem rd_Md_readScriptStatement_14 : decode mb_Md_readScriptStatement 14 = .ok (.ireturn, 1) := by decide +kernel
theorem rd_Md_readScriptStatement_15 : decode mb_Md_readScriptStatement 15 = .ok (.aload_n 0, 1) := by decide +kernel
theorem rd_Md_readScriptStatement_16 : decode mb_Md_readScriptStatement 16 = .ok (.getfield 250, 3) := by decide +kernel
theorem rd_Md_readScriptStatement_19 : decode mb_Md_readScriptStatement 19 = .ok (.bipush 30, 2) := by decide +kernel
theorem rd_Md_readScriptStatement_21 : decode mb_Md_readScriptStatement 21 = .ok (.if_icmp .ne 10, 3) := by decide +kernel
theorem rd_Md_readScriptStatement_24 : decode mb_Md_readScriptStatement 24 = .ok (.aload_n 0, 1) := by decide +kernel
theorem rd_Md_readScriptStatement_25 : decode mb_Md_readScriptStatement 25 = .ok (.bipush 6, 2) := by decide +kernel
theorem rd_Md_readScriptStatement_27 : decode mb_Md_readScriptStatement 27 = .ok (.invokevirtual 180, 3) := by decide +kernel
theorem rd_Md_readScriptStatement_30 : decode mb_Md_readScriptStatement 30 = .ok (.ireturn, 1) := by decide +kernel
theorem rd_Md_readScriptStatement_31 : decode mb_Md_readScriptStatement 31 = .ok (.aload_n 0, 1) := by decide +kernel
theorem rd_Md_readScriptStatement_32 : decode mb_Md_readScriptStatement 32 = .ok (.iload_n 1, 1) := by decide +kernel
theorem rd_Md_readScriptStatement_33 : decode mb_Md_readScriptStatement 33 = .ok (.invokevirtual 290, 3) := by decide +kernel
theorem rd_Md_readScriptStatement_36 : decode mb_Md_readScriptStatement 36 = .ok (.ifCond .ne 5, 3) := by decide +kernel
theorem rd_Md_readScriptStatement_39 : decode mb_Md_readScriptStatement 39 = .ok (.iconst 0, 1) := by decide +kernel
theorem rd_Md_readScriptStatement_40 : decode mb_Md_readScriptStatement 40 = .ok (.ireturn, 1) := by decide +kernel
theorem rd_Md_readScriptStatement_41 : decode mb_Md_readScriptStatement 41 = .ok (.aload_n 0, 1) := by decide +kernel
theorem rd_Md_readScriptStatement_42 : decode mb_Md_readScriptStatement 42 = .ok (.getfield 32, 3) := by decide +kernel
theorem rd_Md_readScriptStatement_45 : decode mb_Md_readScriptStatement 45 = .ok (.aload_n 0, 1) := by decide +kernel
theorem rd_Md_readScriptStatement_46 : decode mb_Md_readScriptStatement 46 = .ok (.getfield 250, 3) := by decide +kernel
theorem rd_Md_readScriptStatement_49 : decode mb_Md_readScriptStatement 49 = .ok (.iload_n 1, 1) := by decide +kernel
theorem rd_Md_readScriptStatement_50 : decode mb_Md_readScriptStatement 50 = .ok (.iastore, 1) := by decide +kernel
theorem rd_Md_readScriptStatement_51 : decode mb_Md_readScriptStatement 51 = .ok (.iconst 0, 1) := by decide +kernel
theorem rd_Md_readScriptStatement_52 : decode mb_Md_readScriptStatement 52 = .ok (.istore_n 2, 1) := by decide +kernel
theorem rd_Md_readScriptStatement_53 : decode mb_Md_readScriptStatement 53 = .ok (.iload_n 2, 1) := by decide +kernel
theorem rd_Md_readScriptStatement_54 : decode mb_Md_readScriptStatement 54 = .ok (.iconst 3, 1) := by decide +kernel
theorem rd_Md_readScriptStatement_55 : decode mb_Md_readScriptStatement 55 = .ok (.if_icmp .ge 28, 3) := by decide +kernel
theorem rd_Md_readScriptStatement_58 : decode mb_Md_readScriptStatement 58 = .ok (.aload_n 0, 1) := by decide +kernel
theorem rd_Md_readScriptStatement_59 : decode mb_Md_readScriptStatement 59 = .ok (.getfield 35, 3) := by decide +kernel
theorem rd_Md_readScriptStatement_62 : decode mb_Md_readScriptStatement 62 = .ok (.iconst 3, 1) := by decide +kernel
theorem rd_Md_readScriptStatement_63 : decode mb_Md_readScriptStatement 63 = .ok (.aload_n 0, 1) := by decide +kernel
theorem rd_Md_readScriptStatement_64 : decode mb_Md_readScriptStatement 64 = .ok (.getfield 250, 3) := by decide +kernel
theorem rd_Md_readScriptStatement_67 : decode mb_Md_readScriptStatement 67 = .ok (.imul, 1) := by decide +kernel
theorem rd_Md_readScriptStatement_68 : decode mb_Md_readScriptStatement 68 = .ok (.iload_n 2, 1) := by decide +kernel
theorem rd_Md_readScriptStatement_69 : decode mb_Md_readScriptStatement 69 = .ok (.iadd, 1) := by decide +kernel
theorem rd_Md_readScriptStatement_70 : decode mb_Md_readScriptStatement 70 = .ok (.aload_n 0, 1) := by decide +kernel
theorem rd_Md_readScriptStatement_71 : decode mb_Md_readScriptStatement 71 = .ok (.getfield 29, 3) := by decide +kernel
theorem rd_Md_readScriptStatement_74 : decode mb_Md_readScriptStatement 74 = .ok (.iload_n 2, 1) := by decide +kernel
theorem rd_Md_readScriptStatement_75 : decode mb_Md_readScriptStatement 75 = .ok (.iaload, 1) := by decide +kernel
theorem rd_Md_readScriptStatement_76 : decode mb_Md_readScriptStatement 76 = .ok (.iastore, 1) := by decide +kernel
theorem rd_Md_readScriptStatement_77 : decode mb_Md_readScriptStatement 77 = .ok (.iinc 2 1, 3) := by decide +kernel
theorem rd_Md_readScriptStatement_80 : decode mb_Md_readScriptStatement 80 = .ok (.goto (-27), 3) := by decide +kernel
theorem rd_Md_readScriptStatement_83 : decode mb_Md_readScriptStatement 83 = .ok (.aload_n 0, 1) := by decide +kernel
theorem rd_Md_readScriptStatement_84 : decode mb_Md_readScriptStatement 84 = .ok (.dup, 1) := by decide +kernel
theorem rd_Md_readScriptStatement_85 : decode mb_Md_readScriptStatement 85 = .ok (.getfield 250, 3) := by decide +kernel
theorem rd_Md_readScriptStatement_88 : decode mb_Md_readScriptStatement 88 = .ok (.iconst 1, 1) := by decide +kernel
theorem rd_Md_readScriptStatement_89 : decode mb_Md_readScriptStatement 89 = .ok (.iadd, 1) := by decide +kernel
theorem rd_Md_readScriptStatement_90 : decode mb_Md_readScriptStatement 90 = .ok (.putfield 250, 3) := by decide +kernel
theorem rd_Md_readScriptStatement_93 : decode mb_Md_readScriptStatement 93 = .ok (.aload_n 0, 1) := by decide +kernel
theorem rd_Md_readScriptStatement_94 : decode mb_Md_readScriptStatement 94 = .ok (.invokevirtual 204, 3) := by decide +kernel
theorem rd_Md_readScriptStatement_97 : decode mb_Md_readScriptStatement 97 = .ok (.ireturn, 1) := by decide +kernel
theorem rd_Md_isCluster_0 : decode mb_Md_isCluster 0 = .ok (.iload_n 1, 1) := by decide +kernel
theorem rd_Md_isCluster_1 : decode mb_Md_isCluster 1 = .ok (.iconst 0, 1) := by decide +kernel
theorem rd_Md_isCluster_2 : decode mb_Md_isCluster 2 = .ok (.aload_n 0, 1) := by decide +kernel
theorem rd_Md_isCluster_3 : decode mb_Md_isCluster 3 = .ok (.getfield 7, 3) := by decide +kernel
theorem rd_Md_isCluster_6 : decode mb_Md_isCluster 6 = .ok (.iconst 1, 1) := by decide +kernel
theorem rd_Md_isCluster_7 : decode mb_Md_isCluster 7 = .ok (.iaload, 1) := by decide +kernel
theorem rd_Md_isCluster_8 : decode mb_Md_isCluster 8 = .ok (.iconst 1, 1) := by decide +kernel
theorem rd_Md_isCluster_9 : decode mb_Md_isCluster 9 = .ok (.isub, 1) := by decide +kernel
theorem rd_Md_isCluster_10 : decode mb_Md_isCluster 10 = .ok (.invokestatic 115, 3) := by decide +kernel
theorem rd_Md_isCluster_13 : decode mb_Md_isCluster 13 = .ok (.ireturn, 1) := by decide +kernel
theorem rd_Md_isCord_0 : decode mb_Md_isCord 0 = .ok (.iload_n 1, 1) := by decide +kernel
theorem rd_Md_isCord_1 : decode mb_Md_isCord 1 = .ok (.iconst 0, 1) := by decide +kernel
theorem rd_Md_isCord_2 : decode mb_Md_isCord 2 = .ok (.aload_n 0, 1) := by decide +kernel
theorem rd_Md_isCord_3 : decode mb_Md_isCord 3 = .ok (.getfield 7, 3) := by decide +kernel
theorem rd_Md_isCord_6 : decode mb_Md_isCord 6 = .ok (.iconst 2, 1) := by decide +kernel
theorem rd_Md_isCord_7 : decode mb_Md_isCord 7 = .ok (.iaload, 1) := by decide +kernel
theorem rd_Md_isCord_8 : decode mb_Md_isCord 8 = .ok (.iconst 1, 1) := by decide +kernel
theorem rd_Md_isCord_9 : decode mb_Md_isCord 9 = .ok (.isub, 1) := by decide +kernel
theorem rd_Md_isCord_10 : decode mb_Md_isCord 10 = .ok (.invokestatic 115, 3) := by decide +kernel
theorem rd_Md_isCord_13 : decode mb_Md_isCord 13 = .ok (.ireturn, 1) := by decide +kernel
theorem rd_Md_isTopic_0 : decode mb_Md_isTopic 0 = .ok (.iload_n 1, 1) := by decide +kernel
theorem rd_Md_isTopic_1 : decode mb_Md_isTopic 1 = .ok (.iconst 0, 1) := by decide +kernel
theorem rd_Md_isTopic_2 : decode mb_Md_isTopic 2 = .ok (.aload_n 0, 1) := by decide +kernel
theorem rd_Md_isTopic_3 : decode mb_Md_isTopic 3 = .ok (.getfield 7, 3) := by decide +kernel
theorem rd_Md_isTopic_6 : decode mb_Md_isTopic 6 = .ok (.iconst 0, 1) := by decide +kernel
theorem rd_Md_isTopic_7 : decode mb_Md_isTopic 7 = .ok (.iaload, 1) := by decide +kernel
theorem rd_Md_isTopic_8 : decode mb_Md_isTopic 8 = .ok (.iconst 1, 1) := by decide +kernel
theorem rd_Md_isTopic_9 : decode mb_Md_isTopic 9 = .ok (.isub, 1) := by decide +kernel
theorem rd_Md_isTopic_10 : decode mb_Md_isTopic 10 = .ok (.invokestatic 115, 3) := by decide +kernel
theorem rd_Md_isTopic_13 : decode mb_Md_isTopic 13 = .ok (.ireturn, 1) := by decide +kernel
def wd_Md_loadCords (cI : ClassId) (a_t a_t_w a_t_wKept a_t_saved a_t_past a_t_input a_t_n a_t_order a_t_numbers a_t_output : Nat) (i_t_pastMany : Int) (i_t_isSaved : Int) (i_t_thrown : Int) (i_t_inputMany : Int) (i_t_lastError : Int) (i_t_lastOffset : Int) (i_t_error : Int) (i_t_offset : Int) (i_t_nextByte : Int) (i_t_begin : Int) (i_t_value : Int) (i_t_token : Int) (i_t_got : Int) (i_t_orders : Int) (i_t_outputMany : Int) (i_t_w : (Int → Int)) (i_t_wKept : (Int → Int)) (i_t_input : (Int → Int)) (i_t_n : (Int → Int)) : va_W := [(a_t, .inr (11, [.ref a_t_w, .ref a_t_wKept, .ref a_t_saved, .ref a_t_past, jk_V i_t_pastMany, jk_V i_t_isSaved, jk_V i_t_thrown, .ref a_t_input, jk_V i_t_inputMany, jk_V i_t_lastError, jk_V i_t_lastOffset, jk_V i_t_error, jk_V i_t_offset, jk_V i_t_nextByte, jk_V i_t_begin, jk_V i_t_value, jk_V i_t_token, jk_V i_t_got, .ref a_t_n, .ref a_t_order, .ref a_t_numbers, jk_V i_t_orders, .ref a_t_output, jk_V i_t_outputMany])), (a_t_w, jk_W cI 259 i_t_w), (a_t_wKept, jk_W cI 259 i_t_wKept), (a_t_input, jk_W cI 700 i_t_input), (a_t_n, jk_W cI 3 i_t_n)]
set_option maxHeartbeats 4000000 in
set_option maxRecDepth 20000 in
theorem ct_Md_loadCords (l : Launch) (D : va_G) (Z : (Nat → Prop) → State → Heap → Prop) (sq : Nat → Nat) (hZ : jk_ZK Z sq) (cI cR : ClassId) (a_t a_t_w a_t_wKept a_t_saved a_t_past a_t_input a_t_n a_t_order a_t_numbers a_t_output : Nat) (i_t_pastMany : Int) (i_t_isSaved : Int) (i_t_thrown : Int) (i_t_inputMany : Int) (i_t_lastError : Int) (i_t_lastOffset : Int) (i_t_error : Int) (i_t_offset : Int) (i_t_nextByte : Int) (i_t_begin : Int) (i_t_value : Int) (i_t_token : Int) (i_t_got : Int) (i_t_orders : Int) (i_t_outputMany : Int) (i_t_w : (Int → Int)) (i_t_wKept : (Int → Int)) (i_t_input : (Int → Int)) (i_t_n : (Int → Int)) (q : Int × (Int → Int) × (Int → Int) × Int × Int × Int × Int × Int × Int × Int × Int × Int × Int × Int × Int × Int × (Int → Int) × Int) (hf : fn_Md_loadCords i_t_w i_t_wKept i_t_pastMany i_t_isSaved i_t_thrown i_t_input i_t_inputMany i_t_lastError i_t_lastOffset i_t_error i_t_offset i_t_nextByte i_t_begin i_t_value i_t_token i_t_got i_t_n i_t_orders = some q) : jk_MI l D jk_cl (jk_ty cI cR) Z mn_Md_loadCords (.code mn_Md_loadCords mb_Md_loadCords 2 (some .int) :: jk_WA) (jk_rm 12 429) [.ref a_t] (wd_Md_loadCords cI a_t a_t_w a_t_wKept a_t_saved a_t_past a_t_input a_t_n a_t_order a_t_numbers a_t_output i_t_pastMany i_t_isSaved i_t_thrown i_t_inputMany i_t_lastError i_t_lastOffset i_t_error i_t_offset i_t_nextByte i_t_begin i_t_value i_t_token i_t_got i_t_orders i_t_outputMany i_t_w i_t_wKept i_t_input i_t_n) (wd_Md_loadCords cI a_t a_t_w a_t_wKept a_t_saved a_t_past a_t_input a_t_n a_t_order a_t_numbers a_t_output q.2.2.2.1 q.2.2.2.2.1 q.2.2.2.2.2.1 q.2.2.2.2.2.2.1 q.2.2.2.2.2.2.2.1 q.2.2.2.2.2.2.2.2.1 q.2.2.2.2.2.2.2.2.2.1 q.2.2.2.2.2.2.2.2.2.2.1 q.2.2.2.2.2.2.2.2.2.2.2.1 q.2.2.2.2.2.2.2.2.2.2.2.2.1 q.2.2.2.2.2.2.2.2.2.2.2.2.2.1 q.2.2.2.2.2.2.2.2.2.2.2.2.2.2.1 q.2.2.2.2.2.2.2.2.2.2.2.2.2.2.2.1 q.2.2.2.2.2.2.2.2.2.2.2.2.2.2.2.2.2 i_t_outputMany q.2.1 q.2.2.1 i_t_input q.2.2.2.2.2.2.2.2.2.2.2.2.2.2.2.2.1) q.1 := by
  intro sz
  refine jk_body (by decide +kernel) (fun p e s m args below meth c hsz hz hin C => ?_) (Nat.le_of_ble_eq_true rfl)
  subst hsz
  unfold fn_Md_loadCords at hf
  refine jk_aload_n C rd_Md_loadCords_0 (k := 0) rfl ?_
  refine jk_iconst C rd_Md_loadCords_1 ?_
  refine jk_putf C in_Md ty_Md nm_Md (ci := 11) rfl 6 (by decide) tm_1269 rfl rfl rfl 0 rfl (Nat.le_of_ble_eq_true rfl) rd_Md_loadCords_2 (ws' := wd_Md_loadCords cI a_t a_t_w a_t_wKept a_t_saved a_t_past a_t_input a_t_n a_t_order a_t_numbers a_t_output i_t_pastMany i_t_isSaved 0 i_t_inputMany i_t_lastError i_t_lastOffset i_t_error i_t_offset i_t_nextByte i_t_begin i_t_value i_t_token i_t_got i_t_orders i_t_outputMany i_t_w i_t_wKept i_t_input i_t_n) rfl ?_
  refine jk_aload_n C rd_Md_loadCords_5 (k := 0) rfl ?_
  refine jk_get C in_Md (ci := 11) rfl 0 (by decide) tm_1263 0 rfl rfl rd_Md_loadCords_6 ?_
  refine jk_iconst C rd_Md_loadCords_9 ?_
  refine jk_aload_n C rd_Md_loadCords_10 (k := 0) rfl ?_
  refine jk_get C in_Md (ci := 11) rfl 1 (by decide) tm_1264 0 rfl rfl rd_Md_loadCords_11 ?_
  refine jk_iconst C rd_Md_loadCords_14 ?_
  obtain ⟨q15, hq15, hf⟩ := jk_bind_h hf
  refine jk_callSv C hZ.1 hz (ct_Md_copies l D Z sq hZ cI cR (n_a := 259) (n_b := 259) (Nat.le_of_ble_eq_true rfl) (Nat.le_of_ble_eq_true rfl) a_t_w a_t_wKept i_t_w i_t_wKept 0 0 q15 hq15) tm_1359 tm_1360 tm_15 tm_1361 na_Md_copies ⟨Nat.le_of_ble_eq_true rfl, Nat.le_of_ble_eq_true rfl⟩ rfl [1, 2] rfl rfl rfl (ws' := wd_Md_loadCords cI a_t a_t_w a_t_wKept a_t_saved a_t_past a_t_input a_t_n a_t_order a_t_numbers a_t_output i_t_pastMany i_t_isSaved 0 i_t_inputMany i_t_lastError i_t_lastOffset i_t_error i_t_offset i_t_nextByte i_t_begin i_t_value i_t_token i_t_got i_t_orders i_t_outputMany i_t_w q15 i_t_input i_t_n) rfl (st := []) rfl (Nat.le_of_ble_eq_true rfl) rd_Md_loadCords_15 ?_ ⟨Nat.le_of_ble_eq_true rfl, Nat.le_of_ble_eq_true rfl⟩
  refine jk_aload_n C rd_Md_loadCords_18 (k := 0) rfl ?_
  obtain ⟨q19, hq19, hf⟩ := jk_bind_h hf
  refine jk_callVv C hZ.1 hz (ct_Md_startsText l D Z sq hZ cI cR a_t a_t_w a_t_wKept a_t_saved a_t_past a_t_input a_t_n a_t_order a_t_numbers a_t_output i_t_pastMany i_t_isSaved 0 i_t_inputMany i_t_lastError i_t_lastOffset i_t_error i_t_offset i_t_nextByte i_t_begin i_t_value i_t_token i_t_got i_t_orders i_t_outputMany i_t_input q19 hq19) tm_1362 tm_1364 sl_28 tm_15 tm_1365 na_Md_startsText ⟨Nat.le_of_ble_eq_true rfl, Nat.le_of_ble_eq_true rfl⟩ rfl [0, 3] rfl rfl rfl (ws' := wd_Md_loadCords cI a_t a_t_w a_t_wKept a_t_saved a_t_past a_t_input a_t_n a_t_order a_t_numbers a_t_output i_t_pastMany i_t_isSaved 0 i_t_inputMany i_t_lastError i_t_lastOffset q19.1 q19.2.1 q19.2.2.1 q19.2.2.2.1 q19.2.2.2.2.1 q19.2.2.2.2.2.1 i_t_got q19.2.2.2.2.2.2 i_t_outputMany i_t_w q15 i_t_input i_t_n) rfl 0 11 rfl rfl rfl (st := []) rfl (Nat.le_of_ble_eq_true rfl) rd_Md_loadCords_19 ?_ ⟨Nat.le_of_ble_eq_true rfl, Nat.le_of_ble_eq_true rfl⟩
  refine jk_aload_n C rd_Md_loadCords_22 (k := 0) rfl ?_
  obtain ⟨q23, hq23, hf⟩ := jk_bind_h hf
  refine jk_callVi C hZ.1 hz (ct_Md_readText l D Z sq hZ cI cR a_t a_t_w a_t_wKept a_t_saved a_t_past a_t_input a_t_n a_t_order a_t_numbers a_t_output i_t_pastMany i_t_isSaved 0 i_t_inputMany i_t_lastError i_t_lastOffset q19.1 q19.2.1 q19.2.2.1 q19.2.2.2.1 q19.2.2.2.2.1 q19.2.2.2.2.2.1 i_t_got q19.2.2.2.2.2.2 i_t_outputMany i_t_w i_t_input i_t_n q23 hq23) tm_1378 tm_1380 sl_32 tm_15 tm_1381 na_Md_readText ⟨Nat.le_of_ble_eq_true rfl, Nat.le_of_ble_eq_true rfl⟩ rfl [0, 1, 3, 4] rfl rfl rfl (ws' := wd_Md_loadCords cI a_t a_t_w a_t_wKept a_t_saved a_t_past a_t_input a_t_n a_t_order a_t_numbers a_t_output i_t_pastMany i_t_isSaved 0 i_t_inputMany i_t_lastError i_t_lastOffset q23.2.2.1 q23.2.2.2.1 q23.2.2.2.2.1 q23.2.2.2.2.2.1 q23.2.2.2.2.2.2.1 q23.2.2.2.2.2.2.2.1 q23.2.2.2.2.2.2.2.2.1 q19.2.2.2.2.2.2 i_t_outputMany q23.2.1 q15 i_t_input q23.2.2.2.2.2.2.2.2.2) rfl 0 11 rfl rfl rfl (st := []) rfl (Nat.le_of_ble_eq_true rfl) rd_Md_loadCords_23 ?_ ⟨Nat.le_of_ble_eq_true rfl, Nat.le_of_ble_eq_true rfl⟩
  refine jk_istore_n C rd_Md_loadCords_26 (by decide) (lv' := [(1, jk_V q23.1), (0, .ref a_t)]) rfl ?_
  refine jk_aload_n C rd_Md_loadCords_27 (k := 1) rfl ?_
  obtain ⟨q28, hq28, hf⟩ := jk_bind_h hf
  refine jk_callVv C hZ.1 hz (ct_Md_endsText l D Z sq hZ cI cR a_t a_t_w a_t_wKept a_t_saved a_t_past a_t_input a_t_n a_t_order a_t_numbers a_t_output i_t_pastMany i_t_isSaved 0 i_t_inputMany i_t_lastError i_t_lastOffset q23.2.2.1 q23.2.2.2.1 q23.2.2.2.2.1 q23.2.2.2.2.2.1 q23.2.2.2.2.2.2.1 q23.2.2.2.2.2.2.2.1 q23.2.2.2.2.2.2.2.2.1 q19.2.2.2.2.2.2 i_t_outputMany q28 hq28) tm_1478 tm_1480 sl_55 tm_15 tm_1481 na_Md_endsText ⟨Nat.le_of_ble_eq_true rfl, Nat.le_of_ble_eq_true rfl⟩ rfl [0] rfl rfl rfl (ws' := wd_Md_loadCords cI a_t a_t_w a_t_wKept a_t_saved a_t_past a_t_input a_t_n a_t_order a_t_numbers a_t_output i_t_pastMany i_t_isSaved 0 q28.1 q28.2.1 q28.2.2 q23.2.2.1 q23.2.2.2.1 q23.2.2.2.2.1 q23.2.2.2.2.2.1 q23.2.2.2.2.2.2.1 q23.2.2.2.2.2.2.2.1 q23.2.2.2.2.2.2.2.2.1 q19.2.2.2.2.2.2 i_t_outputMany q23.2.1 q15 i_t_input q23.2.2.2.2.2.2.2.2.2) rfl 0 11 rfl rfl rfl (st := []) rfl (Nat.le_of_ble_eq_true rfl) rd_Md_loadCords_28 ?_ ⟨Nat.le_of_ble_eq_true rfl, Nat.le_of_ble_eq_true rfl⟩
  refine jk_iload_n C rd_Md_loadCords_31 (k := 0) rfl ?_
  refine jk_if_ne (tgt := 50) C rd_Md_loadCords_32 (by decide) hf (fun _ hf => ?_) (fun _ hf => ?_)
  · refine jk_aload_n C rd_Md_loadCords_50 (k := 1) rfl ?_
    refine jk_iconst C rd_Md_loadCords_51 ?_
    refine jk_putf C in_Md ty_Md nm_Md (ci := 11) rfl 4 (by decide) tm_1267 rfl rfl rfl 0 rfl (Nat.le_of_ble_eq_true rfl) rd_Md_loadCords_52 (ws' := wd_Md_loadCords cI a_t a_t_w a_t_wKept a_t_saved a_t_past a_t_input a_t_n a_t_order a_t_numbers a_t_output 0 i_t_isSaved 0 q28.1 q28.2.1 q28.2.2 q23.2.2.1 q23.2.2.2.1 q23.2.2.2.2.1 q23.2.2.2.2.2.1 q23.2.2.2.2.2.2.1 q23.2.2.2.2.2.2.2.1 q23.2.2.2.2.2.2.2.2.1 q19.2.2.2.2.2.2 i_t_outputMany q23.2.1 q15 i_t_input q23.2.2.2.2.2.2.2.2.2) rfl ?_
    refine jk_aload_n C rd_Md_loadCords_55 (k := 1) rfl ?_
    refine jk_iconst C rd_Md_loadCords_56 ?_
    refine jk_putf C in_Md ty_Md nm_Md (ci := 11) rfl 5 (by decide) tm_1268 rfl (jk_narrow_bool (Or.inl rfl)) (by decide +kernel) 0 rfl (Nat.le_of_ble_eq_true rfl) rd_Md_loadCords_57 (ws' := wd_Md_loadCords cI a_t a_t_w a_t_wKept a_t_saved a_t_past a_t_input a_t_n a_t_order a_t_numbers a_t_output 0 0 0 q28.1 q28.2.1 q28.2.2 q23.2.2.1 q23.2.2.2.1 q23.2.2.2.2.1 q23.2.2.2.2.2.1 q23.2.2.2.2.2.2.1 q23.2.2.2.2.2.2.2.1 q23.2.2.2.2.2.2.2.2.1 q19.2.2.2.2.2.2 i_t_outputMany q23.2.1 q15 i_t_input q23.2.2.2.2.2.2.2.2.2) rfl ?_
    refine jk_aload_n C rd_Md_loadCords_60 (k := 1) rfl ?_
    refine jk_get C in_Md (ci := 11) rfl 0 (by decide) tm_1263 0 rfl rfl rd_Md_loadCords_61 ?_
    refine jk_iconst C rd_Md_loadCords_64 ?_
    refine jk_iald C 1 0 rfl rfl (Nat.le_of_ble_eq_true rfl) rd_Md_loadCords_65 hf (fun hf => ?_)
    cases hf
    exact jk_iret C rfl rd_Md_loadCords_66 rfl
  · refine jk_aload_n C rd_Md_loadCords_35 (k := 1) rfl ?_
    refine jk_get C in_Md (ci := 11) rfl 1 (by decide) tm_1264 0 rfl rfl rd_Md_loadCords_36 ?_
    refine jk_iconst C rd_Md_loadCords_39 ?_
    refine jk_aload_n C rd_Md_loadCords_40 (k := 1) rfl ?_
    refine jk_get C in_Md (ci := 11) rfl 0 (by decide) tm_1263 0 rfl rfl rd_Md_loadCords_41 ?_
    refine jk_iconst C rd_Md_loadCords_44 ?_
    obtain ⟨q45, hq45, hf⟩ := jk_bind_h hf
    refine jk_callSv C hZ.1 hz (ct_Md_copies l D Z sq hZ cI cR (n_a := 259) (n_b := 259) (Nat.le_of_ble_eq_true rfl) (Nat.le_of_ble_eq_true rfl) a_t_wKept a_t_w q15 q23.2.1 0 0 q45 hq45) tm_1359 tm_1360 tm_15 tm_1361 na_Md_copies ⟨Nat.le_of_ble_eq_true rfl, Nat.le_of_ble_eq_true rfl⟩ rfl [2, 1] rfl rfl rfl (ws' := wd_Md_loadCords cI a_t a_t_w a_t_wKept a_t_saved a_t_past a_t_input a_t_n a_t_order a_t_numbers a_t_output i_t_pastMany i_t_isSaved 0 q28.1 q28.2.1 q28.2.2 q23.2.2.1 q23.2.2.2.1 q23.2.2.2.2.1 q23.2.2.2.2.2.1 q23.2.2.2.2.2.2.1 q23.2.2.2.2.2.2.2.1 q23.2.2.2.2.2.2.2.2.1 q19.2.2.2.2.2.2 i_t_outputMany q45 q15 i_t_input q23.2.2.2.2.2.2.2.2.2) rfl (st := []) rfl (Nat.le_of_ble_eq_true rfl) rd_Md_loadCords_45 ?_ ⟨Nat.le_of_ble_eq_true rfl, Nat.le_of_ble_eq_true rfl⟩
    refine jk_iconst C rd_Md_loadCords_48 ?_
    cases hf
    exact jk_iret C rfl rd_Md_loadCords_49 rfl
def wd_Md_scriptHere (cI : ClassId) (a_t a_t_w a_t_wKept a_t_saved a_t_past a_t_input a_t_n a_t_order a_t_numbers a_t_output : Nat) (i_t_pastMany : Int) (i_t_isSaved : Int) (i_t_thrown : Int) (i_t_inputMany : Int) (i_t_lastError : Int) (i_t_lastOffset : Int) (i_t_error : Int) (i_t_offset : Int) (i_t_nextByte : Int) (i_t_begin : Int) (i_t_value : Int) (i_t_token : Int) (i_t_got : Int) (i_t_orders : Int) (i_t_outputMany : Int) (i_t_input : (Int → Int)) : va_W := [(a_t, .inr (11, [.ref a_t_w, .ref a_t_wKept, .ref a_t_saved, .ref a_t_past, jk_V i_t_pastMany, jk_V i_t_isSaved, jk_V i_t_thrown, .ref a_t_input, jk_V i_t_inputMany, jk_V i_t_lastError, jk_V i_t_lastOffset, jk_V i_t_error, jk_V i_t_offset, jk_V i_t_nextByte, jk_V i_t_begin, jk_V i_t_value, jk_V i_t_token, jk_V i_t_got, .ref a_t_n, .ref a_t_order, .ref a_t_numbers, jk_V i_t_orders, .ref a_t_output, jk_V i_t_outputMany])), (a_t_input, jk_W cI 700 i_t_input)]
set_option maxHeartbeats 4000000 in
set_option maxRecDepth 20000 in
theorem ct_Md_scriptHere (l : Launch) (D : va_G) (Z : (Nat → Prop) → State → Heap → Prop) (sq : Nat → Nat) (hZ : jk_ZK Z sq) (cI cR : ClassId) (a_t a_t_w a_t_wKept a_t_saved a_t_past a_t_input a_t_n a_t_order a_t_numbers a_t_output : Nat) (i_t_pastMany : Int) (i_t_isSaved : Int) (i_t_thrown : Int) (i_t_inputMany : Int) (i_t_lastError : Int) (i_t_lastOffset : Int) (i_t_error : Int) (i_t_offset : Int) (i_t_nextByte : Int) (i_t_begin : Int) (i_t_value : Int) (i_t_token : Int) (i_t_got : Int) (i_t_orders : Int) (i_t_outputMany : Int) (i_t_input : (Int → Int)) (q : Int) (hf : fn_Md_scriptHere i_t_input i_t_nextByte i_t_begin i_t_token = some q) : jk_MI l D jk_cl (jk_ty cI cR) Z mn_Md_scriptHere (.code mn_Md_scriptHere mb_Md_scriptHere 1 (some .int) :: jk_WA) (jk_rm 7 322) [.ref a_t] (wd_Md_scriptHere cI a_t a_t_w a_t_wKept a_t_saved a_t_past a_t_input a_t_n a_t_order a_t_numbers a_t_output i_t_pastMany i_t_isSaved i_t_thrown i_t_inputMany i_t_lastError i_t_lastOffset i_t_error i_t_offset i_t_nextByte i_t_begin i_t_value i_t_token i_t_got i_t_orders i_t_outputMany i_t_input) (wd_Md_scriptHere cI a_t a_t_w a_t_wKept a_t_saved a_t_past a_t_input a_t_n a_t_order a_t_numbers a_t_output i_t_pastMany i_t_isSaved i_t_thrown i_t_inputMany i_t_lastError i_t_lastOffset i_t_error i_t_offset i_t_nextByte i_t_begin i_t_value i_t_token i_t_got i_t_orders i_t_outputMany i_t_input) q := by
  intro sz
  refine jk_body (by decide +kernel) (fun p e s m args below meth c hsz hz hin C => ?_) (Nat.le_of_ble_eq_true rfl)
  subst hsz
  unfold fn_Md_scriptHere at hf
  refine jk_aload_n C rd_Md_scriptHere_0 (k := 0) rfl ?_
  refine jk_ldcs C hZ hz rd_Md_scriptHere_1 (k := 29) rfl ?_
  obtain ⟨q3, hq3, hf⟩ := jk_bind_h hf
  refine jk_callVi C hZ.1 hz (ct_Md_isWord l D Z sq hZ cI cR a_t a_t_w a_t_wKept a_t_saved a_t_past a_t_input a_t_n a_t_order a_t_numbers a_t_output i_t_pastMany i_t_isSaved i_t_thrown i_t_inputMany i_t_lastError i_t_lastOffset i_t_error i_t_offset i_t_nextByte i_t_begin i_t_value i_t_token i_t_got i_t_orders i_t_outputMany i_t_input ([99, 108, 117, 115, 116, 101, 114]) ((sq 29)) ((jk_zs hZ (k := 29) rfl)) q3 hq3) tm_1387 tm_1389 sl_34 tm_15 tm_1390 na_Md_isWord ⟨Nat.le_of_ble_eq_true rfl, Nat.le_of_ble_eq_true rfl⟩ rfl [0, 1] rfl rfl rfl (ws' := wd_Md_scriptHere cI a_t a_t_w a_t_wKept a_t_saved a_t_past a_t_input a_t_n a_t_order a_t_numbers a_t_output i_t_pastMany i_t_isSaved i_t_thrown i_t_inputMany i_t_lastError i_t_lastOffset i_t_error i_t_offset i_t_nextByte i_t_begin i_t_value i_t_token i_t_got i_t_orders i_t_outputMany i_t_input) rfl 0 11 rfl rfl rfl (st := []) rfl (Nat.le_of_ble_eq_true rfl) rd_Md_scriptHere_3 ?_ ⟨Nat.le_of_ble_eq_true rfl, Nat.le_of_ble_eq_true rfl⟩
  refine jk_if_eq (tgt := 11) C rd_Md_scriptHere_6 (by decide) hf (fun _ hf => ?_) (fun _ hf => ?_)
  · refine jk_aload_n C rd_Md_scriptHere_11 (k := 0) rfl ?_
    refine jk_ldcs C hZ hz rd_Md_scriptHere_12 (k := 31) rfl ?_
    obtain ⟨q14, hq14, hf⟩ := jk_bind_h hf
    refine jk_callVi C hZ.1 hz (ct_Md_isWord l D Z sq hZ cI cR a_t a_t_w a_t_wKept a_t_saved a_t_past a_t_input a_t_n a_t_order a_t_numbers a_t_output i_t_pastMany i_t_isSaved i_t_thrown i_t_inputMany i_t_lastError i_t_lastOffset i_t_error i_t_offset i_t_nextByte i_t_begin i_t_value i_t_token i_t_got i_t_orders i_t_outputMany i_t_input ([112, 101, 110, 100, 97, 110, 116]) ((sq 31)) ((jk_zs hZ (k := 31) rfl)) q14 hq14) tm_1387 tm_1389 sl_34 tm_15 tm_1390 na_Md_isWord ⟨Nat.le_of_ble_eq_true rfl, Nat.le_of_ble_eq_true rfl⟩ rfl [0, 1] rfl rfl rfl (ws' := wd_Md_scriptHere cI a_t a_t_w a_t_wKept a_t_saved a_t_past a_t_input a_t_n a_t_order a_t_numbers a_t_output i_t_pastMany i_t_isSaved i_t_thrown i_t_inputMany i_t_lastError i_t_lastOffset i_t_error i_t_offset i_t_nextByte i_t_begin i_t_value i_t_token i_t_got i_t_orders i_t_outputMany i_t_input) rfl 0 11 rfl rfl rfl (st := []) rfl (Nat.le_of_ble_eq_true rfl) rd_Md_scriptHere_14 ?_ ⟨Nat.le_of_ble_eq_true rfl, Nat.le_of_ble_eq_true rfl⟩
    refine jk_if_eq (tgt := 22) C rd_Md_scriptHere_17 (by decide) hf (fun _ hf => ?_) (fun _ hf => ?_)
    · refine jk_aload_n C rd_Md_scriptHere_22 (k := 0) rfl ?_
      refine jk_ldcs C hZ hz rd_Md_scriptHere_23 (k := 32) rfl ?_
      obtain ⟨q25, hq25, hf⟩ := jk_bind_h hf
      refine jk_callVi C hZ.1 hz (ct_Md_isWord l D Z sq hZ cI cR a_t a_t_w a_t_wKept a_t_saved a_t_past a_t_input a_t_n a_t_order a_t_numbers a_t_output i_t_pastMany i_t_isSaved i_t_thrown i_t_inputMany i_t_lastError i_t_lastOffset i_t_error i_t_offset i_t_nextByte i_t_begin i_t_value i_t_token i_t_got i_t_orders i_t_outputMany i_t_input ([115, 117, 98]) ((sq 32)) ((jk_zs hZ (k := 32) rfl)) q25 hq25) tm_1387 tm_1389 sl_34 tm_15 tm_1390 na_Md_isWord ⟨Nat.le_of_ble_eq_true rfl, Nat.le_of_ble_eq_true rfl⟩ rfl [0, 1] rfl rfl rfl (ws' := wd_Md_scriptHere cI a_t a_t_w a_t_wKept a_t_saved a_t_past a_t_input a_t_n a_t_order a_t_numbers a_t_output i_t_pastMany i_t_isSaved i_t_thrown i_t_inputMany i_t_lastError i_t_lastOffset i_t_error i_t_offset i_t_nextByte i_t_begin i_t_value i_t_token i_t_got i_t_orders i_t_outputMany i_t_input) rfl 0 11 rfl rfl rfl (st := []) rfl (Nat.le_of_ble_eq_true rfl) rd_Md_scriptHere_25 ?_ ⟨Nat.le_of_ble_eq_true rfl, Nat.le_of_ble_eq_true rfl⟩
      refine jk_if_eq (tgt := 33) C rd_Md_scriptHere_28 (by decide) hf (fun _ hf => ?_) (fun _ hf => ?_)
      · refine jk_aload_n C rd_Md_scriptHere_33 (k := 0) rfl ?_
        refine jk_ldcs_w C hZ hz rd_Md_scriptHere_34 (k := 34) rfl ?_
        obtain ⟨q37, hq37, hf⟩ := jk_bind_h hf
        refine jk_callVi C hZ.1 hz (ct_Md_isWord l D Z sq hZ cI cR a_t a_t_w a_t_wKept a_t_saved a_t_past a_t_input a_t_n a_t_order a_t_numbers a_t_output i_t_pastMany i_t_isSaved i_t_thrown i_t_inputMany i_t_lastError i_t_lastOffset i_t_error i_t_offset i_t_nextByte i_t_begin i_t_value i_t_token i_t_got i_t_orders i_t_outputMany i_t_input ([99, 117, 116]) ((sq 34)) ((jk_zs hZ (k := 34) rfl)) q37 hq37) tm_1387 tm_1389 sl_34 tm_15 tm_1390 na_Md_isWord ⟨Nat.le_of_ble_eq_true rfl, Nat.le_of_ble_eq_true rfl⟩ rfl [0, 1] rfl rfl rfl (ws' := wd_Md_scriptHere cI a_t a_t_w a_t_wKept a_t_saved a_t_past a_t_input a_t_n a_t_order a_t_numbers a_t_output i_t_pastMany i_t_isSaved i_t_thrown i_t_inputMany i_t_lastError i_t_lastOffset i_t_error i_t_offset i_t_nextByte i_t_begin i_t_value i_t_token i_t_got i_t_orders i_t_outputMany i_t_input) rfl 0 11 rfl rfl rfl (st := []) rfl (Nat.le_of_ble_eq_true rfl) rd_Md_scriptHere_37 ?_ ⟨Nat.le_of_ble_eq_true rfl, Nat.le_of_ble_eq_true rfl⟩
        refine jk_if_eq (tgt := 45) C rd_Md_scriptHere_40 (by decide) hf (fun _ hf => ?_) (fun _ hf => ?_)
        · refine jk_aload_n C rd_Md_scriptHere_45 (k := 0) rfl ?_
          refine jk_ldcs_w C hZ hz rd_Md_scriptHere_46 (k := 35) rfl ?_
          obtain ⟨q49, hq49, hf⟩ := jk_bind_h hf
          refine jk_callVi C hZ.1 hz (ct_Md_isWord l D Z sq hZ cI cR a_t a_t_w a_t_wKept a_t_saved a_t_past a_t_input a_t_n a_t_order a_t_numbers a_t_output i_t_pastMany i_t_isSaved i_t_thrown i_t_inputMany i_t_lastError i_t_lastOffset i_t_error i_t_offset i_t_nextByte i_t_begin i_t_value i_t_token i_t_got i_t_orders i_t_outputMany i_t_input ([116, 105, 101]) ((sq 35)) ((jk_zs hZ (k := 35) rfl)) q49 hq49) tm_1387 tm_1389 sl_34 tm_15 tm_1390 na_Md_isWord ⟨Nat.le_of_ble_eq_true rfl, Nat.le_of_ble_eq_true rfl⟩ rfl [0, 1] rfl rfl rfl (ws' := wd_Md_scriptHere cI a_t a_t_w a_t_wKept a_t_saved a_t_past a_t_input a_t_n a_t_order a_t_numbers a_t_output i_t_pastMany i_t_isSaved i_t_thrown i_t_inputMany i_t_lastError i_t_lastOffset i_t_error i_t_offset i_t_nextByte i_t_begin i_t_value i_t_token i_t_got i_t_orders i_t_outputMany i_t_input) rfl 0 11 rfl rfl rfl (st := []) rfl (Nat.le_of_ble_eq_true rfl) rd_Md_scriptHere_49 ?_ ⟨Nat.le_of_ble_eq_true rfl, Nat.le_of_ble_eq_true rfl⟩
          refine jk_if_eq (tgt := 57) C rd_Md_scriptHere_52 (by decide) hf (fun _ hf => ?_) (fun _ hf => ?_)
          · refine jk_aload_n C rd_Md_scriptHere_57 (k := 0) rfl ?_
            refine jk_ldcs_w C hZ hz rd_Md_scriptHere_58 (k := 36) rfl ?_
            obtain ⟨q61, hq61, hf⟩ := jk_bind_h hf
            refine jk_callVi C hZ.1 hz (ct_Md_isWord l D Z sq hZ cI cR a_t a_t_w a_t_wKept a_t_saved a_t_past a_t_input a_t_n a_t_order a_t_numbers a_t_output i_t_pastMany i_t_isSaved i_t_thrown i_t_inputMany i_t_lastError i_t_lastOffset i_t_error i_t_offset i_t_nextByte i_t_begin i_t_value i_t_token i_t_got i_t_orders i_t_outputMany i_t_input ([107, 110, 111, 116]) ((sq 36)) ((jk_zs hZ (k := 36) rfl)) q61 hq61) tm_1387 tm_1389 sl_34 tm_15 tm_1390 na_Md_isWord ⟨Nat.le_of_ble_eq_true rfl, Nat.le_of_ble_eq_true rfl⟩ rfl [0, 1] rfl rfl rfl (ws' := wd_Md_scriptHere cI a_t a_t_w a_t_wKept a_t_saved a_t_past a_t_input a_t_n a_t_order a_t_numbers a_t_output i_t_pastMany i_t_isSaved i_t_thrown i_t_inputMany i_t_lastError i_t_lastOffset i_t_error i_t_offset i_t_nextByte i_t_begin i_t_value i_t_token i_t_got i_t_orders i_t_outputMany i_t_input) rfl 0 11 rfl rfl rfl (st := []) rfl (Nat.le_of_ble_eq_true rfl) rd_Md_scriptHere_61 ?_ ⟨Nat.le_of_ble_eq_true rfl, Nat.le_of_ble_eq_true rfl⟩
            refine jk_if_eq (tgt := 70) C rd_Md_scriptHere_64 (by decide) hf (fun _ hf => ?_) (fun _ hf => ?_)
            · refine jk_aload_n C rd_Md_scriptHere_70 (k := 0) rfl ?_
              refine jk_ldcs_w C hZ hz rd_Md_scriptHere_71 (k := 37) rfl ?_
              obtain ⟨q74, hq74, hf⟩ := jk_bind_h hf
              refine jk_callVi C hZ.1 hz (ct_Md_isWord l D Z sq hZ cI cR a_t a_t_w a_t_wKept a_t_saved a_t_past a_t_input a_t_n a_t_order a_t_numbers a_t_output i_t_pastMany i_t_isSaved i_t_thrown i_t_inputMany i_t_lastError i_t_lastOffset i_t_error i_t_offset i_t_nextByte i_t_begin i_t_value i_t_token i_t_got i_t_orders i_t_outputMany i_t_input ([110, 105, 98, 98, 108, 101]) ((sq 37)) ((jk_zs hZ (k := 37) rfl)) q74 hq74) tm_1387 tm_1389 sl_34 tm_15 tm_1390 na_Md_isWord ⟨Nat.le_of_ble_eq_true rfl, Nat.le_of_ble_eq_true rfl⟩ rfl [0, 1] rfl rfl rfl (ws' := wd_Md_scriptHere cI a_t a_t_w a_t_wKept a_t_saved a_t_past a_t_input a_t_n a_t_order a_t_numbers a_t_output i_t_pastMany i_t_isSaved i_t_thrown i_t_inputMany i_t_lastError i_t_lastOffset i_t_error i_t_offset i_t_nextByte i_t_begin i_t_value i_t_token i_t_got i_t_orders i_t_outputMany i_t_input) rfl 0 11 rfl rfl rfl (st := []) rfl (Nat.le_of_ble_eq_true rfl) rd_Md_scriptHere_74 ?_ ⟨Nat.le_of_ble_eq_true rfl, Nat.le_of_ble_eq_true rfl⟩
              refine jk_if_eq (tgt := 83) C rd_Md_scriptHere_77 (by decide) hf (fun _ hf => ?_) (fun _ hf => ?_)
              · refine jk_aload_n C rd_Md_scriptHere_83 (k := 0) rfl ?_
                refine jk_ldcs_w C hZ hz rd_Md_scriptHere_84 (k := 38) rfl ?_
                obtain ⟨q87, hq87, hf⟩ := jk_bind_h hf
                refine jk_callVi C hZ.1 hz (ct_Md_isWord l D Z sq hZ cI cR a_t a_t_w a_t_wKept a_t_saved a_t_past a_t_input a_t_n a_t_order a_t_numbers a_t_output i_t_pastMany i_t_isSaved i_t_thrown i_t_inputMany i_t_lastError i_t_lastOffset i_t_error i_t_offset i_t_nextByte i_t_begin i_t_value i_t_token i_t_got i_t_orders i_t_outputMany i_t_input ([100, 121, 101]) ((sq 38)) ((jk_zs hZ (k := 38) rfl)) q87 hq87) tm_1387 tm_1389 sl_34 tm_15 tm_1390 na_Md_isWord ⟨Nat.le_of_ble_eq_true rfl, Nat.le_of_ble_eq_true rfl⟩ rfl [0, 1] rfl rfl rfl (ws' := wd_Md_scriptHere cI a_t a_t_w a_t_wKept a_t_saved a_t_past a_t_input a_t_n a_t_order a_t_numbers a_t_output i_t_pastMany i_t_isSaved i_t_thrown i_t_inputMany i_t_lastError i_t_lastOffset i_t_error i_t_offset i_t_nextByte i_t_begin i_t_value i_t_token i_t_got i_t_orders i_t_outputMany i_t_input) rfl 0 11 rfl rfl rfl (st := []) rfl (Nat.le_of_ble_eq_true rfl) rd_Md_scriptHere_87 ?_ ⟨Nat.le_of_ble_eq_true rfl, Nat.le_of_ble_eq_true rfl⟩
                refine jk_if_eq (tgt := 96) C rd_Md_scriptHere_90 (by decide) hf (fun _ hf => ?_) (fun _ hf => ?_)
                · refine jk_aload_n C rd_Md_scriptHere_96 (k := 0) rfl ?_
                  refine jk_ldcs_w C hZ hz rd_Md_scriptHere_97 (k := 39) rfl ?_
                  obtain ⟨q100, hq100, hf⟩ := jk_bind_h hf
                  refine jk_callVi C hZ.1 hz (ct_Md_isWord l D Z sq hZ cI cR a_t a_t_w a_t_wKept a_t_saved a_t_past a_t_input a_t_n a_t_order a_t_numbers a_t_output i_t_pastMany i_t_isSaved i_t_thrown i_t_inputMany i_t_lastError i_t_lastOffset i_t_error i_t_offset i_t_nextByte i_t_begin i_t_value i_t_token i_t_got i_t_orders i_t_outputMany i_t_input ([114, 101, 112, 97, 105, 114]) ((sq 39)) ((jk_zs hZ (k := 39) rfl)) q100 hq100) tm_1387 tm_1389 sl_34 tm_15 tm_1390 na_Md_isWord ⟨Nat.le_of_ble_eq_true rfl, Nat.le_of_ble_eq_true rfl⟩ rfl [0, 1] rfl rfl rfl (ws' := wd_Md_scriptHere cI a_t a_t_w a_t_wKept a_t_saved a_t_past a_t_input a_t_n a_t_order a_t_numbers a_t_output i_t_pastMany i_t_isSaved i_t_thrown i_t_inputMany i_t_lastError i_t_lastOffset i_t_error i_t_offset i_t_nextByte i_t_begin i_t_value i_t_token i_t_got i_t_orders i_t_outputMany i_t_input) rfl 0 11 rfl rfl rfl (st := []) rfl (Nat.le_of_ble_eq_true rfl) rd_Md_scriptHere_100 ?_ ⟨Nat.le_of_ble_eq_true rfl, Nat.le_of_ble_eq_true rfl⟩
                  refine jk_if_eq (tgt := 111) C rd_Md_scriptHere_103 (by decide) hf (fun _ hf => ?_) (fun _ hf => ?_)
                  · refine jk_iconst C rd_Md_scriptHere_111 ?_
                    cases hf
                    exact jk_iret C rfl rd_Md_scriptHere_112 rfl
                  · refine jk_bipush C rd_Md_scriptHere_106 (by decide +kernel) ?_
                    refine jk_goto (tgt := 112) C rd_Md_scriptHere_108 (by decide) ?_
                    cases hf
                    exact jk_iret C rfl rd_Md_scriptHere_112 rfl
                · refine jk_bipush C rd_Md_scriptHere_93 (by decide +kernel) ?_
                  cases hf
                  exact jk_iret C rfl rd_Md_scriptHere_95 rfl
              · refine jk_bipush C rd_Md_scriptHere_80 (by decide +kernel) ?_
                cases hf
                exact jk_iret C rfl rd_Md_scriptHere_82 rfl
            · refine jk_bipush C rd_Md_scriptHere_67 (by decide +kernel) ?_
              cases hf
              exact jk_iret C rfl rd_Md_scriptHere_69 rfl
          · refine jk_iconst C rd_Md_scriptHere_55 ?_
            cases hf
            exact jk_iret C rfl rd_Md_scriptHere_56 rfl
        · refine jk_iconst C rd_Md_scriptHere_43 ?_
          cases hf
          exact jk_iret C rfl rd_Md_scriptHere_44 rfl
      · refine jk_iconst C rd_Md_scriptHere_31 ?_
        cases hf
        exact jk_iret C rfl rd_Md_scriptHere_32 rfl
    · refine jk_iconst C rd_Md_scriptHere_20 ?_
      cases hf
      exact jk_iret C rfl rd_Md_scriptHere_21 rfl
  · refine jk_iconst C rd_Md_scriptHere_9 ?_
    cases hf
    exact jk_iret C rfl rd_Md_scriptHere_10 rfl
def wd_Md_takesCluster (cI : ClassId) (a_t a_t_w a_t_wKept a_t_saved a_t_past a_t_input a_t_n a_t_order a_t_numbers a_t_output : Nat) (i_t_pastMany : Int) (i_t_isSaved : Int) (i_t_thrown : Int) (i_t_inputMany : Int) (i_t_lastError : Int) (i_t_lastOffset : Int) (i_t_error : Int) (i_t_offset : Int) (i_t_nextByte : Int) (i_t_begin : Int) (i_t_value : Int) (i_t_token : Int) (i_t_got : Int) (i_t_orders : Int) (i_t_outputMany : Int) (i_t_input : (Int → Int)) (i_t_n : (Int → Int)) : va_W := [(a_t, .inr (11, [.ref a_t_w, .ref a_t_wKept, .ref a_t_saved, .ref a_t_past, jk_V i_t_pastMany, jk_V i_t_isSaved, jk_V i_t_thrown, .ref a_t_input, jk_V i_t_inputMany, jk_V i_t_lastError, jk_V i_t_lastOffset, jk_V i_t_error, jk_V i_t_offset, jk_V i_t_nextByte, jk_V i_t_begin, jk_V i_t_value, jk_V i_t_token, jk_V i_t_got, .ref a_t_n, .ref a_t_order, .ref a_t_numbers, jk_V i_t_orders, .ref a_t_output, jk_V i_t_outputMany])), (a_t_input, jk_W cI 700 i_t_input), (a_t_n, jk_W cI 3 i_t_n)]
set_option maxHeartbeats 4000000 in
set_option maxRecDepth 20000 in
theorem ct_Md_takesCluster (l : Launch) (D : va_G) (Z : (Nat → Prop) → State → Heap → Prop) (sq : Nat → Nat) (hZ : jk_ZK Z sq) (cI cR : ClassId) (a_t a_t_w a_t_wKept a_t_saved a_t_past a_t_input a_t_n a_t_order a_t_numbers a_t_output : Nat) (i_t_pastMany : Int) (i_t_isSaved : Int) (i_t_thrown : Int) (i_t_inputMany : Int) (i_t_lastError : Int) (i_t_lastOffset : Int) (i_t_error : Int) (i_t_offset : Int) (i_t_nextByte : Int) (i_t_begin : Int) (i_t_value : Int) (i_t_token : Int) (i_t_got : Int) (i_t_orders : Int) (i_t_outputMany : Int) (i_t_input : (Int → Int)) (i_t_n : (Int → Int)) (q : Int × Int × Int × Int × Int × Int × Int × Int × (Int → Int)) (hf : fn_Md_takesCluster i_t_input i_t_inputMany i_t_error i_t_offset i_t_nextByte i_t_begin i_t_value i_t_token i_t_got i_t_n = some q) : jk_MI l D jk_cl (jk_ty cI cR) Z mn_Md_takesCluster (.code mn_Md_takesCluster mb_Md_takesCluster 1 (some .boolean) :: jk_WA) (jk_rm 5 109) [.ref a_t] (wd_Md_takesCluster cI a_t a_t_w a_t_wKept a_t_saved a_t_past a_t_input a_t_n a_t_order a_t_numbers a_t_output i_t_pastMany i_t_isSaved i_t_thrown i_t_inputMany i_t_lastError i_t_lastOffset i_t_error i_t_offset i_t_nextByte i_t_begin i_t_value i_t_token i_t_got i_t_orders i_t_outputMany i_t_input i_t_n) (wd_Md_takesCluster cI a_t a_t_w a_t_wKept a_t_saved a_t_past a_t_input a_t_n a_t_order a_t_numbers a_t_output i_t_pastMany i_t_isSaved i_t_thrown i_t_inputMany i_t_lastError i_t_lastOffset q.2.1 q.2.2.1 q.2.2.2.1 q.2.2.2.2.1 q.2.2.2.2.2.1 q.2.2.2.2.2.2.1 q.2.2.2.2.2.2.2.1 i_t_orders i_t_outputMany i_t_input q.2.2.2.2.2.2.2.2) q.1 := by
  intro sz
  refine jk_body (by decide +kernel) (fun p e s m args below meth c hsz hz hin C => ?_) (Nat.le_of_ble_eq_true rfl)
  subst hsz
  unfold fn_Md_takesCluster at hf
  refine jk_aload_n C rd_Md_takesCluster_0 (k := 0) rfl ?_
  refine jk_iconst C rd_Md_takesCluster_1 ?_
  refine jk_iconst C rd_Md_takesCluster_2 ?_
  refine jk_iconst C rd_Md_takesCluster_3 ?_
  obtain ⟨q4, hq4, hf⟩ := jk_bind_h hf
  refine jk_callVi C hZ.1 hz (ct_Md_takes l D Z sq hZ cI cR a_t a_t_w a_t_wKept a_t_saved a_t_past a_t_input a_t_n a_t_order a_t_numbers a_t_output i_t_pastMany i_t_isSaved i_t_thrown i_t_inputMany i_t_lastError i_t_lastOffset i_t_error i_t_offset i_t_nextByte i_t_begin i_t_value i_t_token i_t_got i_t_orders i_t_outputMany i_t_input i_t_n 0 0 5 q4 hq4) tm_1469 tm_1471 sl_53 tm_15 tm_1472 na_Md_takes ⟨Nat.le_of_ble_eq_true rfl, Nat.le_of_ble_eq_true rfl⟩ rfl [0, 1, 2] rfl rfl rfl (ws' := wd_Md_takesCluster cI a_t a_t_w a_t_wKept a_t_saved a_t_past a_t_input a_t_n a_t_order a_t_numbers a_t_output i_t_pastMany i_t_isSaved i_t_thrown i_t_inputMany i_t_lastError i_t_lastOffset q4.2.1 q4.2.2.1 q4.2.2.2.1 q4.2.2.2.2.1 q4.2.2.2.2.2.1 q4.2.2.2.2.2.2.1 q4.2.2.2.2.2.2.2.1 i_t_orders i_t_outputMany i_t_input q4.2.2.2.2.2.2.2.2) rfl 0 11 rfl rfl rfl (st := []) rfl (Nat.le_of_ble_eq_true rfl) rd_Md_takesCluster_4 ?_ ⟨Nat.le_of_ble_eq_true rfl, Nat.le_of_ble_eq_true rfl⟩
  obtain ⟨hbo, hf⟩ := jk_bo_h hf
  cases hf
  exact jk_zret C hbo rfl rd_Md_takesCluster_7 rfl
def wd_Md_takesCordNumber (cI : ClassId) (a_t a_t_w a_t_wKept a_t_saved a_t_past a_t_input a_t_n a_t_order a_t_numbers a_t_output : Nat) (i_t_pastMany : Int) (i_t_isSaved : Int) (i_t_thrown : Int) (i_t_inputMany : Int) (i_t_lastError : Int) (i_t_lastOffset : Int) (i_t_error : Int) (i_t_offset : Int) (i_t_nextByte : Int) (i_t_begin : Int) (i_t_value : Int) (i_t_token : Int) (i_t_got : Int) (i_t_orders : Int) (i_t_outputMany : Int) (i_t_input : (Int → Int)) (i_t_n : (Int → Int)) : va_W := [(a_t, .inr (11, [.ref a_t_w, .ref a_t_wKept, .ref a_t_saved, .ref a_t_past, jk_V i_t_pastMany, jk_V i_t_isSaved, jk_V i_t_thrown, .ref a_t_input, jk_V i_t_inputMany, jk_V i_t_lastError, jk_V i_t_lastOffset, jk_V i_t_error, jk_V i_t_offset, jk_V i_t_nextByte, jk_V i_t_begin, jk_V i_t_value, jk_V i_t_token, jk_V i_t_got, .ref a_t_n, .ref a_t_order, .ref a_t_numbers, jk_V i_t_orders, .ref a_t_output, jk_V i_t_outputMany])), (a_t_input, jk_W cI 700 i_t_input), (a_t_n, jk_W cI 3 i_t_n)]
set_option maxHeartbeats 4000000 in
set_option maxRecDepth 20000 in
theorem ct_Md_takesCordNumber (l : Launch) (D : va_G) (Z : (Nat → Prop) → State → Heap → Prop) (sq : Nat → Nat) (hZ : jk_ZK Z sq) (cI cR : ClassId) (a_t a_t_w a_t_wKept a_t_saved a_t_past a_t_input a_t_n a_t_order a_t_numbers a_t_output : Nat) (i_t_pastMany : Int) (i_t_isSaved : Int) (i_t_thrown : Int) (i_t_inputMany : Int) (i_t_lastError : Int) (i_t_lastOffset : Int) (i_t_error : Int) (i_t_offset : Int) (i_t_nextByte : Int) (i_t_begin : Int) (i_t_value : Int) (i_t_token : Int) (i_t_got : Int) (i_t_orders : Int) (i_t_outputMany : Int) (i_t_input : (Int → Int)) (i_t_n : (Int → Int)) (q : Int × Int × Int × Int × Int × Int × Int × Int × (Int → Int)) (hf : fn_Md_takesCordNumber i_t_input i_t_inputMany i_t_error i_t_offset i_t_nextByte i_t_begin i_t_value i_t_token i_t_got i_t_n = some q) : jk_MI l D jk_cl (jk_ty cI cR) Z mn_Md_takesCordNumber (.code mn_Md_takesCordNumber mb_Md_takesCordNumber 1 (some .boolean) :: jk_WA) (jk_rm 5 109) [.ref a_t] (wd_Md_takesCordNumber cI a_t a_t_w a_t_wKept a_t_saved a_t_past a_t_input a_t_n a_t_order a_t_numbers a_t_output i_t_pastMany i_t_isSaved i_t_thrown i_t_inputMany i_t_lastError i_t_lastOffset i_t_error i_t_offset i_t_nextByte i_t_begin i_t_value i_t_token i_t_got i_t_orders i_t_outputMany i_t_input i_t_n) (wd_Md_takesCordNumber cI a_t a_t_w a_t_wKept a_t_saved a_t_past a_t_input a_t_n a_t_order a_t_numbers a_t_output i_t_pastMany i_t_isSaved i_t_thrown i_t_inputMany i_t_lastError i_t_lastOffset q.2.1 q.2.2.1 q.2.2.2.1 q.2.2.2.2.1 q.2.2.2.2.2.1 q.2.2.2.2.2.2.1 q.2.2.2.2.2.2.2.1 i_t_orders i_t_outputMany i_t_input q.2.2.2.2.2.2.2.2) q.1 := by
  intro sz
  refine jk_body (by decide +kernel) (fun p e s m args below meth c hsz hz hin C => ?_) (Nat.le_of_ble_eq_true rfl)
  subst hsz
  unfold fn_Md_takesCordNumber at hf
  refine jk_aload_n C rd_Md_takesCordNumber_0 (k := 0) rfl ?_
  refine jk_iconst C rd_Md_takesCordNumber_1 ?_
  refine jk_iconst C rd_Md_takesCordNumber_2 ?_
  refine jk_bipush C rd_Md_takesCordNumber_3 (by decide +kernel) ?_
  obtain ⟨q5, hq5, hf⟩ := jk_bind_h hf
  refine jk_callVi C hZ.1 hz (ct_Md_takes l D Z sq hZ cI cR a_t a_t_w a_t_wKept a_t_saved a_t_past a_t_input a_t_n a_t_order a_t_numbers a_t_output i_t_pastMany i_t_isSaved i_t_thrown i_t_inputMany i_t_lastError i_t_lastOffset i_t_error i_t_offset i_t_nextByte i_t_begin i_t_value i_t_token i_t_got i_t_orders i_t_outputMany i_t_input i_t_n 0 0 39 q5 hq5) tm_1469 tm_1471 sl_53 tm_15 tm_1472 na_Md_takes ⟨Nat.le_of_ble_eq_true rfl, Nat.le_of_ble_eq_true rfl⟩ rfl [0, 1, 2] rfl rfl rfl (ws' := wd_Md_takesCordNumber cI a_t a_t_w a_t_wKept a_t_saved a_t_past a_t_input a_t_n a_t_order a_t_numbers a_t_output i_t_pastMany i_t_isSaved i_t_thrown i_t_inputMany i_t_lastError i_t_lastOffset q5.2.1 q5.2.2.1 q5.2.2.2.1 q5.2.2.2.2.1 q5.2.2.2.2.2.1 q5.2.2.2.2.2.2.1 q5.2.2.2.2.2.2.2.1 i_t_orders i_t_outputMany i_t_input q5.2.2.2.2.2.2.2.2) rfl 0 11 rfl rfl rfl (st := []) rfl (Nat.le_of_ble_eq_true rfl) rd_Md_takesCordNumber_5 ?_ ⟨Nat.le_of_ble_eq_true rfl, Nat.le_of_ble_eq_true rfl⟩
  obtain ⟨hbo, hf⟩ := jk_bo_h hf
  cases hf
  exact jk_zret C hbo rfl rd_Md_takesCordNumber_8 rfl
def wd_Md_takesRest (cI : ClassId) (a_t a_t_w a_t_wKept a_t_saved a_t_past a_t_input a_t_n a_t_order a_t_numbers a_t_output : Nat) (i_t_pastMany : Int) (i_t_isSaved : Int) (i_t_thrown : Int) (i_t_inputMany : Int) (i_t_lastError : Int) (i_t_lastOffset : Int) (i_t_error : Int) (i_t_offset : Int) (i_t_nextByte : Int) (i_t_begin : Int) (i_t_value : Int) (i_t_token : Int) (i_t_got : Int) (i_t_orders : Int) (i_t_outputMany : Int) (i_t_w : (Int → Int)) (i_t_input : (Int → Int)) (i_t_n : (Int → Int)) : va_W := [(a_t, .inr (11, [.ref a_t_w, .ref a_t_wKept, .ref a_t_saved, .ref a_t_past, jk_V i_t_pastMany, jk_V i_t_isSaved, jk_V i_t_thrown, .ref a_t_input, jk_V i_t_inputMany, jk_V i_t_lastError, jk_V i_t_lastOffset, jk_V i_t_error, jk_V i_t_offset, jk_V i_t_nextByte, jk_V i_t_begin, jk_V i_t_value, jk_V i_t_token, jk_V i_t_got, .ref a_t_n, .ref a_t_order, .ref a_t_numbers, jk_V i_t_orders, .ref a_t_output, jk_V i_t_outputMany])), (a_t_w, jk_W cI 259 i_t_w), (a_t_input, jk_W cI 700 i_t_input), (a_t_n, jk_W cI 3 i_t_n)]
set_option maxHeartbeats 4000000 in
set_option maxRecDepth 20000 in
theorem ct_Md_takesRest (l : Launch) (D : va_G) (Z : (Nat → Prop) → State → Heap → Prop) (sq : Nat → Nat) (hZ : jk_ZK Z sq) (cI cR : ClassId) (a_t a_t_w a_t_wKept a_t_saved a_t_past a_t_input a_t_n a_t_order a_t_numbers a_t_output : Nat) (i_t_pastMany : Int) (i_t_isSaved : Int) (i_t_thrown : Int) (i_t_inputMany : Int) (i_t_lastError : Int) (i_t_lastOffset : Int) (i_t_error : Int) (i_t_offset : Int) (i_t_nextByte : Int) (i_t_begin : Int) (i_t_value : Int) (i_t_token : Int) (i_t_got : Int) (i_t_orders : Int) (i_t_outputMany : Int) (i_t_w : (Int → Int)) (i_t_input : (Int → Int)) (i_t_n : (Int → Int)) (x1 : Int) (q : Int × Int × Int × Int × Int × Int × Int × Int × (Int → Int)) (hf : fn_Md_takesRest i_t_w i_t_input i_t_inputMany i_t_error i_t_offset i_t_nextByte i_t_begin i_t_value i_t_token i_t_got i_t_n x1 = some q) : jk_MI l D jk_cl (jk_ty cI cR) Z mn_Md_takesRest (.code mn_Md_takesRest mb_Md_takesRest 2 (some .boolean) :: jk_WA) (jk_rm 6 129) [.ref a_t, jk_V x1] (wd_Md_takesRest cI a_t a_t_w a_t_wKept a_t_saved a_t_past a_t_input a_t_n a_t_order a_t_numbers a_t_output i_t_pastMany i_t_isSaved i_t_thrown i_t_inputMany i_t_lastError i_t_lastOffset i_t_error i_t_offset i_t_nextByte i_t_begin i_t_value i_t_token i_t_got i_t_orders i_t_outputMany i_t_w i_t_input i_t_n) (wd_Md_takesRest cI a_t a_t_w a_t_wKept a_t_saved a_t_past a_t_input a_t_n a_t_order a_t_numbers a_t_output i_t_pastMany i_t_isSaved i_t_thrown i_t_inputMany i_t_lastError i_t_lastOffset q.2.1 q.2.2.1 q.2.2.2.1 q.2.2.2.2.1 q.2.2.2.2.2.1 q.2.2.2.2.2.2.1 q.2.2.2.2.2.2.2.1 i_t_orders i_t_outputMany i_t_w i_t_input q.2.2.2.2.2.2.2.2) q.1 := by
  intro sz
  refine jk_body (by decide +kernel) (fun p e s m args below meth c hsz hz hin C => ?_) (Nat.le_of_ble_eq_true rfl)
  subst hsz
  unfold fn_Md_takesRest at hf
  refine jk_aload_n C rd_Md_takesRest_0 (k := 0) rfl ?_
  obtain ⟨q1, hq1, hf⟩ := jk_bind_h hf
  refine jk_callVv C hZ.1 hz (ct_Md_advanceToken l D Z sq hZ cI cR a_t a_t_w a_t_wKept a_t_saved a_t_past a_t_input a_t_n a_t_order a_t_numbers a_t_output i_t_pastMany i_t_isSaved i_t_thrown i_t_inputMany i_t_lastError i_t_lastOffset i_t_error i_t_offset i_t_nextByte i_t_begin i_t_value i_t_token i_t_got i_t_orders i_t_outputMany i_t_input q1 hq1) tm_1366 tm_1368 sl_29 tm_15 tm_1369 na_Md_advanceToken ⟨Nat.le_of_ble_eq_true rfl, Nat.le_of_ble_eq_true rfl⟩ rfl [0, 2] rfl rfl rfl (ws' := wd_Md_takesRest cI a_t a_t_w a_t_wKept a_t_saved a_t_past a_t_input a_t_n a_t_order a_t_numbers a_t_output i_t_pastMany i_t_isSaved i_t_thrown i_t_inputMany i_t_lastError i_t_lastOffset i_t_error i_t_offset q1.1 q1.2.1 q1.2.2.1 q1.2.2.2 i_t_got i_t_orders i_t_outputMany i_t_w i_t_input i_t_n) rfl 0 11 rfl rfl rfl (st := []) rfl (Nat.le_of_ble_eq_true rfl) rd_Md_takesRest_1 ?_ ⟨Nat.le_of_ble_eq_true rfl, Nat.le_of_ble_eq_true rfl⟩
  refine jk_iload_n C rd_Md_takesRest_4 (k := 1) rfl ?_
  refine jk_eqs_c hf (fun hx hf => ?_) (fun hx1 hf => ?_)
  · refine jk_tabIn (off := 47) (tgt := 52) C rd_Md_takesRest_5 (k := 1) hx (by decide +kernel) (by decide) ?_
    refine jk_iconst C rd_Md_takesRest_52 ?_
    cases hf
    exact jk_zret C (Or.inr rfl) rfl rd_Md_takesRest_53 rfl
  refine jk_eqs_c hf (fun hx hf => ?_) (fun hx2 hf => ?_)
  · refine jk_tabIn (off := 49) (tgt := 54) C rd_Md_takesRest_5 (k := 2) hx (by decide +kernel) (by decide) ?_
    refine jk_aload_n C rd_Md_takesRest_54 (k := 0) rfl ?_
    obtain ⟨q55, hq55, hf⟩ := jk_bind_h hf
    refine jk_callVi C hZ.1 hz (ct_Md_takesCluster l D Z sq hZ cI cR a_t a_t_w a_t_wKept a_t_saved a_t_past a_t_input a_t_n a_t_order a_t_numbers a_t_output i_t_pastMany i_t_isSaved i_t_thrown i_t_inputMany i_t_lastError i_t_lastOffset i_t_error i_t_offset q1.1 q1.2.1 q1.2.2.1 q1.2.2.2 i_t_got i_t_orders i_t_outputMany i_t_input i_t_n q55 hq55) tm_1504 tm_1506 sl_59 tm_15 tm_1507 na_Md_takesCluster ⟨Nat.le_of_ble_eq_true rfl, Nat.le_of_ble_eq_true rfl⟩ rfl [0, 2, 3] rfl rfl rfl (ws' := wd_Md_takesRest cI a_t a_t_w a_t_wKept a_t_saved a_t_past a_t_input a_t_n a_t_order a_t_numbers a_t_output i_t_pastMany i_t_isSaved i_t_thrown i_t_inputMany i_t_lastError i_t_lastOffset q55.2.1 q55.2.2.1 q55.2.2.2.1 q55.2.2.2.2.1 q55.2.2.2.2.2.1 q55.2.2.2.2.2.2.1 q55.2.2.2.2.2.2.2.1 i_t_orders i_t_outputMany i_t_w i_t_input q55.2.2.2.2.2.2.2.2) rfl 0 11 rfl rfl rfl (st := []) rfl (Nat.le_of_ble_eq_true rfl) rd_Md_takesRest_55 ?_ ⟨Nat.le_of_ble_eq_true rfl, Nat.le_of_ble_eq_true rfl⟩
    refine jk_if_eq (tgt := 85) C rd_Md_takesRest_58 (by decide) hf (fun _ hf => ?_) (fun _ hf => ?_)
    · refine jk_iconst C rd_Md_takesRest_85 ?_
      cases hf
      exact jk_zret C (Or.inl rfl) rfl rd_Md_takesRest_86 rfl
    · refine jk_aload_n C rd_Md_takesRest_61 (k := 0) rfl ?_
      refine jk_iconst C rd_Md_takesRest_62 ?_
      obtain ⟨q63, hq63, hf⟩ := jk_bind_h hf
      refine jk_callVi C hZ.1 hz (ct_Md_takesTopic l D Z sq hZ cI cR a_t a_t_w a_t_wKept a_t_saved a_t_past a_t_input a_t_n a_t_order a_t_numbers a_t_output i_t_pastMany i_t_isSaved i_t_thrown i_t_inputMany i_t_lastError i_t_lastOffset q55.2.1 q55.2.2.1 q55.2.2.2.1 q55.2.2.2.2.1 q55.2.2.2.2.2.1 q55.2.2.2.2.2.2.1 q55.2.2.2.2.2.2.2.1 i_t_orders i_t_outputMany i_t_w i_t_input q55.2.2.2.2.2.2.2.2 1 q63 hq63) tm_1465 tm_1467 sl_52 tm_15 tm_1468 na_Md_takesTopic ⟨Nat.le_of_ble_eq_true rfl, Nat.le_of_ble_eq_true rfl⟩ rfl [0, 1, 2, 3] rfl rfl rfl (ws' := wd_Md_takesRest cI a_t a_t_w a_t_wKept a_t_saved a_t_past a_t_input a_t_n a_t_order a_t_numbers a_t_output i_t_pastMany i_t_isSaved i_t_thrown i_t_inputMany i_t_lastError i_t_lastOffset q63.2.1 q63.2.2.1 q63.2.2.2.1 q63.2.2.2.2.1 q63.2.2.2.2.2.1 q63.2.2.2.2.2.2.1 q55.2.2.2.2.2.2.2.1 i_t_orders i_t_outputMany i_t_w i_t_input q63.2.2.2.2.2.2.2) rfl 0 11 rfl rfl rfl (st := []) rfl (Nat.le_of_ble_eq_true rfl) rd_Md_takesRest_63 ?_ ⟨Nat.le_of_ble_eq_true rfl, Nat.le_of_ble_eq_true rfl⟩
      refine jk_if_eq (tgt := 85) C rd_Md_takesRest_66 (by decide) hf (fun _ hf => ?_) (fun _ hf => ?_)
      · refine jk_iconst C rd_Md_takesRest_85 ?_
        cases hf
        exact jk_zret C (Or.inl rfl) rfl rd_Md_takesRest_86 rfl
      · refine jk_aload_n C rd_Md_takesRest_69 (k := 0) rfl ?_
        refine jk_iconst C rd_Md_takesRest_70 ?_
        refine jk_iconst C rd_Md_takesRest_71 ?_
        refine jk_sipush C rd_Md_takesRest_72 (by decide +kernel) ?_
        obtain ⟨q75, hq75, hf⟩ := jk_bind_h hf
        refine jk_callVi C hZ.1 hz (ct_Md_takes l D Z sq hZ cI cR a_t a_t_w a_t_wKept a_t_saved a_t_past a_t_input a_t_n a_t_order a_t_numbers a_t_output i_t_pastMany i_t_isSaved i_t_thrown i_t_inputMany i_t_lastError i_t_lastOffset q63.2.1 q63.2.2.1 q63.2.2.2.1 q63.2.2.2.2.1 q63.2.2.2.2.2.1 q63.2.2.2.2.2.2.1 q55.2.2.2.2.2.2.2.1 i_t_orders i_t_outputMany i_t_input q63.2.2.2.2.2.2.2 2 0 9999 q75 hq75) tm_1469 tm_1471 sl_53 tm_15 tm_1472 na_Md_takes ⟨Nat.le_of_ble_eq_true rfl, Nat.le_of_ble_eq_true rfl⟩ rfl [0, 2, 3] rfl rfl rfl (ws' := wd_Md_takesRest cI a_t a_t_w a_t_wKept a_t_saved a_t_past a_t_input a_t_n a_t_order a_t_numbers a_t_output i_t_pastMany i_t_isSaved i_t_thrown i_t_inputMany i_t_lastError i_t_lastOffset q75.2.1 q75.2.2.1 q75.2.2.2.1 q75.2.2.2.2.1 q75.2.2.2.2.2.1 q75.2.2.2.2.2.2.1 q75.2.2.2.2.2.2.2.1 i_t_orders i_t_outputMany i_t_w i_t_input q75.2.2.2.2.2.2.2.2) rfl 0 11 rfl rfl rfl (st := []) rfl (Nat.le_of_ble_eq_true rfl) rd_Md_takesRest_75 ?_ ⟨Nat.le_of_ble_eq_true rfl, Nat.le_of_ble_eq_true rfl⟩
        refine jk_if_eq (tgt := 85) C rd_Md_takesRest_78 (by decide) hf (fun _ hf => ?_) (fun _ hf => ?_)
        · refine jk_iconst C rd_Md_takesRest_85 ?_
          cases hf
          exact jk_zret C (Or.inl rfl) rfl rd_Md_takesRest_86 rfl
        · refine jk_iconst C rd_Md_takesRest_81 ?_
          refine jk_goto (tgt := 86) C rd_Md_takesRest_82 (by decide) ?_
          cases hf
          exact jk_zret C (Or.inr rfl) rfl rd_Md_takesRest_86 rfl
  refine jk_eqs_c hf (fun hx hf => ?_) (fun hx3 hf => ?_)
  · refine jk_tabIn (off := 82) (tgt := 87) C rd_Md_takesRest_5 (k := 3) hx (by decide +kernel) (by decide) ?_
    refine jk_aload_n C rd_Md_takesRest_87 (k := 0) rfl ?_
    obtain ⟨q88, hq88, hf⟩ := jk_bind_h hf
    refine jk_callVi C hZ.1 hz (ct_Md_takesCordNumber l D Z sq hZ cI cR a_t a_t_w a_t_wKept a_t_saved a_t_past a_t_input a_t_n a_t_order a_t_numbers a_t_output i_t_pastMany i_t_isSaved i_t_thrown i_t_inputMany i_t_lastError i_t_lastOffset i_t_error i_t_offset q1.1 q1.2.1 q1.2.2.1 q1.2.2.2 i_t_got i_t_orders i_t_outputMany i_t_input i_t_n q88 hq88) tm_1508 tm_1510 sl_60 tm_15 tm_1511 na_Md_takesCordNumber ⟨Nat.le_of_ble_eq_true rfl, Nat.le_of_ble_eq_true rfl⟩ rfl [0, 2, 3] rfl rfl rfl (ws' := wd_Md_takesRest cI a_t a_t_w a_t_wKept a_t_saved a_t_past a_t_input a_t_n a_t_order a_t_numbers a_t_output i_t_pastMany i_t_isSaved i_t_thrown i_t_inputMany i_t_lastError i_t_lastOffset q88.2.1 q88.2.2.1 q88.2.2.2.1 q88.2.2.2.2.1 q88.2.2.2.2.2.1 q88.2.2.2.2.2.2.1 q88.2.2.2.2.2.2.2.1 i_t_orders i_t_outputMany i_t_w i_t_input q88.2.2.2.2.2.2.2.2) rfl 0 11 rfl rfl rfl (st := []) rfl (Nat.le_of_ble_eq_true rfl) rd_Md_takesRest_88 ?_ ⟨Nat.le_of_ble_eq_true rfl, Nat.le_of_ble_eq_true rfl⟩
    refine jk_if_eq (tgt := 118) C rd_Md_takesRest_91 (by decide) hf (fun _ hf => ?_) (fun _ hf => ?_)
    · refine jk_iconst C rd_Md_takesRest_118 ?_
      cases hf
      exact jk_zret C (Or.inl rfl) rfl rd_Md_takesRest_119 rfl
    · refine jk_aload_n C rd_Md_takesRest_94 (k := 0) rfl ?_
      refine jk_iconst C rd_Md_takesRest_95 ?_
      obtain ⟨q96, hq96, hf⟩ := jk_bind_h hf
      refine jk_callVi C hZ.1 hz (ct_Md_takesTopic l D Z sq hZ cI cR a_t a_t_w a_t_wKept a_t_saved a_t_past a_t_input a_t_n a_t_order a_t_numbers a_t_output i_t_pastMany i_t_isSaved i_t_thrown i_t_inputMany i_t_lastError i_t_lastOffset q88.2.1 q88.2.2.1 q88.2.2.2.1 q88.2.2.2.2.1 q88.2.2.2.2.2.1 q88.2.2.2.2.2.2.1 q88.2.2.2.2.2.2.2.1 i_t_orders i_t_outputMany i_t_w i_t_input q88.2.2.2.2.2.2.2.2 1 q96 hq96) tm_1465 tm_1467 sl_52 tm_15 tm_1468 na_Md_takesTopic ⟨Nat.le_of_ble_eq_true rfl, Nat.le_of_ble_eq_true rfl⟩ rfl [0, 1, 2, 3] rfl rfl rfl (ws' := wd_Md_takesRest cI a_t a_t_w a_t_wKept a_t_saved a_t_past a_t_input a_t_n a_t_order a_t_numbers a_t_output i_t_pastMany i_t_isSaved i_t_thrown i_t_inputMany i_t_lastError i_t_lastOffset q96.2.1 q96.2.2.1 q96.2.2.2.1 q96.2.2.2.2.1 q96.2.2.2.2.2.1 q96.2.2.2.2.2.2.1 q88.2.2.2.2.2.2.2.1 i_t_orders i_t_outputMany i_t_w i_t_input q96.2.2.2.2.2.2.2) rfl 0 11 rfl rfl rfl (st := []) rfl (Nat.le_of_ble_eq_true rfl) rd_Md_takesRest_96 ?_ ⟨Nat.le_of_ble_eq_true rfl, Nat.le_of_ble_eq_true rfl⟩
      refine jk_if_eq (tgt := 118) C rd_Md_takesRest_99 (by decide) hf (fun _ hf => ?_) (fun _ hf => ?_)
      · refine jk_iconst C rd_Md_takesRest_118 ?_
        cases hf
        exact jk_zret C (Or.inl rfl) rfl rd_Md_takesRest_119 rfl
      · refine jk_aload_n C rd_Md_takesRest_102 (k := 0) rfl ?_
        refine jk_iconst C rd_Md_takesRest_103 ?_
        refine jk_iconst C rd_Md_takesRest_104 ?_
        refine jk_sipush C rd_Md_takesRest_105 (by decide +kernel) ?_
        obtain ⟨q108, hq108, hf⟩ := jk_bind_h hf
        refine jk_callVi C hZ.1 hz (ct_Md_takes l D Z sq hZ cI cR a_t a_t_w a_t_wKept a_t_saved a_t_past a_t_input a_t_n a_t_order a_t_numbers a_t_output i_t_pastMany i_t_isSaved i_t_thrown i_t_inputMany i_t_lastError i_t_lastOffset q96.2.1 q96.2.2.1 q96.2.2.2.1 q96.2.2.2.2.1 q96.2.2.2.2.2.1 q96.2.2.2.2.2.2.1 q88.2.2.2.2.2.2.2.1 i_t_orders i_t_outputMany i_t_input q96.2.2.2.2.2.2.2 2 0 9999 q108 hq108) tm_1469 tm_1471 sl_53 tm_15 tm_1472 na_Md_takes ⟨Nat.le_of_ble_eq_true rfl, Nat.le_of_ble_eq_true rfl⟩ rfl [0, 2, 3] rfl rfl rfl (ws' := wd_Md_takesRest cI a_t a_t_w a_t_wKept a_t_saved a_t_past a_t_input a_t_n a_t_order a_t_numbers a_t_output i_t_pastMany i_t_isSaved i_t_thrown i_t_inputMany i_t_lastError i_t_lastOffset q108.2.1 q108.2.2.1 q108.2.2.2.1 q108.2.2.2.2.1 q108.2.2.2.2.2.1 q108.2.2.2.2.2.2.1 q108.2.2.2.2.2.2.2.1 i_t_orders i_t_outputMany i_t_w i_t_input q108.2.2.2.2.2.2.2.2) rfl 0 11 rfl rfl rfl (st := []) rfl (Nat.le_of_ble_eq_true rfl) rd_Md_takesRest_108 ?_ ⟨Nat.le_of_ble_eq_true rfl, Nat.le_of_ble_eq_true rfl⟩
        refine jk_if_eq (tgt := 118) C rd_Md_takesRest_111 (by decide) hf (fun _ hf => ?_) (fun _ hf => ?_)
        · refine jk_iconst C rd_Md_takesRest_118 ?_
          cases hf
          exact jk_zret C (Or.inl rfl) rfl rd_Md_takesRest_119 rfl
        · refine jk_iconst C rd_Md_takesRest_114 ?_
          refine jk_goto (tgt := 119) C rd_Md_takesRest_115 (by decide) ?_
          cases hf
          exact jk_zret C (Or.inr rfl) rfl rd_Md_takesRest_119 rfl
  refine jk_eqs_c hf (fun hx hf => ?_) (fun hx4 hf => ?_)
  · refine jk_tabIn (off := 115) (tgt := 120) C rd_Md_takesRest_5 (k := 4) hx (by decide +kernel) (by decide) ?_
    refine jk_aload_n C rd_Md_takesRest_120 (k := 0) rfl ?_
    obtain ⟨q121, hq121, hf⟩ := jk_bind_h hf
    refine jk_callVi C hZ.1 hz (ct_Md_takesCordNumber l D Z sq hZ cI cR a_t a_t_w a_t_wKept a_t_saved a_t_past a_t_input a_t_n a_t_order a_t_numbers a_t_output i_t_pastMany i_t_isSaved i_t_thrown i_t_inputMany i_t_lastError i_t_lastOffset i_t_error i_t_offset q1.1 q1.2.1 q1.2.2.1 q1.2.2.2 i_t_got i_t_orders i_t_outputMany i_t_input i_t_n q121 hq121) tm_1508 tm_1510 sl_60 tm_15 tm_1511 na_Md_takesCordNumber ⟨Nat.le_of_ble_eq_true rfl, Nat.le_of_ble_eq_true rfl⟩ rfl [0, 2, 3] rfl rfl rfl (ws' := wd_Md_takesRest cI a_t a_t_w a_t_wKept a_t_saved a_t_past a_t_input a_t_n a_t_order a_t_numbers a_t_output i_t_pastMany i_t_isSaved i_t_thrown i_t_inputMany i_t_lastError i_t_lastOffset q121.2.1 q121.2.2.1 q121.2.2.2.1 q121.2.2.2.2.1 q121.2.2.2.2.2.1 q121.2.2.2.2.2.2.1 q121.2.2.2.2.2.2.2.1 i_t_orders i_t_outputMany i_t_w i_t_input q121.2.2.2.2.2.2.2.2) rfl 0 11 rfl rfl rfl (st := []) rfl (Nat.le_of_ble_eq_true rfl) rd_Md_takesRest_121 ?_ ⟨Nat.le_of_ble_eq_true rfl, Nat.le_of_ble_eq_true rfl⟩
    obtain ⟨hbo, hf⟩ := jk_bo_h hf
    cases hf
    exact jk_zret C hbo rfl rd_Md_takesRest_124 rfl
  refine jk_eqs_c hf (fun hx hf => ?_) (fun hx5 hf => ?_)
  · refine jk_tabIn (off := 120) (tgt := 125) C rd_Md_takesRest_5 (k := 5) hx (by decide +kernel) (by decide) ?_
    refine jk_aload_n C rd_Md_takesRest_125 (k := 0) rfl ?_
    obtain ⟨q126, hq126, hf⟩ := jk_bind_h hf
    refine jk_callVi C hZ.1 hz (ct_Md_takesCluster l D Z sq hZ cI cR a_t a_t_w a_t_wKept a_t_saved a_t_past a_t_input a_t_n a_t_order a_t_numbers a_t_output i_t_pastMany i_t_isSaved i_t_thrown i_t_inputMany i_t_lastError i_t_lastOffset i_t_error i_t_offset q1.1 q1.2.1 q1.2.2.1 q1.2.2.2 i_t_got i_t_orders i_t_outputMany i_t_input i_t_n q126 hq126) tm_1504 tm_1506 sl_59 tm_15 tm_1507 na_Md_takesCluster ⟨Nat.le_of_ble_eq_true rfl, Nat.le_of_ble_eq_true rfl⟩ rfl [0, 2, 3] rfl rfl rfl (ws' := wd_Md_takesRest cI a_t a_t_w a_t_wKept a_t_saved a_t_past a_t_input a_t_n a_t_order a_t_numbers a_t_output i_t_pastMany i_t_isSaved i_t_thrown i_t_inputMany i_t_lastError i_t_lastOffset q126.2.1 q126.2.2.1 q126.2.2.2.1 q126.2.2.2.2.1 q126.2.2.2.2.2.1 q126.2.2.2.2.2.2.1 q126.2.2.2.2.2.2.2.1 i_t_orders i_t_outputMany i_t_w i_t_input q126.2.2.2.2.2.2.2.2) rfl 0 11 rfl rfl rfl (st := []) rfl (Nat.le_of_ble_eq_true rfl) rd_Md_takesRest_126 ?_ ⟨Nat.le_of_ble_eq_true rfl, Nat.le_of_ble_eq_true rfl⟩
    refine jk_if_eq (tgt := 144) C rd_Md_takesRest_129 (by decide) hf (fun _ hf => ?_) (fun _ hf => ?_)
    · refine jk_iconst C rd_Md_takesRest_144 ?_
      cases hf
      exact jk_zret C (Or.inl rfl) rfl rd_Md_takesRest_145 rfl
    · refine jk_aload_n C rd_Md_takesRest_132 (k := 0) rfl ?_
      refine jk_iconst C rd_Md_takesRest_133 ?_
      obtain ⟨q134, hq134, hf⟩ := jk_bind_h hf
      refine jk_callVi C hZ.1 hz (ct_Md_takesTopic l D Z sq hZ cI cR a_t a_t_w a_t_wKept a_t_saved a_t_past a_t_input a_t_n a_t_order a_t_numbers a_t_output i_t_pastMany i_t_isSaved i_t_thrown i_t_inputMany i_t_lastError i_t_lastOffset q126.2.1 q126.2.2.1 q126.2.2.2.1 q126.2.2.2.2.1 q126.2.2.2.2.2.1 q126.2.2.2.2.2.2.1 q126.2.2.2.2.2.2.2.1 i_t_orders i_t_outputMany i_t_w i_t_input q126.2.2.2.2.2.2.2.2 1 q134 hq134) tm_1465 tm_1467 sl_52 tm_15 tm_1468 na_Md_takesTopic ⟨Nat.le_of_ble_eq_true rfl, Nat.le_of_ble_eq_true rfl⟩ rfl [0, 1, 2, 3] rfl rfl rfl (ws' := wd_Md_takesRest cI a_t a_t_w a_t_wKept a_t_saved a_t_past a_t_input a_t_n a_t_order a_t_numbers a_t_output i_t_pastMany i_t_isSaved i_t_thrown i_t_inputMany i_t_lastError i_t_lastOffset q134.2.1 q134.2.2.1 q134.2.2.2.1 q134.2.2.2.2.1 q134.2.2.2.2.2.1 q134.2.2.2.2.2.2.1 q126.2.2.2.2.2.2.2.1 i_t_orders i_t_outputMany i_t_w i_t_input q134.2.2.2.2.2.2.2) rfl 0 11 rfl rfl rfl (st := []) rfl (Nat.le_of_ble_eq_true rfl) rd_Md_takesRest_134 ?_ ⟨Nat.le_of_ble_eq_true rfl, Nat.le_of_ble_eq_true rfl⟩
      refine jk_if_eq (tgt := 144) C rd_Md_takesRest_137 (by decide) hf (fun _ hf => ?_) (fun _ hf => ?_)
      · refine jk_iconst C rd_Md_takesRest_144 ?_
        cases hf
        exact jk_zret C (Or.inl rfl) rfl rd_Md_takesRest_145 rfl
      · refine jk_iconst C rd_Md_takesRest_140 ?_
        refine jk_goto (tgt := 145) C rd_Md_takesRest_141 (by decide) ?_
        cases hf
        exact jk_zret C (Or.inr rfl) rfl rd_Md_takesRest_145 rfl
  refine jk_eqs_c hf (fun hx hf => ?_) (fun hx6 hf => ?_)
  · refine jk_tabIn (off := 141) (tgt := 146) C rd_Md_takesRest_5 (k := 6) hx (by decide +kernel) (by decide) ?_
    refine jk_aload_n C rd_Md_takesRest_146 (k := 0) rfl ?_
    obtain ⟨q147, hq147, hf⟩ := jk_bind_h hf
    refine jk_callVi C hZ.1 hz (ct_Md_takesCordNumber l D Z sq hZ cI cR a_t a_t_w a_t_wKept a_t_saved a_t_past a_t_input a_t_n a_t_order a_t_numbers a_t_output i_t_pastMany i_t_isSaved i_t_thrown i_t_inputMany i_t_lastError i_t_lastOffset i_t_error i_t_offset q1.1 q1.2.1 q1.2.2.1 q1.2.2.2 i_t_got i_t_orders i_t_outputMany i_t_input i_t_n q147 hq147) tm_1508 tm_1510 sl_60 tm_15 tm_1511 na_Md_takesCordNumber ⟨Nat.le_of_ble_eq_true rfl, Nat.le_of_ble_eq_true rfl⟩ rfl [0, 2, 3] rfl rfl rfl (ws' := wd_Md_takesRest cI a_t a_t_w a_t_wKept a_t_saved a_t_past a_t_input a_t_n a_t_order a_t_numbers a_t_output i_t_pastMany i_t_isSaved i_t_thrown i_t_inputMany i_t_lastError i_t_lastOffset q147.2.1 q147.2.2.1 q147.2.2.2.1 q147.2.2.2.2.1 q147.2.2.2.2.2.1 q147.2.2.2.2.2.2.1 q147.2.2.2.2.2.2.2.1 i_t_orders i_t_outputMany i_t_w i_t_input q147.2.2.2.2.2.2.2.2) rfl 0 11 rfl rfl rfl (st := []) rfl (Nat.le_of_ble_eq_true rfl) rd_Md_takesRest_147 ?_ ⟨Nat.le_of_ble_eq_true rfl, Nat.le_of_ble_eq_true rfl⟩
    refine jk_if_eq (tgt := 178) C rd_Md_takesRest_150 (by decide) hf (fun _ hf => ?_) (fun _ hf => ?_)
    · refine jk_iconst C rd_Md_takesRest_178 ?_
      cases hf
      exact jk_zret C (Or.inl rfl) rfl rd_Md_takesRest_179 rfl
    · refine jk_aload_n C rd_Md_takesRest_153 (k := 0) rfl ?_
      refine jk_iconst C rd_Md_takesRest_154 ?_
      refine jk_iconst C rd_Md_takesRest_155 ?_
      refine jk_iconst C rd_Md_takesRest_156 ?_
      obtain ⟨q157, hq157, hf⟩ := jk_bind_h hf
      refine jk_callVi C hZ.1 hz (ct_Md_takes l D Z sq hZ cI cR a_t a_t_w a_t_wKept a_t_saved a_t_past a_t_input a_t_n a_t_order a_t_numbers a_t_output i_t_pastMany i_t_isSaved i_t_thrown i_t_inputMany i_t_lastError i_t_lastOffset q147.2.1 q147.2.2.1 q147.2.2.2.1 q147.2.2.2.2.1 q147.2.2.2.2.2.1 q147.2.2.2.2.2.2.1 q147.2.2.2.2.2.2.2.1 i_t_orders i_t_outputMany i_t_input q147.2.2.2.2.2.2.2.2 1 0 3 q157 hq157) tm_1469 tm_1471 sl_53 tm_15 tm_1472 na_Md_takes ⟨Nat.le_of_ble_eq_true rfl, Nat.le_of_ble_eq_true rfl⟩ rfl [0, 2, 3] rfl rfl rfl (ws' := wd_Md_takesRest cI a_t a_t_w a_t_wKept a_t_saved a_t_past a_t_input a_t_n a_t_order a_t_numbers a_t_output i_t_pastMany i_t_isSaved i_t_thrown i_t_inputMany i_t_lastError i_t_lastOffset q157.2.1 q157.2.2.1 q157.2.2.2.1 q157.2.2.2.2.1 q157.2.2.2.2.2.1 q157.2.2.2.2.2.2.1 q157.2.2.2.2.2.2.2.1 i_t_orders i_t_outputMany i_t_w i_t_input q157.2.2.2.2.2.2.2.2) rfl 0 11 rfl rfl rfl (st := []) rfl (Nat.le_of_ble_eq_true rfl) rd_Md_takesRest_157 ?_ ⟨Nat.le_of_ble_eq_true rfl, Nat.le_of_ble_eq_true rfl⟩
      refine jk_if_eq (tgt := 178) C rd_Md_takesRest_160 (by decide) hf (fun _ hf => ?_) (fun _ hf => ?_)
      · refine jk_iconst C rd_Md_takesRest_178 ?_
        cases hf
        exact jk_zret C (Or.inl rfl) rfl rd_Md_takesRest_179 rfl
      · refine jk_aload_n C rd_Md_takesRest_163 (k := 0) rfl ?_
        refine jk_iconst C rd_Md_takesRest_164 ?_
        refine jk_iconst C rd_Md_takesRest_165 ?_
        refine jk_bipush C rd_Md_takesRest_166 (by decide +kernel) ?_
        obtain ⟨q168, hq168, hf⟩ := jk_bind_h hf
        refine jk_callVi C hZ.1 hz (ct_Md_takes l D Z sq hZ cI cR a_t a_t_w a_t_wKept a_t_saved a_t_past a_t_input a_t_n a_t_order a_t_numbers a_t_output i_t_pastMany i_t_isSaved i_t_thrown i_t_inputMany i_t_lastError i_t_lastOffset q157.2.1 q157.2.2.1 q157.2.2.2.1 q157.2.2.2.2.1 q157.2.2.2.2.2.1 q157.2.2.2.2.2.2.1 q157.2.2.2.2.2.2.2.1 i_t_orders i_t_outputMany i_t_input q157.2.2.2.2.2.2.2.2 2 0 9 q168 hq168) tm_1469 tm_1471 sl_53 tm_15 tm_1472 na_Md_takes ⟨Nat.le_of_ble_eq_true rfl, Nat.le_of_ble_eq_true rfl⟩ rfl [0, 2, 3] rfl rfl rfl (ws' := wd_Md_takesRest cI a_t a_t_w a_t_wKept a_t_saved a_t_past a_t_input a_t_n a_t_order a_t_numbers a_t_output i_t_pastMany i_t_isSaved i_t_thrown i_t_inputMany i_t_lastError i_t_lastOffset q168.2.1 q168.2.2.1 q168.2.2.2.1 q168.2.2.2.2.1 q168.2.2.2.2.2.1 q168.2.2.2.2.2.2.1 q168.2.2.2.2.2.2.2.1 i_t_orders i_t_outputMany i_t_w i_t_input q168.2.2.2.2.2.2.2.2) rfl 0 11 rfl rfl rfl (st := []) rfl (Nat.le_of_ble_eq_true rfl) rd_Md_takesRest_168 ?_ ⟨Nat.le_of_ble_eq_true rfl, Nat.le_of_ble_eq_true rfl⟩
        refine jk_if_eq (tgt := 178) C rd_Md_takesRest_171 (by decide) hf (fun _ hf => ?_) (fun _ hf => ?_)
        · refine jk_iconst C rd_Md_takesRest_178 ?_
          cases hf
          exact jk_zret C (Or.inl rfl) rfl rd_Md_takesRest_179 rfl
        · refine jk_iconst C rd_Md_takesRest_174 ?_
          refine jk_goto (tgt := 179) C rd_Md_takesRest_175 (by decide) ?_
          cases hf
          exact jk_zret C (Or.inr rfl) rfl rd_Md_takesRest_179 rfl
  refine jk_eqs_c hf (fun hx hf => ?_) (fun hx7 hf => ?_)
  · refine jk_tabIn (off := 175) (tgt := 180) C rd_Md_takesRest_5 (k := 7) hx (by decide +kernel) (by decide) ?_
    refine jk_aload_n C rd_Md_takesRest_180 (k := 0) rfl ?_
    obtain ⟨q181, hq181, hf⟩ := jk_bind_h hf
    refine jk_callVi C hZ.1 hz (ct_Md_takesCordNumber l D Z sq hZ cI cR a_t a_t_w a_t_wKept a_t_saved a_t_past a_t_input a_t_n a_t_order a_t_numbers a_t_output i_t_pastMany i_t_isSaved i_t_thrown i_t_inputMany i_t_lastError i_t_lastOffset i_t_error i_t_offset q1.1 q1.2.1 q1.2.2.1 q1.2.2.2 i_t_got i_t_orders i_t_outputMany i_t_input i_t_n q181 hq181) tm_1508 tm_1510 sl_60 tm_15 tm_1511 na_Md_takesCordNumber ⟨Nat.le_of_ble_eq_true rfl, Nat.le_of_ble_eq_true rfl⟩ rfl [0, 2, 3] rfl rfl rfl (ws' := wd_Md_takesRest cI a_t a_t_w a_t_wKept a_t_saved a_t_past a_t_input a_t_n a_t_order a_t_numbers a_t_output i_t_pastMany i_t_isSaved i_t_thrown i_t_inputMany i_t_lastError i_t_lastOffset q181.2.1 q181.2.2.1 q181.2.2.2.1 q181.2.2.2.2.1 q181.2.2.2.2.2.1 q181.2.2.2.2.2.2.1 q181.2.2.2.2.2.2.2.1 i_t_orders i_t_outputMany i_t_w i_t_input q181.2.2.2.2.2.2.2.2) rfl 0 11 rfl rfl rfl (st := []) rfl (Nat.le_of_ble_eq_true rfl) rd_Md_takesRest_181 ?_ ⟨Nat.le_of_ble_eq_true rfl, Nat.le_of_ble_eq_true rfl⟩
    refine jk_if_eq (tgt := 201) C rd_Md_takesRest_184 (by decide) hf (fun _ hf => ?_) (fun _ hf => ?_)
    · refine jk_iconst C rd_Md_takesRest_201 ?_
      cases hf
      exact jk_zret C (Or.inl rfl) rfl rd_Md_takesRest_202 rfl
    · refine jk_aload_n C rd_Md_takesRest_187 (k := 0) rfl ?_
      refine jk_iconst C rd_Md_takesRest_188 ?_
      refine jk_iconst C rd_Md_takesRest_189 ?_
      refine jk_iconst C rd_Md_takesRest_190 ?_
      obtain ⟨q191, hq191, hf⟩ := jk_bind_h hf
      refine jk_callVi C hZ.1 hz (ct_Md_takes l D Z sq hZ cI cR a_t a_t_w a_t_wKept a_t_saved a_t_past a_t_input a_t_n a_t_order a_t_numbers a_t_output i_t_pastMany i_t_isSaved i_t_thrown i_t_inputMany i_t_lastError i_t_lastOffset q181.2.1 q181.2.2.1 q181.2.2.2.1 q181.2.2.2.2.1 q181.2.2.2.2.2.1 q181.2.2.2.2.2.2.1 q181.2.2.2.2.2.2.2.1 i_t_orders i_t_outputMany i_t_input q181.2.2.2.2.2.2.2.2 1 1 4 q191 hq191) tm_1469 tm_1471 sl_53 tm_15 tm_1472 na_Md_takes ⟨Nat.le_of_ble_eq_true rfl, Nat.le_of_ble_eq_true rfl⟩ rfl [0, 2, 3] rfl rfl rfl (ws' := wd_Md_takesRest cI a_t a_t_w a_t_wKept a_t_saved a_t_past a_t_input a_t_n a_t_order a_t_numbers a_t_output i_t_pastMany i_t_isSaved i_t_thrown i_t_inputMany i_t_lastError i_t_lastOffset q191.2.1 q191.2.2.1 q191.2.2.2.1 q191.2.2.2.2.1 q191.2.2.2.2.2.1 q191.2.2.2.2.2.2.1 q191.2.2.2.2.2.2.2.1 i_t_orders i_t_outputMany i_t_w i_t_input q191.2.2.2.2.2.2.2.2) rfl 0 11 rfl rfl rfl (st := []) rfl (Nat.le_of_ble_eq_true rfl) rd_Md_takesRest_191 ?_ ⟨Nat.le_of_ble_eq_true rfl, Nat.le_of_ble_eq_true rfl⟩
      refine jk_if_eq (tgt := 201) C rd_Md_takesRest_194 (by decide) hf (fun _ hf => ?_) (fun _ hf => ?_)
      · refine jk_iconst C rd_Md_takesRest_201 ?_
        cases hf
        exact jk_zret C (Or.inl rfl) rfl rd_Md_takesRest_202 rfl
      · refine jk_iconst C rd_Md_takesRest_197 ?_
        refine jk_goto (tgt := 202) C rd_Md_takesRest_198 (by decide) ?_
        cases hf
        exact jk_zret C (Or.inr rfl) rfl rd_Md_takesRest_202 rfl
  refine jk_eqs_c hf (fun hx hf => ?_) (fun hx8 hf => ?_)
  · refine jk_tabIn (off := 198) (tgt := 203) C rd_Md_takesRest_5 (k := 8) hx (by decide +kernel) (by decide) ?_
    refine jk_aload_n C rd_Md_takesRest_203 (k := 0) rfl ?_
    obtain ⟨q204, hq204, hf⟩ := jk_bind_h hf
    refine jk_callVi C hZ.1 hz (ct_Md_takesCordNumber l D Z sq hZ cI cR a_t a_t_w a_t_wKept a_t_saved a_t_past a_t_input a_t_n a_t_order a_t_numbers a_t_output i_t_pastMany i_t_isSaved i_t_thrown i_t_inputMany i_t_lastError i_t_lastOffset i_t_error i_t_offset q1.1 q1.2.1 q1.2.2.1 q1.2.2.2 i_t_got i_t_orders i_t_outputMany i_t_input i_t_n q204 hq204) tm_1508 tm_1510 sl_60 tm_15 tm_1511 na_Md_takesCordNumber ⟨Nat.le_of_ble_eq_true rfl, Nat.le_of_ble_eq_true rfl⟩ rfl [0, 2, 3] rfl rfl rfl (ws' := wd_Md_takesRest cI a_t a_t_w a_t_wKept a_t_saved a_t_past a_t_input a_t_n a_t_order a_t_numbers a_t_output i_t_pastMany i_t_isSaved i_t_thrown i_t_inputMany i_t_lastError i_t_lastOffset q204.2.1 q204.2.2.1 q204.2.2.2.1 q204.2.2.2.2.1 q204.2.2.2.2.2.1 q204.2.2.2.2.2.2.1 q204.2.2.2.2.2.2.2.1 i_t_orders i_t_outputMany i_t_w i_t_input q204.2.2.2.2.2.2.2.2) rfl 0 11 rfl rfl rfl (st := []) rfl (Nat.le_of_ble_eq_true rfl) rd_Md_takesRest_204 ?_ ⟨Nat.le_of_ble_eq_true rfl, Nat.le_of_ble_eq_true rfl⟩
    refine jk_if_eq (tgt := 222) C rd_Md_takesRest_207 (by decide) hf (fun _ hf => ?_) (fun _ hf => ?_)
    · refine jk_iconst C rd_Md_takesRest_222 ?_
      cases hf
      exact jk_zret C (Or.inl rfl) rfl rd_Md_takesRest_223 rfl
    · refine jk_aload_n C rd_Md_takesRest_210 (k := 0) rfl ?_
      refine jk_iconst C rd_Md_takesRest_211 ?_
      obtain ⟨q212, hq212, hf⟩ := jk_bind_h hf
      refine jk_callVi C hZ.1 hz (ct_Md_takesTopic l D Z sq hZ cI cR a_t a_t_w a_t_wKept a_t_saved a_t_past a_t_input a_t_n a_t_order a_t_numbers a_t_output i_t_pastMany i_t_isSaved i_t_thrown i_t_inputMany i_t_lastError i_t_lastOffset q204.2.1 q204.2.2.1 q204.2.2.2.1 q204.2.2.2.2.1 q204.2.2.2.2.2.1 q204.2.2.2.2.2.2.1 q204.2.2.2.2.2.2.2.1 i_t_orders i_t_outputMany i_t_w i_t_input q204.2.2.2.2.2.2.2.2 1 q212 hq212) tm_1465 tm_1467 sl_52 tm_15 tm_1468 na_Md_takesTopic ⟨Nat.le_of_ble_eq_true rfl, Nat.le_of_ble_eq_true rfl⟩ rfl [0, 1, 2, 3] rfl rfl rfl (ws' := wd_Md_takesRest cI a_t a_t_w a_t_wKept a_t_saved a_t_past a_t_input a_t_n a_t_order a_t_numbers a_t_output i_t_pastMany i_t_isSaved i_t_thrown i_t_inputMany i_t_lastError i_t_lastOffset q212.2.1 q212.2.2.1 q212.2.2.2.1 q212.2.2.2.2.1 q212.2.2.2.2.2.1 q212.2.2.2.2.2.2.1 q204.2.2.2.2.2.2.2.1 i_t_orders i_t_outputMany i_t_w i_t_input q212.2.2.2.2.2.2.2) rfl 0 11 rfl rfl rfl (st := []) rfl (Nat.le_of_ble_eq_true rfl) rd_Md_takesRest_212 ?_ ⟨Nat.le_of_ble_eq_true rfl, Nat.le_of_ble_eq_true rfl⟩
      refine jk_if_eq (tgt := 222) C rd_Md_takesRest_215 (by decide) hf (fun _ hf => ?_) (fun _ hf => ?_)
      · refine jk_iconst C rd_Md_takesRest_222 ?_
        cases hf
        exact jk_zret C (Or.inl rfl) rfl rd_Md_takesRest_223 rfl
      · refine jk_iconst C rd_Md_takesRest_218 ?_
        refine jk_goto (tgt := 223) C rd_Md_takesRest_219 (by decide) ?_
        cases hf
        exact jk_zret C (Or.inr rfl) rfl rd_Md_takesRest_223 rfl
  refine jk_tabOut (tgt := 224) C rd_Md_takesRest_5 (jk_rg_h hf).1 (by omega) (by decide) ?_
  replace hf := (jk_rg_h hf).2
  refine jk_aload_n C rd_Md_takesRest_224 (k := 0) rfl ?_
  obtain ⟨q225, hq225, hf⟩ := jk_bind_h hf
  refine jk_callVi C hZ.1 hz (ct_Md_takesCluster l D Z sq hZ cI cR a_t a_t_w a_t_wKept a_t_saved a_t_past a_t_input a_t_n a_t_order a_t_numbers a_t_output i_t_pastMany i_t_isSaved i_t_thrown i_t_inputMany i_t_lastError i_t_lastOffset i_t_error i_t_offset q1.1 q1.2.1 q1.2.2.1 q1.2.2.2 i_t_got i_t_orders i_t_outputMany i_t_input i_t_n q225 hq225) tm_1504 tm_1506 sl_59 tm_15 tm_1507 na_Md_takesCluster ⟨Nat.le_of_ble_eq_true rfl, Nat.le_of_ble_eq_true rfl⟩ rfl [0, 2, 3] rfl rfl rfl (ws' := wd_Md_takesRest cI a_t a_t_w a_t_wKept a_t_saved a_t_past a_t_input a_t_n a_t_order a_t_numbers a_t_output i_t_pastMany i_t_isSaved i_t_thrown i_t_inputMany i_t_lastError i_t_lastOffset q225.2.1 q225.2.2.1 q225.2.2.2.1 q225.2.2.2.2.1 q225.2.2.2.2.2.1 q225.2.2.2.2.2.2.1 q225.2.2.2.2.2.2.2.1 i_t_orders i_t_outputMany i_t_w i_t_input q225.2.2.2.2.2.2.2.2) rfl 0 11 rfl rfl rfl (st := []) rfl (Nat.le_of_ble_eq_true rfl) rd_Md_takesRest_225 ?_ ⟨Nat.le_of_ble_eq_true rfl, Nat.le_of_ble_eq_true rfl⟩
  obtain ⟨hbo, hf⟩ := jk_bo_h hf
  cases hf
  exact jk_zret C hbo rfl rd_Md_takesRest_228 rfl
def wd_Md_readScriptStatement (cI : ClassId) (a_t a_t_w a_t_wKept a_t_saved a_t_past a_t_input a_t_n a_t_order a_t_numbers a_t_output : Nat) (i_t_pastMany : Int) (i_t_isSaved : Int) (i_t_thrown : Int) (i_t_inputMany : Int) (i_t_lastError : Int) (i_t_lastOffset : Int) (i_t_error : Int) (i_t_offset : Int) (i_t_nextByte : Int) (i_t_begin : Int) (i_t_value : Int) (i_t_token : Int) (i_t_got : Int) (i_t_orders : Int) (i_t_outputMany : Int) (i_t_w : (Int → Int)) (i_t_input : (Int → Int)) (i_t_n : (Int → Int)) (i_t_order : (Int → Int)) (i_t_numbers : (Int → Int)) : va_W := [(a_t, .inr (11, [.ref a_t_w, .ref a_t_wKept, .ref a_t_saved, .ref a_t_past, jk_V i_t_pastMany, jk_V i_t_isSaved, jk_V i_t_thrown, .ref a_t_input, jk_V i_t_inputMany, jk_V i_t_lastError, jk_V i_t_lastOffset, jk_V i_t_error, jk_V i_t_offset, jk_V i_t_nextByte, jk_V i_t_begin, jk_V i_t_value, jk_V i_t_token, jk_V i_t_got, .ref a_t_n, .ref a_t_order, .ref a_t_numbers, jk_V i_t_orders, .ref a_t_output, jk_V i_t_outputMany])), (a_t_w, jk_W cI 259 i_t_w), (a_t_input, jk_W cI 700 i_t_input), (a_t_n, jk_W cI 3 i_t_n), (a_t_order, jk_W cI 31 i_t_order), (a_t_numbers, jk_W cI 93 i_t_numbers)]
set_option maxHeartbeats 4000000 in
set_option maxRecDepth 20000 in
theorem ct_Md_readScriptStatement (l : Launch) (D : va_G) (Z : (Nat → Prop) → State → Heap → Prop) (sq : Nat → Nat) (hZ : jk_ZK Z sq) (cI cR : ClassId) (a_t a_t_w a_t_wKept a_t_saved a_t_past a_t_input a_t_n a_t_order a_t_numbers a_t_output : Nat) (i_t_pastMany : Int) (i_t_isSaved : Int) (i_t_thrown : Int) (i_t_inputMany : Int) (i_t_lastError : Int) (i_t_lastOffset : Int) (i_t_error : Int) (i_t_offset : Int) (i_t_nextByte : Int) (i_t_begin : Int) (i_t_value : Int) (i_t_token : Int) (i_t_got : Int) (i_t_orders : Int) (i_t_outputMany : Int) (i_t_w : (Int → Int)) (i_t_input : (Int → Int)) (i_t_n : (Int → Int)) (i_t_order : (Int → Int)) (i_t_numbers : (Int → Int)) (q : Int × Int × Int × Int × Int × Int × Int × Int × (Int → Int) × (Int → Int) × (Int → Int) × Int) (hf : fn_Md_readScriptStatement i_t_w i_t_input i_t_inputMany i_t_error i_t_offset i_t_nextByte i_t_begin i_t_value i_t_token i_t_got i_t_n i_t_order i_t_numbers i_t_orders = some q) : jk_MI l D jk_cl (jk_ty cI cR) Z mn_Md_readScriptStatement (.code mn_Md_readScriptStatement mb_Md_readScriptStatement 3 (some .boolean) :: jk_WA) (jk_rm 8 342) [.ref a_t] (wd_Md_readScriptStatement cI a_t a_t_w a_t_wKept a_t_saved a_t_past a_t_input a_t_n a_t_order a_t_numbers a_t_output i_t_pastMany i_t_isSaved i_t_thrown i_t_inputMany i_t_lastError i_t_lastOffset i_t_error i_t_offset i_t_nextByte i_t_begin i_t_value i_t_token i_t_got i_t_orders i_t_outputMany i_t_w i_t_input i_t_n i_t_order i_t_numbers) (wd_Md_readScriptStatement cI a_t a_t_w a_t_wKept a_t_saved a_t_past a_t_input a_t_n a_t_order a_t_numbers a_t_output i_t_pastMany i_t_isSaved i_t_thrown i_t_inputMany i_t_lastError i_t_lastOffset q.2.1 q.2.2.1 q.2.2.2.1 q.2.2.2.2.1 q.2.2.2.2.2.1 q.2.2.2.2.2.2.1 q.2.2.2.2.2.2.2.1 q.2.2.2.2.2.2.2.2.2.2.2 i_t_outputMany i_t_w i_t_input q.2.2.2.2.2.2.2.2.1 q.2.2.2.2.2.2.2.2.2.1 q.2.2.2.2.2.2.2.2.2.2.1) q.1 := by
  intro sz
  refine jk_body (by decide +kernel) (fun p e s m args below meth c hsz hz hin C => ?_) (Nat.le_of_ble_eq_true rfl)
  subst hsz
  unfold fn_Md_readScriptStatement at hf
  have bk_53 : ∀ (n : Nat) (t_error : Int) (t_offset : Int) (t_nextByte : Int) (t_begin : Int) (t_value : Int) (t_token : Int) (t_got : Int) (t_n : (Int → Int)) (t_order : (Int → Int)) (t_numbers : (Int → Int)) (t_orders : Int) (v2 : Int), fn_Md_readScriptStatement_b53 n i_t_input i_t_inputMany t_error t_offset t_nextByte t_begin t_value t_token t_got t_n t_order t_numbers t_orders v2 = some q → jk_J p l e (jk_rm 8 342) s m args below meth c 0 0 (jk_QI below D jk_cl (jk_ty cI cR) (wd_Md_readScriptStatement cI a_t a_t_w a_t_wKept a_t_saved a_t_past a_t_input a_t_n a_t_order a_t_numbers a_t_output i_t_pastMany i_t_isSaved i_t_thrown i_t_inputMany i_t_lastError i_t_lastOffset i_t_error i_t_offset i_t_nextByte i_t_begin i_t_value i_t_token i_t_got i_t_orders i_t_outputMany i_t_w i_t_input i_t_n i_t_order i_t_numbers) (wd_Md_readScriptStatement cI a_t a_t_w a_t_wKept a_t_saved a_t_past a_t_input a_t_n a_t_order a_t_numbers a_t_output i_t_pastMany i_t_isSaved i_t_thrown i_t_inputMany i_t_lastError i_t_lastOffset q.2.1 q.2.2.1 q.2.2.2.1 q.2.2.2.2.1 q.2.2.2.2.2.1 q.2.2.2.2.2.2.1 q.2.2.2.2.2.2.2.1 q.2.2.2.2.2.2.2.2.2.2.2 i_t_outputMany i_t_w i_t_input q.2.2.2.2.2.2.2.2.1 q.2.2.2.2.2.2.2.2.2.1 q.2.2.2.2.2.2.2.2.2.2.1) args s q.1) D jk_cl (va_A (wd_Md_readScriptStatement cI a_t a_t_w a_t_wKept a_t_saved a_t_past a_t_input a_t_n a_t_order a_t_numbers a_t_output i_t_pastMany i_t_isSaved i_t_thrown i_t_inputMany i_t_lastError i_t_lastOffset i_t_error i_t_offset i_t_nextByte i_t_begin i_t_value i_t_token i_t_got i_t_orders i_t_outputMany i_t_w i_t_input i_t_n i_t_order i_t_numbers) s.heap.size) 3 (wd_Md_readScriptStatement cI a_t a_t_w a_t_wKept a_t_saved a_t_past a_t_input a_t_n a_t_order a_t_numbers a_t_output i_t_pastMany i_t_isSaved i_t_thrown i_t_inputMany i_t_lastError i_t_lastOffset t_error t_offset t_nextByte t_begin t_value t_token t_got t_orders i_t_outputMany i_t_w i_t_input t_n t_order t_numbers) [(0, .ref a_t), (2, jk_V v2)] 53 [] := by
    intro n
    induction n with
    | zero => intro t_error t_offset t_nextByte t_begin t_value t_token t_got t_n t_order t_numbers t_orders v2 hf; exact nomatch (show none = some q from hf)
    | succ n ih =>
      intro t_error t_offset t_nextByte t_begin t_value t_token t_got t_n t_order t_numbers t_orders v2 hf
      rw [fn_Md_readScriptStatement_b53] at hf
      refine jk_iload_n C rd_Md_readScriptStatement_53 (k := 1) rfl ?_
      refine jk_iconst C rd_Md_readScriptStatement_54 ?_
      refine jk_icmp_ge (tgt := 83) C rd_Md_readScriptStatement_55 (by decide) hf (fun _ hf => ?_) (fun _ hf => ?_)
      · refine jk_aload_n C rd_Md_readScriptStatement_83 (k := 0) rfl ?_
        refine jk_dup C rd_Md_readScriptStatement_84 rfl ?_
        refine jk_get C in_Md (ci := 11) rfl 21 (by decide) tm_1284 0 rfl rfl rd_Md_readScriptStatement_85 ?_
        refine jk_iconst C rd_Md_readScriptStatement_88 ?_
        refine jk_iadd C rd_Md_readScriptStatement_89 ?_
        refine jk_putf C in_Md ty_Md nm_Md (ci := 11) rfl 21 (by decide) tm_1284 rfl rfl rfl 0 rfl (Nat.le_of_ble_eq_true rfl) rd_Md_readScriptStatement_90 (ws' := wd_Md_readScriptStatement cI a_t a_t_w a_t_wKept a_t_saved a_t_past a_t_input a_t_n a_t_order a_t_numbers a_t_output i_t_pastMany i_t_isSaved i_t_thrown i_t_inputMany i_t_lastError i_t_lastOffset t_error t_offset t_nextByte t_begin t_value t_token t_got (t_orders + 1) i_t_outputMany i_t_w i_t_input t_n t_order t_numbers) rfl ?_
        refine jk_aload_n C rd_Md_readScriptStatement_93 (k := 0) rfl ?_
        obtain ⟨q94, hq94, hf⟩ := jk_bind_h hf
        refine jk_callVi C hZ.1 hz (ct_Md_takesSemicolon l D Z sq hZ cI cR a_t a_t_w a_t_wKept a_t_saved a_t_past a_t_input a_t_n a_t_order a_t_numbers a_t_output i_t_pastMany i_t_isSaved i_t_thrown i_t_inputMany i_t_lastError i_t_lastOffset t_error t_offset t_nextByte t_begin t_value t_token t_got (t_orders + 1) i_t_outputMany i_t_input q94 hq94) tm_1413 tm_1415 sl_40 tm_15 tm_1416 na_Md_takesSemicolon ⟨Nat.le_of_ble_eq_true rfl, Nat.le_of_ble_eq_true rfl⟩ rfl [0, 2] rfl rfl rfl (ws' := wd_Md_readScriptStatement cI a_t a_t_w a_t_wKept a_t_saved a_t_past a_t_input a_t_n a_t_order a_t_numbers a_t_output i_t_pastMany i_t_isSaved i_t_thrown i_t_inputMany i_t_lastError i_t_lastOffset q94.2.1 q94.2.2.1 q94.2.2.2.1 q94.2.2.2.2.1 q94.2.2.2.2.2.1 q94.2.2.2.2.2.2 t_got (t_orders + 1) i_t_outputMany i_t_w i_t_input t_n t_order t_numbers) rfl 0 11 rfl rfl rfl (st := []) rfl (Nat.le_of_ble_eq_true rfl) rd_Md_readScriptStatement_94 ?_ ⟨Nat.le_of_ble_eq_true rfl, Nat.le_of_ble_eq_true rfl⟩
        obtain ⟨hbo, hf⟩ := jk_bo_h hf
        cases hf
        exact jk_zret C hbo rfl rd_Md_readScriptStatement_97 rfl
      · refine jk_aload_n C rd_Md_readScriptStatement_58 (k := 0) rfl ?_
        refine jk_get C in_Md (ci := 11) rfl 20 (by decide) tm_1283 0 rfl rfl rd_Md_readScriptStatement_59 ?_
        refine jk_iconst C rd_Md_readScriptStatement_62 ?_
        refine jk_aload_n C rd_Md_readScriptStatement_63 (k := 0) rfl ?_
        refine jk_get C in_Md (ci := 11) rfl 21 (by decide) tm_1284 0 rfl rfl rd_Md_readScriptStatement_64 ?_
        refine jk_imul C rd_Md_readScriptStatement_67 ?_
        refine jk_iload_n C rd_Md_readScriptStatement_68 (k := 1) rfl ?_
        refine jk_iadd C rd_Md_readScriptStatement_69 ?_
        refine jk_aload_n C rd_Md_readScriptStatement_70 (k := 0) rfl ?_
        refine jk_get C in_Md (ci := 11) rfl 18 (by decide) tm_1281 0 rfl rfl rd_Md_readScriptStatement_71 ?_
        refine jk_iload_n C rd_Md_readScriptStatement_74 (k := 1) rfl ?_
        refine jk_iald C 3 0 rfl rfl (Nat.le_of_ble_eq_true rfl) rd_Md_readScriptStatement_75 hf (fun hf => ?_)
        refine jk_iast C 5 0 rfl rfl (Nat.le_of_ble_eq_true rfl) rd_Md_readScriptStatement_76 hf (ws' := wd_Md_readScriptStatement cI a_t a_t_w a_t_wKept a_t_saved a_t_past a_t_input a_t_n a_t_order a_t_numbers a_t_output i_t_pastMany i_t_isSaved i_t_thrown i_t_inputMany i_t_lastError i_t_lastOffset t_error t_offset t_nextByte t_begin t_value t_token t_got t_orders i_t_outputMany i_t_w i_t_input t_n t_order (jk_up t_numbers ((3 * t_orders) + v2) (t_n v2))) rfl (fun hf => ?_)
        refine jk_iinc C rd_Md_readScriptStatement_77 (k := 1) rfl (by decide) (lv' := [(2, jk_V (v2 + 1)), (0, .ref a_t)]) rfl ?_
        refine jk_goto (tgt := 53) C rd_Md_readScriptStatement_80 (by decide) ?_
        refine jk_lv (lv' := [(0, .ref a_t), (2, jk_V (v2 + 1))]) [1, 0] rfl ?_
        exact ih t_error t_offset t_nextByte t_begin t_value t_token t_got t_n t_order (jk_up t_numbers ((3 * t_orders) + v2) (t_n v2)) t_orders (v2 + 1) hf
  refine jk_aload_n C rd_Md_readScriptStatement_0 (k := 0) rfl ?_
  obtain ⟨q1, hq1, hf⟩ := jk_bind_h hf
  refine jk_callVi C hZ.1 hz (ct_Md_scriptHere l D Z sq hZ cI cR a_t a_t_w a_t_wKept a_t_saved a_t_past a_t_input a_t_n a_t_order a_t_numbers a_t_output i_t_pastMany i_t_isSaved i_t_thrown i_t_inputMany i_t_lastError i_t_lastOffset i_t_error i_t_offset i_t_nextByte i_t_begin i_t_value i_t_token i_t_got i_t_orders i_t_outputMany i_t_input q1 hq1) tm_1490 tm_1492 sl_57 tm_15 tm_1493 na_Md_scriptHere ⟨Nat.le_of_ble_eq_true rfl, Nat.le_of_ble_eq_true rfl⟩ rfl [0, 2] rfl rfl rfl (ws' := wd_Md_readScriptStatement cI a_t a_t_w a_t_wKept a_t_saved a_t_past a_t_input a_t_n a_t_order a_t_numbers a_t_output i_t_pastMany i_t_isSaved i_t_thrown i_t_inputMany i_t_lastError i_t_lastOffset i_t_error i_t_offset i_t_nextByte i_t_begin i_t_value i_t_token i_t_got i_t_orders i_t_outputMany i_t_w i_t_input i_t_n i_t_order i_t_numbers) rfl 0 11 rfl rfl rfl (st := []) rfl (Nat.le_of_ble_eq_true rfl) rd_Md_readScriptStatement_1 ?_ ⟨Nat.le_of_ble_eq_true rfl, Nat.le_of_ble_eq_true rfl⟩
  refine jk_istore_n C rd_Md_readScriptStatement_4 (by decide) (lv' := [(1, jk_V q1), (0, .ref a_t)]) rfl ?_
  refine jk_iload_n C rd_Md_readScriptStatement_5 (k := 0) rfl ?_
  refine jk_if_ne (tgt := 15) C rd_Md_readScriptStatement_6 (by decide) hf (fun _ hf => ?_) (fun _ hf => ?_)
  · refine jk_aload_n C rd_Md_readScriptStatement_15 (k := 1) rfl ?_
    refine jk_get C in_Md (ci := 11) rfl 21 (by decide) tm_1284 0 rfl rfl rd_Md_readScriptStatement_16 ?_
    refine jk_bipush C rd_Md_readScriptStatement_19 (by decide +kernel) ?_
    refine jk_icmp_ne (tgt := 31) C rd_Md_readScriptStatement_21 (by decide) hf (fun _ hf => ?_) (fun _ hf => ?_)
    · refine jk_aload_n C rd_Md_readScriptStatement_31 (k := 1) rfl ?_
      refine jk_iload_n C rd_Md_readScriptStatement_32 (k := 0) rfl ?_
      obtain ⟨q33, hq33, hf⟩ := jk_bind_h hf
      refine jk_callVi C hZ.1 hz (ct_Md_takesRest l D Z sq hZ cI cR a_t a_t_w a_t_wKept a_t_saved a_t_past a_t_input a_t_n a_t_order a_t_numbers a_t_output i_t_pastMany i_t_isSaved i_t_thrown i_t_inputMany i_t_lastError i_t_lastOffset i_t_error i_t_offset i_t_nextByte i_t_begin i_t_value i_t_token i_t_got i_t_orders i_t_outputMany i_t_w i_t_input i_t_n q1 q33 hq33) tm_1500 tm_1502 sl_58 tm_15 tm_1503 na_Md_takesRest ⟨Nat.le_of_ble_eq_true rfl, Nat.le_of_ble_eq_true rfl⟩ rfl [0, 1, 2, 3] rfl rfl rfl (ws' := wd_Md_readScriptStatement cI a_t a_t_w a_t_wKept a_t_saved a_t_past a_t_input a_t_n a_t_order a_t_numbers a_t_output i_t_pastMany i_t_isSaved i_t_thrown i_t_inputMany i_t_lastError i_t_lastOffset q33.2.1 q33.2.2.1 q33.2.2.2.1 q33.2.2.2.2.1 q33.2.2.2.2.2.1 q33.2.2.2.2.2.2.1 q33.2.2.2.2.2.2.2.1 i_t_orders i_t_outputMany i_t_w i_t_input q33.2.2.2.2.2.2.2.2 i_t_order i_t_numbers) rfl 0 11 rfl rfl rfl (st := []) rfl (Nat.le_of_ble_eq_true rfl) rd_Md_readScriptStatement_33 ?_ ⟨Nat.le_of_ble_eq_true rfl, Nat.le_of_ble_eq_true rfl⟩
      refine jk_if_ne (tgt := 41) C rd_Md_readScriptStatement_36 (by decide) hf (fun _ hf => ?_) (fun _ hf => ?_)
      · refine jk_aload_n C rd_Md_readScriptStatement_41 (k := 1) rfl ?_
        refine jk_get C in_Md (ci := 11) rfl 19 (by decide) tm_1282 0 rfl rfl rd_Md_readScriptStatement_42 ?_
        refine jk_aload_n C rd_Md_readScriptStatement_45 (k := 1) rfl ?_
        refine jk_get C in_Md (ci := 11) rfl 21 (by decide) tm_1284 0 rfl rfl rd_Md_readScriptStatement_46 ?_
        refine jk_iload_n C rd_Md_readScriptStatement_49 (k := 0) rfl ?_
        refine jk_iast C 4 0 rfl rfl (Nat.le_of_ble_eq_true rfl) rd_Md_readScriptStatement_50 hf (ws' := wd_Md_readScriptStatement cI a_t a_t_w a_t_wKept a_t_saved a_t_past a_t_input a_t_n a_t_order a_t_numbers a_t_output i_t_pastMany i_t_isSaved i_t_thrown i_t_inputMany i_t_lastError i_t_lastOffset q33.2.1 q33.2.2.1 q33.2.2.2.1 q33.2.2.2.2.1 q33.2.2.2.2.2.1 q33.2.2.2.2.2.2.1 q33.2.2.2.2.2.2.2.1 i_t_orders i_t_outputMany i_t_w i_t_input q33.2.2.2.2.2.2.2.2 (jk_up i_t_order i_t_orders q1) i_t_numbers) rfl (fun hf => ?_)
        refine jk_iconst C rd_Md_readScriptStatement_51 ?_
        refine jk_istore_n C rd_Md_readScriptStatement_52 (by decide) (lv' := [(2, jk_V 0), (1, jk_V q1), (0, .ref a_t)]) rfl ?_
        refine jk_lv (lv' := [(0, .ref a_t), (2, jk_V 0)]) [2, 0] rfl ?_
        exact bk_53 jk_F q33.2.1 q33.2.2.1 q33.2.2.2.1 q33.2.2.2.2.1 q33.2.2.2.2.2.1 q33.2.2.2.2.2.2.1 q33.2.2.2.2.2.2.2.1 q33.2.2.2.2.2.2.2.2 (jk_up i_t_order i_t_orders q1) i_t_numbers i_t_orders 0 hf
      · refine jk_iconst C rd_Md_readScriptStatement_39 ?_
        cases hf
        exact jk_zret C (Or.inl rfl) rfl rd_Md_readScriptStatement_40 rfl
    · refine jk_aload_n C rd_Md_readScriptStatement_24 (k := 1) rfl ?_
      refine jk_bipush C rd_Md_readScriptStatement_25 (by decide +kernel) ?_
      obtain ⟨q27, hq27, hf⟩ := jk_bind_h hf
      refine jk_callVi C hZ.1 hz (ct_Md_failsAt l D Z sq hZ cI cR a_t a_t_w a_t_wKept a_t_saved a_t_past a_t_input a_t_n a_t_order a_t_numbers a_t_output i_t_pastMany i_t_isSaved i_t_thrown i_t_inputMany i_t_lastError i_t_lastOffset i_t_error i_t_offset i_t_nextByte i_t_begin i_t_value i_t_token i_t_got i_t_orders i_t_outputMany 6 q27 hq27) tm_1397 tm_1399 sl_36 tm_15 tm_1400 na_Md_failsAt ⟨Nat.le_of_ble_eq_true rfl, Nat.le_of_ble_eq_true rfl⟩ rfl [0] rfl rfl rfl (ws' := wd_Md_readScriptStatement cI a_t a_t_w a_t_wKept a_t_saved a_t_past a_t_input a_t_n a_t_order a_t_numbers a_t_output i_t_pastMany i_t_isSaved i_t_thrown i_t_inputMany i_t_lastError i_t_lastOffset q27.2.1 q27.2.2 i_t_nextByte i_t_begin i_t_value i_t_token i_t_got i_t_orders i_t_outputMany i_t_w i_t_input i_t_n i_t_order i_t_numbers) rfl 0 11 rfl rfl rfl (st := []) rfl (Nat.le_of_ble_eq_true rfl) rd_Md_readScriptStatement_27 ?_ ⟨Nat.le_of_ble_eq_true rfl, Nat.le_of_ble_eq_true rfl⟩
      obtain ⟨hbo, hf⟩ := jk_bo_h hf
      cases hf
      exact jk_zret C hbo rfl rd_Md_readScriptStatement_30 rfl
  · refine jk_aload_n C rd_Md_readScriptStatement_9 (k := 1) rfl ?_
    refine jk_iconst C rd_Md_readScriptStatement_10 ?_
    obtain ⟨q11, hq11, hf⟩ := jk_bind_h hf
    refine jk_callVi C hZ.1 hz (ct_Md_failsAt l D Z sq hZ cI cR a_t a_t_w a_t_wKept a_t_saved a_t_past a_t_input a_t_n a_t_order a_t_numbers a_t_output i_t_pastMany i_t_isSaved i_t_thrown i_t_inputMany i_t_lastError i_t_lastOffset i_t_error i_t_offset i_t_nextByte i_t_begin i_t_value i_t_token i_t_got i_t_orders i_t_outputMany 1 q11 hq11) tm_1397 tm_1399 sl_36 tm_15 tm_1400 na_Md_failsAt ⟨Nat.le_of_ble_eq_true rfl, Nat.le_of_ble_eq_true rfl⟩ rfl [0] rfl rfl rfl (ws' := wd_Md_readScriptStatement cI a_t a_t_w a_t_wKept a_t_saved a_t_past a_t_input a_t_n a_t_order a_t_numbers a_t_output i_t_pastMany i_t_isSaved i_t_thrown i_t_inputMany i_t_lastError i_t_lastOffset q11.2.1 q11.2.2 i_t_nextByte i_t_begin i_t_value i_t_token i_t_got i_t_orders i_t_outputMany i_t_w i_t_input i_t_n i_t_order i_t_numbers) rfl 0 11 rfl rfl rfl (st := []) rfl (Nat.le_of_ble_eq_true rfl) rd_Md_readScriptStatement_11 ?_ ⟨Nat.le_of_ble_eq_true rfl, Nat.le_of_ble_eq_true rfl⟩
    obtain ⟨hbo, hf⟩ := jk_bo_h hf
    cases hf
    exact jk_zret C hbo rfl rd_Md_readScriptStatement_14 rfl
def wd_Md_isCluster (cI : ClassId) (a_t a_t_w a_t_wKept a_t_saved a_t_past a_t_input a_t_n a_t_order a_t_numbers a_t_output : Nat) (i_t_pastMany : Int) (i_t_isSaved : Int) (i_t_thrown : Int) (i_t_inputMany : Int) (i_t_lastError : Int) (i_t_lastOffset : Int) (i_t_error : Int) (i_t_offset : Int) (i_t_nextByte : Int) (i_t_begin : Int) (i_t_value : Int) (i_t_token : Int) (i_t_got : Int) (i_t_orders : Int) (i_t_outputMany : Int) (i_t_w : (Int → Int)) : va_W := [(a_t, .inr (11, [.ref a_t_w, .ref a_t_wKept, .ref a_t_saved, .ref a_t_past, jk_V i_t_pastMany, jk_V i_t_isSaved, jk_V i_t_thrown, .ref a_t_input, jk_V i_t_inputMany, jk_V i_t_lastError, jk_V i_t_lastOffset, jk_V i_t_error, jk_V i_t_offset, jk_V i_t_nextByte, jk_V i_t_begin, jk_V i_t_value, jk_V i_t_token, jk_V i_t_got, .ref a_t_n, .ref a_t_order, .ref a_t_numbers, jk_V i_t_orders, .ref a_t_output, jk_V i_t_outputMany])), (a_t_w, jk_W cI 259 i_t_w)]
set_option maxHeartbeats 4000000 in
set_option maxRecDepth 20000 in
theorem ct_Md_isCluster (l : Launch) (D : va_G) (Z : (Nat → Prop) → State → Heap → Prop) (sq : Nat → Nat) (hZ : jk_ZK Z sq) (cI cR : ClassId) (a_t a_t_w a_t_wKept a_t_saved a_t_past a_t_input a_t_n a_t_order a_t_numbers a_t_output : Nat) (i_t_pastMany : Int) (i_t_isSaved : Int) (i_t_thrown : Int) (i_t_inputMany : Int) (i_t_lastError : Int) (i_t_lastOffset : Int) (i_t_error : Int) (i_t_offset : Int) (i_t_nextByte : Int) (i_t_begin : Int) (i_t_value : Int) (i_t_token : Int) (i_t_got : Int) (i_t_orders : Int) (i_t_outputMany : Int) (i_t_w : (Int → Int)) (x1 : Int) (q : Int) (hf : fn_Md_isCluster i_t_w x1 = some q) : jk_MI l D jk_cl (jk_ty cI cR) Z mn_Md_isCluster (.code mn_Md_isCluster mb_Md_isCluster 2 (some .boolean) :: jk_WA) (jk_rm 1 22) [.ref a_t, jk_V x1] (wd_Md_isCluster cI a_t a_t_w a_t_wKept a_t_saved a_t_past a_t_input a_t_n a_t_order a_t_numbers a_t_output i_t_pastMany i_t_isSaved i_t_thrown i_t_inputMany i_t_lastError i_t_lastOffset i_t_error i_t_offset i_t_nextByte i_t_begin i_t_value i_t_token i_t_got i_t_orders i_t_outputMany i_t_w) (wd_Md_isCluster cI a_t a_t_w a_t_wKept a_t_saved a_t_past a_t_input a_t_n a_t_order a_t_numbers a_t_output i_t_pastMany i_t_isSaved i_t_thrown i_t_inputMany i_t_lastError i_t_lastOffset i_t_error i_t_offset i_t_nextByte i_t_begin i_t_value i_t_token i_t_got i_t_orders i_t_outputMany i_t_w) q := by
  intro sz
  refine jk_body (by decide +kernel) (fun p e s m args below meth c hsz hz hin C => ?_) (Nat.le_of_ble_eq_true rfl)
  subst hsz
  unfold fn_Md_isCluster at hf
  refine jk_iload_n C rd_Md_isCluster_0 (k := 1) rfl ?_
  refine jk_iconst C rd_Md_isCluster_1 ?_
  refine jk_aload_n C rd_Md_isCluster_2 (k := 0) rfl ?_
  refine jk_get C in_Md (ci := 11) rfl 0 (by decide) tm_1263 0 rfl rfl rd_Md_isCluster_3 ?_
  refine jk_iconst C rd_Md_isCluster_6 ?_
  refine jk_iald C 1 0 rfl rfl (Nat.le_of_ble_eq_true rfl) rd_Md_isCluster_7 hf (fun hf => ?_)
  refine jk_iconst C rd_Md_isCluster_8 ?_
  refine jk_isub C rd_Md_isCluster_9 ?_
  obtain ⟨q10, hq10, hf⟩ := jk_bind_h hf
  refine jk_callSi C hZ.1 hz (ct_Md_inRange l D Z sq hZ cI cR x1 0 ((i_t_w 1) - 1) q10 hq10) tm_1352 tm_1353 tm_15 tm_1354 na_Md_inRange ⟨Nat.le_of_ble_eq_true rfl, Nat.le_of_ble_eq_true rfl⟩ rfl [] rfl rfl rfl (ws' := wd_Md_isCluster cI a_t a_t_w a_t_wKept a_t_saved a_t_past a_t_input a_t_n a_t_order a_t_numbers a_t_output i_t_pastMany i_t_isSaved i_t_thrown i_t_inputMany i_t_lastError i_t_lastOffset i_t_error i_t_offset i_t_nextByte i_t_begin i_t_value i_t_token i_t_got i_t_orders i_t_outputMany i_t_w) rfl (st := []) rfl (Nat.le_of_ble_eq_true rfl) rd_Md_isCluster_10 ?_ ⟨Nat.le_of_ble_eq_true rfl, Nat.le_of_ble_eq_true rfl⟩
  obtain ⟨hbo, hf⟩ := jk_bo_h hf
  cases hf
  exact jk_zret C hbo rfl rd_Md_isCluster_13 rfl
def wd_Md_isCord (cI : ClassId) (a_t a_t_w a_t_wKept a_t_saved a_t_past a_t_input a_t_n a_t_order a_t_numbers a_t_output : Nat) (i_t_pastMany : Int) (i_t_isSaved : Int) (i_t_thrown : Int) (i_t_inputMany : Int) (i_t_lastError : Int) (i_t_lastOffset : Int) (i_t_error : Int) (i_t_offset : Int) (i_t_nextByte : Int) (i_t_begin : Int) (i_t_value : Int) (i_t_token : Int) (i_t_got : Int) (i_t_orders : Int) (i_t_outputMany : Int) (i_t_w : (Int → Int)) : va_W := [(a_t, .inr (11, [.ref a_t_w, .ref a_t_wKept, .ref a_t_saved, .ref a_t_past, jk_V i_t_pastMany, jk_V i_t_isSaved, jk_V i_t_thrown, .ref a_t_input, jk_V i_t_inputMany, jk_V i_t_lastError, jk_V i_t_lastOffset, jk_V i_t_error, jk_V i_t_offset, jk_V i_t_nextByte, jk_V i_t_begin, jk_V i_t_value, jk_V i_t_token, jk_V i_t_got, .ref a_t_n, .ref a_t_order, .ref a_t_numbers, jk_V i_t_orders, .ref a_t_output, jk_V i_t_outputMany])), (a_t_w, jk_W cI 259 i_t_w)]
set_option maxHeartbeats 4000000 in
set_option maxRecDepth 20000 in
theorem ct_Md_isCord (l : Launch) (D : va_G) (Z : (Nat → Prop) → State → Heap → Prop) (sq : Nat → Nat) (hZ : jk_ZK Z sq) (cI cR : ClassId) (a_t a_t_w a_t_wKept a_t_saved a_t_past a_t_input a_t_n a_t_order a_t_numbers a_t_output : Nat) (i_t_pastMany : Int) (i_t_isSaved : Int) (i_t_thrown : Int) (i_t_inputMany : Int) (i_t_lastError : Int) (i_t_lastOffset : Int) (i_t_error : Int) (i_t_offset : Int) (i_t_nextByte : Int) (i_t_begin : Int) (i_t_value : Int) (i_t_token : Int) (i_t_got : Int) (i_t_orders : Int) (i_t_outputMany : Int) (i_t_w : (Int → Int)) (x1 : Int) (q : Int) (hf : fn_Md_isCord i_t_w x1 = some q) : jk_MI l D jk_cl (jk_ty cI cR) Z mn_Md_isCord (.code mn_Md_isCord mb_Md_isCord 2 (some .boolean) :: jk_WA) (jk_rm 1 22) [.ref a_t, jk_V x1] (wd_Md_isCord cI a_t a_t_w a_t_wKept a_t_saved a_t_past a_t_input a_t_n a_t_order a_t_numbers a_t_output i_t_pastMany i_t_isSaved i_t_thrown i_t_inputMany i_t_lastError i_t_lastOffset i_t_error i_t_offset i_t_nextByte i_t_begin i_t_value i_t_token i_t_got i_t_orders i_t_outputMany i_t_w) (wd_Md_isCord cI a_t a_t_w a_t_wKept a_t_saved a_t_past a_t_input a_t_n a_t_order a_t_numbers a_t_output i_t_pastMany i_t_isSaved i_t_thrown i_t_inputMany i_t_lastError i_t_lastOffset i_t_error i_t_offset i_t_nextByte i_t_begin i_t_value i_t_token i_t_got i_t_orders i_t_outputMany i_t_w) q := by
  intro sz
  refine jk_body (by decide +kernel) (fun p e s m args below meth c hsz hz hin C => ?_) (Nat.le_of_ble_eq_true rfl)
  subst hsz
  unfold fn_Md_isCord at hf
  refine jk_iload_n C rd_Md_isCord_0 (k := 1) rfl ?_
  refine jk_iconst C rd_Md_isCord_1 ?_
  refine jk_aload_n C rd_Md_isCord_2 (k := 0) rfl ?_
  refine jk_get C in_Md (ci := 11) rfl 0 (by decide) tm_1263 0 rfl rfl rd_Md_isCord_3 ?_
  refine jk_iconst C rd_Md_isCord_6 ?_
  refine jk_iald C 1 0 rfl rfl (Nat.le_of_ble_eq_true rfl) rd_Md_isCord_7 hf (fun hf => ?_)
  refine jk_iconst C rd_Md_isCord_8 ?_
  refine jk_isub C rd_Md_isCord_9 ?_
  obtain ⟨q10, hq10, hf⟩ := jk_bind_h hf
  refine jk_callSi C hZ.1 hz (ct_Md_inRange l D Z sq hZ cI cR x1 0 ((i_t_w 2) - 1) q10 hq10) tm_1352 tm_1353 tm_15 tm_1354 na_Md_inRange ⟨Nat.le_of_ble_eq_true rfl, Nat.le_of_ble_eq_true rfl⟩ rfl [] rfl rfl rfl (ws' := wd_Md_isCord cI a_t a_t_w a_t_wKept a_t_saved a_t_past a_t_input a_t_n a_t_order a_t_numbers a_t_output i_t_pastMany i_t_isSaved i_t_thrown i_t_inputMany i_t_lastError i_t_lastOffset i_t_error i_t_offset i_t_nextByte i_t_begin i_t_value i_t_token i_t_got i_t_orders i_t_outputMany i_t_w) rfl (st := []) rfl (Nat.le_of_ble_eq_true rfl) rd_Md_isCord_10 ?_ ⟨Nat.le_of_ble_eq_true rfl, Nat.le_of_ble_eq_true rfl⟩
  obtain ⟨hbo, hf⟩ := jk_bo_h hf
  cases hf
  exact jk_zret C hbo rfl rd_Md_isCord_13 rfl
def wd_Md_isTopic (cI : ClassId) (a_t a_t_w a_t_wKept a_t_saved a_t_past a_t_input a_t_n a_t_order a_t_numbers a_t_output : Nat) (i_t_pastMany : Int) (i_t_isSaved : Int) (i_t_thrown : Int) (i_t_inputMany : Int) (i_t_lastError : Int) (i_t_lastOffset : Int) (i_t_error : Int) (i_t_offset : Int) (i_t_nextByte : Int) (i_t_begin : Int) (i_t_value : Int) (i_t_token : Int) (i_t_got : Int) (i_t_orders : Int) (i_t_outputMany : Int) (i_t_w : (Int → Int)) : va_W := [(a_t, .inr (11, [.ref a_t_w, .ref a_t_wKept, .ref a_t_saved, .ref a_t_past, jk_V i_t_pastMany, jk_V i_t_isSaved, jk_V i_t_thrown, .ref a_t_input, jk_V i_t_inputMany, jk_V i_t_lastError, jk_V i_t_lastOffset, jk_V i_t_error, jk_V i_t_offset, jk_V i_t_nextByte, jk_V i_t_begin, jk_V i_t_value, jk_V i_t_token, jk_V i_t_got, .ref a_t_n, .ref a_t_order, .ref a_t_numbers, jk_V i_t_orders, .ref a_t_output, jk_V i_t_outputMany])), (a_t_w, jk_W cI 259 i_t_w)]
set_option maxHeartbeats 4000000 in
set_option maxRecDepth 20000 in
theorem ct_Md_isTopic (l : Launch) (D : va_G) (Z : (Nat → Prop) → State → Heap → Prop) (sq : Nat → Nat) (hZ : jk_ZK Z sq) (cI cR : ClassId) (a_t a_t_w a_t_wKept a_t_saved a_t_past a_t_input a_t_n a_t_order a_t_numbers a_t_output : Nat) (i_t_pastMany : Int) (i_t_isSaved : Int) (i_t_thrown : Int) (i_t_inputMany : Int) (i_t_lastError : Int) (i_t_lastOffset : Int) (i_t_error : Int) (i_t_offset : Int) (i_t_nextByte : Int) (i_t_begin : Int) (i_t_value : Int) (i_t_token : Int) (i_t_got : Int) (i_t_orders : Int) (i_t_outputMany : Int) (i_t_w : (Int → Int)) (x1 : Int) (q : Int) (hf : fn_Md_isTopic i_t_w x1 = some q) : jk_MI l D jk_cl (jk_ty cI cR) Z mn_Md_isTopic (.code mn_Md_isTopic mb_Md_isTopic 2 (some .boolean) :: jk_WA) (jk_rm 1 22) [.ref a_t, jk_V x1] (wd_Md_isTopic cI a_t a_t_w a_t_wKept a_t_saved a_t_past a_t_input a_t_n a_t_order a_t_numbers a_t_output i_t_pastMany i_t_isSaved i_t_thrown i_t_inputMany i_t_lastError i_t_lastOffset i_t_error i_t_offset i_t_nextByte i_t_begin i_t_value i_t_token i_t_got i_t_orders i_t_outputMany i_t_w) (wd_Md_isTopic cI a_t a_t_w a_t_wKept a_t_saved a_t_past a_t_input a_t_n a_t_order a_t_numbers a_t_output i_t_pastMany i_t_isSaved i_t_thrown i_t_inputMany i_t_lastError i_t_lastOffset i_t_error i_t_offset i_t_nextByte i_t_begin i_t_value i_t_token i_t_got i_t_orders i_t_outputMany i_t_w) q := by
  intro sz
  refine jk_body (by decide +kernel) (fun p e s m args below meth c hsz hz hin C => ?_) (Nat.le_of_ble_eq_true rfl)
  subst hsz
  unfold fn_Md_isTopic at hf
  refine jk_iload_n C rd_Md_isTopic_0 (k := 1) rfl ?_
  refine jk_iconst C rd_Md_isTopic_1 ?_
  refine jk_aload_n C rd_Md_isTopic_2 (k := 0) rfl ?_
  refine jk_get C in_Md (ci := 11) rfl 0 (by decide) tm_1263 0 rfl rfl rd_Md_isTopic_3 ?_
  refine jk_iconst C rd_Md_isTopic_6 ?_
  refine jk_iald C 1 0 rfl rfl (Nat.le_of_ble_eq_true rfl) rd_Md_isTopic_7 hf (fun hf => ?_)
  refine jk_iconst C rd_Md_isTopic_8 ?_
  refine jk_isub C rd_Md_isTopic_9 ?_
  obtain ⟨q10, hq10, hf⟩ := jk_bind_h hf
  refine jk_callSi C hZ.1 hz (ct_Md_inRange l D Z sq hZ cI cR x1 0 ((i_t_w 0) - 1) q10 hq10) tm_1352 tm_1353 tm_15 tm_1354 na_Md_inRange ⟨Nat.le_of_ble_eq_true rfl, Nat.le_of_ble_eq_true rfl⟩ rfl [] rfl rfl rfl (ws' := wd_Md_isTopic cI a_t a_t_w a_t_wKept a_t_saved a_t_past a_t_input a_t_n a_t_order a_t_numbers a_t_output i_t_pastMany i_t_isSaved i_t_thrown i_t_inputMany i_t_lastError i_t_lastOffset i_t_error i_t_offset i_t_nextByte i_t_begin i_t_value i_t_token i_t_got i_t_orders i_t_outputMany i_t_w) rfl (st := []) rfl (Nat.le_of_ble_eq_true rfl) rd_Md_isTopic_10 ?_ ⟨Nat.le_of_ble_eq_true rfl, Nat.le_of_ble_eq_true rfl⟩
  obtain ⟨hbo, hf⟩ := jk_bo_h hf
  cases hf
  exact jk_zret C hbo rfl rd_Md_isTopic_13 rfl
