theorem rd_Md_isClusterRight_0 : decode mb_Md_isClusterRight 0 = .ok (.iconst 0, 1) := by decide +kernel
theorem rd_Md_isClusterRight_1 : decode mb_Md_isClusterRight 1 = .ok (.istore_n 2, 1) := by decide +kernel
theorem rd_Md_isClusterRight_2 : decode mb_Md_isClusterRight 2 = .ok (.aload_n 0, 1) := by decide +kernel
theorem rd_Md_isClusterRight_3 : decode mb_Md_isClusterRight 3 = .ok (.iload_n 1, 1) := by decide +kernel
theorem rd_Md_isClusterRight_4 : decode mb_Md_isClusterRight 4 = .ok (.invokevirtual 100, 3) := by decide +kernel
theorem rd_Md_isClusterRight_7 : decode mb_Md_isClusterRight 7 = .ok (.istore_n 3, 1) := by decide +kernel
theorem rd_Md_isClusterRight_8 : decode mb_Md_isClusterRight 8 = .ok (.iload_n 3, 1) := by decide +kernel
theorem rd_Md_isClusterRight_9 : decode mb_Md_isClusterRight 9 = .ok (.aload_n 0, 1) := by decide +kernel
theorem rd_Md_isClusterRight_10 : decode mb_Md_isClusterRight 10 = .ok (.iload_n 1, 1) := by decide +kernel
theorem rd_Md_isClusterRight_11 : decode mb_Md_isClusterRight 11 = .ok (.invokevirtual 94, 3) := by decide +kernel
theorem rd_Md_isClusterRight_14 : decode mb_Md_isClusterRight 14 = .ok (.if_icmp .ge 20, 3) := by decide +kernel
theorem rd_Md_isClusterRight_17 : decode mb_Md_isClusterRight 17 = .ok (.iload_n 2, 1) := by decide +kernel
theorem rd_Md_isClusterRight_18 : decode mb_Md_isClusterRight 18 = .ok (.aload_n 0, 1) := by decide +kernel
theorem rd_Md_isClusterRight_19 : decode mb_Md_isClusterRight 19 = .ok (.iload_n 3, 1) := by decide +kernel
theorem rd_Md_isClusterRight_20 : decode mb_Md_isClusterRight 20 = .ok (.invokevirtual 384, 3) := by decide +kernel
theorem rd_Md_isClusterRight_23 : decode mb_Md_isClusterRight 23 = .ok (.iadd, 1) := by decide +kernel
theorem rd_Md_isClusterRight_24 : decode mb_Md_isClusterRight 24 = .ok (.istore_n 2, 1) := by decide +kernel
theorem rd_Md_isClusterRight_25 : decode mb_Md_isClusterRight 25 = .ok (.aload_n 0, 1) := by decide +kernel
theorem rd_Md_isClusterRight_26 : decode mb_Md_isClusterRight 26 = .ok (.iload_n 3, 1) := by decide +kernel
theorem rd_Md_isClusterRight_27 : decode mb_Md_isClusterRight 27 = .ok (.invokevirtual 76, 3) := by decide +kernel
theorem rd_Md_isClusterRight_30 : decode mb_Md_isClusterRight 30 = .ok (.istore_n 3, 1) := by decide +kernel
theorem rd_Md_isClusterRight_31 : decode mb_Md_isClusterRight 31 = .ok (.goto (-23), 3) := by decide +kernel
theorem rd_Md_isClusterRight_34 : decode mb_Md_isClusterRight 34 = .ok (.iload_n 2, 1) := by decide +kernel
theorem rd_Md_isClusterRight_35 : decode mb_Md_isClusterRight 35 = .ok (.aload_n 0, 1) := by decide +kernel
theorem rd_Md_isClusterRight_36 : decode mb_Md_isClusterRight 36 = .ok (.iload_n 1, 1) := by decide +kernel
theorem rd_Md_isClusterRight_37 : decode mb_Md_isClusterRight 37 = .ok (.invokevirtual 106, 3) := by decide +kernel
theorem rd_Md_isClusterRight_40 : decode mb_Md_isClusterRight 40 = .ok (.if_icmp .eq 5, 3) := by decide +kernel
theorem rd_Md_isClusterRight_43 : decode mb_Md_isClusterRight 43 = .ok (.iconst 0, 1) := by decide +kernel
theorem rd_Md_isClusterRight_44 : decode mb_Md_isClusterRight 44 = .ok (.ireturn, 1) := by decide +kernel
theorem rd_Md_isClusterRight_45 : decode mb_Md_isClusterRight 45 = .ok (.aload_n 0, 1) := by decide +kernel
theorem rd_Md_isClusterRight_46 : decode mb_Md_isClusterRight 46 = .ok (.iload_n 1, 1) := by decide +kernel
theorem rd_Md_isClusterRight_47 : decode mb_Md_isClusterRight 47 = .ok (.invokevirtual 327, 3) := by decide +kernel
theorem rd_Md_isClusterRight_50 : decode mb_Md_isClusterRight 50 = .ok (.ifCond .eq 5, 3) := by decide +kernel
theorem rd_Md_isClusterRight_53 : decode mb_Md_isClusterRight 53 = .ok (.iconst 1, 1) := by decide +kernel
theorem rd_Md_isClusterRight_54 : decode mb_Md_isClusterRight 54 = .ok (.ireturn, 1) := by decide +kernel
theorem rd_Md_isClusterRight_55 : decode mb_Md_isClusterRight 55 = .ok (.aload_n 0, 1) := by decide +kernel
theorem rd_Md_isClusterRight_56 : decode mb_Md_isClusterRight 56 = .ok (.iload_n 1, 1) := by decide +kernel
theorem rd_Md_isClusterRight_57 : decode mb_Md_isClusterRight 57 = .ok (.invokevirtual 109, 3) := by decide +kernel
theorem rd_Md_isClusterRight_60 : decode mb_Md_isClusterRight 60 = .ok (.istore_n 3, 1) := by decide +kernel
theorem rd_Md_isClusterRight_61 : decode mb_Md_isClusterRight 61 = .ok (.aload_n 0, 1) := by decide +kernel
theorem rd_Md_isClusterRight_62 : decode mb_Md_isClusterRight 62 = .ok (.iload_n 1, 1) := by decide +kernel
theorem rd_Md_isClusterRight_63 : decode mb_Md_isClusterRight 63 = .ok (.invokevirtual 106, 3) := by decide +kernel
theorem rd_Md_isClusterRight_66 : decode mb_Md_isClusterRight 66 = .ok (.aload_n 0, 1) := by decide +kernel
theorem rd_Md_isClusterRight_67 : decode mb_Md_isClusterRight 67 = .ok (.iload_n 3, 1) := by decide +kernel
theorem rd_Md_isClusterRight_68 : decode mb_Md_isClusterRight 68 = .ok (.iconst 1, 1) := by decide +kernel
theorem rd_Md_isClusterRight_69 : decode mb_Md_isClusterRight 69 = .ok (.invokevirtual 63, 3) := by decide +kernel
theorem rd_Md_isClusterRight_72 : decode mb_Md_isClusterRight 72 = .ok (.ifCond .ne 7, 3) := by decide +kernel
theorem rd_Md_isClusterRight_75 : decode mb_Md_isClusterRight 75 = .ok (.iconst 0, 1) := by decide +kernel
theorem rd_Md_isClusterRight_76 : decode mb_Md_isClusterRight 76 = .ok (.goto 15, 3) := by decide +kernel
theorem rd_Md_isClusterRight_79 : decode mb_Md_isClusterRight 79 = .ok (.aload_n 0, 1) := by decide +kernel
theorem rd_Md_isClusterRight_80 : decode mb_Md_isClusterRight 80 = .ok (.iload_n 1, 1) := by decide +kernel
theorem rd_Md_isClusterRight_81 : decode mb_Md_isClusterRight 81 = .ok (.invokevirtual 112, 3) := by decide +kernel
theorem rd_Md_isClusterRight_84 : decode mb_Md_isClusterRight 84 = .ok (.aload_n 0, 1) := by decide +kernel
theorem rd_Md_isClusterRight_85 : decode mb_Md_isClusterRight 85 = .ok (.iload_n 3, 1) := by decide +kernel
theorem rd_Md_isClusterRight_86 : decode mb_Md_isClusterRight 86 = .ok (.iconst 3, 1) := by decide +kernel
theorem rd_Md_isClusterRight_87 : decode mb_Md_isClusterRight 87 = .ok (.invokevirtual 63, 3) := by decide +kernel
theorem rd_Md_isClusterRight_90 : decode mb_Md_isClusterRight 90 = .ok (.isub, 1) := by decide +kernel
theorem rd_Md_isClusterRight_91 : decode mb_Md_isClusterRight 91 = .ok (.iadd, 1) := by decide +kernel
theorem rd_Md_isClusterRight_92 : decode mb_Md_isClusterRight 92 = .ok (.istore 4, 2) := by decide +kernel
theorem rd_Md_isClusterRight_94 : decode mb_Md_isClusterRight 94 = .ok (.iload 4, 2) := by decide +kernel
theorem rd_Md_isClusterRight_96 : decode mb_Md_isClusterRight 96 = .ok (.aload_n 0, 1) := by decide +kernel
theorem rd_Md_isClusterRight_97 : decode mb_Md_isClusterRight 97 = .ok (.iload_n 3, 1) := by decide +kernel
theorem rd_Md_isClusterRight_98 : decode mb_Md_isClusterRight 98 = .ok (.iconst 1, 1) := by decide +kernel
theorem rd_Md_isClusterRight_99 : decode mb_Md_isClusterRight 99 = .ok (.invokevirtual 63, 3) := by decide +kernel
theorem rd_Md_isClusterRight_102 : decode mb_Md_isClusterRight 102 = .ok (.ifCond .ne 11, 3) := by decide +kernel
theorem rd_Md_isClusterRight_105 : decode mb_Md_isClusterRight 105 = .ok (.aload_n 0, 1) := by decide +kernel
theorem rd_Md_isClusterRight_106 : decode mb_Md_isClusterRight 106 = .ok (.iload_n 1, 1) := by decide +kernel
theorem rd_Md_isClusterRight_107 : decode mb_Md_isClusterRight 107 = .ok (.invokevirtual 112, 3) := by decide +kernel
theorem rd_Md_isClusterRight_110 : decode mb_Md_isClusterRight 110 = .ok (.goto 13, 3) := by decide +kernel
theorem rd_Md_isClusterRight_113 : decode mb_Md_isClusterRight 113 = .ok (.aload_n 0, 1) := by decide +kernel
theorem rd_Md_isClusterRight_114 : decode mb_Md_isClusterRight 114 = .ok (.aload_n 0, 1) := by decide +kernel
theorem rd_Md_isClusterRight_115 : decode mb_Md_isClusterRight 115 = .ok (.iload_n 1, 1) := by decide +kernel
theorem rd_Md_isClusterRight_116 : decode mb_Md_isClusterRight 116 = .ok (.invokevirtual 91, 3) := by decide +kernel
theorem rd_Md_isClusterRight_119 : decode mb_Md_isClusterRight 119 = .ok (.iconst 3, 1) := by decide +kernel
theorem rd_Md_isClusterRight_120 : decode mb_Md_isClusterRight 120 = .ok (.invokevirtual 63, 3) := by decide +kernel
theorem rd_Md_isClusterRight_123 : decode mb_Md_isClusterRight 123 = .ok (.if_icmp .ne 7, 3) := by decide +kernel
theorem rd_Md_isClusterRight_126 : decode mb_Md_isClusterRight 126 = .ok (.iconst 1, 1) := by decide +kernel
theorem rd_Md_isClusterRight_127 : decode mb_Md_isClusterRight 127 = .ok (.goto 4, 3) := by decide +kernel
theorem rd_Md_isClusterRight_130 : decode mb_Md_isClusterRight 130 = .ok (.iconst 0, 1) := by decide +kernel
theorem rd_Md_isClusterRight_131 : decode mb_Md_isClusterRight 131 = .ok (.ireturn, 1) := by decide +kernel
theorem rd_Md_isConsistent_0 : decode mb_Md_isConsistent 0 = .ok (.aload_n 0, 1) := by decide +kernel
theorem rd_Md_isConsistent_1 : decode mb_Md_isConsistent 1 = .ok (.iconst 0, 1) := by decide +kernel
theorem rd_Md_isConsistent_2 : decode mb_Md_isConsistent 2 = .ok (.putfield 56, 3) := by decide +kernel
theorem rd_Md_isConsistent_5 : decode mb_Md_isConsistent 5 = .ok (.iconst 0, 1) := by decide +kernel
theorem rd_Md_isConsistent_6 : decode mb_Md_isConsistent 6 = .ok (.istore_n 1, 1) := by decide +kernel
theorem rd_Md_isConsistent_7 : decode mb_Md_isConsistent 7 = .ok (.iconst 0, 1) := by decide +kernel
theorem rd_Md_isConsistent_8 : decode mb_Md_isConsistent 8 = .ok (.istore_n 2, 1) := by decide +kernel
theorem rd_Md_isConsistent_9 : decode mb_Md_isConsistent 9 = .ok (.iload_n 2, 1) := by decide +kernel
theorem rd_Md_isConsistent_10 : decode mb_Md_isConsistent 10 = .ok (.aload_n 0, 1) := by decide +kernel
theorem rd_Md_isConsistent_11 : decode mb_Md_isConsistent 11 = .ok (.getfield 7, 3) := by decide +kernel
theorem rd_Md_isConsistent_14 : decode mb_Md_isConsistent 14 = .ok (.iconst 1, 1) := by decide +kernel
theorem rd_Md_isConsistent_15 : decode mb_Md_isConsistent 15 = .ok (.iaload, 1) := by decide +kernel
theorem rd_Md_isConsistent_16 : decode mb_Md_isConsistent 16 = .ok (.if_icmp .ge 33, 3) := by decide +kernel
theorem rd_Md_isConsistent_19 : decode mb_Md_isConsistent 19 = .ok (.aload_n 0, 1) := by decide +kernel
theorem rd_Md_isConsistent_20 : decode mb_Md_isConsistent 20 = .ok (.iload_n 2, 1) := by decide +kernel
theorem rd_Md_isConsistent_21 : decode mb_Md_isConsistent 21 = .ok (.invokevirtual 387, 3) := by decide +kernel
theorem rd_Md_isConsistent_24 : decode mb_Md_isConsistent 24 = .ok (.ifCond .ne 5, 3) := by decide +kernel
theorem rd_Md_isConsistent_27 : decode mb_Md_isConsistent 27 = .ok (.iconst 0, 1) := by decide +kernel
theorem rd_Md_isConsistent_28 : decode mb_Md_isConsistent 28 = .ok (.ireturn, 1) := by decide +kernel
theorem rd_Md_isConsistent_29 : decode mb_Md_isConsistent 29 = .ok (.iload_n 1, 1) := by decide +kernel
theorem rd_Md_isConsistent_30 : decode mb_Md_isConsistent 30 = .ok (.aload_n 0, 1) := by decide +kernel
theorem rd_Md_isConsistent_31 : decode mb_Md_isConsistent 31 = .ok (.iload_n 2, 1) := by decide +kernel
theorem rd_Md_isConsistent_32 : decode mb_Md_isConsistent 32 = .ok (.invokevirtual 94, 3) := by decide +kernel
theorem rd_Md_isConsistent_35 : decode mb_Md_isConsistent 35 = .ok (.aload_n 0, 1) := by decide +kernel
theorem rd_Md_isConsistent_36 : decode mb_Md_isConsistent 36 = .ok (.iload_n 2, 1) := by decide +kernel
theorem rd_Md_isConsistent_37 : decode mb_Md_isConsistent 37 = .ok (.invokevirtual 91, 3) := by decide +kernel
theorem rd_Md_isConsistent_40 : decode mb_Md_isConsistent 40 = .ok (.isub, 1) := by decide +kernel
theorem rd_Md_isConsistent_41 : decode mb_Md_isConsistent 41 = .ok (.iadd, 1) := by decide +kernel
theorem rd_Md_isConsistent_42 : decode mb_Md_isConsistent 42 = .ok (.istore_n 1, 1) := by decide +kernel
theorem rd_Md_isConsistent_43 : decode mb_Md_isConsistent 43 = .ok (.iinc 2 1, 3) := by decide +kernel
theorem rd_Md_isConsistent_46 : decode mb_Md_isConsistent 46 = .ok (.goto (-37), 3) := by decide +kernel
theorem rd_Md_isConsistent_49 : decode mb_Md_isConsistent 49 = .ok (.iconst 0, 1) := by decide +kernel
theorem rd_Md_isConsistent_50 : decode mb_Md_isConsistent 50 = .ok (.istore_n 2, 1) := by decide +kernel
theorem rd_Md_isConsistent_51 : decode mb_Md_isConsistent 51 = .ok (.iload_n 2, 1) := by decide +kernel
theorem rd_Md_isConsistent_52 : decode mb_Md_isConsistent 52 = .ok (.aload_n 0, 1) := by decide +kernel
theorem rd_Md_isConsistent_53 : decode mb_Md_isConsistent 53 = .ok (.getfield 7, 3) := by decide +kernel
theorem rd_Md_isConsistent_56 : decode mb_Md_isConsistent 56 = .ok (.iconst 2, 1) := by decide +kernel
theorem rd_Md_isConsistent_57 : decode mb_Md_isConsistent 57 = .ok (.iaload, 1) := by decide +kernel
theorem rd_Md_isConsistent_58 : decode mb_Md_isConsistent 58 = .ok (.if_icmp .ge 19, 3) := by decide +kernel
theorem rd_Md_isConsistent_61 : decode mb_Md_isConsistent 61 = .ok (.aload_n 0, 1) := by decide +kernel
theorem rd_Md_isConsistent_62 : decode mb_Md_isConsistent 62 = .ok (.iload_n 2, 1) := by decide +kernel
theorem rd_Md_isConsistent_63 : decode mb_Md_isConsistent 63 = .ok (.invokevirtual 390, 3) := by decide +kernel
theorem rd_Md_isConsistent_66 : decode mb_Md_isConsistent 66 = .ok (.ifCond .ne 5, 3) := by decide +kernel
theorem rd_Md_isConsistent_69 : decode mb_Md_isConsistent 69 = .ok (.iconst 0, 1) := by decide +kernel
theorem rd_Md_isConsistent_70 : decode mb_Md_isConsistent 70 = .ok (.ireturn, 1) := by decide +kernel
theorem rd_Md_isConsistent_71 : decode mb_Md_isConsistent 71 = .ok (.iinc 2 1, 3) := by decide +kernel
theorem rd_Md_isConsistent_74 : decode mb_Md_isConsistent 74 = .ok (.goto (-23), 3) := by decide +kernel
theorem rd_Md_isConsistent_77 : decode mb_Md_isConsistent 77 = .ok (.iload_n 1, 1) := by decide +kernel
theorem rd_Md_isConsistent_78 : decode mb_Md_isConsistent 78 = .ok (.aload_n 0, 1) := by decide +kernel
theorem rd_Md_isConsistent_79 : decode mb_Md_isConsistent 79 = .ok (.getfield 7, 3) := by decide +kernel
theorem rd_Md_isConsistent_82 : decode mb_Md_isConsistent 82 = .ok (.iconst 2, 1) := by decide +kernel
theorem rd_Md_isConsistent_83 : decode mb_Md_isConsistent 83 = .ok (.iaload, 1) := by decide +kernel
theorem rd_Md_isConsistent_84 : decode mb_Md_isConsistent 84 = .ok (.if_icmp .ne 7, 3) := by decide +kernel
theorem rd_Md_isConsistent_87 : decode mb_Md_isConsistent 87 = .ok (.iconst 1, 1) := by decide +kernel
theorem rd_Md_isConsistent_88 : decode mb_Md_isConsistent 88 = .ok (.goto 4, 3) := by decide +kernel
theorem rd_Md_isConsistent_91 : decode mb_Md_isConsistent 91 = .ok (.iconst 0, 1) := by decide +kernel
theorem rd_Md_isConsistent_92 : decode mb_Md_isConsistent 92 = .ok (.ireturn, 1) := by decide +kernel
theorem rd_Md_addCluster_0 : decode mb_Md_addCluster 0 = .ok (.aload_n 0, 1) := by decide +kernel
theorem rd_Md_addCluster_1 : decode mb_Md_addCluster 1 = .ok (.iconst 0, 1) := by decide +kernel
theorem rd_Md_addCluster_2 : decode mb_Md_addCluster 2 = .ok (.putfield 56, 3) := by decide +kernel
theorem rd_Md_addCluster_5 : decode mb_Md_addCluster 5 = .ok (.aload_n 0, 1) := by decide +kernel
theorem rd_Md_addCluster_6 : decode mb_Md_addCluster 6 = .ok (.aload_n 0, 1) := by decide +kernel
theorem rd_Md_addCluster_7 : decode mb_Md_addCluster 7 = .ok (.getfield 7, 3) := by decide +kernel
theorem rd_Md_addCluster_10 : decode mb_Md_addCluster 10 = .ok (.iconst 1, 1) := by decide +kernel
theorem rd_Md_addCluster_11 : decode mb_Md_addCluster 11 = .ok (.iaload, 1) := by decide +kernel
theorem rd_Md_addCluster_12 : decode mb_Md_addCluster 12 = .ok (.bipush 6, 2) := by decide +kernel
theorem rd_Md_addCluster_14 : decode mb_Md_addCluster 14 = .ok (.if_icmp .ne 7, 3) := by decide +kernel
theorem rd_Md_addCluster_17 : decode mb_Md_addCluster 17 = .ok (.iconst 1, 1) := by decide +kernel
theorem rd_Md_addCluster_18 : decode mb_Md_addCluster 18 = .ok (.goto 4, 3) := by decide +kernel
theorem rd_Md_addCluster_21 : decode mb_Md_addCluster 21 = .ok (.iconst 0, 1) := by decide +kernel
theorem rd_Md_addCluster_22 : decode mb_Md_addCluster 22 = .ok (.iconst 1, 1) := by decide +kernel
theorem rd_Md_addCluster_23 : decode mb_Md_addCluster 23 = .ok (.invokevirtual 345, 3) := by decide +kernel
theorem rd_Md_addCluster_26 : decode mb_Md_addCluster 26 = .ok (.ifCond .eq 5, 3) := by decide +kernel
theorem rd_Md_addCluster_29 : decode mb_Md_addCluster 29 = .ok (.iconst 0, 1) := by decide +kernel
theorem rd_Md_addCluster_30 : decode mb_Md_addCluster 30 = .ok (.ireturn, 1) := by decide +kernel
theorem rd_Md_addCluster_31 : decode mb_Md_addCluster 31 = .ok (.aload_n 0, 1) := by decide +kernel
theorem rd_Md_addCluster_32 : decode mb_Md_addCluster 32 = .ok (.invokevirtual 336, 3) := by decide +kernel
theorem rd_Md_addCluster_35 : decode mb_Md_addCluster 35 = .ok (.aload_n 0, 1) := by decide +kernel
theorem rd_Md_addCluster_36 : decode mb_Md_addCluster 36 = .ok (.invokevirtual 293, 3) := by decide +kernel
theorem rd_Md_addCluster_39 : decode mb_Md_addCluster 39 = .ok (.ireturn, 1) := by decide +kernel
theorem rd_Md_noValue_0 : decode mb_Md_noValue 0 = .ok (.aload_n 0, 1) := by decide +kernel
theorem rd_Md_noValue_1 : decode mb_Md_noValue 1 = .ok (.iload_n 1, 1) := by decide +kernel
theorem rd_Md_noValue_2 : decode mb_Md_noValue 2 = .ok (.iconst 0, 1) := by decide +kernel
theorem rd_Md_noValue_3 : decode mb_Md_noValue 3 = .ok (.sipush 9999, 3) := by decide +kernel
theorem rd_Md_noValue_6 : decode mb_Md_noValue 6 = .ok (.invokestatic 115, 3) := by decide +kernel
theorem rd_Md_noValue_9 : decode mb_Md_noValue 9 = .ok (.ifCond .ne 7, 3) := by decide +kernel
theorem rd_Md_noValue_12 : decode mb_Md_noValue 12 = .ok (.iconst 1, 1) := by decide +kernel
theorem rd_Md_noValue_13 : decode mb_Md_noValue 13 = .ok (.goto 4, 3) := by decide +kernel
theorem rd_Md_noValue_16 : decode mb_Md_noValue 16 = .ok (.iconst 0, 1) := by decide +kernel
theorem rd_Md_noValue_17 : decode mb_Md_noValue 17 = .ok (.iconst 2, 1) := by decide +kernel
theorem rd_Md_noValue_18 : decode mb_Md_noValue 18 = .ok (.invokevirtual 345, 3) := by decide +kernel
theorem rd_Md_noValue_21 : decode mb_Md_noValue 21 = .ok (.ireturn, 1) := by decide +kernel
theorem rd_Md_addPendant_0 : decode mb_Md_addPendant 0 = .ok (.aload_n 0, 1) := by decide +kernel
theorem rd_Md_addPendant_1 : decode mb_Md_addPendant 1 = .ok (.iconst 0, 1) := by decide +kernel
theorem rd_Md_addPendant_2 : decode mb_Md_addPendant 2 = .ok (.putfield 56, 3) := by decide +kernel
theorem rd_Md_addPendant_5 : decode mb_Md_addPendant 5 = .ok (.aload_n 0, 1) := by decide +kernel
theorem rd_Md_addPendant_6 : decode mb_Md_addPendant 6 = .ok (.iload_n 1, 1) := by decide +kernel
theorem rd_Md_addPendant_7 : decode mb_Md_addPendant 7 = .ok (.invokevirtual 364, 3) := by decide +kernel
theorem rd_Md_addPendant_10 : decode mb_Md_addPendant 10 = .ok (.ifCond .ne 39, 3) := by decide +kernel
theorem rd_Md_addPendant_13 : decode mb_Md_addPendant 13 = .ok (.aload_n 0, 1) := by decide +kernel
theorem rd_Md_addPendant_14 : decode mb_Md_addPendant 14 = .ok (.iload_n 2, 1) := by decide +kernel
theorem rd_Md_addPendant_15 : decode mb_Md_addPendant 15 = .ok (.invokevirtual 372, 3) := by decide +kernel
theorem rd_Md_addPendant_18 : decode mb_Md_addPendant 18 = .ok (.ifCond .ne 31, 3) := by decide +kernel
theorem rd_Md_addPendant_21 : decode mb_Md_addPendant 21 = .ok (.aload_n 0, 1) := by decide +kernel
theorem rd_Md_addPendant_22 : decode mb_Md_addPendant 22 = .ok (.iload_n 3, 1) := by decide +kernel
theorem rd_Md_addPendant_23 : decode mb_Md_addPendant 23 = .ok (.invokevirtual 393, 3) := by decide +kernel
theorem rd_Md_addPendant_26 : decode mb_Md_addPendant 26 = .ok (.ifCond .ne 23, 3) := by decide +kernel
theorem rd_Md_addPendant_29 : decode mb_Md_addPendant 29 = .ok (.aload_n 0, 1) := by decide +kernel
theorem rd_Md_addPendant_30 : decode mb_Md_addPendant 30 = .ok (.aload_n 0, 1) := by decide +kernel
theorem rd_Md_addPendant_31 : decode mb_Md_addPendant 31 = .ok (.invokevirtual 122, 3) := by decide +kernel
theorem rd_Md_addPendant_34 : decode mb_Md_addPendant 34 = .ok (.ifCond .ne 7, 3) := by decide +kernel
theorem rd_Md_addPendant_37 : decode mb_Md_addPendant 37 = .ok (.iconst 1, 1) := by decide +kernel
theorem rd_Md_addPendant_38 : decode mb_Md_addPendant 38 = .ok (.goto 4, 3) := by decide +kernel
theorem rd_Md_addPendant_41 : decode mb_Md_addPendant 41 = .ok (.iconst 0, 1) := by decide +kernel
theorem rd_Md_addPendant_42 : decode mb_Md_addPendant 42 = .ok (.iconst 3, 1) := by decide +kernel
theorem rd_Md_addPendant_43 : decode mb_Md_addPendant 43 = .ok (.invokevirtual 345, 3) := by decide +kernel
theorem rd_Md_addPendant_46 : decode mb_Md_addPendant 46 = .ok (.ifCond .eq 5, 3) := by decide +kernel
theorem rd_Md_addPendant_49 : decode mb_Md_addPendant 49 = .ok (.iconst 0, 1) := by decide +kernel
theorem rd_Md_addPendant_50 : decode mb_Md_addPendant 50 = .ok (.ireturn, 1) := by decide +kernel
theorem rd_Md_addPendant_51 : decode mb_Md_addPendant 51 = .ok (.aload_n 0, 1) := by decide +kernel
theorem rd_Md_addPendant_52 : decode mb_Md_addPendant 52 = .ok (.invokevirtual 336, 3) := by decide +kernel
theorem rd_Md_addPendant_55 : decode mb_Md_addPendant 55 = .ok (.aload_n 0, 1) := by decide +kernel
theorem rd_Md_addPendant_56 : decode mb_Md_addPendant 56 = .ok (.iload_n 1, 1) := by decide +kernel
theorem rd_Md_addPendant_57 : decode mb_Md_addPendant 57 = .ok (.iload_n 2, 1) := by decide +kernel
theorem rd_Md_addPendant_58 : decode mb_Md_addPendant 58 = .ok (.iload_n 3, 1) := by decide +kernel
theorem rd_Md_addPendant_59 : decode mb_Md_addPendant 59 = .ok (.invokevirtual 299, 3) := by decide +kernel
theorem rd_Md_addPendant_62 : decode mb_Md_addPendant 62 = .ok (.ireturn, 1) := by decide +kernel
theorem rd_Md_addSubsidiary_0 : decode mb_Md_addSubsidiary 0 = .ok (.aload_n 0, 1) := by decide +kernel
theorem rd_Md_addSubsidiary_1 : decode mb_Md_addSubsidiary 1 = .ok (.iconst 0, 1) := by decide +kernel
theorem rd_Md_addSubsidiary_2 : decode mb_Md_addSubsidiary 2 = .ok (.putfield 56, 3) := by decide +kernel
theorem rd_Md_addSubsidiary_5 : decode mb_Md_addSubsidiary 5 = .ok (.aload_n 0, 1) := by decide +kernel
theorem rd_Md_addSubsidiary_6 : decode mb_Md_addSubsidiary 6 = .ok (.iload_n 1, 1) := by decide +kernel
theorem rd_Md_addSubsidiary_7 : decode mb_Md_addSubsidiary 7 = .ok (.invokevirtual 349, 3) := by decide +kernel
theorem rd_Md_addSubsidiary_10 : decode mb_Md_addSubsidiary 10 = .ok (.ifCond .ne 40, 3) := by decide +kernel
theorem rd_Md_addSubsidiary_13 : decode mb_Md_addSubsidiary 13 = .ok (.aload_n 0, 1) := by decide +kernel
theorem rd_Md_addSubsidiary_14 : decode mb_Md_addSubsidiary 14 = .ok (.iload_n 2, 1) := by decide +kernel
theorem rd_Md_addSubsidiary_15 : decode mb_Md_addSubsidiary 15 = .ok (.invokevirtual 372, 3) := by decide +kernel
theorem rd_Md_addSubsidiary_18 : decode mb_Md_addSubsidiary 18 = .ok (.ifCond .ne 32, 3) := by decide +kernel
theorem rd_Md_addSubsidiary_21 : decode mb_Md_addSubsidiary 21 = .ok (.aload_n 0, 1) := by decide +kernel
theorem rd_Md_addSubsidiary_22 : decode mb_Md_addSubsidiary 22 = .ok (.iload_n 3, 1) := by decide +kernel
theorem rd_Md_addSubsidiary_23 : decode mb_Md_addSubsidiary 23 = .ok (.invokevirtual 393, 3) := by decide +kernel
theorem rd_Md_addSubsidiary_26 : decode mb_Md_addSubsidiary 26 = .ok (.ifCond .ne 24, 3) := by decide +kernel
theorem rd_Md_addSubsidiary_29 : decode mb_Md_addSubsidiary 29 = .ok (.aload_n 0, 1) := by decide +kernel
theorem rd_Md_addSubsidiary_30 : decode mb_Md_addSubsidiary 30 = .ok (.aload_n 0, 1) := by decide +kernel
theorem rd_Md_addSubsidiary_31 : decode mb_Md_addSubsidiary 31 = .ok (.iload_n 1, 1) := by decide +kernel
theorem rd_Md_addSubsidiary_32 : decode mb_Md_addSubsidiary 32 = .ok (.invokevirtual 306, 3) := by decide +kernel
theorem rd_Md_addSubsidiary_35 : decode mb_Md_addSubsidiary 35 = .ok (.ifCond .ne 7, 3) := by decide +kernel
theorem rd_Md_addSubsidiary_38 : decode mb_Md_addSubsidiary 38 = .ok (.iconst 1, 1) := by decide +kernel
theorem rd_Md_addSubsidiary_39 : decode mb_Md_addSubsidiary 39 = .ok (.goto 4, 3) := by decide +kernel
theorem rd_Md_addSubsidiary_42 : decode mb_Md_addSubsidiary 42 = .ok (.iconst 0, 1) := by decide +kernel
theorem rd_Md_addSubsidiary_43 : decode mb_Md_addSubsidiary 43 = .ok (.iconst 3, 1) := by decide +kernel
theorem rd_Md_addSubsidiary_44 : decode mb_Md_addSubsidiary 44 = .ok (.invokevirtual 345, 3) := by decide +kernel
theorem rd_Md_addSubsidiary_47 : decode mb_Md_addSubsidiary 47 = .ok (.ifCond .eq 5, 3) := by decide +kernel
theorem rd_Md_addSubsidiary_50 : decode mb_Md_addSubsidiary 50 = .ok (.iconst 0, 1) := by decide +kernel
theorem rd_Md_addSubsidiary_51 : decode mb_Md_addSubsidiary 51 = .ok (.ireturn, 1) := by decide +kernel
theorem rd_Md_addSubsidiary_52 : decode mb_Md_addSubsidiary 52 = .ok (.aload_n 0, 1) := by decide +kernel
theorem rd_Md_addSubsidiary_53 : decode mb_Md_addSubsidiary 53 = .ok (.invokevirtual 336, 3) := by decide +kernel
theorem rd_Md_addSubsidiary_56 : decode mb_Md_addSubsidiary 56 = .ok (.aload_n 0, 1) := by decide +kernel
theorem rd_Md_addSubsidiary_57 : decode mb_Md_addSubsidiary 57 = .ok (.iload_n 1, 1) := by decide +kernel
theorem rd_Md_addSubsidiary_58 : decode mb_Md_addSubsidiary 58 = .ok (.iload_n 2, 1) := by decide +kernel
theorem rd_Md_addSubsidiary_59 : decode mb_Md_addSubsidiary 59 = .ok (.iload_n 3, 1) := by decide +kernel
theorem rd_Md_addSubsidiary_60 : decode mb_Md_addSubsidiary 60 = .ok (.invokevirtual 309, 3) := by decide +kernel
theorem rd_Md_addSubsidiary_63 : decode mb_Md_addSubsidiary 63 = .ok (.ireturn, 1) := by decide +kernel
theorem rd_Md_cut_0 : decode mb_Md_cut 0 = .ok (.aload_n 0, 1) := by decide +kernel
theorem rd_Md_cut_1 : decode mb_Md_cut 1 = .ok (.iconst 0, 1) := by decide +kernel
theorem rd_Md_cut_2 : decode mb_Md_cut 2 = .ok (.putfield 56, 3) := by decide +kernel
theorem rd_Md_cut_5 : decode mb_Md_cut 5 = .ok (.aload_n 0, 1) := by decide +kernel
theorem rd_Md_cut_6 : decode mb_Md_cut 6 = .ok (.iload_n 1, 1) := by decide +kernel
theorem rd_Md_cut_7 : decode mb_Md_cut 7 = .ok (.invokevirtual 349, 3) := by decide +kernel
theorem rd_Md_cut_10 : decode mb_Md_cut 10 = .ok (.ifCond .eq 5, 3) := by decide +kernel
theorem rd_Md_cut_13 : decode mb_Md_cut 13 = .ok (.iconst 0, 1) := by decide +kernel
theorem rd_Md_cut_14 : decode mb_Md_cut 14 = .ok (.ireturn, 1) := by decide +kernel
theorem rd_Md_cut_15 : decode mb_Md_cut 15 = .ok (.aload_n 0, 1) := by decide +kernel
theorem rd_Md_cut_16 : decode mb_Md_cut 16 = .ok (.invokevirtual 336, 3) := by decide +kernel
theorem rd_Md_cut_19 : decode mb_Md_cut 19 = .ok (.aload_n 0, 1) := by decide +kernel
theorem rd_Md_cut_20 : decode mb_Md_cut 20 = .ok (.iload_n 1, 1) := by decide +kernel
theorem rd_Md_cut_21 : decode mb_Md_cut 21 = .ok (.invokevirtual 312, 3) := by decide +kernel
theorem rd_Md_cut_24 : decode mb_Md_cut 24 = .ok (.ireturn, 1) := by decide +kernel
theorem rd_Md_tieTop_0 : decode mb_Md_tieTop 0 = .ok (.aload_n 0, 1) := by decide +kernel
theorem rd_Md_tieTop_1 : decode mb_Md_tieTop 1 = .ok (.iconst 0, 1) := by decide +kernel
theorem rd_Md_tieTop_2 : decode mb_Md_tieTop 2 = .ok (.putfield 56, 3) := by decide +kernel
theorem rd_Md_tieTop_5 : decode mb_Md_tieTop 5 = .ok (.aload_n 0, 1) := by decide +kernel
theorem rd_Md_tieTop_6 : decode mb_Md_tieTop 6 = .ok (.iload_n 1, 1) := by decide +kernel
theorem rd_Md_tieTop_7 : decode mb_Md_tieTop 7 = .ok (.invokevirtual 364, 3) := by decide +kernel
theorem rd_Md_tieTop_10 : decode mb_Md_tieTop 10 = .ok (.ifCond .ne 32, 3) := by decide +kernel
theorem rd_Md_tieTop_13 : decode mb_Md_tieTop 13 = .ok (.aload_n 0, 1) := by decide +kernel
theorem rd_Md_tieTop_14 : decode mb_Md_tieTop 14 = .ok (.iload_n 2, 1) := by decide +kernel
theorem rd_Md_tieTop_15 : decode mb_Md_tieTop 15 = .ok (.invokevirtual 372, 3) := by decide +kernel
theorem rd_Md_tieTop_18 : decode mb_Md_tieTop 18 = .ok (.ifCond .ne 24, 3) := by decide +kernel
theorem rd_Md_tieTop_21 : decode mb_Md_tieTop 21 = .ok (.aload_n 0, 1) := by decide +kernel
theorem rd_Md_tieTop_22 : decode mb_Md_tieTop 22 = .ok (.aload_n 0, 1) := by decide +kernel
theorem rd_Md_tieTop_23 : decode mb_Md_tieTop 23 = .ok (.iload_n 1, 1) := by decide +kernel
theorem rd_Md_tieTop_24 : decode mb_Md_tieTop 24 = .ok (.invokevirtual 315, 3) := by decide +kernel
theorem rd_Md_tieTop_27 : decode mb_Md_tieTop 27 = .ok (.ifCond .ne 7, 3) := by decide +kernel
theorem rd_Md_tieTop_30 : decode mb_Md_tieTop 30 = .ok (.iconst 1, 1) := by decide +kernel
theorem rd_Md_tieTop_31 : decode mb_Md_tieTop 31 = .ok (.goto 4, 3) := by decide +kernel
theorem rd_Md_tieTop_34 : decode mb_Md_tieTop 34 = .ok (.iconst 0, 1) := by decide +kernel
theorem rd_Md_tieTop_35 : decode mb_Md_tieTop 35 = .ok (.iconst 2, 1) := by decide +kernel
theorem rd_Md_tieTop_36 : decode mb_Md_tieTop 36 = .ok (.invokevirtual 345, 3) := by decide +kernel
theorem rd_Md_tieTop_39 : decode mb_Md_tieTop 39 = .ok (.ifCond .eq 5, 3) := by decide +kernel
theorem rd_Md_tieTop_42 : decode mb_Md_tieTop 42 = .ok (.iconst 0, 1) := by decide +kernel
theorem rd_Md_tieTop_43 : decode mb_Md_tieTop 43 = .ok (.ireturn, 1) := by decide +kernel
theorem rd_Md_tieTop_44 : decode mb_Md_tieTop 44 = .ok (.aload_n 0, 1) := by decide +kernel
theorem rd_Md_tieTop_45 : decode mb_Md_tieTop 45 = .ok (.invokevirtual 336, 3) := by decide +kernel
theorem rd_Md_tieTop_48 : decode mb_Md_tieTop 48 = .ok (.aload_n 0, 1) := by decide +kernel
theorem rd_Md_tieTop_49 : decode mb_Md_tieTop 49 = .ok (.iload_n 1, 1) := by decide +kernel
theorem rd_Md_tieTop_50 : decode mb_Md_tieTop 50 = .ok (.iload_n 2, 1) := by decide +kernel
theorem rd_Md_tieTop_51 : decode mb_Md_tieTop 51 = .ok (.invokevirtual 318, 3) := by decide +kernel
theorem rd_Md_tieTop_54 : decode mb_Md_tieTop 54 = .ok (.ireturn, 1) := by decide +kernel
theorem rd_Md_setKnots_0 : decode mb_Md_setKnots 0 = .ok (.aload_n 0, 1) := by decide +kernel
theorem rd_Md_setKnots_1 : decode mb_Md_setKnots 1 = .ok (.iconst 0, 1) := by decide +kernel
theorem rd_Md_setKnots_2 : decode mb_Md_setKnots 2 = .ok (.putfield 56, 3) := by decide +kernel
theorem rd_Md_setKnots_5 : decode mb_Md_setKnots 5 = .ok (.aload_n 0, 1) := by decide +kernel
theorem rd_Md_setKnots_6 : decode mb_Md_setKnots 6 = .ok (.iload_n 1, 1) := by decide +kernel
theorem rd_Md_setKnots_7 : decode mb_Md_setKnots 7 = .ok (.invokevirtual 349, 3) := by decide +kernel
theorem rd_Md_setKnots_10 : decode mb_Md_setKnots 10 = .ok (.ifCond .ne 58, 3) := by decide +kernel
theorem rd_Md_setKnots_13 : decode mb_Md_setKnots 13 = .ok (.aload_n 0, 1) := by decide +kernel
theorem rd_Md_setKnots_14 : decode mb_Md_setKnots 14 = .ok (.iload_n 2, 1) := by decide +kernel
theorem rd_Md_setKnots_15 : decode mb_Md_setKnots 15 = .ok (.iconst 0, 1) := by decide +kernel
theorem rd_Md_setKnots_16 : decode mb_Md_setKnots 16 = .ok (.iconst 3, 1) := by decide +kernel
theorem rd_Md_setKnots_17 : decode mb_Md_setKnots 17 = .ok (.invokestatic 115, 3) := by decide +kernel
theorem rd_Md_setKnots_20 : decode mb_Md_setKnots 20 = .ok (.ifCond .eq 13, 3) := by decide +kernel
theorem rd_Md_setKnots_23 : decode mb_Md_setKnots 23 = .ok (.iload_n 3, 1) := by decide +kernel
theorem rd_Md_setKnots_24 : decode mb_Md_setKnots 24 = .ok (.iconst 0, 1) := by decide +kernel
theorem rd_Md_setKnots_25 : decode mb_Md_setKnots 25 = .ok (.bipush 9, 2) := by decide +kernel
theorem rd_Md_setKnots_27 : decode mb_Md_setKnots 27 = .ok (.invokestatic 115, 3) := by decide +kernel
theorem rd_Md_setKnots_30 : decode mb_Md_setKnots 30 = .ok (.ifCond .ne 7, 3) := by decide +kernel
theorem rd_Md_setKnots_33 : decode mb_Md_setKnots 33 = .ok (.iconst 1, 1) := by decide +kernel
theorem rd_Md_setKnots_34 : decode mb_Md_setKnots 34 = .ok (.goto 4, 3) := by decide +kernel
theorem rd_Md_setKnots_37 : decode mb_Md_setKnots 37 = .ok (.iconst 0, 1) := by decide +kernel
theorem rd_Md_setKnots_38 : decode mb_Md_setKnots 38 = .ok (.iconst 2, 1) := by decide +kernel
theorem rd_Md_setKnots_39 : decode mb_Md_setKnots 39 = .ok (.invokevirtual 345, 3) := by decide +kernel
theorem rd_Md_setKnots_42 : decode mb_Md_setKnots 42 = .ok (.ifCond .ne 26, 3) := by decide +kernel
theorem rd_Md_setKnots_45 : decode mb_Md_setKnots 45 = .ok (.aload_n 0, 1) := by decide +kernel
theorem rd_Md_setKnots_46 : decode mb_Md_setKnots 46 = .ok (.iload_n 2, 1) := by decide +kernel
theorem rd_Md_setKnots_47 : decode mb_Md_setKnots 47 = .ok (.aload_n 0, 1) := by decide +kernel
theorem rd_Md_setKnots_48 : decode mb_Md_setKnots 48 = .ok (.iload_n 1, 1) := by decide +kernel
theorem rd_Md_setKnots_49 : decode mb_Md_setKnots 49 = .ok (.iconst 4, 1) := by decide +kernel
theorem rd_Md_setKnots_50 : decode mb_Md_setKnots 50 = .ok (.invokevirtual 63, 3) := by decide +kernel
theorem rd_Md_setKnots_53 : decode mb_Md_setKnots 53 = .ok (.if_icmp .ge 7, 3) := by decide +kernel
theorem rd_Md_setKnots_56 : decode mb_Md_setKnots 56 = .ok (.iconst 1, 1) := by decide +kernel
theorem rd_Md_setKnots_57 : decode mb_Md_setKnots 57 = .ok (.goto 4, 3) := by decide +kernel
theorem rd_Md_setKnots_60 : decode mb_Md_setKnots 60 = .ok (.iconst 0, 1) := by decide +kernel
theorem rd_Md_setKnots_61 : decode mb_Md_setKnots 61 = .ok (.iconst 3, 1) := by decide +kernel
theorem rd_Md_setKnots_62 : decode mb_Md_setKnots 62 = .ok (.invokevirtual 345, 3) := by decide +kernel
theorem rd_Md_setKnots_65 : decode mb_Md_setKnots 65 = .ok (.ifCond .eq 5, 3) := by decide +kernel
theorem rd_Md_setKnots_68 : decode mb_Md_setKnots 68 = .ok (.iconst 0, 1) := by decide +kernel
theorem rd_Md_setKnots_69 : decode mb_Md_setKnots 69 = .ok (.ireturn, 1) := by decide +kernel
theorem rd_Md_setKnots_70 : decode mb_Md_setKnots 70 = .ok (.aload_n 0, 1) := by decide +kernel
theorem rd_Md_setKnots_71 : decode mb_Md_setKnots 71 = .ok (.invokevirtual 336, 3) := by decide +kernel
theorem rd_Md_setKnots_74 : decode mb_Md_setKnots 74 = .ok (.aload_n 0, 1) := by decide +kernel
theorem rd_Md_setKnots_75 : decode mb_Md_setKnots 75 = .ok (.iload_n 1, 1) := by decide +kernel
theorem rd_Md_setKnots_76 : decode mb_Md_setKnots 76 = .ok (.iload_n 2, 1) := by decide +kernel
theorem rd_Md_setKnots_77 : decode mb_Md_setKnots 77 = .ok (.iload_n 3, 1) := by decide +kernel
theorem rd_Md_setKnots_78 : decode mb_Md_setKnots 78 = .ok (.invokevirtual 321, 3) := by decide +kernel
theorem rd_Md_setKnots_81 : decode mb_Md_setKnots 81 = .ok (.ireturn, 1) := by decide +kernel
def wd_Md_isClusterRight (cI : ClassId) (a_t a_t_w a_t_wKept a_t_saved a_t_past a_t_input a_t_n a_t_order a_t_numbers a_t_output : Nat) (i_t_pastMany : Int) (i_t_isSaved : Int) (i_t_thrown : Int) (i_t_inputMany : Int) (i_t_lastError : Int) (i_t_lastOffset : Int) (i_t_error : Int) (i_t_offset : Int) (i_t_nextByte : Int) (i_t_begin : Int) (i_t_value : Int) (i_t_token : Int) (i_t_got : Int) (i_t_orders : Int) (i_t_outputMany : Int) (i_t_w : (Int → Int)) : va_W := [(a_t, .inr (11, [.ref a_t_w, .ref a_t_wKept, .ref a_t_saved, .ref a_t_past, jk_V i_t_pastMany, jk_V i_t_isSaved, jk_V i_t_thrown, .ref a_t_input, jk_V i_t_inputMany, jk_V i_t_lastError, jk_V i_t_lastOffset, jk_V i_t_error, jk_V i_t_offset, jk_V i_t_nextByte, jk_V i_t_begin, jk_V i_t_value, jk_V i_t_token, jk_V i_t_got, .ref a_t_n, .ref a_t_order, .ref a_t_numbers, jk_V i_t_orders, .ref a_t_output, jk_V i_t_outputMany])), (a_t_w, jk_W cI 259 i_t_w)]
set_option maxHeartbeats 4000000 in
set_option maxRecDepth 20000 in
theorem ct_Md_isClusterRight (l : Launch) (D : va_G) (Z : (Nat → Prop) → State → Heap → Prop) (sq : Nat → Nat) (hZ : jk_ZK Z sq) (cI cR : ClassId) (a_t a_t_w a_t_wKept a_t_saved a_t_past a_t_input a_t_n a_t_order a_t_numbers a_t_output : Nat) (i_t_pastMany : Int) (i_t_isSaved : Int) (i_t_thrown : Int) (i_t_inputMany : Int) (i_t_lastError : Int) (i_t_lastOffset : Int) (i_t_error : Int) (i_t_offset : Int) (i_t_nextByte : Int) (i_t_begin : Int) (i_t_value : Int) (i_t_token : Int) (i_t_got : Int) (i_t_orders : Int) (i_t_outputMany : Int) (i_t_w : (Int → Int)) (x1 : Int) (q : Int) (hf : fn_Md_isClusterRight i_t_w x1 = some q) : jk_MI l D jk_cl (jk_ty cI cR) Z mn_Md_isClusterRight (.code mn_Md_isClusterRight mb_Md_isClusterRight 5 (some .boolean) :: jk_WA) (jk_rm 11 251) [.ref a_t, jk_V x1] (wd_Md_isClusterRight cI a_t a_t_w a_t_wKept a_t_saved a_t_past a_t_input a_t_n a_t_order a_t_numbers a_t_output i_t_pastMany i_t_isSaved i_t_thrown i_t_inputMany i_t_lastError i_t_lastOffset i_t_error i_t_offset i_t_nextByte i_t_begin i_t_value i_t_token i_t_got i_t_orders i_t_outputMany i_t_w) (wd_Md_isClusterRight cI a_t a_t_w a_t_wKept a_t_saved a_t_past a_t_input a_t_n a_t_order a_t_numbers a_t_output i_t_pastMany i_t_isSaved i_t_thrown i_t_inputMany i_t_lastError i_t_lastOffset i_t_error i_t_offset i_t_nextByte i_t_begin i_t_value i_t_token i_t_got i_t_orders i_t_outputMany i_t_w) q := by
  intro sz
  refine jk_body (by decide +kernel) (fun p e s m args below meth c hsz hz hin C => ?_) (Nat.le_of_ble_eq_true rfl)
  subst hsz
  unfold fn_Md_isClusterRight at hf
  have bk_91 : ∀ (v1 : Int) (v3 : Int) (s0 : Int) (s1 : Int), fn_Md_isClusterRight_b91 i_t_w v1 v3 s0 s1 = some q → jk_J p l e (jk_rm 11 251) s m args below meth c 0 0 (jk_QI below D jk_cl (jk_ty cI cR) (wd_Md_isClusterRight cI a_t a_t_w a_t_wKept a_t_saved a_t_past a_t_input a_t_n a_t_order a_t_numbers a_t_output i_t_pastMany i_t_isSaved i_t_thrown i_t_inputMany i_t_lastError i_t_lastOffset i_t_error i_t_offset i_t_nextByte i_t_begin i_t_value i_t_token i_t_got i_t_orders i_t_outputMany i_t_w) (wd_Md_isClusterRight cI a_t a_t_w a_t_wKept a_t_saved a_t_past a_t_input a_t_n a_t_order a_t_numbers a_t_output i_t_pastMany i_t_isSaved i_t_thrown i_t_inputMany i_t_lastError i_t_lastOffset i_t_error i_t_offset i_t_nextByte i_t_begin i_t_value i_t_token i_t_got i_t_orders i_t_outputMany i_t_w) args s q) D jk_cl (va_A (wd_Md_isClusterRight cI a_t a_t_w a_t_wKept a_t_saved a_t_past a_t_input a_t_n a_t_order a_t_numbers a_t_output i_t_pastMany i_t_isSaved i_t_thrown i_t_inputMany i_t_lastError i_t_lastOffset i_t_error i_t_offset i_t_nextByte i_t_begin i_t_value i_t_token i_t_got i_t_orders i_t_outputMany i_t_w) s.heap.size) 5 (wd_Md_isClusterRight cI a_t a_t_w a_t_wKept a_t_saved a_t_past a_t_input a_t_n a_t_order a_t_numbers a_t_output i_t_pastMany i_t_isSaved i_t_thrown i_t_inputMany i_t_lastError i_t_lastOffset i_t_error i_t_offset i_t_nextByte i_t_begin i_t_value i_t_token i_t_got i_t_orders i_t_outputMany i_t_w) [(0, .ref a_t), (1, jk_V v1), (3, jk_V v3)] 91 [jk_V s0, jk_V s1] := by
    intro v1 v3 s0 s1 hf
    unfold fn_Md_isClusterRight_b91 at hf
    refine jk_iadd C rd_Md_isClusterRight_91 ?_
    refine jk_istore C rd_Md_isClusterRight_92 (by decide) (lv' := [(4, jk_V (s1 + s0)), (0, .ref a_t), (1, jk_V v1), (3, jk_V v3)]) rfl ?_
    refine jk_iload C rd_Md_isClusterRight_94 (k := 0) rfl ?_
    refine jk_aload_n C rd_Md_isClusterRight_96 (k := 1) rfl ?_
    refine jk_iload_n C rd_Md_isClusterRight_97 (k := 3) rfl ?_
    refine jk_iconst C rd_Md_isClusterRight_98 ?_
    obtain ⟨q99, hq99, hf⟩ := jk_bind_h hf
    refine jk_callVi C hZ.1 hz (ct_Md_of l D Z sq hZ cI cR a_t a_t_w a_t_wKept a_t_saved a_t_past a_t_input a_t_n a_t_order a_t_numbers a_t_output i_t_pastMany i_t_isSaved i_t_thrown i_t_inputMany i_t_lastError i_t_lastOffset i_t_error i_t_offset i_t_nextByte i_t_begin i_t_value i_t_token i_t_got i_t_orders i_t_outputMany i_t_w v3 1 q99 hq99) tm_1256 tm_1258 sl_26 tm_15 tm_1259 na_Md_of ⟨Nat.le_of_ble_eq_true rfl, Nat.le_of_ble_eq_true rfl⟩ rfl [0, 1] rfl rfl rfl (ws' := wd_Md_isClusterRight cI a_t a_t_w a_t_wKept a_t_saved a_t_past a_t_input a_t_n a_t_order a_t_numbers a_t_output i_t_pastMany i_t_isSaved i_t_thrown i_t_inputMany i_t_lastError i_t_lastOffset i_t_error i_t_offset i_t_nextByte i_t_begin i_t_value i_t_token i_t_got i_t_orders i_t_outputMany i_t_w) rfl 0 11 rfl rfl rfl (st := [jk_V (s1 + s0)]) rfl (Nat.le_of_ble_eq_true rfl) rd_Md_isClusterRight_99 ?_ ⟨Nat.le_of_ble_eq_true rfl, Nat.le_of_ble_eq_true rfl⟩
    refine jk_if_ne (tgt := 113) C rd_Md_isClusterRight_102 (by decide) hf (fun _ hf => ?_) (fun _ hf => ?_)
    · refine jk_aload_n C rd_Md_isClusterRight_113 (k := 1) rfl ?_
      refine jk_aload_n C rd_Md_isClusterRight_114 (k := 1) rfl ?_
      refine jk_iload_n C rd_Md_isClusterRight_115 (k := 2) rfl ?_
      obtain ⟨q116, hq116, hf⟩ := jk_bind_h hf
      refine jk_callVi C hZ.1 hz (ct_Md_first l D Z sq hZ cI cR a_t a_t_w a_t_wKept a_t_saved a_t_past a_t_input a_t_n a_t_order a_t_numbers a_t_output i_t_pastMany i_t_isSaved i_t_thrown i_t_inputMany i_t_lastError i_t_lastOffset i_t_error i_t_offset i_t_nextByte i_t_begin i_t_value i_t_token i_t_got i_t_orders i_t_outputMany i_t_w v1 q116 hq116) tm_1433 tm_1435 sl_44 tm_15 tm_1436 na_Md_first ⟨Nat.le_of_ble_eq_true rfl, Nat.le_of_ble_eq_true rfl⟩ rfl [0, 1] rfl rfl rfl (ws' := wd_Md_isClusterRight cI a_t a_t_w a_t_wKept a_t_saved a_t_past a_t_input a_t_n a_t_order a_t_numbers a_t_output i_t_pastMany i_t_isSaved i_t_thrown i_t_inputMany i_t_lastError i_t_lastOffset i_t_error i_t_offset i_t_nextByte i_t_begin i_t_value i_t_token i_t_got i_t_orders i_t_outputMany i_t_w) rfl 0 11 rfl rfl rfl (st := [.ref a_t, jk_V (s1 + s0)]) rfl (Nat.le_of_ble_eq_true rfl) rd_Md_isClusterRight_116 ?_ ⟨Nat.le_of_ble_eq_true rfl, Nat.le_of_ble_eq_true rfl⟩
      refine jk_iconst C rd_Md_isClusterRight_119 ?_
      obtain ⟨q120, hq120, hf⟩ := jk_bind_h hf
      refine jk_callVi C hZ.1 hz (ct_Md_of l D Z sq hZ cI cR a_t a_t_w a_t_wKept a_t_saved a_t_past a_t_input a_t_n a_t_order a_t_numbers a_t_output i_t_pastMany i_t_isSaved i_t_thrown i_t_inputMany i_t_lastError i_t_lastOffset i_t_error i_t_offset i_t_nextByte i_t_begin i_t_value i_t_token i_t_got i_t_orders i_t_outputMany i_t_w q116 3 q120 hq120) tm_1256 tm_1258 sl_26 tm_15 tm_1259 na_Md_of ⟨Nat.le_of_ble_eq_true rfl, Nat.le_of_ble_eq_true rfl⟩ rfl [0, 1] rfl rfl rfl (ws' := wd_Md_isClusterRight cI a_t a_t_w a_t_wKept a_t_saved a_t_past a_t_input a_t_n a_t_order a_t_numbers a_t_output i_t_pastMany i_t_isSaved i_t_thrown i_t_inputMany i_t_lastError i_t_lastOffset i_t_error i_t_offset i_t_nextByte i_t_begin i_t_value i_t_token i_t_got i_t_orders i_t_outputMany i_t_w) rfl 0 11 rfl rfl rfl (st := [jk_V (s1 + s0)]) rfl (Nat.le_of_ble_eq_true rfl) rd_Md_isClusterRight_120 ?_ ⟨Nat.le_of_ble_eq_true rfl, Nat.le_of_ble_eq_true rfl⟩
      refine jk_icmp_ne (tgt := 130) C rd_Md_isClusterRight_123 (by decide) hf (fun _ hf => ?_) (fun _ hf => ?_)
      · refine jk_iconst C rd_Md_isClusterRight_130 ?_
        cases hf
        exact jk_zret C (Or.inl rfl) rfl rd_Md_isClusterRight_131 rfl
      · refine jk_iconst C rd_Md_isClusterRight_126 ?_
        refine jk_goto (tgt := 131) C rd_Md_isClusterRight_127 (by decide) ?_
        cases hf
        exact jk_zret C (Or.inr rfl) rfl rd_Md_isClusterRight_131 rfl
    · refine jk_aload_n C rd_Md_isClusterRight_105 (k := 1) rfl ?_
      refine jk_iload_n C rd_Md_isClusterRight_106 (k := 2) rfl ?_
      obtain ⟨q107, hq107, hf⟩ := jk_bind_h hf
      refine jk_callVi C hZ.1 hz (ct_Md_guess l D Z sq hZ cI cR a_t a_t_w a_t_wKept a_t_saved a_t_past a_t_input a_t_n a_t_order a_t_numbers a_t_output i_t_pastMany i_t_isSaved i_t_thrown i_t_inputMany i_t_lastError i_t_lastOffset i_t_error i_t_offset i_t_nextByte i_t_begin i_t_value i_t_token i_t_got i_t_orders i_t_outputMany i_t_w v1 q107 hq107) tm_1607 tm_1609 sl_84 tm_15 tm_1610 na_Md_guess ⟨Nat.le_of_ble_eq_true rfl, Nat.le_of_ble_eq_true rfl⟩ rfl [0, 1] rfl rfl rfl (ws' := wd_Md_isClusterRight cI a_t a_t_w a_t_wKept a_t_saved a_t_past a_t_input a_t_n a_t_order a_t_numbers a_t_output i_t_pastMany i_t_isSaved i_t_thrown i_t_inputMany i_t_lastError i_t_lastOffset i_t_error i_t_offset i_t_nextByte i_t_begin i_t_value i_t_token i_t_got i_t_orders i_t_outputMany i_t_w) rfl 0 11 rfl rfl rfl (st := [jk_V (s1 + s0)]) rfl (Nat.le_of_ble_eq_true rfl) rd_Md_isClusterRight_107 ?_ ⟨Nat.le_of_ble_eq_true rfl, Nat.le_of_ble_eq_true rfl⟩
      refine jk_goto (tgt := 123) C rd_Md_isClusterRight_110 (by decide) ?_
      refine jk_icmp_ne (tgt := 130) C rd_Md_isClusterRight_123 (by decide) hf (fun _ hf => ?_) (fun _ hf => ?_)
      · refine jk_iconst C rd_Md_isClusterRight_130 ?_
        cases hf
        exact jk_zret C (Or.inl rfl) rfl rd_Md_isClusterRight_131 rfl
      · refine jk_iconst C rd_Md_isClusterRight_126 ?_
        refine jk_goto (tgt := 131) C rd_Md_isClusterRight_127 (by decide) ?_
        cases hf
        exact jk_zret C (Or.inr rfl) rfl rd_Md_isClusterRight_131 rfl
  have bk_8 : ∀ (n : Nat) (v1 : Int) (v2 : Int) (v3 : Int), fn_Md_isClusterRight_b8 n i_t_w v1 v2 v3 = some q → jk_J p l e (jk_rm 11 251) s m args below meth c 0 0 (jk_QI below D jk_cl (jk_ty cI cR) (wd_Md_isClusterRight cI a_t a_t_w a_t_wKept a_t_saved a_t_past a_t_input a_t_n a_t_order a_t_numbers a_t_output i_t_pastMany i_t_isSaved i_t_thrown i_t_inputMany i_t_lastError i_t_lastOffset i_t_error i_t_offset i_t_nextByte i_t_begin i_t_value i_t_token i_t_got i_t_orders i_t_outputMany i_t_w) (wd_Md_isClusterRight cI a_t a_t_w a_t_wKept a_t_saved a_t_past a_t_input a_t_n a_t_order a_t_numbers a_t_output i_t_pastMany i_t_isSaved i_t_thrown i_t_inputMany i_t_lastError i_t_lastOffset i_t_error i_t_offset i_t_nextByte i_t_begin i_t_value i_t_token i_t_got i_t_orders i_t_outputMany i_t_w) args s q) D jk_cl (va_A (wd_Md_isClusterRight cI a_t a_t_w a_t_wKept a_t_saved a_t_past a_t_input a_t_n a_t_order a_t_numbers a_t_output i_t_pastMany i_t_isSaved i_t_thrown i_t_inputMany i_t_lastError i_t_lastOffset i_t_error i_t_offset i_t_nextByte i_t_begin i_t_value i_t_token i_t_got i_t_orders i_t_outputMany i_t_w) s.heap.size) 5 (wd_Md_isClusterRight cI a_t a_t_w a_t_wKept a_t_saved a_t_past a_t_input a_t_n a_t_order a_t_numbers a_t_output i_t_pastMany i_t_isSaved i_t_thrown i_t_inputMany i_t_lastError i_t_lastOffset i_t_error i_t_offset i_t_nextByte i_t_begin i_t_value i_t_token i_t_got i_t_orders i_t_outputMany i_t_w) [(0, .ref a_t), (1, jk_V v1), (2, jk_V v2), (3, jk_V v3)] 8 [] := by
    intro n
    induction n with
    | zero => intro v1 v2 v3 hf; exact nomatch (show none = some q from hf)
    | succ n ih =>
      intro v1 v2 v3 hf
      rw [fn_Md_isClusterRight_b8] at hf
      refine jk_iload_n C rd_Md_isClusterRight_8 (k := 3) rfl ?_
      refine jk_aload_n C rd_Md_isClusterRight_9 (k := 0) rfl ?_
      refine jk_iload_n C rd_Md_isClusterRight_10 (k := 1) rfl ?_
      obtain ⟨q11, hq11, hf⟩ := jk_bind_h hf
      refine jk_callVi C hZ.1 hz (ct_Md_end l D Z sq hZ cI cR a_t a_t_w a_t_wKept a_t_saved a_t_past a_t_input a_t_n a_t_order a_t_numbers a_t_output i_t_pastMany i_t_isSaved i_t_thrown i_t_inputMany i_t_lastError i_t_lastOffset i_t_error i_t_offset i_t_nextByte i_t_begin i_t_value i_t_token i_t_got i_t_orders i_t_outputMany i_t_w v1 q11 hq11) tm_1437 tm_1439 sl_45 tm_15 tm_1440 na_Md_end ⟨Nat.le_of_ble_eq_true rfl, Nat.le_of_ble_eq_true rfl⟩ rfl [0, 1] rfl rfl rfl (ws' := wd_Md_isClusterRight cI a_t a_t_w a_t_wKept a_t_saved a_t_past a_t_input a_t_n a_t_order a_t_numbers a_t_output i_t_pastMany i_t_isSaved i_t_thrown i_t_inputMany i_t_lastError i_t_lastOffset i_t_error i_t_offset i_t_nextByte i_t_begin i_t_value i_t_token i_t_got i_t_orders i_t_outputMany i_t_w) rfl 0 11 rfl rfl rfl (st := [jk_V v3]) rfl (Nat.le_of_ble_eq_true rfl) rd_Md_isClusterRight_11 ?_ ⟨Nat.le_of_ble_eq_true rfl, Nat.le_of_ble_eq_true rfl⟩
      refine jk_icmp_ge (tgt := 34) C rd_Md_isClusterRight_14 (by decide) hf (fun _ hf => ?_) (fun _ hf => ?_)
      · refine jk_iload_n C rd_Md_isClusterRight_34 (k := 2) rfl ?_
        refine jk_aload_n C rd_Md_isClusterRight_35 (k := 0) rfl ?_
        refine jk_iload_n C rd_Md_isClusterRight_36 (k := 1) rfl ?_
        obtain ⟨q37, hq37, hf⟩ := jk_bind_h hf
        refine jk_callVi C hZ.1 hz (ct_Md_knownSum l D Z sq hZ cI cR a_t a_t_w a_t_wKept a_t_saved a_t_past a_t_input a_t_n a_t_order a_t_numbers a_t_output i_t_pastMany i_t_isSaved i_t_thrown i_t_inputMany i_t_lastError i_t_lastOffset i_t_error i_t_offset i_t_nextByte i_t_begin i_t_value i_t_token i_t_got i_t_orders i_t_outputMany i_t_w v1 q37 hq37) tm_1571 tm_1573 sl_75 tm_15 tm_1574 na_Md_knownSum ⟨Nat.le_of_ble_eq_true rfl, Nat.le_of_ble_eq_true rfl⟩ rfl [0, 1] rfl rfl rfl (ws' := wd_Md_isClusterRight cI a_t a_t_w a_t_wKept a_t_saved a_t_past a_t_input a_t_n a_t_order a_t_numbers a_t_output i_t_pastMany i_t_isSaved i_t_thrown i_t_inputMany i_t_lastError i_t_lastOffset i_t_error i_t_offset i_t_nextByte i_t_begin i_t_value i_t_token i_t_got i_t_orders i_t_outputMany i_t_w) rfl 0 11 rfl rfl rfl (st := [jk_V v2]) rfl (Nat.le_of_ble_eq_true rfl) rd_Md_isClusterRight_37 ?_ ⟨Nat.le_of_ble_eq_true rfl, Nat.le_of_ble_eq_true rfl⟩
        refine jk_icmp_eq (tgt := 45) C rd_Md_isClusterRight_40 (by decide) hf (fun _ hf => ?_) (fun _ hf => ?_)
        · refine jk_aload_n C rd_Md_isClusterRight_45 (k := 0) rfl ?_
          refine jk_iload_n C rd_Md_isClusterRight_46 (k := 1) rfl ?_
          obtain ⟨q47, hq47, hf⟩ := jk_bind_h hf
          refine jk_callVi C hZ.1 hz (ct_Md_guessReason l D Z sq hZ cI cR a_t a_t_w a_t_wKept a_t_saved a_t_past a_t_input a_t_n a_t_order a_t_numbers a_t_output i_t_pastMany i_t_isSaved i_t_thrown i_t_inputMany i_t_lastError i_t_lastOffset i_t_error i_t_offset i_t_nextByte i_t_begin i_t_value i_t_token i_t_got i_t_orders i_t_outputMany i_t_w v1 q47 hq47) tm_1591 tm_1593 sl_80 tm_15 tm_1594 na_Md_guessReason ⟨Nat.le_of_ble_eq_true rfl, Nat.le_of_ble_eq_true rfl⟩ rfl [0, 1] rfl rfl rfl (ws' := wd_Md_isClusterRight cI a_t a_t_w a_t_wKept a_t_saved a_t_past a_t_input a_t_n a_t_order a_t_numbers a_t_output i_t_pastMany i_t_isSaved i_t_thrown i_t_inputMany i_t_lastError i_t_lastOffset i_t_error i_t_offset i_t_nextByte i_t_begin i_t_value i_t_token i_t_got i_t_orders i_t_outputMany i_t_w) rfl 0 11 rfl rfl rfl (st := []) rfl (Nat.le_of_ble_eq_true rfl) rd_Md_isClusterRight_47 ?_ ⟨Nat.le_of_ble_eq_true rfl, Nat.le_of_ble_eq_true rfl⟩
          refine jk_if_eq (tgt := 55) C rd_Md_isClusterRight_50 (by decide) hf (fun _ hf => ?_) (fun _ hf => ?_)
          · refine jk_aload_n C rd_Md_isClusterRight_55 (k := 0) rfl ?_
            refine jk_iload_n C rd_Md_isClusterRight_56 (k := 1) rfl ?_
            obtain ⟨q57, hq57, hf⟩ := jk_bind_h hf
            refine jk_callVi C hZ.1 hz (ct_Md_onlyNibbled l D Z sq hZ cI cR a_t a_t_w a_t_wKept a_t_saved a_t_past a_t_input a_t_n a_t_order a_t_numbers a_t_output i_t_pastMany i_t_isSaved i_t_thrown i_t_inputMany i_t_lastError i_t_lastOffset i_t_error i_t_offset i_t_nextByte i_t_begin i_t_value i_t_token i_t_got i_t_orders i_t_outputMany i_t_w v1 q57 hq57) tm_1603 tm_1605 sl_83 tm_15 tm_1606 na_Md_onlyNibbled ⟨Nat.le_of_ble_eq_true rfl, Nat.le_of_ble_eq_true rfl⟩ rfl [0, 1] rfl rfl rfl (ws' := wd_Md_isClusterRight cI a_t a_t_w a_t_wKept a_t_saved a_t_past a_t_input a_t_n a_t_order a_t_numbers a_t_output i_t_pastMany i_t_isSaved i_t_thrown i_t_inputMany i_t_lastError i_t_lastOffset i_t_error i_t_offset i_t_nextByte i_t_begin i_t_value i_t_token i_t_got i_t_orders i_t_outputMany i_t_w) rfl 0 11 rfl rfl rfl (st := []) rfl (Nat.le_of_ble_eq_true rfl) rd_Md_isClusterRight_57 ?_ ⟨Nat.le_of_ble_eq_true rfl, Nat.le_of_ble_eq_true rfl⟩
            refine jk_istore_n C rd_Md_isClusterRight_60 (by decide) (lv' := [(3, jk_V q57), (0, .ref a_t), (1, jk_V v1), (2, jk_V v2)]) rfl ?_
            refine jk_aload_n C rd_Md_isClusterRight_61 (k := 1) rfl ?_
            refine jk_iload_n C rd_Md_isClusterRight_62 (k := 2) rfl ?_
            obtain ⟨q63, hq63, hf⟩ := jk_bind_h hf
            refine jk_callVi C hZ.1 hz (ct_Md_knownSum l D Z sq hZ cI cR a_t a_t_w a_t_wKept a_t_saved a_t_past a_t_input a_t_n a_t_order a_t_numbers a_t_output i_t_pastMany i_t_isSaved i_t_thrown i_t_inputMany i_t_lastError i_t_lastOffset i_t_error i_t_offset i_t_nextByte i_t_begin i_t_value i_t_token i_t_got i_t_orders i_t_outputMany i_t_w v1 q63 hq63) tm_1571 tm_1573 sl_75 tm_15 tm_1574 na_Md_knownSum ⟨Nat.le_of_ble_eq_true rfl, Nat.le_of_ble_eq_true rfl⟩ rfl [0, 1] rfl rfl rfl (ws' := wd_Md_isClusterRight cI a_t a_t_w a_t_wKept a_t_saved a_t_past a_t_input a_t_n a_t_order a_t_numbers a_t_output i_t_pastMany i_t_isSaved i_t_thrown i_t_inputMany i_t_lastError i_t_lastOffset i_t_error i_t_offset i_t_nextByte i_t_begin i_t_value i_t_token i_t_got i_t_orders i_t_outputMany i_t_w) rfl 0 11 rfl rfl rfl (st := []) rfl (Nat.le_of_ble_eq_true rfl) rd_Md_isClusterRight_63 ?_ ⟨Nat.le_of_ble_eq_true rfl, Nat.le_of_ble_eq_true rfl⟩
            refine jk_aload_n C rd_Md_isClusterRight_66 (k := 1) rfl ?_
            refine jk_iload_n C rd_Md_isClusterRight_67 (k := 0) rfl ?_
            refine jk_iconst C rd_Md_isClusterRight_68 ?_
            obtain ⟨q69, hq69, hf⟩ := jk_bind_h hf
            refine jk_callVi C hZ.1 hz (ct_Md_of l D Z sq hZ cI cR a_t a_t_w a_t_wKept a_t_saved a_t_past a_t_input a_t_n a_t_order a_t_numbers a_t_output i_t_pastMany i_t_isSaved i_t_thrown i_t_inputMany i_t_lastError i_t_lastOffset i_t_error i_t_offset i_t_nextByte i_t_begin i_t_value i_t_token i_t_got i_t_orders i_t_outputMany i_t_w q57 1 q69 hq69) tm_1256 tm_1258 sl_26 tm_15 tm_1259 na_Md_of ⟨Nat.le_of_ble_eq_true rfl, Nat.le_of_ble_eq_true rfl⟩ rfl [0, 1] rfl rfl rfl (ws' := wd_Md_isClusterRight cI a_t a_t_w a_t_wKept a_t_saved a_t_past a_t_input a_t_n a_t_order a_t_numbers a_t_output i_t_pastMany i_t_isSaved i_t_thrown i_t_inputMany i_t_lastError i_t_lastOffset i_t_error i_t_offset i_t_nextByte i_t_begin i_t_value i_t_token i_t_got i_t_orders i_t_outputMany i_t_w) rfl 0 11 rfl rfl rfl (st := [jk_V q63]) rfl (Nat.le_of_ble_eq_true rfl) rd_Md_isClusterRight_69 ?_ ⟨Nat.le_of_ble_eq_true rfl, Nat.le_of_ble_eq_true rfl⟩
            refine jk_if_ne (tgt := 79) C rd_Md_isClusterRight_72 (by decide) hf (fun _ hf => ?_) (fun _ hf => ?_)
            · refine jk_aload_n C rd_Md_isClusterRight_79 (k := 1) rfl ?_
              refine jk_iload_n C rd_Md_isClusterRight_80 (k := 2) rfl ?_
              obtain ⟨q81, hq81, hf⟩ := jk_bind_h hf
              refine jk_callVi C hZ.1 hz (ct_Md_guess l D Z sq hZ cI cR a_t a_t_w a_t_wKept a_t_saved a_t_past a_t_input a_t_n a_t_order a_t_numbers a_t_output i_t_pastMany i_t_isSaved i_t_thrown i_t_inputMany i_t_lastError i_t_lastOffset i_t_error i_t_offset i_t_nextByte i_t_begin i_t_value i_t_token i_t_got i_t_orders i_t_outputMany i_t_w v1 q81 hq81) tm_1607 tm_1609 sl_84 tm_15 tm_1610 na_Md_guess ⟨Nat.le_of_ble_eq_true rfl, Nat.le_of_ble_eq_true rfl⟩ rfl [0, 1] rfl rfl rfl (ws' := wd_Md_isClusterRight cI a_t a_t_w a_t_wKept a_t_saved a_t_past a_t_input a_t_n a_t_order a_t_numbers a_t_output i_t_pastMany i_t_isSaved i_t_thrown i_t_inputMany i_t_lastError i_t_lastOffset i_t_error i_t_offset i_t_nextByte i_t_begin i_t_value i_t_token i_t_got i_t_orders i_t_outputMany i_t_w) rfl 0 11 rfl rfl rfl (st := [jk_V q63]) rfl (Nat.le_of_ble_eq_true rfl) rd_Md_isClusterRight_81 ?_ ⟨Nat.le_of_ble_eq_true rfl, Nat.le_of_ble_eq_true rfl⟩
              refine jk_aload_n C rd_Md_isClusterRight_84 (k := 1) rfl ?_
              refine jk_iload_n C rd_Md_isClusterRight_85 (k := 0) rfl ?_
              refine jk_iconst C rd_Md_isClusterRight_86 ?_
              obtain ⟨q87, hq87, hf⟩ := jk_bind_h hf
              refine jk_callVi C hZ.1 hz (ct_Md_of l D Z sq hZ cI cR a_t a_t_w a_t_wKept a_t_saved a_t_past a_t_input a_t_n a_t_order a_t_numbers a_t_output i_t_pastMany i_t_isSaved i_t_thrown i_t_inputMany i_t_lastError i_t_lastOffset i_t_error i_t_offset i_t_nextByte i_t_begin i_t_value i_t_token i_t_got i_t_orders i_t_outputMany i_t_w q57 3 q87 hq87) tm_1256 tm_1258 sl_26 tm_15 tm_1259 na_Md_of ⟨Nat.le_of_ble_eq_true rfl, Nat.le_of_ble_eq_true rfl⟩ rfl [0, 1] rfl rfl rfl (ws' := wd_Md_isClusterRight cI a_t a_t_w a_t_wKept a_t_saved a_t_past a_t_input a_t_n a_t_order a_t_numbers a_t_output i_t_pastMany i_t_isSaved i_t_thrown i_t_inputMany i_t_lastError i_t_lastOffset i_t_error i_t_offset i_t_nextByte i_t_begin i_t_value i_t_token i_t_got i_t_orders i_t_outputMany i_t_w) rfl 0 11 rfl rfl rfl (st := [jk_V q81, jk_V q63]) rfl (Nat.le_of_ble_eq_true rfl) rd_Md_isClusterRight_87 ?_ ⟨Nat.le_of_ble_eq_true rfl, Nat.le_of_ble_eq_true rfl⟩
              refine jk_isub C rd_Md_isClusterRight_90 ?_
              refine jk_lv (lv' := [(0, .ref a_t), (1, jk_V v1), (3, jk_V q57)]) [1, 2, 0] rfl ?_
              exact bk_91 v1 q57 (q81 - q87) q63 hf
            · refine jk_iconst C rd_Md_isClusterRight_75 ?_
              refine jk_goto (tgt := 91) C rd_Md_isClusterRight_76 (by decide) ?_
              refine jk_lv (lv' := [(0, .ref a_t), (1, jk_V v1), (3, jk_V q57)]) [1, 2, 0] rfl ?_
              exact bk_91 v1 q57 0 q63 hf
          · refine jk_iconst C rd_Md_isClusterRight_53 ?_
            cases hf
            exact jk_zret C (Or.inr rfl) rfl rd_Md_isClusterRight_54 rfl
        · refine jk_iconst C rd_Md_isClusterRight_43 ?_
          cases hf
          exact jk_zret C (Or.inl rfl) rfl rd_Md_isClusterRight_44 rfl
      · refine jk_iload_n C rd_Md_isClusterRight_17 (k := 2) rfl ?_
        refine jk_aload_n C rd_Md_isClusterRight_18 (k := 0) rfl ?_
        refine jk_iload_n C rd_Md_isClusterRight_19 (k := 3) rfl ?_
        obtain ⟨q20, hq20, hf⟩ := jk_bind_h hf
        refine jk_callVi C hZ.1 hz (ct_Md_totalBelow l D Z sq hZ cI cR a_t a_t_w a_t_wKept a_t_saved a_t_past a_t_input a_t_n a_t_order a_t_numbers a_t_output 8 i_t_pastMany i_t_isSaved i_t_thrown i_t_inputMany i_t_lastError i_t_lastOffset i_t_error i_t_offset i_t_nextByte i_t_begin i_t_value i_t_token i_t_got i_t_orders i_t_outputMany i_t_w v3 q20 hq20) tm_1823 tm_1825 sl_101 tm_15 tm_1826 na_Md_totalBelow ⟨Nat.le_of_ble_eq_true rfl, Nat.le_of_ble_eq_true rfl⟩ rfl [0, 1] rfl rfl rfl (ws' := wd_Md_isClusterRight cI a_t a_t_w a_t_wKept a_t_saved a_t_past a_t_input a_t_n a_t_order a_t_numbers a_t_output i_t_pastMany i_t_isSaved i_t_thrown i_t_inputMany i_t_lastError i_t_lastOffset i_t_error i_t_offset i_t_nextByte i_t_begin i_t_value i_t_token i_t_got i_t_orders i_t_outputMany i_t_w) rfl 0 11 rfl rfl rfl (st := [jk_V v2]) rfl (Nat.le_of_ble_eq_true rfl) rd_Md_isClusterRight_20 ?_ ⟨Nat.le_of_ble_eq_true rfl, Nat.le_of_ble_eq_true rfl⟩
        refine jk_iadd C rd_Md_isClusterRight_23 ?_
        refine jk_istore_n C rd_Md_isClusterRight_24 (by decide) (lv' := [(2, jk_V (v2 + q20)), (0, .ref a_t), (1, jk_V v1), (3, jk_V v3)]) rfl ?_
        refine jk_aload_n C rd_Md_isClusterRight_25 (k := 1) rfl ?_
        refine jk_iload_n C rd_Md_isClusterRight_26 (k := 3) rfl ?_
        obtain ⟨q27, hq27, hf⟩ := jk_bind_h hf
        refine jk_callVi C hZ.1 hz (ct_Md_behind l D Z sq hZ cI cR a_t a_t_w a_t_wKept a_t_saved a_t_past a_t_input a_t_n a_t_order a_t_numbers a_t_output i_t_pastMany i_t_isSaved i_t_thrown i_t_inputMany i_t_lastError i_t_lastOffset i_t_error i_t_offset i_t_nextByte i_t_begin i_t_value i_t_token i_t_got i_t_orders i_t_outputMany i_t_w v3 q27 hq27) tm_1457 tm_1459 sl_50 tm_15 tm_1460 na_Md_behind ⟨Nat.le_of_ble_eq_true rfl, Nat.le_of_ble_eq_true rfl⟩ rfl [0, 1] rfl rfl rfl (ws' := wd_Md_isClusterRight cI a_t a_t_w a_t_wKept a_t_saved a_t_past a_t_input a_t_n a_t_order a_t_numbers a_t_output i_t_pastMany i_t_isSaved i_t_thrown i_t_inputMany i_t_lastError i_t_lastOffset i_t_error i_t_offset i_t_nextByte i_t_begin i_t_value i_t_token i_t_got i_t_orders i_t_outputMany i_t_w) rfl 0 11 rfl rfl rfl (st := []) rfl (Nat.le_of_ble_eq_true rfl) rd_Md_isClusterRight_27 ?_ ⟨Nat.le_of_ble_eq_true rfl, Nat.le_of_ble_eq_true rfl⟩
        refine jk_istore_n C rd_Md_isClusterRight_30 (by decide) (lv' := [(3, jk_V q27), (2, jk_V (v2 + q20)), (0, .ref a_t), (1, jk_V v1)]) rfl ?_
        refine jk_goto (tgt := 8) C rd_Md_isClusterRight_31 (by decide) ?_
        refine jk_lv (lv' := [(0, .ref a_t), (1, jk_V v1), (2, jk_V (v2 + q20)), (3, jk_V q27)]) [2, 3, 1, 0] rfl ?_
        exact ih v1 (v2 + q20) q27 hf
  refine jk_iconst C rd_Md_isClusterRight_0 ?_
  refine jk_istore_n C rd_Md_isClusterRight_1 (by decide) (lv' := [(2, jk_V 0), (0, .ref a_t), (1, jk_V x1)]) rfl ?_
  refine jk_aload_n C rd_Md_isClusterRight_2 (k := 1) rfl ?_
  refine jk_iload_n C rd_Md_isClusterRight_3 (k := 2) rfl ?_
  obtain ⟨q4, hq4, hf⟩ := jk_bind_h hf
  refine jk_callVi C hZ.1 hz (ct_Md_pendantsFrom l D Z sq hZ cI cR a_t a_t_w a_t_wKept a_t_saved a_t_past a_t_input a_t_n a_t_order a_t_numbers a_t_output i_t_pastMany i_t_isSaved i_t_thrown i_t_inputMany i_t_lastError i_t_lastOffset i_t_error i_t_offset i_t_nextByte i_t_begin i_t_value i_t_token i_t_got i_t_orders i_t_outputMany i_t_w x1 q4 hq4) tm_1575 tm_1577 sl_76 tm_15 tm_1578 na_Md_pendantsFrom ⟨Nat.le_of_ble_eq_true rfl, Nat.le_of_ble_eq_true rfl⟩ rfl [0, 1] rfl rfl rfl (ws' := wd_Md_isClusterRight cI a_t a_t_w a_t_wKept a_t_saved a_t_past a_t_input a_t_n a_t_order a_t_numbers a_t_output i_t_pastMany i_t_isSaved i_t_thrown i_t_inputMany i_t_lastError i_t_lastOffset i_t_error i_t_offset i_t_nextByte i_t_begin i_t_value i_t_token i_t_got i_t_orders i_t_outputMany i_t_w) rfl 0 11 rfl rfl rfl (st := []) rfl (Nat.le_of_ble_eq_true rfl) rd_Md_isClusterRight_4 ?_ ⟨Nat.le_of_ble_eq_true rfl, Nat.le_of_ble_eq_true rfl⟩
  refine jk_istore_n C rd_Md_isClusterRight_7 (by decide) (lv' := [(3, jk_V q4), (2, jk_V 0), (0, .ref a_t), (1, jk_V x1)]) rfl ?_
  refine jk_lv (lv' := [(0, .ref a_t), (1, jk_V x1), (2, jk_V 0), (3, jk_V q4)]) [2, 3, 1, 0] rfl ?_
  exact bk_8 jk_F x1 0 q4 hf
def wd_Md_isConsistent (cI : ClassId) (a_t a_t_w a_t_wKept a_t_saved a_t_past a_t_input a_t_n a_t_order a_t_numbers a_t_output : Nat) (i_t_pastMany : Int) (i_t_isSaved : Int) (i_t_thrown : Int) (i_t_inputMany : Int) (i_t_lastError : Int) (i_t_lastOffset : Int) (i_t_error : Int) (i_t_offset : Int) (i_t_nextByte : Int) (i_t_begin : Int) (i_t_value : Int) (i_t_token : Int) (i_t_got : Int) (i_t_orders : Int) (i_t_outputMany : Int) (i_t_w : (Int → Int)) : va_W := [(a_t, .inr (11, [.ref a_t_w, .ref a_t_wKept, .ref a_t_saved, .ref a_t_past, jk_V i_t_pastMany, jk_V i_t_isSaved, jk_V i_t_thrown, .ref a_t_input, jk_V i_t_inputMany, jk_V i_t_lastError, jk_V i_t_lastOffset, jk_V i_t_error, jk_V i_t_offset, jk_V i_t_nextByte, jk_V i_t_begin, jk_V i_t_value, jk_V i_t_token, jk_V i_t_got, .ref a_t_n, .ref a_t_order, .ref a_t_numbers, jk_V i_t_orders, .ref a_t_output, jk_V i_t_outputMany])), (a_t_w, jk_W cI 259 i_t_w)]
set_option maxHeartbeats 4000000 in
set_option maxRecDepth 20000 in
theorem ct_Md_isConsistent (l : Launch) (D : va_G) (Z : (Nat → Prop) → State → Heap → Prop) (sq : Nat → Nat) (hZ : jk_ZK Z sq) (cI cR : ClassId) (a_t a_t_w a_t_wKept a_t_saved a_t_past a_t_input a_t_n a_t_order a_t_numbers a_t_output : Nat) (i_t_pastMany : Int) (i_t_isSaved : Int) (i_t_thrown : Int) (i_t_inputMany : Int) (i_t_lastError : Int) (i_t_lastOffset : Int) (i_t_error : Int) (i_t_offset : Int) (i_t_nextByte : Int) (i_t_begin : Int) (i_t_value : Int) (i_t_token : Int) (i_t_got : Int) (i_t_orders : Int) (i_t_outputMany : Int) (i_t_w : (Int → Int)) (q : Int × Int) (hf : fn_Md_isConsistent i_t_w i_t_thrown = some q) : jk_MI l D jk_cl (jk_ty cI cR) Z mn_Md_isConsistent (.code mn_Md_isConsistent mb_Md_isConsistent 3 (some .boolean) :: jk_WA) (jk_rm 12 275) [.ref a_t] (wd_Md_isConsistent cI a_t a_t_w a_t_wKept a_t_saved a_t_past a_t_input a_t_n a_t_order a_t_numbers a_t_output i_t_pastMany i_t_isSaved i_t_thrown i_t_inputMany i_t_lastError i_t_lastOffset i_t_error i_t_offset i_t_nextByte i_t_begin i_t_value i_t_token i_t_got i_t_orders i_t_outputMany i_t_w) (wd_Md_isConsistent cI a_t a_t_w a_t_wKept a_t_saved a_t_past a_t_input a_t_n a_t_order a_t_numbers a_t_output i_t_pastMany i_t_isSaved q.2 i_t_inputMany i_t_lastError i_t_lastOffset i_t_error i_t_offset i_t_nextByte i_t_begin i_t_value i_t_token i_t_got i_t_orders i_t_outputMany i_t_w) q.1 := by
  intro sz
  refine jk_body (by decide +kernel) (fun p e s m args below meth c hsz hz hin C => ?_) (Nat.le_of_ble_eq_true rfl)
  subst hsz
  unfold fn_Md_isConsistent at hf
  have bk_51 : ∀ (n : Nat) (t_thrown : Int) (v1 : Int) (v2 : Int), fn_Md_isConsistent_b51 n i_t_w t_thrown v1 v2 = some q → jk_J p l e (jk_rm 12 275) s m args below meth c 0 0 (jk_QI below D jk_cl (jk_ty cI cR) (wd_Md_isConsistent cI a_t a_t_w a_t_wKept a_t_saved a_t_past a_t_input a_t_n a_t_order a_t_numbers a_t_output i_t_pastMany i_t_isSaved i_t_thrown i_t_inputMany i_t_lastError i_t_lastOffset i_t_error i_t_offset i_t_nextByte i_t_begin i_t_value i_t_token i_t_got i_t_orders i_t_outputMany i_t_w) (wd_Md_isConsistent cI a_t a_t_w a_t_wKept a_t_saved a_t_past a_t_input a_t_n a_t_order a_t_numbers a_t_output i_t_pastMany i_t_isSaved q.2 i_t_inputMany i_t_lastError i_t_lastOffset i_t_error i_t_offset i_t_nextByte i_t_begin i_t_value i_t_token i_t_got i_t_orders i_t_outputMany i_t_w) args s q.1) D jk_cl (va_A (wd_Md_isConsistent cI a_t a_t_w a_t_wKept a_t_saved a_t_past a_t_input a_t_n a_t_order a_t_numbers a_t_output i_t_pastMany i_t_isSaved i_t_thrown i_t_inputMany i_t_lastError i_t_lastOffset i_t_error i_t_offset i_t_nextByte i_t_begin i_t_value i_t_token i_t_got i_t_orders i_t_outputMany i_t_w) s.heap.size) 3 (wd_Md_isConsistent cI a_t a_t_w a_t_wKept a_t_saved a_t_past a_t_input a_t_n a_t_order a_t_numbers a_t_output i_t_pastMany i_t_isSaved t_thrown i_t_inputMany i_t_lastError i_t_lastOffset i_t_error i_t_offset i_t_nextByte i_t_begin i_t_value i_t_token i_t_got i_t_orders i_t_outputMany i_t_w) [(0, .ref a_t), (1, jk_V v1), (2, jk_V v2)] 51 [] := by
    intro n
    induction n with
    | zero => intro t_thrown v1 v2 hf; exact nomatch (show none = some q from hf)
    | succ n ih =>
      intro t_thrown v1 v2 hf
      rw [fn_Md_isConsistent_b51] at hf
      refine jk_iload_n C rd_Md_isConsistent_51 (k := 2) rfl ?_
      refine jk_aload_n C rd_Md_isConsistent_52 (k := 0) rfl ?_
      refine jk_get C in_Md (ci := 11) rfl 0 (by decide) tm_1263 0 rfl rfl rd_Md_isConsistent_53 ?_
      refine jk_iconst C rd_Md_isConsistent_56 ?_
      refine jk_iald C 1 0 rfl rfl (Nat.le_of_ble_eq_true rfl) rd_Md_isConsistent_57 hf (fun hf => ?_)
      refine jk_icmp_ge (tgt := 77) C rd_Md_isConsistent_58 (by decide) hf (fun _ hf => ?_) (fun _ hf => ?_)
      · refine jk_iload_n C rd_Md_isConsistent_77 (k := 1) rfl ?_
        refine jk_aload_n C rd_Md_isConsistent_78 (k := 0) rfl ?_
        refine jk_get C in_Md (ci := 11) rfl 0 (by decide) tm_1263 0 rfl rfl rd_Md_isConsistent_79 ?_
        refine jk_iconst C rd_Md_isConsistent_82 ?_
        refine jk_iald C 1 0 rfl rfl (Nat.le_of_ble_eq_true rfl) rd_Md_isConsistent_83 hf (fun hf => ?_)
        refine jk_icmp_ne (tgt := 91) C rd_Md_isConsistent_84 (by decide) hf (fun _ hf => ?_) (fun _ hf => ?_)
        · refine jk_iconst C rd_Md_isConsistent_91 ?_
          cases hf
          exact jk_zret C (Or.inl rfl) rfl rd_Md_isConsistent_92 rfl
        · refine jk_iconst C rd_Md_isConsistent_87 ?_
          refine jk_goto (tgt := 92) C rd_Md_isConsistent_88 (by decide) ?_
          cases hf
          exact jk_zret C (Or.inr rfl) rfl rd_Md_isConsistent_92 rfl
      · refine jk_aload_n C rd_Md_isConsistent_61 (k := 0) rfl ?_
        refine jk_iload_n C rd_Md_isConsistent_62 (k := 2) rfl ?_
        obtain ⟨q63, hq63, hf⟩ := jk_bind_h hf
        refine jk_callVi C hZ.1 hz (ct_Md_isCordRight l D Z sq hZ cI cR a_t a_t_w a_t_wKept a_t_saved a_t_past a_t_input a_t_n a_t_order a_t_numbers a_t_output i_t_pastMany i_t_isSaved t_thrown i_t_inputMany i_t_lastError i_t_lastOffset i_t_error i_t_offset i_t_nextByte i_t_begin i_t_value i_t_token i_t_got i_t_orders i_t_outputMany i_t_w v2 q63 hq63) tm_1827 tm_1829 sl_102 tm_15 tm_1830 na_Md_isCordRight ⟨Nat.le_of_ble_eq_true rfl, Nat.le_of_ble_eq_true rfl⟩ rfl [0, 1] rfl rfl rfl (ws' := wd_Md_isConsistent cI a_t a_t_w a_t_wKept a_t_saved a_t_past a_t_input a_t_n a_t_order a_t_numbers a_t_output i_t_pastMany i_t_isSaved t_thrown i_t_inputMany i_t_lastError i_t_lastOffset i_t_error i_t_offset i_t_nextByte i_t_begin i_t_value i_t_token i_t_got i_t_orders i_t_outputMany i_t_w) rfl 0 11 rfl rfl rfl (st := []) rfl (Nat.le_of_ble_eq_true rfl) rd_Md_isConsistent_63 ?_ ⟨Nat.le_of_ble_eq_true rfl, Nat.le_of_ble_eq_true rfl⟩
        refine jk_if_ne (tgt := 71) C rd_Md_isConsistent_66 (by decide) hf (fun _ hf => ?_) (fun _ hf => ?_)
        · refine jk_iinc C rd_Md_isConsistent_71 (k := 2) rfl (by decide) (lv' := [(2, jk_V (v2 + 1)), (0, .ref a_t), (1, jk_V v1)]) rfl ?_
          refine jk_goto (tgt := 51) C rd_Md_isConsistent_74 (by decide) ?_
          refine jk_lv (lv' := [(0, .ref a_t), (1, jk_V v1), (2, jk_V (v2 + 1))]) [1, 2, 0] rfl ?_
          exact ih t_thrown v1 (v2 + 1) hf
        · refine jk_iconst C rd_Md_isConsistent_69 ?_
          cases hf
          exact jk_zret C (Or.inl rfl) rfl rd_Md_isConsistent_70 rfl
  have bk_9 : ∀ (n : Nat) (t_thrown : Int) (v1 : Int) (v2 : Int), fn_Md_isConsistent_b9 n i_t_w t_thrown v1 v2 = some q → jk_J p l e (jk_rm 12 275) s m args below meth c 0 0 (jk_QI below D jk_cl (jk_ty cI cR) (wd_Md_isConsistent cI a_t a_t_w a_t_wKept a_t_saved a_t_past a_t_input a_t_n a_t_order a_t_numbers a_t_output i_t_pastMany i_t_isSaved i_t_thrown i_t_inputMany i_t_lastError i_t_lastOffset i_t_error i_t_offset i_t_nextByte i_t_begin i_t_value i_t_token i_t_got i_t_orders i_t_outputMany i_t_w) (wd_Md_isConsistent cI a_t a_t_w a_t_wKept a_t_saved a_t_past a_t_input a_t_n a_t_order a_t_numbers a_t_output i_t_pastMany i_t_isSaved q.2 i_t_inputMany i_t_lastError i_t_lastOffset i_t_error i_t_offset i_t_nextByte i_t_begin i_t_value i_t_token i_t_got i_t_orders i_t_outputMany i_t_w) args s q.1) D jk_cl (va_A (wd_Md_isConsistent cI a_t a_t_w a_t_wKept a_t_saved a_t_past a_t_input a_t_n a_t_order a_t_numbers a_t_output i_t_pastMany i_t_isSaved i_t_thrown i_t_inputMany i_t_lastError i_t_lastOffset i_t_error i_t_offset i_t_nextByte i_t_begin i_t_value i_t_token i_t_got i_t_orders i_t_outputMany i_t_w) s.heap.size) 3 (wd_Md_isConsistent cI a_t a_t_w a_t_wKept a_t_saved a_t_past a_t_input a_t_n a_t_order a_t_numbers a_t_output i_t_pastMany i_t_isSaved t_thrown i_t_inputMany i_t_lastError i_t_lastOffset i_t_error i_t_offset i_t_nextByte i_t_begin i_t_value i_t_token i_t_got i_t_orders i_t_outputMany i_t_w) [(0, .ref a_t), (1, jk_V v1), (2, jk_V v2)] 9 [] := by
    intro n
    induction n with
    | zero => intro t_thrown v1 v2 hf; exact nomatch (show none = some q from hf)
    | succ n ih =>
      intro t_thrown v1 v2 hf
      rw [fn_Md_isConsistent_b9] at hf
      refine jk_iload_n C rd_Md_isConsistent_9 (k := 2) rfl ?_
      refine jk_aload_n C rd_Md_isConsistent_10 (k := 0) rfl ?_
      refine jk_get C in_Md (ci := 11) rfl 0 (by decide) tm_1263 0 rfl rfl rd_Md_isConsistent_11 ?_
      refine jk_iconst C rd_Md_isConsistent_14 ?_
      refine jk_iald C 1 0 rfl rfl (Nat.le_of_ble_eq_true rfl) rd_Md_isConsistent_15 hf (fun hf => ?_)
      refine jk_icmp_ge (tgt := 49) C rd_Md_isConsistent_16 (by decide) hf (fun _ hf => ?_) (fun _ hf => ?_)
      · refine jk_iconst C rd_Md_isConsistent_49 ?_
        refine jk_istore_n C rd_Md_isConsistent_50 (by decide) (lv' := [(2, jk_V 0), (0, .ref a_t), (1, jk_V v1)]) rfl ?_
        refine jk_lv (lv' := [(0, .ref a_t), (1, jk_V v1), (2, jk_V 0)]) [1, 2, 0] rfl ?_
        exact bk_51 jk_F t_thrown v1 0 hf
      · refine jk_aload_n C rd_Md_isConsistent_19 (k := 0) rfl ?_
        refine jk_iload_n C rd_Md_isConsistent_20 (k := 2) rfl ?_
        obtain ⟨q21, hq21, hf⟩ := jk_bind_h hf
        refine jk_callVi C hZ.1 hz (ct_Md_isClusterRight l D Z sq hZ cI cR a_t a_t_w a_t_wKept a_t_saved a_t_past a_t_input a_t_n a_t_order a_t_numbers a_t_output i_t_pastMany i_t_isSaved t_thrown i_t_inputMany i_t_lastError i_t_lastOffset i_t_error i_t_offset i_t_nextByte i_t_begin i_t_value i_t_token i_t_got i_t_orders i_t_outputMany i_t_w v2 q21 hq21) tm_1819 tm_1821 sl_100 tm_15 tm_1822 na_Md_isClusterRight ⟨Nat.le_of_ble_eq_true rfl, Nat.le_of_ble_eq_true rfl⟩ rfl [0, 1] rfl rfl rfl (ws' := wd_Md_isConsistent cI a_t a_t_w a_t_wKept a_t_saved a_t_past a_t_input a_t_n a_t_order a_t_numbers a_t_output i_t_pastMany i_t_isSaved t_thrown i_t_inputMany i_t_lastError i_t_lastOffset i_t_error i_t_offset i_t_nextByte i_t_begin i_t_value i_t_token i_t_got i_t_orders i_t_outputMany i_t_w) rfl 0 11 rfl rfl rfl (st := []) rfl (Nat.le_of_ble_eq_true rfl) rd_Md_isConsistent_21 ?_ ⟨Nat.le_of_ble_eq_true rfl, Nat.le_of_ble_eq_true rfl⟩
        refine jk_if_ne (tgt := 29) C rd_Md_isConsistent_24 (by decide) hf (fun _ hf => ?_) (fun _ hf => ?_)
        · refine jk_iload_n C rd_Md_isConsistent_29 (k := 1) rfl ?_
          refine jk_aload_n C rd_Md_isConsistent_30 (k := 0) rfl ?_
          refine jk_iload_n C rd_Md_isConsistent_31 (k := 2) rfl ?_
          obtain ⟨q32, hq32, hf⟩ := jk_bind_h hf
          refine jk_callVi C hZ.1 hz (ct_Md_end l D Z sq hZ cI cR a_t a_t_w a_t_wKept a_t_saved a_t_past a_t_input a_t_n a_t_order a_t_numbers a_t_output i_t_pastMany i_t_isSaved t_thrown i_t_inputMany i_t_lastError i_t_lastOffset i_t_error i_t_offset i_t_nextByte i_t_begin i_t_value i_t_token i_t_got i_t_orders i_t_outputMany i_t_w v2 q32 hq32) tm_1437 tm_1439 sl_45 tm_15 tm_1440 na_Md_end ⟨Nat.le_of_ble_eq_true rfl, Nat.le_of_ble_eq_true rfl⟩ rfl [0, 1] rfl rfl rfl (ws' := wd_Md_isConsistent cI a_t a_t_w a_t_wKept a_t_saved a_t_past a_t_input a_t_n a_t_order a_t_numbers a_t_output i_t_pastMany i_t_isSaved t_thrown i_t_inputMany i_t_lastError i_t_lastOffset i_t_error i_t_offset i_t_nextByte i_t_begin i_t_value i_t_token i_t_got i_t_orders i_t_outputMany i_t_w) rfl 0 11 rfl rfl rfl (st := [jk_V v1]) rfl (Nat.le_of_ble_eq_true rfl) rd_Md_isConsistent_32 ?_ ⟨Nat.le_of_ble_eq_true rfl, Nat.le_of_ble_eq_true rfl⟩
          refine jk_aload_n C rd_Md_isConsistent_35 (k := 0) rfl ?_
          refine jk_iload_n C rd_Md_isConsistent_36 (k := 2) rfl ?_
          obtain ⟨q37, hq37, hf⟩ := jk_bind_h hf
          refine jk_callVi C hZ.1 hz (ct_Md_first l D Z sq hZ cI cR a_t a_t_w a_t_wKept a_t_saved a_t_past a_t_input a_t_n a_t_order a_t_numbers a_t_output i_t_pastMany i_t_isSaved t_thrown i_t_inputMany i_t_lastError i_t_lastOffset i_t_error i_t_offset i_t_nextByte i_t_begin i_t_value i_t_token i_t_got i_t_orders i_t_outputMany i_t_w v2 q37 hq37) tm_1433 tm_1435 sl_44 tm_15 tm_1436 na_Md_first ⟨Nat.le_of_ble_eq_true rfl, Nat.le_of_ble_eq_true rfl⟩ rfl [0, 1] rfl rfl rfl (ws' := wd_Md_isConsistent cI a_t a_t_w a_t_wKept a_t_saved a_t_past a_t_input a_t_n a_t_order a_t_numbers a_t_output i_t_pastMany i_t_isSaved t_thrown i_t_inputMany i_t_lastError i_t_lastOffset i_t_error i_t_offset i_t_nextByte i_t_begin i_t_value i_t_token i_t_got i_t_orders i_t_outputMany i_t_w) rfl 0 11 rfl rfl rfl (st := [jk_V q32, jk_V v1]) rfl (Nat.le_of_ble_eq_true rfl) rd_Md_isConsistent_37 ?_ ⟨Nat.le_of_ble_eq_true rfl, Nat.le_of_ble_eq_true rfl⟩
          refine jk_isub C rd_Md_isConsistent_40 ?_
          refine jk_iadd C rd_Md_isConsistent_41 ?_
          refine jk_istore_n C rd_Md_isConsistent_42 (by decide) (lv' := [(1, jk_V (v1 + (q32 - q37))), (0, .ref a_t), (2, jk_V v2)]) rfl ?_
          refine jk_iinc C rd_Md_isConsistent_43 (k := 2) rfl (by decide) (lv' := [(2, jk_V (v2 + 1)), (1, jk_V (v1 + (q32 - q37))), (0, .ref a_t)]) rfl ?_
          refine jk_goto (tgt := 9) C rd_Md_isConsistent_46 (by decide) ?_
          refine jk_lv (lv' := [(0, .ref a_t), (1, jk_V (v1 + (q32 - q37))), (2, jk_V (v2 + 1))]) [2, 1, 0] rfl ?_
          exact ih t_thrown (v1 + (q32 - q37)) (v2 + 1) hf
        · refine jk_iconst C rd_Md_isConsistent_27 ?_
          cases hf
          exact jk_zret C (Or.inl rfl) rfl rd_Md_isConsistent_28 rfl
  refine jk_aload_n C rd_Md_isConsistent_0 (k := 0) rfl ?_
  refine jk_iconst C rd_Md_isConsistent_1 ?_
  refine jk_putf C in_Md ty_Md nm_Md (ci := 11) rfl 6 (by decide) tm_1269 rfl rfl rfl 0 rfl (Nat.le_of_ble_eq_true rfl) rd_Md_isConsistent_2 (ws' := wd_Md_isConsistent cI a_t a_t_w a_t_wKept a_t_saved a_t_past a_t_input a_t_n a_t_order a_t_numbers a_t_output i_t_pastMany i_t_isSaved 0 i_t_inputMany i_t_lastError i_t_lastOffset i_t_error i_t_offset i_t_nextByte i_t_begin i_t_value i_t_token i_t_got i_t_orders i_t_outputMany i_t_w) rfl ?_
  refine jk_iconst C rd_Md_isConsistent_5 ?_
  refine jk_istore_n C rd_Md_isConsistent_6 (by decide) (lv' := [(1, jk_V 0), (0, .ref a_t)]) rfl ?_
  refine jk_iconst C rd_Md_isConsistent_7 ?_
  refine jk_istore_n C rd_Md_isConsistent_8 (by decide) (lv' := [(2, jk_V 0), (1, jk_V 0), (0, .ref a_t)]) rfl ?_
  refine jk_lv (lv' := [(0, .ref a_t), (1, jk_V 0), (2, jk_V 0)]) [2, 1, 0] rfl ?_
  exact bk_9 jk_F 0 0 0 hf
def wd_Md_addCluster (cI : ClassId) (a_t a_t_w a_t_wKept a_t_saved a_t_past a_t_input a_t_n a_t_order a_t_numbers a_t_output : Nat) (i_t_pastMany : Int) (i_t_isSaved : Int) (i_t_thrown : Int) (i_t_inputMany : Int) (i_t_lastError : Int) (i_t_lastOffset : Int) (i_t_error : Int) (i_t_offset : Int) (i_t_nextByte : Int) (i_t_begin : Int) (i_t_value : Int) (i_t_token : Int) (i_t_got : Int) (i_t_orders : Int) (i_t_outputMany : Int) (i_t_w : (Int → Int)) (i_t_past : (Int → Int)) : va_W := [(a_t, .inr (11, [.ref a_t_w, .ref a_t_wKept, .ref a_t_saved, .ref a_t_past, jk_V i_t_pastMany, jk_V i_t_isSaved, jk_V i_t_thrown, .ref a_t_input, jk_V i_t_inputMany, jk_V i_t_lastError, jk_V i_t_lastOffset, jk_V i_t_error, jk_V i_t_offset, jk_V i_t_nextByte, jk_V i_t_begin, jk_V i_t_value, jk_V i_t_token, jk_V i_t_got, .ref a_t_n, .ref a_t_order, .ref a_t_numbers, jk_V i_t_orders, .ref a_t_output, jk_V i_t_outputMany])), (a_t_w, jk_W cI 259 i_t_w), (a_t_past, jk_W cI 2072 i_t_past)]
set_option maxHeartbeats 4000000 in
set_option maxRecDepth 20000 in
theorem ct_Md_addCluster (l : Launch) (D : va_G) (Z : (Nat → Prop) → State → Heap → Prop) (sq : Nat → Nat) (hZ : jk_ZK Z sq) (cI cR : ClassId) (a_t a_t_w a_t_wKept a_t_saved a_t_past a_t_input a_t_n a_t_order a_t_numbers a_t_output : Nat) (i_t_pastMany : Int) (i_t_isSaved : Int) (i_t_thrown : Int) (i_t_inputMany : Int) (i_t_lastError : Int) (i_t_lastOffset : Int) (i_t_error : Int) (i_t_offset : Int) (i_t_nextByte : Int) (i_t_begin : Int) (i_t_value : Int) (i_t_token : Int) (i_t_got : Int) (i_t_orders : Int) (i_t_outputMany : Int) (i_t_w : (Int → Int)) (i_t_past : (Int → Int)) (q : Int × (Int → Int) × (Int → Int) × Int × Int) (hf : fn_Md_addCluster i_t_w i_t_past i_t_pastMany i_t_thrown = some q) : jk_MI l D jk_cl (jk_ty cI cR) Z mn_Md_addCluster (.code mn_Md_addCluster mb_Md_addCluster 1 (some .int) :: jk_WA) (jk_rm 2 45) [.ref a_t] (wd_Md_addCluster cI a_t a_t_w a_t_wKept a_t_saved a_t_past a_t_input a_t_n a_t_order a_t_numbers a_t_output i_t_pastMany i_t_isSaved i_t_thrown i_t_inputMany i_t_lastError i_t_lastOffset i_t_error i_t_offset i_t_nextByte i_t_begin i_t_value i_t_token i_t_got i_t_orders i_t_outputMany i_t_w i_t_past) (wd_Md_addCluster cI a_t a_t_w a_t_wKept a_t_saved a_t_past a_t_input a_t_n a_t_order a_t_numbers a_t_output q.2.2.2.1 i_t_isSaved q.2.2.2.2 i_t_inputMany i_t_lastError i_t_lastOffset i_t_error i_t_offset i_t_nextByte i_t_begin i_t_value i_t_token i_t_got i_t_orders i_t_outputMany q.2.1 q.2.2.1) q.1 := by
  intro sz
  refine jk_body (by decide +kernel) (fun p e s m args below meth c hsz hz hin C => ?_) (Nat.le_of_ble_eq_true rfl)
  subst hsz
  unfold fn_Md_addCluster at hf
  refine jk_aload_n C rd_Md_addCluster_0 (k := 0) rfl ?_
  refine jk_iconst C rd_Md_addCluster_1 ?_
  refine jk_putf C in_Md ty_Md nm_Md (ci := 11) rfl 6 (by decide) tm_1269 rfl rfl rfl 0 rfl (Nat.le_of_ble_eq_true rfl) rd_Md_addCluster_2 (ws' := wd_Md_addCluster cI a_t a_t_w a_t_wKept a_t_saved a_t_past a_t_input a_t_n a_t_order a_t_numbers a_t_output i_t_pastMany i_t_isSaved 0 i_t_inputMany i_t_lastError i_t_lastOffset i_t_error i_t_offset i_t_nextByte i_t_begin i_t_value i_t_token i_t_got i_t_orders i_t_outputMany i_t_w i_t_past) rfl ?_
  refine jk_aload_n C rd_Md_addCluster_5 (k := 0) rfl ?_
  refine jk_aload_n C rd_Md_addCluster_6 (k := 0) rfl ?_
  refine jk_get C in_Md (ci := 11) rfl 0 (by decide) tm_1263 0 rfl rfl rd_Md_addCluster_7 ?_
  refine jk_iconst C rd_Md_addCluster_10 ?_
  refine jk_iald C 1 0 rfl rfl (Nat.le_of_ble_eq_true rfl) rd_Md_addCluster_11 hf (fun hf => ?_)
  refine jk_bipush C rd_Md_addCluster_12 (by decide +kernel) ?_
  refine jk_icmp_ne (tgt := 21) C rd_Md_addCluster_14 (by decide) hf (fun _ hf => ?_) (fun _ hf => ?_)
  · refine jk_iconst C rd_Md_addCluster_21 ?_
    refine jk_iconst C rd_Md_addCluster_22 ?_
    obtain ⟨q23, hq23, hf⟩ := jk_bind_h hf
    refine jk_callVi C hZ.1 hz (ct_Md_fails l D Z sq hZ cI cR a_t a_t_w a_t_wKept a_t_saved a_t_past a_t_input a_t_n a_t_order a_t_numbers a_t_output i_t_pastMany i_t_isSaved 0 i_t_inputMany i_t_lastError i_t_lastOffset i_t_error i_t_offset i_t_nextByte i_t_begin i_t_value i_t_token i_t_got i_t_orders i_t_outputMany 0 1 q23 hq23) tm_1643 tm_1645 sl_87 tm_15 tm_1646 na_Md_fails ⟨Nat.le_of_ble_eq_true rfl, Nat.le_of_ble_eq_true rfl⟩ rfl [0] rfl rfl rfl (ws' := wd_Md_addCluster cI a_t a_t_w a_t_wKept a_t_saved a_t_past a_t_input a_t_n a_t_order a_t_numbers a_t_output i_t_pastMany i_t_isSaved q23.2 i_t_inputMany i_t_lastError i_t_lastOffset i_t_error i_t_offset i_t_nextByte i_t_begin i_t_value i_t_token i_t_got i_t_orders i_t_outputMany i_t_w i_t_past) rfl 0 11 rfl rfl rfl (st := []) rfl (Nat.le_of_ble_eq_true rfl) rd_Md_addCluster_23 ?_ ⟨Nat.le_of_ble_eq_true rfl, Nat.le_of_ble_eq_true rfl⟩
    refine jk_if_eq (tgt := 31) C rd_Md_addCluster_26 (by decide) hf (fun _ hf => ?_) (fun _ hf => ?_)
    · refine jk_aload_n C rd_Md_addCluster_31 (k := 0) rfl ?_
      obtain ⟨q32, hq32, hf⟩ := jk_bind_h hf
      refine jk_callVv C hZ.1 hz (ct_Md_remembers l D Z sq hZ cI cR a_t a_t_w a_t_wKept a_t_saved a_t_past a_t_input a_t_n a_t_order a_t_numbers a_t_output i_t_pastMany i_t_isSaved q23.2 i_t_inputMany i_t_lastError i_t_lastOffset i_t_error i_t_offset i_t_nextByte i_t_begin i_t_value i_t_token i_t_got i_t_orders i_t_outputMany i_t_w i_t_past q32 hq32) tm_1512 tm_1514 sl_61 tm_15 tm_1515 na_Md_remembers ⟨Nat.le_of_ble_eq_true rfl, Nat.le_of_ble_eq_true rfl⟩ rfl [0, 1, 2] rfl rfl rfl (ws' := wd_Md_addCluster cI a_t a_t_w a_t_wKept a_t_saved a_t_past a_t_input a_t_n a_t_order a_t_numbers a_t_output q32.2 i_t_isSaved q23.2 i_t_inputMany i_t_lastError i_t_lastOffset i_t_error i_t_offset i_t_nextByte i_t_begin i_t_value i_t_token i_t_got i_t_orders i_t_outputMany i_t_w q32.1) rfl 0 11 rfl rfl rfl (st := []) rfl (Nat.le_of_ble_eq_true rfl) rd_Md_addCluster_32 ?_ ⟨Nat.le_of_ble_eq_true rfl, Nat.le_of_ble_eq_true rfl⟩
      refine jk_aload_n C rd_Md_addCluster_35 (k := 0) rfl ?_
      obtain ⟨q36, hq36, hf⟩ := jk_bind_h hf
      refine jk_callVi C hZ.1 hz (ct_Md_addsCluster l D Z sq hZ cI cR a_t a_t_w a_t_wKept a_t_saved a_t_past a_t_input a_t_n a_t_order a_t_numbers a_t_output q32.2 i_t_isSaved q23.2 i_t_inputMany i_t_lastError i_t_lastOffset i_t_error i_t_offset i_t_nextByte i_t_begin i_t_value i_t_token i_t_got i_t_orders i_t_outputMany i_t_w q36 hq36) tm_1520 tm_1522 sl_63 tm_15 tm_1523 na_Md_addsCluster ⟨Nat.le_of_ble_eq_true rfl, Nat.le_of_ble_eq_true rfl⟩ rfl [0, 1] rfl rfl rfl (ws' := wd_Md_addCluster cI a_t a_t_w a_t_wKept a_t_saved a_t_past a_t_input a_t_n a_t_order a_t_numbers a_t_output q32.2 i_t_isSaved q23.2 i_t_inputMany i_t_lastError i_t_lastOffset i_t_error i_t_offset i_t_nextByte i_t_begin i_t_value i_t_token i_t_got i_t_orders i_t_outputMany q36.2 q32.1) rfl 0 11 rfl rfl rfl (st := []) rfl (Nat.le_of_ble_eq_true rfl) rd_Md_addCluster_36 ?_ ⟨Nat.le_of_ble_eq_true rfl, Nat.le_of_ble_eq_true rfl⟩
      cases hf
      exact jk_iret C rfl rd_Md_addCluster_39 rfl
    · refine jk_iconst C rd_Md_addCluster_29 ?_
      cases hf
      exact jk_iret C rfl rd_Md_addCluster_30 rfl
  · refine jk_iconst C rd_Md_addCluster_17 ?_
    refine jk_goto (tgt := 22) C rd_Md_addCluster_18 (by decide) ?_
    refine jk_iconst C rd_Md_addCluster_22 ?_
    obtain ⟨q23, hq23, hf⟩ := jk_bind_h hf
    refine jk_callVi C hZ.1 hz (ct_Md_fails l D Z sq hZ cI cR a_t a_t_w a_t_wKept a_t_saved a_t_past a_t_input a_t_n a_t_order a_t_numbers a_t_output i_t_pastMany i_t_isSaved 0 i_t_inputMany i_t_lastError i_t_lastOffset i_t_error i_t_offset i_t_nextByte i_t_begin i_t_value i_t_token i_t_got i_t_orders i_t_outputMany 1 1 q23 hq23) tm_1643 tm_1645 sl_87 tm_15 tm_1646 na_Md_fails ⟨Nat.le_of_ble_eq_true rfl, Nat.le_of_ble_eq_true rfl⟩ rfl [0] rfl rfl rfl (ws' := wd_Md_addCluster cI a_t a_t_w a_t_wKept a_t_saved a_t_past a_t_input a_t_n a_t_order a_t_numbers a_t_output i_t_pastMany i_t_isSaved q23.2 i_t_inputMany i_t_lastError i_t_lastOffset i_t_error i_t_offset i_t_nextByte i_t_begin i_t_value i_t_token i_t_got i_t_orders i_t_outputMany i_t_w i_t_past) rfl 0 11 rfl rfl rfl (st := []) rfl (Nat.le_of_ble_eq_true rfl) rd_Md_addCluster_23 ?_ ⟨Nat.le_of_ble_eq_true rfl, Nat.le_of_ble_eq_true rfl⟩
    refine jk_if_eq (tgt := 31) C rd_Md_addCluster_26 (by decide) hf (fun _ hf => ?_) (fun _ hf => ?_)
    · refine jk_aload_n C rd_Md_addCluster_31 (k := 0) rfl ?_
      obtain ⟨q32, hq32, hf⟩ := jk_bind_h hf
      refine jk_callVv C hZ.1 hz (ct_Md_remembers l D Z sq hZ cI cR a_t a_t_w a_t_wKept a_t_saved a_t_past a_t_input a_t_n a_t_order a_t_numbers a_t_output i_t_pastMany i_t_isSaved q23.2 i_t_inputMany i_t_lastError i_t_lastOffset i_t_error i_t_offset i_t_nextByte i_t_begin i_t_value i_t_token i_t_got i_t_orders i_t_outputMany i_t_w i_t_past q32 hq32) tm_1512 tm_1514 sl_61 tm_15 tm_1515 na_Md_remembers ⟨Nat.le_of_ble_eq_true rfl, Nat.le_of_ble_eq_true rfl⟩ rfl [0, 1, 2] rfl rfl rfl (ws' := wd_Md_addCluster cI a_t a_t_w a_t_wKept a_t_saved a_t_past a_t_input a_t_n a_t_order a_t_numbers a_t_output q32.2 i_t_isSaved q23.2 i_t_inputMany i_t_lastError i_t_lastOffset i_t_error i_t_offset i_t_nextByte i_t_begin i_t_value i_t_token i_t_got i_t_orders i_t_outputMany i_t_w q32.1) rfl 0 11 rfl rfl rfl (st := []) rfl (Nat.le_of_ble_eq_true rfl) rd_Md_addCluster_32 ?_ ⟨Nat.le_of_ble_eq_true rfl, Nat.le_of_ble_eq_true rfl⟩
      refine jk_aload_n C rd_Md_addCluster_35 (k := 0) rfl ?_
      obtain ⟨q36, hq36, hf⟩ := jk_bind_h hf
      refine jk_callVi C hZ.1 hz (ct_Md_addsCluster l D Z sq hZ cI cR a_t a_t_w a_t_wKept a_t_saved a_t_past a_t_input a_t_n a_t_order a_t_numbers a_t_output q32.2 i_t_isSaved q23.2 i_t_inputMany i_t_lastError i_t_lastOffset i_t_error i_t_offset i_t_nextByte i_t_begin i_t_value i_t_token i_t_got i_t_orders i_t_outputMany i_t_w q36 hq36) tm_1520 tm_1522 sl_63 tm_15 tm_1523 na_Md_addsCluster ⟨Nat.le_of_ble_eq_true rfl, Nat.le_of_ble_eq_true rfl⟩ rfl [0, 1] rfl rfl rfl (ws' := wd_Md_addCluster cI a_t a_t_w a_t_wKept a_t_saved a_t_past a_t_input a_t_n a_t_order a_t_numbers a_t_output q32.2 i_t_isSaved q23.2 i_t_inputMany i_t_lastError i_t_lastOffset i_t_error i_t_offset i_t_nextByte i_t_begin i_t_value i_t_token i_t_got i_t_orders i_t_outputMany q36.2 q32.1) rfl 0 11 rfl rfl rfl (st := []) rfl (Nat.le_of_ble_eq_true rfl) rd_Md_addCluster_36 ?_ ⟨Nat.le_of_ble_eq_true rfl, Nat.le_of_ble_eq_true rfl⟩
      cases hf
      exact jk_iret C rfl rd_Md_addCluster_39 rfl
    · refine jk_iconst C rd_Md_addCluster_29 ?_
      cases hf
      exact jk_iret C rfl rd_Md_addCluster_30 rfl
def wd_Md_noValue (cI : ClassId) (a_t a_t_w a_t_wKept a_t_saved a_t_past a_t_input a_t_n a_t_order a_t_numbers a_t_output : Nat) (i_t_pastMany : Int) (i_t_isSaved : Int) (i_t_thrown : Int) (i_t_inputMany : Int) (i_t_lastError : Int) (i_t_lastOffset : Int) (i_t_error : Int) (i_t_offset : Int) (i_t_nextByte : Int) (i_t_begin : Int) (i_t_value : Int) (i_t_token : Int) (i_t_got : Int) (i_t_orders : Int) (i_t_outputMany : Int) : va_W := [(a_t, .inr (11, [.ref a_t_w, .ref a_t_wKept, .ref a_t_saved, .ref a_t_past, jk_V i_t_pastMany, jk_V i_t_isSaved, jk_V i_t_thrown, .ref a_t_input, jk_V i_t_inputMany, jk_V i_t_lastError, jk_V i_t_lastOffset, jk_V i_t_error, jk_V i_t_offset, jk_V i_t_nextByte, jk_V i_t_begin, jk_V i_t_value, jk_V i_t_token, jk_V i_t_got, .ref a_t_n, .ref a_t_order, .ref a_t_numbers, jk_V i_t_orders, .ref a_t_output, jk_V i_t_outputMany]))]
set_option maxHeartbeats 4000000 in
set_option maxRecDepth 20000 in
theorem ct_Md_noValue (l : Launch) (D : va_G) (Z : (Nat → Prop) → State → Heap → Prop) (sq : Nat → Nat) (hZ : jk_ZK Z sq) (cI cR : ClassId) (a_t a_t_w a_t_wKept a_t_saved a_t_past a_t_input a_t_n a_t_order a_t_numbers a_t_output : Nat) (i_t_pastMany : Int) (i_t_isSaved : Int) (i_t_thrown : Int) (i_t_inputMany : Int) (i_t_lastError : Int) (i_t_lastOffset : Int) (i_t_error : Int) (i_t_offset : Int) (i_t_nextByte : Int) (i_t_begin : Int) (i_t_value : Int) (i_t_token : Int) (i_t_got : Int) (i_t_orders : Int) (i_t_outputMany : Int) (x1 : Int) (q : Int × Int) (hf : fn_Md_noValue i_t_thrown x1 = some q) : jk_MI l D jk_cl (jk_ty cI cR) Z mn_Md_noValue (.code mn_Md_noValue mb_Md_noValue 2 (some .boolean) :: jk_WA) (jk_rm 1 22) [.ref a_t, jk_V x1] (wd_Md_noValue cI a_t a_t_w a_t_wKept a_t_saved a_t_past a_t_input a_t_n a_t_order a_t_numbers a_t_output i_t_pastMany i_t_isSaved i_t_thrown i_t_inputMany i_t_lastError i_t_lastOffset i_t_error i_t_offset i_t_nextByte i_t_begin i_t_value i_t_token i_t_got i_t_orders i_t_outputMany) (wd_Md_noValue cI a_t a_t_w a_t_wKept a_t_saved a_t_past a_t_input a_t_n a_t_order a_t_numbers a_t_output i_t_pastMany i_t_isSaved q.2 i_t_inputMany i_t_lastError i_t_lastOffset i_t_error i_t_offset i_t_nextByte i_t_begin i_t_value i_t_token i_t_got i_t_orders i_t_outputMany) q.1 := by
  intro sz
  refine jk_body (by decide +kernel) (fun p e s m args below meth c hsz hz hin C => ?_) (Nat.le_of_ble_eq_true rfl)
  subst hsz
  unfold fn_Md_noValue at hf
  refine jk_aload_n C rd_Md_noValue_0 (k := 0) rfl ?_
  refine jk_iload_n C rd_Md_noValue_1 (k := 1) rfl ?_
  refine jk_iconst C rd_Md_noValue_2 ?_
  refine jk_sipush C rd_Md_noValue_3 (by decide +kernel) ?_
  obtain ⟨q6, hq6, hf⟩ := jk_bind_h hf
  refine jk_callSi C hZ.1 hz (ct_Md_inRange l D Z sq hZ cI cR x1 0 9999 q6 hq6) tm_1352 tm_1353 tm_15 tm_1354 na_Md_inRange ⟨Nat.le_of_ble_eq_true rfl, Nat.le_of_ble_eq_true rfl⟩ rfl [] rfl rfl rfl (ws' := wd_Md_noValue cI a_t a_t_w a_t_wKept a_t_saved a_t_past a_t_input a_t_n a_t_order a_t_numbers a_t_output i_t_pastMany i_t_isSaved i_t_thrown i_t_inputMany i_t_lastError i_t_lastOffset i_t_error i_t_offset i_t_nextByte i_t_begin i_t_value i_t_token i_t_got i_t_orders i_t_outputMany) rfl (st := [.ref a_t]) rfl (Nat.le_of_ble_eq_true rfl) rd_Md_noValue_6 ?_ ⟨Nat.le_of_ble_eq_true rfl, Nat.le_of_ble_eq_true rfl⟩
  refine jk_if_ne (tgt := 16) C rd_Md_noValue_9 (by decide) hf (fun _ hf => ?_) (fun _ hf => ?_)
  · refine jk_iconst C rd_Md_noValue_16 ?_
    refine jk_iconst C rd_Md_noValue_17 ?_
    obtain ⟨q18, hq18, hf⟩ := jk_bind_h hf
    refine jk_callVi C hZ.1 hz (ct_Md_fails l D Z sq hZ cI cR a_t a_t_w a_t_wKept a_t_saved a_t_past a_t_input a_t_n a_t_order a_t_numbers a_t_output i_t_pastMany i_t_isSaved i_t_thrown i_t_inputMany i_t_lastError i_t_lastOffset i_t_error i_t_offset i_t_nextByte i_t_begin i_t_value i_t_token i_t_got i_t_orders i_t_outputMany 0 2 q18 hq18) tm_1643 tm_1645 sl_87 tm_15 tm_1646 na_Md_fails ⟨Nat.le_of_ble_eq_true rfl, Nat.le_of_ble_eq_true rfl⟩ rfl [0] rfl rfl rfl (ws' := wd_Md_noValue cI a_t a_t_w a_t_wKept a_t_saved a_t_past a_t_input a_t_n a_t_order a_t_numbers a_t_output i_t_pastMany i_t_isSaved q18.2 i_t_inputMany i_t_lastError i_t_lastOffset i_t_error i_t_offset i_t_nextByte i_t_begin i_t_value i_t_token i_t_got i_t_orders i_t_outputMany) rfl 0 11 rfl rfl rfl (st := []) rfl (Nat.le_of_ble_eq_true rfl) rd_Md_noValue_18 ?_ ⟨Nat.le_of_ble_eq_true rfl, Nat.le_of_ble_eq_true rfl⟩
    obtain ⟨hbo, hf⟩ := jk_bo_h hf
    cases hf
    exact jk_zret C hbo rfl rd_Md_noValue_21 rfl
  · refine jk_iconst C rd_Md_noValue_12 ?_
    refine jk_goto (tgt := 17) C rd_Md_noValue_13 (by decide) ?_
    refine jk_iconst C rd_Md_noValue_17 ?_
    obtain ⟨q18, hq18, hf⟩ := jk_bind_h hf
    refine jk_callVi C hZ.1 hz (ct_Md_fails l D Z sq hZ cI cR a_t a_t_w a_t_wKept a_t_saved a_t_past a_t_input a_t_n a_t_order a_t_numbers a_t_output i_t_pastMany i_t_isSaved i_t_thrown i_t_inputMany i_t_lastError i_t_lastOffset i_t_error i_t_offset i_t_nextByte i_t_begin i_t_value i_t_token i_t_got i_t_orders i_t_outputMany 1 2 q18 hq18) tm_1643 tm_1645 sl_87 tm_15 tm_1646 na_Md_fails ⟨Nat.le_of_ble_eq_true rfl, Nat.le_of_ble_eq_true rfl⟩ rfl [0] rfl rfl rfl (ws' := wd_Md_noValue cI a_t a_t_w a_t_wKept a_t_saved a_t_past a_t_input a_t_n a_t_order a_t_numbers a_t_output i_t_pastMany i_t_isSaved q18.2 i_t_inputMany i_t_lastError i_t_lastOffset i_t_error i_t_offset i_t_nextByte i_t_begin i_t_value i_t_token i_t_got i_t_orders i_t_outputMany) rfl 0 11 rfl rfl rfl (st := []) rfl (Nat.le_of_ble_eq_true rfl) rd_Md_noValue_18 ?_ ⟨Nat.le_of_ble_eq_true rfl, Nat.le_of_ble_eq_true rfl⟩
    obtain ⟨hbo, hf⟩ := jk_bo_h hf
    cases hf
    exact jk_zret C hbo rfl rd_Md_noValue_21 rfl
def wd_Md_addPendant (cI : ClassId) (a_t a_t_w a_t_wKept a_t_saved a_t_past a_t_input a_t_n a_t_order a_t_numbers a_t_output : Nat) (i_t_pastMany : Int) (i_t_isSaved : Int) (i_t_thrown : Int) (i_t_inputMany : Int) (i_t_lastError : Int) (i_t_lastOffset : Int) (i_t_error : Int) (i_t_offset : Int) (i_t_nextByte : Int) (i_t_begin : Int) (i_t_value : Int) (i_t_token : Int) (i_t_got : Int) (i_t_orders : Int) (i_t_outputMany : Int) (i_t_w : (Int → Int)) (i_t_past : (Int → Int)) : va_W := [(a_t, .inr (11, [.ref a_t_w, .ref a_t_wKept, .ref a_t_saved, .ref a_t_past, jk_V i_t_pastMany, jk_V i_t_isSaved, jk_V i_t_thrown, .ref a_t_input, jk_V i_t_inputMany, jk_V i_t_lastError, jk_V i_t_lastOffset, jk_V i_t_error, jk_V i_t_offset, jk_V i_t_nextByte, jk_V i_t_begin, jk_V i_t_value, jk_V i_t_token, jk_V i_t_got, .ref a_t_n, .ref a_t_order, .ref a_t_numbers, jk_V i_t_orders, .ref a_t_output, jk_V i_t_outputMany])), (a_t_w, jk_W cI 259 i_t_w), (a_t_past, jk_W cI 2072 i_t_past)]
set_option maxHeartbeats 4000000 in
set_option maxRecDepth 20000 in
theorem ct_Md_addPendant (l : Launch) (D : va_G) (Z : (Nat → Prop) → State → Heap → Prop) (sq : Nat → Nat) (hZ : jk_ZK Z sq) (cI cR : ClassId) (a_t a_t_w a_t_wKept a_t_saved a_t_past a_t_input a_t_n a_t_order a_t_numbers a_t_output : Nat) (i_t_pastMany : Int) (i_t_isSaved : Int) (i_t_thrown : Int) (i_t_inputMany : Int) (i_t_lastError : Int) (i_t_lastOffset : Int) (i_t_error : Int) (i_t_offset : Int) (i_t_nextByte : Int) (i_t_begin : Int) (i_t_value : Int) (i_t_token : Int) (i_t_got : Int) (i_t_orders : Int) (i_t_outputMany : Int) (i_t_w : (Int → Int)) (i_t_past : (Int → Int)) (x1 : Int) (x2 : Int) (x3 : Int) (q : Int × (Int → Int) × (Int → Int) × Int × Int) (hf : fn_Md_addPendant i_t_w i_t_past i_t_pastMany i_t_thrown x1 x2 x3 = some q) : jk_MI l D jk_cl (jk_ty cI cR) Z mn_Md_addPendant (.code mn_Md_addPendant mb_Md_addPendant 4 (some .int) :: jk_WA) (jk_rm 4 88) [.ref a_t, jk_V x1, jk_V x2, jk_V x3] (wd_Md_addPendant cI a_t a_t_w a_t_wKept a_t_saved a_t_past a_t_input a_t_n a_t_order a_t_numbers a_t_output i_t_pastMany i_t_isSaved i_t_thrown i_t_inputMany i_t_lastError i_t_lastOffset i_t_error i_t_offset i_t_nextByte i_t_begin i_t_value i_t_token i_t_got i_t_orders i_t_outputMany i_t_w i_t_past) (wd_Md_addPendant cI a_t a_t_w a_t_wKept a_t_saved a_t_past a_t_input a_t_n a_t_order a_t_numbers a_t_output q.2.2.2.1 i_t_isSaved q.2.2.2.2 i_t_inputMany i_t_lastError i_t_lastOffset i_t_error i_t_offset i_t_nextByte i_t_begin i_t_value i_t_token i_t_got i_t_orders i_t_outputMany q.2.1 q.2.2.1) q.1 := by
  intro sz
  refine jk_body (by decide +kernel) (fun p e s m args below meth c hsz hz hin C => ?_) (Nat.le_of_ble_eq_true rfl)
  subst hsz
  unfold fn_Md_addPendant at hf
  have bk_42 : ∀ (t_w : (Int → Int)) (t_past : (Int → Int)) (t_pastMany : Int) (t_thrown : Int) (v1 : Int) (v2 : Int) (v3 : Int) (s0 : Int), fn_Md_addPendant_b42 t_w t_past t_pastMany t_thrown v1 v2 v3 s0 = some q → jk_J p l e (jk_rm 4 88) s m args below meth c 0 0 (jk_QI below D jk_cl (jk_ty cI cR) (wd_Md_addPendant cI a_t a_t_w a_t_wKept a_t_saved a_t_past a_t_input a_t_n a_t_order a_t_numbers a_t_output i_t_pastMany i_t_isSaved i_t_thrown i_t_inputMany i_t_lastError i_t_lastOffset i_t_error i_t_offset i_t_nextByte i_t_begin i_t_value i_t_token i_t_got i_t_orders i_t_outputMany i_t_w i_t_past) (wd_Md_addPendant cI a_t a_t_w a_t_wKept a_t_saved a_t_past a_t_input a_t_n a_t_order a_t_numbers a_t_output q.2.2.2.1 i_t_isSaved q.2.2.2.2 i_t_inputMany i_t_lastError i_t_lastOffset i_t_error i_t_offset i_t_nextByte i_t_begin i_t_value i_t_token i_t_got i_t_orders i_t_outputMany q.2.1 q.2.2.1) args s q.1) D jk_cl (va_A (wd_Md_addPendant cI a_t a_t_w a_t_wKept a_t_saved a_t_past a_t_input a_t_n a_t_order a_t_numbers a_t_output i_t_pastMany i_t_isSaved i_t_thrown i_t_inputMany i_t_lastError i_t_lastOffset i_t_error i_t_offset i_t_nextByte i_t_begin i_t_value i_t_token i_t_got i_t_orders i_t_outputMany i_t_w i_t_past) s.heap.size) 4 (wd_Md_addPendant cI a_t a_t_w a_t_wKept a_t_saved a_t_past a_t_input a_t_n a_t_order a_t_numbers a_t_output t_pastMany i_t_isSaved t_thrown i_t_inputMany i_t_lastError i_t_lastOffset i_t_error i_t_offset i_t_nextByte i_t_begin i_t_value i_t_token i_t_got i_t_orders i_t_outputMany t_w t_past) [(0, .ref a_t), (1, jk_V v1), (2, jk_V v2), (3, jk_V v3)] 42 [jk_V s0, .ref a_t] := by
    intro t_w t_past t_pastMany t_thrown v1 v2 v3 s0 hf
    unfold fn_Md_addPendant_b42 at hf
    refine jk_iconst C rd_Md_addPendant_42 ?_
    obtain ⟨q43, hq43, hf⟩ := jk_bind_h hf
    refine jk_callVi C hZ.1 hz (ct_Md_fails l D Z sq hZ cI cR a_t a_t_w a_t_wKept a_t_saved a_t_past a_t_input a_t_n a_t_order a_t_numbers a_t_output t_pastMany i_t_isSaved t_thrown i_t_inputMany i_t_lastError i_t_lastOffset i_t_error i_t_offset i_t_nextByte i_t_begin i_t_value i_t_token i_t_got i_t_orders i_t_outputMany s0 3 q43 hq43) tm_1643 tm_1645 sl_87 tm_15 tm_1646 na_Md_fails ⟨Nat.le_of_ble_eq_true rfl, Nat.le_of_ble_eq_true rfl⟩ rfl [0] rfl rfl rfl (ws' := wd_Md_addPendant cI a_t a_t_w a_t_wKept a_t_saved a_t_past a_t_input a_t_n a_t_order a_t_numbers a_t_output t_pastMany i_t_isSaved q43.2 i_t_inputMany i_t_lastError i_t_lastOffset i_t_error i_t_offset i_t_nextByte i_t_begin i_t_value i_t_token i_t_got i_t_orders i_t_outputMany t_w t_past) rfl 0 11 rfl rfl rfl (st := []) rfl (Nat.le_of_ble_eq_true rfl) rd_Md_addPendant_43 ?_ ⟨Nat.le_of_ble_eq_true rfl, Nat.le_of_ble_eq_true rfl⟩
    refine jk_if_eq (tgt := 51) C rd_Md_addPendant_46 (by decide) hf (fun _ hf => ?_) (fun _ hf => ?_)
    · refine jk_aload_n C rd_Md_addPendant_51 (k := 0) rfl ?_
      obtain ⟨q52, hq52, hf⟩ := jk_bind_h hf
      refine jk_callVv C hZ.1 hz (ct_Md_remembers l D Z sq hZ cI cR a_t a_t_w a_t_wKept a_t_saved a_t_past a_t_input a_t_n a_t_order a_t_numbers a_t_output t_pastMany i_t_isSaved q43.2 i_t_inputMany i_t_lastError i_t_lastOffset i_t_error i_t_offset i_t_nextByte i_t_begin i_t_value i_t_token i_t_got i_t_orders i_t_outputMany t_w t_past q52 hq52) tm_1512 tm_1514 sl_61 tm_15 tm_1515 na_Md_remembers ⟨Nat.le_of_ble_eq_true rfl, Nat.le_of_ble_eq_true rfl⟩ rfl [0, 1, 2] rfl rfl rfl (ws' := wd_Md_addPendant cI a_t a_t_w a_t_wKept a_t_saved a_t_past a_t_input a_t_n a_t_order a_t_numbers a_t_output q52.2 i_t_isSaved q43.2 i_t_inputMany i_t_lastError i_t_lastOffset i_t_error i_t_offset i_t_nextByte i_t_begin i_t_value i_t_token i_t_got i_t_orders i_t_outputMany t_w q52.1) rfl 0 11 rfl rfl rfl (st := []) rfl (Nat.le_of_ble_eq_true rfl) rd_Md_addPendant_52 ?_ ⟨Nat.le_of_ble_eq_true rfl, Nat.le_of_ble_eq_true rfl⟩
      refine jk_aload_n C rd_Md_addPendant_55 (k := 0) rfl ?_
      refine jk_iload_n C rd_Md_addPendant_56 (k := 1) rfl ?_
      refine jk_iload_n C rd_Md_addPendant_57 (k := 2) rfl ?_
      refine jk_iload_n C rd_Md_addPendant_58 (k := 3) rfl ?_
      obtain ⟨q59, hq59, hf⟩ := jk_bind_h hf
      refine jk_callVi C hZ.1 hz (ct_Md_adds l D Z sq hZ cI cR a_t a_t_w a_t_wKept a_t_saved a_t_past a_t_input a_t_n a_t_order a_t_numbers a_t_output q52.2 i_t_isSaved q43.2 i_t_inputMany i_t_lastError i_t_lastOffset i_t_error i_t_offset i_t_nextByte i_t_begin i_t_value i_t_token i_t_got i_t_orders i_t_outputMany t_w v1 v2 v3 q59 hq59) tm_1528 tm_1530 sl_65 tm_15 tm_1531 na_Md_adds ⟨Nat.le_of_ble_eq_true rfl, Nat.le_of_ble_eq_true rfl⟩ rfl [0, 1] rfl rfl rfl (ws' := wd_Md_addPendant cI a_t a_t_w a_t_wKept a_t_saved a_t_past a_t_input a_t_n a_t_order a_t_numbers a_t_output q52.2 i_t_isSaved q43.2 i_t_inputMany i_t_lastError i_t_lastOffset i_t_error i_t_offset i_t_nextByte i_t_begin i_t_value i_t_token i_t_got i_t_orders i_t_outputMany q59.2 q52.1) rfl 0 11 rfl rfl rfl (st := []) rfl (Nat.le_of_ble_eq_true rfl) rd_Md_addPendant_59 ?_ ⟨Nat.le_of_ble_eq_true rfl, Nat.le_of_ble_eq_true rfl⟩
      cases hf
      exact jk_iret C rfl rd_Md_addPendant_62 rfl
    · refine jk_iconst C rd_Md_addPendant_49 ?_
      cases hf
      exact jk_iret C rfl rd_Md_addPendant_50 rfl
  refine jk_aload_n C rd_Md_addPendant_0 (k := 0) rfl ?_
  refine jk_iconst C rd_Md_addPendant_1 ?_
  refine jk_putf C in_Md ty_Md nm_Md (ci := 11) rfl 6 (by decide) tm_1269 rfl rfl rfl 0 rfl (Nat.le_of_ble_eq_true rfl) rd_Md_addPendant_2 (ws' := wd_Md_addPendant cI a_t a_t_w a_t_wKept a_t_saved a_t_past a_t_input a_t_n a_t_order a_t_numbers a_t_output i_t_pastMany i_t_isSaved 0 i_t_inputMany i_t_lastError i_t_lastOffset i_t_error i_t_offset i_t_nextByte i_t_begin i_t_value i_t_token i_t_got i_t_orders i_t_outputMany i_t_w i_t_past) rfl ?_
  refine jk_aload_n C rd_Md_addPendant_5 (k := 0) rfl ?_
  refine jk_iload_n C rd_Md_addPendant_6 (k := 1) rfl ?_
  obtain ⟨q7, hq7, hf⟩ := jk_bind_h hf
  refine jk_callVi C hZ.1 hz (ct_Md_noCluster l D Z sq hZ cI cR a_t a_t_w a_t_wKept a_t_saved a_t_past a_t_input a_t_n a_t_order a_t_numbers a_t_output i_t_pastMany i_t_isSaved 0 i_t_inputMany i_t_lastError i_t_lastOffset i_t_error i_t_offset i_t_nextByte i_t_begin i_t_value i_t_token i_t_got i_t_orders i_t_outputMany i_t_w x1 q7 hq7) tm_1699 tm_1701 sl_92 tm_15 tm_1702 na_Md_noCluster ⟨Nat.le_of_ble_eq_true rfl, Nat.le_of_ble_eq_true rfl⟩ rfl [0, 1] rfl rfl rfl (ws' := wd_Md_addPendant cI a_t a_t_w a_t_wKept a_t_saved a_t_past a_t_input a_t_n a_t_order a_t_numbers a_t_output i_t_pastMany i_t_isSaved q7.2 i_t_inputMany i_t_lastError i_t_lastOffset i_t_error i_t_offset i_t_nextByte i_t_begin i_t_value i_t_token i_t_got i_t_orders i_t_outputMany i_t_w i_t_past) rfl 0 11 rfl rfl rfl (st := []) rfl (Nat.le_of_ble_eq_true rfl) rd_Md_addPendant_7 ?_ ⟨Nat.le_of_ble_eq_true rfl, Nat.le_of_ble_eq_true rfl⟩
  refine jk_if_ne (tgt := 49) C rd_Md_addPendant_10 (by decide) hf (fun _ hf => ?_) (fun _ hf => ?_)
  · refine jk_iconst C rd_Md_addPendant_49 ?_
    cases hf
    exact jk_iret C rfl rd_Md_addPendant_50 rfl
  · refine jk_aload_n C rd_Md_addPendant_13 (k := 0) rfl ?_
    refine jk_iload_n C rd_Md_addPendant_14 (k := 2) rfl ?_
    obtain ⟨q15, hq15, hf⟩ := jk_bind_h hf
    refine jk_callVi C hZ.1 hz (ct_Md_noTopic l D Z sq hZ cI cR a_t a_t_w a_t_wKept a_t_saved a_t_past a_t_input a_t_n a_t_order a_t_numbers a_t_output i_t_pastMany i_t_isSaved q7.2 i_t_inputMany i_t_lastError i_t_lastOffset i_t_error i_t_offset i_t_nextByte i_t_begin i_t_value i_t_token i_t_got i_t_orders i_t_outputMany i_t_w x2 q15 hq15) tm_1751 tm_1753 sl_95 tm_15 tm_1754 na_Md_noTopic ⟨Nat.le_of_ble_eq_true rfl, Nat.le_of_ble_eq_true rfl⟩ rfl [0, 1] rfl rfl rfl (ws' := wd_Md_addPendant cI a_t a_t_w a_t_wKept a_t_saved a_t_past a_t_input a_t_n a_t_order a_t_numbers a_t_output i_t_pastMany i_t_isSaved q15.2 i_t_inputMany i_t_lastError i_t_lastOffset i_t_error i_t_offset i_t_nextByte i_t_begin i_t_value i_t_token i_t_got i_t_orders i_t_outputMany i_t_w i_t_past) rfl 0 11 rfl rfl rfl (st := []) rfl (Nat.le_of_ble_eq_true rfl) rd_Md_addPendant_15 ?_ ⟨Nat.le_of_ble_eq_true rfl, Nat.le_of_ble_eq_true rfl⟩
    refine jk_if_ne (tgt := 49) C rd_Md_addPendant_18 (by decide) hf (fun _ hf => ?_) (fun _ hf => ?_)
    · refine jk_iconst C rd_Md_addPendant_49 ?_
      cases hf
      exact jk_iret C rfl rd_Md_addPendant_50 rfl
    · refine jk_aload_n C rd_Md_addPendant_21 (k := 0) rfl ?_
      refine jk_iload_n C rd_Md_addPendant_22 (k := 3) rfl ?_
      obtain ⟨q23, hq23, hf⟩ := jk_bind_h hf
      refine jk_callVi C hZ.1 hz (ct_Md_noValue l D Z sq hZ cI cR a_t a_t_w a_t_wKept a_t_saved a_t_past a_t_input a_t_n a_t_order a_t_numbers a_t_output i_t_pastMany i_t_isSaved q15.2 i_t_inputMany i_t_lastError i_t_lastOffset i_t_error i_t_offset i_t_nextByte i_t_begin i_t_value i_t_token i_t_got i_t_orders i_t_outputMany x3 q23 hq23) tm_1839 tm_1841 sl_103 tm_15 tm_1842 na_Md_noValue ⟨Nat.le_of_ble_eq_true rfl, Nat.le_of_ble_eq_true rfl⟩ rfl [0] rfl rfl rfl (ws' := wd_Md_addPendant cI a_t a_t_w a_t_wKept a_t_saved a_t_past a_t_input a_t_n a_t_order a_t_numbers a_t_output i_t_pastMany i_t_isSaved q23.2 i_t_inputMany i_t_lastError i_t_lastOffset i_t_error i_t_offset i_t_nextByte i_t_begin i_t_value i_t_token i_t_got i_t_orders i_t_outputMany i_t_w i_t_past) rfl 0 11 rfl rfl rfl (st := []) rfl (Nat.le_of_ble_eq_true rfl) rd_Md_addPendant_23 ?_ ⟨Nat.le_of_ble_eq_true rfl, Nat.le_of_ble_eq_true rfl⟩
      refine jk_if_ne (tgt := 49) C rd_Md_addPendant_26 (by decide) hf (fun _ hf => ?_) (fun _ hf => ?_)
      · refine jk_iconst C rd_Md_addPendant_49 ?_
        cases hf
        exact jk_iret C rfl rd_Md_addPendant_50 rfl
      · refine jk_aload_n C rd_Md_addPendant_29 (k := 0) rfl ?_
        refine jk_aload_n C rd_Md_addPendant_30 (k := 0) rfl ?_
        obtain ⟨q31, hq31, hf⟩ := jk_bind_h hf
        refine jk_callVi C hZ.1 hz (ct_Md_mayAdd l D Z sq hZ cI cR a_t a_t_w a_t_wKept a_t_saved a_t_past a_t_input a_t_n a_t_order a_t_numbers a_t_output i_t_pastMany i_t_isSaved q23.2 i_t_inputMany i_t_lastError i_t_lastOffset i_t_error i_t_offset i_t_nextByte i_t_begin i_t_value i_t_token i_t_got i_t_orders i_t_outputMany i_t_w q31 hq31) tm_1441 tm_1443 sl_46 tm_15 tm_1444 na_Md_mayAdd ⟨Nat.le_of_ble_eq_true rfl, Nat.le_of_ble_eq_true rfl⟩ rfl [0, 1] rfl rfl rfl (ws' := wd_Md_addPendant cI a_t a_t_w a_t_wKept a_t_saved a_t_past a_t_input a_t_n a_t_order a_t_numbers a_t_output i_t_pastMany i_t_isSaved q23.2 i_t_inputMany i_t_lastError i_t_lastOffset i_t_error i_t_offset i_t_nextByte i_t_begin i_t_value i_t_token i_t_got i_t_orders i_t_outputMany i_t_w i_t_past) rfl 0 11 rfl rfl rfl (st := [.ref a_t]) rfl (Nat.le_of_ble_eq_true rfl) rd_Md_addPendant_31 ?_ ⟨Nat.le_of_ble_eq_true rfl, Nat.le_of_ble_eq_true rfl⟩
        refine jk_if_ne (tgt := 41) C rd_Md_addPendant_34 (by decide) hf (fun _ hf => ?_) (fun _ hf => ?_)
        · refine jk_iconst C rd_Md_addPendant_41 ?_
          refine jk_lv (lv' := [(0, .ref a_t), (1, jk_V x1), (2, jk_V x2), (3, jk_V x3)]) [0, 1, 2, 3] rfl ?_
          exact bk_42 i_t_w i_t_past i_t_pastMany q23.2 x1 x2 x3 0 hf
        · refine jk_iconst C rd_Md_addPendant_37 ?_
          refine jk_goto (tgt := 42) C rd_Md_addPendant_38 (by decide) ?_
          refine jk_lv (lv' := [(0, .ref a_t), (1, jk_V x1), (2, jk_V x2), (3, jk_V x3)]) [0, 1, 2, 3] rfl ?_
          exact bk_42 i_t_w i_t_past i_t_pastMany q23.2 x1 x2 x3 1 hf
def wd_Md_addSubsidiary (cI : ClassId) (a_t a_t_w a_t_wKept a_t_saved a_t_past a_t_input a_t_n a_t_order a_t_numbers a_t_output : Nat) (i_t_pastMany : Int) (i_t_isSaved : Int) (i_t_thrown : Int) (i_t_inputMany : Int) (i_t_lastError : Int) (i_t_lastOffset : Int) (i_t_error : Int) (i_t_offset : Int) (i_t_nextByte : Int) (i_t_begin : Int) (i_t_value : Int) (i_t_token : Int) (i_t_got : Int) (i_t_orders : Int) (i_t_outputMany : Int) (i_t_w : (Int → Int)) (i_t_past : (Int → Int)) : va_W := [(a_t, .inr (11, [.ref a_t_w, .ref a_t_wKept, .ref a_t_saved, .ref a_t_past, jk_V i_t_pastMany, jk_V i_t_isSaved, jk_V i_t_thrown, .ref a_t_input, jk_V i_t_inputMany, jk_V i_t_lastError, jk_V i_t_lastOffset, jk_V i_t_error, jk_V i_t_offset, jk_V i_t_nextByte, jk_V i_t_begin, jk_V i_t_value, jk_V i_t_token, jk_V i_t_got, .ref a_t_n, .ref a_t_order, .ref a_t_numbers, jk_V i_t_orders, .ref a_t_output, jk_V i_t_outputMany])), (a_t_w, jk_W cI 259 i_t_w), (a_t_past, jk_W cI 2072 i_t_past)]
set_option maxHeartbeats 4000000 in
set_option maxRecDepth 20000 in
theorem ct_Md_addSubsidiary (l : Launch) (D : va_G) (Z : (Nat → Prop) → State → Heap → Prop) (sq : Nat → Nat) (hZ : jk_ZK Z sq) (cI cR : ClassId) (a_t a_t_w a_t_wKept a_t_saved a_t_past a_t_input a_t_n a_t_order a_t_numbers a_t_output : Nat) (i_t_pastMany : Int) (i_t_isSaved : Int) (i_t_thrown : Int) (i_t_inputMany : Int) (i_t_lastError : Int) (i_t_lastOffset : Int) (i_t_error : Int) (i_t_offset : Int) (i_t_nextByte : Int) (i_t_begin : Int) (i_t_value : Int) (i_t_token : Int) (i_t_got : Int) (i_t_orders : Int) (i_t_outputMany : Int) (i_t_w : (Int → Int)) (i_t_past : (Int → Int)) (x1 : Int) (x2 : Int) (x3 : Int) (q : Int × (Int → Int) × (Int → Int) × Int × Int) (hf : fn_Md_addSubsidiary i_t_w i_t_past i_t_pastMany i_t_thrown x1 x2 x3 = some q) : jk_MI l D jk_cl (jk_ty cI cR) Z mn_Md_addSubsidiary (.code mn_Md_addSubsidiary mb_Md_addSubsidiary 4 (some .int) :: jk_WA) (jk_rm 3 72) [.ref a_t, jk_V x1, jk_V x2, jk_V x3] (wd_Md_addSubsidiary cI a_t a_t_w a_t_wKept a_t_saved a_t_past a_t_input a_t_n a_t_order a_t_numbers a_t_output i_t_pastMany i_t_isSaved i_t_thrown i_t_inputMany i_t_lastError i_t_lastOffset i_t_error i_t_offset i_t_nextByte i_t_begin i_t_value i_t_token i_t_got i_t_orders i_t_outputMany i_t_w i_t_past) (wd_Md_addSubsidiary cI a_t a_t_w a_t_wKept a_t_saved a_t_past a_t_input a_t_n a_t_order a_t_numbers a_t_output q.2.2.2.1 i_t_isSaved q.2.2.2.2 i_t_inputMany i_t_lastError i_t_lastOffset i_t_error i_t_offset i_t_nextByte i_t_begin i_t_value i_t_token i_t_got i_t_orders i_t_outputMany q.2.1 q.2.2.1) q.1 := by
  intro sz
  refine jk_body (by decide +kernel) (fun p e s m args below meth c hsz hz hin C => ?_) (Nat.le_of_ble_eq_true rfl)
  subst hsz
  unfold fn_Md_addSubsidiary at hf
  have bk_43 : ∀ (t_w : (Int → Int)) (t_past : (Int → Int)) (t_pastMany : Int) (t_thrown : Int) (v1 : Int) (v2 : Int) (v3 : Int) (s0 : Int), fn_Md_addSubsidiary_b43 t_w t_past t_pastMany t_thrown v1 v2 v3 s0 = some q → jk_J p l e (jk_rm 3 72) s m args below meth c 0 0 (jk_QI below D jk_cl (jk_ty cI cR) (wd_Md_addSubsidiary cI a_t a_t_w a_t_wKept a_t_saved a_t_past a_t_input a_t_n a_t_order a_t_numbers a_t_output i_t_pastMany i_t_isSaved i_t_thrown i_t_inputMany i_t_lastError i_t_lastOffset i_t_error i_t_offset i_t_nextByte i_t_begin i_t_value i_t_token i_t_got i_t_orders i_t_outputMany i_t_w i_t_past) (wd_Md_addSubsidiary cI a_t a_t_w a_t_wKept a_t_saved a_t_past a_t_input a_t_n a_t_order a_t_numbers a_t_output q.2.2.2.1 i_t_isSaved q.2.2.2.2 i_t_inputMany i_t_lastError i_t_lastOffset i_t_error i_t_offset i_t_nextByte i_t_begin i_t_value i_t_token i_t_got i_t_orders i_t_outputMany q.2.1 q.2.2.1) args s q.1) D jk_cl (va_A (wd_Md_addSubsidiary cI a_t a_t_w a_t_wKept a_t_saved a_t_past a_t_input a_t_n a_t_order a_t_numbers a_t_output i_t_pastMany i_t_isSaved i_t_thrown i_t_inputMany i_t_lastError i_t_lastOffset i_t_error i_t_offset i_t_nextByte i_t_begin i_t_value i_t_token i_t_got i_t_orders i_t_outputMany i_t_w i_t_past) s.heap.size) 4 (wd_Md_addSubsidiary cI a_t a_t_w a_t_wKept a_t_saved a_t_past a_t_input a_t_n a_t_order a_t_numbers a_t_output t_pastMany i_t_isSaved t_thrown i_t_inputMany i_t_lastError i_t_lastOffset i_t_error i_t_offset i_t_nextByte i_t_begin i_t_value i_t_token i_t_got i_t_orders i_t_outputMany t_w t_past) [(0, .ref a_t), (1, jk_V v1), (2, jk_V v2), (3, jk_V v3)] 43 [jk_V s0, .ref a_t] := by
    intro t_w t_past t_pastMany t_thrown v1 v2 v3 s0 hf
    unfold fn_Md_addSubsidiary_b43 at hf
    refine jk_iconst C rd_Md_addSubsidiary_43 ?_
    obtain ⟨q44, hq44, hf⟩ := jk_bind_h hf
    refine jk_callVi C hZ.1 hz (ct_Md_fails l D Z sq hZ cI cR a_t a_t_w a_t_wKept a_t_saved a_t_past a_t_input a_t_n a_t_order a_t_numbers a_t_output t_pastMany i_t_isSaved t_thrown i_t_inputMany i_t_lastError i_t_lastOffset i_t_error i_t_offset i_t_nextByte i_t_begin i_t_value i_t_token i_t_got i_t_orders i_t_outputMany s0 3 q44 hq44) tm_1643 tm_1645 sl_87 tm_15 tm_1646 na_Md_fails ⟨Nat.le_of_ble_eq_true rfl, Nat.le_of_ble_eq_true rfl⟩ rfl [0] rfl rfl rfl (ws' := wd_Md_addSubsidiary cI a_t a_t_w a_t_wKept a_t_saved a_t_past a_t_input a_t_n a_t_order a_t_numbers a_t_output t_pastMany i_t_isSaved q44.2 i_t_inputMany i_t_lastError i_t_lastOffset i_t_error i_t_offset i_t_nextByte i_t_begin i_t_value i_t_token i_t_got i_t_orders i_t_outputMany t_w t_past) rfl 0 11 rfl rfl rfl (st := []) rfl (Nat.le_of_ble_eq_true rfl) rd_Md_addSubsidiary_44 ?_ ⟨Nat.le_of_ble_eq_true rfl, Nat.le_of_ble_eq_true rfl⟩
    refine jk_if_eq (tgt := 52) C rd_Md_addSubsidiary_47 (by decide) hf (fun _ hf => ?_) (fun _ hf => ?_)
    · refine jk_aload_n C rd_Md_addSubsidiary_52 (k := 0) rfl ?_
      obtain ⟨q53, hq53, hf⟩ := jk_bind_h hf
      refine jk_callVv C hZ.1 hz (ct_Md_remembers l D Z sq hZ cI cR a_t a_t_w a_t_wKept a_t_saved a_t_past a_t_input a_t_n a_t_order a_t_numbers a_t_output t_pastMany i_t_isSaved q44.2 i_t_inputMany i_t_lastError i_t_lastOffset i_t_error i_t_offset i_t_nextByte i_t_begin i_t_value i_t_token i_t_got i_t_orders i_t_outputMany t_w t_past q53 hq53) tm_1512 tm_1514 sl_61 tm_15 tm_1515 na_Md_remembers ⟨Nat.le_of_ble_eq_true rfl, Nat.le_of_ble_eq_true rfl⟩ rfl [0, 1, 2] rfl rfl rfl (ws' := wd_Md_addSubsidiary cI a_t a_t_w a_t_wKept a_t_saved a_t_past a_t_input a_t_n a_t_order a_t_numbers a_t_output q53.2 i_t_isSaved q44.2 i_t_inputMany i_t_lastError i_t_lastOffset i_t_error i_t_offset i_t_nextByte i_t_begin i_t_value i_t_token i_t_got i_t_orders i_t_outputMany t_w q53.1) rfl 0 11 rfl rfl rfl (st := []) rfl (Nat.le_of_ble_eq_true rfl) rd_Md_addSubsidiary_53 ?_ ⟨Nat.le_of_ble_eq_true rfl, Nat.le_of_ble_eq_true rfl⟩
      refine jk_aload_n C rd_Md_addSubsidiary_56 (k := 0) rfl ?_
      refine jk_iload_n C rd_Md_addSubsidiary_57 (k := 1) rfl ?_
      refine jk_iload_n C rd_Md_addSubsidiary_58 (k := 2) rfl ?_
      refine jk_iload_n C rd_Md_addSubsidiary_59 (k := 3) rfl ?_
      obtain ⟨q60, hq60, hf⟩ := jk_bind_h hf
      refine jk_callVi C hZ.1 hz (ct_Md_subs l D Z sq hZ cI cR a_t a_t_w a_t_wKept a_t_saved a_t_past a_t_input a_t_n a_t_order a_t_numbers a_t_output q53.2 i_t_isSaved q44.2 i_t_inputMany i_t_lastError i_t_lastOffset i_t_error i_t_offset i_t_nextByte i_t_begin i_t_value i_t_token i_t_got i_t_orders i_t_outputMany t_w v1 v2 v3 q60 hq60) tm_1540 tm_1542 sl_68 tm_15 tm_1543 na_Md_subs ⟨Nat.le_of_ble_eq_true rfl, Nat.le_of_ble_eq_true rfl⟩ rfl [0, 1] rfl rfl rfl (ws' := wd_Md_addSubsidiary cI a_t a_t_w a_t_wKept a_t_saved a_t_past a_t_input a_t_n a_t_order a_t_numbers a_t_output q53.2 i_t_isSaved q44.2 i_t_inputMany i_t_lastError i_t_lastOffset i_t_error i_t_offset i_t_nextByte i_t_begin i_t_value i_t_token i_t_got i_t_orders i_t_outputMany q60.2 q53.1) rfl 0 11 rfl rfl rfl (st := []) rfl (Nat.le_of_ble_eq_true rfl) rd_Md_addSubsidiary_60 ?_ ⟨Nat.le_of_ble_eq_true rfl, Nat.le_of_ble_eq_true rfl⟩
      cases hf
      exact jk_iret C rfl rd_Md_addSubsidiary_63 rfl
    · refine jk_iconst C rd_Md_addSubsidiary_50 ?_
      cases hf
      exact jk_iret C rfl rd_Md_addSubsidiary_51 rfl
  refine jk_aload_n C rd_Md_addSubsidiary_0 (k := 0) rfl ?_
  refine jk_iconst C rd_Md_addSubsidiary_1 ?_
  refine jk_putf C in_Md ty_Md nm_Md (ci := 11) rfl 6 (by decide) tm_1269 rfl rfl rfl 0 rfl (Nat.le_of_ble_eq_true rfl) rd_Md_addSubsidiary_2 (ws' := wd_Md_addSubsidiary cI a_t a_t_w a_t_wKept a_t_saved a_t_past a_t_input a_t_n a_t_order a_t_numbers a_t_output i_t_pastMany i_t_isSaved 0 i_t_inputMany i_t_lastError i_t_lastOffset i_t_error i_t_offset i_t_nextByte i_t_begin i_t_value i_t_token i_t_got i_t_orders i_t_outputMany i_t_w i_t_past) rfl ?_
  refine jk_aload_n C rd_Md_addSubsidiary_5 (k := 0) rfl ?_
  refine jk_iload_n C rd_Md_addSubsidiary_6 (k := 1) rfl ?_
  obtain ⟨q7, hq7, hf⟩ := jk_bind_h hf
  refine jk_callVi C hZ.1 hz (ct_Md_noCord l D Z sq hZ cI cR a_t a_t_w a_t_wKept a_t_saved a_t_past a_t_input a_t_n a_t_order a_t_numbers a_t_output i_t_pastMany i_t_isSaved 0 i_t_inputMany i_t_lastError i_t_lastOffset i_t_error i_t_offset i_t_nextByte i_t_begin i_t_value i_t_token i_t_got i_t_orders i_t_outputMany i_t_w x1 q7 hq7) tm_1639 tm_1641 sl_86 tm_15 tm_1642 na_Md_noCord ⟨Nat.le_of_ble_eq_true rfl, Nat.le_of_ble_eq_true rfl⟩ rfl [0, 1] rfl rfl rfl (ws' := wd_Md_addSubsidiary cI a_t a_t_w a_t_wKept a_t_saved a_t_past a_t_input a_t_n a_t_order a_t_numbers a_t_output i_t_pastMany i_t_isSaved q7.2 i_t_inputMany i_t_lastError i_t_lastOffset i_t_error i_t_offset i_t_nextByte i_t_begin i_t_value i_t_token i_t_got i_t_orders i_t_outputMany i_t_w i_t_past) rfl 0 11 rfl rfl rfl (st := []) rfl (Nat.le_of_ble_eq_true rfl) rd_Md_addSubsidiary_7 ?_ ⟨Nat.le_of_ble_eq_true rfl, Nat.le_of_ble_eq_true rfl⟩
  refine jk_if_ne (tgt := 50) C rd_Md_addSubsidiary_10 (by decide) hf (fun _ hf => ?_) (fun _ hf => ?_)
  · refine jk_iconst C rd_Md_addSubsidiary_50 ?_
    cases hf
    exact jk_iret C rfl rd_Md_addSubsidiary_51 rfl
  · refine jk_aload_n C rd_Md_addSubsidiary_13 (k := 0) rfl ?_
    refine jk_iload_n C rd_Md_addSubsidiary_14 (k := 2) rfl ?_
    obtain ⟨q15, hq15, hf⟩ := jk_bind_h hf
    refine jk_callVi C hZ.1 hz (ct_Md_noTopic l D Z sq hZ cI cR a_t a_t_w a_t_wKept a_t_saved a_t_past a_t_input a_t_n a_t_order a_t_numbers a_t_output i_t_pastMany i_t_isSaved q7.2 i_t_inputMany i_t_lastError i_t_lastOffset i_t_error i_t_offset i_t_nextByte i_t_begin i_t_value i_t_token i_t_got i_t_orders i_t_outputMany i_t_w x2 q15 hq15) tm_1751 tm_1753 sl_95 tm_15 tm_1754 na_Md_noTopic ⟨Nat.le_of_ble_eq_true rfl, Nat.le_of_ble_eq_true rfl⟩ rfl [0, 1] rfl rfl rfl (ws' := wd_Md_addSubsidiary cI a_t a_t_w a_t_wKept a_t_saved a_t_past a_t_input a_t_n a_t_order a_t_numbers a_t_output i_t_pastMany i_t_isSaved q15.2 i_t_inputMany i_t_lastError i_t_lastOffset i_t_error i_t_offset i_t_nextByte i_t_begin i_t_value i_t_token i_t_got i_t_orders i_t_outputMany i_t_w i_t_past) rfl 0 11 rfl rfl rfl (st := []) rfl (Nat.le_of_ble_eq_true rfl) rd_Md_addSubsidiary_15 ?_ ⟨Nat.le_of_ble_eq_true rfl, Nat.le_of_ble_eq_true rfl⟩
    refine jk_if_ne (tgt := 50) C rd_Md_addSubsidiary_18 (by decide) hf (fun _ hf => ?_) (fun _ hf => ?_)
    · refine jk_iconst C rd_Md_addSubsidiary_50 ?_
      cases hf
      exact jk_iret C rfl rd_Md_addSubsidiary_51 rfl
    · refine jk_aload_n C rd_Md_addSubsidiary_21 (k := 0) rfl ?_
      refine jk_iload_n C rd_Md_addSubsidiary_22 (k := 3) rfl ?_
      obtain ⟨q23, hq23, hf⟩ := jk_bind_h hf
      refine jk_callVi C hZ.1 hz (ct_Md_noValue l D Z sq hZ cI cR a_t a_t_w a_t_wKept a_t_saved a_t_past a_t_input a_t_n a_t_order a_t_numbers a_t_output i_t_pastMany i_t_isSaved q15.2 i_t_inputMany i_t_lastError i_t_lastOffset i_t_error i_t_offset i_t_nextByte i_t_begin i_t_value i_t_token i_t_got i_t_orders i_t_outputMany x3 q23 hq23) tm_1839 tm_1841 sl_103 tm_15 tm_1842 na_Md_noValue ⟨Nat.le_of_ble_eq_true rfl, Nat.le_of_ble_eq_true rfl⟩ rfl [0] rfl rfl rfl (ws' := wd_Md_addSubsidiary cI a_t a_t_w a_t_wKept a_t_saved a_t_past a_t_input a_t_n a_t_order a_t_numbers a_t_output i_t_pastMany i_t_isSaved q23.2 i_t_inputMany i_t_lastError i_t_lastOffset i_t_error i_t_offset i_t_nextByte i_t_begin i_t_value i_t_token i_t_got i_t_orders i_t_outputMany i_t_w i_t_past) rfl 0 11 rfl rfl rfl (st := []) rfl (Nat.le_of_ble_eq_true rfl) rd_Md_addSubsidiary_23 ?_ ⟨Nat.le_of_ble_eq_true rfl, Nat.le_of_ble_eq_true rfl⟩
      refine jk_if_ne (tgt := 50) C rd_Md_addSubsidiary_26 (by decide) hf (fun _ hf => ?_) (fun _ hf => ?_)
      · refine jk_iconst C rd_Md_addSubsidiary_50 ?_
        cases hf
        exact jk_iret C rfl rd_Md_addSubsidiary_51 rfl
      · refine jk_aload_n C rd_Md_addSubsidiary_29 (k := 0) rfl ?_
        refine jk_aload_n C rd_Md_addSubsidiary_30 (k := 0) rfl ?_
        refine jk_iload_n C rd_Md_addSubsidiary_31 (k := 1) rfl ?_
        obtain ⟨q32, hq32, hf⟩ := jk_bind_h hf
        refine jk_callVi C hZ.1 hz (ct_Md_maySub l D Z sq hZ cI cR a_t a_t_w a_t_wKept a_t_saved a_t_past a_t_input a_t_n a_t_order a_t_numbers a_t_output i_t_pastMany i_t_isSaved q23.2 i_t_inputMany i_t_lastError i_t_lastOffset i_t_error i_t_offset i_t_nextByte i_t_begin i_t_value i_t_token i_t_got i_t_orders i_t_outputMany i_t_w x1 q32 hq32) tm_1536 tm_1538 sl_67 tm_15 tm_1539 na_Md_maySub ⟨Nat.le_of_ble_eq_true rfl, Nat.le_of_ble_eq_true rfl⟩ rfl [0, 1] rfl rfl rfl (ws' := wd_Md_addSubsidiary cI a_t a_t_w a_t_wKept a_t_saved a_t_past a_t_input a_t_n a_t_order a_t_numbers a_t_output i_t_pastMany i_t_isSaved q23.2 i_t_inputMany i_t_lastError i_t_lastOffset i_t_error i_t_offset i_t_nextByte i_t_begin i_t_value i_t_token i_t_got i_t_orders i_t_outputMany i_t_w i_t_past) rfl 0 11 rfl rfl rfl (st := [.ref a_t]) rfl (Nat.le_of_ble_eq_true rfl) rd_Md_addSubsidiary_32 ?_ ⟨Nat.le_of_ble_eq_true rfl, Nat.le_of_ble_eq_true rfl⟩
        refine jk_if_ne (tgt := 42) C rd_Md_addSubsidiary_35 (by decide) hf (fun _ hf => ?_) (fun _ hf => ?_)
        · refine jk_iconst C rd_Md_addSubsidiary_42 ?_
          refine jk_lv (lv' := [(0, .ref a_t), (1, jk_V x1), (2, jk_V x2), (3, jk_V x3)]) [0, 1, 2, 3] rfl ?_
          exact bk_43 i_t_w i_t_past i_t_pastMany q23.2 x1 x2 x3 0 hf
        · refine jk_iconst C rd_Md_addSubsidiary_38 ?_
          refine jk_goto (tgt := 43) C rd_Md_addSubsidiary_39 (by decide) ?_
          refine jk_lv (lv' := [(0, .ref a_t), (1, jk_V x1), (2, jk_V x2), (3, jk_V x3)]) [0, 1, 2, 3] rfl ?_
          exact bk_43 i_t_w i_t_past i_t_pastMany q23.2 x1 x2 x3 1 hf
def wd_Md_cut (cI : ClassId) (a_t a_t_w a_t_wKept a_t_saved a_t_past a_t_input a_t_n a_t_order a_t_numbers a_t_output : Nat) (i_t_pastMany : Int) (i_t_isSaved : Int) (i_t_thrown : Int) (i_t_inputMany : Int) (i_t_lastError : Int) (i_t_lastOffset : Int) (i_t_error : Int) (i_t_offset : Int) (i_t_nextByte : Int) (i_t_begin : Int) (i_t_value : Int) (i_t_token : Int) (i_t_got : Int) (i_t_orders : Int) (i_t_outputMany : Int) (i_t_w : (Int → Int)) (i_t_past : (Int → Int)) : va_W := [(a_t, .inr (11, [.ref a_t_w, .ref a_t_wKept, .ref a_t_saved, .ref a_t_past, jk_V i_t_pastMany, jk_V i_t_isSaved, jk_V i_t_thrown, .ref a_t_input, jk_V i_t_inputMany, jk_V i_t_lastError, jk_V i_t_lastOffset, jk_V i_t_error, jk_V i_t_offset, jk_V i_t_nextByte, jk_V i_t_begin, jk_V i_t_value, jk_V i_t_token, jk_V i_t_got, .ref a_t_n, .ref a_t_order, .ref a_t_numbers, jk_V i_t_orders, .ref a_t_output, jk_V i_t_outputMany])), (a_t_w, jk_W cI 259 i_t_w), (a_t_past, jk_W cI 2072 i_t_past)]
set_option maxHeartbeats 4000000 in
set_option maxRecDepth 20000 in
theorem ct_Md_cut (l : Launch) (D : va_G) (Z : (Nat → Prop) → State → Heap → Prop) (sq : Nat → Nat) (hZ : jk_ZK Z sq) (cI cR : ClassId) (a_t a_t_w a_t_wKept a_t_saved a_t_past a_t_input a_t_n a_t_order a_t_numbers a_t_output : Nat) (i_t_pastMany : Int) (i_t_isSaved : Int) (i_t_thrown : Int) (i_t_inputMany : Int) (i_t_lastError : Int) (i_t_lastOffset : Int) (i_t_error : Int) (i_t_offset : Int) (i_t_nextByte : Int) (i_t_begin : Int) (i_t_value : Int) (i_t_token : Int) (i_t_got : Int) (i_t_orders : Int) (i_t_outputMany : Int) (i_t_w : (Int → Int)) (i_t_past : (Int → Int)) (x1 : Int) (q : Int × (Int → Int) × (Int → Int) × Int × Int) (hf : fn_Md_cut i_t_w i_t_past i_t_pastMany i_t_thrown x1 = some q) : jk_MI l D jk_cl (jk_ty cI cR) Z mn_Md_cut (.code mn_Md_cut mb_Md_cut 2 (some .int) :: jk_WA) (jk_rm 3 65) [.ref a_t, jk_V x1] (wd_Md_cut cI a_t a_t_w a_t_wKept a_t_saved a_t_past a_t_input a_t_n a_t_order a_t_numbers a_t_output i_t_pastMany i_t_isSaved i_t_thrown i_t_inputMany i_t_lastError i_t_lastOffset i_t_error i_t_offset i_t_nextByte i_t_begin i_t_value i_t_token i_t_got i_t_orders i_t_outputMany i_t_w i_t_past) (wd_Md_cut cI a_t a_t_w a_t_wKept a_t_saved a_t_past a_t_input a_t_n a_t_order a_t_numbers a_t_output q.2.2.2.1 i_t_isSaved q.2.2.2.2 i_t_inputMany i_t_lastError i_t_lastOffset i_t_error i_t_offset i_t_nextByte i_t_begin i_t_value i_t_token i_t_got i_t_orders i_t_outputMany q.2.1 q.2.2.1) q.1 := by
  intro sz
  refine jk_body (by decide +kernel) (fun p e s m args below meth c hsz hz hin C => ?_) (Nat.le_of_ble_eq_true rfl)
  subst hsz
  unfold fn_Md_cut at hf
  refine jk_aload_n C rd_Md_cut_0 (k := 0) rfl ?_
  refine jk_iconst C rd_Md_cut_1 ?_
  refine jk_putf C in_Md ty_Md nm_Md (ci := 11) rfl 6 (by decide) tm_1269 rfl rfl rfl 0 rfl (Nat.le_of_ble_eq_true rfl) rd_Md_cut_2 (ws' := wd_Md_cut cI a_t a_t_w a_t_wKept a_t_saved a_t_past a_t_input a_t_n a_t_order a_t_numbers a_t_output i_t_pastMany i_t_isSaved 0 i_t_inputMany i_t_lastError i_t_lastOffset i_t_error i_t_offset i_t_nextByte i_t_begin i_t_value i_t_token i_t_got i_t_orders i_t_outputMany i_t_w i_t_past) rfl ?_
  refine jk_aload_n C rd_Md_cut_5 (k := 0) rfl ?_
  refine jk_iload_n C rd_Md_cut_6 (k := 1) rfl ?_
  obtain ⟨q7, hq7, hf⟩ := jk_bind_h hf
  refine jk_callVi C hZ.1 hz (ct_Md_noCord l D Z sq hZ cI cR a_t a_t_w a_t_wKept a_t_saved a_t_past a_t_input a_t_n a_t_order a_t_numbers a_t_output i_t_pastMany i_t_isSaved 0 i_t_inputMany i_t_lastError i_t_lastOffset i_t_error i_t_offset i_t_nextByte i_t_begin i_t_value i_t_token i_t_got i_t_orders i_t_outputMany i_t_w x1 q7 hq7) tm_1639 tm_1641 sl_86 tm_15 tm_1642 na_Md_noCord ⟨Nat.le_of_ble_eq_true rfl, Nat.le_of_ble_eq_true rfl⟩ rfl [0, 1] rfl rfl rfl (ws' := wd_Md_cut cI a_t a_t_w a_t_wKept a_t_saved a_t_past a_t_input a_t_n a_t_order a_t_numbers a_t_output i_t_pastMany i_t_isSaved q7.2 i_t_inputMany i_t_lastError i_t_lastOffset i_t_error i_t_offset i_t_nextByte i_t_begin i_t_value i_t_token i_t_got i_t_orders i_t_outputMany i_t_w i_t_past) rfl 0 11 rfl rfl rfl (st := []) rfl (Nat.le_of_ble_eq_true rfl) rd_Md_cut_7 ?_ ⟨Nat.le_of_ble_eq_true rfl, Nat.le_of_ble_eq_true rfl⟩
  refine jk_if_eq (tgt := 15) C rd_Md_cut_10 (by decide) hf (fun _ hf => ?_) (fun _ hf => ?_)
  · refine jk_aload_n C rd_Md_cut_15 (k := 0) rfl ?_
    obtain ⟨q16, hq16, hf⟩ := jk_bind_h hf
    refine jk_callVv C hZ.1 hz (ct_Md_remembers l D Z sq hZ cI cR a_t a_t_w a_t_wKept a_t_saved a_t_past a_t_input a_t_n a_t_order a_t_numbers a_t_output i_t_pastMany i_t_isSaved q7.2 i_t_inputMany i_t_lastError i_t_lastOffset i_t_error i_t_offset i_t_nextByte i_t_begin i_t_value i_t_token i_t_got i_t_orders i_t_outputMany i_t_w i_t_past q16 hq16) tm_1512 tm_1514 sl_61 tm_15 tm_1515 na_Md_remembers ⟨Nat.le_of_ble_eq_true rfl, Nat.le_of_ble_eq_true rfl⟩ rfl [0, 1, 2] rfl rfl rfl (ws' := wd_Md_cut cI a_t a_t_w a_t_wKept a_t_saved a_t_past a_t_input a_t_n a_t_order a_t_numbers a_t_output q16.2 i_t_isSaved q7.2 i_t_inputMany i_t_lastError i_t_lastOffset i_t_error i_t_offset i_t_nextByte i_t_begin i_t_value i_t_token i_t_got i_t_orders i_t_outputMany i_t_w q16.1) rfl 0 11 rfl rfl rfl (st := []) rfl (Nat.le_of_ble_eq_true rfl) rd_Md_cut_16 ?_ ⟨Nat.le_of_ble_eq_true rfl, Nat.le_of_ble_eq_true rfl⟩
    refine jk_aload_n C rd_Md_cut_19 (k := 0) rfl ?_
    refine jk_iload_n C rd_Md_cut_20 (k := 1) rfl ?_
    obtain ⟨q21, hq21, hf⟩ := jk_bind_h hf
    refine jk_callVi C hZ.1 hz (ct_Md_cuts l D Z sq hZ cI cR a_t a_t_w a_t_wKept a_t_saved a_t_past a_t_input a_t_n a_t_order a_t_numbers a_t_output q16.2 i_t_isSaved q7.2 i_t_inputMany i_t_lastError i_t_lastOffset i_t_error i_t_offset i_t_nextByte i_t_begin i_t_value i_t_token i_t_got i_t_orders i_t_outputMany i_t_w x1 q21 hq21) tm_1544 tm_1546 sl_69 tm_15 tm_1547 na_Md_cuts ⟨Nat.le_of_ble_eq_true rfl, Nat.le_of_ble_eq_true rfl⟩ rfl [0, 1] rfl rfl rfl (ws' := wd_Md_cut cI a_t a_t_w a_t_wKept a_t_saved a_t_past a_t_input a_t_n a_t_order a_t_numbers a_t_output q16.2 i_t_isSaved q7.2 i_t_inputMany i_t_lastError i_t_lastOffset i_t_error i_t_offset i_t_nextByte i_t_begin i_t_value i_t_token i_t_got i_t_orders i_t_outputMany q21.2 q16.1) rfl 0 11 rfl rfl rfl (st := []) rfl (Nat.le_of_ble_eq_true rfl) rd_Md_cut_21 ?_ ⟨Nat.le_of_ble_eq_true rfl, Nat.le_of_ble_eq_true rfl⟩
    cases hf
    exact jk_iret C rfl rd_Md_cut_24 rfl
  · refine jk_iconst C rd_Md_cut_13 ?_
    cases hf
    exact jk_iret C rfl rd_Md_cut_14 rfl
def wd_Md_tieTop (cI : ClassId) (a_t a_t_w a_t_wKept a_t_saved a_t_past a_t_input a_t_n a_t_order a_t_numbers a_t_output : Nat) (i_t_pastMany : Int) (i_t_isSaved : Int) (i_t_thrown : Int) (i_t_inputMany : Int) (i_t_lastError : Int) (i_t_lastOffset : Int) (i_t_error : Int) (i_t_offset : Int) (i_t_nextByte : Int) (i_t_begin : Int) (i_t_value : Int) (i_t_token : Int) (i_t_got : Int) (i_t_orders : Int) (i_t_outputMany : Int) (i_t_w : (Int → Int)) (i_t_past : (Int → Int)) : va_W := [(a_t, .inr (11, [.ref a_t_w, .ref a_t_wKept, .ref a_t_saved, .ref a_t_past, jk_V i_t_pastMany, jk_V i_t_isSaved, jk_V i_t_thrown, .ref a_t_input, jk_V i_t_inputMany, jk_V i_t_lastError, jk_V i_t_lastOffset, jk_V i_t_error, jk_V i_t_offset, jk_V i_t_nextByte, jk_V i_t_begin, jk_V i_t_value, jk_V i_t_token, jk_V i_t_got, .ref a_t_n, .ref a_t_order, .ref a_t_numbers, jk_V i_t_orders, .ref a_t_output, jk_V i_t_outputMany])), (a_t_w, jk_W cI 259 i_t_w), (a_t_past, jk_W cI 2072 i_t_past)]
set_option maxHeartbeats 4000000 in
set_option maxRecDepth 20000 in
theorem ct_Md_tieTop (l : Launch) (D : va_G) (Z : (Nat → Prop) → State → Heap → Prop) (sq : Nat → Nat) (hZ : jk_ZK Z sq) (cI cR : ClassId) (a_t a_t_w a_t_wKept a_t_saved a_t_past a_t_input a_t_n a_t_order a_t_numbers a_t_output : Nat) (i_t_pastMany : Int) (i_t_isSaved : Int) (i_t_thrown : Int) (i_t_inputMany : Int) (i_t_lastError : Int) (i_t_lastOffset : Int) (i_t_error : Int) (i_t_offset : Int) (i_t_nextByte : Int) (i_t_begin : Int) (i_t_value : Int) (i_t_token : Int) (i_t_got : Int) (i_t_orders : Int) (i_t_outputMany : Int) (i_t_w : (Int → Int)) (i_t_past : (Int → Int)) (x1 : Int) (x2 : Int) (q : Int × (Int → Int) × (Int → Int) × Int × Int) (hf : fn_Md_tieTop i_t_w i_t_past i_t_pastMany i_t_thrown x1 x2 = some q) : jk_MI l D jk_cl (jk_ty cI cR) Z mn_Md_tieTop (.code mn_Md_tieTop mb_Md_tieTop 3 (some .int) :: jk_WA) (jk_rm 7 155) [.ref a_t, jk_V x1, jk_V x2] (wd_Md_tieTop cI a_t a_t_w a_t_wKept a_t_saved a_t_past a_t_input a_t_n a_t_order a_t_numbers a_t_output i_t_pastMany i_t_isSaved i_t_thrown i_t_inputMany i_t_lastError i_t_lastOffset i_t_error i_t_offset i_t_nextByte i_t_begin i_t_value i_t_token i_t_got i_t_orders i_t_outputMany i_t_w i_t_past) (wd_Md_tieTop cI a_t a_t_w a_t_wKept a_t_saved a_t_past a_t_input a_t_n a_t_order a_t_numbers a_t_output q.2.2.2.1 i_t_isSaved q.2.2.2.2 i_t_inputMany i_t_lastError i_t_lastOffset i_t_error i_t_offset i_t_nextByte i_t_begin i_t_value i_t_token i_t_got i_t_orders i_t_outputMany q.2.1 q.2.2.1) q.1 := by
  intro sz
  refine jk_body (by decide +kernel) (fun p e s m args below meth c hsz hz hin C => ?_) (Nat.le_of_ble_eq_true rfl)
  subst hsz
  unfold fn_Md_tieTop at hf
  have bk_35 : ∀ (t_w : (Int → Int)) (t_past : (Int → Int)) (t_pastMany : Int) (t_thrown : Int) (v1 : Int) (v2 : Int) (s0 : Int), fn_Md_tieTop_b35 t_w t_past t_pastMany t_thrown v1 v2 s0 = some q → jk_J p l e (jk_rm 7 155) s m args below meth c 0 0 (jk_QI below D jk_cl (jk_ty cI cR) (wd_Md_tieTop cI a_t a_t_w a_t_wKept a_t_saved a_t_past a_t_input a_t_n a_t_order a_t_numbers a_t_output i_t_pastMany i_t_isSaved i_t_thrown i_t_inputMany i_t_lastError i_t_lastOffset i_t_error i_t_offset i_t_nextByte i_t_begin i_t_value i_t_token i_t_got i_t_orders i_t_outputMany i_t_w i_t_past) (wd_Md_tieTop cI a_t a_t_w a_t_wKept a_t_saved a_t_past a_t_input a_t_n a_t_order a_t_numbers a_t_output q.2.2.2.1 i_t_isSaved q.2.2.2.2 i_t_inputMany i_t_lastError i_t_lastOffset i_t_error i_t_offset i_t_nextByte i_t_begin i_t_value i_t_token i_t_got i_t_orders i_t_outputMany q.2.1 q.2.2.1) args s q.1) D jk_cl (va_A (wd_Md_tieTop cI a_t a_t_w a_t_wKept a_t_saved a_t_past a_t_input a_t_n a_t_order a_t_numbers a_t_output i_t_pastMany i_t_isSaved i_t_thrown i_t_inputMany i_t_lastError i_t_lastOffset i_t_error i_t_offset i_t_nextByte i_t_begin i_t_value i_t_token i_t_got i_t_orders i_t_outputMany i_t_w i_t_past) s.heap.size) 3 (wd_Md_tieTop cI a_t a_t_w a_t_wKept a_t_saved a_t_past a_t_input a_t_n a_t_order a_t_numbers a_t_output t_pastMany i_t_isSaved t_thrown i_t_inputMany i_t_lastError i_t_lastOffset i_t_error i_t_offset i_t_nextByte i_t_begin i_t_value i_t_token i_t_got i_t_orders i_t_outputMany t_w t_past) [(0, .ref a_t), (1, jk_V v1), (2, jk_V v2)] 35 [jk_V s0, .ref a_t] := by
    intro t_w t_past t_pastMany t_thrown v1 v2 s0 hf
    unfold fn_Md_tieTop_b35 at hf
    refine jk_iconst C rd_Md_tieTop_35 ?_
    obtain ⟨q36, hq36, hf⟩ := jk_bind_h hf
    refine jk_callVi C hZ.1 hz (ct_Md_fails l D Z sq hZ cI cR a_t a_t_w a_t_wKept a_t_saved a_t_past a_t_input a_t_n a_t_order a_t_numbers a_t_output t_pastMany i_t_isSaved t_thrown i_t_inputMany i_t_lastError i_t_lastOffset i_t_error i_t_offset i_t_nextByte i_t_begin i_t_value i_t_token i_t_got i_t_orders i_t_outputMany s0 2 q36 hq36) tm_1643 tm_1645 sl_87 tm_15 tm_1646 na_Md_fails ⟨Nat.le_of_ble_eq_true rfl, Nat.le_of_ble_eq_true rfl⟩ rfl [0] rfl rfl rfl (ws' := wd_Md_tieTop cI a_t a_t_w a_t_wKept a_t_saved a_t_past a_t_input a_t_n a_t_order a_t_numbers a_t_output t_pastMany i_t_isSaved q36.2 i_t_inputMany i_t_lastError i_t_lastOffset i_t_error i_t_offset i_t_nextByte i_t_begin i_t_value i_t_token i_t_got i_t_orders i_t_outputMany t_w t_past) rfl 0 11 rfl rfl rfl (st := []) rfl (Nat.le_of_ble_eq_true rfl) rd_Md_tieTop_36 ?_ ⟨Nat.le_of_ble_eq_true rfl, Nat.le_of_ble_eq_true rfl⟩
    refine jk_if_eq (tgt := 44) C rd_Md_tieTop_39 (by decide) hf (fun _ hf => ?_) (fun _ hf => ?_)
    · refine jk_aload_n C rd_Md_tieTop_44 (k := 0) rfl ?_
      obtain ⟨q45, hq45, hf⟩ := jk_bind_h hf
      refine jk_callVv C hZ.1 hz (ct_Md_remembers l D Z sq hZ cI cR a_t a_t_w a_t_wKept a_t_saved a_t_past a_t_input a_t_n a_t_order a_t_numbers a_t_output t_pastMany i_t_isSaved q36.2 i_t_inputMany i_t_lastError i_t_lastOffset i_t_error i_t_offset i_t_nextByte i_t_begin i_t_value i_t_token i_t_got i_t_orders i_t_outputMany t_w t_past q45 hq45) tm_1512 tm_1514 sl_61 tm_15 tm_1515 na_Md_remembers ⟨Nat.le_of_ble_eq_true rfl, Nat.le_of_ble_eq_true rfl⟩ rfl [0, 1, 2] rfl rfl rfl (ws' := wd_Md_tieTop cI a_t a_t_w a_t_wKept a_t_saved a_t_past a_t_input a_t_n a_t_order a_t_numbers a_t_output q45.2 i_t_isSaved q36.2 i_t_inputMany i_t_lastError i_t_lastOffset i_t_error i_t_offset i_t_nextByte i_t_begin i_t_value i_t_token i_t_got i_t_orders i_t_outputMany t_w q45.1) rfl 0 11 rfl rfl rfl (st := []) rfl (Nat.le_of_ble_eq_true rfl) rd_Md_tieTop_45 ?_ ⟨Nat.le_of_ble_eq_true rfl, Nat.le_of_ble_eq_true rfl⟩
      refine jk_aload_n C rd_Md_tieTop_48 (k := 0) rfl ?_
      refine jk_iload_n C rd_Md_tieTop_49 (k := 1) rfl ?_
      refine jk_iload_n C rd_Md_tieTop_50 (k := 2) rfl ?_
      obtain ⟨q51, hq51, hf⟩ := jk_bind_h hf
      refine jk_callVi C hZ.1 hz (ct_Md_ties l D Z sq hZ cI cR a_t a_t_w a_t_wKept a_t_saved a_t_past a_t_input a_t_n a_t_order a_t_numbers a_t_output q45.2 i_t_isSaved q36.2 i_t_inputMany i_t_lastError i_t_lastOffset i_t_error i_t_offset i_t_nextByte i_t_begin i_t_value i_t_token i_t_got i_t_orders i_t_outputMany t_w v1 v2 q51 hq51) tm_1579 tm_1581 sl_77 tm_15 tm_1582 na_Md_ties ⟨Nat.le_of_ble_eq_true rfl, Nat.le_of_ble_eq_true rfl⟩ rfl [0, 1] rfl rfl rfl (ws' := wd_Md_tieTop cI a_t a_t_w a_t_wKept a_t_saved a_t_past a_t_input a_t_n a_t_order a_t_numbers a_t_output q45.2 i_t_isSaved q36.2 i_t_inputMany i_t_lastError i_t_lastOffset i_t_error i_t_offset i_t_nextByte i_t_begin i_t_value i_t_token i_t_got i_t_orders i_t_outputMany q51.2 q45.1) rfl 0 11 rfl rfl rfl (st := []) rfl (Nat.le_of_ble_eq_true rfl) rd_Md_tieTop_51 ?_ ⟨Nat.le_of_ble_eq_true rfl, Nat.le_of_ble_eq_true rfl⟩
      cases hf
      exact jk_iret C rfl rd_Md_tieTop_54 rfl
    · refine jk_iconst C rd_Md_tieTop_42 ?_
      cases hf
      exact jk_iret C rfl rd_Md_tieTop_43 rfl
  refine jk_aload_n C rd_Md_tieTop_0 (k := 0) rfl ?_
  refine jk_iconst C rd_Md_tieTop_1 ?_
  refine jk_putf C in_Md ty_Md nm_Md (ci := 11) rfl 6 (by decide) tm_1269 rfl rfl rfl 0 rfl (Nat.le_of_ble_eq_true rfl) rd_Md_tieTop_2 (ws' := wd_Md_tieTop cI a_t a_t_w a_t_wKept a_t_saved a_t_past a_t_input a_t_n a_t_order a_t_numbers a_t_output i_t_pastMany i_t_isSaved 0 i_t_inputMany i_t_lastError i_t_lastOffset i_t_error i_t_offset i_t_nextByte i_t_begin i_t_value i_t_token i_t_got i_t_orders i_t_outputMany i_t_w i_t_past) rfl ?_
  refine jk_aload_n C rd_Md_tieTop_5 (k := 0) rfl ?_
  refine jk_iload_n C rd_Md_tieTop_6 (k := 1) rfl ?_
  obtain ⟨q7, hq7, hf⟩ := jk_bind_h hf
  refine jk_callVi C hZ.1 hz (ct_Md_noCluster l D Z sq hZ cI cR a_t a_t_w a_t_wKept a_t_saved a_t_past a_t_input a_t_n a_t_order a_t_numbers a_t_output i_t_pastMany i_t_isSaved 0 i_t_inputMany i_t_lastError i_t_lastOffset i_t_error i_t_offset i_t_nextByte i_t_begin i_t_value i_t_token i_t_got i_t_orders i_t_outputMany i_t_w x1 q7 hq7) tm_1699 tm_1701 sl_92 tm_15 tm_1702 na_Md_noCluster ⟨Nat.le_of_ble_eq_true rfl, Nat.le_of_ble_eq_true rfl⟩ rfl [0, 1] rfl rfl rfl (ws' := wd_Md_tieTop cI a_t a_t_w a_t_wKept a_t_saved a_t_past a_t_input a_t_n a_t_order a_t_numbers a_t_output i_t_pastMany i_t_isSaved q7.2 i_t_inputMany i_t_lastError i_t_lastOffset i_t_error i_t_offset i_t_nextByte i_t_begin i_t_value i_t_token i_t_got i_t_orders i_t_outputMany i_t_w i_t_past) rfl 0 11 rfl rfl rfl (st := []) rfl (Nat.le_of_ble_eq_true rfl) rd_Md_tieTop_7 ?_ ⟨Nat.le_of_ble_eq_true rfl, Nat.le_of_ble_eq_true rfl⟩
  refine jk_if_ne (tgt := 42) C rd_Md_tieTop_10 (by decide) hf (fun _ hf => ?_) (fun _ hf => ?_)
  · refine jk_iconst C rd_Md_tieTop_42 ?_
    cases hf
    exact jk_iret C rfl rd_Md_tieTop_43 rfl
  · refine jk_aload_n C rd_Md_tieTop_13 (k := 0) rfl ?_
    refine jk_iload_n C rd_Md_tieTop_14 (k := 2) rfl ?_
    obtain ⟨q15, hq15, hf⟩ := jk_bind_h hf
    refine jk_callVi C hZ.1 hz (ct_Md_noTopic l D Z sq hZ cI cR a_t a_t_w a_t_wKept a_t_saved a_t_past a_t_input a_t_n a_t_order a_t_numbers a_t_output i_t_pastMany i_t_isSaved q7.2 i_t_inputMany i_t_lastError i_t_lastOffset i_t_error i_t_offset i_t_nextByte i_t_begin i_t_value i_t_token i_t_got i_t_orders i_t_outputMany i_t_w x2 q15 hq15) tm_1751 tm_1753 sl_95 tm_15 tm_1754 na_Md_noTopic ⟨Nat.le_of_ble_eq_true rfl, Nat.le_of_ble_eq_true rfl⟩ rfl [0, 1] rfl rfl rfl (ws' := wd_Md_tieTop cI a_t a_t_w a_t_wKept a_t_saved a_t_past a_t_input a_t_n a_t_order a_t_numbers a_t_output i_t_pastMany i_t_isSaved q15.2 i_t_inputMany i_t_lastError i_t_lastOffset i_t_error i_t_offset i_t_nextByte i_t_begin i_t_value i_t_token i_t_got i_t_orders i_t_outputMany i_t_w i_t_past) rfl 0 11 rfl rfl rfl (st := []) rfl (Nat.le_of_ble_eq_true rfl) rd_Md_tieTop_15 ?_ ⟨Nat.le_of_ble_eq_true rfl, Nat.le_of_ble_eq_true rfl⟩
    refine jk_if_ne (tgt := 42) C rd_Md_tieTop_18 (by decide) hf (fun _ hf => ?_) (fun _ hf => ?_)
    · refine jk_iconst C rd_Md_tieTop_42 ?_
      cases hf
      exact jk_iret C rfl rd_Md_tieTop_43 rfl
    · refine jk_aload_n C rd_Md_tieTop_21 (k := 0) rfl ?_
      refine jk_aload_n C rd_Md_tieTop_22 (k := 0) rfl ?_
      refine jk_iload_n C rd_Md_tieTop_23 (k := 1) rfl ?_
      obtain ⟨q24, hq24, hf⟩ := jk_bind_h hf
      refine jk_callVi C hZ.1 hz (ct_Md_mayTie l D Z sq hZ cI cR a_t a_t_w a_t_wKept a_t_saved a_t_past a_t_input a_t_n a_t_order a_t_numbers a_t_output i_t_pastMany i_t_isSaved q15.2 i_t_inputMany i_t_lastError i_t_lastOffset i_t_error i_t_offset i_t_nextByte i_t_begin i_t_value i_t_token i_t_got i_t_orders i_t_outputMany i_t_w x1 q24 hq24) tm_1552 tm_1554 sl_71 tm_15 tm_1555 na_Md_mayTie ⟨Nat.le_of_ble_eq_true rfl, Nat.le_of_ble_eq_true rfl⟩ rfl [0, 1] rfl rfl rfl (ws' := wd_Md_tieTop cI a_t a_t_w a_t_wKept a_t_saved a_t_past a_t_input a_t_n a_t_order a_t_numbers a_t_output i_t_pastMany i_t_isSaved q15.2 i_t_inputMany i_t_lastError i_t_lastOffset i_t_error i_t_offset i_t_nextByte i_t_begin i_t_value i_t_token i_t_got i_t_orders i_t_outputMany i_t_w i_t_past) rfl 0 11 rfl rfl rfl (st := [.ref a_t]) rfl (Nat.le_of_ble_eq_true rfl) rd_Md_tieTop_24 ?_ ⟨Nat.le_of_ble_eq_true rfl, Nat.le_of_ble_eq_true rfl⟩
      refine jk_if_ne (tgt := 34) C rd_Md_tieTop_27 (by decide) hf (fun _ hf => ?_) (fun _ hf => ?_)
      · refine jk_iconst C rd_Md_tieTop_34 ?_
        refine jk_lv (lv' := [(0, .ref a_t), (1, jk_V x1), (2, jk_V x2)]) [0, 1, 2] rfl ?_
        exact bk_35 i_t_w i_t_past i_t_pastMany q15.2 x1 x2 0 hf
      · refine jk_iconst C rd_Md_tieTop_30 ?_
        refine jk_goto (tgt := 35) C rd_Md_tieTop_31 (by decide) ?_
        refine jk_lv (lv' := [(0, .ref a_t), (1, jk_V x1), (2, jk_V x2)]) [0, 1, 2] rfl ?_
        exact bk_35 i_t_w i_t_past i_t_pastMany q15.2 x1 x2 1 hf
def wd_Md_setKnots (cI : ClassId) (a_t a_t_w a_t_wKept a_t_saved a_t_past a_t_input a_t_n a_t_order a_t_numbers a_t_output : Nat) (i_t_pastMany : Int) (i_t_isSaved : Int) (i_t_thrown : Int) (i_t_inputMany : Int) (i_t_lastError : Int) (i_t_lastOffset : Int) (i_t_error : Int) (i_t_offset : Int) (i_t_nextByte : Int) (i_t_begin : Int) (i_t_value : Int) (i_t_token : Int) (i_t_got : Int) (i_t_orders : Int) (i_t_outputMany : Int) (i_t_w : (Int → Int)) (i_t_past : (Int → Int)) : va_W := [(a_t, .inr (11, [.ref a_t_w, .ref a_t_wKept, .ref a_t_saved, .ref a_t_past, jk_V i_t_pastMany, jk_V i_t_isSaved, jk_V i_t_thrown, .ref a_t_input, jk_V i_t_inputMany, jk_V i_t_lastError, jk_V i_t_lastOffset, jk_V i_t_error, jk_V i_t_offset, jk_V i_t_nextByte, jk_V i_t_begin, jk_V i_t_value, jk_V i_t_token, jk_V i_t_got, .ref a_t_n, .ref a_t_order, .ref a_t_numbers, jk_V i_t_orders, .ref a_t_output, jk_V i_t_outputMany])), (a_t_w, jk_W cI 259 i_t_w), (a_t_past, jk_W cI 2072 i_t_past)]
set_option maxHeartbeats 4000000 in
set_option maxRecDepth 20000 in
theorem ct_Md_setKnots (l : Launch) (D : va_G) (Z : (Nat → Prop) → State → Heap → Prop) (sq : Nat → Nat) (hZ : jk_ZK Z sq) (cI cR : ClassId) (a_t a_t_w a_t_wKept a_t_saved a_t_past a_t_input a_t_n a_t_order a_t_numbers a_t_output : Nat) (i_t_pastMany : Int) (i_t_isSaved : Int) (i_t_thrown : Int) (i_t_inputMany : Int) (i_t_lastError : Int) (i_t_lastOffset : Int) (i_t_error : Int) (i_t_offset : Int) (i_t_nextByte : Int) (i_t_begin : Int) (i_t_value : Int) (i_t_token : Int) (i_t_got : Int) (i_t_orders : Int) (i_t_outputMany : Int) (i_t_w : (Int → Int)) (i_t_past : (Int → Int)) (x1 : Int) (x2 : Int) (x3 : Int) (q : Int × (Int → Int) × (Int → Int) × Int × Int) (hf : fn_Md_setKnots i_t_w i_t_past i_t_pastMany i_t_thrown x1 x2 x3 = some q) : jk_MI l D jk_cl (jk_ty cI cR) Z mn_Md_setKnots (.code mn_Md_setKnots mb_Md_setKnots 4 (some .int) :: jk_WA) (jk_rm 3 68) [.ref a_t, jk_V x1, jk_V x2, jk_V x3] (wd_Md_setKnots cI a_t a_t_w a_t_wKept a_t_saved a_t_past a_t_input a_t_n a_t_order a_t_numbers a_t_output i_t_pastMany i_t_isSaved i_t_thrown i_t_inputMany i_t_lastError i_t_lastOffset i_t_error i_t_offset i_t_nextByte i_t_begin i_t_value i_t_token i_t_got i_t_orders i_t_outputMany i_t_w i_t_past) (wd_Md_setKnots cI a_t a_t_w a_t_wKept a_t_saved a_t_past a_t_input a_t_n a_t_order a_t_numbers a_t_output q.2.2.2.1 i_t_isSaved q.2.2.2.2 i_t_inputMany i_t_lastError i_t_lastOffset i_t_error i_t_offset i_t_nextByte i_t_begin i_t_value i_t_token i_t_got i_t_orders i_t_outputMany q.2.1 q.2.2.1) q.1 := by
  intro sz
  refine jk_body (by decide +kernel) (fun p e s m args below meth c hsz hz hin C => ?_) (Nat.le_of_ble_eq_true rfl)
  subst hsz
  unfold fn_Md_setKnots at hf
  have bk_61 : ∀ (t_w : (Int → Int)) (t_past : (Int → Int)) (t_pastMany : Int) (t_thrown : Int) (v1 : Int) (v2 : Int) (v3 : Int) (s0 : Int), fn_Md_setKnots_b61 t_w t_past t_pastMany t_thrown v1 v2 v3 s0 = some q → jk_J p l e (jk_rm 3 68) s m args below meth c 0 0 (jk_QI below D jk_cl (jk_ty cI cR) (wd_Md_setKnots cI a_t a_t_w a_t_wKept a_t_saved a_t_past a_t_input a_t_n a_t_order a_t_numbers a_t_output i_t_pastMany i_t_isSaved i_t_thrown i_t_inputMany i_t_lastError i_t_lastOffset i_t_error i_t_offset i_t_nextByte i_t_begin i_t_value i_t_token i_t_got i_t_orders i_t_outputMany i_t_w i_t_past) (wd_Md_setKnots cI a_t a_t_w a_t_wKept a_t_saved a_t_past a_t_input a_t_n a_t_order a_t_numbers a_t_output q.2.2.2.1 i_t_isSaved q.2.2.2.2 i_t_inputMany i_t_lastError i_t_lastOffset i_t_error i_t_offset i_t_nextByte i_t_begin i_t_value i_t_token i_t_got i_t_orders i_t_outputMany q.2.1 q.2.2.1) args s q.1) D jk_cl (va_A (wd_Md_setKnots cI a_t a_t_w a_t_wKept a_t_saved a_t_past a_t_input a_t_n a_t_order a_t_numbers a_t_output i_t_pastMany i_t_isSaved i_t_thrown i_t_inputMany i_t_lastError i_t_lastOffset i_t_error i_t_offset i_t_nextByte i_t_begin i_t_value i_t_token i_t_got i_t_orders i_t_outputMany i_t_w i_t_past) s.heap.size) 4 (wd_Md_setKnots cI a_t a_t_w a_t_wKept a_t_saved a_t_past a_t_input a_t_n a_t_order a_t_numbers a_t_output t_pastMany i_t_isSaved t_thrown i_t_inputMany i_t_lastError i_t_lastOffset i_t_error i_t_offset i_t_nextByte i_t_begin i_t_value i_t_token i_t_got i_t_orders i_t_outputMany t_w t_past) [(0, .ref a_t), (1, jk_V v1), (2, jk_V v2), (3, jk_V v3)] 61 [jk_V s0, .ref a_t] := by
    intro t_w t_past t_pastMany t_thrown v1 v2 v3 s0 hf
    unfold fn_Md_setKnots_b61 at hf
    refine jk_iconst C rd_Md_setKnots_61 ?_
    obtain ⟨q62, hq62, hf⟩ := jk_bind_h hf
    refine jk_callVi C hZ.1 hz (ct_Md_fails l D Z sq hZ cI cR a_t a_t_w a_t_wKept a_t_saved a_t_past a_t_input a_t_n a_t_order a_t_numbers a_t_output t_pastMany i_t_isSaved t_thrown i_t_inputMany i_t_lastError i_t_lastOffset i_t_error i_t_offset i_t_nextByte i_t_begin i_t_value i_t_token i_t_got i_t_orders i_t_outputMany s0 3 q62 hq62) tm_1643 tm_1645 sl_87 tm_15 tm_1646 na_Md_fails ⟨Nat.le_of_ble_eq_true rfl, Nat.le_of_ble_eq_true rfl⟩ rfl [0] rfl rfl rfl (ws' := wd_Md_setKnots cI a_t a_t_w a_t_wKept a_t_saved a_t_past a_t_input a_t_n a_t_order a_t_numbers a_t_output t_pastMany i_t_isSaved q62.2 i_t_inputMany i_t_lastError i_t_lastOffset i_t_error i_t_offset i_t_nextByte i_t_begin i_t_value i_t_token i_t_got i_t_orders i_t_outputMany t_w t_past) rfl 0 11 rfl rfl rfl (st := []) rfl (Nat.le_of_ble_eq_true rfl) rd_Md_setKnots_62 ?_ ⟨Nat.le_of_ble_eq_true rfl, Nat.le_of_ble_eq_true rfl⟩
    refine jk_if_eq (tgt := 70) C rd_Md_setKnots_65 (by decide) hf (fun _ hf => ?_) (fun _ hf => ?_)
    · refine jk_aload_n C rd_Md_setKnots_70 (k := 0) rfl ?_
      obtain ⟨q71, hq71, hf⟩ := jk_bind_h hf
      refine jk_callVv C hZ.1 hz (ct_Md_remembers l D Z sq hZ cI cR a_t a_t_w a_t_wKept a_t_saved a_t_past a_t_input a_t_n a_t_order a_t_numbers a_t_output t_pastMany i_t_isSaved q62.2 i_t_inputMany i_t_lastError i_t_lastOffset i_t_error i_t_offset i_t_nextByte i_t_begin i_t_value i_t_token i_t_got i_t_orders i_t_outputMany t_w t_past q71 hq71) tm_1512 tm_1514 sl_61 tm_15 tm_1515 na_Md_remembers ⟨Nat.le_of_ble_eq_true rfl, Nat.le_of_ble_eq_true rfl⟩ rfl [0, 1, 2] rfl rfl rfl (ws' := wd_Md_setKnots cI a_t a_t_w a_t_wKept a_t_saved a_t_past a_t_input a_t_n a_t_order a_t_numbers a_t_output q71.2 i_t_isSaved q62.2 i_t_inputMany i_t_lastError i_t_lastOffset i_t_error i_t_offset i_t_nextByte i_t_begin i_t_value i_t_token i_t_got i_t_orders i_t_outputMany t_w q71.1) rfl 0 11 rfl rfl rfl (st := []) rfl (Nat.le_of_ble_eq_true rfl) rd_Md_setKnots_71 ?_ ⟨Nat.le_of_ble_eq_true rfl, Nat.le_of_ble_eq_true rfl⟩
      refine jk_aload_n C rd_Md_setKnots_74 (k := 0) rfl ?_
      refine jk_iload_n C rd_Md_setKnots_75 (k := 1) rfl ?_
      refine jk_iload_n C rd_Md_setKnots_76 (k := 2) rfl ?_
      refine jk_iload_n C rd_Md_setKnots_77 (k := 3) rfl ?_
      obtain ⟨q78, hq78, hf⟩ := jk_bind_h hf
      refine jk_callVi C hZ.1 hz (ct_Md_sets l D Z sq hZ cI cR a_t a_t_w a_t_wKept a_t_saved a_t_past a_t_input a_t_n a_t_order a_t_numbers a_t_output q71.2 i_t_isSaved q62.2 i_t_inputMany i_t_lastError i_t_lastOffset i_t_error i_t_offset i_t_nextByte i_t_begin i_t_value i_t_token i_t_got i_t_orders i_t_outputMany t_w v1 v2 v3 q78 hq78) tm_1583 tm_1585 sl_78 tm_15 tm_1586 na_Md_sets ⟨Nat.le_of_ble_eq_true rfl, Nat.le_of_ble_eq_true rfl⟩ rfl [0, 1] rfl rfl rfl (ws' := wd_Md_setKnots cI a_t a_t_w a_t_wKept a_t_saved a_t_past a_t_input a_t_n a_t_order a_t_numbers a_t_output q71.2 i_t_isSaved q62.2 i_t_inputMany i_t_lastError i_t_lastOffset i_t_error i_t_offset i_t_nextByte i_t_begin i_t_value i_t_token i_t_got i_t_orders i_t_outputMany q78.2 q71.1) rfl 0 11 rfl rfl rfl (st := []) rfl (Nat.le_of_ble_eq_true rfl) rd_Md_setKnots_78 ?_ ⟨Nat.le_of_ble_eq_true rfl, Nat.le_of_ble_eq_true rfl⟩
      cases hf
      exact jk_iret C rfl rd_Md_setKnots_81 rfl
    · refine jk_iconst C rd_Md_setKnots_68 ?_
      cases hf
      exact jk_iret C rfl rd_Md_setKnots_69 rfl
  have bk_38 : ∀ (t_w : (Int → Int)) (t_past : (Int → Int)) (t_pastMany : Int) (t_thrown : Int) (v1 : Int) (v2 : Int) (v3 : Int) (s0 : Int), fn_Md_setKnots_b38 t_w t_past t_pastMany t_thrown v1 v2 v3 s0 = some q → jk_J p l e (jk_rm 3 68) s m args below meth c 0 0 (jk_QI below D jk_cl (jk_ty cI cR) (wd_Md_setKnots cI a_t a_t_w a_t_wKept a_t_saved a_t_past a_t_input a_t_n a_t_order a_t_numbers a_t_output i_t_pastMany i_t_isSaved i_t_thrown i_t_inputMany i_t_lastError i_t_lastOffset i_t_error i_t_offset i_t_nextByte i_t_begin i_t_value i_t_token i_t_got i_t_orders i_t_outputMany i_t_w i_t_past) (wd_Md_setKnots cI a_t a_t_w a_t_wKept a_t_saved a_t_past a_t_input a_t_n a_t_order a_t_numbers a_t_output q.2.2.2.1 i_t_isSaved q.2.2.2.2 i_t_inputMany i_t_lastError i_t_lastOffset i_t_error i_t_offset i_t_nextByte i_t_begin i_t_value i_t_token i_t_got i_t_orders i_t_outputMany q.2.1 q.2.2.1) args s q.1) D jk_cl (va_A (wd_Md_setKnots cI a_t a_t_w a_t_wKept a_t_saved a_t_past a_t_input a_t_n a_t_order a_t_numbers a_t_output i_t_pastMany i_t_isSaved i_t_thrown i_t_inputMany i_t_lastError i_t_lastOffset i_t_error i_t_offset i_t_nextByte i_t_begin i_t_value i_t_token i_t_got i_t_orders i_t_outputMany i_t_w i_t_past) s.heap.size) 4 (wd_Md_setKnots cI a_t a_t_w a_t_wKept a_t_saved a_t_past a_t_input a_t_n a_t_order a_t_numbers a_t_output t_pastMany i_t_isSaved t_thrown i_t_inputMany i_t_lastError i_t_lastOffset i_t_error i_t_offset i_t_nextByte i_t_begin i_t_value i_t_token i_t_got i_t_orders i_t_outputMany t_w t_past) [(0, .ref a_t), (1, jk_V v1), (2, jk_V v2), (3, jk_V v3)] 38 [jk_V s0, .ref a_t] := by
    intro t_w t_past t_pastMany t_thrown v1 v2 v3 s0 hf
    unfold fn_Md_setKnots_b38 at hf
    refine jk_iconst C rd_Md_setKnots_38 ?_
    obtain ⟨q39, hq39, hf⟩ := jk_bind_h hf
    refine jk_callVi C hZ.1 hz (ct_Md_fails l D Z sq hZ cI cR a_t a_t_w a_t_wKept a_t_saved a_t_past a_t_input a_t_n a_t_order a_t_numbers a_t_output t_pastMany i_t_isSaved t_thrown i_t_inputMany i_t_lastError i_t_lastOffset i_t_error i_t_offset i_t_nextByte i_t_begin i_t_value i_t_token i_t_got i_t_orders i_t_outputMany s0 2 q39 hq39) tm_1643 tm_1645 sl_87 tm_15 tm_1646 na_Md_fails ⟨Nat.le_of_ble_eq_true rfl, Nat.le_of_ble_eq_true rfl⟩ rfl [0] rfl rfl rfl (ws' := wd_Md_setKnots cI a_t a_t_w a_t_wKept a_t_saved a_t_past a_t_input a_t_n a_t_order a_t_numbers a_t_output t_pastMany i_t_isSaved q39.2 i_t_inputMany i_t_lastError i_t_lastOffset i_t_error i_t_offset i_t_nextByte i_t_begin i_t_value i_t_token i_t_got i_t_orders i_t_outputMany t_w t_past) rfl 0 11 rfl rfl rfl (st := []) rfl (Nat.le_of_ble_eq_true rfl) rd_Md_setKnots_39 ?_ ⟨Nat.le_of_ble_eq_true rfl, Nat.le_of_ble_eq_true rfl⟩
    refine jk_if_ne (tgt := 68) C rd_Md_setKnots_42 (by decide) hf (fun _ hf => ?_) (fun _ hf => ?_)
    · refine jk_iconst C rd_Md_setKnots_68 ?_
      cases hf
      exact jk_iret C rfl rd_Md_setKnots_69 rfl
    · refine jk_aload_n C rd_Md_setKnots_45 (k := 0) rfl ?_
      refine jk_iload_n C rd_Md_setKnots_46 (k := 2) rfl ?_
      refine jk_aload_n C rd_Md_setKnots_47 (k := 0) rfl ?_
      refine jk_iload_n C rd_Md_setKnots_48 (k := 1) rfl ?_
      refine jk_iconst C rd_Md_setKnots_49 ?_
      obtain ⟨q50, hq50, hf⟩ := jk_bind_h hf
      refine jk_callVi C hZ.1 hz (ct_Md_of l D Z sq hZ cI cR a_t a_t_w a_t_wKept a_t_saved a_t_past a_t_input a_t_n a_t_order a_t_numbers a_t_output t_pastMany i_t_isSaved q39.2 i_t_inputMany i_t_lastError i_t_lastOffset i_t_error i_t_offset i_t_nextByte i_t_begin i_t_value i_t_token i_t_got i_t_orders i_t_outputMany t_w v1 4 q50 hq50) tm_1256 tm_1258 sl_26 tm_15 tm_1259 na_Md_of ⟨Nat.le_of_ble_eq_true rfl, Nat.le_of_ble_eq_true rfl⟩ rfl [0, 1] rfl rfl rfl (ws' := wd_Md_setKnots cI a_t a_t_w a_t_wKept a_t_saved a_t_past a_t_input a_t_n a_t_order a_t_numbers a_t_output t_pastMany i_t_isSaved q39.2 i_t_inputMany i_t_lastError i_t_lastOffset i_t_error i_t_offset i_t_nextByte i_t_begin i_t_value i_t_token i_t_got i_t_orders i_t_outputMany t_w t_past) rfl 0 11 rfl rfl rfl (st := [jk_V v2, .ref a_t]) rfl (Nat.le_of_ble_eq_true rfl) rd_Md_setKnots_50 ?_ ⟨Nat.le_of_ble_eq_true rfl, Nat.le_of_ble_eq_true rfl⟩
      refine jk_icmp_ge (tgt := 60) C rd_Md_setKnots_53 (by decide) hf (fun _ hf => ?_) (fun _ hf => ?_)
      · refine jk_iconst C rd_Md_setKnots_60 ?_
        refine jk_lv (lv' := [(0, .ref a_t), (1, jk_V v1), (2, jk_V v2), (3, jk_V v3)]) [0, 1, 2, 3] rfl ?_
        exact bk_61 t_w t_past t_pastMany q39.2 v1 v2 v3 0 hf
      · refine jk_iconst C rd_Md_setKnots_56 ?_
        refine jk_goto (tgt := 61) C rd_Md_setKnots_57 (by decide) ?_
        refine jk_lv (lv' := [(0, .ref a_t), (1, jk_V v1), (2, jk_V v2), (3, jk_V v3)]) [0, 1, 2, 3] rfl ?_
        exact bk_61 t_w t_past t_pastMany q39.2 v1 v2 v3 1 hf
  refine jk_aload_n C rd_Md_setKnots_0 (k := 0) rfl ?_
  refine jk_iconst C rd_Md_setKnots_1 ?_
  refine jk_putf C in_Md ty_Md nm_Md (ci := 11) rfl 6 (by decide) tm_1269 rfl rfl rfl 0 rfl (Nat.le_of_ble_eq_true rfl) rd_Md_setKnots_2 (ws' := wd_Md_setKnots cI a_t a_t_w a_t_wKept a_t_saved a_t_past a_t_input a_t_n a_t_order a_t_numbers a_t_output i_t_pastMany i_t_isSaved 0 i_t_inputMany i_t_lastError i_t_lastOffset i_t_error i_t_offset i_t_nextByte i_t_begin i_t_value i_t_token i_t_got i_t_orders i_t_outputMany i_t_w i_t_past) rfl ?_
  refine jk_aload_n C rd_Md_setKnots_5 (k := 0) rfl ?_
  refine jk_iload_n C rd_Md_setKnots_6 (k := 1) rfl ?_
  obtain ⟨q7, hq7, hf⟩ := jk_bind_h hf
  refine jk_callVi C hZ.1 hz (ct_Md_noCord l D Z sq hZ cI cR a_t a_t_w a_t_wKept a_t_saved a_t_past a_t_input a_t_n a_t_order a_t_numbers a_t_output i_t_pastMany i_t_isSaved 0 i_t_inputMany i_t_lastError i_t_lastOffset i_t_error i_t_offset i_t_nextByte i_t_begin i_t_value i_t_token i_t_got i_t_orders i_t_outputMany i_t_w x1 q7 hq7) tm_1639 tm_1641 sl_86 tm_15 tm_1642 na_Md_noCord ⟨Nat.le_of_ble_eq_true rfl, Nat.le_of_ble_eq_true rfl⟩ rfl [0, 1] rfl rfl rfl (ws' := wd_Md_setKnots cI a_t a_t_w a_t_wKept a_t_saved a_t_past a_t_input a_t_n a_t_order a_t_numbers a_t_output i_t_pastMany i_t_isSaved q7.2 i_t_inputMany i_t_lastError i_t_lastOffset i_t_error i_t_offset i_t_nextByte i_t_begin i_t_value i_t_token i_t_got i_t_orders i_t_outputMany i_t_w i_t_past) rfl 0 11 rfl rfl rfl (st := []) rfl (Nat.le_of_ble_eq_true rfl) rd_Md_setKnots_7 ?_ ⟨Nat.le_of_ble_eq_true rfl, Nat.le_of_ble_eq_true rfl⟩
  refine jk_if_ne (tgt := 68) C rd_Md_setKnots_10 (by decide) hf (fun _ hf => ?_) (fun _ hf => ?_)
  · refine jk_iconst C rd_Md_setKnots_68 ?_
    cases hf
    exact jk_iret C rfl rd_Md_setKnots_69 rfl
  · refine jk_aload_n C rd_Md_setKnots_13 (k := 0) rfl ?_
    refine jk_iload_n C rd_Md_setKnots_14 (k := 2) rfl ?_
    refine jk_iconst C rd_Md_setKnots_15 ?_
    refine jk_iconst C rd_Md_setKnots_16 ?_
    obtain ⟨q17, hq17, hf⟩ := jk_bind_h hf
    refine jk_callSi C hZ.1 hz (ct_Md_inRange l D Z sq hZ cI cR x2 0 3 q17 hq17) tm_1352 tm_1353 tm_15 tm_1354 na_Md_inRange ⟨Nat.le_of_ble_eq_true rfl, Nat.le_of_ble_eq_true rfl⟩ rfl [] rfl rfl rfl (ws' := wd_Md_setKnots cI a_t a_t_w a_t_wKept a_t_saved a_t_past a_t_input a_t_n a_t_order a_t_numbers a_t_output i_t_pastMany i_t_isSaved q7.2 i_t_inputMany i_t_lastError i_t_lastOffset i_t_error i_t_offset i_t_nextByte i_t_begin i_t_value i_t_token i_t_got i_t_orders i_t_outputMany i_t_w i_t_past) rfl (st := [.ref a_t]) rfl (Nat.le_of_ble_eq_true rfl) rd_Md_setKnots_17 ?_ ⟨Nat.le_of_ble_eq_true rfl, Nat.le_of_ble_eq_true rfl⟩
    refine jk_if_eq (tgt := 33) C rd_Md_setKnots_20 (by decide) hf (fun _ hf => ?_) (fun _ hf => ?_)
    · refine jk_iconst C rd_Md_setKnots_33 ?_
      refine jk_goto (tgt := 38) C rd_Md_setKnots_34 (by decide) ?_
      refine jk_lv (lv' := [(0, .ref a_t), (1, jk_V x1), (2, jk_V x2), (3, jk_V x3)]) [0, 1, 2, 3] rfl ?_
      exact bk_38 i_t_w i_t_past i_t_pastMany q7.2 x1 x2 x3 1 hf
    · refine jk_iload_n C rd_Md_setKnots_23 (k := 3) rfl ?_
      refine jk_iconst C rd_Md_setKnots_24 ?_
      refine jk_bipush C rd_Md_setKnots_25 (by decide +kernel) ?_
      obtain ⟨q27, hq27, hf⟩ := jk_bind_h hf
      refine jk_callSi C hZ.1 hz (ct_Md_inRange l D Z sq hZ cI cR x3 0 9 q27 hq27) tm_1352 tm_1353 tm_15 tm_1354 na_Md_inRange ⟨Nat.le_of_ble_eq_true rfl, Nat.le_of_ble_eq_true rfl⟩ rfl [] rfl rfl rfl (ws' := wd_Md_setKnots cI a_t a_t_w a_t_wKept a_t_saved a_t_past a_t_input a_t_n a_t_order a_t_numbers a_t_output i_t_pastMany i_t_isSaved q7.2 i_t_inputMany i_t_lastError i_t_lastOffset i_t_error i_t_offset i_t_nextByte i_t_begin i_t_value i_t_token i_t_got i_t_orders i_t_outputMany i_t_w i_t_past) rfl (st := [.ref a_t]) rfl (Nat.le_of_ble_eq_true rfl) rd_Md_setKnots_27 ?_ ⟨Nat.le_of_ble_eq_true rfl, Nat.le_of_ble_eq_true rfl⟩
      refine jk_if_ne (tgt := 37) C rd_Md_setKnots_30 (by decide) hf (fun _ hf => ?_) (fun _ hf => ?_)
      · refine jk_iconst C rd_Md_setKnots_37 ?_
        refine jk_lv (lv' := [(0, .ref a_t), (1, jk_V x1), (2, jk_V x2), (3, jk_V x3)]) [0, 1, 2, 3] rfl ?_
        exact bk_38 i_t_w i_t_past i_t_pastMany q7.2 x1 x2 x3 0 hf
      · refine jk_iconst C rd_Md_setKnots_33 ?_
        refine jk_goto (tgt := 38) C rd_Md_setKnots_34 (by decide) ?_
        refine jk_lv (lv' := [(0, .ref a_t), (1, jk_V x1), (2, jk_V x2), (3, jk_V x3)]) [0, 1, 2, 3] rfl ?_
        exact bk_38 i_t_w i_t_past i_t_pastMany q7.2 x1 x2 x3 1 hf
