theorem rd_Md_readTopic_0 : decode mb_Md_readTopic 0 = .ok (.aload_n 0, 1) := by decide +kernel
theorem rd_Md_readTopic_1 : decode mb_Md_readTopic 1 = .ok (.getfield 7, 3) := by decide +kernel
theorem rd_Md_readTopic_4 : decode mb_Md_readTopic 4 = .ok (.iconst 0, 1) := by decide +kernel
theorem rd_Md_readTopic_5 : decode mb_Md_readTopic 5 = .ok (.iaload, 1) := by decide +kernel
theorem rd_Md_readTopic_6 : decode mb_Md_readTopic 6 = .ok (.bipush 8, 2) := by decide +kernel
theorem rd_Md_readTopic_8 : decode mb_Md_readTopic 8 = .ok (.if_icmp .ne 10, 3) := by decide +kernel
theorem rd_Md_readTopic_11 : decode mb_Md_readTopic 11 = .ok (.aload_n 0, 1) := by decide +kernel
theorem rd_Md_readTopic_12 : decode mb_Md_readTopic 12 = .ok (.bipush 6, 2) := by decide +kernel
theorem rd_Md_readTopic_14 : decode mb_Md_readTopic 14 = .ok (.invokevirtual 180, 3) := by decide +kernel
theorem rd_Md_readTopic_17 : decode mb_Md_readTopic 17 = .ok (.ireturn, 1) := by decide +kernel
theorem rd_Md_readTopic_18 : decode mb_Md_readTopic 18 = .ok (.aload_n 0, 1) := by decide +kernel
theorem rd_Md_readTopic_19 : decode mb_Md_readTopic 19 = .ok (.invokevirtual 189, 3) := by decide +kernel
theorem rd_Md_readTopic_22 : decode mb_Md_readTopic 22 = .ok (.aload_n 0, 1) := by decide +kernel
theorem rd_Md_readTopic_23 : decode mb_Md_readTopic 23 = .ok (.invokevirtual 198, 3) := by decide +kernel
theorem rd_Md_readTopic_26 : decode mb_Md_readTopic 26 = .ok (.ifCond .ne 5, 3) := by decide +kernel
theorem rd_Md_readTopic_29 : decode mb_Md_readTopic 29 = .ok (.iconst 0, 1) := by decide +kernel
theorem rd_Md_readTopic_30 : decode mb_Md_readTopic 30 = .ok (.ireturn, 1) := by decide +kernel
theorem rd_Md_readTopic_31 : decode mb_Md_readTopic 31 = .ok (.aload_n 0, 1) := by decide +kernel
theorem rd_Md_readTopic_32 : decode mb_Md_readTopic 32 = .ok (.invokevirtual 201, 3) := by decide +kernel
theorem rd_Md_readTopic_35 : decode mb_Md_readTopic 35 = .ok (.iconst (-1), 1) := by decide +kernel
theorem rd_Md_readTopic_36 : decode mb_Md_readTopic 36 = .ok (.if_icmp .eq 9, 3) := by decide +kernel
theorem rd_Md_readTopic_39 : decode mb_Md_readTopic 39 = .ok (.aload_n 0, 1) := by decide +kernel
theorem rd_Md_readTopic_40 : decode mb_Md_readTopic 40 = .ok (.iconst 3, 1) := by decide +kernel
theorem rd_Md_readTopic_41 : decode mb_Md_readTopic 41 = .ok (.invokevirtual 180, 3) := by decide +kernel
theorem rd_Md_readTopic_44 : decode mb_Md_readTopic 44 = .ok (.ireturn, 1) := by decide +kernel
theorem rd_Md_readTopic_45 : decode mb_Md_readTopic 45 = .ok (.iconst 3, 1) := by decide +kernel
theorem rd_Md_readTopic_46 : decode mb_Md_readTopic 46 = .ok (.bipush 7, 2) := by decide +kernel
theorem rd_Md_readTopic_48 : decode mb_Md_readTopic 48 = .ok (.aload_n 0, 1) := by decide +kernel
theorem rd_Md_readTopic_49 : decode mb_Md_readTopic 49 = .ok (.getfield 7, 3) := by decide +kernel
theorem rd_Md_readTopic_52 : decode mb_Md_readTopic 52 = .ok (.iconst 0, 1) := by decide +kernel
theorem rd_Md_readTopic_53 : decode mb_Md_readTopic 53 = .ok (.iaload, 1) := by decide +kernel
theorem rd_Md_readTopic_54 : decode mb_Md_readTopic 54 = .ok (.imul, 1) := by decide +kernel
theorem rd_Md_readTopic_55 : decode mb_Md_readTopic 55 = .ok (.iadd, 1) := by decide +kernel
theorem rd_Md_readTopic_56 : decode mb_Md_readTopic 56 = .ok (.istore_n 1, 1) := by decide +kernel
theorem rd_Md_readTopic_57 : decode mb_Md_readTopic 57 = .ok (.aload_n 0, 1) := by decide +kernel
theorem rd_Md_readTopic_58 : decode mb_Md_readTopic 58 = .ok (.getfield 7, 3) := by decide +kernel
theorem rd_Md_readTopic_61 : decode mb_Md_readTopic 61 = .ok (.iload_n 1, 1) := by decide +kernel
theorem rd_Md_readTopic_62 : decode mb_Md_readTopic 62 = .ok (.iconst 0, 1) := by decide +kernel
theorem rd_Md_readTopic_63 : decode mb_Md_readTopic 63 = .ok (.iadd, 1) := by decide +kernel
theorem rd_Md_readTopic_64 : decode mb_Md_readTopic 64 = .ok (.aload_n 0, 1) := by decide +kernel
theorem rd_Md_readTopic_65 : decode mb_Md_readTopic 65 = .ok (.getfield 149, 3) := by decide +kernel
theorem rd_Md_readTopic_68 : decode mb_Md_readTopic 68 = .ok (.aload_n 0, 1) := by decide +kernel
theorem rd_Md_readTopic_69 : decode mb_Md_readTopic 69 = .ok (.getfield 152, 3) := by decide +kernel
theorem rd_Md_readTopic_72 : decode mb_Md_readTopic 72 = .ok (.isub, 1) := by decide +kernel
theorem rd_Md_readTopic_73 : decode mb_Md_readTopic 73 = .ok (.iastore, 1) := by decide +kernel
theorem rd_Md_readTopic_74 : decode mb_Md_readTopic 74 = .ok (.iconst 0, 1) := by decide +kernel
theorem rd_Md_readTopic_75 : decode mb_Md_readTopic 75 = .ok (.istore_n 2, 1) := by decide +kernel
theorem rd_Md_readTopic_76 : decode mb_Md_readTopic 76 = .ok (.iload_n 2, 1) := by decide +kernel
theorem rd_Md_readTopic_77 : decode mb_Md_readTopic 77 = .ok (.bipush 6, 2) := by decide +kernel
theorem rd_Md_readTopic_79 : decode mb_Md_readTopic 79 = .ok (.if_icmp .ge 47, 3) := by decide +kernel
theorem rd_Md_readTopic_82 : decode mb_Md_readTopic 82 = .ok (.aload_n 0, 1) := by decide +kernel
theorem rd_Md_readTopic_83 : decode mb_Md_readTopic 83 = .ok (.getfield 7, 3) := by decide +kernel
theorem rd_Md_readTopic_86 : decode mb_Md_readTopic 86 = .ok (.iload_n 1, 1) := by decide +kernel
theorem rd_Md_readTopic_87 : decode mb_Md_readTopic 87 = .ok (.iconst 1, 1) := by decide +kernel
theorem rd_Md_readTopic_88 : decode mb_Md_readTopic 88 = .ok (.iadd, 1) := by decide +kernel
theorem rd_Md_readTopic_89 : decode mb_Md_readTopic 89 = .ok (.iload_n 2, 1) := by decide +kernel
theorem rd_Md_readTopic_90 : decode mb_Md_readTopic 90 = .ok (.iadd, 1) := by decide +kernel
theorem rd_Md_readTopic_91 : decode mb_Md_readTopic 91 = .ok (.iload_n 2, 1) := by decide +kernel
theorem rd_Md_readTopic_92 : decode mb_Md_readTopic 92 = .ok (.aload_n 0, 1) := by decide +kernel
theorem rd_Md_readTopic_93 : decode mb_Md_readTopic 93 = .ok (.getfield 149, 3) := by decide +kernel
theorem rd_Md_readTopic_96 : decode mb_Md_readTopic 96 = .ok (.aload_n 0, 1) := by decide +kernel
theorem rd_Md_readTopic_97 : decode mb_Md_readTopic 97 = .ok (.getfield 152, 3) := by decide +kernel
theorem rd_Md_readTopic_100 : decode mb_Md_readTopic 100 = .ok (.isub, 1) := by decide +kernel
theorem rd_Md_readTopic_101 : decode mb_Md_readTopic 101 = .ok (.if_icmp .ge 17, 3) := by decide +kernel
theorem rd_Md_readTopic_104 : decode mb_Md_readTopic 104 = .ok (.aload_n 0, 1) := by decide +kernel
theorem rd_Md_readTopic_105 : decode mb_Md_readTopic 105 = .ok (.getfield 22, 3) := by decide +kernel
theorem rd_Md_readTopic_108 : decode mb_Md_readTopic 108 = .ok (.aload_n 0, 1) := by decide +kernel
theorem rd_Md_readTopic_109 : decode mb_Md_readTopic 109 = .ok (.getfield 152, 3) := by decide +kernel
theorem rd_Md_readTopic_112 : decode mb_Md_readTopic 112 = .ok (.iload_n 2, 1) := by decide +kernel
theorem rd_Md_readTopic_113 : decode mb_Md_readTopic 113 = .ok (.iadd, 1) := by decide +kernel
theorem rd_Md_readTopic_114 : decode mb_Md_readTopic 114 = .ok (.iaload, 1) := by decide +kernel
theorem rd_Md_readTopic_115 : decode mb_Md_readTopic 115 = .ok (.goto 4, 3) := by decide +kernel
theorem rd_Md_readTopic_118 : decode mb_Md_readTopic 118 = .ok (.iconst 0, 1) := by decide +kernel
theorem rd_Md_readTopic_119 : decode mb_Md_readTopic 119 = .ok (.iastore, 1) := by decide +kernel
theorem rd_Md_readTopic_120 : decode mb_Md_readTopic 120 = .ok (.iinc 2 1, 3) := by decide +kernel
theorem rd_Md_readTopic_123 : decode mb_Md_readTopic 123 = .ok (.goto (-47), 3) := by decide +kernel
theorem rd_Md_readTopic_126 : decode mb_Md_readTopic 126 = .ok (.aload_n 0, 1) := by decide +kernel
theorem rd_Md_readTopic_127 : decode mb_Md_readTopic 127 = .ok (.getfield 7, 3) := by decide +kernel
theorem rd_Md_readTopic_130 : decode mb_Md_readTopic 130 = .ok (.iconst 0, 1) := by decide +kernel
theorem rd_Md_readTopic_131 : decode mb_Md_readTopic 131 = .ok (.dup2, 1) := by decide +kernel
theorem rd_Md_readTopic_132 : decode mb_Md_readTopic 132 = .ok (.iaload, 1) := by decide +kernel
theorem rd_Md_readTopic_133 : decode mb_Md_readTopic 133 = .ok (.iconst 1, 1) := by decide +kernel
theorem rd_Md_readTopic_134 : decode mb_Md_readTopic 134 = .ok (.iadd, 1) := by decide +kernel
theorem rd_Md_readTopic_135 : decode mb_Md_readTopic 135 = .ok (.iastore, 1) := by decide +kernel
theorem rd_Md_readTopic_136 : decode mb_Md_readTopic 136 = .ok (.aload_n 0, 1) := by decide +kernel
theorem rd_Md_readTopic_137 : decode mb_Md_readTopic 137 = .ok (.invokevirtual 189, 3) := by decide +kernel
theorem rd_Md_readTopic_140 : decode mb_Md_readTopic 140 = .ok (.aload_n 0, 1) := by decide +kernel
theorem rd_Md_readTopic_141 : decode mb_Md_readTopic 141 = .ok (.invokevirtual 204, 3) := by decide +kernel
theorem rd_Md_readTopic_144 : decode mb_Md_readTopic 144 = .ok (.ireturn, 1) := by decide +kernel
theorem rd_Md_readCluster_0 : decode mb_Md_readCluster 0 = .ok (.aload_n 0, 1) := by decide +kernel
theorem rd_Md_readCluster_1 : decode mb_Md_readCluster 1 = .ok (.getfield 7, 3) := by decide +kernel
theorem rd_Md_readCluster_4 : decode mb_Md_readCluster 4 = .ok (.iconst 1, 1) := by decide +kernel
theorem rd_Md_readCluster_5 : decode mb_Md_readCluster 5 = .ok (.iaload, 1) := by decide +kernel
theorem rd_Md_readCluster_6 : decode mb_Md_readCluster 6 = .ok (.bipush 6, 2) := by decide +kernel
theorem rd_Md_readCluster_8 : decode mb_Md_readCluster 8 = .ok (.if_icmp .ne 10, 3) := by decide +kernel
theorem rd_Md_readCluster_11 : decode mb_Md_readCluster 11 = .ok (.aload_n 0, 1) := by decide +kernel
theorem rd_Md_readCluster_12 : decode mb_Md_readCluster 12 = .ok (.bipush 6, 2) := by decide +kernel
theorem rd_Md_readCluster_14 : decode mb_Md_readCluster 14 = .ok (.invokevirtual 180, 3) := by decide +kernel
theorem rd_Md_readCluster_17 : decode mb_Md_readCluster 17 = .ok (.ireturn, 1) := by decide +kernel
theorem rd_Md_readCluster_18 : decode mb_Md_readCluster 18 = .ok (.aload_n 0, 1) := by decide +kernel
theorem rd_Md_readCluster_19 : decode mb_Md_readCluster 19 = .ok (.invokevirtual 189, 3) := by decide +kernel
theorem rd_Md_readCluster_22 : decode mb_Md_readCluster 22 = .ok (.aload_n 0, 1) := by decide +kernel
theorem rd_Md_readCluster_23 : decode mb_Md_readCluster 23 = .ok (.getfield 7, 3) := by decide +kernel
theorem rd_Md_readCluster_26 : decode mb_Md_readCluster 26 = .ok (.iconst 1, 1) := by decide +kernel
theorem rd_Md_readCluster_27 : decode mb_Md_readCluster 27 = .ok (.dup2, 1) := by decide +kernel
theorem rd_Md_readCluster_28 : decode mb_Md_readCluster 28 = .ok (.iaload, 1) := by decide +kernel
theorem rd_Md_readCluster_29 : decode mb_Md_readCluster 29 = .ok (.iconst 1, 1) := by decide +kernel
theorem rd_Md_readCluster_30 : decode mb_Md_readCluster 30 = .ok (.iadd, 1) := by decide +kernel
theorem rd_Md_readCluster_31 : decode mb_Md_readCluster 31 = .ok (.iastore, 1) := by decide +kernel
theorem rd_Md_readCluster_32 : decode mb_Md_readCluster 32 = .ok (.aload_n 0, 1) := by decide +kernel
theorem rd_Md_readCluster_33 : decode mb_Md_readCluster 33 = .ok (.invokevirtual 204, 3) := by decide +kernel
theorem rd_Md_readCluster_36 : decode mb_Md_readCluster 36 = .ok (.ireturn, 1) := by decide +kernel
theorem rd_Md_takesCord_0 : decode mb_Md_takesCord 0 = .ok (.aload_n 0, 1) := by decide +kernel
theorem rd_Md_takesCord_1 : decode mb_Md_takesCord 1 = .ok (.iconst 1, 1) := by decide +kernel
theorem rd_Md_takesCord_2 : decode mb_Md_takesCord 2 = .ok (.invokevirtual 207, 3) := by decide +kernel
theorem rd_Md_takesCord_5 : decode mb_Md_takesCord 5 = .ok (.ifCond .eq 15, 3) := by decide +kernel
theorem rd_Md_takesCord_8 : decode mb_Md_takesCord 8 = .ok (.aload_n 0, 1) := by decide +kernel
theorem rd_Md_takesCord_9 : decode mb_Md_takesCord 9 = .ok (.iconst 2, 1) := by decide +kernel
theorem rd_Md_takesCord_10 : decode mb_Md_takesCord 10 = .ok (.iconst 0, 1) := by decide +kernel
theorem rd_Md_takesCord_11 : decode mb_Md_takesCord 11 = .ok (.sipush 9999, 3) := by decide +kernel
theorem rd_Md_takesCord_14 : decode mb_Md_takesCord 14 = .ok (.invokevirtual 210, 3) := by decide +kernel
theorem rd_Md_takesCord_17 : decode mb_Md_takesCord 17 = .ok (.ifCond .ne 5, 3) := by decide +kernel
theorem rd_Md_takesCord_20 : decode mb_Md_takesCord 20 = .ok (.iconst 0, 1) := by decide +kernel
theorem rd_Md_takesCord_21 : decode mb_Md_takesCord 21 = .ok (.ireturn, 1) := by decide +kernel
theorem rd_Md_takesCord_22 : decode mb_Md_takesCord 22 = .ok (.aload_n 0, 1) := by decide +kernel
theorem rd_Md_takesCord_23 : decode mb_Md_takesCord 23 = .ok (.iload_n 1, 1) := by decide +kernel
theorem rd_Md_takesCord_24 : decode mb_Md_takesCord 24 = .ok (.aload_n 0, 1) := by decide +kernel
theorem rd_Md_takesCord_25 : decode mb_Md_takesCord 25 = .ok (.getfield 7, 3) := by decide +kernel
theorem rd_Md_takesCord_28 : decode mb_Md_takesCord 28 = .ok (.iconst 1, 1) := by decide +kernel
theorem rd_Md_takesCord_29 : decode mb_Md_takesCord 29 = .ok (.iaload, 1) := by decide +kernel
theorem rd_Md_takesCord_30 : decode mb_Md_takesCord 30 = .ok (.iconst 1, 1) := by decide +kernel
theorem rd_Md_takesCord_31 : decode mb_Md_takesCord 31 = .ok (.isub, 1) := by decide +kernel
theorem rd_Md_takesCord_32 : decode mb_Md_takesCord 32 = .ok (.iload_n 2, 1) := by decide +kernel
theorem rd_Md_takesCord_33 : decode mb_Md_takesCord 33 = .ok (.aload_n 0, 1) := by decide +kernel
theorem rd_Md_takesCord_34 : decode mb_Md_takesCord 34 = .ok (.getfield 29, 3) := by decide +kernel
theorem rd_Md_takesCord_37 : decode mb_Md_takesCord 37 = .ok (.iconst 1, 1) := by decide +kernel
theorem rd_Md_takesCord_38 : decode mb_Md_takesCord 38 = .ok (.iaload, 1) := by decide +kernel
theorem rd_Md_takesCord_39 : decode mb_Md_takesCord 39 = .ok (.aload_n 0, 1) := by decide +kernel
theorem rd_Md_takesCord_40 : decode mb_Md_takesCord 40 = .ok (.getfield 29, 3) := by decide +kernel
theorem rd_Md_takesCord_43 : decode mb_Md_takesCord 43 = .ok (.iconst 2, 1) := by decide +kernel
theorem rd_Md_takesCord_44 : decode mb_Md_takesCord 44 = .ok (.iaload, 1) := by decide +kernel
theorem rd_Md_takesCord_45 : decode mb_Md_takesCord 45 = .ok (.invokevirtual 48, 3) := by decide +kernel
theorem rd_Md_takesCord_48 : decode mb_Md_takesCord 48 = .ok (.istore_n 3, 1) := by decide +kernel
theorem rd_Md_takesCord_49 : decode mb_Md_takesCord 49 = .ok (.aload_n 0, 1) := by decide +kernel
theorem rd_Md_takesCord_50 : decode mb_Md_takesCord 50 = .ok (.ldc 213, 2) := by decide +kernel
theorem rd_Md_takesCord_52 : decode mb_Md_takesCord 52 = .ok (.invokevirtual 215, 3) := by decide +kernel
theorem rd_Md_takesCord_55 : decode mb_Md_takesCord 55 = .ok (.ifCond .eq 32, 3) := by decide +kernel
theorem rd_Md_takesCord_58 : decode mb_Md_takesCord 58 = .ok (.aload_n 0, 1) := by decide +kernel
theorem rd_Md_takesCord_59 : decode mb_Md_takesCord 59 = .ok (.invokevirtual 189, 3) := by decide +kernel
theorem rd_Md_takesCord_62 : decode mb_Md_takesCord 62 = .ok (.aload_n 0, 1) := by decide +kernel
theorem rd_Md_takesCord_63 : decode mb_Md_takesCord 63 = .ok (.iconst 0, 1) := by decide +kernel
theorem rd_Md_takesCord_64 : decode mb_Md_takesCord 64 = .ok (.iconst 1, 1) := by decide +kernel
theorem rd_Md_takesCord_65 : decode mb_Md_takesCord 65 = .ok (.iconst 4, 1) := by decide +kernel
theorem rd_Md_takesCord_66 : decode mb_Md_takesCord 66 = .ok (.invokevirtual 210, 3) := by decide +kernel
theorem rd_Md_takesCord_69 : decode mb_Md_takesCord 69 = .ok (.ifCond .ne 5, 3) := by decide +kernel
theorem rd_Md_takesCord_72 : decode mb_Md_takesCord 72 = .ok (.iconst 0, 1) := by decide +kernel
theorem rd_Md_takesCord_73 : decode mb_Md_takesCord 73 = .ok (.ireturn, 1) := by decide +kernel
theorem rd_Md_takesCord_74 : decode mb_Md_takesCord 74 = .ok (.aload_n 0, 1) := by decide +kernel
theorem rd_Md_takesCord_75 : decode mb_Md_takesCord 75 = .ok (.iload_n 3, 1) := by decide +kernel
theorem rd_Md_takesCord_76 : decode mb_Md_takesCord 76 = .ok (.aload_n 0, 1) := by decide +kernel
theorem rd_Md_takesCord_77 : decode mb_Md_takesCord 77 = .ok (.getfield 29, 3) := by decide +kernel
theorem rd_Md_takesCord_80 : decode mb_Md_takesCord 80 = .ok (.iconst 0, 1) := by decide +kernel
theorem rd_Md_takesCord_81 : decode mb_Md_takesCord 81 = .ok (.iaload, 1) := by decide +kernel
theorem rd_Md_takesCord_82 : decode mb_Md_takesCord 82 = .ok (.invokevirtual 52, 3) := by decide +kernel
theorem rd_Md_takesCord_85 : decode mb_Md_takesCord 85 = .ok (.istore 4, 2) := by decide +kernel
theorem rd_Md_takesCord_87 : decode mb_Md_takesCord 87 = .ok (.aload_n 0, 1) := by decide +kernel
theorem rd_Md_takesCord_88 : decode mb_Md_takesCord 88 = .ok (.invokevirtual 204, 3) := by decide +kernel
theorem rd_Md_takesCord_91 : decode mb_Md_takesCord 91 = .ok (.ireturn, 1) := by decide +kernel
theorem rd_Md_latest_0 : decode mb_Md_latest 0 = .ok (.iconst (-1), 1) := by decide +kernel
theorem rd_Md_latest_1 : decode mb_Md_latest 1 = .ok (.istore_n 2, 1) := by decide +kernel
theorem rd_Md_latest_2 : decode mb_Md_latest 2 = .ok (.aload_n 0, 1) := by decide +kernel
theorem rd_Md_latest_3 : decode mb_Md_latest 3 = .ok (.aload_n 0, 1) := by decide +kernel
theorem rd_Md_latest_4 : decode mb_Md_latest 4 = .ok (.getfield 7, 3) := by decide +kernel
theorem rd_Md_latest_7 : decode mb_Md_latest 7 = .ok (.iconst 1, 1) := by decide +kernel
theorem rd_Md_latest_8 : decode mb_Md_latest 8 = .ok (.iaload, 1) := by decide +kernel
theorem rd_Md_latest_9 : decode mb_Md_latest 9 = .ok (.iconst 1, 1) := by decide +kernel
theorem rd_Md_latest_10 : decode mb_Md_latest 10 = .ok (.isub, 1) := by decide +kernel
theorem rd_Md_latest_11 : decode mb_Md_latest 11 = .ok (.invokevirtual 91, 3) := by decide +kernel
theorem rd_Md_latest_14 : decode mb_Md_latest 14 = .ok (.istore_n 3, 1) := by decide +kernel
theorem rd_Md_latest_15 : decode mb_Md_latest 15 = .ok (.iload_n 3, 1) := by decide +kernel
theorem rd_Md_latest_16 : decode mb_Md_latest 16 = .ok (.aload_n 0, 1) := by decide +kernel
theorem rd_Md_latest_17 : decode mb_Md_latest 17 = .ok (.getfield 7, 3) := by decide +kernel
theorem rd_Md_latest_20 : decode mb_Md_latest 20 = .ok (.iconst 2, 1) := by decide +kernel
theorem rd_Md_latest_21 : decode mb_Md_latest 21 = .ok (.iaload, 1) := by decide +kernel
theorem rd_Md_latest_22 : decode mb_Md_latest 22 = .ok (.if_icmp .ge 21, 3) := by decide +kernel
theorem rd_Md_latest_25 : decode mb_Md_latest 25 = .ok (.aload_n 0, 1) := by decide +kernel
theorem rd_Md_latest_26 : decode mb_Md_latest 26 = .ok (.iload_n 3, 1) := by decide +kernel
theorem rd_Md_latest_27 : decode mb_Md_latest 27 = .ok (.iconst 1, 1) := by decide +kernel
theorem rd_Md_latest_28 : decode mb_Md_latest 28 = .ok (.invokevirtual 63, 3) := by decide +kernel
theorem rd_Md_latest_31 : decode mb_Md_latest 31 = .ok (.iload_n 1, 1) := by decide +kernel
theorem rd_Md_latest_32 : decode mb_Md_latest 32 = .ok (.if_icmp .ne 5, 3) := by decide +kernel
theorem rd_Md_latest_35 : decode mb_Md_latest 35 = .ok (.iload_n 3, 1) := by decide +kernel
theorem rd_Md_latest_36 : decode mb_Md_latest 36 = .ok (.istore_n 2, 1) := by decide +kernel
theorem rd_Md_latest_37 : decode mb_Md_latest 37 = .ok (.iinc 3 1, 3) := by decide +kernel
theorem rd_Md_latest_40 : decode mb_Md_latest 40 = .ok (.goto (-25), 3) := by decide +kernel
theorem rd_Md_latest_43 : decode mb_Md_latest 43 = .ok (.iload_n 2, 1) := by decide +kernel
theorem rd_Md_latest_44 : decode mb_Md_latest 44 = .ok (.ireturn, 1) := by decide +kernel
theorem rd_Md_readSub_0 : decode mb_Md_readSub 0 = .ok (.aload_n 0, 1) := by decide +kernel
theorem rd_Md_readSub_1 : decode mb_Md_readSub 1 = .ok (.invokevirtual 189, 3) := by decide +kernel
theorem rd_Md_readSub_4 : decode mb_Md_readSub 4 = .ok (.aload_n 0, 1) := by decide +kernel
theorem rd_Md_readSub_5 : decode mb_Md_readSub 5 = .ok (.iconst 2, 1) := by decide +kernel
theorem rd_Md_readSub_6 : decode mb_Md_readSub 6 = .ok (.iconst 3, 1) := by decide +kernel
theorem rd_Md_readSub_7 : decode mb_Md_readSub 7 = .ok (.invokevirtual 186, 3) := by decide +kernel
theorem rd_Md_readSub_10 : decode mb_Md_readSub 10 = .ok (.ifCond .ne 5, 3) := by decide +kernel
theorem rd_Md_readSub_13 : decode mb_Md_readSub 13 = .ok (.iconst 0, 1) := by decide +kernel
theorem rd_Md_readSub_14 : decode mb_Md_readSub 14 = .ok (.ireturn, 1) := by decide +kernel
theorem rd_Md_readSub_15 : decode mb_Md_readSub 15 = .ok (.aload_n 0, 1) := by decide +kernel
theorem rd_Md_readSub_16 : decode mb_Md_readSub 16 = .ok (.getfield 183, 3) := by decide +kernel
theorem rd_Md_readSub_19 : decode mb_Md_readSub 19 = .ok (.istore_n 1, 1) := by decide +kernel
theorem rd_Md_readSub_20 : decode mb_Md_readSub 20 = .ok (.aload_n 0, 1) := by decide +kernel
theorem rd_Md_readSub_21 : decode mb_Md_readSub 21 = .ok (.iload_n 1, 1) := by decide +kernel
theorem rd_Md_readSub_22 : decode mb_Md_readSub 22 = .ok (.iconst 1, 1) := by decide +kernel
theorem rd_Md_readSub_23 : decode mb_Md_readSub 23 = .ok (.isub, 1) := by decide +kernel
theorem rd_Md_readSub_24 : decode mb_Md_readSub 24 = .ok (.invokevirtual 219, 3) := by decide +kernel
theorem rd_Md_readSub_27 : decode mb_Md_readSub 27 = .ok (.istore_n 2, 1) := by decide +kernel
theorem rd_Md_readSub_28 : decode mb_Md_readSub 28 = .ok (.iload_n 2, 1) := by decide +kernel
theorem rd_Md_readSub_29 : decode mb_Md_readSub 29 = .ok (.iconst (-1), 1) := by decide +kernel
theorem rd_Md_readSub_30 : decode mb_Md_readSub 30 = .ok (.if_icmp .ne 9, 3) := by decide +kernel
theorem rd_Md_readSub_33 : decode mb_Md_readSub 33 = .ok (.aload_n 0, 1) := by decide +kernel
theorem rd_Md_readSub_34 : decode mb_Md_readSub 34 = .ok (.iconst 5, 1) := by decide +kernel
theorem rd_Md_readSub_35 : decode mb_Md_readSub 35 = .ok (.invokevirtual 180, 3) := by decide +kernel
theorem rd_Md_readSub_38 : decode mb_Md_readSub 38 = .ok (.ireturn, 1) := by decide +kernel
theorem rd_Md_readSub_39 : decode mb_Md_readSub 39 = .ok (.aload_n 0, 1) := by decide +kernel
theorem rd_Md_readSub_40 : decode mb_Md_readSub 40 = .ok (.invokevirtual 189, 3) := by decide +kernel
theorem rd_Md_readSub_43 : decode mb_Md_readSub 43 = .ok (.aload_n 0, 1) := by decide +kernel
theorem rd_Md_readSub_44 : decode mb_Md_readSub 44 = .ok (.aload_n 0, 1) := by decide +kernel
theorem rd_Md_readSub_45 : decode mb_Md_readSub 45 = .ok (.iload_n 2, 1) := by decide +kernel
theorem rd_Md_readSub_46 : decode mb_Md_readSub 46 = .ok (.invokevirtual 76, 3) := by decide +kernel
theorem rd_Md_readSub_49 : decode mb_Md_readSub 49 = .ok (.iload_n 1, 1) := by decide +kernel
theorem rd_Md_readSub_50 : decode mb_Md_readSub 50 = .ok (.invokevirtual 222, 3) := by decide +kernel
theorem rd_Md_readSub_53 : decode mb_Md_readSub 53 = .ok (.ireturn, 1) := by decide +kernel
theorem rd_Md_readCord_0 : decode mb_Md_readCord 0 = .ok (.aload_n 0, 1) := by decide +kernel
theorem rd_Md_readCord_1 : decode mb_Md_readCord 1 = .ok (.ldc 225, 2) := by decide +kernel
theorem rd_Md_readCord_3 : decode mb_Md_readCord 3 = .ok (.invokevirtual 215, 3) := by decide +kernel
theorem rd_Md_readCord_6 : decode mb_Md_readCord 6 = .ok (.istore_n 1, 1) := by decide +kernel
theorem rd_Md_readCord_7 : decode mb_Md_readCord 7 = .ok (.aload_n 0, 1) := by decide +kernel
theorem rd_Md_readCord_8 : decode mb_Md_readCord 8 = .ok (.getfield 7, 3) := by decide +kernel
theorem rd_Md_readCord_11 : decode mb_Md_readCord 11 = .ok (.iconst 1, 1) := by decide +kernel
theorem rd_Md_readCord_12 : decode mb_Md_readCord 12 = .ok (.iaload, 1) := by decide +kernel
theorem rd_Md_readCord_13 : decode mb_Md_readCord 13 = .ok (.ifCond .eq 22, 3) := by decide +kernel
theorem rd_Md_readCord_16 : decode mb_Md_readCord 16 = .ok (.iload_n 1, 1) := by decide +kernel
theorem rd_Md_readCord_17 : decode mb_Md_readCord 17 = .ok (.ifCond .eq 24, 3) := by decide +kernel
theorem rd_Md_readCord_20 : decode mb_Md_readCord 20 = .ok (.aload_n 0, 1) := by decide +kernel
theorem rd_Md_readCord_21 : decode mb_Md_readCord 21 = .ok (.aload_n 0, 1) := by decide +kernel
theorem rd_Md_readCord_22 : decode mb_Md_readCord 22 = .ok (.getfield 7, 3) := by decide +kernel
theorem rd_Md_readCord_25 : decode mb_Md_readCord 25 = .ok (.iconst 1, 1) := by decide +kernel
theorem rd_Md_readCord_26 : decode mb_Md_readCord 26 = .ok (.iaload, 1) := by decide +kernel
theorem rd_Md_readCord_27 : decode mb_Md_readCord 27 = .ok (.iconst 1, 1) := by decide +kernel
theorem rd_Md_readCord_28 : decode mb_Md_readCord 28 = .ok (.isub, 1) := by decide +kernel
theorem rd_Md_readCord_29 : decode mb_Md_readCord 29 = .ok (.invokevirtual 97, 3) := by decide +kernel
theorem rd_Md_readCord_32 : decode mb_Md_readCord 32 = .ok (.ifCond .eq 9, 3) := by decide +kernel
theorem rd_Md_readCord_35 : decode mb_Md_readCord 35 = .ok (.aload_n 0, 1) := by decide +kernel
theorem rd_Md_readCord_36 : decode mb_Md_readCord 36 = .ok (.iconst 5, 1) := by decide +kernel
theorem rd_Md_readCord_37 : decode mb_Md_readCord 37 = .ok (.invokevirtual 180, 3) := by decide +kernel
theorem rd_Md_readCord_40 : decode mb_Md_readCord 40 = .ok (.ireturn, 1) := by decide +kernel
theorem rd_Md_readCord_41 : decode mb_Md_readCord 41 = .ok (.aload_n 0, 1) := by decide +kernel
theorem rd_Md_readCord_42 : decode mb_Md_readCord 42 = .ok (.invokevirtual 122, 3) := by decide +kernel
theorem rd_Md_readCord_45 : decode mb_Md_readCord 45 = .ok (.ifCond .ne 10, 3) := by decide +kernel
theorem rd_Md_readCord_48 : decode mb_Md_readCord 48 = .ok (.aload_n 0, 1) := by decide +kernel
theorem rd_Md_readCord_49 : decode mb_Md_readCord 49 = .ok (.bipush 6, 2) := by decide +kernel
theorem rd_Md_readCord_51 : decode mb_Md_readCord 51 = .ok (.invokevirtual 180, 3) := by decide +kernel
theorem rd_Md_readCord_54 : decode mb_Md_readCord 54 = .ok (.ireturn, 1) := by decide +kernel
theorem rd_Md_readCord_55 : decode mb_Md_readCord 55 = .ok (.aload_n 0, 1) := by decide +kernel
theorem rd_Md_readCord_56 : decode mb_Md_readCord 56 = .ok (.ldc 227, 2) := by decide +kernel
theorem rd_Md_readCord_58 : decode mb_Md_readCord 58 = .ok (.invokevirtual 215, 3) := by decide +kernel
theorem rd_Md_readCord_61 : decode mb_Md_readCord 61 = .ok (.ifCond .eq 8, 3) := by decide +kernel
theorem rd_Md_readCord_64 : decode mb_Md_readCord 64 = .ok (.aload_n 0, 1) := by decide +kernel
theorem rd_Md_readCord_65 : decode mb_Md_readCord 65 = .ok (.invokevirtual 229, 3) := by decide +kernel
theorem rd_Md_readCord_68 : decode mb_Md_readCord 68 = .ok (.ireturn, 1) := by decide +kernel
theorem rd_Md_readCord_69 : decode mb_Md_readCord 69 = .ok (.aload_n 0, 1) := by decide +kernel
theorem rd_Md_readCord_70 : decode mb_Md_readCord 70 = .ok (.invokevirtual 189, 3) := by decide +kernel
theorem rd_Md_readCord_73 : decode mb_Md_readCord 73 = .ok (.iload_n 1, 1) := by decide +kernel
theorem rd_Md_readCord_74 : decode mb_Md_readCord 74 = .ok (.ifCond .eq 23, 3) := by decide +kernel
theorem rd_Md_readCord_77 : decode mb_Md_readCord 77 = .ok (.aload_n 0, 1) := by decide +kernel
theorem rd_Md_readCord_78 : decode mb_Md_readCord 78 = .ok (.aload_n 0, 1) := by decide +kernel
theorem rd_Md_readCord_79 : decode mb_Md_readCord 79 = .ok (.aload_n 0, 1) := by decide +kernel
theorem rd_Md_readCord_80 : decode mb_Md_readCord 80 = .ok (.getfield 7, 3) := by decide +kernel
theorem rd_Md_readCord_83 : decode mb_Md_readCord 83 = .ok (.iconst 1, 1) := by decide +kernel
theorem rd_Md_readCord_84 : decode mb_Md_readCord 84 = .ok (.iaload, 1) := by decide +kernel
theorem rd_Md_readCord_85 : decode mb_Md_readCord 85 = .ok (.iconst 1, 1) := by decide +kernel
theorem rd_Md_readCord_86 : decode mb_Md_readCord 86 = .ok (.isub, 1) := by decide +kernel
theorem rd_Md_readCord_87 : decode mb_Md_readCord 87 = .ok (.invokevirtual 91, 3) := by decide +kernel
theorem rd_Md_readCord_90 : decode mb_Md_readCord 90 = .ok (.iconst 0, 1) := by decide +kernel
theorem rd_Md_readCord_91 : decode mb_Md_readCord 91 = .ok (.invokevirtual 222, 3) := by decide +kernel
theorem rd_Md_readCord_94 : decode mb_Md_readCord 94 = .ok (.goto 14, 3) := by decide +kernel
theorem rd_Md_readCord_97 : decode mb_Md_readCord 97 = .ok (.aload_n 0, 1) := by decide +kernel
theorem rd_Md_readCord_98 : decode mb_Md_readCord 98 = .ok (.aload_n 0, 1) := by decide +kernel
theorem rd_Md_readCord_99 : decode mb_Md_readCord 99 = .ok (.getfield 7, 3) := by decide +kernel
theorem rd_Md_readCord_102 : decode mb_Md_readCord 102 = .ok (.iconst 2, 1) := by decide +kernel
theorem rd_Md_readCord_103 : decode mb_Md_readCord 103 = .ok (.iaload, 1) := by decide +kernel
theorem rd_Md_readCord_104 : decode mb_Md_readCord 104 = .ok (.iconst 1, 1) := by decide +kernel
theorem rd_Md_readCord_105 : decode mb_Md_readCord 105 = .ok (.invokevirtual 222, 3) := by decide +kernel
theorem rd_Md_readCord_108 : decode mb_Md_readCord 108 = .ok (.ireturn, 1) := by decide +kernel
theorem rd_Md_readSetupStatement_0 : decode mb_Md_readSetupStatement 0 = .ok (.aload_n 0, 1) := by decide +kernel
theorem rd_Md_readSetupStatement_1 : decode mb_Md_readSetupStatement 1 = .ok (.ldc 232, 2) := by decide +kernel
theorem rd_Md_readSetupStatement_3 : decode mb_Md_readSetupStatement 3 = .ok (.invokevirtual 215, 3) := by decide +kernel
theorem rd_Md_readSetupStatement_6 : decode mb_Md_readSetupStatement 6 = .ok (.ifCond .eq 8, 3) := by decide +kernel
theorem rd_Md_readSetupStatement_9 : decode mb_Md_readSetupStatement 9 = .ok (.aload_n 0, 1) := by decide +kernel
theorem rd_Md_readSetupStatement_10 : decode mb_Md_readSetupStatement 10 = .ok (.invokevirtual 234, 3) := by decide +kernel
theorem rd_Md_readSetupStatement_13 : decode mb_Md_readSetupStatement 13 = .ok (.ireturn, 1) := by decide +kernel
theorem rd_Md_readSetupStatement_14 : decode mb_Md_readSetupStatement 14 = .ok (.aload_n 0, 1) := by decide +kernel
theorem rd_Md_readSetupStatement_15 : decode mb_Md_readSetupStatement 15 = .ok (.ldc 237, 2) := by decide +kernel
theorem rd_Md_readSetupStatement_17 : decode mb_Md_readSetupStatement 17 = .ok (.invokevirtual 215, 3) := by decide +kernel
theorem rd_Md_readSetupStatement_20 : decode mb_Md_readSetupStatement 20 = .ok (.ifCond .eq 8, 3) := by decide +kernel
theorem rd_Md_readSetupStatement_23 : decode mb_Md_readSetupStatement 23 = .ok (.aload_n 0, 1) := by decide +kernel
theorem rd_Md_readSetupStatement_24 : decode mb_Md_readSetupStatement 24 = .ok (.invokevirtual 239, 3) := by decide +kernel
theorem rd_Md_readSetupStatement_27 : decode mb_Md_readSetupStatement 27 = .ok (.ireturn, 1) := by decide +kernel
theorem rd_Md_readSetupStatement_28 : decode mb_Md_readSetupStatement 28 = .ok (.aload_n 0, 1) := by decide +kernel
theorem rd_Md_readSetupStatement_29 : decode mb_Md_readSetupStatement 29 = .ok (.ldc 225, 2) := by decide +kernel
theorem rd_Md_readSetupStatement_31 : decode mb_Md_readSetupStatement 31 = .ok (.invokevirtual 215, 3) := by decide +kernel
theorem rd_Md_readSetupStatement_34 : decode mb_Md_readSetupStatement 34 = .ok (.ifCond .ne 21, 3) := by decide +kernel
theorem rd_Md_readSetupStatement_37 : decode mb_Md_readSetupStatement 37 = .ok (.aload_n 0, 1) := by decide +kernel
theorem rd_Md_readSetupStatement_38 : decode mb_Md_readSetupStatement 38 = .ok (.ldc 242, 2) := by decide +kernel
theorem rd_Md_readSetupStatement_40 : decode mb_Md_readSetupStatement 40 = .ok (.invokevirtual 215, 3) := by decide +kernel
theorem rd_Md_readSetupStatement_43 : decode mb_Md_readSetupStatement 43 = .ok (.ifCond .ne 12, 3) := by decide +kernel
theorem rd_Md_readSetupStatement_46 : decode mb_Md_readSetupStatement 46 = .ok (.aload_n 0, 1) := by decide +kernel
theorem rd_Md_readSetupStatement_47 : decode mb_Md_readSetupStatement 47 = .ok (.ldc 227, 2) := by decide +kernel
theorem rd_Md_readSetupStatement_49 : decode mb_Md_readSetupStatement 49 = .ok (.invokevirtual 215, 3) := by decide +kernel
theorem rd_Md_readSetupStatement_52 : decode mb_Md_readSetupStatement 52 = .ok (.ifCond .eq 10, 3) := by decide +kernel
theorem rd_Md_readSetupStatement_55 : decode mb_Md_readSetupStatement 55 = .ok (.aload_n 0, 1) := by decide +kernel
theorem rd_Md_readSetupStatement_56 : decode mb_Md_readSetupStatement 56 = .ok (.invokevirtual 244, 3) := by decide +kernel
theorem rd_Md_readSetupStatement_59 : decode mb_Md_readSetupStatement 59 = .ok (.goto 8, 3) := by decide +kernel
theorem rd_Md_readSetupStatement_62 : decode mb_Md_readSetupStatement 62 = .ok (.aload_n 0, 1) := by decide +kernel
theorem rd_Md_readSetupStatement_63 : decode mb_Md_readSetupStatement 63 = .ok (.iconst 1, 1) := by decide +kernel
theorem rd_Md_readSetupStatement_64 : decode mb_Md_readSetupStatement 64 = .ok (.invokevirtual 180, 3) := by decide +kernel
theorem rd_Md_readSetupStatement_67 : decode mb_Md_readSetupStatement 67 = .ok (.ireturn, 1) := by decide +kernel
theorem rd_Md_readText_0 : decode mb_Md_readText 0 = .ok (.aload_n 0, 1) := by decide +kernel
theorem rd_Md_readText_1 : decode mb_Md_readText 1 = .ok (.invokevirtual 41, 3) := by decide +kernel
theorem rd_Md_readText_4 : decode mb_Md_readText 4 = .ok (.aload_n 0, 1) := by decide +kernel
theorem rd_Md_readText_5 : decode mb_Md_readText 5 = .ok (.getfield 158, 3) := by decide +kernel
theorem rd_Md_readText_8 : decode mb_Md_readText 8 = .ok (.ifCond .eq 12, 3) := by decide +kernel
theorem rd_Md_readText_11 : decode mb_Md_readText 11 = .ok (.aload_n 0, 1) := by decide +kernel
theorem rd_Md_readText_12 : decode mb_Md_readText 12 = .ok (.invokevirtual 247, 3) := by decide +kernel
theorem rd_Md_readText_15 : decode mb_Md_readText 15 = .ok (.ifCond .ne (-11), 3) := by decide +kernel
theorem rd_Md_readText_18 : decode mb_Md_readText 18 = .ok (.iconst 0, 1) := by decide +kernel
theorem rd_Md_readText_19 : decode mb_Md_readText 19 = .ok (.ireturn, 1) := by decide +kernel
theorem rd_Md_readText_20 : decode mb_Md_readText 20 = .ok (.aload_n 0, 1) := by decide +kernel
theorem rd_Md_readText_21 : decode mb_Md_readText 21 = .ok (.getfield 7, 3) := by decide +kernel
theorem rd_Md_readText_24 : decode mb_Md_readText 24 = .ok (.iconst 0, 1) := by decide +kernel
theorem rd_Md_readText_25 : decode mb_Md_readText 25 = .ok (.iaload, 1) := by decide +kernel
theorem rd_Md_readText_26 : decode mb_Md_readText 26 = .ok (.ifCond .gt 12, 3) := by decide +kernel
theorem rd_Md_readText_29 : decode mb_Md_readText 29 = .ok (.aload_n 0, 1) := by decide +kernel
theorem rd_Md_readText_30 : decode mb_Md_readText 30 = .ok (.bipush 7, 2) := by decide +kernel
theorem rd_Md_readText_32 : decode mb_Md_readText 32 = .ok (.invokevirtual 180, 3) := by decide +kernel
theorem rd_Md_readText_35 : decode mb_Md_readText 35 = .ok (.ifCond .eq 7, 3) := by decide +kernel
theorem rd_Md_readText_38 : decode mb_Md_readText 38 = .ok (.iconst 1, 1) := by decide +kernel
theorem rd_Md_readText_39 : decode mb_Md_readText 39 = .ok (.goto 4, 3) := by decide +kernel
theorem rd_Md_readText_42 : decode mb_Md_readText 42 = .ok (.iconst 0, 1) := by decide +kernel
theorem rd_Md_readText_43 : decode mb_Md_readText 43 = .ok (.ireturn, 1) := by decide +kernel
theorem rd_Md_startsText_0 : decode mb_Md_startsText 0 = .ok (.aload_n 0, 1) := by decide +kernel
theorem rd_Md_startsText_1 : decode mb_Md_startsText 1 = .ok (.iconst 0, 1) := by decide +kernel
theorem rd_Md_startsText_2 : decode mb_Md_startsText 2 = .ok (.putfield 164, 3) := by decide +kernel
theorem rd_Md_startsText_5 : decode mb_Md_startsText 5 = .ok (.aload_n 0, 1) := by decide +kernel
theorem rd_Md_startsText_6 : decode mb_Md_startsText 6 = .ok (.iconst (-1), 1) := by decide +kernel
theorem rd_Md_startsText_7 : decode mb_Md_startsText 7 = .ok (.putfield 167, 3) := by decide +kernel
theorem rd_Md_startsText_10 : decode mb_Md_startsText 10 = .ok (.aload_n 0, 1) := by decide +kernel
theorem rd_Md_startsText_11 : decode mb_Md_startsText 11 = .ok (.iconst 0, 1) := by decide +kernel
theorem rd_Md_startsText_12 : decode mb_Md_startsText 12 = .ok (.putfield 250, 3) := by decide +kernel
theorem rd_Md_startsText_15 : decode mb_Md_startsText 15 = .ok (.aload_n 0, 1) := by decide +kernel
theorem rd_Md_startsText_16 : decode mb_Md_startsText 16 = .ok (.iconst 0, 1) := by decide +kernel
theorem rd_Md_startsText_17 : decode mb_Md_startsText 17 = .ok (.putfield 149, 3) := by decide +kernel
theorem rd_Md_startsText_20 : decode mb_Md_startsText 20 = .ok (.aload_n 0, 1) := by decide +kernel
theorem rd_Md_startsText_21 : decode mb_Md_startsText 21 = .ok (.invokevirtual 189, 3) := by decide +kernel
theorem rd_Md_startsText_24 : decode mb_Md_startsText 24 = .ok (.return_, 1) := by decide +kernel
theorem rd_Md_endsText_0 : decode mb_Md_endsText 0 = .ok (.aload_n 0, 1) := by decide +kernel
theorem rd_Md_endsText_1 : decode mb_Md_endsText 1 = .ok (.iconst 0, 1) := by decide +kernel
theorem rd_Md_endsText_2 : decode mb_Md_endsText 2 = .ok (.putfield 139, 3) := by decide +kernel
theorem rd_Md_endsText_5 : decode mb_Md_endsText 5 = .ok (.aload_n 0, 1) := by decide +kernel
theorem rd_Md_endsText_6 : decode mb_Md_endsText 6 = .ok (.aload_n 0, 1) := by decide +kernel
theorem rd_Md_endsText_7 : decode mb_Md_endsText 7 = .ok (.getfield 164, 3) := by decide +kernel
theorem rd_Md_endsText_10 : decode mb_Md_endsText 10 = .ok (.putfield 253, 3) := by decide +kernel
theorem rd_Md_endsText_13 : decode mb_Md_endsText 13 = .ok (.aload_n 0, 1) := by decide +kernel
theorem rd_Md_endsText_14 : decode mb_Md_endsText 14 = .ok (.aload_n 0, 1) := by decide +kernel
theorem rd_Md_endsText_15 : decode mb_Md_endsText 15 = .ok (.getfield 167, 3) := by decide +kernel
theorem rd_Md_endsText_18 : decode mb_Md_endsText 18 = .ok (.putfield 25, 3) := by decide +kernel
theorem rd_Md_endsText_21 : decode mb_Md_endsText 21 = .ok (.return_, 1) := by decide +kernel
def wd_Md_readTopic (cI : ClassId) (a_t a_t_w a_t_wKept a_t_saved a_t_past a_t_input a_t_n a_t_order a_t_numbers a_t_output : Nat) (i_t_pastMany : Int) (i_t_isSaved : Int) (i_t_thrown : Int) (i_t_inputMany : Int) (i_t_lastError : Int) (i_t_lastOffset : Int) (i_t_error : Int) (i_t_offset : Int) (i_t_nextByte : Int) (i_t_begin : Int) (i_t_value : Int) (i_t_token : Int) (i_t_got : Int) (i_t_orders : Int) (i_t_outputMany : Int) (i_t_w : (Int → Int)) (i_t_input : (Int → Int)) : va_W := [(a_t, .inr (11, [.ref a_t_w, .ref a_t_wKept, .ref a_t_saved, .ref a_t_past, jk_V i_t_pastMany, jk_V i_t_isSaved, jk_V i_t_thrown, .ref a_t_input, jk_V i_t_inputMany, jk_V i_t_lastError, jk_V i_t_lastOffset, jk_V i_t_error, jk_V i_t_offset, jk_V i_t_nextByte, jk_V i_t_begin, jk_V i_t_value, jk_V i_t_token, jk_V i_t_got, .ref a_t_n, .ref a_t_order, .ref a_t_numbers, jk_V i_t_orders, .ref a_t_output, jk_V i_t_outputMany])), (a_t_w, jk_W cI 259 i_t_w), (a_t_input, jk_W cI 700 i_t_input)]
set_option maxHeartbeats 4000000 in
set_option maxRecDepth 20000 in
theorem ct_Md_readTopic (l : Launch) (D : va_G) (Z : (Nat → Prop) → State → Heap → Prop) (sq : Nat → Nat) (hZ : jk_ZK Z sq) (cI cR : ClassId) (a_t a_t_w a_t_wKept a_t_saved a_t_past a_t_input a_t_n a_t_order a_t_numbers a_t_output : Nat) (i_t_pastMany : Int) (i_t_isSaved : Int) (i_t_thrown : Int) (i_t_inputMany : Int) (i_t_lastError : Int) (i_t_lastOffset : Int) (i_t_error : Int) (i_t_offset : Int) (i_t_nextByte : Int) (i_t_begin : Int) (i_t_value : Int) (i_t_token : Int) (i_t_got : Int) (i_t_orders : Int) (i_t_outputMany : Int) (i_t_w : (Int → Int)) (i_t_input : (Int → Int)) (q : Int × (Int → Int) × Int × Int × Int × Int × Int × Int) (hf : fn_Md_readTopic i_t_w i_t_input i_t_inputMany i_t_error i_t_offset i_t_nextByte i_t_begin i_t_value i_t_token = some q) : jk_MI l D jk_cl (jk_ty cI cR) Z mn_Md_readTopic (.code mn_Md_readTopic mb_Md_readTopic 3 (some .boolean) :: jk_WA) (jk_rm 4 84) [.ref a_t] (wd_Md_readTopic cI a_t a_t_w a_t_wKept a_t_saved a_t_past a_t_input a_t_n a_t_order a_t_numbers a_t_output i_t_pastMany i_t_isSaved i_t_thrown i_t_inputMany i_t_lastError i_t_lastOffset i_t_error i_t_offset i_t_nextByte i_t_begin i_t_value i_t_token i_t_got i_t_orders i_t_outputMany i_t_w i_t_input) (wd_Md_readTopic cI a_t a_t_w a_t_wKept a_t_saved a_t_past a_t_input a_t_n a_t_order a_t_numbers a_t_output i_t_pastMany i_t_isSaved i_t_thrown i_t_inputMany i_t_lastError i_t_lastOffset q.2.2.1 q.2.2.2.1 q.2.2.2.2.1 q.2.2.2.2.2.1 q.2.2.2.2.2.2.1 q.2.2.2.2.2.2.2 i_t_got i_t_orders i_t_outputMany q.2.1 i_t_input) q.1 := by
  intro sz
  refine jk_body (by decide +kernel) (fun p e s m args below meth c hsz hz hin C => ?_) (Nat.le_of_ble_eq_true rfl)
  subst hsz
  unfold fn_Md_readTopic at hf
  have bk_76 : ∀ (n : Nat) (t_w : (Int → Int)) (t_error : Int) (t_offset : Int) (t_nextByte : Int) (t_begin : Int) (t_value : Int) (t_token : Int) (v1 : Int) (v2 : Int), fn_Md_readTopic_b76 n t_w i_t_input i_t_inputMany t_error t_offset t_nextByte t_begin t_value t_token v1 v2 = some q → jk_J p l e (jk_rm 4 84) s m args below meth c 0 0 (jk_QI below D jk_cl (jk_ty cI cR) (wd_Md_readTopic cI a_t a_t_w a_t_wKept a_t_saved a_t_past a_t_input a_t_n a_t_order a_t_numbers a_t_output i_t_pastMany i_t_isSaved i_t_thrown i_t_inputMany i_t_lastError i_t_lastOffset i_t_error i_t_offset i_t_nextByte i_t_begin i_t_value i_t_token i_t_got i_t_orders i_t_outputMany i_t_w i_t_input) (wd_Md_readTopic cI a_t a_t_w a_t_wKept a_t_saved a_t_past a_t_input a_t_n a_t_order a_t_numbers a_t_output i_t_pastMany i_t_isSaved i_t_thrown i_t_inputMany i_t_lastError i_t_lastOffset q.2.2.1 q.2.2.2.1 q.2.2.2.2.1 q.2.2.2.2.2.1 q.2.2.2.2.2.2.1 q.2.2.2.2.2.2.2 i_t_got i_t_orders i_t_outputMany q.2.1 i_t_input) args s q.1) D jk_cl (va_A (wd_Md_readTopic cI a_t a_t_w a_t_wKept a_t_saved a_t_past a_t_input a_t_n a_t_order a_t_numbers a_t_output i_t_pastMany i_t_isSaved i_t_thrown i_t_inputMany i_t_lastError i_t_lastOffset i_t_error i_t_offset i_t_nextByte i_t_begin i_t_value i_t_token i_t_got i_t_orders i_t_outputMany i_t_w i_t_input) s.heap.size) 3 (wd_Md_readTopic cI a_t a_t_w a_t_wKept a_t_saved a_t_past a_t_input a_t_n a_t_order a_t_numbers a_t_output i_t_pastMany i_t_isSaved i_t_thrown i_t_inputMany i_t_lastError i_t_lastOffset t_error t_offset t_nextByte t_begin t_value t_token i_t_got i_t_orders i_t_outputMany t_w i_t_input) [(0, .ref a_t), (1, jk_V v1), (2, jk_V v2)] 76 [] := by
    intro n
    induction n with
    | zero => intro t_w t_error t_offset t_nextByte t_begin t_value t_token v1 v2 hf; exact nomatch (show none = some q from hf)
    | succ n ih =>
      intro t_w t_error t_offset t_nextByte t_begin t_value t_token v1 v2 hf
      rw [fn_Md_readTopic_b76] at hf
      refine jk_iload_n C rd_Md_readTopic_76 (k := 2) rfl ?_
      refine jk_bipush C rd_Md_readTopic_77 (by decide +kernel) ?_
      refine jk_icmp_ge (tgt := 126) C rd_Md_readTopic_79 (by decide) hf (fun _ hf => ?_) (fun _ hf => ?_)
      · refine jk_aload_n C rd_Md_readTopic_126 (k := 0) rfl ?_
        refine jk_get C in_Md (ci := 11) rfl 0 (by decide) tm_1263 0 rfl rfl rd_Md_readTopic_127 ?_
        refine jk_iconst C rd_Md_readTopic_130 ?_
        refine jk_dup2 C rd_Md_readTopic_131 rfl rfl ?_
        refine jk_iald C 1 0 rfl rfl (Nat.le_of_ble_eq_true rfl) rd_Md_readTopic_132 hf (fun hf => ?_)
        refine jk_iconst C rd_Md_readTopic_133 ?_
        refine jk_iadd C rd_Md_readTopic_134 ?_
        refine jk_iast C 1 0 rfl rfl (Nat.le_of_ble_eq_true rfl) rd_Md_readTopic_135 hf (ws' := wd_Md_readTopic cI a_t a_t_w a_t_wKept a_t_saved a_t_past a_t_input a_t_n a_t_order a_t_numbers a_t_output i_t_pastMany i_t_isSaved i_t_thrown i_t_inputMany i_t_lastError i_t_lastOffset t_error t_offset t_nextByte t_begin t_value t_token i_t_got i_t_orders i_t_outputMany (jk_up t_w 0 ((t_w 0) + 1)) i_t_input) rfl (fun hf => ?_)
        refine jk_aload_n C rd_Md_readTopic_136 (k := 0) rfl ?_
        obtain ⟨q137, hq137, hf⟩ := jk_bind_h hf
        refine jk_callVv C hZ.1 hz (ct_Md_advanceToken l D Z sq hZ cI cR a_t a_t_w a_t_wKept a_t_saved a_t_past a_t_input a_t_n a_t_order a_t_numbers a_t_output i_t_pastMany i_t_isSaved i_t_thrown i_t_inputMany i_t_lastError i_t_lastOffset t_error t_offset t_nextByte t_begin t_value t_token i_t_got i_t_orders i_t_outputMany i_t_input q137 hq137) tm_1366 tm_1368 sl_29 tm_15 tm_1369 na_Md_advanceToken ⟨Nat.le_of_ble_eq_true rfl, Nat.le_of_ble_eq_true rfl⟩ rfl [0, 2] rfl rfl rfl (ws' := wd_Md_readTopic cI a_t a_t_w a_t_wKept a_t_saved a_t_past a_t_input a_t_n a_t_order a_t_numbers a_t_output i_t_pastMany i_t_isSaved i_t_thrown i_t_inputMany i_t_lastError i_t_lastOffset t_error t_offset q137.1 q137.2.1 q137.2.2.1 q137.2.2.2 i_t_got i_t_orders i_t_outputMany (jk_up t_w 0 ((t_w 0) + 1)) i_t_input) rfl 0 11 rfl rfl rfl (st := []) rfl (Nat.le_of_ble_eq_true rfl) rd_Md_readTopic_137 ?_ ⟨Nat.le_of_ble_eq_true rfl, Nat.le_of_ble_eq_true rfl⟩
        refine jk_aload_n C rd_Md_readTopic_140 (k := 0) rfl ?_
        obtain ⟨q141, hq141, hf⟩ := jk_bind_h hf
        refine jk_callVi C hZ.1 hz (ct_Md_takesSemicolon l D Z sq hZ cI cR a_t a_t_w a_t_wKept a_t_saved a_t_past a_t_input a_t_n a_t_order a_t_numbers a_t_output i_t_pastMany i_t_isSaved i_t_thrown i_t_inputMany i_t_lastError i_t_lastOffset t_error t_offset q137.1 q137.2.1 q137.2.2.1 q137.2.2.2 i_t_got i_t_orders i_t_outputMany i_t_input q141 hq141) tm_1413 tm_1415 sl_40 tm_15 tm_1416 na_Md_takesSemicolon ⟨Nat.le_of_ble_eq_true rfl, Nat.le_of_ble_eq_true rfl⟩ rfl [0, 2] rfl rfl rfl (ws' := wd_Md_readTopic cI a_t a_t_w a_t_wKept a_t_saved a_t_past a_t_input a_t_n a_t_order a_t_numbers a_t_output i_t_pastMany i_t_isSaved i_t_thrown i_t_inputMany i_t_lastError i_t_lastOffset q141.2.1 q141.2.2.1 q141.2.2.2.1 q141.2.2.2.2.1 q141.2.2.2.2.2.1 q141.2.2.2.2.2.2 i_t_got i_t_orders i_t_outputMany (jk_up t_w 0 ((t_w 0) + 1)) i_t_input) rfl 0 11 rfl rfl rfl (st := []) rfl (Nat.le_of_ble_eq_true rfl) rd_Md_readTopic_141 ?_ ⟨Nat.le_of_ble_eq_true rfl, Nat.le_of_ble_eq_true rfl⟩
        obtain ⟨hbo, hf⟩ := jk_bo_h hf
        cases hf
        exact jk_zret C hbo rfl rd_Md_readTopic_144 rfl
      · refine jk_aload_n C rd_Md_readTopic_82 (k := 0) rfl ?_
        refine jk_get C in_Md (ci := 11) rfl 0 (by decide) tm_1263 0 rfl rfl rd_Md_readTopic_83 ?_
        refine jk_iload_n C rd_Md_readTopic_86 (k := 1) rfl ?_
        refine jk_iconst C rd_Md_readTopic_87 ?_
        refine jk_iadd C rd_Md_readTopic_88 ?_
        refine jk_iload_n C rd_Md_readTopic_89 (k := 2) rfl ?_
        refine jk_iadd C rd_Md_readTopic_90 ?_
        refine jk_iload_n C rd_Md_readTopic_91 (k := 2) rfl ?_
        refine jk_aload_n C rd_Md_readTopic_92 (k := 0) rfl ?_
        refine jk_get C in_Md (ci := 11) rfl 13 (by decide) tm_1276 0 rfl rfl rd_Md_readTopic_93 ?_
        refine jk_aload_n C rd_Md_readTopic_96 (k := 0) rfl ?_
        refine jk_get C in_Md (ci := 11) rfl 14 (by decide) tm_1277 0 rfl rfl rd_Md_readTopic_97 ?_
        refine jk_isub C rd_Md_readTopic_100 ?_
        refine jk_icmp_ge (tgt := 118) C rd_Md_readTopic_101 (by decide) hf (fun _ hf => ?_) (fun _ hf => ?_)
        · refine jk_iconst C rd_Md_readTopic_118 ?_
          refine jk_iast C 1 0 rfl rfl (Nat.le_of_ble_eq_true rfl) rd_Md_readTopic_119 hf (ws' := wd_Md_readTopic cI a_t a_t_w a_t_wKept a_t_saved a_t_past a_t_input a_t_n a_t_order a_t_numbers a_t_output i_t_pastMany i_t_isSaved i_t_thrown i_t_inputMany i_t_lastError i_t_lastOffset t_error t_offset t_nextByte t_begin t_value t_token i_t_got i_t_orders i_t_outputMany (jk_up t_w ((v1 + 1) + v2) 0) i_t_input) rfl (fun hf => ?_)
          refine jk_iinc C rd_Md_readTopic_120 (k := 2) rfl (by decide) (lv' := [(2, jk_V (v2 + 1)), (0, .ref a_t), (1, jk_V v1)]) rfl ?_
          refine jk_goto (tgt := 76) C rd_Md_readTopic_123 (by decide) ?_
          refine jk_lv (lv' := [(0, .ref a_t), (1, jk_V v1), (2, jk_V (v2 + 1))]) [1, 2, 0] rfl ?_
          exact ih (jk_up t_w ((v1 + 1) + v2) 0) t_error t_offset t_nextByte t_begin t_value t_token v1 (v2 + 1) hf
        · refine jk_aload_n C rd_Md_readTopic_104 (k := 0) rfl ?_
          refine jk_get C in_Md (ci := 11) rfl 7 (by decide) tm_1270 0 rfl rfl rd_Md_readTopic_105 ?_
          refine jk_aload_n C rd_Md_readTopic_108 (k := 0) rfl ?_
          refine jk_get C in_Md (ci := 11) rfl 14 (by decide) tm_1277 0 rfl rfl rd_Md_readTopic_109 ?_
          refine jk_iload_n C rd_Md_readTopic_112 (k := 2) rfl ?_
          refine jk_iadd C rd_Md_readTopic_113 ?_
          refine jk_iald C 2 0 rfl rfl (Nat.le_of_ble_eq_true rfl) rd_Md_readTopic_114 hf (fun hf => ?_)
          refine jk_goto (tgt := 119) C rd_Md_readTopic_115 (by decide) ?_
          refine jk_iast C 1 0 rfl rfl (Nat.le_of_ble_eq_true rfl) rd_Md_readTopic_119 hf (ws' := wd_Md_readTopic cI a_t a_t_w a_t_wKept a_t_saved a_t_past a_t_input a_t_n a_t_order a_t_numbers a_t_output i_t_pastMany i_t_isSaved i_t_thrown i_t_inputMany i_t_lastError i_t_lastOffset t_error t_offset t_nextByte t_begin t_value t_token i_t_got i_t_orders i_t_outputMany (jk_up t_w ((v1 + 1) + v2) (i_t_input (t_begin + v2))) i_t_input) rfl (fun hf => ?_)
          refine jk_iinc C rd_Md_readTopic_120 (k := 2) rfl (by decide) (lv' := [(2, jk_V (v2 + 1)), (0, .ref a_t), (1, jk_V v1)]) rfl ?_
          refine jk_goto (tgt := 76) C rd_Md_readTopic_123 (by decide) ?_
          refine jk_lv (lv' := [(0, .ref a_t), (1, jk_V v1), (2, jk_V (v2 + 1))]) [1, 2, 0] rfl ?_
          exact ih (jk_up t_w ((v1 + 1) + v2) (i_t_input (t_begin + v2))) t_error t_offset t_nextByte t_begin t_value t_token v1 (v2 + 1) hf
  refine jk_aload_n C rd_Md_readTopic_0 (k := 0) rfl ?_
  refine jk_get C in_Md (ci := 11) rfl 0 (by decide) tm_1263 0 rfl rfl rd_Md_readTopic_1 ?_
  refine jk_iconst C rd_Md_readTopic_4 ?_
  refine jk_iald C 1 0 rfl rfl (Nat.le_of_ble_eq_true rfl) rd_Md_readTopic_5 hf (fun hf => ?_)
  refine jk_bipush C rd_Md_readTopic_6 (by decide +kernel) ?_
  refine jk_icmp_ne (tgt := 18) C rd_Md_readTopic_8 (by decide) hf (fun _ hf => ?_) (fun _ hf => ?_)
  · refine jk_aload_n C rd_Md_readTopic_18 (k := 0) rfl ?_
    obtain ⟨q19, hq19, hf⟩ := jk_bind_h hf
    refine jk_callVv C hZ.1 hz (ct_Md_advanceToken l D Z sq hZ cI cR a_t a_t_w a_t_wKept a_t_saved a_t_past a_t_input a_t_n a_t_order a_t_numbers a_t_output i_t_pastMany i_t_isSaved i_t_thrown i_t_inputMany i_t_lastError i_t_lastOffset i_t_error i_t_offset i_t_nextByte i_t_begin i_t_value i_t_token i_t_got i_t_orders i_t_outputMany i_t_input q19 hq19) tm_1366 tm_1368 sl_29 tm_15 tm_1369 na_Md_advanceToken ⟨Nat.le_of_ble_eq_true rfl, Nat.le_of_ble_eq_true rfl⟩ rfl [0, 2] rfl rfl rfl (ws' := wd_Md_readTopic cI a_t a_t_w a_t_wKept a_t_saved a_t_past a_t_input a_t_n a_t_order a_t_numbers a_t_output i_t_pastMany i_t_isSaved i_t_thrown i_t_inputMany i_t_lastError i_t_lastOffset i_t_error i_t_offset q19.1 q19.2.1 q19.2.2.1 q19.2.2.2 i_t_got i_t_orders i_t_outputMany i_t_w i_t_input) rfl 0 11 rfl rfl rfl (st := []) rfl (Nat.le_of_ble_eq_true rfl) rd_Md_readTopic_19 ?_ ⟨Nat.le_of_ble_eq_true rfl, Nat.le_of_ble_eq_true rfl⟩
    refine jk_aload_n C rd_Md_readTopic_22 (k := 0) rfl ?_
    obtain ⟨q23, hq23, hf⟩ := jk_bind_h hf
    refine jk_callVi C hZ.1 hz (ct_Md_seesName l D Z sq hZ cI cR a_t a_t_w a_t_wKept a_t_saved a_t_past a_t_input a_t_n a_t_order a_t_numbers a_t_output i_t_pastMany i_t_isSaved i_t_thrown i_t_inputMany i_t_lastError i_t_lastOffset i_t_error i_t_offset q19.1 q19.2.1 q19.2.2.1 q19.2.2.2 i_t_got i_t_orders i_t_outputMany q23 hq23) tm_1401 tm_1403 sl_37 tm_15 tm_1404 na_Md_seesName ⟨Nat.le_of_ble_eq_true rfl, Nat.le_of_ble_eq_true rfl⟩ rfl [0] rfl rfl rfl (ws' := wd_Md_readTopic cI a_t a_t_w a_t_wKept a_t_saved a_t_past a_t_input a_t_n a_t_order a_t_numbers a_t_output i_t_pastMany i_t_isSaved i_t_thrown i_t_inputMany i_t_lastError i_t_lastOffset q23.2.1 q23.2.2 q19.1 q19.2.1 q19.2.2.1 q19.2.2.2 i_t_got i_t_orders i_t_outputMany i_t_w i_t_input) rfl 0 11 rfl rfl rfl (st := []) rfl (Nat.le_of_ble_eq_true rfl) rd_Md_readTopic_23 ?_ ⟨Nat.le_of_ble_eq_true rfl, Nat.le_of_ble_eq_true rfl⟩
    refine jk_if_ne (tgt := 31) C rd_Md_readTopic_26 (by decide) hf (fun _ hf => ?_) (fun _ hf => ?_)
    · refine jk_aload_n C rd_Md_readTopic_31 (k := 0) rfl ?_
      obtain ⟨q32, hq32, hf⟩ := jk_bind_h hf
      refine jk_callVi C hZ.1 hz (ct_Md_topicHere l D Z sq hZ cI cR a_t a_t_w a_t_wKept a_t_saved a_t_past a_t_input a_t_n a_t_order a_t_numbers a_t_output i_t_pastMany i_t_isSaved i_t_thrown i_t_inputMany i_t_lastError i_t_lastOffset q23.2.1 q23.2.2 q19.1 q19.2.1 q19.2.2.1 q19.2.2.2 i_t_got i_t_orders i_t_outputMany i_t_w i_t_input q32 hq32) tm_1405 tm_1407 sl_38 tm_15 tm_1408 na_Md_topicHere ⟨Nat.le_of_ble_eq_true rfl, Nat.le_of_ble_eq_true rfl⟩ rfl [0, 1, 2] rfl rfl rfl (ws' := wd_Md_readTopic cI a_t a_t_w a_t_wKept a_t_saved a_t_past a_t_input a_t_n a_t_order a_t_numbers a_t_output i_t_pastMany i_t_isSaved i_t_thrown i_t_inputMany i_t_lastError i_t_lastOffset q23.2.1 q23.2.2 q19.1 q19.2.1 q19.2.2.1 q19.2.2.2 i_t_got i_t_orders i_t_outputMany i_t_w i_t_input) rfl 0 11 rfl rfl rfl (st := []) rfl (Nat.le_of_ble_eq_true rfl) rd_Md_readTopic_32 ?_ ⟨Nat.le_of_ble_eq_true rfl, Nat.le_of_ble_eq_true rfl⟩
      refine jk_iconst C rd_Md_readTopic_35 ?_
      refine jk_icmp_eq (tgt := 45) C rd_Md_readTopic_36 (by decide) hf (fun _ hf => ?_) (fun _ hf => ?_)
      · refine jk_iconst C rd_Md_readTopic_45 ?_
        refine jk_bipush C rd_Md_readTopic_46 (by decide +kernel) ?_
        refine jk_aload_n C rd_Md_readTopic_48 (k := 0) rfl ?_
        refine jk_get C in_Md (ci := 11) rfl 0 (by decide) tm_1263 0 rfl rfl rd_Md_readTopic_49 ?_
        refine jk_iconst C rd_Md_readTopic_52 ?_
        refine jk_iald C 1 0 rfl rfl (Nat.le_of_ble_eq_true rfl) rd_Md_readTopic_53 hf (fun hf => ?_)
        refine jk_imul C rd_Md_readTopic_54 ?_
        refine jk_iadd C rd_Md_readTopic_55 ?_
        refine jk_istore_n C rd_Md_readTopic_56 (by decide) (lv' := [(1, jk_V (3 + (7 * (i_t_w 0)))), (0, .ref a_t)]) rfl ?_
        refine jk_aload_n C rd_Md_readTopic_57 (k := 1) rfl ?_
        refine jk_get C in_Md (ci := 11) rfl 0 (by decide) tm_1263 0 rfl rfl rd_Md_readTopic_58 ?_
        refine jk_iload_n C rd_Md_readTopic_61 (k := 0) rfl ?_
        refine jk_iconst C rd_Md_readTopic_62 ?_
        refine jk_iadd C rd_Md_readTopic_63 ?_
        refine jk_aload_n C rd_Md_readTopic_64 (k := 1) rfl ?_
        refine jk_get C in_Md (ci := 11) rfl 13 (by decide) tm_1276 0 rfl rfl rd_Md_readTopic_65 ?_
        refine jk_aload_n C rd_Md_readTopic_68 (k := 1) rfl ?_
        refine jk_get C in_Md (ci := 11) rfl 14 (by decide) tm_1277 0 rfl rfl rd_Md_readTopic_69 ?_
        refine jk_isub C rd_Md_readTopic_72 ?_
        refine jk_iast C 1 0 rfl rfl (Nat.le_of_ble_eq_true rfl) rd_Md_readTopic_73 hf (ws' := wd_Md_readTopic cI a_t a_t_w a_t_wKept a_t_saved a_t_past a_t_input a_t_n a_t_order a_t_numbers a_t_output i_t_pastMany i_t_isSaved i_t_thrown i_t_inputMany i_t_lastError i_t_lastOffset q23.2.1 q23.2.2 q19.1 q19.2.1 q19.2.2.1 q19.2.2.2 i_t_got i_t_orders i_t_outputMany (jk_up i_t_w ((3 + (7 * (i_t_w 0))) + 0) (q19.1 - q19.2.1)) i_t_input) rfl (fun hf => ?_)
        refine jk_iconst C rd_Md_readTopic_74 ?_
        refine jk_istore_n C rd_Md_readTopic_75 (by decide) (lv' := [(2, jk_V 0), (1, jk_V (3 + (7 * (i_t_w 0)))), (0, .ref a_t)]) rfl ?_
        refine jk_lv (lv' := [(0, .ref a_t), (1, jk_V (3 + (7 * (i_t_w 0)))), (2, jk_V 0)]) [2, 1, 0] rfl ?_
        exact bk_76 jk_F (jk_up i_t_w ((3 + (7 * (i_t_w 0))) + 0) (q19.1 - q19.2.1)) q23.2.1 q23.2.2 q19.1 q19.2.1 q19.2.2.1 q19.2.2.2 (3 + (7 * (i_t_w 0))) 0 hf
      · refine jk_aload_n C rd_Md_readTopic_39 (k := 0) rfl ?_
        refine jk_iconst C rd_Md_readTopic_40 ?_
        obtain ⟨q41, hq41, hf⟩ := jk_bind_h hf
        refine jk_callVi C hZ.1 hz (ct_Md_failsAt l D Z sq hZ cI cR a_t a_t_w a_t_wKept a_t_saved a_t_past a_t_input a_t_n a_t_order a_t_numbers a_t_output i_t_pastMany i_t_isSaved i_t_thrown i_t_inputMany i_t_lastError i_t_lastOffset q23.2.1 q23.2.2 q19.1 q19.2.1 q19.2.2.1 q19.2.2.2 i_t_got i_t_orders i_t_outputMany 3 q41 hq41) tm_1397 tm_1399 sl_36 tm_15 tm_1400 na_Md_failsAt ⟨Nat.le_of_ble_eq_true rfl, Nat.le_of_ble_eq_true rfl⟩ rfl [0] rfl rfl rfl (ws' := wd_Md_readTopic cI a_t a_t_w a_t_wKept a_t_saved a_t_past a_t_input a_t_n a_t_order a_t_numbers a_t_output i_t_pastMany i_t_isSaved i_t_thrown i_t_inputMany i_t_lastError i_t_lastOffset q41.2.1 q41.2.2 q19.1 q19.2.1 q19.2.2.1 q19.2.2.2 i_t_got i_t_orders i_t_outputMany i_t_w i_t_input) rfl 0 11 rfl rfl rfl (st := []) rfl (Nat.le_of_ble_eq_true rfl) rd_Md_readTopic_41 ?_ ⟨Nat.le_of_ble_eq_true rfl, Nat.le_of_ble_eq_true rfl⟩
        obtain ⟨hbo, hf⟩ := jk_bo_h hf
        cases hf
        exact jk_zret C hbo rfl rd_Md_readTopic_44 rfl
    · refine jk_iconst C rd_Md_readTopic_29 ?_
      cases hf
      exact jk_zret C (Or.inl rfl) rfl rd_Md_readTopic_30 rfl
  · refine jk_aload_n C rd_Md_readTopic_11 (k := 0) rfl ?_
    refine jk_bipush C rd_Md_readTopic_12 (by decide +kernel) ?_
    obtain ⟨q14, hq14, hf⟩ := jk_bind_h hf
    refine jk_callVi C hZ.1 hz (ct_Md_failsAt l D Z sq hZ cI cR a_t a_t_w a_t_wKept a_t_saved a_t_past a_t_input a_t_n a_t_order a_t_numbers a_t_output i_t_pastMany i_t_isSaved i_t_thrown i_t_inputMany i_t_lastError i_t_lastOffset i_t_error i_t_offset i_t_nextByte i_t_begin i_t_value i_t_token i_t_got i_t_orders i_t_outputMany 6 q14 hq14) tm_1397 tm_1399 sl_36 tm_15 tm_1400 na_Md_failsAt ⟨Nat.le_of_ble_eq_true rfl, Nat.le_of_ble_eq_true rfl⟩ rfl [0] rfl rfl rfl (ws' := wd_Md_readTopic cI a_t a_t_w a_t_wKept a_t_saved a_t_past a_t_input a_t_n a_t_order a_t_numbers a_t_output i_t_pastMany i_t_isSaved i_t_thrown i_t_inputMany i_t_lastError i_t_lastOffset q14.2.1 q14.2.2 i_t_nextByte i_t_begin i_t_value i_t_token i_t_got i_t_orders i_t_outputMany i_t_w i_t_input) rfl 0 11 rfl rfl rfl (st := []) rfl (Nat.le_of_ble_eq_true rfl) rd_Md_readTopic_14 ?_ ⟨Nat.le_of_ble_eq_true rfl, Nat.le_of_ble_eq_true rfl⟩
    obtain ⟨hbo, hf⟩ := jk_bo_h hf
    cases hf
    exact jk_zret C hbo rfl rd_Md_readTopic_17 rfl
def wd_Md_readCluster (cI : ClassId) (a_t a_t_w a_t_wKept a_t_saved a_t_past a_t_input a_t_n a_t_order a_t_numbers a_t_output : Nat) (i_t_pastMany : Int) (i_t_isSaved : Int) (i_t_thrown : Int) (i_t_inputMany : Int) (i_t_lastError : Int) (i_t_lastOffset : Int) (i_t_error : Int) (i_t_offset : Int) (i_t_nextByte : Int) (i_t_begin : Int) (i_t_value : Int) (i_t_token : Int) (i_t_got : Int) (i_t_orders : Int) (i_t_outputMany : Int) (i_t_w : (Int → Int)) (i_t_input : (Int → Int)) : va_W := [(a_t, .inr (11, [.ref a_t_w, .ref a_t_wKept, .ref a_t_saved, .ref a_t_past, jk_V i_t_pastMany, jk_V i_t_isSaved, jk_V i_t_thrown, .ref a_t_input, jk_V i_t_inputMany, jk_V i_t_lastError, jk_V i_t_lastOffset, jk_V i_t_error, jk_V i_t_offset, jk_V i_t_nextByte, jk_V i_t_begin, jk_V i_t_value, jk_V i_t_token, jk_V i_t_got, .ref a_t_n, .ref a_t_order, .ref a_t_numbers, jk_V i_t_orders, .ref a_t_output, jk_V i_t_outputMany])), (a_t_w, jk_W cI 259 i_t_w), (a_t_input, jk_W cI 700 i_t_input)]
set_option maxHeartbeats 4000000 in
set_option maxRecDepth 20000 in
theorem ct_Md_readCluster (l : Launch) (D : va_G) (Z : (Nat → Prop) → State → Heap → Prop) (sq : Nat → Nat) (hZ : jk_ZK Z sq) (cI cR : ClassId) (a_t a_t_w a_t_wKept a_t_saved a_t_past a_t_input a_t_n a_t_order a_t_numbers a_t_output : Nat) (i_t_pastMany : Int) (i_t_isSaved : Int) (i_t_thrown : Int) (i_t_inputMany : Int) (i_t_lastError : Int) (i_t_lastOffset : Int) (i_t_error : Int) (i_t_offset : Int) (i_t_nextByte : Int) (i_t_begin : Int) (i_t_value : Int) (i_t_token : Int) (i_t_got : Int) (i_t_orders : Int) (i_t_outputMany : Int) (i_t_w : (Int → Int)) (i_t_input : (Int → Int)) (q : Int × (Int → Int) × Int × Int × Int × Int × Int × Int) (hf : fn_Md_readCluster i_t_w i_t_input i_t_inputMany i_t_error i_t_offset i_t_nextByte i_t_begin i_t_value i_t_token = some q) : jk_MI l D jk_cl (jk_ty cI cR) Z mn_Md_readCluster (.code mn_Md_readCluster mb_Md_readCluster 1 (some .boolean) :: jk_WA) (jk_rm 4 84) [.ref a_t] (wd_Md_readCluster cI a_t a_t_w a_t_wKept a_t_saved a_t_past a_t_input a_t_n a_t_order a_t_numbers a_t_output i_t_pastMany i_t_isSaved i_t_thrown i_t_inputMany i_t_lastError i_t_lastOffset i_t_error i_t_offset i_t_nextByte i_t_begin i_t_value i_t_token i_t_got i_t_orders i_t_outputMany i_t_w i_t_input) (wd_Md_readCluster cI a_t a_t_w a_t_wKept a_t_saved a_t_past a_t_input a_t_n a_t_order a_t_numbers a_t_output i_t_pastMany i_t_isSaved i_t_thrown i_t_inputMany i_t_lastError i_t_lastOffset q.2.2.1 q.2.2.2.1 q.2.2.2.2.1 q.2.2.2.2.2.1 q.2.2.2.2.2.2.1 q.2.2.2.2.2.2.2 i_t_got i_t_orders i_t_outputMany q.2.1 i_t_input) q.1 := by
  intro sz
  refine jk_body (by decide +kernel) (fun p e s m args below meth c hsz hz hin C => ?_) (Nat.le_of_ble_eq_true rfl)
  subst hsz
  unfold fn_Md_readCluster at hf
  refine jk_aload_n C rd_Md_readCluster_0 (k := 0) rfl ?_
  refine jk_get C in_Md (ci := 11) rfl 0 (by decide) tm_1263 0 rfl rfl rd_Md_readCluster_1 ?_
  refine jk_iconst C rd_Md_readCluster_4 ?_
  refine jk_iald C 1 0 rfl rfl (Nat.le_of_ble_eq_true rfl) rd_Md_readCluster_5 hf (fun hf => ?_)
  refine jk_bipush C rd_Md_readCluster_6 (by decide +kernel) ?_
  refine jk_icmp_ne (tgt := 18) C rd_Md_readCluster_8 (by decide) hf (fun _ hf => ?_) (fun _ hf => ?_)
  · refine jk_aload_n C rd_Md_readCluster_18 (k := 0) rfl ?_
    obtain ⟨q19, hq19, hf⟩ := jk_bind_h hf
    refine jk_callVv C hZ.1 hz (ct_Md_advanceToken l D Z sq hZ cI cR a_t a_t_w a_t_wKept a_t_saved a_t_past a_t_input a_t_n a_t_order a_t_numbers a_t_output i_t_pastMany i_t_isSaved i_t_thrown i_t_inputMany i_t_lastError i_t_lastOffset i_t_error i_t_offset i_t_nextByte i_t_begin i_t_value i_t_token i_t_got i_t_orders i_t_outputMany i_t_input q19 hq19) tm_1366 tm_1368 sl_29 tm_15 tm_1369 na_Md_advanceToken ⟨Nat.le_of_ble_eq_true rfl, Nat.le_of_ble_eq_true rfl⟩ rfl [0, 2] rfl rfl rfl (ws' := wd_Md_readCluster cI a_t a_t_w a_t_wKept a_t_saved a_t_past a_t_input a_t_n a_t_order a_t_numbers a_t_output i_t_pastMany i_t_isSaved i_t_thrown i_t_inputMany i_t_lastError i_t_lastOffset i_t_error i_t_offset q19.1 q19.2.1 q19.2.2.1 q19.2.2.2 i_t_got i_t_orders i_t_outputMany i_t_w i_t_input) rfl 0 11 rfl rfl rfl (st := []) rfl (Nat.le_of_ble_eq_true rfl) rd_Md_readCluster_19 ?_ ⟨Nat.le_of_ble_eq_true rfl, Nat.le_of_ble_eq_true rfl⟩
    refine jk_aload_n C rd_Md_readCluster_22 (k := 0) rfl ?_
    refine jk_get C in_Md (ci := 11) rfl 0 (by decide) tm_1263 0 rfl rfl rd_Md_readCluster_23 ?_
    refine jk_iconst C rd_Md_readCluster_26 ?_
    refine jk_dup2 C rd_Md_readCluster_27 rfl rfl ?_
    refine jk_iald C 1 0 rfl rfl (Nat.le_of_ble_eq_true rfl) rd_Md_readCluster_28 hf (fun hf => ?_)
    refine jk_iconst C rd_Md_readCluster_29 ?_
    refine jk_iadd C rd_Md_readCluster_30 ?_
    refine jk_iast C 1 0 rfl rfl (Nat.le_of_ble_eq_true rfl) rd_Md_readCluster_31 hf (ws' := wd_Md_readCluster cI a_t a_t_w a_t_wKept a_t_saved a_t_past a_t_input a_t_n a_t_order a_t_numbers a_t_output i_t_pastMany i_t_isSaved i_t_thrown i_t_inputMany i_t_lastError i_t_lastOffset i_t_error i_t_offset q19.1 q19.2.1 q19.2.2.1 q19.2.2.2 i_t_got i_t_orders i_t_outputMany (jk_up i_t_w 1 ((i_t_w 1) + 1)) i_t_input) rfl (fun hf => ?_)
    refine jk_aload_n C rd_Md_readCluster_32 (k := 0) rfl ?_
    obtain ⟨q33, hq33, hf⟩ := jk_bind_h hf
    refine jk_callVi C hZ.1 hz (ct_Md_takesSemicolon l D Z sq hZ cI cR a_t a_t_w a_t_wKept a_t_saved a_t_past a_t_input a_t_n a_t_order a_t_numbers a_t_output i_t_pastMany i_t_isSaved i_t_thrown i_t_inputMany i_t_lastError i_t_lastOffset i_t_error i_t_offset q19.1 q19.2.1 q19.2.2.1 q19.2.2.2 i_t_got i_t_orders i_t_outputMany i_t_input q33 hq33) tm_1413 tm_1415 sl_40 tm_15 tm_1416 na_Md_takesSemicolon ⟨Nat.le_of_ble_eq_true rfl, Nat.le_of_ble_eq_true rfl⟩ rfl [0, 2] rfl rfl rfl (ws' := wd_Md_readCluster cI a_t a_t_w a_t_wKept a_t_saved a_t_past a_t_input a_t_n a_t_order a_t_numbers a_t_output i_t_pastMany i_t_isSaved i_t_thrown i_t_inputMany i_t_lastError i_t_lastOffset q33.2.1 q33.2.2.1 q33.2.2.2.1 q33.2.2.2.2.1 q33.2.2.2.2.2.1 q33.2.2.2.2.2.2 i_t_got i_t_orders i_t_outputMany (jk_up i_t_w 1 ((i_t_w 1) + 1)) i_t_input) rfl 0 11 rfl rfl rfl (st := []) rfl (Nat.le_of_ble_eq_true rfl) rd_Md_readCluster_33 ?_ ⟨Nat.le_of_ble_eq_true rfl, Nat.le_of_ble_eq_true rfl⟩
    obtain ⟨hbo, hf⟩ := jk_bo_h hf
    cases hf
    exact jk_zret C hbo rfl rd_Md_readCluster_36 rfl
  · refine jk_aload_n C rd_Md_readCluster_11 (k := 0) rfl ?_
    refine jk_bipush C rd_Md_readCluster_12 (by decide +kernel) ?_
    obtain ⟨q14, hq14, hf⟩ := jk_bind_h hf
    refine jk_callVi C hZ.1 hz (ct_Md_failsAt l D Z sq hZ cI cR a_t a_t_w a_t_wKept a_t_saved a_t_past a_t_input a_t_n a_t_order a_t_numbers a_t_output i_t_pastMany i_t_isSaved i_t_thrown i_t_inputMany i_t_lastError i_t_lastOffset i_t_error i_t_offset i_t_nextByte i_t_begin i_t_value i_t_token i_t_got i_t_orders i_t_outputMany 6 q14 hq14) tm_1397 tm_1399 sl_36 tm_15 tm_1400 na_Md_failsAt ⟨Nat.le_of_ble_eq_true rfl, Nat.le_of_ble_eq_true rfl⟩ rfl [0] rfl rfl rfl (ws' := wd_Md_readCluster cI a_t a_t_w a_t_wKept a_t_saved a_t_past a_t_input a_t_n a_t_order a_t_numbers a_t_output i_t_pastMany i_t_isSaved i_t_thrown i_t_inputMany i_t_lastError i_t_lastOffset q14.2.1 q14.2.2 i_t_nextByte i_t_begin i_t_value i_t_token i_t_got i_t_orders i_t_outputMany i_t_w i_t_input) rfl 0 11 rfl rfl rfl (st := []) rfl (Nat.le_of_ble_eq_true rfl) rd_Md_readCluster_14 ?_ ⟨Nat.le_of_ble_eq_true rfl, Nat.le_of_ble_eq_true rfl⟩
    obtain ⟨hbo, hf⟩ := jk_bo_h hf
    cases hf
    exact jk_zret C hbo rfl rd_Md_readCluster_17 rfl
def wd_Md_takesCord (cI : ClassId) (a_t a_t_w a_t_wKept a_t_saved a_t_past a_t_input a_t_n a_t_order a_t_numbers a_t_output : Nat) (i_t_pastMany : Int) (i_t_isSaved : Int) (i_t_thrown : Int) (i_t_inputMany : Int) (i_t_lastError : Int) (i_t_lastOffset : Int) (i_t_error : Int) (i_t_offset : Int) (i_t_nextByte : Int) (i_t_begin : Int) (i_t_value : Int) (i_t_token : Int) (i_t_got : Int) (i_t_orders : Int) (i_t_outputMany : Int) (i_t_w : (Int → Int)) (i_t_input : (Int → Int)) (i_t_n : (Int → Int)) : va_W := [(a_t, .inr (11, [.ref a_t_w, .ref a_t_wKept, .ref a_t_saved, .ref a_t_past, jk_V i_t_pastMany, jk_V i_t_isSaved, jk_V i_t_thrown, .ref a_t_input, jk_V i_t_inputMany, jk_V i_t_lastError, jk_V i_t_lastOffset, jk_V i_t_error, jk_V i_t_offset, jk_V i_t_nextByte, jk_V i_t_begin, jk_V i_t_value, jk_V i_t_token, jk_V i_t_got, .ref a_t_n, .ref a_t_order, .ref a_t_numbers, jk_V i_t_orders, .ref a_t_output, jk_V i_t_outputMany])), (a_t_w, jk_W cI 259 i_t_w), (a_t_input, jk_W cI 700 i_t_input), (a_t_n, jk_W cI 3 i_t_n)]
set_option maxHeartbeats 4000000 in
set_option maxRecDepth 20000 in
theorem ct_Md_takesCord (l : Launch) (D : va_G) (Z : (Nat → Prop) → State → Heap → Prop) (sq : Nat → Nat) (hZ : jk_ZK Z sq) (cI cR : ClassId) (a_t a_t_w a_t_wKept a_t_saved a_t_past a_t_input a_t_n a_t_order a_t_numbers a_t_output : Nat) (i_t_pastMany : Int) (i_t_isSaved : Int) (i_t_thrown : Int) (i_t_inputMany : Int) (i_t_lastError : Int) (i_t_lastOffset : Int) (i_t_error : Int) (i_t_offset : Int) (i_t_nextByte : Int) (i_t_begin : Int) (i_t_value : Int) (i_t_token : Int) (i_t_got : Int) (i_t_orders : Int) (i_t_outputMany : Int) (i_t_w : (Int → Int)) (i_t_input : (Int → Int)) (i_t_n : (Int → Int)) (x1 : Int) (x2 : Int) (q : Int × (Int → Int) × Int × Int × Int × Int × Int × Int × Int × (Int → Int)) (hf : fn_Md_takesCord i_t_w i_t_input i_t_inputMany i_t_error i_t_offset i_t_nextByte i_t_begin i_t_value i_t_token i_t_got i_t_n x1 x2 = some q) : jk_MI l D jk_cl (jk_ty cI cR) Z mn_Md_takesCord (.code mn_Md_takesCord mb_Md_takesCord 5 (some .boolean) :: jk_WA) (jk_rm 7 322) [.ref a_t, jk_V x1, jk_V x2] (wd_Md_takesCord cI a_t a_t_w a_t_wKept a_t_saved a_t_past a_t_input a_t_n a_t_order a_t_numbers a_t_output i_t_pastMany i_t_isSaved i_t_thrown i_t_inputMany i_t_lastError i_t_lastOffset i_t_error i_t_offset i_t_nextByte i_t_begin i_t_value i_t_token i_t_got i_t_orders i_t_outputMany i_t_w i_t_input i_t_n) (wd_Md_takesCord cI a_t a_t_w a_t_wKept a_t_saved a_t_past a_t_input a_t_n a_t_order a_t_numbers a_t_output i_t_pastMany i_t_isSaved i_t_thrown i_t_inputMany i_t_lastError i_t_lastOffset q.2.2.1 q.2.2.2.1 q.2.2.2.2.1 q.2.2.2.2.2.1 q.2.2.2.2.2.2.1 q.2.2.2.2.2.2.2.1 q.2.2.2.2.2.2.2.2.1 i_t_orders i_t_outputMany q.2.1 i_t_input q.2.2.2.2.2.2.2.2.2) q.1 := by
  intro sz
  refine jk_body (by decide +kernel) (fun p e s m args below meth c hsz hz hin C => ?_) (Nat.le_of_ble_eq_true rfl)
  subst hsz
  unfold fn_Md_takesCord at hf
  refine jk_aload_n C rd_Md_takesCord_0 (k := 0) rfl ?_
  refine jk_iconst C rd_Md_takesCord_1 ?_
  obtain ⟨q2, hq2, hf⟩ := jk_bind_h hf
  refine jk_callVi C hZ.1 hz (ct_Md_takesTopic l D Z sq hZ cI cR a_t a_t_w a_t_wKept a_t_saved a_t_past a_t_input a_t_n a_t_order a_t_numbers a_t_output i_t_pastMany i_t_isSaved i_t_thrown i_t_inputMany i_t_lastError i_t_lastOffset i_t_error i_t_offset i_t_nextByte i_t_begin i_t_value i_t_token i_t_got i_t_orders i_t_outputMany i_t_w i_t_input i_t_n 1 q2 hq2) tm_1465 tm_1467 sl_52 tm_15 tm_1468 na_Md_takesTopic ⟨Nat.le_of_ble_eq_true rfl, Nat.le_of_ble_eq_true rfl⟩ rfl [0, 1, 2, 3] rfl rfl rfl (ws' := wd_Md_takesCord cI a_t a_t_w a_t_wKept a_t_saved a_t_past a_t_input a_t_n a_t_order a_t_numbers a_t_output i_t_pastMany i_t_isSaved i_t_thrown i_t_inputMany i_t_lastError i_t_lastOffset q2.2.1 q2.2.2.1 q2.2.2.2.1 q2.2.2.2.2.1 q2.2.2.2.2.2.1 q2.2.2.2.2.2.2.1 i_t_got i_t_orders i_t_outputMany i_t_w i_t_input q2.2.2.2.2.2.2.2) rfl 0 11 rfl rfl rfl (st := []) rfl (Nat.le_of_ble_eq_true rfl) rd_Md_takesCord_2 ?_ ⟨Nat.le_of_ble_eq_true rfl, Nat.le_of_ble_eq_true rfl⟩
  refine jk_if_eq (tgt := 20) C rd_Md_takesCord_5 (by decide) hf (fun _ hf => ?_) (fun _ hf => ?_)
  · refine jk_iconst C rd_Md_takesCord_20 ?_
    cases hf
    exact jk_zret C (Or.inl rfl) rfl rd_Md_takesCord_21 rfl
  · refine jk_aload_n C rd_Md_takesCord_8 (k := 0) rfl ?_
    refine jk_iconst C rd_Md_takesCord_9 ?_
    refine jk_iconst C rd_Md_takesCord_10 ?_
    refine jk_sipush C rd_Md_takesCord_11 (by decide +kernel) ?_
    obtain ⟨q14, hq14, hf⟩ := jk_bind_h hf
    refine jk_callVi C hZ.1 hz (ct_Md_takes l D Z sq hZ cI cR a_t a_t_w a_t_wKept a_t_saved a_t_past a_t_input a_t_n a_t_order a_t_numbers a_t_output i_t_pastMany i_t_isSaved i_t_thrown i_t_inputMany i_t_lastError i_t_lastOffset q2.2.1 q2.2.2.1 q2.2.2.2.1 q2.2.2.2.2.1 q2.2.2.2.2.2.1 q2.2.2.2.2.2.2.1 i_t_got i_t_orders i_t_outputMany i_t_input q2.2.2.2.2.2.2.2 2 0 9999 q14 hq14) tm_1469 tm_1471 sl_53 tm_15 tm_1472 na_Md_takes ⟨Nat.le_of_ble_eq_true rfl, Nat.le_of_ble_eq_true rfl⟩ rfl [0, 2, 3] rfl rfl rfl (ws' := wd_Md_takesCord cI a_t a_t_w a_t_wKept a_t_saved a_t_past a_t_input a_t_n a_t_order a_t_numbers a_t_output i_t_pastMany i_t_isSaved i_t_thrown i_t_inputMany i_t_lastError i_t_lastOffset q14.2.1 q14.2.2.1 q14.2.2.2.1 q14.2.2.2.2.1 q14.2.2.2.2.2.1 q14.2.2.2.2.2.2.1 q14.2.2.2.2.2.2.2.1 i_t_orders i_t_outputMany i_t_w i_t_input q14.2.2.2.2.2.2.2.2) rfl 0 11 rfl rfl rfl (st := []) rfl (Nat.le_of_ble_eq_true rfl) rd_Md_takesCord_14 ?_ ⟨Nat.le_of_ble_eq_true rfl, Nat.le_of_ble_eq_true rfl⟩
    refine jk_if_ne (tgt := 22) C rd_Md_takesCord_17 (by decide) hf (fun _ hf => ?_) (fun _ hf => ?_)
    · refine jk_aload_n C rd_Md_takesCord_22 (k := 0) rfl ?_
      refine jk_iload_n C rd_Md_takesCord_23 (k := 1) rfl ?_
      refine jk_aload_n C rd_Md_takesCord_24 (k := 0) rfl ?_
      refine jk_get C in_Md (ci := 11) rfl 0 (by decide) tm_1263 0 rfl rfl rd_Md_takesCord_25 ?_
      refine jk_iconst C rd_Md_takesCord_28 ?_
      refine jk_iald C 1 0 rfl rfl (Nat.le_of_ble_eq_true rfl) rd_Md_takesCord_29 hf (fun hf => ?_)
      refine jk_iconst C rd_Md_takesCord_30 ?_
      refine jk_isub C rd_Md_takesCord_31 ?_
      refine jk_iload_n C rd_Md_takesCord_32 (k := 2) rfl ?_
      refine jk_aload_n C rd_Md_takesCord_33 (k := 0) rfl ?_
      refine jk_get C in_Md (ci := 11) rfl 18 (by decide) tm_1281 0 rfl rfl rd_Md_takesCord_34 ?_
      refine jk_iconst C rd_Md_takesCord_37 ?_
      refine jk_iald C 3 0 rfl rfl (Nat.le_of_ble_eq_true rfl) rd_Md_takesCord_38 hf (fun hf => ?_)
      refine jk_aload_n C rd_Md_takesCord_39 (k := 0) rfl ?_
      refine jk_get C in_Md (ci := 11) rfl 18 (by decide) tm_1281 0 rfl rfl rd_Md_takesCord_40 ?_
      refine jk_iconst C rd_Md_takesCord_43 ?_
      refine jk_iald C 3 0 rfl rfl (Nat.le_of_ble_eq_true rfl) rd_Md_takesCord_44 hf (fun hf => ?_)
      obtain ⟨q45, hq45, hf⟩ := jk_bind_h hf
      refine jk_callVi C hZ.1 hz (ct_Md_inserts l D Z sq hZ cI cR a_t a_t_w a_t_wKept a_t_saved a_t_past a_t_input a_t_n a_t_order a_t_numbers a_t_output i_t_pastMany i_t_isSaved i_t_thrown i_t_inputMany i_t_lastError i_t_lastOffset q14.2.1 q14.2.2.1 q14.2.2.2.1 q14.2.2.2.2.1 q14.2.2.2.2.2.1 q14.2.2.2.2.2.2.1 q14.2.2.2.2.2.2.2.1 i_t_orders i_t_outputMany i_t_w x1 ((i_t_w 1) - 1) x2 (q14.2.2.2.2.2.2.2.2 1) (q14.2.2.2.2.2.2.2.2 2) q45 hq45) tm_1236 tm_1238 sl_21 tm_15 tm_1239 na_Md_inserts ⟨Nat.le_of_ble_eq_true rfl, Nat.le_of_ble_eq_true rfl⟩ rfl [0, 1] rfl rfl rfl (ws' := wd_Md_takesCord cI a_t a_t_w a_t_wKept a_t_saved a_t_past a_t_input a_t_n a_t_order a_t_numbers a_t_output i_t_pastMany i_t_isSaved i_t_thrown i_t_inputMany i_t_lastError i_t_lastOffset q14.2.1 q14.2.2.1 q14.2.2.2.1 q14.2.2.2.2.1 q14.2.2.2.2.2.1 q14.2.2.2.2.2.2.1 q14.2.2.2.2.2.2.2.1 i_t_orders i_t_outputMany q45.2 i_t_input q14.2.2.2.2.2.2.2.2) rfl 0 11 rfl rfl rfl (st := []) rfl (Nat.le_of_ble_eq_true rfl) rd_Md_takesCord_45 ?_ ⟨Nat.le_of_ble_eq_true rfl, Nat.le_of_ble_eq_true rfl⟩
      refine jk_istore_n C rd_Md_takesCord_48 (by decide) (lv' := [(3, jk_V q45.1), (0, .ref a_t), (1, jk_V x1), (2, jk_V x2)]) rfl ?_
      refine jk_aload_n C rd_Md_takesCord_49 (k := 1) rfl ?_
      refine jk_ldcs C hZ hz rd_Md_takesCord_50 (k := 33) rfl ?_
      obtain ⟨q52, hq52, hf⟩ := jk_bind_h hf
      refine jk_callVi C hZ.1 hz (ct_Md_isWord l D Z sq hZ cI cR a_t a_t_w a_t_wKept a_t_saved a_t_past a_t_input a_t_n a_t_order a_t_numbers a_t_output i_t_pastMany i_t_isSaved i_t_thrown i_t_inputMany i_t_lastError i_t_lastOffset q14.2.1 q14.2.2.1 q14.2.2.2.1 q14.2.2.2.2.1 q14.2.2.2.2.2.1 q14.2.2.2.2.2.2.1 q14.2.2.2.2.2.2.2.1 i_t_orders i_t_outputMany i_t_input ([110, 105, 98, 98, 108, 101, 100]) ((sq 33)) ((jk_zs hZ (k := 33) rfl)) q52 hq52) tm_1387 tm_1389 sl_34 tm_15 tm_1390 na_Md_isWord ⟨Nat.le_of_ble_eq_true rfl, Nat.le_of_ble_eq_true rfl⟩ rfl [0, 2] rfl rfl rfl (ws' := wd_Md_takesCord cI a_t a_t_w a_t_wKept a_t_saved a_t_past a_t_input a_t_n a_t_order a_t_numbers a_t_output i_t_pastMany i_t_isSaved i_t_thrown i_t_inputMany i_t_lastError i_t_lastOffset q14.2.1 q14.2.2.1 q14.2.2.2.1 q14.2.2.2.2.1 q14.2.2.2.2.2.1 q14.2.2.2.2.2.2.1 q14.2.2.2.2.2.2.2.1 i_t_orders i_t_outputMany q45.2 i_t_input q14.2.2.2.2.2.2.2.2) rfl 0 11 rfl rfl rfl (st := []) rfl (Nat.le_of_ble_eq_true rfl) rd_Md_takesCord_52 ?_ ⟨Nat.le_of_ble_eq_true rfl, Nat.le_of_ble_eq_true rfl⟩
      refine jk_if_eq (tgt := 87) C rd_Md_takesCord_55 (by decide) hf (fun _ hf => ?_) (fun _ hf => ?_)
      · refine jk_aload_n C rd_Md_takesCord_87 (k := 1) rfl ?_
        obtain ⟨q88, hq88, hf⟩ := jk_bind_h hf
        refine jk_callVi C hZ.1 hz (ct_Md_takesSemicolon l D Z sq hZ cI cR a_t a_t_w a_t_wKept a_t_saved a_t_past a_t_input a_t_n a_t_order a_t_numbers a_t_output i_t_pastMany i_t_isSaved i_t_thrown i_t_inputMany i_t_lastError i_t_lastOffset q14.2.1 q14.2.2.1 q14.2.2.2.1 q14.2.2.2.2.1 q14.2.2.2.2.2.1 q14.2.2.2.2.2.2.1 q14.2.2.2.2.2.2.2.1 i_t_orders i_t_outputMany i_t_input q88 hq88) tm_1413 tm_1415 sl_40 tm_15 tm_1416 na_Md_takesSemicolon ⟨Nat.le_of_ble_eq_true rfl, Nat.le_of_ble_eq_true rfl⟩ rfl [0, 2] rfl rfl rfl (ws' := wd_Md_takesCord cI a_t a_t_w a_t_wKept a_t_saved a_t_past a_t_input a_t_n a_t_order a_t_numbers a_t_output i_t_pastMany i_t_isSaved i_t_thrown i_t_inputMany i_t_lastError i_t_lastOffset q88.2.1 q88.2.2.1 q88.2.2.2.1 q88.2.2.2.2.1 q88.2.2.2.2.2.1 q88.2.2.2.2.2.2 q14.2.2.2.2.2.2.2.1 i_t_orders i_t_outputMany q45.2 i_t_input q14.2.2.2.2.2.2.2.2) rfl 0 11 rfl rfl rfl (st := []) rfl (Nat.le_of_ble_eq_true rfl) rd_Md_takesCord_88 ?_ ⟨Nat.le_of_ble_eq_true rfl, Nat.le_of_ble_eq_true rfl⟩
        obtain ⟨hbo, hf⟩ := jk_bo_h hf
        cases hf
        exact jk_zret C hbo rfl rd_Md_takesCord_91 rfl
      · refine jk_aload_n C rd_Md_takesCord_58 (k := 1) rfl ?_
        obtain ⟨q59, hq59, hf⟩ := jk_bind_h hf
        refine jk_callVv C hZ.1 hz (ct_Md_advanceToken l D Z sq hZ cI cR a_t a_t_w a_t_wKept a_t_saved a_t_past a_t_input a_t_n a_t_order a_t_numbers a_t_output i_t_pastMany i_t_isSaved i_t_thrown i_t_inputMany i_t_lastError i_t_lastOffset q14.2.1 q14.2.2.1 q14.2.2.2.1 q14.2.2.2.2.1 q14.2.2.2.2.2.1 q14.2.2.2.2.2.2.1 q14.2.2.2.2.2.2.2.1 i_t_orders i_t_outputMany i_t_input q59 hq59) tm_1366 tm_1368 sl_29 tm_15 tm_1369 na_Md_advanceToken ⟨Nat.le_of_ble_eq_true rfl, Nat.le_of_ble_eq_true rfl⟩ rfl [0, 2] rfl rfl rfl (ws' := wd_Md_takesCord cI a_t a_t_w a_t_wKept a_t_saved a_t_past a_t_input a_t_n a_t_order a_t_numbers a_t_output i_t_pastMany i_t_isSaved i_t_thrown i_t_inputMany i_t_lastError i_t_lastOffset q14.2.1 q14.2.2.1 q59.1 q59.2.1 q59.2.2.1 q59.2.2.2 q14.2.2.2.2.2.2.2.1 i_t_orders i_t_outputMany q45.2 i_t_input q14.2.2.2.2.2.2.2.2) rfl 0 11 rfl rfl rfl (st := []) rfl (Nat.le_of_ble_eq_true rfl) rd_Md_takesCord_59 ?_ ⟨Nat.le_of_ble_eq_true rfl, Nat.le_of_ble_eq_true rfl⟩
        refine jk_aload_n C rd_Md_takesCord_62 (k := 1) rfl ?_
        refine jk_iconst C rd_Md_takesCord_63 ?_
        refine jk_iconst C rd_Md_takesCord_64 ?_
        refine jk_iconst C rd_Md_takesCord_65 ?_
        obtain ⟨q66, hq66, hf⟩ := jk_bind_h hf
        refine jk_callVi C hZ.1 hz (ct_Md_takes l D Z sq hZ cI cR a_t a_t_w a_t_wKept a_t_saved a_t_past a_t_input a_t_n a_t_order a_t_numbers a_t_output i_t_pastMany i_t_isSaved i_t_thrown i_t_inputMany i_t_lastError i_t_lastOffset q14.2.1 q14.2.2.1 q59.1 q59.2.1 q59.2.2.1 q59.2.2.2 q14.2.2.2.2.2.2.2.1 i_t_orders i_t_outputMany i_t_input q14.2.2.2.2.2.2.2.2 0 1 4 q66 hq66) tm_1469 tm_1471 sl_53 tm_15 tm_1472 na_Md_takes ⟨Nat.le_of_ble_eq_true rfl, Nat.le_of_ble_eq_true rfl⟩ rfl [0, 2, 3] rfl rfl rfl (ws' := wd_Md_takesCord cI a_t a_t_w a_t_wKept a_t_saved a_t_past a_t_input a_t_n a_t_order a_t_numbers a_t_output i_t_pastMany i_t_isSaved i_t_thrown i_t_inputMany i_t_lastError i_t_lastOffset q66.2.1 q66.2.2.1 q66.2.2.2.1 q66.2.2.2.2.1 q66.2.2.2.2.2.1 q66.2.2.2.2.2.2.1 q66.2.2.2.2.2.2.2.1 i_t_orders i_t_outputMany q45.2 i_t_input q66.2.2.2.2.2.2.2.2) rfl 0 11 rfl rfl rfl (st := []) rfl (Nat.le_of_ble_eq_true rfl) rd_Md_takesCord_66 ?_ ⟨Nat.le_of_ble_eq_true rfl, Nat.le_of_ble_eq_true rfl⟩
        refine jk_if_ne (tgt := 74) C rd_Md_takesCord_69 (by decide) hf (fun _ hf => ?_) (fun _ hf => ?_)
        · refine jk_aload_n C rd_Md_takesCord_74 (k := 1) rfl ?_
          refine jk_iload_n C rd_Md_takesCord_75 (k := 0) rfl ?_
          refine jk_aload_n C rd_Md_takesCord_76 (k := 1) rfl ?_
          refine jk_get C in_Md (ci := 11) rfl 18 (by decide) tm_1281 0 rfl rfl rd_Md_takesCord_77 ?_
          refine jk_iconst C rd_Md_takesCord_80 ?_
          refine jk_iald C 3 0 rfl rfl (Nat.le_of_ble_eq_true rfl) rd_Md_takesCord_81 hf (fun hf => ?_)
          obtain ⟨q82, hq82, hf⟩ := jk_bind_h hf
          refine jk_callVi C hZ.1 hz (ct_Md_loses l D Z sq hZ cI cR a_t a_t_w a_t_wKept a_t_saved a_t_past a_t_input a_t_n a_t_order a_t_numbers a_t_output i_t_pastMany i_t_isSaved i_t_thrown i_t_inputMany i_t_lastError i_t_lastOffset q66.2.1 q66.2.2.1 q66.2.2.2.1 q66.2.2.2.2.1 q66.2.2.2.2.2.1 q66.2.2.2.2.2.2.1 q66.2.2.2.2.2.2.2.1 i_t_orders i_t_outputMany q45.2 q45.1 (q66.2.2.2.2.2.2.2.2 0) q82 hq82) tm_1244 tm_1246 sl_23 tm_15 tm_1247 na_Md_loses ⟨Nat.le_of_ble_eq_true rfl, Nat.le_of_ble_eq_true rfl⟩ rfl [0, 1] rfl rfl rfl (ws' := wd_Md_takesCord cI a_t a_t_w a_t_wKept a_t_saved a_t_past a_t_input a_t_n a_t_order a_t_numbers a_t_output i_t_pastMany i_t_isSaved i_t_thrown i_t_inputMany i_t_lastError i_t_lastOffset q66.2.1 q66.2.2.1 q66.2.2.2.1 q66.2.2.2.2.1 q66.2.2.2.2.2.1 q66.2.2.2.2.2.2.1 q66.2.2.2.2.2.2.2.1 i_t_orders i_t_outputMany q82.2 i_t_input q66.2.2.2.2.2.2.2.2) rfl 0 11 rfl rfl rfl (st := []) rfl (Nat.le_of_ble_eq_true rfl) rd_Md_takesCord_82 ?_ ⟨Nat.le_of_ble_eq_true rfl, Nat.le_of_ble_eq_true rfl⟩
          refine jk_istore C rd_Md_takesCord_85 (by decide) (lv' := [(4, jk_V q82.1), (3, jk_V q45.1), (0, .ref a_t), (1, jk_V x1), (2, jk_V x2)]) rfl ?_
          refine jk_aload_n C rd_Md_takesCord_87 (k := 2) rfl ?_
          obtain ⟨q88, hq88, hf⟩ := jk_bind_h hf
          refine jk_callVi C hZ.1 hz (ct_Md_takesSemicolon l D Z sq hZ cI cR a_t a_t_w a_t_wKept a_t_saved a_t_past a_t_input a_t_n a_t_order a_t_numbers a_t_output i_t_pastMany i_t_isSaved i_t_thrown i_t_inputMany i_t_lastError i_t_lastOffset q66.2.1 q66.2.2.1 q66.2.2.2.1 q66.2.2.2.2.1 q66.2.2.2.2.2.1 q66.2.2.2.2.2.2.1 q66.2.2.2.2.2.2.2.1 i_t_orders i_t_outputMany i_t_input q88 hq88) tm_1413 tm_1415 sl_40 tm_15 tm_1416 na_Md_takesSemicolon ⟨Nat.le_of_ble_eq_true rfl, Nat.le_of_ble_eq_true rfl⟩ rfl [0, 2] rfl rfl rfl (ws' := wd_Md_takesCord cI a_t a_t_w a_t_wKept a_t_saved a_t_past a_t_input a_t_n a_t_order a_t_numbers a_t_output i_t_pastMany i_t_isSaved i_t_thrown i_t_inputMany i_t_lastError i_t_lastOffset q88.2.1 q88.2.2.1 q88.2.2.2.1 q88.2.2.2.2.1 q88.2.2.2.2.2.1 q88.2.2.2.2.2.2 q66.2.2.2.2.2.2.2.1 i_t_orders i_t_outputMany q82.2 i_t_input q66.2.2.2.2.2.2.2.2) rfl 0 11 rfl rfl rfl (st := []) rfl (Nat.le_of_ble_eq_true rfl) rd_Md_takesCord_88 ?_ ⟨Nat.le_of_ble_eq_true rfl, Nat.le_of_ble_eq_true rfl⟩
          obtain ⟨hbo, hf⟩ := jk_bo_h hf
          cases hf
          exact jk_zret C hbo rfl rd_Md_takesCord_91 rfl
        · refine jk_iconst C rd_Md_takesCord_72 ?_
          cases hf
          exact jk_zret C (Or.inl rfl) rfl rd_Md_takesCord_73 rfl
    · refine jk_iconst C rd_Md_takesCord_20 ?_
      cases hf
      exact jk_zret C (Or.inl rfl) rfl rd_Md_takesCord_21 rfl
def wd_Md_latest (cI : ClassId) (a_t a_t_w a_t_wKept a_t_saved a_t_past a_t_input a_t_n a_t_order a_t_numbers a_t_output : Nat) (i_t_pastMany : Int) (i_t_isSaved : Int) (i_t_thrown : Int) (i_t_inputMany : Int) (i_t_lastError : Int) (i_t_lastOffset : Int) (i_t_error : Int) (i_t_offset : Int) (i_t_nextByte : Int) (i_t_begin : Int) (i_t_value : Int) (i_t_token : Int) (i_t_got : Int) (i_t_orders : Int) (i_t_outputMany : Int) (i_t_w : (Int → Int)) : va_W := [(a_t, .inr (11, [.ref a_t_w, .ref a_t_wKept, .ref a_t_saved, .ref a_t_past, jk_V i_t_pastMany, jk_V i_t_isSaved, jk_V i_t_thrown, .ref a_t_input, jk_V i_t_inputMany, jk_V i_t_lastError, jk_V i_t_lastOffset, jk_V i_t_error, jk_V i_t_offset, jk_V i_t_nextByte, jk_V i_t_begin, jk_V i_t_value, jk_V i_t_token, jk_V i_t_got, .ref a_t_n, .ref a_t_order, .ref a_t_numbers, jk_V i_t_orders, .ref a_t_output, jk_V i_t_outputMany])), (a_t_w, jk_W cI 259 i_t_w)]
set_option maxHeartbeats 4000000 in
set_option maxRecDepth 20000 in
theorem ct_Md_latest (l : Launch) (D : va_G) (Z : (Nat → Prop) → State → Heap → Prop) (sq : Nat → Nat) (hZ : jk_ZK Z sq) (cI cR : ClassId) (a_t a_t_w a_t_wKept a_t_saved a_t_past a_t_input a_t_n a_t_order a_t_numbers a_t_output : Nat) (i_t_pastMany : Int) (i_t_isSaved : Int) (i_t_thrown : Int) (i_t_inputMany : Int) (i_t_lastError : Int) (i_t_lastOffset : Int) (i_t_error : Int) (i_t_offset : Int) (i_t_nextByte : Int) (i_t_begin : Int) (i_t_value : Int) (i_t_token : Int) (i_t_got : Int) (i_t_orders : Int) (i_t_outputMany : Int) (i_t_w : (Int → Int)) (x1 : Int) (q : Int) (hf : fn_Md_latest i_t_w x1 = some q) : jk_MI l D jk_cl (jk_ty cI cR) Z mn_Md_latest (.code mn_Md_latest mb_Md_latest 4 (some .int) :: jk_WA) (jk_rm 2 44) [.ref a_t, jk_V x1] (wd_Md_latest cI a_t a_t_w a_t_wKept a_t_saved a_t_past a_t_input a_t_n a_t_order a_t_numbers a_t_output i_t_pastMany i_t_isSaved i_t_thrown i_t_inputMany i_t_lastError i_t_lastOffset i_t_error i_t_offset i_t_nextByte i_t_begin i_t_value i_t_token i_t_got i_t_orders i_t_outputMany i_t_w) (wd_Md_latest cI a_t a_t_w a_t_wKept a_t_saved a_t_past a_t_input a_t_n a_t_order a_t_numbers a_t_output i_t_pastMany i_t_isSaved i_t_thrown i_t_inputMany i_t_lastError i_t_lastOffset i_t_error i_t_offset i_t_nextByte i_t_begin i_t_value i_t_token i_t_got i_t_orders i_t_outputMany i_t_w) q := by
  intro sz
  refine jk_body (by decide +kernel) (fun p e s m args below meth c hsz hz hin C => ?_) (Nat.le_of_ble_eq_true rfl)
  subst hsz
  unfold fn_Md_latest at hf
  have bk_15 : ∀ (n : Nat) (v1 : Int) (v2 : Int) (v3 : Int), fn_Md_latest_b15 n i_t_w v1 v2 v3 = some q → jk_J p l e (jk_rm 2 44) s m args below meth c 0 0 (jk_QI below D jk_cl (jk_ty cI cR) (wd_Md_latest cI a_t a_t_w a_t_wKept a_t_saved a_t_past a_t_input a_t_n a_t_order a_t_numbers a_t_output i_t_pastMany i_t_isSaved i_t_thrown i_t_inputMany i_t_lastError i_t_lastOffset i_t_error i_t_offset i_t_nextByte i_t_begin i_t_value i_t_token i_t_got i_t_orders i_t_outputMany i_t_w) (wd_Md_latest cI a_t a_t_w a_t_wKept a_t_saved a_t_past a_t_input a_t_n a_t_order a_t_numbers a_t_output i_t_pastMany i_t_isSaved i_t_thrown i_t_inputMany i_t_lastError i_t_lastOffset i_t_error i_t_offset i_t_nextByte i_t_begin i_t_value i_t_token i_t_got i_t_orders i_t_outputMany i_t_w) args s q) D jk_cl (va_A (wd_Md_latest cI a_t a_t_w a_t_wKept a_t_saved a_t_past a_t_input a_t_n a_t_order a_t_numbers a_t_output i_t_pastMany i_t_isSaved i_t_thrown i_t_inputMany i_t_lastError i_t_lastOffset i_t_error i_t_offset i_t_nextByte i_t_begin i_t_value i_t_token i_t_got i_t_orders i_t_outputMany i_t_w) s.heap.size) 4 (wd_Md_latest cI a_t a_t_w a_t_wKept a_t_saved a_t_past a_t_input a_t_n a_t_order a_t_numbers a_t_output i_t_pastMany i_t_isSaved i_t_thrown i_t_inputMany i_t_lastError i_t_lastOffset i_t_error i_t_offset i_t_nextByte i_t_begin i_t_value i_t_token i_t_got i_t_orders i_t_outputMany i_t_w) [(0, .ref a_t), (1, jk_V v1), (2, jk_V v2), (3, jk_V v3)] 15 [] := by
    intro n
    induction n with
    | zero => intro v1 v2 v3 hf; exact nomatch (show none = some q from hf)
    | succ n ih =>
      intro v1 v2 v3 hf
      rw [fn_Md_latest_b15] at hf
      refine jk_iload_n C rd_Md_latest_15 (k := 3) rfl ?_
      refine jk_aload_n C rd_Md_latest_16 (k := 0) rfl ?_
      refine jk_get C in_Md (ci := 11) rfl 0 (by decide) tm_1263 0 rfl rfl rd_Md_latest_17 ?_
      refine jk_iconst C rd_Md_latest_20 ?_
      refine jk_iald C 1 0 rfl rfl (Nat.le_of_ble_eq_true rfl) rd_Md_latest_21 hf (fun hf => ?_)
      refine jk_icmp_ge (tgt := 43) C rd_Md_latest_22 (by decide) hf (fun _ hf => ?_) (fun _ hf => ?_)
      · refine jk_iload_n C rd_Md_latest_43 (k := 2) rfl ?_
        cases hf
        exact jk_iret C rfl rd_Md_latest_44 rfl
      · refine jk_aload_n C rd_Md_latest_25 (k := 0) rfl ?_
        refine jk_iload_n C rd_Md_latest_26 (k := 3) rfl ?_
        refine jk_iconst C rd_Md_latest_27 ?_
        obtain ⟨q28, hq28, hf⟩ := jk_bind_h hf
        refine jk_callVi C hZ.1 hz (ct_Md_of l D Z sq hZ cI cR a_t a_t_w a_t_wKept a_t_saved a_t_past a_t_input a_t_n a_t_order a_t_numbers a_t_output i_t_pastMany i_t_isSaved i_t_thrown i_t_inputMany i_t_lastError i_t_lastOffset i_t_error i_t_offset i_t_nextByte i_t_begin i_t_value i_t_token i_t_got i_t_orders i_t_outputMany i_t_w v3 1 q28 hq28) tm_1256 tm_1258 sl_26 tm_15 tm_1259 na_Md_of ⟨Nat.le_of_ble_eq_true rfl, Nat.le_of_ble_eq_true rfl⟩ rfl [0, 1] rfl rfl rfl (ws' := wd_Md_latest cI a_t a_t_w a_t_wKept a_t_saved a_t_past a_t_input a_t_n a_t_order a_t_numbers a_t_output i_t_pastMany i_t_isSaved i_t_thrown i_t_inputMany i_t_lastError i_t_lastOffset i_t_error i_t_offset i_t_nextByte i_t_begin i_t_value i_t_token i_t_got i_t_orders i_t_outputMany i_t_w) rfl 0 11 rfl rfl rfl (st := []) rfl (Nat.le_of_ble_eq_true rfl) rd_Md_latest_28 ?_ ⟨Nat.le_of_ble_eq_true rfl, Nat.le_of_ble_eq_true rfl⟩
        refine jk_iload_n C rd_Md_latest_31 (k := 1) rfl ?_
        refine jk_icmp_ne (tgt := 37) C rd_Md_latest_32 (by decide) hf (fun _ hf => ?_) (fun _ hf => ?_)
        · refine jk_iinc C rd_Md_latest_37 (k := 3) rfl (by decide) (lv' := [(3, jk_V (v3 + 1)), (0, .ref a_t), (1, jk_V v1), (2, jk_V v2)]) rfl ?_
          refine jk_goto (tgt := 15) C rd_Md_latest_40 (by decide) ?_
          refine jk_lv (lv' := [(0, .ref a_t), (1, jk_V v1), (2, jk_V v2), (3, jk_V (v3 + 1))]) [1, 2, 3, 0] rfl ?_
          exact ih v1 v2 (v3 + 1) hf
        · refine jk_iload_n C rd_Md_latest_35 (k := 3) rfl ?_
          refine jk_istore_n C rd_Md_latest_36 (by decide) (lv' := [(2, jk_V v3), (0, .ref a_t), (1, jk_V v1), (3, jk_V v3)]) rfl ?_
          refine jk_iinc C rd_Md_latest_37 (k := 3) rfl (by decide) (lv' := [(3, jk_V (v3 + 1)), (2, jk_V v3), (0, .ref a_t), (1, jk_V v1)]) rfl ?_
          refine jk_goto (tgt := 15) C rd_Md_latest_40 (by decide) ?_
          refine jk_lv (lv' := [(0, .ref a_t), (1, jk_V v1), (2, jk_V v3), (3, jk_V (v3 + 1))]) [2, 3, 1, 0] rfl ?_
          exact ih v1 v3 (v3 + 1) hf
  refine jk_iconst C rd_Md_latest_0 ?_
  refine jk_istore_n C rd_Md_latest_1 (by decide) (lv' := [(2, jk_V ((-1))), (0, .ref a_t), (1, jk_V x1)]) rfl ?_
  refine jk_aload_n C rd_Md_latest_2 (k := 1) rfl ?_
  refine jk_aload_n C rd_Md_latest_3 (k := 1) rfl ?_
  refine jk_get C in_Md (ci := 11) rfl 0 (by decide) tm_1263 0 rfl rfl rd_Md_latest_4 ?_
  refine jk_iconst C rd_Md_latest_7 ?_
  refine jk_iald C 1 0 rfl rfl (Nat.le_of_ble_eq_true rfl) rd_Md_latest_8 hf (fun hf => ?_)
  refine jk_iconst C rd_Md_latest_9 ?_
  refine jk_isub C rd_Md_latest_10 ?_
  obtain ⟨q11, hq11, hf⟩ := jk_bind_h hf
  refine jk_callVi C hZ.1 hz (ct_Md_first l D Z sq hZ cI cR a_t a_t_w a_t_wKept a_t_saved a_t_past a_t_input a_t_n a_t_order a_t_numbers a_t_output i_t_pastMany i_t_isSaved i_t_thrown i_t_inputMany i_t_lastError i_t_lastOffset i_t_error i_t_offset i_t_nextByte i_t_begin i_t_value i_t_token i_t_got i_t_orders i_t_outputMany i_t_w ((i_t_w 1) - 1) q11 hq11) tm_1433 tm_1435 sl_44 tm_15 tm_1436 na_Md_first ⟨Nat.le_of_ble_eq_true rfl, Nat.le_of_ble_eq_true rfl⟩ rfl [0, 1] rfl rfl rfl (ws' := wd_Md_latest cI a_t a_t_w a_t_wKept a_t_saved a_t_past a_t_input a_t_n a_t_order a_t_numbers a_t_output i_t_pastMany i_t_isSaved i_t_thrown i_t_inputMany i_t_lastError i_t_lastOffset i_t_error i_t_offset i_t_nextByte i_t_begin i_t_value i_t_token i_t_got i_t_orders i_t_outputMany i_t_w) rfl 0 11 rfl rfl rfl (st := []) rfl (Nat.le_of_ble_eq_true rfl) rd_Md_latest_11 ?_ ⟨Nat.le_of_ble_eq_true rfl, Nat.le_of_ble_eq_true rfl⟩
  refine jk_istore_n C rd_Md_latest_14 (by decide) (lv' := [(3, jk_V q11), (2, jk_V ((-1))), (0, .ref a_t), (1, jk_V x1)]) rfl ?_
  refine jk_lv (lv' := [(0, .ref a_t), (1, jk_V x1), (2, jk_V ((-1))), (3, jk_V q11)]) [2, 3, 1, 0] rfl ?_
  exact bk_15 jk_F x1 ((-1)) q11 hf
def wd_Md_readSub (cI : ClassId) (a_t a_t_w a_t_wKept a_t_saved a_t_past a_t_input a_t_n a_t_order a_t_numbers a_t_output : Nat) (i_t_pastMany : Int) (i_t_isSaved : Int) (i_t_thrown : Int) (i_t_inputMany : Int) (i_t_lastError : Int) (i_t_lastOffset : Int) (i_t_error : Int) (i_t_offset : Int) (i_t_nextByte : Int) (i_t_begin : Int) (i_t_value : Int) (i_t_token : Int) (i_t_got : Int) (i_t_orders : Int) (i_t_outputMany : Int) (i_t_w : (Int → Int)) (i_t_input : (Int → Int)) (i_t_n : (Int → Int)) : va_W := [(a_t, .inr (11, [.ref a_t_w, .ref a_t_wKept, .ref a_t_saved, .ref a_t_past, jk_V i_t_pastMany, jk_V i_t_isSaved, jk_V i_t_thrown, .ref a_t_input, jk_V i_t_inputMany, jk_V i_t_lastError, jk_V i_t_lastOffset, jk_V i_t_error, jk_V i_t_offset, jk_V i_t_nextByte, jk_V i_t_begin, jk_V i_t_value, jk_V i_t_token, jk_V i_t_got, .ref a_t_n, .ref a_t_order, .ref a_t_numbers, jk_V i_t_orders, .ref a_t_output, jk_V i_t_outputMany])), (a_t_w, jk_W cI 259 i_t_w), (a_t_input, jk_W cI 700 i_t_input), (a_t_n, jk_W cI 3 i_t_n)]
set_option maxHeartbeats 4000000 in
set_option maxRecDepth 20000 in
theorem ct_Md_readSub (l : Launch) (D : va_G) (Z : (Nat → Prop) → State → Heap → Prop) (sq : Nat → Nat) (hZ : jk_ZK Z sq) (cI cR : ClassId) (a_t a_t_w a_t_wKept a_t_saved a_t_past a_t_input a_t_n a_t_order a_t_numbers a_t_output : Nat) (i_t_pastMany : Int) (i_t_isSaved : Int) (i_t_thrown : Int) (i_t_inputMany : Int) (i_t_lastError : Int) (i_t_lastOffset : Int) (i_t_error : Int) (i_t_offset : Int) (i_t_nextByte : Int) (i_t_begin : Int) (i_t_value : Int) (i_t_token : Int) (i_t_got : Int) (i_t_orders : Int) (i_t_outputMany : Int) (i_t_w : (Int → Int)) (i_t_input : (Int → Int)) (i_t_n : (Int → Int)) (q : Int × (Int → Int) × Int × Int × Int × Int × Int × Int × Int × (Int → Int)) (hf : fn_Md_readSub i_t_w i_t_input i_t_inputMany i_t_error i_t_offset i_t_nextByte i_t_begin i_t_value i_t_token i_t_got i_t_n = some q) : jk_MI l D jk_cl (jk_ty cI cR) Z mn_Md_readSub (.code mn_Md_readSub mb_Md_readSub 3 (some .boolean) :: jk_WA) (jk_rm 8 346) [.ref a_t] (wd_Md_readSub cI a_t a_t_w a_t_wKept a_t_saved a_t_past a_t_input a_t_n a_t_order a_t_numbers a_t_output i_t_pastMany i_t_isSaved i_t_thrown i_t_inputMany i_t_lastError i_t_lastOffset i_t_error i_t_offset i_t_nextByte i_t_begin i_t_value i_t_token i_t_got i_t_orders i_t_outputMany i_t_w i_t_input i_t_n) (wd_Md_readSub cI a_t a_t_w a_t_wKept a_t_saved a_t_past a_t_input a_t_n a_t_order a_t_numbers a_t_output i_t_pastMany i_t_isSaved i_t_thrown i_t_inputMany i_t_lastError i_t_lastOffset q.2.2.1 q.2.2.2.1 q.2.2.2.2.1 q.2.2.2.2.2.1 q.2.2.2.2.2.2.1 q.2.2.2.2.2.2.2.1 q.2.2.2.2.2.2.2.2.1 i_t_orders i_t_outputMany q.2.1 i_t_input q.2.2.2.2.2.2.2.2.2) q.1 := by
  intro sz
  refine jk_body (by decide +kernel) (fun p e s m args below meth c hsz hz hin C => ?_) (Nat.le_of_ble_eq_true rfl)
  subst hsz
  unfold fn_Md_readSub at hf
  refine jk_aload_n C rd_Md_readSub_0 (k := 0) rfl ?_
  obtain ⟨q1, hq1, hf⟩ := jk_bind_h hf
  refine jk_callVv C hZ.1 hz (ct_Md_advanceToken l D Z sq hZ cI cR a_t a_t_w a_t_wKept a_t_saved a_t_past a_t_input a_t_n a_t_order a_t_numbers a_t_output i_t_pastMany i_t_isSaved i_t_thrown i_t_inputMany i_t_lastError i_t_lastOffset i_t_error i_t_offset i_t_nextByte i_t_begin i_t_value i_t_token i_t_got i_t_orders i_t_outputMany i_t_input q1 hq1) tm_1366 tm_1368 sl_29 tm_15 tm_1369 na_Md_advanceToken ⟨Nat.le_of_ble_eq_true rfl, Nat.le_of_ble_eq_true rfl⟩ rfl [0, 2] rfl rfl rfl (ws' := wd_Md_readSub cI a_t a_t_w a_t_wKept a_t_saved a_t_past a_t_input a_t_n a_t_order a_t_numbers a_t_output i_t_pastMany i_t_isSaved i_t_thrown i_t_inputMany i_t_lastError i_t_lastOffset i_t_error i_t_offset q1.1 q1.2.1 q1.2.2.1 q1.2.2.2 i_t_got i_t_orders i_t_outputMany i_t_w i_t_input i_t_n) rfl 0 11 rfl rfl rfl (st := []) rfl (Nat.le_of_ble_eq_true rfl) rd_Md_readSub_1 ?_ ⟨Nat.le_of_ble_eq_true rfl, Nat.le_of_ble_eq_true rfl⟩
  refine jk_aload_n C rd_Md_readSub_4 (k := 0) rfl ?_
  refine jk_iconst C rd_Md_readSub_5 ?_
  refine jk_iconst C rd_Md_readSub_6 ?_
  obtain ⟨q7, hq7, hf⟩ := jk_bind_h hf
  refine jk_callVi C hZ.1 hz (ct_Md_seesNumber l D Z sq hZ cI cR a_t a_t_w a_t_wKept a_t_saved a_t_past a_t_input a_t_n a_t_order a_t_numbers a_t_output i_t_pastMany i_t_isSaved i_t_thrown i_t_inputMany i_t_lastError i_t_lastOffset i_t_error i_t_offset q1.1 q1.2.1 q1.2.2.1 q1.2.2.2 i_t_got i_t_orders i_t_outputMany 2 3 q7 hq7) tm_1449 tm_1451 sl_48 tm_15 tm_1452 na_Md_seesNumber ⟨Nat.le_of_ble_eq_true rfl, Nat.le_of_ble_eq_true rfl⟩ rfl [0] rfl rfl rfl (ws' := wd_Md_readSub cI a_t a_t_w a_t_wKept a_t_saved a_t_past a_t_input a_t_n a_t_order a_t_numbers a_t_output i_t_pastMany i_t_isSaved i_t_thrown i_t_inputMany i_t_lastError i_t_lastOffset q7.2.1 q7.2.2.1 q1.1 q1.2.1 q1.2.2.1 q1.2.2.2 q7.2.2.2 i_t_orders i_t_outputMany i_t_w i_t_input i_t_n) rfl 0 11 rfl rfl rfl (st := []) rfl (Nat.le_of_ble_eq_true rfl) rd_Md_readSub_7 ?_ ⟨Nat.le_of_ble_eq_true rfl, Nat.le_of_ble_eq_true rfl⟩
  refine jk_if_ne (tgt := 15) C rd_Md_readSub_10 (by decide) hf (fun _ hf => ?_) (fun _ hf => ?_)
  · refine jk_aload_n C rd_Md_readSub_15 (k := 0) rfl ?_
    refine jk_get C in_Md (ci := 11) rfl 17 (by decide) tm_1280 0 rfl rfl rd_Md_readSub_16 ?_
    refine jk_istore_n C rd_Md_readSub_19 (by decide) (lv' := [(1, jk_V q7.2.2.2), (0, .ref a_t)]) rfl ?_
    refine jk_aload_n C rd_Md_readSub_20 (k := 1) rfl ?_
    refine jk_iload_n C rd_Md_readSub_21 (k := 0) rfl ?_
    refine jk_iconst C rd_Md_readSub_22 ?_
    refine jk_isub C rd_Md_readSub_23 ?_
    obtain ⟨q24, hq24, hf⟩ := jk_bind_h hf
    refine jk_callVi C hZ.1 hz (ct_Md_latest l D Z sq hZ cI cR a_t a_t_w a_t_wKept a_t_saved a_t_past a_t_input a_t_n a_t_order a_t_numbers a_t_output i_t_pastMany i_t_isSaved i_t_thrown i_t_inputMany i_t_lastError i_t_lastOffset q7.2.1 q7.2.2.1 q1.1 q1.2.1 q1.2.2.1 q1.2.2.2 q7.2.2.2 i_t_orders i_t_outputMany i_t_w (q7.2.2.2 - 1) q24 hq24) tm_1453 tm_1455 sl_49 tm_15 tm_1456 na_Md_latest ⟨Nat.le_of_ble_eq_true rfl, Nat.le_of_ble_eq_true rfl⟩ rfl [0, 1] rfl rfl rfl (ws' := wd_Md_readSub cI a_t a_t_w a_t_wKept a_t_saved a_t_past a_t_input a_t_n a_t_order a_t_numbers a_t_output i_t_pastMany i_t_isSaved i_t_thrown i_t_inputMany i_t_lastError i_t_lastOffset q7.2.1 q7.2.2.1 q1.1 q1.2.1 q1.2.2.1 q1.2.2.2 q7.2.2.2 i_t_orders i_t_outputMany i_t_w i_t_input i_t_n) rfl 0 11 rfl rfl rfl (st := []) rfl (Nat.le_of_ble_eq_true rfl) rd_Md_readSub_24 ?_ ⟨Nat.le_of_ble_eq_true rfl, Nat.le_of_ble_eq_true rfl⟩
    refine jk_istore_n C rd_Md_readSub_27 (by decide) (lv' := [(2, jk_V q24), (1, jk_V q7.2.2.2), (0, .ref a_t)]) rfl ?_
    refine jk_iload_n C rd_Md_readSub_28 (k := 0) rfl ?_
    refine jk_iconst C rd_Md_readSub_29 ?_
    refine jk_icmp_ne (tgt := 39) C rd_Md_readSub_30 (by decide) hf (fun _ hf => ?_) (fun _ hf => ?_)
    · refine jk_aload_n C rd_Md_readSub_39 (k := 2) rfl ?_
      obtain ⟨q40, hq40, hf⟩ := jk_bind_h hf
      refine jk_callVv C hZ.1 hz (ct_Md_advanceToken l D Z sq hZ cI cR a_t a_t_w a_t_wKept a_t_saved a_t_past a_t_input a_t_n a_t_order a_t_numbers a_t_output i_t_pastMany i_t_isSaved i_t_thrown i_t_inputMany i_t_lastError i_t_lastOffset q7.2.1 q7.2.2.1 q1.1 q1.2.1 q1.2.2.1 q1.2.2.2 q7.2.2.2 i_t_orders i_t_outputMany i_t_input q40 hq40) tm_1366 tm_1368 sl_29 tm_15 tm_1369 na_Md_advanceToken ⟨Nat.le_of_ble_eq_true rfl, Nat.le_of_ble_eq_true rfl⟩ rfl [0, 2] rfl rfl rfl (ws' := wd_Md_readSub cI a_t a_t_w a_t_wKept a_t_saved a_t_past a_t_input a_t_n a_t_order a_t_numbers a_t_output i_t_pastMany i_t_isSaved i_t_thrown i_t_inputMany i_t_lastError i_t_lastOffset q7.2.1 q7.2.2.1 q40.1 q40.2.1 q40.2.2.1 q40.2.2.2 q7.2.2.2 i_t_orders i_t_outputMany i_t_w i_t_input i_t_n) rfl 0 11 rfl rfl rfl (st := []) rfl (Nat.le_of_ble_eq_true rfl) rd_Md_readSub_40 ?_ ⟨Nat.le_of_ble_eq_true rfl, Nat.le_of_ble_eq_true rfl⟩
      refine jk_aload_n C rd_Md_readSub_43 (k := 2) rfl ?_
      refine jk_aload_n C rd_Md_readSub_44 (k := 2) rfl ?_
      refine jk_iload_n C rd_Md_readSub_45 (k := 0) rfl ?_
      obtain ⟨q46, hq46, hf⟩ := jk_bind_h hf
      refine jk_callVi C hZ.1 hz (ct_Md_behind l D Z sq hZ cI cR a_t a_t_w a_t_wKept a_t_saved a_t_past a_t_input a_t_n a_t_order a_t_numbers a_t_output i_t_pastMany i_t_isSaved i_t_thrown i_t_inputMany i_t_lastError i_t_lastOffset q7.2.1 q7.2.2.1 q40.1 q40.2.1 q40.2.2.1 q40.2.2.2 q7.2.2.2 i_t_orders i_t_outputMany i_t_w q24 q46 hq46) tm_1457 tm_1459 sl_50 tm_15 tm_1460 na_Md_behind ⟨Nat.le_of_ble_eq_true rfl, Nat.le_of_ble_eq_true rfl⟩ rfl [0, 1] rfl rfl rfl (ws' := wd_Md_readSub cI a_t a_t_w a_t_wKept a_t_saved a_t_past a_t_input a_t_n a_t_order a_t_numbers a_t_output i_t_pastMany i_t_isSaved i_t_thrown i_t_inputMany i_t_lastError i_t_lastOffset q7.2.1 q7.2.2.1 q40.1 q40.2.1 q40.2.2.1 q40.2.2.2 q7.2.2.2 i_t_orders i_t_outputMany i_t_w i_t_input i_t_n) rfl 0 11 rfl rfl rfl (st := [.ref a_t]) rfl (Nat.le_of_ble_eq_true rfl) rd_Md_readSub_46 ?_ ⟨Nat.le_of_ble_eq_true rfl, Nat.le_of_ble_eq_true rfl⟩
      refine jk_iload_n C rd_Md_readSub_49 (k := 1) rfl ?_
      obtain ⟨q50, hq50, hf⟩ := jk_bind_h hf
      refine jk_callVi C hZ.1 hz (ct_Md_takesCord l D Z sq hZ cI cR a_t a_t_w a_t_wKept a_t_saved a_t_past a_t_input a_t_n a_t_order a_t_numbers a_t_output i_t_pastMany i_t_isSaved i_t_thrown i_t_inputMany i_t_lastError i_t_lastOffset q7.2.1 q7.2.2.1 q40.1 q40.2.1 q40.2.2.1 q40.2.2.2 q7.2.2.2 i_t_orders i_t_outputMany i_t_w i_t_input i_t_n q46 q7.2.2.2 q50 hq50) tm_1461 tm_1463 sl_51 tm_15 tm_1464 na_Md_takesCord ⟨Nat.le_of_ble_eq_true rfl, Nat.le_of_ble_eq_true rfl⟩ rfl [0, 1, 2, 3] rfl rfl rfl (ws' := wd_Md_readSub cI a_t a_t_w a_t_wKept a_t_saved a_t_past a_t_input a_t_n a_t_order a_t_numbers a_t_output i_t_pastMany i_t_isSaved i_t_thrown i_t_inputMany i_t_lastError i_t_lastOffset q50.2.2.1 q50.2.2.2.1 q50.2.2.2.2.1 q50.2.2.2.2.2.1 q50.2.2.2.2.2.2.1 q50.2.2.2.2.2.2.2.1 q50.2.2.2.2.2.2.2.2.1 i_t_orders i_t_outputMany q50.2.1 i_t_input q50.2.2.2.2.2.2.2.2.2) rfl 0 11 rfl rfl rfl (st := []) rfl (Nat.le_of_ble_eq_true rfl) rd_Md_readSub_50 ?_ ⟨Nat.le_of_ble_eq_true rfl, Nat.le_of_ble_eq_true rfl⟩
      obtain ⟨hbo, hf⟩ := jk_bo_h hf
      cases hf
      exact jk_zret C hbo rfl rd_Md_readSub_53 rfl
    · refine jk_aload_n C rd_Md_readSub_33 (k := 2) rfl ?_
      refine jk_iconst C rd_Md_readSub_34 ?_
      obtain ⟨q35, hq35, hf⟩ := jk_bind_h hf
      refine jk_callVi C hZ.1 hz (ct_Md_failsAt l D Z sq hZ cI cR a_t a_t_w a_t_wKept a_t_saved a_t_past a_t_input a_t_n a_t_order a_t_numbers a_t_output i_t_pastMany i_t_isSaved i_t_thrown i_t_inputMany i_t_lastError i_t_lastOffset q7.2.1 q7.2.2.1 q1.1 q1.2.1 q1.2.2.1 q1.2.2.2 q7.2.2.2 i_t_orders i_t_outputMany 5 q35 hq35) tm_1397 tm_1399 sl_36 tm_15 tm_1400 na_Md_failsAt ⟨Nat.le_of_ble_eq_true rfl, Nat.le_of_ble_eq_true rfl⟩ rfl [0] rfl rfl rfl (ws' := wd_Md_readSub cI a_t a_t_w a_t_wKept a_t_saved a_t_past a_t_input a_t_n a_t_order a_t_numbers a_t_output i_t_pastMany i_t_isSaved i_t_thrown i_t_inputMany i_t_lastError i_t_lastOffset q35.2.1 q35.2.2 q1.1 q1.2.1 q1.2.2.1 q1.2.2.2 q7.2.2.2 i_t_orders i_t_outputMany i_t_w i_t_input i_t_n) rfl 0 11 rfl rfl rfl (st := []) rfl (Nat.le_of_ble_eq_true rfl) rd_Md_readSub_35 ?_ ⟨Nat.le_of_ble_eq_true rfl, Nat.le_of_ble_eq_true rfl⟩
      obtain ⟨hbo, hf⟩ := jk_bo_h hf
      cases hf
      exact jk_zret C hbo rfl rd_Md_readSub_38 rfl
  · refine jk_iconst C rd_Md_readSub_13 ?_
    cases hf
    exact jk_zret C (Or.inl rfl) rfl rd_Md_readSub_14 rfl
def wd_Md_readCord (cI : ClassId) (a_t a_t_w a_t_wKept a_t_saved a_t_past a_t_input a_t_n a_t_order a_t_numbers a_t_output : Nat) (i_t_pastMany : Int) (i_t_isSaved : Int) (i_t_thrown : Int) (i_t_inputMany : Int) (i_t_lastError : Int) (i_t_lastOffset : Int) (i_t_error : Int) (i_t_offset : Int) (i_t_nextByte : Int) (i_t_begin : Int) (i_t_value : Int) (i_t_token : Int) (i_t_got : Int) (i_t_orders : Int) (i_t_outputMany : Int) (i_t_w : (Int → Int)) (i_t_input : (Int → Int)) (i_t_n : (Int → Int)) : va_W := [(a_t, .inr (11, [.ref a_t_w, .ref a_t_wKept, .ref a_t_saved, .ref a_t_past, jk_V i_t_pastMany, jk_V i_t_isSaved, jk_V i_t_thrown, .ref a_t_input, jk_V i_t_inputMany, jk_V i_t_lastError, jk_V i_t_lastOffset, jk_V i_t_error, jk_V i_t_offset, jk_V i_t_nextByte, jk_V i_t_begin, jk_V i_t_value, jk_V i_t_token, jk_V i_t_got, .ref a_t_n, .ref a_t_order, .ref a_t_numbers, jk_V i_t_orders, .ref a_t_output, jk_V i_t_outputMany])), (a_t_w, jk_W cI 259 i_t_w), (a_t_input, jk_W cI 700 i_t_input), (a_t_n, jk_W cI 3 i_t_n)]
set_option maxHeartbeats 4000000 in
set_option maxRecDepth 20000 in
theorem ct_Md_readCord (l : Launch) (D : va_G) (Z : (Nat → Prop) → State → Heap → Prop) (sq : Nat → Nat) (hZ : jk_ZK Z sq) (cI cR : ClassId) (a_t a_t_w a_t_wKept a_t_saved a_t_past a_t_input a_t_n a_t_order a_t_numbers a_t_output : Nat) (i_t_pastMany : Int) (i_t_isSaved : Int) (i_t_thrown : Int) (i_t_inputMany : Int) (i_t_lastError : Int) (i_t_lastOffset : Int) (i_t_error : Int) (i_t_offset : Int) (i_t_nextByte : Int) (i_t_begin : Int) (i_t_value : Int) (i_t_token : Int) (i_t_got : Int) (i_t_orders : Int) (i_t_outputMany : Int) (i_t_w : (Int → Int)) (i_t_input : (Int → Int)) (i_t_n : (Int → Int)) (q : Int × (Int → Int) × Int × Int × Int × Int × Int × Int × Int × (Int → Int)) (hf : fn_Md_readCord i_t_w i_t_input i_t_inputMany i_t_error i_t_offset i_t_nextByte i_t_begin i_t_value i_t_token i_t_got i_t_n = some q) : jk_MI l D jk_cl (jk_ty cI cR) Z mn_Md_readCord (.code mn_Md_readCord mb_Md_readCord 2 (some .boolean) :: jk_WA) (jk_rm 9 368) [.ref a_t] (wd_Md_readCord cI a_t a_t_w a_t_wKept a_t_saved a_t_past a_t_input a_t_n a_t_order a_t_numbers a_t_output i_t_pastMany i_t_isSaved i_t_thrown i_t_inputMany i_t_lastError i_t_lastOffset i_t_error i_t_offset i_t_nextByte i_t_begin i_t_value i_t_token i_t_got i_t_orders i_t_outputMany i_t_w i_t_input i_t_n) (wd_Md_readCord cI a_t a_t_w a_t_wKept a_t_saved a_t_past a_t_input a_t_n a_t_order a_t_numbers a_t_output i_t_pastMany i_t_isSaved i_t_thrown i_t_inputMany i_t_lastError i_t_lastOffset q.2.2.1 q.2.2.2.1 q.2.2.2.2.1 q.2.2.2.2.2.1 q.2.2.2.2.2.2.1 q.2.2.2.2.2.2.2.1 q.2.2.2.2.2.2.2.2.1 i_t_orders i_t_outputMany q.2.1 i_t_input q.2.2.2.2.2.2.2.2.2) q.1 := by
  intro sz
  refine jk_body (by decide +kernel) (fun p e s m args below meth c hsz hz hin C => ?_) (Nat.le_of_ble_eq_true rfl)
  subst hsz
  unfold fn_Md_readCord at hf
  have bk_41 : ∀ (t_w : (Int → Int)) (t_error : Int) (t_offset : Int) (t_nextByte : Int) (t_begin : Int) (t_value : Int) (t_token : Int) (t_got : Int) (t_n : (Int → Int)) (v1 : Int), fn_Md_readCord_b41 t_w i_t_input i_t_inputMany t_error t_offset t_nextByte t_begin t_value t_token t_got t_n v1 = some q → jk_J p l e (jk_rm 9 368) s m args below meth c 0 0 (jk_QI below D jk_cl (jk_ty cI cR) (wd_Md_readCord cI a_t a_t_w a_t_wKept a_t_saved a_t_past a_t_input a_t_n a_t_order a_t_numbers a_t_output i_t_pastMany i_t_isSaved i_t_thrown i_t_inputMany i_t_lastError i_t_lastOffset i_t_error i_t_offset i_t_nextByte i_t_begin i_t_value i_t_token i_t_got i_t_orders i_t_outputMany i_t_w i_t_input i_t_n) (wd_Md_readCord cI a_t a_t_w a_t_wKept a_t_saved a_t_past a_t_input a_t_n a_t_order a_t_numbers a_t_output i_t_pastMany i_t_isSaved i_t_thrown i_t_inputMany i_t_lastError i_t_lastOffset q.2.2.1 q.2.2.2.1 q.2.2.2.2.1 q.2.2.2.2.2.1 q.2.2.2.2.2.2.1 q.2.2.2.2.2.2.2.1 q.2.2.2.2.2.2.2.2.1 i_t_orders i_t_outputMany q.2.1 i_t_input q.2.2.2.2.2.2.2.2.2) args s q.1) D jk_cl (va_A (wd_Md_readCord cI a_t a_t_w a_t_wKept a_t_saved a_t_past a_t_input a_t_n a_t_order a_t_numbers a_t_output i_t_pastMany i_t_isSaved i_t_thrown i_t_inputMany i_t_lastError i_t_lastOffset i_t_error i_t_offset i_t_nextByte i_t_begin i_t_value i_t_token i_t_got i_t_orders i_t_outputMany i_t_w i_t_input i_t_n) s.heap.size) 2 (wd_Md_readCord cI a_t a_t_w a_t_wKept a_t_saved a_t_past a_t_input a_t_n a_t_order a_t_numbers a_t_output i_t_pastMany i_t_isSaved i_t_thrown i_t_inputMany i_t_lastError i_t_lastOffset t_error t_offset t_nextByte t_begin t_value t_token t_got i_t_orders i_t_outputMany t_w i_t_input t_n) [(0, .ref a_t), (1, jk_V v1)] 41 [] := by
    intro t_w t_error t_offset t_nextByte t_begin t_value t_token t_got t_n v1 hf
    unfold fn_Md_readCord_b41 at hf
    refine jk_aload_n C rd_Md_readCord_41 (k := 0) rfl ?_
    obtain ⟨q42, hq42, hf⟩ := jk_bind_h hf
    refine jk_callVi C hZ.1 hz (ct_Md_mayAdd l D Z sq hZ cI cR a_t a_t_w a_t_wKept a_t_saved a_t_past a_t_input a_t_n a_t_order a_t_numbers a_t_output i_t_pastMany i_t_isSaved i_t_thrown i_t_inputMany i_t_lastError i_t_lastOffset t_error t_offset t_nextByte t_begin t_value t_token t_got i_t_orders i_t_outputMany t_w q42 hq42) tm_1441 tm_1443 sl_46 tm_15 tm_1444 na_Md_mayAdd ⟨Nat.le_of_ble_eq_true rfl, Nat.le_of_ble_eq_true rfl⟩ rfl [0, 1] rfl rfl rfl (ws' := wd_Md_readCord cI a_t a_t_w a_t_wKept a_t_saved a_t_past a_t_input a_t_n a_t_order a_t_numbers a_t_output i_t_pastMany i_t_isSaved i_t_thrown i_t_inputMany i_t_lastError i_t_lastOffset t_error t_offset t_nextByte t_begin t_value t_token t_got i_t_orders i_t_outputMany t_w i_t_input t_n) rfl 0 11 rfl rfl rfl (st := []) rfl (Nat.le_of_ble_eq_true rfl) rd_Md_readCord_42 ?_ ⟨Nat.le_of_ble_eq_true rfl, Nat.le_of_ble_eq_true rfl⟩
    refine jk_if_ne (tgt := 55) C rd_Md_readCord_45 (by decide) hf (fun _ hf => ?_) (fun _ hf => ?_)
    · refine jk_aload_n C rd_Md_readCord_55 (k := 0) rfl ?_
      refine jk_ldcs C hZ hz rd_Md_readCord_56 (k := 32) rfl ?_
      obtain ⟨q58, hq58, hf⟩ := jk_bind_h hf
      refine jk_callVi C hZ.1 hz (ct_Md_isWord l D Z sq hZ cI cR a_t a_t_w a_t_wKept a_t_saved a_t_past a_t_input a_t_n a_t_order a_t_numbers a_t_output i_t_pastMany i_t_isSaved i_t_thrown i_t_inputMany i_t_lastError i_t_lastOffset t_error t_offset t_nextByte t_begin t_value t_token t_got i_t_orders i_t_outputMany i_t_input ([115, 117, 98]) ((sq 32)) ((jk_zs hZ (k := 32) rfl)) q58 hq58) tm_1387 tm_1389 sl_34 tm_15 tm_1390 na_Md_isWord ⟨Nat.le_of_ble_eq_true rfl, Nat.le_of_ble_eq_true rfl⟩ rfl [0, 2] rfl rfl rfl (ws' := wd_Md_readCord cI a_t a_t_w a_t_wKept a_t_saved a_t_past a_t_input a_t_n a_t_order a_t_numbers a_t_output i_t_pastMany i_t_isSaved i_t_thrown i_t_inputMany i_t_lastError i_t_lastOffset t_error t_offset t_nextByte t_begin t_value t_token t_got i_t_orders i_t_outputMany t_w i_t_input t_n) rfl 0 11 rfl rfl rfl (st := []) rfl (Nat.le_of_ble_eq_true rfl) rd_Md_readCord_58 ?_ ⟨Nat.le_of_ble_eq_true rfl, Nat.le_of_ble_eq_true rfl⟩
      refine jk_if_eq (tgt := 69) C rd_Md_readCord_61 (by decide) hf (fun _ hf => ?_) (fun _ hf => ?_)
      · refine jk_aload_n C rd_Md_readCord_69 (k := 0) rfl ?_
        obtain ⟨q70, hq70, hf⟩ := jk_bind_h hf
        refine jk_callVv C hZ.1 hz (ct_Md_advanceToken l D Z sq hZ cI cR a_t a_t_w a_t_wKept a_t_saved a_t_past a_t_input a_t_n a_t_order a_t_numbers a_t_output i_t_pastMany i_t_isSaved i_t_thrown i_t_inputMany i_t_lastError i_t_lastOffset t_error t_offset t_nextByte t_begin t_value t_token t_got i_t_orders i_t_outputMany i_t_input q70 hq70) tm_1366 tm_1368 sl_29 tm_15 tm_1369 na_Md_advanceToken ⟨Nat.le_of_ble_eq_true rfl, Nat.le_of_ble_eq_true rfl⟩ rfl [0, 2] rfl rfl rfl (ws' := wd_Md_readCord cI a_t a_t_w a_t_wKept a_t_saved a_t_past a_t_input a_t_n a_t_order a_t_numbers a_t_output i_t_pastMany i_t_isSaved i_t_thrown i_t_inputMany i_t_lastError i_t_lastOffset t_error t_offset q70.1 q70.2.1 q70.2.2.1 q70.2.2.2 t_got i_t_orders i_t_outputMany t_w i_t_input t_n) rfl 0 11 rfl rfl rfl (st := []) rfl (Nat.le_of_ble_eq_true rfl) rd_Md_readCord_70 ?_ ⟨Nat.le_of_ble_eq_true rfl, Nat.le_of_ble_eq_true rfl⟩
        refine jk_iload_n C rd_Md_readCord_73 (k := 1) rfl ?_
        refine jk_if_eq (tgt := 97) C rd_Md_readCord_74 (by decide) hf (fun _ hf => ?_) (fun _ hf => ?_)
        · refine jk_aload_n C rd_Md_readCord_97 (k := 0) rfl ?_
          refine jk_aload_n C rd_Md_readCord_98 (k := 0) rfl ?_
          refine jk_get C in_Md (ci := 11) rfl 0 (by decide) tm_1263 0 rfl rfl rd_Md_readCord_99 ?_
          refine jk_iconst C rd_Md_readCord_102 ?_
          refine jk_iald C 1 0 rfl rfl (Nat.le_of_ble_eq_true rfl) rd_Md_readCord_103 hf (fun hf => ?_)
          refine jk_iconst C rd_Md_readCord_104 ?_
          obtain ⟨q105, hq105, hf⟩ := jk_bind_h hf
          refine jk_callVi C hZ.1 hz (ct_Md_takesCord l D Z sq hZ cI cR a_t a_t_w a_t_wKept a_t_saved a_t_past a_t_input a_t_n a_t_order a_t_numbers a_t_output i_t_pastMany i_t_isSaved i_t_thrown i_t_inputMany i_t_lastError i_t_lastOffset t_error t_offset q70.1 q70.2.1 q70.2.2.1 q70.2.2.2 t_got i_t_orders i_t_outputMany t_w i_t_input t_n (t_w 2) 1 q105 hq105) tm_1461 tm_1463 sl_51 tm_15 tm_1464 na_Md_takesCord ⟨Nat.le_of_ble_eq_true rfl, Nat.le_of_ble_eq_true rfl⟩ rfl [0, 1, 2, 3] rfl rfl rfl (ws' := wd_Md_readCord cI a_t a_t_w a_t_wKept a_t_saved a_t_past a_t_input a_t_n a_t_order a_t_numbers a_t_output i_t_pastMany i_t_isSaved i_t_thrown i_t_inputMany i_t_lastError i_t_lastOffset q105.2.2.1 q105.2.2.2.1 q105.2.2.2.2.1 q105.2.2.2.2.2.1 q105.2.2.2.2.2.2.1 q105.2.2.2.2.2.2.2.1 q105.2.2.2.2.2.2.2.2.1 i_t_orders i_t_outputMany q105.2.1 i_t_input q105.2.2.2.2.2.2.2.2.2) rfl 0 11 rfl rfl rfl (st := []) rfl (Nat.le_of_ble_eq_true rfl) rd_Md_readCord_105 ?_ ⟨Nat.le_of_ble_eq_true rfl, Nat.le_of_ble_eq_true rfl⟩
          obtain ⟨hbo, hf⟩ := jk_bo_h hf
          cases hf
          exact jk_zret C hbo rfl rd_Md_readCord_108 rfl
        · refine jk_aload_n C rd_Md_readCord_77 (k := 0) rfl ?_
          refine jk_aload_n C rd_Md_readCord_78 (k := 0) rfl ?_
          refine jk_aload_n C rd_Md_readCord_79 (k := 0) rfl ?_
          refine jk_get C in_Md (ci := 11) rfl 0 (by decide) tm_1263 0 rfl rfl rd_Md_readCord_80 ?_
          refine jk_iconst C rd_Md_readCord_83 ?_
          refine jk_iald C 1 0 rfl rfl (Nat.le_of_ble_eq_true rfl) rd_Md_readCord_84 hf (fun hf => ?_)
          refine jk_iconst C rd_Md_readCord_85 ?_
          refine jk_isub C rd_Md_readCord_86 ?_
          obtain ⟨q87, hq87, hf⟩ := jk_bind_h hf
          refine jk_callVi C hZ.1 hz (ct_Md_first l D Z sq hZ cI cR a_t a_t_w a_t_wKept a_t_saved a_t_past a_t_input a_t_n a_t_order a_t_numbers a_t_output i_t_pastMany i_t_isSaved i_t_thrown i_t_inputMany i_t_lastError i_t_lastOffset t_error t_offset q70.1 q70.2.1 q70.2.2.1 q70.2.2.2 t_got i_t_orders i_t_outputMany t_w ((t_w 1) - 1) q87 hq87) tm_1433 tm_1435 sl_44 tm_15 tm_1436 na_Md_first ⟨Nat.le_of_ble_eq_true rfl, Nat.le_of_ble_eq_true rfl⟩ rfl [0, 1] rfl rfl rfl (ws' := wd_Md_readCord cI a_t a_t_w a_t_wKept a_t_saved a_t_past a_t_input a_t_n a_t_order a_t_numbers a_t_output i_t_pastMany i_t_isSaved i_t_thrown i_t_inputMany i_t_lastError i_t_lastOffset t_error t_offset q70.1 q70.2.1 q70.2.2.1 q70.2.2.2 t_got i_t_orders i_t_outputMany t_w i_t_input t_n) rfl 0 11 rfl rfl rfl (st := [.ref a_t]) rfl (Nat.le_of_ble_eq_true rfl) rd_Md_readCord_87 ?_ ⟨Nat.le_of_ble_eq_true rfl, Nat.le_of_ble_eq_true rfl⟩
          refine jk_iconst C rd_Md_readCord_90 ?_
          obtain ⟨q91, hq91, hf⟩ := jk_bind_h hf
          refine jk_callVi C hZ.1 hz (ct_Md_takesCord l D Z sq hZ cI cR a_t a_t_w a_t_wKept a_t_saved a_t_past a_t_input a_t_n a_t_order a_t_numbers a_t_output i_t_pastMany i_t_isSaved i_t_thrown i_t_inputMany i_t_lastError i_t_lastOffset t_error t_offset q70.1 q70.2.1 q70.2.2.1 q70.2.2.2 t_got i_t_orders i_t_outputMany t_w i_t_input t_n q87 0 q91 hq91) tm_1461 tm_1463 sl_51 tm_15 tm_1464 na_Md_takesCord ⟨Nat.le_of_ble_eq_true rfl, Nat.le_of_ble_eq_true rfl⟩ rfl [0, 1, 2, 3] rfl rfl rfl (ws' := wd_Md_readCord cI a_t a_t_w a_t_wKept a_t_saved a_t_past a_t_input a_t_n a_t_order a_t_numbers a_t_output i_t_pastMany i_t_isSaved i_t_thrown i_t_inputMany i_t_lastError i_t_lastOffset q91.2.2.1 q91.2.2.2.1 q91.2.2.2.2.1 q91.2.2.2.2.2.1 q91.2.2.2.2.2.2.1 q91.2.2.2.2.2.2.2.1 q91.2.2.2.2.2.2.2.2.1 i_t_orders i_t_outputMany q91.2.1 i_t_input q91.2.2.2.2.2.2.2.2.2) rfl 0 11 rfl rfl rfl (st := []) rfl (Nat.le_of_ble_eq_true rfl) rd_Md_readCord_91 ?_ ⟨Nat.le_of_ble_eq_true rfl, Nat.le_of_ble_eq_true rfl⟩
          refine jk_goto (tgt := 108) C rd_Md_readCord_94 (by decide) ?_
          obtain ⟨hbo, hf⟩ := jk_bo_h hf
          cases hf
          exact jk_zret C hbo rfl rd_Md_readCord_108 rfl
      · refine jk_aload_n C rd_Md_readCord_64 (k := 0) rfl ?_
        obtain ⟨q65, hq65, hf⟩ := jk_bind_h hf
        refine jk_callVi C hZ.1 hz (ct_Md_readSub l D Z sq hZ cI cR a_t a_t_w a_t_wKept a_t_saved a_t_past a_t_input a_t_n a_t_order a_t_numbers a_t_output i_t_pastMany i_t_isSaved i_t_thrown i_t_inputMany i_t_lastError i_t_lastOffset t_error t_offset t_nextByte t_begin t_value t_token t_got i_t_orders i_t_outputMany t_w i_t_input t_n q65 hq65) tm_1445 tm_1447 sl_47 tm_15 tm_1448 na_Md_readSub ⟨Nat.le_of_ble_eq_true rfl, Nat.le_of_ble_eq_true rfl⟩ rfl [0, 1, 2, 3] rfl rfl rfl (ws' := wd_Md_readCord cI a_t a_t_w a_t_wKept a_t_saved a_t_past a_t_input a_t_n a_t_order a_t_numbers a_t_output i_t_pastMany i_t_isSaved i_t_thrown i_t_inputMany i_t_lastError i_t_lastOffset q65.2.2.1 q65.2.2.2.1 q65.2.2.2.2.1 q65.2.2.2.2.2.1 q65.2.2.2.2.2.2.1 q65.2.2.2.2.2.2.2.1 q65.2.2.2.2.2.2.2.2.1 i_t_orders i_t_outputMany q65.2.1 i_t_input q65.2.2.2.2.2.2.2.2.2) rfl 0 11 rfl rfl rfl (st := []) rfl (Nat.le_of_ble_eq_true rfl) rd_Md_readCord_65 ?_ ⟨Nat.le_of_ble_eq_true rfl, Nat.le_of_ble_eq_true rfl⟩
        obtain ⟨hbo, hf⟩ := jk_bo_h hf
        cases hf
        exact jk_zret C hbo rfl rd_Md_readCord_68 rfl
    · refine jk_aload_n C rd_Md_readCord_48 (k := 0) rfl ?_
      refine jk_bipush C rd_Md_readCord_49 (by decide +kernel) ?_
      obtain ⟨q51, hq51, hf⟩ := jk_bind_h hf
      refine jk_callVi C hZ.1 hz (ct_Md_failsAt l D Z sq hZ cI cR a_t a_t_w a_t_wKept a_t_saved a_t_past a_t_input a_t_n a_t_order a_t_numbers a_t_output i_t_pastMany i_t_isSaved i_t_thrown i_t_inputMany i_t_lastError i_t_lastOffset t_error t_offset t_nextByte t_begin t_value t_token t_got i_t_orders i_t_outputMany 6 q51 hq51) tm_1397 tm_1399 sl_36 tm_15 tm_1400 na_Md_failsAt ⟨Nat.le_of_ble_eq_true rfl, Nat.le_of_ble_eq_true rfl⟩ rfl [0] rfl rfl rfl (ws' := wd_Md_readCord cI a_t a_t_w a_t_wKept a_t_saved a_t_past a_t_input a_t_n a_t_order a_t_numbers a_t_output i_t_pastMany i_t_isSaved i_t_thrown i_t_inputMany i_t_lastError i_t_lastOffset q51.2.1 q51.2.2 t_nextByte t_begin t_value t_token t_got i_t_orders i_t_outputMany t_w i_t_input t_n) rfl 0 11 rfl rfl rfl (st := []) rfl (Nat.le_of_ble_eq_true rfl) rd_Md_readCord_51 ?_ ⟨Nat.le_of_ble_eq_true rfl, Nat.le_of_ble_eq_true rfl⟩
      obtain ⟨hbo, hf⟩ := jk_bo_h hf
      cases hf
      exact jk_zret C hbo rfl rd_Md_readCord_54 rfl
  refine jk_aload_n C rd_Md_readCord_0 (k := 0) rfl ?_
  refine jk_ldcs C hZ hz rd_Md_readCord_1 (k := 30) rfl ?_
  obtain ⟨q3, hq3, hf⟩ := jk_bind_h hf
  refine jk_callVi C hZ.1 hz (ct_Md_isWord l D Z sq hZ cI cR a_t a_t_w a_t_wKept a_t_saved a_t_past a_t_input a_t_n a_t_order a_t_numbers a_t_output i_t_pastMany i_t_isSaved i_t_thrown i_t_inputMany i_t_lastError i_t_lastOffset i_t_error i_t_offset i_t_nextByte i_t_begin i_t_value i_t_token i_t_got i_t_orders i_t_outputMany i_t_input ([116, 111, 112]) ((sq 30)) ((jk_zs hZ (k := 30) rfl)) q3 hq3) tm_1387 tm_1389 sl_34 tm_15 tm_1390 na_Md_isWord ⟨Nat.le_of_ble_eq_true rfl, Nat.le_of_ble_eq_true rfl⟩ rfl [0, 2] rfl rfl rfl (ws' := wd_Md_readCord cI a_t a_t_w a_t_wKept a_t_saved a_t_past a_t_input a_t_n a_t_order a_t_numbers a_t_output i_t_pastMany i_t_isSaved i_t_thrown i_t_inputMany i_t_lastError i_t_lastOffset i_t_error i_t_offset i_t_nextByte i_t_begin i_t_value i_t_token i_t_got i_t_orders i_t_outputMany i_t_w i_t_input i_t_n) rfl 0 11 rfl rfl rfl (st := []) rfl (Nat.le_of_ble_eq_true rfl) rd_Md_readCord_3 ?_ ⟨Nat.le_of_ble_eq_true rfl, Nat.le_of_ble_eq_true rfl⟩
  refine jk_istore_n C rd_Md_readCord_6 (by decide) (lv' := [(1, jk_V q3), (0, .ref a_t)]) rfl ?_
  refine jk_aload_n C rd_Md_readCord_7 (k := 1) rfl ?_
  refine jk_get C in_Md (ci := 11) rfl 0 (by decide) tm_1263 0 rfl rfl rd_Md_readCord_8 ?_
  refine jk_iconst C rd_Md_readCord_11 ?_
  refine jk_iald C 1 0 rfl rfl (Nat.le_of_ble_eq_true rfl) rd_Md_readCord_12 hf (fun hf => ?_)
  refine jk_if_eq (tgt := 35) C rd_Md_readCord_13 (by decide) hf (fun _ hf => ?_) (fun _ hf => ?_)
  · refine jk_aload_n C rd_Md_readCord_35 (k := 1) rfl ?_
    refine jk_iconst C rd_Md_readCord_36 ?_
    obtain ⟨q37, hq37, hf⟩ := jk_bind_h hf
    refine jk_callVi C hZ.1 hz (ct_Md_failsAt l D Z sq hZ cI cR a_t a_t_w a_t_wKept a_t_saved a_t_past a_t_input a_t_n a_t_order a_t_numbers a_t_output i_t_pastMany i_t_isSaved i_t_thrown i_t_inputMany i_t_lastError i_t_lastOffset i_t_error i_t_offset i_t_nextByte i_t_begin i_t_value i_t_token i_t_got i_t_orders i_t_outputMany 5 q37 hq37) tm_1397 tm_1399 sl_36 tm_15 tm_1400 na_Md_failsAt ⟨Nat.le_of_ble_eq_true rfl, Nat.le_of_ble_eq_true rfl⟩ rfl [0] rfl rfl rfl (ws' := wd_Md_readCord cI a_t a_t_w a_t_wKept a_t_saved a_t_past a_t_input a_t_n a_t_order a_t_numbers a_t_output i_t_pastMany i_t_isSaved i_t_thrown i_t_inputMany i_t_lastError i_t_lastOffset q37.2.1 q37.2.2 i_t_nextByte i_t_begin i_t_value i_t_token i_t_got i_t_orders i_t_outputMany i_t_w i_t_input i_t_n) rfl 0 11 rfl rfl rfl (st := []) rfl (Nat.le_of_ble_eq_true rfl) rd_Md_readCord_37 ?_ ⟨Nat.le_of_ble_eq_true rfl, Nat.le_of_ble_eq_true rfl⟩
    obtain ⟨hbo, hf⟩ := jk_bo_h hf
    cases hf
    exact jk_zret C hbo rfl rd_Md_readCord_40 rfl
  · refine jk_iload_n C rd_Md_readCord_16 (k := 0) rfl ?_
    refine jk_if_eq (tgt := 41) C rd_Md_readCord_17 (by decide) hf (fun _ hf => ?_) (fun _ hf => ?_)
    · refine jk_lv (lv' := [(0, .ref a_t), (1, jk_V q3)]) [1, 0] rfl ?_
      exact bk_41 i_t_w i_t_error i_t_offset i_t_nextByte i_t_begin i_t_value i_t_token i_t_got i_t_n q3 hf
    · refine jk_aload_n C rd_Md_readCord_20 (k := 1) rfl ?_
      refine jk_aload_n C rd_Md_readCord_21 (k := 1) rfl ?_
      refine jk_get C in_Md (ci := 11) rfl 0 (by decide) tm_1263 0 rfl rfl rd_Md_readCord_22 ?_
      refine jk_iconst C rd_Md_readCord_25 ?_
      refine jk_iald C 1 0 rfl rfl (Nat.le_of_ble_eq_true rfl) rd_Md_readCord_26 hf (fun hf => ?_)
      refine jk_iconst C rd_Md_readCord_27 ?_
      refine jk_isub C rd_Md_readCord_28 ?_
      obtain ⟨q29, hq29, hf⟩ := jk_bind_h hf
      refine jk_callVi C hZ.1 hz (ct_Md_hasTop l D Z sq hZ cI cR a_t a_t_w a_t_wKept a_t_saved a_t_past a_t_input a_t_n a_t_order a_t_numbers a_t_output i_t_pastMany i_t_isSaved i_t_thrown i_t_inputMany i_t_lastError i_t_lastOffset i_t_error i_t_offset i_t_nextByte i_t_begin i_t_value i_t_token i_t_got i_t_orders i_t_outputMany i_t_w ((i_t_w 1) - 1) q29 hq29) tm_1429 tm_1431 sl_43 tm_15 tm_1432 na_Md_hasTop ⟨Nat.le_of_ble_eq_true rfl, Nat.le_of_ble_eq_true rfl⟩ rfl [0, 1] rfl rfl rfl (ws' := wd_Md_readCord cI a_t a_t_w a_t_wKept a_t_saved a_t_past a_t_input a_t_n a_t_order a_t_numbers a_t_output i_t_pastMany i_t_isSaved i_t_thrown i_t_inputMany i_t_lastError i_t_lastOffset i_t_error i_t_offset i_t_nextByte i_t_begin i_t_value i_t_token i_t_got i_t_orders i_t_outputMany i_t_w i_t_input i_t_n) rfl 0 11 rfl rfl rfl (st := []) rfl (Nat.le_of_ble_eq_true rfl) rd_Md_readCord_29 ?_ ⟨Nat.le_of_ble_eq_true rfl, Nat.le_of_ble_eq_true rfl⟩
      refine jk_if_eq (tgt := 41) C rd_Md_readCord_32 (by decide) hf (fun _ hf => ?_) (fun _ hf => ?_)
      · refine jk_lv (lv' := [(0, .ref a_t), (1, jk_V q3)]) [1, 0] rfl ?_
        exact bk_41 i_t_w i_t_error i_t_offset i_t_nextByte i_t_begin i_t_value i_t_token i_t_got i_t_n q3 hf
      · refine jk_aload_n C rd_Md_readCord_35 (k := 1) rfl ?_
        refine jk_iconst C rd_Md_readCord_36 ?_
        obtain ⟨q37, hq37, hf⟩ := jk_bind_h hf
        refine jk_callVi C hZ.1 hz (ct_Md_failsAt l D Z sq hZ cI cR a_t a_t_w a_t_wKept a_t_saved a_t_past a_t_input a_t_n a_t_order a_t_numbers a_t_output i_t_pastMany i_t_isSaved i_t_thrown i_t_inputMany i_t_lastError i_t_lastOffset i_t_error i_t_offset i_t_nextByte i_t_begin i_t_value i_t_token i_t_got i_t_orders i_t_outputMany 5 q37 hq37) tm_1397 tm_1399 sl_36 tm_15 tm_1400 na_Md_failsAt ⟨Nat.le_of_ble_eq_true rfl, Nat.le_of_ble_eq_true rfl⟩ rfl [0] rfl rfl rfl (ws' := wd_Md_readCord cI a_t a_t_w a_t_wKept a_t_saved a_t_past a_t_input a_t_n a_t_order a_t_numbers a_t_output i_t_pastMany i_t_isSaved i_t_thrown i_t_inputMany i_t_lastError i_t_lastOffset q37.2.1 q37.2.2 i_t_nextByte i_t_begin i_t_value i_t_token i_t_got i_t_orders i_t_outputMany i_t_w i_t_input i_t_n) rfl 0 11 rfl rfl rfl (st := []) rfl (Nat.le_of_ble_eq_true rfl) rd_Md_readCord_37 ?_ ⟨Nat.le_of_ble_eq_true rfl, Nat.le_of_ble_eq_true rfl⟩
        obtain ⟨hbo, hf⟩ := jk_bo_h hf
        cases hf
        exact jk_zret C hbo rfl rd_Md_readCord_40 rfl
def wd_Md_readSetupStatement (cI : ClassId) (a_t a_t_w a_t_wKept a_t_saved a_t_past a_t_input a_t_n a_t_order a_t_numbers a_t_output : Nat) (i_t_pastMany : Int) (i_t_isSaved : Int) (i_t_thrown : Int) (i_t_inputMany : Int) (i_t_lastError : Int) (i_t_lastOffset : Int) (i_t_error : Int) (i_t_offset : Int) (i_t_nextByte : Int) (i_t_begin : Int) (i_t_value : Int) (i_t_token : Int) (i_t_got : Int) (i_t_orders : Int) (i_t_outputMany : Int) (i_t_w : (Int → Int)) (i_t_input : (Int → Int)) (i_t_n : (Int → Int)) : va_W := [(a_t, .inr (11, [.ref a_t_w, .ref a_t_wKept, .ref a_t_saved, .ref a_t_past, jk_V i_t_pastMany, jk_V i_t_isSaved, jk_V i_t_thrown, .ref a_t_input, jk_V i_t_inputMany, jk_V i_t_lastError, jk_V i_t_lastOffset, jk_V i_t_error, jk_V i_t_offset, jk_V i_t_nextByte, jk_V i_t_begin, jk_V i_t_value, jk_V i_t_token, jk_V i_t_got, .ref a_t_n, .ref a_t_order, .ref a_t_numbers, jk_V i_t_orders, .ref a_t_output, jk_V i_t_outputMany])), (a_t_w, jk_W cI 259 i_t_w), (a_t_input, jk_W cI 700 i_t_input), (a_t_n, jk_W cI 3 i_t_n)]
set_option maxHeartbeats 4000000 in
set_option maxRecDepth 20000 in
theorem ct_Md_readSetupStatement (l : Launch) (D : va_G) (Z : (Nat → Prop) → State → Heap → Prop) (sq : Nat → Nat) (hZ : jk_ZK Z sq) (cI cR : ClassId) (a_t a_t_w a_t_wKept a_t_saved a_t_past a_t_input a_t_n a_t_order a_t_numbers a_t_output : Nat) (i_t_pastMany : Int) (i_t_isSaved : Int) (i_t_thrown : Int) (i_t_inputMany : Int) (i_t_lastError : Int) (i_t_lastOffset : Int) (i_t_error : Int) (i_t_offset : Int) (i_t_nextByte : Int) (i_t_begin : Int) (i_t_value : Int) (i_t_token : Int) (i_t_got : Int) (i_t_orders : Int) (i_t_outputMany : Int) (i_t_w : (Int → Int)) (i_t_input : (Int → Int)) (i_t_n : (Int → Int)) (q : Int × (Int → Int) × Int × Int × Int × Int × Int × Int × Int × (Int → Int)) (hf : fn_Md_readSetupStatement i_t_w i_t_input i_t_inputMany i_t_error i_t_offset i_t_nextByte i_t_begin i_t_value i_t_token i_t_got i_t_n = some q) : jk_MI l D jk_cl (jk_ty cI cR) Z mn_Md_readSetupStatement (.code mn_Md_readSetupStatement mb_Md_readSetupStatement 1 (some .boolean) :: jk_WA) (jk_rm 10 389) [.ref a_t] (wd_Md_readSetupStatement cI a_t a_t_w a_t_wKept a_t_saved a_t_past a_t_input a_t_n a_t_order a_t_numbers a_t_output i_t_pastMany i_t_isSaved i_t_thrown i_t_inputMany i_t_lastError i_t_lastOffset i_t_error i_t_offset i_t_nextByte i_t_begin i_t_value i_t_token i_t_got i_t_orders i_t_outputMany i_t_w i_t_input i_t_n) (wd_Md_readSetupStatement cI a_t a_t_w a_t_wKept a_t_saved a_t_past a_t_input a_t_n a_t_order a_t_numbers a_t_output i_t_pastMany i_t_isSaved i_t_thrown i_t_inputMany i_t_lastError i_t_lastOffset q.2.2.1 q.2.2.2.1 q.2.2.2.2.1 q.2.2.2.2.2.1 q.2.2.2.2.2.2.1 q.2.2.2.2.2.2.2.1 q.2.2.2.2.2.2.2.2.1 i_t_orders i_t_outputMany q.2.1 i_t_input q.2.2.2.2.2.2.2.2.2) q.1 := by
  intro sz
  refine jk_body (by decide +kernel) (fun p e s m args below meth c hsz hz hin C => ?_) (Nat.le_of_ble_eq_true rfl)
  subst hsz
  unfold fn_Md_readSetupStatement at hf
  refine jk_aload_n C rd_Md_readSetupStatement_0 (k := 0) rfl ?_
  refine jk_ldcs C hZ hz rd_Md_readSetupStatement_1 (k := 28) rfl ?_
  obtain ⟨q3, hq3, hf⟩ := jk_bind_h hf
  refine jk_callVi C hZ.1 hz (ct_Md_isWord l D Z sq hZ cI cR a_t a_t_w a_t_wKept a_t_saved a_t_past a_t_input a_t_n a_t_order a_t_numbers a_t_output i_t_pastMany i_t_isSaved i_t_thrown i_t_inputMany i_t_lastError i_t_lastOffset i_t_error i_t_offset i_t_nextByte i_t_begin i_t_value i_t_token i_t_got i_t_orders i_t_outputMany i_t_input ([116, 111, 112, 105, 99]) ((sq 28)) ((jk_zs hZ (k := 28) rfl)) q3 hq3) tm_1387 tm_1389 sl_34 tm_15 tm_1390 na_Md_isWord ⟨Nat.le_of_ble_eq_true rfl, Nat.le_of_ble_eq_true rfl⟩ rfl [0, 2] rfl rfl rfl (ws' := wd_Md_readSetupStatement cI a_t a_t_w a_t_wKept a_t_saved a_t_past a_t_input a_t_n a_t_order a_t_numbers a_t_output i_t_pastMany i_t_isSaved i_t_thrown i_t_inputMany i_t_lastError i_t_lastOffset i_t_error i_t_offset i_t_nextByte i_t_begin i_t_value i_t_token i_t_got i_t_orders i_t_outputMany i_t_w i_t_input i_t_n) rfl 0 11 rfl rfl rfl (st := []) rfl (Nat.le_of_ble_eq_true rfl) rd_Md_readSetupStatement_3 ?_ ⟨Nat.le_of_ble_eq_true rfl, Nat.le_of_ble_eq_true rfl⟩
  refine jk_if_eq (tgt := 14) C rd_Md_readSetupStatement_6 (by decide) hf (fun _ hf => ?_) (fun _ hf => ?_)
  · refine jk_aload_n C rd_Md_readSetupStatement_14 (k := 0) rfl ?_
    refine jk_ldcs C hZ hz rd_Md_readSetupStatement_15 (k := 29) rfl ?_
    obtain ⟨q17, hq17, hf⟩ := jk_bind_h hf
    refine jk_callVi C hZ.1 hz (ct_Md_isWord l D Z sq hZ cI cR a_t a_t_w a_t_wKept a_t_saved a_t_past a_t_input a_t_n a_t_order a_t_numbers a_t_output i_t_pastMany i_t_isSaved i_t_thrown i_t_inputMany i_t_lastError i_t_lastOffset i_t_error i_t_offset i_t_nextByte i_t_begin i_t_value i_t_token i_t_got i_t_orders i_t_outputMany i_t_input ([99, 108, 117, 115, 116, 101, 114]) ((sq 29)) ((jk_zs hZ (k := 29) rfl)) q17 hq17) tm_1387 tm_1389 sl_34 tm_15 tm_1390 na_Md_isWord ⟨Nat.le_of_ble_eq_true rfl, Nat.le_of_ble_eq_true rfl⟩ rfl [0, 2] rfl rfl rfl (ws' := wd_Md_readSetupStatement cI a_t a_t_w a_t_wKept a_t_saved a_t_past a_t_input a_t_n a_t_order a_t_numbers a_t_output i_t_pastMany i_t_isSaved i_t_thrown i_t_inputMany i_t_lastError i_t_lastOffset i_t_error i_t_offset i_t_nextByte i_t_begin i_t_value i_t_token i_t_got i_t_orders i_t_outputMany i_t_w i_t_input i_t_n) rfl 0 11 rfl rfl rfl (st := []) rfl (Nat.le_of_ble_eq_true rfl) rd_Md_readSetupStatement_17 ?_ ⟨Nat.le_of_ble_eq_true rfl, Nat.le_of_ble_eq_true rfl⟩
    refine jk_if_eq (tgt := 28) C rd_Md_readSetupStatement_20 (by decide) hf (fun _ hf => ?_) (fun _ hf => ?_)
    · refine jk_aload_n C rd_Md_readSetupStatement_28 (k := 0) rfl ?_
      refine jk_ldcs C hZ hz rd_Md_readSetupStatement_29 (k := 30) rfl ?_
      obtain ⟨q31, hq31, hf⟩ := jk_bind_h hf
      refine jk_callVi C hZ.1 hz (ct_Md_isWord l D Z sq hZ cI cR a_t a_t_w a_t_wKept a_t_saved a_t_past a_t_input a_t_n a_t_order a_t_numbers a_t_output i_t_pastMany i_t_isSaved i_t_thrown i_t_inputMany i_t_lastError i_t_lastOffset i_t_error i_t_offset i_t_nextByte i_t_begin i_t_value i_t_token i_t_got i_t_orders i_t_outputMany i_t_input ([116, 111, 112]) ((sq 30)) ((jk_zs hZ (k := 30) rfl)) q31 hq31) tm_1387 tm_1389 sl_34 tm_15 tm_1390 na_Md_isWord ⟨Nat.le_of_ble_eq_true rfl, Nat.le_of_ble_eq_true rfl⟩ rfl [0, 2] rfl rfl rfl (ws' := wd_Md_readSetupStatement cI a_t a_t_w a_t_wKept a_t_saved a_t_past a_t_input a_t_n a_t_order a_t_numbers a_t_output i_t_pastMany i_t_isSaved i_t_thrown i_t_inputMany i_t_lastError i_t_lastOffset i_t_error i_t_offset i_t_nextByte i_t_begin i_t_value i_t_token i_t_got i_t_orders i_t_outputMany i_t_w i_t_input i_t_n) rfl 0 11 rfl rfl rfl (st := []) rfl (Nat.le_of_ble_eq_true rfl) rd_Md_readSetupStatement_31 ?_ ⟨Nat.le_of_ble_eq_true rfl, Nat.le_of_ble_eq_true rfl⟩
      refine jk_if_ne (tgt := 55) C rd_Md_readSetupStatement_34 (by decide) hf (fun _ hf => ?_) (fun _ hf => ?_)
      · refine jk_aload_n C rd_Md_readSetupStatement_55 (k := 0) rfl ?_
        obtain ⟨q56, hq56, hf⟩ := jk_bind_h hf
        refine jk_callVi C hZ.1 hz (ct_Md_readCord l D Z sq hZ cI cR a_t a_t_w a_t_wKept a_t_saved a_t_past a_t_input a_t_n a_t_order a_t_numbers a_t_output i_t_pastMany i_t_isSaved i_t_thrown i_t_inputMany i_t_lastError i_t_lastOffset i_t_error i_t_offset i_t_nextByte i_t_begin i_t_value i_t_token i_t_got i_t_orders i_t_outputMany i_t_w i_t_input i_t_n q56 hq56) tm_1425 tm_1427 sl_42 tm_15 tm_1428 na_Md_readCord ⟨Nat.le_of_ble_eq_true rfl, Nat.le_of_ble_eq_true rfl⟩ rfl [0, 1, 2, 3] rfl rfl rfl (ws' := wd_Md_readSetupStatement cI a_t a_t_w a_t_wKept a_t_saved a_t_past a_t_input a_t_n a_t_order a_t_numbers a_t_output i_t_pastMany i_t_isSaved i_t_thrown i_t_inputMany i_t_lastError i_t_lastOffset q56.2.2.1 q56.2.2.2.1 q56.2.2.2.2.1 q56.2.2.2.2.2.1 q56.2.2.2.2.2.2.1 q56.2.2.2.2.2.2.2.1 q56.2.2.2.2.2.2.2.2.1 i_t_orders i_t_outputMany q56.2.1 i_t_input q56.2.2.2.2.2.2.2.2.2) rfl 0 11 rfl rfl rfl (st := []) rfl (Nat.le_of_ble_eq_true rfl) rd_Md_readSetupStatement_56 ?_ ⟨Nat.le_of_ble_eq_true rfl, Nat.le_of_ble_eq_true rfl⟩
        refine jk_goto (tgt := 67) C rd_Md_readSetupStatement_59 (by decide) ?_
        obtain ⟨hbo, hf⟩ := jk_bo_h hf
        cases hf
        exact jk_zret C hbo rfl rd_Md_readSetupStatement_67 rfl
      · refine jk_aload_n C rd_Md_readSetupStatement_37 (k := 0) rfl ?_
        refine jk_ldcs C hZ hz rd_Md_readSetupStatement_38 (k := 31) rfl ?_
        obtain ⟨q40, hq40, hf⟩ := jk_bind_h hf
        refine jk_callVi C hZ.1 hz (ct_Md_isWord l D Z sq hZ cI cR a_t a_t_w a_t_wKept a_t_saved a_t_past a_t_input a_t_n a_t_order a_t_numbers a_t_output i_t_pastMany i_t_isSaved i_t_thrown i_t_inputMany i_t_lastError i_t_lastOffset i_t_error i_t_offset i_t_nextByte i_t_begin i_t_value i_t_token i_t_got i_t_orders i_t_outputMany i_t_input ([112, 101, 110, 100, 97, 110, 116]) ((sq 31)) ((jk_zs hZ (k := 31) rfl)) q40 hq40) tm_1387 tm_1389 sl_34 tm_15 tm_1390 na_Md_isWord ⟨Nat.le_of_ble_eq_true rfl, Nat.le_of_ble_eq_true rfl⟩ rfl [0, 2] rfl rfl rfl (ws' := wd_Md_readSetupStatement cI a_t a_t_w a_t_wKept a_t_saved a_t_past a_t_input a_t_n a_t_order a_t_numbers a_t_output i_t_pastMany i_t_isSaved i_t_thrown i_t_inputMany i_t_lastError i_t_lastOffset i_t_error i_t_offset i_t_nextByte i_t_begin i_t_value i_t_token i_t_got i_t_orders i_t_outputMany i_t_w i_t_input i_t_n) rfl 0 11 rfl rfl rfl (st := []) rfl (Nat.le_of_ble_eq_true rfl) rd_Md_readSetupStatement_40 ?_ ⟨Nat.le_of_ble_eq_true rfl, Nat.le_of_ble_eq_true rfl⟩
        refine jk_if_ne (tgt := 55) C rd_Md_readSetupStatement_43 (by decide) hf (fun _ hf => ?_) (fun _ hf => ?_)
        · refine jk_aload_n C rd_Md_readSetupStatement_55 (k := 0) rfl ?_
          obtain ⟨q56, hq56, hf⟩ := jk_bind_h hf
          refine jk_callVi C hZ.1 hz (ct_Md_readCord l D Z sq hZ cI cR a_t a_t_w a_t_wKept a_t_saved a_t_past a_t_input a_t_n a_t_order a_t_numbers a_t_output i_t_pastMany i_t_isSaved i_t_thrown i_t_inputMany i_t_lastError i_t_lastOffset i_t_error i_t_offset i_t_nextByte i_t_begin i_t_value i_t_token i_t_got i_t_orders i_t_outputMany i_t_w i_t_input i_t_n q56 hq56) tm_1425 tm_1427 sl_42 tm_15 tm_1428 na_Md_readCord ⟨Nat.le_of_ble_eq_true rfl, Nat.le_of_ble_eq_true rfl⟩ rfl [0, 1, 2, 3] rfl rfl rfl (ws' := wd_Md_readSetupStatement cI a_t a_t_w a_t_wKept a_t_saved a_t_past a_t_input a_t_n a_t_order a_t_numbers a_t_output i_t_pastMany i_t_isSaved i_t_thrown i_t_inputMany i_t_lastError i_t_lastOffset q56.2.2.1 q56.2.2.2.1 q56.2.2.2.2.1 q56.2.2.2.2.2.1 q56.2.2.2.2.2.2.1 q56.2.2.2.2.2.2.2.1 q56.2.2.2.2.2.2.2.2.1 i_t_orders i_t_outputMany q56.2.1 i_t_input q56.2.2.2.2.2.2.2.2.2) rfl 0 11 rfl rfl rfl (st := []) rfl (Nat.le_of_ble_eq_true rfl) rd_Md_readSetupStatement_56 ?_ ⟨Nat.le_of_ble_eq_true rfl, Nat.le_of_ble_eq_true rfl⟩
          refine jk_goto (tgt := 67) C rd_Md_readSetupStatement_59 (by decide) ?_
          obtain ⟨hbo, hf⟩ := jk_bo_h hf
          cases hf
          exact jk_zret C hbo rfl rd_Md_readSetupStatement_67 rfl
        · refine jk_aload_n C rd_Md_readSetupStatement_46 (k := 0) rfl ?_
          refine jk_ldcs C hZ hz rd_Md_readSetupStatement_47 (k := 32) rfl ?_
          obtain ⟨q49, hq49, hf⟩ := jk_bind_h hf
          refine jk_callVi C hZ.1 hz (ct_Md_isWord l D Z sq hZ cI cR a_t a_t_w a_t_wKept a_t_saved a_t_past a_t_input a_t_n a_t_order a_t_numbers a_t_output i_t_pastMany i_t_isSaved i_t_thrown i_t_inputMany i_t_lastError i_t_lastOffset i_t_error i_t_offset i_t_nextByte i_t_begin i_t_value i_t_token i_t_got i_t_orders i_t_outputMany i_t_input ([115, 117, 98]) ((sq 32)) ((jk_zs hZ (k := 32) rfl)) q49 hq49) tm_1387 tm_1389 sl_34 tm_15 tm_1390 na_Md_isWord ⟨Nat.le_of_ble_eq_true rfl, Nat.le_of_ble_eq_true rfl⟩ rfl [0, 2] rfl rfl rfl (ws' := wd_Md_readSetupStatement cI a_t a_t_w a_t_wKept a_t_saved a_t_past a_t_input a_t_n a_t_order a_t_numbers a_t_output i_t_pastMany i_t_isSaved i_t_thrown i_t_inputMany i_t_lastError i_t_lastOffset i_t_error i_t_offset i_t_nextByte i_t_begin i_t_value i_t_token i_t_got i_t_orders i_t_outputMany i_t_w i_t_input i_t_n) rfl 0 11 rfl rfl rfl (st := []) rfl (Nat.le_of_ble_eq_true rfl) rd_Md_readSetupStatement_49 ?_ ⟨Nat.le_of_ble_eq_true rfl, Nat.le_of_ble_eq_true rfl⟩
          refine jk_if_eq (tgt := 62) C rd_Md_readSetupStatement_52 (by decide) hf (fun _ hf => ?_) (fun _ hf => ?_)
          · refine jk_aload_n C rd_Md_readSetupStatement_62 (k := 0) rfl ?_
            refine jk_iconst C rd_Md_readSetupStatement_63 ?_
            obtain ⟨q64, hq64, hf⟩ := jk_bind_h hf
            refine jk_callVi C hZ.1 hz (ct_Md_failsAt l D Z sq hZ cI cR a_t a_t_w a_t_wKept a_t_saved a_t_past a_t_input a_t_n a_t_order a_t_numbers a_t_output i_t_pastMany i_t_isSaved i_t_thrown i_t_inputMany i_t_lastError i_t_lastOffset i_t_error i_t_offset i_t_nextByte i_t_begin i_t_value i_t_token i_t_got i_t_orders i_t_outputMany 1 q64 hq64) tm_1397 tm_1399 sl_36 tm_15 tm_1400 na_Md_failsAt ⟨Nat.le_of_ble_eq_true rfl, Nat.le_of_ble_eq_true rfl⟩ rfl [0] rfl rfl rfl (ws' := wd_Md_readSetupStatement cI a_t a_t_w a_t_wKept a_t_saved a_t_past a_t_input a_t_n a_t_order a_t_numbers a_t_output i_t_pastMany i_t_isSaved i_t_thrown i_t_inputMany i_t_lastError i_t_lastOffset q64.2.1 q64.2.2 i_t_nextByte i_t_begin i_t_value i_t_token i_t_got i_t_orders i_t_outputMany i_t_w i_t_input i_t_n) rfl 0 11 rfl rfl rfl (st := []) rfl (Nat.le_of_ble_eq_true rfl) rd_Md_readSetupStatement_64 ?_ ⟨Nat.le_of_ble_eq_true rfl, Nat.le_of_ble_eq_true rfl⟩
            obtain ⟨hbo, hf⟩ := jk_bo_h hf
            cases hf
            exact jk_zret C hbo rfl rd_Md_readSetupStatement_67 rfl
          · refine jk_aload_n C rd_Md_readSetupStatement_55 (k := 0) rfl ?_
            obtain ⟨q56, hq56, hf⟩ := jk_bind_h hf
            refine jk_callVi C hZ.1 hz (ct_Md_readCord l D Z sq hZ cI cR a_t a_t_w a_t_wKept a_t_saved a_t_past a_t_input a_t_n a_t_order a_t_numbers a_t_output i_t_pastMany i_t_isSaved i_t_thrown i_t_inputMany i_t_lastError i_t_lastOffset i_t_error i_t_offset i_t_nextByte i_t_begin i_t_value i_t_token i_t_got i_t_orders i_t_outputMany i_t_w i_t_input i_t_n q56 hq56) tm_1425 tm_1427 sl_42 tm_15 tm_1428 na_Md_readCord ⟨Nat.le_of_ble_eq_true rfl, Nat.le_of_ble_eq_true rfl⟩ rfl [0, 1, 2, 3] rfl rfl rfl (ws' := wd_Md_readSetupStatement cI a_t a_t_w a_t_wKept a_t_saved a_t_past a_t_input a_t_n a_t_order a_t_numbers a_t_output i_t_pastMany i_t_isSaved i_t_thrown i_t_inputMany i_t_lastError i_t_lastOffset q56.2.2.1 q56.2.2.2.1 q56.2.2.2.2.1 q56.2.2.2.2.2.1 q56.2.2.2.2.2.2.1 q56.2.2.2.2.2.2.2.1 q56.2.2.2.2.2.2.2.2.1 i_t_orders i_t_outputMany q56.2.1 i_t_input q56.2.2.2.2.2.2.2.2.2) rfl 0 11 rfl rfl rfl (st := []) rfl (Nat.le_of_ble_eq_true rfl) rd_Md_readSetupStatement_56 ?_ ⟨Nat.le_of_ble_eq_true rfl, Nat.le_of_ble_eq_true rfl⟩
            refine jk_goto (tgt := 67) C rd_Md_readSetupStatement_59 (by decide) ?_
            obtain ⟨hbo, hf⟩ := jk_bo_h hf
            cases hf
            exact jk_zret C hbo rfl rd_Md_readSetupStatement_67 rfl
    · refine jk_aload_n C rd_Md_readSetupStatement_23 (k := 0) rfl ?_
      obtain ⟨q24, hq24, hf⟩ := jk_bind_h hf
      refine jk_callVi C hZ.1 hz (ct_Md_readCluster l D Z sq hZ cI cR a_t a_t_w a_t_wKept a_t_saved a_t_past a_t_input a_t_n a_t_order a_t_numbers a_t_output i_t_pastMany i_t_isSaved i_t_thrown i_t_inputMany i_t_lastError i_t_lastOffset i_t_error i_t_offset i_t_nextByte i_t_begin i_t_value i_t_token i_t_got i_t_orders i_t_outputMany i_t_w i_t_input q24 hq24) tm_1418 tm_1420 sl_41 tm_15 tm_1421 na_Md_readCluster ⟨Nat.le_of_ble_eq_true rfl, Nat.le_of_ble_eq_true rfl⟩ rfl [0, 1, 2] rfl rfl rfl (ws' := wd_Md_readSetupStatement cI a_t a_t_w a_t_wKept a_t_saved a_t_past a_t_input a_t_n a_t_order a_t_numbers a_t_output i_t_pastMany i_t_isSaved i_t_thrown i_t_inputMany i_t_lastError i_t_lastOffset q24.2.2.1 q24.2.2.2.1 q24.2.2.2.2.1 q24.2.2.2.2.2.1 q24.2.2.2.2.2.2.1 q24.2.2.2.2.2.2.2 i_t_got i_t_orders i_t_outputMany q24.2.1 i_t_input i_t_n) rfl 0 11 rfl rfl rfl (st := []) rfl (Nat.le_of_ble_eq_true rfl) rd_Md_readSetupStatement_24 ?_ ⟨Nat.le_of_ble_eq_true rfl, Nat.le_of_ble_eq_true rfl⟩
      obtain ⟨hbo, hf⟩ := jk_bo_h hf
      cases hf
      exact jk_zret C hbo rfl rd_Md_readSetupStatement_27 rfl
  · refine jk_aload_n C rd_Md_readSetupStatement_9 (k := 0) rfl ?_
    obtain ⟨q10, hq10, hf⟩ := jk_bind_h hf
    refine jk_callVi C hZ.1 hz (ct_Md_readTopic l D Z sq hZ cI cR a_t a_t_w a_t_wKept a_t_saved a_t_past a_t_input a_t_n a_t_order a_t_numbers a_t_output i_t_pastMany i_t_isSaved i_t_thrown i_t_inputMany i_t_lastError i_t_lastOffset i_t_error i_t_offset i_t_nextByte i_t_begin i_t_value i_t_token i_t_got i_t_orders i_t_outputMany i_t_w i_t_input q10 hq10) tm_1393 tm_1395 sl_35 tm_15 tm_1396 na_Md_readTopic ⟨Nat.le_of_ble_eq_true rfl, Nat.le_of_ble_eq_true rfl⟩ rfl [0, 1, 2] rfl rfl rfl (ws' := wd_Md_readSetupStatement cI a_t a_t_w a_t_wKept a_t_saved a_t_past a_t_input a_t_n a_t_order a_t_numbers a_t_output i_t_pastMany i_t_isSaved i_t_thrown i_t_inputMany i_t_lastError i_t_lastOffset q10.2.2.1 q10.2.2.2.1 q10.2.2.2.2.1 q10.2.2.2.2.2.1 q10.2.2.2.2.2.2.1 q10.2.2.2.2.2.2.2 i_t_got i_t_orders i_t_outputMany q10.2.1 i_t_input i_t_n) rfl 0 11 rfl rfl rfl (st := []) rfl (Nat.le_of_ble_eq_true rfl) rd_Md_readSetupStatement_10 ?_ ⟨Nat.le_of_ble_eq_true rfl, Nat.le_of_ble_eq_true rfl⟩
    obtain ⟨hbo, hf⟩ := jk_bo_h hf
    cases hf
    exact jk_zret C hbo rfl rd_Md_readSetupStatement_13 rfl
def wd_Md_readText (cI : ClassId) (a_t a_t_w a_t_wKept a_t_saved a_t_past a_t_input a_t_n a_t_order a_t_numbers a_t_output : Nat) (i_t_pastMany : Int) (i_t_isSaved : Int) (i_t_thrown : Int) (i_t_inputMany : Int) (i_t_lastError : Int) (i_t_lastOffset : Int) (i_t_error : Int) (i_t_offset : Int) (i_t_nextByte : Int) (i_t_begin : Int) (i_t_value : Int) (i_t_token : Int) (i_t_got : Int) (i_t_orders : Int) (i_t_outputMany : Int) (i_t_w : (Int → Int)) (i_t_input : (Int → Int)) (i_t_n : (Int → Int)) : va_W := [(a_t, .inr (11, [.ref a_t_w, .ref a_t_wKept, .ref a_t_saved, .ref a_t_past, jk_V i_t_pastMany, jk_V i_t_isSaved, jk_V i_t_thrown, .ref a_t_input, jk_V i_t_inputMany, jk_V i_t_lastError, jk_V i_t_lastOffset, jk_V i_t_error, jk_V i_t_offset, jk_V i_t_nextByte, jk_V i_t_begin, jk_V i_t_value, jk_V i_t_token, jk_V i_t_got, .ref a_t_n, .ref a_t_order, .ref a_t_numbers, jk_V i_t_orders, .ref a_t_output, jk_V i_t_outputMany])), (a_t_w, jk_W cI 259 i_t_w), (a_t_input, jk_W cI 700 i_t_input), (a_t_n, jk_W cI 3 i_t_n)]
set_option maxHeartbeats 4000000 in
set_option maxRecDepth 20000 in
theorem ct_Md_readText (l : Launch) (D : va_G) (Z : (Nat → Prop) → State → Heap → Prop) (sq : Nat → Nat) (hZ : jk_ZK Z sq) (cI cR : ClassId) (a_t a_t_w a_t_wKept a_t_saved a_t_past a_t_input a_t_n a_t_order a_t_numbers a_t_output : Nat) (i_t_pastMany : Int) (i_t_isSaved : Int) (i_t_thrown : Int) (i_t_inputMany : Int) (i_t_lastError : Int) (i_t_lastOffset : Int) (i_t_error : Int) (i_t_offset : Int) (i_t_nextByte : Int) (i_t_begin : Int) (i_t_value : Int) (i_t_token : Int) (i_t_got : Int) (i_t_orders : Int) (i_t_outputMany : Int) (i_t_w : (Int → Int)) (i_t_input : (Int → Int)) (i_t_n : (Int → Int)) (q : Int × (Int → Int) × Int × Int × Int × Int × Int × Int × Int × (Int → Int)) (hf : fn_Md_readText i_t_w i_t_input i_t_inputMany i_t_error i_t_offset i_t_nextByte i_t_begin i_t_value i_t_token i_t_got i_t_n = some q) : jk_MI l D jk_cl (jk_ty cI cR) Z mn_Md_readText (.code mn_Md_readText mb_Md_readText 1 (some .boolean) :: jk_WA) (jk_rm 11 409) [.ref a_t] (wd_Md_readText cI a_t a_t_w a_t_wKept a_t_saved a_t_past a_t_input a_t_n a_t_order a_t_numbers a_t_output i_t_pastMany i_t_isSaved i_t_thrown i_t_inputMany i_t_lastError i_t_lastOffset i_t_error i_t_offset i_t_nextByte i_t_begin i_t_value i_t_token i_t_got i_t_orders i_t_outputMany i_t_w i_t_input i_t_n) (wd_Md_readText cI a_t a_t_w a_t_wKept a_t_saved a_t_past a_t_input a_t_n a_t_order a_t_numbers a_t_output i_t_pastMany i_t_isSaved i_t_thrown i_t_inputMany i_t_lastError i_t_lastOffset q.2.2.1 q.2.2.2.1 q.2.2.2.2.1 q.2.2.2.2.2.1 q.2.2.2.2.2.2.1 q.2.2.2.2.2.2.2.1 q.2.2.2.2.2.2.2.2.1 i_t_orders i_t_outputMany q.2.1 i_t_input q.2.2.2.2.2.2.2.2.2) q.1 := by
  intro sz
  refine jk_body (by decide +kernel) (fun p e s m args below meth c hsz hz hin C => ?_) (Nat.le_of_ble_eq_true rfl)
  subst hsz
  unfold fn_Md_readText at hf
  have bk_4 : ∀ (n : Nat) (t_w : (Int → Int)) (t_error : Int) (t_offset : Int) (t_nextByte : Int) (t_begin : Int) (t_value : Int) (t_token : Int) (t_got : Int) (t_n : (Int → Int)), fn_Md_readText_b4 n t_w i_t_input i_t_inputMany t_error t_offset t_nextByte t_begin t_value t_token t_got t_n = some q → jk_J p l e (jk_rm 11 409) s m args below meth c 0 0 (jk_QI below D jk_cl (jk_ty cI cR) (wd_Md_readText cI a_t a_t_w a_t_wKept a_t_saved a_t_past a_t_input a_t_n a_t_order a_t_numbers a_t_output i_t_pastMany i_t_isSaved i_t_thrown i_t_inputMany i_t_lastError i_t_lastOffset i_t_error i_t_offset i_t_nextByte i_t_begin i_t_value i_t_token i_t_got i_t_orders i_t_outputMany i_t_w i_t_input i_t_n) (wd_Md_readText cI a_t a_t_w a_t_wKept a_t_saved a_t_past a_t_input a_t_n a_t_order a_t_numbers a_t_output i_t_pastMany i_t_isSaved i_t_thrown i_t_inputMany i_t_lastError i_t_lastOffset q.2.2.1 q.2.2.2.1 q.2.2.2.2.1 q.2.2.2.2.2.1 q.2.2.2.2.2.2.1 q.2.2.2.2.2.2.2.1 q.2.2.2.2.2.2.2.2.1 i_t_orders i_t_outputMany q.2.1 i_t_input q.2.2.2.2.2.2.2.2.2) args s q.1) D jk_cl (va_A (wd_Md_readText cI a_t a_t_w a_t_wKept a_t_saved a_t_past a_t_input a_t_n a_t_order a_t_numbers a_t_output i_t_pastMany i_t_isSaved i_t_thrown i_t_inputMany i_t_lastError i_t_lastOffset i_t_error i_t_offset i_t_nextByte i_t_begin i_t_value i_t_token i_t_got i_t_orders i_t_outputMany i_t_w i_t_input i_t_n) s.heap.size) 1 (wd_Md_readText cI a_t a_t_w a_t_wKept a_t_saved a_t_past a_t_input a_t_n a_t_order a_t_numbers a_t_output i_t_pastMany i_t_isSaved i_t_thrown i_t_inputMany i_t_lastError i_t_lastOffset t_error t_offset t_nextByte t_begin t_value t_token t_got i_t_orders i_t_outputMany t_w i_t_input t_n) [(0, .ref a_t)] 4 [] := by
    intro n
    induction n with
    | zero => intro t_w t_error t_offset t_nextByte t_begin t_value t_token t_got t_n hf; exact nomatch (show none = some q from hf)
    | succ n ih =>
      intro t_w t_error t_offset t_nextByte t_begin t_value t_token t_got t_n hf
      rw [fn_Md_readText_b4] at hf
      refine jk_aload_n C rd_Md_readText_4 (k := 0) rfl ?_
      refine jk_get C in_Md (ci := 11) rfl 16 (by decide) tm_1279 0 rfl rfl rd_Md_readText_5 ?_
      refine jk_if_eq (tgt := 20) C rd_Md_readText_8 (by decide) hf (fun _ hf => ?_) (fun _ hf => ?_)
      · refine jk_aload_n C rd_Md_readText_20 (k := 0) rfl ?_
        refine jk_get C in_Md (ci := 11) rfl 0 (by decide) tm_1263 0 rfl rfl rd_Md_readText_21 ?_
        refine jk_iconst C rd_Md_readText_24 ?_
        refine jk_iald C 1 0 rfl rfl (Nat.le_of_ble_eq_true rfl) rd_Md_readText_25 hf (fun hf => ?_)
        refine jk_if_gt (tgt := 38) C rd_Md_readText_26 (by decide) hf (fun _ hf => ?_) (fun _ hf => ?_)
        · refine jk_iconst C rd_Md_readText_38 ?_
          refine jk_goto (tgt := 43) C rd_Md_readText_39 (by decide) ?_
          cases hf
          exact jk_zret C (Or.inr rfl) rfl rd_Md_readText_43 rfl
        · refine jk_aload_n C rd_Md_readText_29 (k := 0) rfl ?_
          refine jk_bipush C rd_Md_readText_30 (by decide +kernel) ?_
          obtain ⟨q32, hq32, hf⟩ := jk_bind_h hf
          refine jk_callVi C hZ.1 hz (ct_Md_failsAt l D Z sq hZ cI cR a_t a_t_w a_t_wKept a_t_saved a_t_past a_t_input a_t_n a_t_order a_t_numbers a_t_output i_t_pastMany i_t_isSaved i_t_thrown i_t_inputMany i_t_lastError i_t_lastOffset t_error t_offset t_nextByte t_begin t_value t_token t_got i_t_orders i_t_outputMany 7 q32 hq32) tm_1397 tm_1399 sl_36 tm_15 tm_1400 na_Md_failsAt ⟨Nat.le_of_ble_eq_true rfl, Nat.le_of_ble_eq_true rfl⟩ rfl [0] rfl rfl rfl (ws' := wd_Md_readText cI a_t a_t_w a_t_wKept a_t_saved a_t_past a_t_input a_t_n a_t_order a_t_numbers a_t_output i_t_pastMany i_t_isSaved i_t_thrown i_t_inputMany i_t_lastError i_t_lastOffset q32.2.1 q32.2.2 t_nextByte t_begin t_value t_token t_got i_t_orders i_t_outputMany t_w i_t_input t_n) rfl 0 11 rfl rfl rfl (st := []) rfl (Nat.le_of_ble_eq_true rfl) rd_Md_readText_32 ?_ ⟨Nat.le_of_ble_eq_true rfl, Nat.le_of_ble_eq_true rfl⟩
          refine jk_if_eq (tgt := 42) C rd_Md_readText_35 (by decide) hf (fun _ hf => ?_) (fun _ hf => ?_)
          · refine jk_iconst C rd_Md_readText_42 ?_
            cases hf
            exact jk_zret C (Or.inl rfl) rfl rd_Md_readText_43 rfl
          · refine jk_iconst C rd_Md_readText_38 ?_
            refine jk_goto (tgt := 43) C rd_Md_readText_39 (by decide) ?_
            cases hf
            exact jk_zret C (Or.inr rfl) rfl rd_Md_readText_43 rfl
      · refine jk_aload_n C rd_Md_readText_11 (k := 0) rfl ?_
        obtain ⟨q12, hq12, hf⟩ := jk_bind_h hf
        refine jk_callVi C hZ.1 hz (ct_Md_readSetupStatement l D Z sq hZ cI cR a_t a_t_w a_t_wKept a_t_saved a_t_past a_t_input a_t_n a_t_order a_t_numbers a_t_output i_t_pastMany i_t_isSaved i_t_thrown i_t_inputMany i_t_lastError i_t_lastOffset t_error t_offset t_nextByte t_begin t_value t_token t_got i_t_orders i_t_outputMany t_w i_t_input t_n q12 hq12) tm_1382 tm_1384 sl_33 tm_15 tm_1385 na_Md_readSetupStatement ⟨Nat.le_of_ble_eq_true rfl, Nat.le_of_ble_eq_true rfl⟩ rfl [0, 1, 2, 3] rfl rfl rfl (ws' := wd_Md_readText cI a_t a_t_w a_t_wKept a_t_saved a_t_past a_t_input a_t_n a_t_order a_t_numbers a_t_output i_t_pastMany i_t_isSaved i_t_thrown i_t_inputMany i_t_lastError i_t_lastOffset q12.2.2.1 q12.2.2.2.1 q12.2.2.2.2.1 q12.2.2.2.2.2.1 q12.2.2.2.2.2.2.1 q12.2.2.2.2.2.2.2.1 q12.2.2.2.2.2.2.2.2.1 i_t_orders i_t_outputMany q12.2.1 i_t_input q12.2.2.2.2.2.2.2.2.2) rfl 0 11 rfl rfl rfl (st := []) rfl (Nat.le_of_ble_eq_true rfl) rd_Md_readText_12 ?_ ⟨Nat.le_of_ble_eq_true rfl, Nat.le_of_ble_eq_true rfl⟩
        refine jk_if_ne (tgt := 4) C rd_Md_readText_15 (by decide) hf (fun _ hf => ?_) (fun _ hf => ?_)
        · refine jk_lv (lv' := [(0, .ref a_t)]) [0] rfl ?_
          exact ih q12.2.1 q12.2.2.1 q12.2.2.2.1 q12.2.2.2.2.1 q12.2.2.2.2.2.1 q12.2.2.2.2.2.2.1 q12.2.2.2.2.2.2.2.1 q12.2.2.2.2.2.2.2.2.1 q12.2.2.2.2.2.2.2.2.2 hf
        · refine jk_iconst C rd_Md_readText_18 ?_
          cases hf
          exact jk_zret C (Or.inl rfl) rfl rd_Md_readText_19 rfl
  refine jk_aload_n C rd_Md_readText_0 (k := 0) rfl ?_
  obtain ⟨q1, hq1, hf⟩ := jk_bind_h hf
  refine jk_callVv C hZ.1 hz (ct_Md_begins l D Z sq hZ cI cR a_t a_t_w a_t_wKept a_t_saved a_t_past a_t_input a_t_n a_t_order a_t_numbers a_t_output i_t_pastMany i_t_isSaved i_t_thrown i_t_inputMany i_t_lastError i_t_lastOffset i_t_error i_t_offset i_t_nextByte i_t_begin i_t_value i_t_token i_t_got i_t_orders i_t_outputMany i_t_w q1 hq1) tm_1228 tm_1230 sl_19 tm_15 tm_1231 na_Md_begins ⟨Nat.le_of_ble_eq_true rfl, Nat.le_of_ble_eq_true rfl⟩ rfl [0, 1] rfl rfl rfl (ws' := wd_Md_readText cI a_t a_t_w a_t_wKept a_t_saved a_t_past a_t_input a_t_n a_t_order a_t_numbers a_t_output i_t_pastMany i_t_isSaved i_t_thrown i_t_inputMany i_t_lastError i_t_lastOffset i_t_error i_t_offset i_t_nextByte i_t_begin i_t_value i_t_token i_t_got i_t_orders i_t_outputMany q1 i_t_input i_t_n) rfl 0 11 rfl rfl rfl (st := []) rfl (Nat.le_of_ble_eq_true rfl) rd_Md_readText_1 ?_ ⟨Nat.le_of_ble_eq_true rfl, Nat.le_of_ble_eq_true rfl⟩
  refine jk_lv (lv' := [(0, .ref a_t)]) [0] rfl ?_
  exact bk_4 jk_F q1 i_t_error i_t_offset i_t_nextByte i_t_begin i_t_value i_t_token i_t_got i_t_n hf
def wd_Md_startsText (cI : ClassId) (a_t a_t_w a_t_wKept a_t_saved a_t_past a_t_input a_t_n a_t_order a_t_numbers a_t_output : Nat) (i_t_pastMany : Int) (i_t_isSaved : Int) (i_t_thrown : Int) (i_t_inputMany : Int) (i_t_lastError : Int) (i_t_lastOffset : Int) (i_t_error : Int) (i_t_offset : Int) (i_t_nextByte : Int) (i_t_begin : Int) (i_t_value : Int) (i_t_token : Int) (i_t_got : Int) (i_t_orders : Int) (i_t_outputMany : Int) (i_t_input : (Int → Int)) : va_W := [(a_t, .inr (11, [.ref a_t_w, .ref a_t_wKept, .ref a_t_saved, .ref a_t_past, jk_V i_t_pastMany, jk_V i_t_isSaved, jk_V i_t_thrown, .ref a_t_input, jk_V i_t_inputMany, jk_V i_t_lastError, jk_V i_t_lastOffset, jk_V i_t_error, jk_V i_t_offset, jk_V i_t_nextByte, jk_V i_t_begin, jk_V i_t_value, jk_V i_t_token, jk_V i_t_got, .ref a_t_n, .ref a_t_order, .ref a_t_numbers, jk_V i_t_orders, .ref a_t_output, jk_V i_t_outputMany])), (a_t_input, jk_W cI 700 i_t_input)]
set_option maxHeartbeats 4000000 in
set_option maxRecDepth 20000 in
theorem ct_Md_startsText (l : Launch) (D : va_G) (Z : (Nat → Prop) → State → Heap → Prop) (sq : Nat → Nat) (hZ : jk_ZK Z sq) (cI cR : ClassId) (a_t a_t_w a_t_wKept a_t_saved a_t_past a_t_input a_t_n a_t_order a_t_numbers a_t_output : Nat) (i_t_pastMany : Int) (i_t_isSaved : Int) (i_t_thrown : Int) (i_t_inputMany : Int) (i_t_lastError : Int) (i_t_lastOffset : Int) (i_t_error : Int) (i_t_offset : Int) (i_t_nextByte : Int) (i_t_begin : Int) (i_t_value : Int) (i_t_token : Int) (i_t_got : Int) (i_t_orders : Int) (i_t_outputMany : Int) (i_t_input : (Int → Int)) (q : Int × Int × Int × Int × Int × Int × Int) (hf : fn_Md_startsText i_t_input i_t_inputMany i_t_error i_t_offset i_t_nextByte i_t_begin i_t_value i_t_token i_t_orders = some q) : jk_MV l D jk_cl (jk_ty cI cR) Z mn_Md_startsText (.code mn_Md_startsText mb_Md_startsText 1 none :: jk_WA) (jk_rm 3 64) [.ref a_t] (wd_Md_startsText cI a_t a_t_w a_t_wKept a_t_saved a_t_past a_t_input a_t_n a_t_order a_t_numbers a_t_output i_t_pastMany i_t_isSaved i_t_thrown i_t_inputMany i_t_lastError i_t_lastOffset i_t_error i_t_offset i_t_nextByte i_t_begin i_t_value i_t_token i_t_got i_t_orders i_t_outputMany i_t_input) (wd_Md_startsText cI a_t a_t_w a_t_wKept a_t_saved a_t_past a_t_input a_t_n a_t_order a_t_numbers a_t_output i_t_pastMany i_t_isSaved i_t_thrown i_t_inputMany i_t_lastError i_t_lastOffset q.1 q.2.1 q.2.2.1 q.2.2.2.1 q.2.2.2.2.1 q.2.2.2.2.2.1 i_t_got q.2.2.2.2.2.2 i_t_outputMany i_t_input) := by
  intro sz
  refine jk_body (by decide +kernel) (fun p e s m args below meth c hsz hz hin C => ?_) (Nat.le_of_ble_eq_true rfl)
  subst hsz
  unfold fn_Md_startsText at hf
  refine jk_aload_n C rd_Md_startsText_0 (k := 0) rfl ?_
  refine jk_iconst C rd_Md_startsText_1 ?_
  refine jk_putf C in_Md ty_Md nm_Md (ci := 11) rfl 11 (by decide) tm_1274 rfl rfl rfl 0 rfl (Nat.le_of_ble_eq_true rfl) rd_Md_startsText_2 (ws' := wd_Md_startsText cI a_t a_t_w a_t_wKept a_t_saved a_t_past a_t_input a_t_n a_t_order a_t_numbers a_t_output i_t_pastMany i_t_isSaved i_t_thrown i_t_inputMany i_t_lastError i_t_lastOffset 0 i_t_offset i_t_nextByte i_t_begin i_t_value i_t_token i_t_got i_t_orders i_t_outputMany i_t_input) rfl ?_
  refine jk_aload_n C rd_Md_startsText_5 (k := 0) rfl ?_
  refine jk_iconst C rd_Md_startsText_6 ?_
  refine jk_putf C in_Md ty_Md nm_Md (ci := 11) rfl 12 (by decide) tm_1275 rfl rfl rfl 0 rfl (Nat.le_of_ble_eq_true rfl) rd_Md_startsText_7 (ws' := wd_Md_startsText cI a_t a_t_w a_t_wKept a_t_saved a_t_past a_t_input a_t_n a_t_order a_t_numbers a_t_output i_t_pastMany i_t_isSaved i_t_thrown i_t_inputMany i_t_lastError i_t_lastOffset 0 ((-1)) i_t_nextByte i_t_begin i_t_value i_t_token i_t_got i_t_orders i_t_outputMany i_t_input) rfl ?_
  refine jk_aload_n C rd_Md_startsText_10 (k := 0) rfl ?_
  refine jk_iconst C rd_Md_startsText_11 ?_
  refine jk_putf C in_Md ty_Md nm_Md (ci := 11) rfl 21 (by decide) tm_1284 rfl rfl rfl 0 rfl (Nat.le_of_ble_eq_true rfl) rd_Md_startsText_12 (ws' := wd_Md_startsText cI a_t a_t_w a_t_wKept a_t_saved a_t_past a_t_input a_t_n a_t_order a_t_numbers a_t_output i_t_pastMany i_t_isSaved i_t_thrown i_t_inputMany i_t_lastError i_t_lastOffset 0 ((-1)) i_t_nextByte i_t_begin i_t_value i_t_token i_t_got 0 i_t_outputMany i_t_input) rfl ?_
  refine jk_aload_n C rd_Md_startsText_15 (k := 0) rfl ?_
  refine jk_iconst C rd_Md_startsText_16 ?_
  refine jk_putf C in_Md ty_Md nm_Md (ci := 11) rfl 13 (by decide) tm_1276 rfl rfl rfl 0 rfl (Nat.le_of_ble_eq_true rfl) rd_Md_startsText_17 (ws' := wd_Md_startsText cI a_t a_t_w a_t_wKept a_t_saved a_t_past a_t_input a_t_n a_t_order a_t_numbers a_t_output i_t_pastMany i_t_isSaved i_t_thrown i_t_inputMany i_t_lastError i_t_lastOffset 0 ((-1)) 0 i_t_begin i_t_value i_t_token i_t_got 0 i_t_outputMany i_t_input) rfl ?_
  refine jk_aload_n C rd_Md_startsText_20 (k := 0) rfl ?_
  obtain ⟨q21, hq21, hf⟩ := jk_bind_h hf
  refine jk_callVv C hZ.1 hz (ct_Md_advanceToken l D Z sq hZ cI cR a_t a_t_w a_t_wKept a_t_saved a_t_past a_t_input a_t_n a_t_order a_t_numbers a_t_output i_t_pastMany i_t_isSaved i_t_thrown i_t_inputMany i_t_lastError i_t_lastOffset 0 ((-1)) 0 i_t_begin i_t_value i_t_token i_t_got 0 i_t_outputMany i_t_input q21 hq21) tm_1366 tm_1368 sl_29 tm_15 tm_1369 na_Md_advanceToken ⟨Nat.le_of_ble_eq_true rfl, Nat.le_of_ble_eq_true rfl⟩ rfl [0, 1] rfl rfl rfl (ws' := wd_Md_startsText cI a_t a_t_w a_t_wKept a_t_saved a_t_past a_t_input a_t_n a_t_order a_t_numbers a_t_output i_t_pastMany i_t_isSaved i_t_thrown i_t_inputMany i_t_lastError i_t_lastOffset 0 ((-1)) q21.1 q21.2.1 q21.2.2.1 q21.2.2.2 i_t_got 0 i_t_outputMany i_t_input) rfl 0 11 rfl rfl rfl (st := []) rfl (Nat.le_of_ble_eq_true rfl) rd_Md_startsText_21 ?_ ⟨Nat.le_of_ble_eq_true rfl, Nat.le_of_ble_eq_true rfl⟩
  cases hf
  exact jk_vret C rfl rd_Md_startsText_24 rfl
def wd_Md_endsText (cI : ClassId) (a_t a_t_w a_t_wKept a_t_saved a_t_past a_t_input a_t_n a_t_order a_t_numbers a_t_output : Nat) (i_t_pastMany : Int) (i_t_isSaved : Int) (i_t_thrown : Int) (i_t_inputMany : Int) (i_t_lastError : Int) (i_t_lastOffset : Int) (i_t_error : Int) (i_t_offset : Int) (i_t_nextByte : Int) (i_t_begin : Int) (i_t_value : Int) (i_t_token : Int) (i_t_got : Int) (i_t_orders : Int) (i_t_outputMany : Int) : va_W := [(a_t, .inr (11, [.ref a_t_w, .ref a_t_wKept, .ref a_t_saved, .ref a_t_past, jk_V i_t_pastMany, jk_V i_t_isSaved, jk_V i_t_thrown, .ref a_t_input, jk_V i_t_inputMany, jk_V i_t_lastError, jk_V i_t_lastOffset, jk_V i_t_error, jk_V i_t_offset, jk_V i_t_nextByte, jk_V i_t_begin, jk_V i_t_value, jk_V i_t_token, jk_V i_t_got, .ref a_t_n, .ref a_t_order, .ref a_t_numbers, jk_V i_t_orders, .ref a_t_output, jk_V i_t_outputMany]))]
set_option maxHeartbeats 4000000 in
set_option maxRecDepth 20000 in
theorem ct_Md_endsText (l : Launch) (D : va_G) (Z : (Nat → Prop) → State → Heap → Prop) (sq : Nat → Nat) (hZ : jk_ZK Z sq) (cI cR : ClassId) (a_t a_t_w a_t_wKept a_t_saved a_t_past a_t_input a_t_n a_t_order a_t_numbers a_t_output : Nat) (i_t_pastMany : Int) (i_t_isSaved : Int) (i_t_thrown : Int) (i_t_inputMany : Int) (i_t_lastError : Int) (i_t_lastOffset : Int) (i_t_error : Int) (i_t_offset : Int) (i_t_nextByte : Int) (i_t_begin : Int) (i_t_value : Int) (i_t_token : Int) (i_t_got : Int) (i_t_orders : Int) (i_t_outputMany : Int) (q : Int × Int × Int) (hf : fn_Md_endsText i_t_inputMany i_t_lastError i_t_lastOffset i_t_error i_t_offset = some q) : jk_MV l D jk_cl (jk_ty cI cR) Z mn_Md_endsText (.code mn_Md_endsText mb_Md_endsText 1 none :: jk_WA) (jk_rm 0 0) [.ref a_t] (wd_Md_endsText cI a_t a_t_w a_t_wKept a_t_saved a_t_past a_t_input a_t_n a_t_order a_t_numbers a_t_output i_t_pastMany i_t_isSaved i_t_thrown i_t_inputMany i_t_lastError i_t_lastOffset i_t_error i_t_offset i_t_nextByte i_t_begin i_t_value i_t_token i_t_got i_t_orders i_t_outputMany) (wd_Md_endsText cI a_t a_t_w a_t_wKept a_t_saved a_t_past a_t_input a_t_n a_t_order a_t_numbers a_t_output i_t_pastMany i_t_isSaved i_t_thrown q.1 q.2.1 q.2.2 i_t_error i_t_offset i_t_nextByte i_t_begin i_t_value i_t_token i_t_got i_t_orders i_t_outputMany) := by
  intro sz
  refine jk_body (by decide +kernel) (fun p e s m args below meth c hsz hz hin C => ?_) (Nat.le_of_ble_eq_true rfl)
  subst hsz
  unfold fn_Md_endsText at hf
  refine jk_aload_n C rd_Md_endsText_0 (k := 0) rfl ?_
  refine jk_iconst C rd_Md_endsText_1 ?_
  refine jk_putf C in_Md ty_Md nm_Md (ci := 11) rfl 8 (by decide) tm_1271 rfl rfl rfl 0 rfl (Nat.le_of_ble_eq_true rfl) rd_Md_endsText_2 (ws' := wd_Md_endsText cI a_t a_t_w a_t_wKept a_t_saved a_t_past a_t_input a_t_n a_t_order a_t_numbers a_t_output i_t_pastMany i_t_isSaved i_t_thrown 0 i_t_lastError i_t_lastOffset i_t_error i_t_offset i_t_nextByte i_t_begin i_t_value i_t_token i_t_got i_t_orders i_t_outputMany) rfl ?_
  refine jk_aload_n C rd_Md_endsText_5 (k := 0) rfl ?_
  refine jk_aload_n C rd_Md_endsText_6 (k := 0) rfl ?_
  refine jk_get C in_Md (ci := 11) rfl 11 (by decide) tm_1274 0 rfl rfl rd_Md_endsText_7 ?_
  refine jk_putf C in_Md ty_Md nm_Md (ci := 11) rfl 9 (by decide) tm_1272 rfl rfl rfl 0 rfl (Nat.le_of_ble_eq_true rfl) rd_Md_endsText_10 (ws' := wd_Md_endsText cI a_t a_t_w a_t_wKept a_t_saved a_t_past a_t_input a_t_n a_t_order a_t_numbers a_t_output i_t_pastMany i_t_isSaved i_t_thrown 0 i_t_error i_t_lastOffset i_t_error i_t_offset i_t_nextByte i_t_begin i_t_value i_t_token i_t_got i_t_orders i_t_outputMany) rfl ?_
  refine jk_aload_n C rd_Md_endsText_13 (k := 0) rfl ?_
  refine jk_aload_n C rd_Md_endsText_14 (k := 0) rfl ?_
  refine jk_get C in_Md (ci := 11) rfl 12 (by decide) tm_1275 0 rfl rfl rd_Md_endsText_15 ?_
  refine jk_putf C in_Md ty_Md nm_Md (ci := 11) rfl 10 (by decide) tm_1273 rfl rfl rfl 0 rfl (Nat.le_of_ble_eq_true rfl) rd_Md_endsText_18 (ws' := wd_Md_endsText cI a_t a_t_w a_t_wKept a_t_saved a_t_past a_t_input a_t_n a_t_order a_t_numbers a_t_output i_t_pastMany i_t_isSaved i_t_thrown 0 i_t_error i_t_offset i_t_error i_t_offset i_t_nextByte i_t_begin i_t_value i_t_token i_t_got i_t_orders i_t_outputMany) rfl ?_
  cases hf
  exact jk_vret C rfl rd_Md_endsText_21 rfl
