theorem rd_KR_knotsAt_0 : decode mb_KR_knotsAt 0 = .ok (.aload_n 0, 1) := by decide +kernel
theorem rd_KR_knotsAt_1 : decode mb_KR_knotsAt 1 = .ok (.iload_n 1, 1) := by decide +kernel
theorem rd_KR_knotsAt_2 : decode mb_KR_knotsAt 2 = .ok (.invokevirtual 172, 3) := by decide +kernel
theorem rd_KR_knotsAt_5 : decode mb_KR_knotsAt 5 = .ok (.iload_n 2, 1) := by decide +kernel
theorem rd_KR_knotsAt_6 : decode mb_KR_knotsAt 6 = .ok (.invokestatic 203, 3) := by decide +kernel
theorem rd_KR_knotsAt_9 : decode mb_KR_knotsAt 9 = .ok (.ifCond .ne 13, 3) := by decide +kernel
theorem rd_KR_knotsAt_12 : decode mb_KR_knotsAt 12 = .ok (.new 207, 3) := by decide +kernel
theorem rd_KR_knotsAt_15 : decode mb_KR_knotsAt 15 = .ok (.dup, 1) := by decide +kernel
theorem rd_KR_knotsAt_16 : decode mb_KR_knotsAt 16 = .ok (.ldc 209, 2) := by decide +kernel
theorem rd_KR_knotsAt_18 : decode mb_KR_knotsAt 18 = .ok (.invokespecial 211, 3) := by decide +kernel
theorem rd_KR_knotsAt_21 : decode mb_KR_knotsAt 21 = .ok (.athrow, 1) := by decide +kernel
theorem rd_KR_knotsAt_22 : decode mb_KR_knotsAt 22 = .ok (.iload_n 2, 1) := by decide +kernel
theorem rd_KR_knotsAt_23 : decode mb_KR_knotsAt 23 = .ok (.aload_n 0, 1) := by decide +kernel
theorem rd_KR_knotsAt_24 : decode mb_KR_knotsAt 24 = .ok (.getfield 33, 3) := by decide +kernel
theorem rd_KR_knotsAt_27 : decode mb_KR_knotsAt 27 = .ok (.getfield 194, 3) := by decide +kernel
theorem rd_KR_knotsAt_30 : decode mb_KR_knotsAt 30 = .ok (.iload_n 1, 1) := by decide +kernel
theorem rd_KR_knotsAt_31 : decode mb_KR_knotsAt 31 = .ok (.invokevirtual 119, 3) := by decide +kernel
theorem rd_KR_knotsAt_34 : decode mb_KR_knotsAt 34 = .ok (.if_icmp .ge 7, 3) := by decide +kernel
theorem rd_KR_knotsAt_37 : decode mb_KR_knotsAt 37 = .ok (.iconst (-1), 1) := by decide +kernel
theorem rd_KR_knotsAt_38 : decode mb_KR_knotsAt 38 = .ok (.goto 18, 3) := by decide +kernel
theorem rd_KR_knotsAt_41 : decode mb_KR_knotsAt 41 = .ok (.aload_n 0, 1) := by decide +kernel
theorem rd_KR_knotsAt_42 : decode mb_KR_knotsAt 42 = .ok (.getfield 33, 3) := by decide +kernel
theorem rd_KR_knotsAt_45 : decode mb_KR_knotsAt 45 = .ok (.getfield 151, 3) := by decide +kernel
theorem rd_KR_knotsAt_48 : decode mb_KR_knotsAt 48 = .ok (.iload_n 1, 1) := by decide +kernel
theorem rd_KR_knotsAt_49 : decode mb_KR_knotsAt 49 = .ok (.invokevirtual 119, 3) := by decide +kernel
theorem rd_KR_knotsAt_52 : decode mb_KR_knotsAt 52 = .ok (.iload_n 2, 1) := by decide +kernel
theorem rd_KR_knotsAt_53 : decode mb_KR_knotsAt 53 = .ok (.invokestatic 213, 3) := by decide +kernel
theorem rd_KR_knotsAt_56 : decode mb_KR_knotsAt 56 = .ok (.ireturn, 1) := by decide +kernel
theorem rd_KR_isComplete_0 : decode mb_KR_isComplete 0 = .ok (.aload_n 0, 1) := by decide +kernel
theorem rd_KR_isComplete_1 : decode mb_KR_isComplete 1 = .ok (.iload_n 1, 1) := by decide +kernel
theorem rd_KR_isComplete_2 : decode mb_KR_isComplete 2 = .ok (.invokevirtual 172, 3) := by decide +kernel
theorem rd_KR_isComplete_5 : decode mb_KR_isComplete 5 = .ok (.aload_n 0, 1) := by decide +kernel
theorem rd_KR_isComplete_6 : decode mb_KR_isComplete 6 = .ok (.getfield 33, 3) := by decide +kernel
theorem rd_KR_isComplete_9 : decode mb_KR_isComplete 9 = .ok (.iload_n 1, 1) := by decide +kernel
theorem rd_KR_isComplete_10 : decode mb_KR_isComplete 10 = .ok (.aload_n 0, 1) := by decide +kernel
theorem rd_KR_isComplete_11 : decode mb_KR_isComplete 11 = .ok (.getfield 33, 3) := by decide +kernel
theorem rd_KR_isComplete_14 : decode mb_KR_isComplete 14 = .ok (.iload_n 1, 1) := by decide +kernel
theorem rd_KR_isComplete_15 : decode mb_KR_isComplete 15 = .ok (.invokevirtual 187, 3) := by decide +kernel
theorem rd_KR_isComplete_18 : decode mb_KR_isComplete 18 = .ok (.invokevirtual 159, 3) := by decide +kernel
theorem rd_KR_isComplete_21 : decode mb_KR_isComplete 21 = .ok (.ifCond .ne 7, 3) := by decide +kernel
theorem rd_KR_isComplete_24 : decode mb_KR_isComplete 24 = .ok (.iconst 1, 1) := by decide +kernel
theorem rd_KR_isComplete_25 : decode mb_KR_isComplete 25 = .ok (.goto 4, 3) := by decide +kernel
theorem rd_KR_isComplete_28 : decode mb_KR_isComplete 28 = .ok (.iconst 0, 1) := by decide +kernel
theorem rd_KR_isComplete_29 : decode mb_KR_isComplete 29 = .ok (.ireturn, 1) := by decide +kernel
theorem rd_KR_requireCluster_0 : decode mb_KR_requireCluster 0 = .ok (.aload_n 0, 1) := by decide +kernel
theorem rd_KR_requireCluster_1 : decode mb_KR_requireCluster 1 = .ok (.getfield 33, 3) := by decide +kernel
theorem rd_KR_requireCluster_4 : decode mb_KR_requireCluster 4 = .ok (.iload_n 1, 1) := by decide +kernel
theorem rd_KR_requireCluster_5 : decode mb_KR_requireCluster 5 = .ok (.invokevirtual 307, 3) := by decide +kernel
theorem rd_KR_requireCluster_8 : decode mb_KR_requireCluster 8 = .ok (.ifCond .ne 14, 3) := by decide +kernel
theorem rd_KR_requireCluster_11 : decode mb_KR_requireCluster 11 = .ok (.new 302, 3) := by decide +kernel
theorem rd_KR_requireCluster_14 : decode mb_KR_requireCluster 14 = .ok (.dup, 1) := by decide +kernel
theorem rd_KR_requireCluster_15 : decode mb_KR_requireCluster 15 = .ok (.ldc_w 310, 3) := by decide +kernel
theorem rd_KR_requireCluster_18 : decode mb_KR_requireCluster 18 = .ok (.invokespecial 306, 3) := by decide +kernel
theorem rd_KR_requireCluster_21 : decode mb_KR_requireCluster 21 = .ok (.athrow, 1) := by decide +kernel
theorem rd_KR_requireCluster_22 : decode mb_KR_requireCluster 22 = .ok (.return_, 1) := by decide +kernel
theorem rd_KR_pendantsIn_0 : decode mb_KR_pendantsIn 0 = .ok (.aload_n 0, 1) := by decide +kernel
theorem rd_KR_pendantsIn_1 : decode mb_KR_pendantsIn 1 = .ok (.iload_n 1, 1) := by decide +kernel
theorem rd_KR_pendantsIn_2 : decode mb_KR_pendantsIn 2 = .ok (.invokevirtual 221, 3) := by decide +kernel
theorem rd_KR_pendantsIn_5 : decode mb_KR_pendantsIn 5 = .ok (.aload_n 0, 1) := by decide +kernel
theorem rd_KR_pendantsIn_6 : decode mb_KR_pendantsIn 6 = .ok (.getfield 33, 3) := by decide +kernel
theorem rd_KR_pendantsIn_9 : decode mb_KR_pendantsIn 9 = .ok (.aload_n 0, 1) := by decide +kernel
theorem rd_KR_pendantsIn_10 : decode mb_KR_pendantsIn 10 = .ok (.getfield 33, 3) := by decide +kernel
theorem rd_KR_pendantsIn_13 : decode mb_KR_pendantsIn 13 = .ok (.iload_n 1, 1) := by decide +kernel
theorem rd_KR_pendantsIn_14 : decode mb_KR_pendantsIn 14 = .ok (.invokevirtual 224, 3) := by decide +kernel
theorem rd_KR_pendantsIn_17 : decode mb_KR_pendantsIn 17 = .ok (.aload_n 0, 1) := by decide +kernel
theorem rd_KR_pendantsIn_18 : decode mb_KR_pendantsIn 18 = .ok (.getfield 33, 3) := by decide +kernel
theorem rd_KR_pendantsIn_21 : decode mb_KR_pendantsIn 21 = .ok (.iload_n 1, 1) := by decide +kernel
theorem rd_KR_pendantsIn_22 : decode mb_KR_pendantsIn 22 = .ok (.invokevirtual 227, 3) := by decide +kernel
theorem rd_KR_pendantsIn_25 : decode mb_KR_pendantsIn 25 = .ok (.iconst 1, 1) := by decide +kernel
theorem rd_KR_pendantsIn_26 : decode mb_KR_pendantsIn 26 = .ok (.invokevirtual 190, 3) := by decide +kernel
theorem rd_KR_pendantsIn_29 : decode mb_KR_pendantsIn 29 = .ok (.ireturn, 1) := by decide +kernel
theorem rd_KR_topOf_0 : decode mb_KR_topOf 0 = .ok (.aload_n 0, 1) := by decide +kernel
theorem rd_KR_topOf_1 : decode mb_KR_topOf 1 = .ok (.iload_n 1, 1) := by decide +kernel
theorem rd_KR_topOf_2 : decode mb_KR_topOf 2 = .ok (.invokevirtual 221, 3) := by decide +kernel
theorem rd_KR_topOf_5 : decode mb_KR_topOf 5 = .ok (.aload_n 0, 1) := by decide +kernel
theorem rd_KR_topOf_6 : decode mb_KR_topOf 6 = .ok (.getfield 33, 3) := by decide +kernel
theorem rd_KR_topOf_9 : decode mb_KR_topOf 9 = .ok (.iload_n 1, 1) := by decide +kernel
theorem rd_KR_topOf_10 : decode mb_KR_topOf 10 = .ok (.invokevirtual 230, 3) := by decide +kernel
theorem rd_KR_topOf_13 : decode mb_KR_topOf 13 = .ok (.ifCond .eq 14, 3) := by decide +kernel
theorem rd_KR_topOf_16 : decode mb_KR_topOf 16 = .ok (.aload_n 0, 1) := by decide +kernel
theorem rd_KR_topOf_17 : decode mb_KR_topOf 17 = .ok (.getfield 33, 3) := by decide +kernel
theorem rd_KR_topOf_20 : decode mb_KR_topOf 20 = .ok (.iload_n 1, 1) := by decide +kernel
theorem rd_KR_topOf_21 : decode mb_KR_topOf 21 = .ok (.invokevirtual 224, 3) := by decide +kernel
theorem rd_KR_topOf_24 : decode mb_KR_topOf 24 = .ok (.goto 4, 3) := by decide +kernel
theorem rd_KR_topOf_27 : decode mb_KR_topOf 27 = .ok (.iconst (-1), 1) := by decide +kernel
theorem rd_KR_topOf_28 : decode mb_KR_topOf 28 = .ok (.ireturn, 1) := by decide +kernel
theorem rd_KR_stateOf_0 : decode mb_KR_stateOf 0 = .ok (.aload_n 0, 1) := by decide +kernel
theorem rd_KR_stateOf_1 : decode mb_KR_stateOf 1 = .ok (.iload_n 1, 1) := by decide +kernel
theorem rd_KR_stateOf_2 : decode mb_KR_stateOf 2 = .ok (.invokevirtual 221, 3) := by decide +kernel
theorem rd_KR_stateOf_5 : decode mb_KR_stateOf 5 = .ok (.aload_n 0, 1) := by decide +kernel
theorem rd_KR_stateOf_6 : decode mb_KR_stateOf 6 = .ok (.getfield 33, 3) := by decide +kernel
theorem rd_KR_stateOf_9 : decode mb_KR_stateOf 9 = .ok (.iload_n 1, 1) := by decide +kernel
theorem rd_KR_stateOf_10 : decode mb_KR_stateOf 10 = .ok (.invokevirtual 163, 3) := by decide +kernel
theorem rd_KR_stateOf_13 : decode mb_KR_stateOf 13 = .ok (.ireturn, 1) := by decide +kernel
theorem rd_KR_guessObstacle_0 : decode mb_KR_guessObstacle 0 = .ok (.aload_n 0, 1) := by decide +kernel
theorem rd_KR_guessObstacle_1 : decode mb_KR_guessObstacle 1 = .ok (.iload_n 1, 1) := by decide +kernel
theorem rd_KR_guessObstacle_2 : decode mb_KR_guessObstacle 2 = .ok (.invokevirtual 221, 3) := by decide +kernel
theorem rd_KR_guessObstacle_5 : decode mb_KR_guessObstacle 5 = .ok (.aload_n 0, 1) := by decide +kernel
theorem rd_KR_guessObstacle_6 : decode mb_KR_guessObstacle 6 = .ok (.getfield 33, 3) := by decide +kernel
theorem rd_KR_guessObstacle_9 : decode mb_KR_guessObstacle 9 = .ok (.iload_n 1, 1) := by decide +kernel
theorem rd_KR_guessObstacle_10 : decode mb_KR_guessObstacle 10 = .ok (.invokevirtual 236, 3) := by decide +kernel
theorem rd_KR_guessObstacle_13 : decode mb_KR_guessObstacle 13 = .ok (.ireturn, 1) := by decide +kernel
theorem rd_KR_guessIn_0 : decode mb_KR_guessIn 0 = .ok (.aload_n 0, 1) := by decide +kernel
theorem rd_KR_guessIn_1 : decode mb_KR_guessIn 1 = .ok (.iload_n 1, 1) := by decide +kernel
theorem rd_KR_guessIn_2 : decode mb_KR_guessIn 2 = .ok (.invokevirtual 221, 3) := by decide +kernel
theorem rd_KR_guessIn_5 : decode mb_KR_guessIn 5 = .ok (.aload_n 0, 1) := by decide +kernel
theorem rd_KR_guessIn_6 : decode mb_KR_guessIn 6 = .ok (.getfield 33, 3) := by decide +kernel
theorem rd_KR_guessIn_9 : decode mb_KR_guessIn 9 = .ok (.iload_n 1, 1) := by decide +kernel
theorem rd_KR_guessIn_10 : decode mb_KR_guessIn 10 = .ok (.invokevirtual 236, 3) := by decide +kernel
theorem rd_KR_guessIn_13 : decode mb_KR_guessIn 13 = .ok (.ifCond .eq 13, 3) := by decide +kernel
theorem rd_KR_guessIn_16 : decode mb_KR_guessIn 16 = .ok (.new 216, 3) := by decide +kernel
theorem rd_KR_guessIn_19 : decode mb_KR_guessIn 19 = .ok (.dup, 1) := by decide +kernel
theorem rd_KR_guessIn_20 : decode mb_KR_guessIn 20 = .ok (.ldc 245, 2) := by decide +kernel
theorem rd_KR_guessIn_22 : decode mb_KR_guessIn 22 = .ok (.invokespecial 220, 3) := by decide +kernel
theorem rd_KR_guessIn_25 : decode mb_KR_guessIn 25 = .ok (.athrow, 1) := by decide +kernel
theorem rd_KR_guessIn_26 : decode mb_KR_guessIn 26 = .ok (.aload_n 0, 1) := by decide +kernel
theorem rd_KR_guessIn_27 : decode mb_KR_guessIn 27 = .ok (.getfield 33, 3) := by decide +kernel
theorem rd_KR_guessIn_30 : decode mb_KR_guessIn 30 = .ok (.iload_n 1, 1) := by decide +kernel
theorem rd_KR_guessIn_31 : decode mb_KR_guessIn 31 = .ok (.invokevirtual 247, 3) := by decide +kernel
theorem rd_KR_guessIn_34 : decode mb_KR_guessIn 34 = .ok (.ireturn, 1) := by decide +kernel
theorem rd_KR_isConsistent_0 : decode mb_KR_isConsistent 0 = .ok (.aload_n 0, 1) := by decide +kernel
theorem rd_KR_isConsistent_1 : decode mb_KR_isConsistent 1 = .ok (.getfield 33, 3) := by decide +kernel
theorem rd_KR_isConsistent_4 : decode mb_KR_isConsistent 4 = .ok (.invokestatic 256, 3) := by decide +kernel
theorem rd_KR_isConsistent_7 : decode mb_KR_isConsistent 7 = .ok (.ifCond .eq 41, 3) := by decide +kernel
theorem rd_KR_isConsistent_10 : decode mb_KR_isConsistent 10 = .ok (.aload_n 0, 1) := by decide +kernel
theorem rd_KR_isConsistent_11 : decode mb_KR_isConsistent 11 = .ok (.getfield 33, 3) := by decide +kernel
theorem rd_KR_isConsistent_14 : decode mb_KR_isConsistent 14 = .ok (.invokestatic 262, 3) := by decide +kernel
theorem rd_KR_isConsistent_17 : decode mb_KR_isConsistent 17 = .ok (.ifCond .eq 31, 3) := by decide +kernel
theorem rd_KR_isConsistent_20 : decode mb_KR_isConsistent 20 = .ok (.aload_n 0, 1) := by decide +kernel
theorem rd_KR_isConsistent_21 : decode mb_KR_isConsistent 21 = .ok (.getfield 33, 3) := by decide +kernel
theorem rd_KR_isConsistent_24 : decode mb_KR_isConsistent 24 = .ok (.invokestatic 265, 3) := by decide +kernel
theorem rd_KR_isConsistent_27 : decode mb_KR_isConsistent 27 = .ok (.ifCond .eq 21, 3) := by decide +kernel
theorem rd_KR_isConsistent_30 : decode mb_KR_isConsistent 30 = .ok (.aload_n 0, 1) := by decide +kernel
theorem rd_KR_isConsistent_31 : decode mb_KR_isConsistent 31 = .ok (.getfield 33, 3) := by decide +kernel
theorem rd_KR_isConsistent_34 : decode mb_KR_isConsistent 34 = .ok (.aload_n 0, 1) := by decide +kernel
theorem rd_KR_isConsistent_35 : decode mb_KR_isConsistent 35 = .ok (.getfield 40, 3) := by decide +kernel
theorem rd_KR_isConsistent_38 : decode mb_KR_isConsistent 38 = .ok (.invokestatic 268, 3) := by decide +kernel
theorem rd_KR_isConsistent_41 : decode mb_KR_isConsistent 41 = .ok (.ifCond .eq 7, 3) := by decide +kernel
theorem rd_KR_isConsistent_44 : decode mb_KR_isConsistent 44 = .ok (.iconst 1, 1) := by decide +kernel
theorem rd_KR_isConsistent_45 : decode mb_KR_isConsistent 45 = .ok (.goto 4, 3) := by decide +kernel
theorem rd_KR_isConsistent_48 : decode mb_KR_isConsistent 48 = .ok (.iconst 0, 1) := by decide +kernel
theorem rd_KR_isConsistent_49 : decode mb_KR_isConsistent 49 = .ok (.ireturn, 1) := by decide +kernel
theorem rd_KR_perform_0 : decode mb_KR_perform 0 = .ok (.iload_n 1, 1) := by decide +kernel
theorem rd_KR_perform_1 : decode mb_KR_perform 1 = .ok (.tableswitch 191 0 8 #[51, 59, 80, 120, 137, 147, 159, 169, 182], 51) := by decide +kernel
theorem rd_KR_perform_52 : decode mb_KR_perform 52 = .ok (.aload_n 0, 1) := by decide +kernel
theorem rd_KR_perform_53 : decode mb_KR_perform 53 = .ok (.getfield 33, 3) := by decide +kernel
theorem rd_KR_perform_56 : decode mb_KR_perform 56 = .ok (.invokevirtual 343, 3) := by decide +kernel
theorem rd_KR_perform_59 : decode mb_KR_perform 59 = .ok (.ireturn, 1) := by decide +kernel
theorem rd_KR_perform_60 : decode mb_KR_perform 60 = .ok (.aload_n 0, 1) := by decide +kernel
theorem rd_KR_perform_61 : decode mb_KR_perform 61 = .ok (.getfield 33, 3) := by decide +kernel
theorem rd_KR_perform_64 : decode mb_KR_perform 64 = .ok (.aload_n 0, 1) := by decide +kernel
theorem rd_KR_perform_65 : decode mb_KR_perform 65 = .ok (.getfield 33, 3) := by decide +kernel
theorem rd_KR_perform_68 : decode mb_KR_perform 68 = .ok (.iload_n 2, 1) := by decide +kernel
theorem rd_KR_perform_69 : decode mb_KR_perform 69 = .ok (.invokevirtual 227, 3) := by decide +kernel
theorem rd_KR_perform_72 : decode mb_KR_perform 72 = .ok (.iload_n 2, 1) := by decide +kernel
theorem rd_KR_perform_73 : decode mb_KR_perform 73 = .ok (.iconst 1, 1) := by decide +kernel
theorem rd_KR_perform_74 : decode mb_KR_perform 74 = .ok (.iload_n 3, 1) := by decide +kernel
theorem rd_KR_perform_75 : decode mb_KR_perform 75 = .ok (.iload 4, 2) := by decide +kernel
theorem rd_KR_perform_77 : decode mb_KR_perform 77 = .ok (.invokevirtual 347, 3) := by decide +kernel
theorem rd_KR_perform_80 : decode mb_KR_perform 80 = .ok (.ireturn, 1) := by decide +kernel
theorem rd_KR_perform_81 : decode mb_KR_perform 81 = .ok (.aload_n 0, 1) := by decide +kernel
theorem rd_KR_perform_82 : decode mb_KR_perform 82 = .ok (.getfield 33, 3) := by decide +kernel
theorem rd_KR_perform_85 : decode mb_KR_perform 85 = .ok (.aload_n 0, 1) := by decide +kernel
theorem rd_KR_perform_86 : decode mb_KR_perform 86 = .ok (.getfield 33, 3) := by decide +kernel
theorem rd_KR_perform_89 : decode mb_KR_perform 89 = .ok (.iload_n 2, 1) := by decide +kernel
theorem rd_KR_perform_90 : decode mb_KR_perform 90 = .ok (.invokevirtual 187, 3) := by decide +kernel
theorem rd_KR_perform_93 : decode mb_KR_perform 93 = .ok (.aload_n 0, 1) := by decide +kernel
theorem rd_KR_perform_94 : decode mb_KR_perform 94 = .ok (.getfield 33, 3) := by decide +kernel
theorem rd_KR_perform_97 : decode mb_KR_perform 97 = .ok (.iload_n 2, 1) := by decide +kernel
theorem rd_KR_perform_98 : decode mb_KR_perform 98 = .ok (.invokevirtual 175, 3) := by decide +kernel
theorem rd_KR_perform_101 : decode mb_KR_perform 101 = .ok (.aload_n 0, 1) := by decide +kernel
theorem rd_KR_perform_102 : decode mb_KR_perform 102 = .ok (.getfield 33, 3) := by decide +kernel
theorem rd_KR_perform_105 : decode mb_KR_perform 105 = .ok (.getfield 178, 3) := by decide +kernel
theorem rd_KR_perform_108 : decode mb_KR_perform 108 = .ok (.iload_n 2, 1) := by decide +kernel
theorem rd_KR_perform_109 : decode mb_KR_perform 109 = .ok (.invokevirtual 119, 3) := by decide +kernel
theorem rd_KR_perform_112 : decode mb_KR_perform 112 = .ok (.iconst 1, 1) := by decide +kernel
theorem rd_KR_perform_113 : decode mb_KR_perform 113 = .ok (.iadd, 1) := by decide +kernel
theorem rd_KR_perform_114 : decode mb_KR_perform 114 = .ok (.iload_n 3, 1) := by decide +kernel
theorem rd_KR_perform_115 : decode mb_KR_perform 115 = .ok (.iload 4, 2) := by decide +kernel
theorem rd_KR_perform_117 : decode mb_KR_perform 117 = .ok (.invokevirtual 347, 3) := by decide +kernel
theorem rd_KR_perform_120 : decode mb_KR_perform 120 = .ok (.ireturn, 1) := by decide +kernel
theorem rd_KR_perform_121 : decode mb_KR_perform 121 = .ok (.aload_n 0, 1) := by decide +kernel
theorem rd_KR_perform_122 : decode mb_KR_perform 122 = .ok (.getfield 33, 3) := by decide +kernel
theorem rd_KR_perform_125 : decode mb_KR_perform 125 = .ok (.iload_n 2, 1) := by decide +kernel
theorem rd_KR_perform_126 : decode mb_KR_perform 126 = .ok (.aload_n 0, 1) := by decide +kernel
theorem rd_KR_perform_127 : decode mb_KR_perform 127 = .ok (.getfield 33, 3) := by decide +kernel
theorem rd_KR_perform_130 : decode mb_KR_perform 130 = .ok (.iload_n 2, 1) := by decide +kernel
theorem rd_KR_perform_131 : decode mb_KR_perform 131 = .ok (.invokevirtual 187, 3) := by decide +kernel
theorem rd_KR_perform_134 : decode mb_KR_perform 134 = .ok (.invokevirtual 351, 3) := by decide +kernel
theorem rd_KR_perform_137 : decode mb_KR_perform 137 = .ok (.ireturn, 1) := by decide +kernel
theorem rd_KR_perform_138 : decode mb_KR_perform 138 = .ok (.aload_n 0, 1) := by decide +kernel
theorem rd_KR_perform_139 : decode mb_KR_perform 139 = .ok (.getfield 33, 3) := by decide +kernel
theorem rd_KR_perform_142 : decode mb_KR_perform 142 = .ok (.iload_n 2, 1) := by decide +kernel
theorem rd_KR_perform_143 : decode mb_KR_perform 143 = .ok (.iload_n 3, 1) := by decide +kernel
theorem rd_KR_perform_144 : decode mb_KR_perform 144 = .ok (.invokevirtual 354, 3) := by decide +kernel
theorem rd_KR_perform_147 : decode mb_KR_perform 147 = .ok (.ireturn, 1) := by decide +kernel
theorem rd_KR_perform_148 : decode mb_KR_perform 148 = .ok (.aload_n 0, 1) := by decide +kernel
theorem rd_KR_perform_149 : decode mb_KR_perform 149 = .ok (.getfield 33, 3) := by decide +kernel
theorem rd_KR_perform_152 : decode mb_KR_perform 152 = .ok (.iload_n 2, 1) := by decide +kernel
theorem rd_KR_perform_153 : decode mb_KR_perform 153 = .ok (.iload_n 3, 1) := by decide +kernel
theorem rd_KR_perform_154 : decode mb_KR_perform 154 = .ok (.iload 4, 2) := by decide +kernel
theorem rd_KR_perform_156 : decode mb_KR_perform 156 = .ok (.invokevirtual 357, 3) := by decide +kernel
theorem rd_KR_perform_159 : decode mb_KR_perform 159 = .ok (.ireturn, 1) := by decide +kernel
theorem rd_KR_perform_160 : decode mb_KR_perform 160 = .ok (.aload_n 0, 1) := by decide +kernel
theorem rd_KR_perform_161 : decode mb_KR_perform 161 = .ok (.getfield 33, 3) := by decide +kernel
theorem rd_KR_perform_164 : decode mb_KR_perform 164 = .ok (.iload_n 2, 1) := by decide +kernel
theorem rd_KR_perform_165 : decode mb_KR_perform 165 = .ok (.iload_n 3, 1) := by decide +kernel
theorem rd_KR_perform_166 : decode mb_KR_perform 166 = .ok (.invokevirtual 360, 3) := by decide +kernel
theorem rd_KR_perform_169 : decode mb_KR_perform 169 = .ok (.ireturn, 1) := by decide +kernel
theorem rd_KR_perform_170 : decode mb_KR_perform 170 = .ok (.aload_n 0, 1) := by decide +kernel
theorem rd_KR_perform_171 : decode mb_KR_perform 171 = .ok (.getfield 33, 3) := by decide +kernel
theorem rd_KR_perform_174 : decode mb_KR_perform 174 = .ok (.getfield 184, 3) := by decide +kernel
theorem rd_KR_perform_177 : decode mb_KR_perform 177 = .ok (.iload_n 2, 1) := by decide +kernel
theorem rd_KR_perform_178 : decode mb_KR_perform 178 = .ok (.iload_n 3, 1) := by decide +kernel
theorem rd_KR_perform_179 : decode mb_KR_perform 179 = .ok (.invokevirtual 363, 3) := by decide +kernel
theorem rd_KR_perform_182 : decode mb_KR_perform 182 = .ok (.ireturn, 1) := by decide +kernel
theorem rd_KR_perform_183 : decode mb_KR_perform 183 = .ok (.aload_n 0, 1) := by decide +kernel
theorem rd_KR_perform_184 : decode mb_KR_perform 184 = .ok (.getfield 33, 3) := by decide +kernel
theorem rd_KR_perform_187 : decode mb_KR_perform 187 = .ok (.iload_n 2, 1) := by decide +kernel
theorem rd_KR_perform_188 : decode mb_KR_perform 188 = .ok (.invokevirtual 366, 3) := by decide +kernel
theorem rd_KR_perform_191 : decode mb_KR_perform 191 = .ok (.ireturn, 1) := by decide +kernel
theorem rd_KR_perform_192 : decode mb_KR_perform 192 = .ok (.iconst (-1), 1) := by decide +kernel
theorem rd_KR_perform_193 : decode mb_KR_perform 193 = .ok (.ireturn, 1) := by decide +kernel
theorem rd_KR_knotsProblem_0 : decode mb_KR_knotsProblem 0 = .ok (.aload_n 0, 1) := by decide +kernel
theorem rd_KR_knotsProblem_1 : decode mb_KR_knotsProblem 1 = .ok (.getfield 33, 3) := by decide +kernel
theorem rd_KR_knotsProblem_4 : decode mb_KR_knotsProblem 4 = .ok (.iload_n 1, 1) := by decide +kernel
theorem rd_KR_knotsProblem_5 : decode mb_KR_knotsProblem 5 = .ok (.invokevirtual 312, 3) := by decide +kernel
theorem rd_KR_knotsProblem_8 : decode mb_KR_knotsProblem 8 = .ok (.ifCond .ne 5, 3) := by decide +kernel
theorem rd_KR_knotsProblem_11 : decode mb_KR_knotsProblem 11 = .ok (.iconst 1, 1) := by decide +kernel
theorem rd_KR_knotsProblem_12 : decode mb_KR_knotsProblem 12 = .ok (.ireturn, 1) := by decide +kernel
theorem rd_KR_knotsProblem_13 : decode mb_KR_knotsProblem 13 = .ok (.iload_n 2, 1) := by decide +kernel
theorem rd_KR_knotsProblem_14 : decode mb_KR_knotsProblem 14 = .ok (.invokestatic 203, 3) := by decide +kernel
theorem rd_KR_knotsProblem_17 : decode mb_KR_knotsProblem 17 = .ok (.ifCond .eq 13, 3) := by decide +kernel
theorem rd_KR_knotsProblem_20 : decode mb_KR_knotsProblem 20 = .ok (.iload_n 3, 1) := by decide +kernel
theorem rd_KR_knotsProblem_21 : decode mb_KR_knotsProblem 21 = .ok (.ifCond .lt 9, 3) := by decide +kernel
theorem rd_KR_knotsProblem_24 : decode mb_KR_knotsProblem 24 = .ok (.iload_n 3, 1) := by decide +kernel
theorem rd_KR_knotsProblem_25 : decode mb_KR_knotsProblem 25 = .ok (.bipush 9, 2) := by decide +kernel
theorem rd_KR_knotsProblem_27 : decode mb_KR_knotsProblem 27 = .ok (.if_icmp .le 5, 3) := by decide +kernel
theorem rd_KR_knotsProblem_30 : decode mb_KR_knotsProblem 30 = .ok (.iconst 2, 1) := by decide +kernel
theorem rd_KR_knotsProblem_31 : decode mb_KR_knotsProblem 31 = .ok (.ireturn, 1) := by decide +kernel
theorem rd_KR_knotsProblem_32 : decode mb_KR_knotsProblem 32 = .ok (.iload_n 2, 1) := by decide +kernel
theorem rd_KR_knotsProblem_33 : decode mb_KR_knotsProblem 33 = .ok (.aload_n 0, 1) := by decide +kernel
theorem rd_KR_knotsProblem_34 : decode mb_KR_knotsProblem 34 = .ok (.getfield 33, 3) := by decide +kernel
theorem rd_KR_knotsProblem_37 : decode mb_KR_knotsProblem 37 = .ok (.getfield 194, 3) := by decide +kernel
theorem rd_KR_knotsProblem_40 : decode mb_KR_knotsProblem 40 = .ok (.iload_n 1, 1) := by decide +kernel
theorem rd_KR_knotsProblem_41 : decode mb_KR_knotsProblem 41 = .ok (.invokevirtual 119, 3) := by decide +kernel
theorem rd_KR_knotsProblem_44 : decode mb_KR_knotsProblem 44 = .ok (.if_icmp .lt 7, 3) := by decide +kernel
theorem rd_KR_knotsProblem_47 : decode mb_KR_knotsProblem 47 = .ok (.iconst 0, 1) := by decide +kernel
theorem rd_KR_knotsProblem_48 : decode mb_KR_knotsProblem 48 = .ok (.goto 4, 3) := by decide +kernel
theorem rd_KR_knotsProblem_51 : decode mb_KR_knotsProblem 51 = .ok (.iconst 3, 1) := by decide +kernel
theorem rd_KR_knotsProblem_52 : decode mb_KR_knotsProblem 52 = .ok (.ireturn, 1) := by decide +kernel
theorem rd_KR_newCordProblem_0 : decode mb_KR_newCordProblem 0 = .ok (.iload_n 1, 1) := by decide +kernel
theorem rd_KR_newCordProblem_1 : decode mb_KR_newCordProblem 1 = .ok (.ifCond .eq 14, 3) := by decide +kernel
theorem rd_KR_newCordProblem_4 : decode mb_KR_newCordProblem 4 = .ok (.aload_n 0, 1) := by decide +kernel
theorem rd_KR_newCordProblem_5 : decode mb_KR_newCordProblem 5 = .ok (.getfield 26, 3) := by decide +kernel
theorem rd_KR_newCordProblem_8 : decode mb_KR_newCordProblem 8 = .ok (.iload_n 3, 1) := by decide +kernel
theorem rd_KR_newCordProblem_9 : decode mb_KR_newCordProblem 9 = .ok (.invokevirtual 299, 3) := by decide +kernel
theorem rd_KR_newCordProblem_12 : decode mb_KR_newCordProblem 12 = .ok (.ifCond .ne 5, 3) := by decide +kernel
theorem rd_KR_newCordProblem_15 : decode mb_KR_newCordProblem 15 = .ok (.iconst 1, 1) := by decide +kernel
theorem rd_KR_newCordProblem_16 : decode mb_KR_newCordProblem 16 = .ok (.ireturn, 1) := by decide +kernel
theorem rd_KR_newCordProblem_17 : decode mb_KR_newCordProblem 17 = .ok (.iload 4, 2) := by decide +kernel
theorem rd_KR_newCordProblem_19 : decode mb_KR_newCordProblem 19 = .ok (.invokestatic 340, 3) := by decide +kernel
theorem rd_KR_newCordProblem_22 : decode mb_KR_newCordProblem 22 = .ok (.ifCond .ne 5, 3) := by decide +kernel
theorem rd_KR_newCordProblem_25 : decode mb_KR_newCordProblem 25 = .ok (.iconst 2, 1) := by decide +kernel
theorem rd_KR_newCordProblem_26 : decode mb_KR_newCordProblem 26 = .ok (.ireturn, 1) := by decide +kernel
theorem rd_KR_newCordProblem_27 : decode mb_KR_newCordProblem 27 = .ok (.iload_n 2, 1) := by decide +kernel
theorem rd_KR_newCordProblem_28 : decode mb_KR_newCordProblem 28 = .ok (.ifCond .eq 19, 3) := by decide +kernel
theorem rd_KR_newCordProblem_31 : decode mb_KR_newCordProblem 31 = .ok (.aload_n 0, 1) := by decide +kernel
theorem rd_KR_newCordProblem_32 : decode mb_KR_newCordProblem 32 = .ok (.getfield 33, 3) := by decide +kernel
theorem rd_KR_newCordProblem_35 : decode mb_KR_newCordProblem 35 = .ok (.getfield 105, 3) := by decide +kernel
theorem rd_KR_newCordProblem_38 : decode mb_KR_newCordProblem 38 = .ok (.bipush 40, 2) := by decide +kernel
theorem rd_KR_newCordProblem_40 : decode mb_KR_newCordProblem 40 = .ok (.if_icmp .ge 7, 3) := by decide +kernel
theorem rd_KR_newCordProblem_43 : decode mb_KR_newCordProblem 43 = .ok (.iconst 0, 1) := by decide +kernel
theorem rd_KR_newCordProblem_44 : decode mb_KR_newCordProblem 44 = .ok (.goto 4, 3) := by decide +kernel
theorem rd_KR_newCordProblem_47 : decode mb_KR_newCordProblem 47 = .ok (.iconst 3, 1) := by decide +kernel
theorem rd_KR_newCordProblem_48 : decode mb_KR_newCordProblem 48 = .ok (.ireturn, 1) := by decide +kernel
theorem rd_KR_nibbleProblem_0 : decode mb_KR_nibbleProblem 0 = .ok (.aload_n 0, 1) := by decide +kernel
theorem rd_KR_nibbleProblem_1 : decode mb_KR_nibbleProblem 1 = .ok (.getfield 33, 3) := by decide +kernel
theorem rd_KR_nibbleProblem_4 : decode mb_KR_nibbleProblem 4 = .ok (.iload_n 1, 1) := by decide +kernel
theorem rd_KR_nibbleProblem_5 : decode mb_KR_nibbleProblem 5 = .ok (.invokevirtual 312, 3) := by decide +kernel
theorem rd_KR_nibbleProblem_8 : decode mb_KR_nibbleProblem 8 = .ok (.ifCond .ne 5, 3) := by decide +kernel
theorem rd_KR_nibbleProblem_11 : decode mb_KR_nibbleProblem 11 = .ok (.iconst 1, 1) := by decide +kernel
theorem rd_KR_nibbleProblem_12 : decode mb_KR_nibbleProblem 12 = .ok (.ireturn, 1) := by decide +kernel
theorem rd_KR_nibbleProblem_13 : decode mb_KR_nibbleProblem 13 = .ok (.iload_n 2, 1) := by decide +kernel
theorem rd_KR_nibbleProblem_14 : decode mb_KR_nibbleProblem 14 = .ok (.iconst 1, 1) := by decide +kernel
theorem rd_KR_nibbleProblem_15 : decode mb_KR_nibbleProblem 15 = .ok (.if_icmp .lt 8, 3) := by decide +kernel
theorem rd_KR_nibbleProblem_18 : decode mb_KR_nibbleProblem 18 = .ok (.iload_n 2, 1) := by decide +kernel
theorem rd_KR_nibbleProblem_19 : decode mb_KR_nibbleProblem 19 = .ok (.iconst 4, 1) := by decide +kernel
theorem rd_KR_nibbleProblem_20 : decode mb_KR_nibbleProblem 20 = .ok (.if_icmp .le 5, 3) := by decide +kernel
theorem rd_KR_nibbleProblem_23 : decode mb_KR_nibbleProblem 23 = .ok (.iconst 2, 1) := by decide +kernel
theorem rd_KR_nibbleProblem_24 : decode mb_KR_nibbleProblem 24 = .ok (.ireturn, 1) := by decide +kernel
theorem rd_KR_nibbleProblem_25 : decode mb_KR_nibbleProblem 25 = .ok (.iload_n 2, 1) := by decide +kernel
theorem rd_KR_nibbleProblem_26 : decode mb_KR_nibbleProblem 26 = .ok (.aload_n 0, 1) := by decide +kernel
theorem rd_KR_nibbleProblem_27 : decode mb_KR_nibbleProblem 27 = .ok (.getfield 33, 3) := by decide +kernel
theorem rd_KR_nibbleProblem_30 : decode mb_KR_nibbleProblem 30 = .ok (.getfield 194, 3) := by decide +kernel
theorem rd_KR_nibbleProblem_33 : decode mb_KR_nibbleProblem 33 = .ok (.iload_n 1, 1) := by decide +kernel
theorem rd_KR_nibbleProblem_34 : decode mb_KR_nibbleProblem 34 = .ok (.invokevirtual 119, 3) := by decide +kernel
theorem rd_KR_nibbleProblem_37 : decode mb_KR_nibbleProblem 37 = .ok (.if_icmp .lt 7, 3) := by decide +kernel
theorem rd_KR_nibbleProblem_40 : decode mb_KR_nibbleProblem 40 = .ok (.iconst 0, 1) := by decide +kernel
theorem rd_KR_nibbleProblem_41 : decode mb_KR_nibbleProblem 41 = .ok (.goto 4, 3) := by decide +kernel
theorem rd_KR_nibbleProblem_44 : decode mb_KR_nibbleProblem 44 = .ok (.iconst 3, 1) := by decide +kernel
theorem rd_KR_nibbleProblem_45 : decode mb_KR_nibbleProblem 45 = .ok (.ireturn, 1) := by decide +kernel
def wd_KR_knotsAt (cI : ClassId) (a_t a_t_input a_t_output a_t_topics a_t_cords a_t_draftTopics a_t_draft a_t_saved a_t_history a_t_script a_t_cords_starts a_t_cords_depth a_t_cords_topic a_t_cords_value a_t_cords_nibbled a_t_cords_value_k a_t_cords_nibbled_k : Nat) (i_t_hasSaved : Int) (i_t_reportedCode : Int) (i_t_reportedOffset : Int) (i_t_cords_clusters : Int) (i_t_cords_size : Int) (i_t_cords_value : (Int → Int)) (i_t_cords_nibbled : (Int → Int)) : va_W := [(a_t, .inr (10, [.ref a_t_input, .ref a_t_output, .ref a_t_topics, .ref a_t_cords, .ref a_t_draftTopics, .ref a_t_draft, .ref a_t_saved, .ref a_t_history, .ref a_t_script, jk_V i_t_hasSaved, jk_V i_t_reportedCode, jk_V i_t_reportedOffset])), (a_t_cords, .inr (5, [jk_V i_t_cords_clusters, jk_V i_t_cords_size, .ref a_t_cords_starts, .ref a_t_cords_depth, .ref a_t_cords_topic, .ref a_t_cords_value, .ref a_t_cords_nibbled])), (a_t_cords_value, .inr (0, [.ref a_t_cords_value_k])), (a_t_cords_value_k, jk_W cI 40 i_t_cords_value), (a_t_cords_nibbled, .inr (0, [.ref a_t_cords_nibbled_k])), (a_t_cords_nibbled_k, jk_W cI 40 i_t_cords_nibbled)]
set_option maxHeartbeats 4000000 in
set_option maxRecDepth 20000 in
theorem ct_KR_knotsAt (l : Launch) (D : va_G) (Z : (Nat → Prop) → State → Heap → Prop) (sq : Nat → Nat) (hZ : jk_ZK Z sq) (hl : l.stackTraces = false) (cI cR : ClassId) (a_t a_t_input a_t_output a_t_topics a_t_cords a_t_draftTopics a_t_draft a_t_saved a_t_history a_t_script a_t_cords_starts a_t_cords_depth a_t_cords_topic a_t_cords_value a_t_cords_nibbled a_t_cords_value_k a_t_cords_nibbled_k : Nat) (i_t_hasSaved : Int) (i_t_reportedCode : Int) (i_t_reportedOffset : Int) (i_t_cords_clusters : Int) (i_t_cords_size : Int) (i_t_cords_value : (Int → Int)) (i_t_cords_nibbled : (Int → Int)) (x1 : Int) (x2 : Int) (q : Nat ⊕ (Int)) (hf : fn_KR_knotsAt i_t_cords_size i_t_cords_value i_t_cords_nibbled x1 x2 = some q) : jk_XI l D jk_cl (jk_ty cI cR) Z mn_KR_knotsAt (.code mn_KR_knotsAt mb_KR_knotsAt 3 (some .int) :: jk_WA) (jk_rx 7 2 12 121) [.ref a_t, jk_V x1, jk_V x2] (wd_KR_knotsAt cI a_t a_t_input a_t_output a_t_topics a_t_cords a_t_draftTopics a_t_draft a_t_saved a_t_history a_t_script a_t_cords_starts a_t_cords_depth a_t_cords_topic a_t_cords_value a_t_cords_nibbled a_t_cords_value_k a_t_cords_nibbled_k i_t_hasSaved i_t_reportedCode i_t_reportedOffset i_t_cords_clusters i_t_cords_size i_t_cords_value i_t_cords_nibbled) (Sum.map id (fun (z : Int) => ((z : Int), wd_KR_knotsAt cI a_t a_t_input a_t_output a_t_topics a_t_cords a_t_draftTopics a_t_draft a_t_saved a_t_history a_t_script a_t_cords_starts a_t_cords_depth a_t_cords_topic a_t_cords_value a_t_cords_nibbled a_t_cords_value_k a_t_cords_nibbled_k i_t_hasSaved i_t_reportedCode i_t_reportedOffset i_t_cords_clusters i_t_cords_size i_t_cords_value i_t_cords_nibbled)) q) 2 12 := by
  intro sz
  refine jk_xbody (by decide +kernel) (fun p e s m args below meth c hsz hz hnh C => ?_) (Nat.le_of_ble_eq_true rfl)
  subst hsz
  unfold fn_KR_knotsAt at hf
  refine jk_aload_n C rd_KR_knotsAt_0 (k := 0) rfl ?_
  refine jk_iload_n C rd_KR_knotsAt_1 (k := 1) rfl ?_
  obtain ⟨q2, hq2, hf⟩ := jk_bind_h hf
  rcases q2 with k2 | q2
  · replace hf : (some (Sum.inl k2) : Option (Nat ⊕ (Int))) = some q := hf
    cases hf
    exact jk_callXv_t C hZ.1 hz hnh rfl rfl rfl rfl (ct_KR_requireCord l D Z sq hZ hl cI cR a_t a_t_input a_t_output a_t_topics a_t_cords a_t_draftTopics a_t_draft a_t_saved a_t_history a_t_script a_t_cords_starts a_t_cords_depth a_t_cords_topic a_t_cords_value a_t_cords_nibbled i_t_hasSaved i_t_reportedCode i_t_reportedOffset i_t_cords_clusters i_t_cords_size x1 _ hq2) tm_947 tm_949 sl_10 tm_1 tm_950 na_KR_requireCord ⟨Nat.le_of_ble_eq_true rfl, Nat.le_of_ble_eq_true rfl⟩ rfl [0, 1] rfl rfl rfl 0 10 rfl rfl rfl (st := []) rfl (Nat.le_of_ble_eq_true rfl) rd_KR_knotsAt_2 ⟨Nat.le_of_ble_eq_true rfl, Nat.le_of_ble_eq_true rfl⟩ (Nat.le_of_ble_eq_true rfl) (Nat.le_of_ble_eq_true rfl)
  · refine jk_callXv_r C hZ.1 hz rfl (ct_KR_requireCord l D Z sq hZ hl cI cR a_t a_t_input a_t_output a_t_topics a_t_cords a_t_draftTopics a_t_draft a_t_saved a_t_history a_t_script a_t_cords_starts a_t_cords_depth a_t_cords_topic a_t_cords_value a_t_cords_nibbled i_t_hasSaved i_t_reportedCode i_t_reportedOffset i_t_cords_clusters i_t_cords_size x1 _ hq2) tm_947 tm_949 sl_10 tm_1 tm_950 na_KR_requireCord ⟨Nat.le_of_ble_eq_true rfl, Nat.le_of_ble_eq_true rfl⟩ rfl [0, 1] rfl rfl rfl (ws' := wd_KR_knotsAt cI a_t a_t_input a_t_output a_t_topics a_t_cords a_t_draftTopics a_t_draft a_t_saved a_t_history a_t_script a_t_cords_starts a_t_cords_depth a_t_cords_topic a_t_cords_value a_t_cords_nibbled a_t_cords_value_k a_t_cords_nibbled_k i_t_hasSaved i_t_reportedCode i_t_reportedOffset i_t_cords_clusters i_t_cords_size i_t_cords_value i_t_cords_nibbled) rfl 0 10 rfl rfl rfl (st := []) rfl (Nat.le_of_ble_eq_true rfl) rd_KR_knotsAt_2 ⟨Nat.le_of_ble_eq_true rfl, Nat.le_of_ble_eq_true rfl⟩ ?_
    refine jk_iload_n C rd_KR_knotsAt_5 (k := 2) rfl ?_
    obtain ⟨q6, hq6, hf⟩ := jk_bind_h hf
    refine jk_callSi C hZ.1 hz (ct_KR_isPlace l D Z sq hZ cI cR x2 q6 hq6) tm_1076 tm_1077 tm_1 tm_1078 na_KR_isPlace ⟨Nat.le_of_ble_eq_true rfl, Nat.le_of_ble_eq_true rfl⟩ rfl [] rfl rfl rfl (ws' := wd_KR_knotsAt cI a_t a_t_input a_t_output a_t_topics a_t_cords a_t_draftTopics a_t_draft a_t_saved a_t_history a_t_script a_t_cords_starts a_t_cords_depth a_t_cords_topic a_t_cords_value a_t_cords_nibbled a_t_cords_value_k a_t_cords_nibbled_k i_t_hasSaved i_t_reportedCode i_t_reportedOffset i_t_cords_clusters i_t_cords_size i_t_cords_value i_t_cords_nibbled) rfl (st := []) rfl (Nat.le_of_ble_eq_true rfl) rd_KR_knotsAt_6 ?_ ⟨Nat.le_of_ble_eq_true rfl, Nat.le_of_ble_eq_true rfl⟩
    refine jk_if_ne (tgt := 22) C rd_KR_knotsAt_9 (by decide) hf (fun _ hf => ?_) (fun _ hf => ?_)
    · refine jk_iload_n C rd_KR_knotsAt_22 (k := 2) rfl ?_
      refine jk_aload_n C rd_KR_knotsAt_23 (k := 0) rfl ?_
      refine jk_get C in_KR (ci := 10) rfl 3 (by decide) tm_434 0 rfl rfl rd_KR_knotsAt_24 ?_
      refine jk_getN C in_Cords (ci := 5) rfl 6 (by decide) (jk_nw hZ hz tn_19) 1 rfl rfl rd_KR_knotsAt_27 ?_
      refine jk_iload_n C rd_KR_knotsAt_30 (k := 1) rfl ?_
      obtain ⟨q31, hq31, hf⟩ := jk_bind_h hf
      refine jk_callVi C hZ.1 hz (ct_Row_get l D Z sq hZ cI cR (n_t := 40) (Nat.le_of_ble_eq_true rfl) a_t_cords_nibbled a_t_cords_nibbled_k i_t_cords_nibbled x1 q31 hq31) tm_1033 tm_299 tm_300 tm_3 tm_301 na_Row_get ⟨Nat.le_of_ble_eq_true rfl, Nat.le_of_ble_eq_true rfl⟩ rfl [4, 5] rfl rfl rfl (ws' := wd_KR_knotsAt cI a_t a_t_input a_t_output a_t_topics a_t_cords a_t_draftTopics a_t_draft a_t_saved a_t_history a_t_script a_t_cords_starts a_t_cords_depth a_t_cords_topic a_t_cords_value a_t_cords_nibbled a_t_cords_value_k a_t_cords_nibbled_k i_t_hasSaved i_t_reportedCode i_t_reportedOffset i_t_cords_clusters i_t_cords_size i_t_cords_value i_t_cords_nibbled) rfl 4 0 rfl rfl rfl (st := [jk_V x2]) rfl (Nat.le_of_ble_eq_true rfl) rd_KR_knotsAt_31 ?_ ⟨Nat.le_of_ble_eq_true rfl, Nat.le_of_ble_eq_true rfl⟩
      refine jk_icmp_ge (tgt := 41) C rd_KR_knotsAt_34 (by decide) hf (fun _ hf => ?_) (fun _ hf => ?_)
      · refine jk_aload_n C rd_KR_knotsAt_41 (k := 0) rfl ?_
        refine jk_get C in_KR (ci := 10) rfl 3 (by decide) tm_434 0 rfl rfl rd_KR_knotsAt_42 ?_
        refine jk_getN C in_Cords (ci := 5) rfl 5 (by decide) (jk_nw hZ hz tn_18) 1 rfl rfl rd_KR_knotsAt_45 ?_
        refine jk_iload_n C rd_KR_knotsAt_48 (k := 1) rfl ?_
        obtain ⟨q49, hq49, hf⟩ := jk_bind_h hf
        refine jk_callVi C hZ.1 hz (ct_Row_get l D Z sq hZ cI cR (n_t := 40) (Nat.le_of_ble_eq_true rfl) a_t_cords_value a_t_cords_value_k i_t_cords_value x1 q49 hq49) tm_1033 tm_299 tm_300 tm_3 tm_301 na_Row_get ⟨Nat.le_of_ble_eq_true rfl, Nat.le_of_ble_eq_true rfl⟩ rfl [2, 3] rfl rfl rfl (ws' := wd_KR_knotsAt cI a_t a_t_input a_t_output a_t_topics a_t_cords a_t_draftTopics a_t_draft a_t_saved a_t_history a_t_script a_t_cords_starts a_t_cords_depth a_t_cords_topic a_t_cords_value a_t_cords_nibbled a_t_cords_value_k a_t_cords_nibbled_k i_t_hasSaved i_t_reportedCode i_t_reportedOffset i_t_cords_clusters i_t_cords_size i_t_cords_value i_t_cords_nibbled) rfl 2 0 rfl rfl rfl (st := []) rfl (Nat.le_of_ble_eq_true rfl) rd_KR_knotsAt_49 ?_ ⟨Nat.le_of_ble_eq_true rfl, Nat.le_of_ble_eq_true rfl⟩
        refine jk_iload_n C rd_KR_knotsAt_52 (k := 2) rfl ?_
        obtain ⟨q53, hq53, hf⟩ := jk_bind_h hf
        refine jk_callSi C hZ.1 hz (ct_Knots_at l D Z sq hZ cI cR q49 x2 q53 hq53) tm_1095 tm_416 tm_14 tm_417 na_Knots_at ⟨Nat.le_of_ble_eq_true rfl, Nat.le_of_ble_eq_true rfl⟩ rfl [] rfl rfl rfl (ws' := wd_KR_knotsAt cI a_t a_t_input a_t_output a_t_topics a_t_cords a_t_draftTopics a_t_draft a_t_saved a_t_history a_t_script a_t_cords_starts a_t_cords_depth a_t_cords_topic a_t_cords_value a_t_cords_nibbled a_t_cords_value_k a_t_cords_nibbled_k i_t_hasSaved i_t_reportedCode i_t_reportedOffset i_t_cords_clusters i_t_cords_size i_t_cords_value i_t_cords_nibbled) rfl (st := []) rfl (Nat.le_of_ble_eq_true rfl) rd_KR_knotsAt_53 ?_ ⟨Nat.le_of_ble_eq_true rfl, Nat.le_of_ble_eq_true rfl⟩
        cases hf
        exact jk_xiret C rfl rfl (Nat.le_of_ble_eq_true rfl) (Nat.le_of_ble_eq_true rfl) rd_KR_knotsAt_56
      · refine jk_iconst C rd_KR_knotsAt_37 ?_
        refine jk_goto (tgt := 56) C rd_KR_knotsAt_38 (by decide) ?_
        cases hf
        exact jk_xiret C rfl rfl (Nat.le_of_ble_eq_true rfl) (Nat.le_of_ble_eq_true rfl) rd_KR_knotsAt_56
    · cases hf
      exact jk_throw (k := 2) (kk := 8) C hZ hz hl hnh rfl rfl rfl tm_1079 tm_36 rfl tw_211_2 ⟨by decide +kernel, by decide +kernel, by decide +kernel⟩ rd_KR_knotsAt_12 rd_KR_knotsAt_15 rd_KR_knotsAt_16 rd_KR_knotsAt_18 rd_KR_knotsAt_21 (Nat.le_of_ble_eq_true rfl) (Nat.le_of_ble_eq_true rfl) (Nat.le_of_ble_eq_true rfl) (Nat.le_of_ble_eq_true rfl) (Nat.le_of_ble_eq_true rfl) (Nat.le_of_ble_eq_true rfl)
def wd_KR_isComplete (cI : ClassId) (a_t a_t_input a_t_output a_t_topics a_t_cords a_t_draftTopics a_t_draft a_t_saved a_t_history a_t_script a_t_cords_starts a_t_cords_depth a_t_cords_topic a_t_cords_value a_t_cords_nibbled a_t_cords_depth_k a_t_cords_nibbled_k : Nat) (i_t_hasSaved : Int) (i_t_reportedCode : Int) (i_t_reportedOffset : Int) (i_t_cords_clusters : Int) (i_t_cords_size : Int) (i_t_cords_depth : (Int → Int)) (i_t_cords_nibbled : (Int → Int)) : va_W := [(a_t, .inr (10, [.ref a_t_input, .ref a_t_output, .ref a_t_topics, .ref a_t_cords, .ref a_t_draftTopics, .ref a_t_draft, .ref a_t_saved, .ref a_t_history, .ref a_t_script, jk_V i_t_hasSaved, jk_V i_t_reportedCode, jk_V i_t_reportedOffset])), (a_t_cords, .inr (5, [jk_V i_t_cords_clusters, jk_V i_t_cords_size, .ref a_t_cords_starts, .ref a_t_cords_depth, .ref a_t_cords_topic, .ref a_t_cords_value, .ref a_t_cords_nibbled])), (a_t_cords_depth, .inr (0, [.ref a_t_cords_depth_k])), (a_t_cords_depth_k, jk_W cI 40 i_t_cords_depth), (a_t_cords_nibbled, .inr (0, [.ref a_t_cords_nibbled_k])), (a_t_cords_nibbled_k, jk_W cI 40 i_t_cords_nibbled)]
set_option maxHeartbeats 4000000 in
set_option maxRecDepth 20000 in
theorem ct_KR_isComplete (l : Launch) (D : va_G) (Z : (Nat → Prop) → State → Heap → Prop) (sq : Nat → Nat) (hZ : jk_ZK Z sq) (hl : l.stackTraces = false) (cI cR : ClassId) (a_t a_t_input a_t_output a_t_topics a_t_cords a_t_draftTopics a_t_draft a_t_saved a_t_history a_t_script a_t_cords_starts a_t_cords_depth a_t_cords_topic a_t_cords_value a_t_cords_nibbled a_t_cords_depth_k a_t_cords_nibbled_k : Nat) (i_t_hasSaved : Int) (i_t_reportedCode : Int) (i_t_reportedOffset : Int) (i_t_cords_clusters : Int) (i_t_cords_size : Int) (i_t_cords_depth : (Int → Int)) (i_t_cords_nibbled : (Int → Int)) (x1 : Int) (q : Nat ⊕ (Int)) (hf : fn_KR_isComplete i_t_cords_size i_t_cords_depth i_t_cords_nibbled x1 = some q) : jk_XI l D jk_cl (jk_ty cI cR) Z mn_KR_isComplete (.code mn_KR_isComplete mb_KR_isComplete 2 (some .boolean) :: jk_WA) (jk_rx 7 1 6 121) [.ref a_t, jk_V x1] (wd_KR_isComplete cI a_t a_t_input a_t_output a_t_topics a_t_cords a_t_draftTopics a_t_draft a_t_saved a_t_history a_t_script a_t_cords_starts a_t_cords_depth a_t_cords_topic a_t_cords_value a_t_cords_nibbled a_t_cords_depth_k a_t_cords_nibbled_k i_t_hasSaved i_t_reportedCode i_t_reportedOffset i_t_cords_clusters i_t_cords_size i_t_cords_depth i_t_cords_nibbled) (Sum.map id (fun (z : Int) => ((z : Int), wd_KR_isComplete cI a_t a_t_input a_t_output a_t_topics a_t_cords a_t_draftTopics a_t_draft a_t_saved a_t_history a_t_script a_t_cords_starts a_t_cords_depth a_t_cords_topic a_t_cords_value a_t_cords_nibbled a_t_cords_depth_k a_t_cords_nibbled_k i_t_hasSaved i_t_reportedCode i_t_reportedOffset i_t_cords_clusters i_t_cords_size i_t_cords_depth i_t_cords_nibbled)) q) 1 6 := by
  intro sz
  refine jk_xbody (by decide +kernel) (fun p e s m args below meth c hsz hz hnh C => ?_) (Nat.le_of_ble_eq_true rfl)
  subst hsz
  unfold fn_KR_isComplete at hf
  refine jk_aload_n C rd_KR_isComplete_0 (k := 0) rfl ?_
  refine jk_iload_n C rd_KR_isComplete_1 (k := 1) rfl ?_
  obtain ⟨q2, hq2, hf⟩ := jk_bind_h hf
  rcases q2 with k2 | q2
  · replace hf : (some (Sum.inl k2) : Option (Nat ⊕ (Int))) = some q := hf
    cases hf
    exact jk_callXv_t C hZ.1 hz hnh rfl rfl rfl rfl (ct_KR_requireCord l D Z sq hZ hl cI cR a_t a_t_input a_t_output a_t_topics a_t_cords a_t_draftTopics a_t_draft a_t_saved a_t_history a_t_script a_t_cords_starts a_t_cords_depth a_t_cords_topic a_t_cords_value a_t_cords_nibbled i_t_hasSaved i_t_reportedCode i_t_reportedOffset i_t_cords_clusters i_t_cords_size x1 _ hq2) tm_947 tm_949 sl_10 tm_1 tm_950 na_KR_requireCord ⟨Nat.le_of_ble_eq_true rfl, Nat.le_of_ble_eq_true rfl⟩ rfl [0, 1] rfl rfl rfl 0 10 rfl rfl rfl (st := []) rfl (Nat.le_of_ble_eq_true rfl) rd_KR_isComplete_2 ⟨Nat.le_of_ble_eq_true rfl, Nat.le_of_ble_eq_true rfl⟩ (Nat.le_of_ble_eq_true rfl) (Nat.le_of_ble_eq_true rfl)
  · refine jk_callXv_r C hZ.1 hz rfl (ct_KR_requireCord l D Z sq hZ hl cI cR a_t a_t_input a_t_output a_t_topics a_t_cords a_t_draftTopics a_t_draft a_t_saved a_t_history a_t_script a_t_cords_starts a_t_cords_depth a_t_cords_topic a_t_cords_value a_t_cords_nibbled i_t_hasSaved i_t_reportedCode i_t_reportedOffset i_t_cords_clusters i_t_cords_size x1 _ hq2) tm_947 tm_949 sl_10 tm_1 tm_950 na_KR_requireCord ⟨Nat.le_of_ble_eq_true rfl, Nat.le_of_ble_eq_true rfl⟩ rfl [0, 1] rfl rfl rfl (ws' := wd_KR_isComplete cI a_t a_t_input a_t_output a_t_topics a_t_cords a_t_draftTopics a_t_draft a_t_saved a_t_history a_t_script a_t_cords_starts a_t_cords_depth a_t_cords_topic a_t_cords_value a_t_cords_nibbled a_t_cords_depth_k a_t_cords_nibbled_k i_t_hasSaved i_t_reportedCode i_t_reportedOffset i_t_cords_clusters i_t_cords_size i_t_cords_depth i_t_cords_nibbled) rfl 0 10 rfl rfl rfl (st := []) rfl (Nat.le_of_ble_eq_true rfl) rd_KR_isComplete_2 ⟨Nat.le_of_ble_eq_true rfl, Nat.le_of_ble_eq_true rfl⟩ ?_
    refine jk_aload_n C rd_KR_isComplete_5 (k := 0) rfl ?_
    refine jk_get C in_KR (ci := 10) rfl 3 (by decide) tm_434 0 rfl rfl rd_KR_isComplete_6 ?_
    refine jk_iload_n C rd_KR_isComplete_9 (k := 1) rfl ?_
    refine jk_aload_n C rd_KR_isComplete_10 (k := 0) rfl ?_
    refine jk_get C in_KR (ci := 10) rfl 3 (by decide) tm_434 0 rfl rfl rd_KR_isComplete_11 ?_
    refine jk_iload_n C rd_KR_isComplete_14 (k := 1) rfl ?_
    obtain ⟨q15, hq15, hf⟩ := jk_bind_h hf
    refine jk_callVi C hZ.1 hz (ct_Cords_branchEnd l D Z sq hZ cI cR a_t_cords a_t_cords_starts a_t_cords_depth a_t_cords_topic a_t_cords_value a_t_cords_nibbled a_t_cords_depth_k i_t_cords_clusters i_t_cords_size i_t_cords_depth x1 q15 hq15) tm_1051 tm_380 tm_381 tm_6 tm_382 na_Cords_branchEnd ⟨Nat.le_of_ble_eq_true rfl, Nat.le_of_ble_eq_true rfl⟩ rfl [1, 2, 3] rfl rfl rfl (ws' := wd_KR_isComplete cI a_t a_t_input a_t_output a_t_topics a_t_cords a_t_draftTopics a_t_draft a_t_saved a_t_history a_t_script a_t_cords_starts a_t_cords_depth a_t_cords_topic a_t_cords_value a_t_cords_nibbled a_t_cords_depth_k a_t_cords_nibbled_k i_t_hasSaved i_t_reportedCode i_t_reportedOffset i_t_cords_clusters i_t_cords_size i_t_cords_depth i_t_cords_nibbled) rfl 1 5 rfl rfl rfl (st := [jk_V x1, .ref a_t_cords]) rfl (Nat.le_of_ble_eq_true rfl) rd_KR_isComplete_15 ?_ ⟨Nat.le_of_ble_eq_true rfl, Nat.le_of_ble_eq_true rfl⟩
    obtain ⟨q18, hq18, hf⟩ := jk_bind_h hf
    refine jk_callVi C hZ.1 hz (ct_Cords_nibbledAmong l D Z sq hZ cI cR a_t_cords a_t_cords_starts a_t_cords_depth a_t_cords_topic a_t_cords_value a_t_cords_nibbled a_t_cords_nibbled_k i_t_cords_clusters i_t_cords_size i_t_cords_nibbled x1 q15 q18 hq18) tm_1066 tm_523 tm_524 tm_6 tm_525 na_Cords_nibbledAmong ⟨Nat.le_of_ble_eq_true rfl, Nat.le_of_ble_eq_true rfl⟩ rfl [1, 4, 5] rfl rfl rfl (ws' := wd_KR_isComplete cI a_t a_t_input a_t_output a_t_topics a_t_cords a_t_draftTopics a_t_draft a_t_saved a_t_history a_t_script a_t_cords_starts a_t_cords_depth a_t_cords_topic a_t_cords_value a_t_cords_nibbled a_t_cords_depth_k a_t_cords_nibbled_k i_t_hasSaved i_t_reportedCode i_t_reportedOffset i_t_cords_clusters i_t_cords_size i_t_cords_depth i_t_cords_nibbled) rfl 1 5 rfl rfl rfl (st := []) rfl (Nat.le_of_ble_eq_true rfl) rd_KR_isComplete_18 ?_ ⟨Nat.le_of_ble_eq_true rfl, Nat.le_of_ble_eq_true rfl⟩
    refine jk_if_ne (tgt := 28) C rd_KR_isComplete_21 (by decide) hf (fun _ hf => ?_) (fun _ hf => ?_)
    · refine jk_iconst C rd_KR_isComplete_28 ?_
      cases hf
      exact jk_xzret C (Or.inl rfl) rfl rfl (Nat.le_of_ble_eq_true rfl) (Nat.le_of_ble_eq_true rfl) rd_KR_isComplete_29
    · refine jk_iconst C rd_KR_isComplete_24 ?_
      refine jk_goto (tgt := 29) C rd_KR_isComplete_25 (by decide) ?_
      cases hf
      exact jk_xzret C (Or.inr rfl) rfl rfl (Nat.le_of_ble_eq_true rfl) (Nat.le_of_ble_eq_true rfl) rd_KR_isComplete_29
def wd_KR_requireCluster (cI : ClassId) (a_t a_t_input a_t_output a_t_topics a_t_cords a_t_draftTopics a_t_draft a_t_saved a_t_history a_t_script a_t_cords_starts a_t_cords_depth a_t_cords_topic a_t_cords_value a_t_cords_nibbled : Nat) (i_t_hasSaved : Int) (i_t_reportedCode : Int) (i_t_reportedOffset : Int) (i_t_cords_clusters : Int) (i_t_cords_size : Int) : va_W := [(a_t, .inr (10, [.ref a_t_input, .ref a_t_output, .ref a_t_topics, .ref a_t_cords, .ref a_t_draftTopics, .ref a_t_draft, .ref a_t_saved, .ref a_t_history, .ref a_t_script, jk_V i_t_hasSaved, jk_V i_t_reportedCode, jk_V i_t_reportedOffset])), (a_t_cords, .inr (5, [jk_V i_t_cords_clusters, jk_V i_t_cords_size, .ref a_t_cords_starts, .ref a_t_cords_depth, .ref a_t_cords_topic, .ref a_t_cords_value, .ref a_t_cords_nibbled]))]
set_option maxHeartbeats 4000000 in
set_option maxRecDepth 20000 in
theorem ct_KR_requireCluster (l : Launch) (D : va_G) (Z : (Nat → Prop) → State → Heap → Prop) (sq : Nat → Nat) (hZ : jk_ZK Z sq) (hl : l.stackTraces = false) (cI cR : ClassId) (a_t a_t_input a_t_output a_t_topics a_t_cords a_t_draftTopics a_t_draft a_t_saved a_t_history a_t_script a_t_cords_starts a_t_cords_depth a_t_cords_topic a_t_cords_value a_t_cords_nibbled : Nat) (i_t_hasSaved : Int) (i_t_reportedCode : Int) (i_t_reportedOffset : Int) (i_t_cords_clusters : Int) (i_t_cords_size : Int) (x1 : Int) (q : Nat ⊕ (Unit)) (hf : fn_KR_requireCluster i_t_cords_clusters x1 = some q) : jk_XV l D jk_cl (jk_ty cI cR) Z mn_KR_requireCluster (.code mn_KR_requireCluster mb_KR_requireCluster 2 none :: jk_WA) (jk_rx 6 1 6 100) [.ref a_t, jk_V x1] (wd_KR_requireCluster cI a_t a_t_input a_t_output a_t_topics a_t_cords a_t_draftTopics a_t_draft a_t_saved a_t_history a_t_script a_t_cords_starts a_t_cords_depth a_t_cords_topic a_t_cords_value a_t_cords_nibbled i_t_hasSaved i_t_reportedCode i_t_reportedOffset i_t_cords_clusters i_t_cords_size) (Sum.map id (fun (z : Unit) => wd_KR_requireCluster cI a_t a_t_input a_t_output a_t_topics a_t_cords a_t_draftTopics a_t_draft a_t_saved a_t_history a_t_script a_t_cords_starts a_t_cords_depth a_t_cords_topic a_t_cords_value a_t_cords_nibbled i_t_hasSaved i_t_reportedCode i_t_reportedOffset i_t_cords_clusters i_t_cords_size) q) 1 6 := by
  intro sz
  refine jk_xbody (by decide +kernel) (fun p e s m args below meth c hsz hz hnh C => ?_) (Nat.le_of_ble_eq_true rfl)
  subst hsz
  unfold fn_KR_requireCluster at hf
  refine jk_aload_n C rd_KR_requireCluster_0 (k := 0) rfl ?_
  refine jk_get C in_KR (ci := 10) rfl 3 (by decide) tm_434 0 rfl rfl rd_KR_requireCluster_1 ?_
  refine jk_iload_n C rd_KR_requireCluster_4 (k := 1) rfl ?_
  obtain ⟨q5, hq5, hf⟩ := jk_bind_h hf
  refine jk_callVi C hZ.1 hz (ct_Cords_hasCluster l D Z sq hZ cI cR a_t_cords a_t_cords_starts a_t_cords_depth a_t_cords_topic a_t_cords_value a_t_cords_nibbled i_t_cords_clusters i_t_cords_size x1 q5 hq5) tm_1104 tm_1105 tm_1106 tm_6 tm_1107 na_Cords_hasCluster ⟨Nat.le_of_ble_eq_true rfl, Nat.le_of_ble_eq_true rfl⟩ rfl [1] rfl rfl rfl (ws' := wd_KR_requireCluster cI a_t a_t_input a_t_output a_t_topics a_t_cords a_t_draftTopics a_t_draft a_t_saved a_t_history a_t_script a_t_cords_starts a_t_cords_depth a_t_cords_topic a_t_cords_value a_t_cords_nibbled i_t_hasSaved i_t_reportedCode i_t_reportedOffset i_t_cords_clusters i_t_cords_size) rfl 1 5 rfl rfl rfl (st := []) rfl (Nat.le_of_ble_eq_true rfl) rd_KR_requireCluster_5 ?_ ⟨Nat.le_of_ble_eq_true rfl, Nat.le_of_ble_eq_true rfl⟩
  refine jk_if_ne (tgt := 22) C rd_KR_requireCluster_8 (by decide) hf (fun _ hf => ?_) (fun _ hf => ?_)
  · cases hf
    exact jk_xvret C rfl rfl (Nat.le_of_ble_eq_true rfl) (Nat.le_of_ble_eq_true rfl) rd_KR_requireCluster_22
  · cases hf
    exact jk_throwW (k := 1) (kk := 9) C hZ hz hl hnh rfl rfl rfl tm_955 tm_35 rfl tw_306_1 ⟨by decide +kernel, by decide +kernel, by decide +kernel⟩ rd_KR_requireCluster_11 rd_KR_requireCluster_14 rd_KR_requireCluster_15 rd_KR_requireCluster_18 rd_KR_requireCluster_21 (Nat.le_of_ble_eq_true rfl) (Nat.le_of_ble_eq_true rfl) (Nat.le_of_ble_eq_true rfl) (Nat.le_of_ble_eq_true rfl) (Nat.le_of_ble_eq_true rfl) (Nat.le_of_ble_eq_true rfl)
def wd_KR_pendantsIn (cI : ClassId) (a_t a_t_input a_t_output a_t_topics a_t_cords a_t_draftTopics a_t_draft a_t_saved a_t_history a_t_script a_t_cords_starts a_t_cords_depth a_t_cords_topic a_t_cords_value a_t_cords_nibbled a_t_cords_starts_k a_t_cords_depth_k : Nat) (i_t_hasSaved : Int) (i_t_reportedCode : Int) (i_t_reportedOffset : Int) (i_t_cords_clusters : Int) (i_t_cords_size : Int) (i_t_cords_starts : (Int → Int)) (i_t_cords_depth : (Int → Int)) : va_W := [(a_t, .inr (10, [.ref a_t_input, .ref a_t_output, .ref a_t_topics, .ref a_t_cords, .ref a_t_draftTopics, .ref a_t_draft, .ref a_t_saved, .ref a_t_history, .ref a_t_script, jk_V i_t_hasSaved, jk_V i_t_reportedCode, jk_V i_t_reportedOffset])), (a_t_cords, .inr (5, [jk_V i_t_cords_clusters, jk_V i_t_cords_size, .ref a_t_cords_starts, .ref a_t_cords_depth, .ref a_t_cords_topic, .ref a_t_cords_value, .ref a_t_cords_nibbled])), (a_t_cords_starts, .inr (0, [.ref a_t_cords_starts_k])), (a_t_cords_starts_k, jk_W cI 7 i_t_cords_starts), (a_t_cords_depth, .inr (0, [.ref a_t_cords_depth_k])), (a_t_cords_depth_k, jk_W cI 40 i_t_cords_depth)]
set_option maxHeartbeats 4000000 in
set_option maxRecDepth 20000 in
theorem ct_KR_pendantsIn (l : Launch) (D : va_G) (Z : (Nat → Prop) → State → Heap → Prop) (sq : Nat → Nat) (hZ : jk_ZK Z sq) (hl : l.stackTraces = false) (cI cR : ClassId) (a_t a_t_input a_t_output a_t_topics a_t_cords a_t_draftTopics a_t_draft a_t_saved a_t_history a_t_script a_t_cords_starts a_t_cords_depth a_t_cords_topic a_t_cords_value a_t_cords_nibbled a_t_cords_starts_k a_t_cords_depth_k : Nat) (i_t_hasSaved : Int) (i_t_reportedCode : Int) (i_t_reportedOffset : Int) (i_t_cords_clusters : Int) (i_t_cords_size : Int) (i_t_cords_starts : (Int → Int)) (i_t_cords_depth : (Int → Int)) (x1 : Int) (q : Nat ⊕ (Int)) (hf : fn_KR_pendantsIn i_t_cords_clusters i_t_cords_starts i_t_cords_depth x1 = some q) : jk_XI l D jk_cl (jk_ty cI cR) Z mn_KR_pendantsIn (.code mn_KR_pendantsIn mb_KR_pendantsIn 2 (some .int) :: jk_WA) (jk_rx 7 1 6 121) [.ref a_t, jk_V x1] (wd_KR_pendantsIn cI a_t a_t_input a_t_output a_t_topics a_t_cords a_t_draftTopics a_t_draft a_t_saved a_t_history a_t_script a_t_cords_starts a_t_cords_depth a_t_cords_topic a_t_cords_value a_t_cords_nibbled a_t_cords_starts_k a_t_cords_depth_k i_t_hasSaved i_t_reportedCode i_t_reportedOffset i_t_cords_clusters i_t_cords_size i_t_cords_starts i_t_cords_depth) (Sum.map id (fun (z : Int) => ((z : Int), wd_KR_pendantsIn cI a_t a_t_input a_t_output a_t_topics a_t_cords a_t_draftTopics a_t_draft a_t_saved a_t_history a_t_script a_t_cords_starts a_t_cords_depth a_t_cords_topic a_t_cords_value a_t_cords_nibbled a_t_cords_starts_k a_t_cords_depth_k i_t_hasSaved i_t_reportedCode i_t_reportedOffset i_t_cords_clusters i_t_cords_size i_t_cords_starts i_t_cords_depth)) q) 1 6 := by
  intro sz
  refine jk_xbody (by decide +kernel) (fun p e s m args below meth c hsz hz hnh C => ?_) (Nat.le_of_ble_eq_true rfl)
  subst hsz
  unfold fn_KR_pendantsIn at hf
  refine jk_aload_n C rd_KR_pendantsIn_0 (k := 0) rfl ?_
  refine jk_iload_n C rd_KR_pendantsIn_1 (k := 1) rfl ?_
  obtain ⟨q2, hq2, hf⟩ := jk_bind_h hf
  rcases q2 with k2 | q2
  · replace hf : (some (Sum.inl k2) : Option (Nat ⊕ (Int))) = some q := hf
    cases hf
    exact jk_callXv_t C hZ.1 hz hnh rfl rfl rfl rfl (ct_KR_requireCluster l D Z sq hZ hl cI cR a_t a_t_input a_t_output a_t_topics a_t_cords a_t_draftTopics a_t_draft a_t_saved a_t_history a_t_script a_t_cords_starts a_t_cords_depth a_t_cords_topic a_t_cords_value a_t_cords_nibbled i_t_hasSaved i_t_reportedCode i_t_reportedOffset i_t_cords_clusters i_t_cords_size x1 _ hq2) tm_1100 tm_1102 sl_12 tm_1 tm_1103 na_KR_requireCluster ⟨Nat.le_of_ble_eq_true rfl, Nat.le_of_ble_eq_true rfl⟩ rfl [0, 1] rfl rfl rfl 0 10 rfl rfl rfl (st := []) rfl (Nat.le_of_ble_eq_true rfl) rd_KR_pendantsIn_2 ⟨Nat.le_of_ble_eq_true rfl, Nat.le_of_ble_eq_true rfl⟩ (Nat.le_of_ble_eq_true rfl) (Nat.le_of_ble_eq_true rfl)
  · refine jk_callXv_r C hZ.1 hz rfl (ct_KR_requireCluster l D Z sq hZ hl cI cR a_t a_t_input a_t_output a_t_topics a_t_cords a_t_draftTopics a_t_draft a_t_saved a_t_history a_t_script a_t_cords_starts a_t_cords_depth a_t_cords_topic a_t_cords_value a_t_cords_nibbled i_t_hasSaved i_t_reportedCode i_t_reportedOffset i_t_cords_clusters i_t_cords_size x1 _ hq2) tm_1100 tm_1102 sl_12 tm_1 tm_1103 na_KR_requireCluster ⟨Nat.le_of_ble_eq_true rfl, Nat.le_of_ble_eq_true rfl⟩ rfl [0, 1] rfl rfl rfl (ws' := wd_KR_pendantsIn cI a_t a_t_input a_t_output a_t_topics a_t_cords a_t_draftTopics a_t_draft a_t_saved a_t_history a_t_script a_t_cords_starts a_t_cords_depth a_t_cords_topic a_t_cords_value a_t_cords_nibbled a_t_cords_starts_k a_t_cords_depth_k i_t_hasSaved i_t_reportedCode i_t_reportedOffset i_t_cords_clusters i_t_cords_size i_t_cords_starts i_t_cords_depth) rfl 0 10 rfl rfl rfl (st := []) rfl (Nat.le_of_ble_eq_true rfl) rd_KR_pendantsIn_2 ⟨Nat.le_of_ble_eq_true rfl, Nat.le_of_ble_eq_true rfl⟩ ?_
    refine jk_aload_n C rd_KR_pendantsIn_5 (k := 0) rfl ?_
    refine jk_get C in_KR (ci := 10) rfl 3 (by decide) tm_434 0 rfl rfl rd_KR_pendantsIn_6 ?_
    refine jk_aload_n C rd_KR_pendantsIn_9 (k := 0) rfl ?_
    refine jk_get C in_KR (ci := 10) rfl 3 (by decide) tm_434 0 rfl rfl rd_KR_pendantsIn_10 ?_
    refine jk_iload_n C rd_KR_pendantsIn_13 (k := 1) rfl ?_
    obtain ⟨q14, hq14, hf⟩ := jk_bind_h hf
    refine jk_callVi C hZ.1 hz (ct_Cords_start l D Z sq hZ cI cR a_t_cords a_t_cords_starts a_t_cords_depth a_t_cords_topic a_t_cords_value a_t_cords_nibbled a_t_cords_starts_k i_t_cords_clusters i_t_cords_size i_t_cords_starts x1 q14 hq14) tm_1148 tm_372 tm_373 tm_6 tm_374 na_Cords_start ⟨Nat.le_of_ble_eq_true rfl, Nat.le_of_ble_eq_true rfl⟩ rfl [1, 2, 3] rfl rfl rfl (ws' := wd_KR_pendantsIn cI a_t a_t_input a_t_output a_t_topics a_t_cords a_t_draftTopics a_t_draft a_t_saved a_t_history a_t_script a_t_cords_starts a_t_cords_depth a_t_cords_topic a_t_cords_value a_t_cords_nibbled a_t_cords_starts_k a_t_cords_depth_k i_t_hasSaved i_t_reportedCode i_t_reportedOffset i_t_cords_clusters i_t_cords_size i_t_cords_starts i_t_cords_depth) rfl 1 5 rfl rfl rfl (st := [.ref a_t_cords]) rfl (Nat.le_of_ble_eq_true rfl) rd_KR_pendantsIn_14 ?_ ⟨Nat.le_of_ble_eq_true rfl, Nat.le_of_ble_eq_true rfl⟩
    refine jk_aload_n C rd_KR_pendantsIn_17 (k := 0) rfl ?_
    refine jk_get C in_KR (ci := 10) rfl 3 (by decide) tm_434 0 rfl rfl rd_KR_pendantsIn_18 ?_
    refine jk_iload_n C rd_KR_pendantsIn_21 (k := 1) rfl ?_
    obtain ⟨q22, hq22, hf⟩ := jk_bind_h hf
    refine jk_callVi C hZ.1 hz (ct_Cords_end l D Z sq hZ cI cR a_t_cords a_t_cords_starts a_t_cords_depth a_t_cords_topic a_t_cords_value a_t_cords_nibbled a_t_cords_starts_k i_t_cords_clusters i_t_cords_size i_t_cords_starts x1 q22 hq22) tm_1149 tm_502 tm_503 tm_6 tm_504 na_Cords_end ⟨Nat.le_of_ble_eq_true rfl, Nat.le_of_ble_eq_true rfl⟩ rfl [1, 2, 3] rfl rfl rfl (ws' := wd_KR_pendantsIn cI a_t a_t_input a_t_output a_t_topics a_t_cords a_t_draftTopics a_t_draft a_t_saved a_t_history a_t_script a_t_cords_starts a_t_cords_depth a_t_cords_topic a_t_cords_value a_t_cords_nibbled a_t_cords_starts_k a_t_cords_depth_k i_t_hasSaved i_t_reportedCode i_t_reportedOffset i_t_cords_clusters i_t_cords_size i_t_cords_starts i_t_cords_depth) rfl 1 5 rfl rfl rfl (st := [jk_V q14, .ref a_t_cords]) rfl (Nat.le_of_ble_eq_true rfl) rd_KR_pendantsIn_22 ?_ ⟨Nat.le_of_ble_eq_true rfl, Nat.le_of_ble_eq_true rfl⟩
    refine jk_iconst C rd_KR_pendantsIn_25 ?_
    obtain ⟨q26, hq26, hf⟩ := jk_bind_h hf
    refine jk_callVi C hZ.1 hz (ct_Cords_countAtDepth l D Z sq hZ cI cR a_t_cords a_t_cords_starts a_t_cords_depth a_t_cords_topic a_t_cords_value a_t_cords_nibbled a_t_cords_depth_k i_t_cords_clusters i_t_cords_size i_t_cords_depth q14 q22 1 q26 hq26) tm_1052 tm_1053 tm_1054 tm_6 tm_1055 na_Cords_countAtDepth ⟨Nat.le_of_ble_eq_true rfl, Nat.le_of_ble_eq_true rfl⟩ rfl [1, 4, 5] rfl rfl rfl (ws' := wd_KR_pendantsIn cI a_t a_t_input a_t_output a_t_topics a_t_cords a_t_draftTopics a_t_draft a_t_saved a_t_history a_t_script a_t_cords_starts a_t_cords_depth a_t_cords_topic a_t_cords_value a_t_cords_nibbled a_t_cords_starts_k a_t_cords_depth_k i_t_hasSaved i_t_reportedCode i_t_reportedOffset i_t_cords_clusters i_t_cords_size i_t_cords_starts i_t_cords_depth) rfl 1 5 rfl rfl rfl (st := []) rfl (Nat.le_of_ble_eq_true rfl) rd_KR_pendantsIn_26 ?_ ⟨Nat.le_of_ble_eq_true rfl, Nat.le_of_ble_eq_true rfl⟩
    cases hf
    exact jk_xiret C rfl rfl (Nat.le_of_ble_eq_true rfl) (Nat.le_of_ble_eq_true rfl) rd_KR_pendantsIn_29
def wd_KR_topOf (cI : ClassId) (a_t a_t_input a_t_output a_t_topics a_t_cords a_t_draftTopics a_t_draft a_t_saved a_t_history a_t_script a_t_cords_starts a_t_cords_depth a_t_cords_topic a_t_cords_value a_t_cords_nibbled a_t_cords_starts_k a_t_cords_depth_k : Nat) (i_t_hasSaved : Int) (i_t_reportedCode : Int) (i_t_reportedOffset : Int) (i_t_cords_clusters : Int) (i_t_cords_size : Int) (i_t_cords_starts : (Int → Int)) (i_t_cords_depth : (Int → Int)) : va_W := [(a_t, .inr (10, [.ref a_t_input, .ref a_t_output, .ref a_t_topics, .ref a_t_cords, .ref a_t_draftTopics, .ref a_t_draft, .ref a_t_saved, .ref a_t_history, .ref a_t_script, jk_V i_t_hasSaved, jk_V i_t_reportedCode, jk_V i_t_reportedOffset])), (a_t_cords, .inr (5, [jk_V i_t_cords_clusters, jk_V i_t_cords_size, .ref a_t_cords_starts, .ref a_t_cords_depth, .ref a_t_cords_topic, .ref a_t_cords_value, .ref a_t_cords_nibbled])), (a_t_cords_starts, .inr (0, [.ref a_t_cords_starts_k])), (a_t_cords_starts_k, jk_W cI 7 i_t_cords_starts), (a_t_cords_depth, .inr (0, [.ref a_t_cords_depth_k])), (a_t_cords_depth_k, jk_W cI 40 i_t_cords_depth)]
set_option maxHeartbeats 4000000 in
set_option maxRecDepth 20000 in
theorem ct_KR_topOf (l : Launch) (D : va_G) (Z : (Nat → Prop) → State → Heap → Prop) (sq : Nat → Nat) (hZ : jk_ZK Z sq) (hl : l.stackTraces = false) (cI cR : ClassId) (a_t a_t_input a_t_output a_t_topics a_t_cords a_t_draftTopics a_t_draft a_t_saved a_t_history a_t_script a_t_cords_starts a_t_cords_depth a_t_cords_topic a_t_cords_value a_t_cords_nibbled a_t_cords_starts_k a_t_cords_depth_k : Nat) (i_t_hasSaved : Int) (i_t_reportedCode : Int) (i_t_reportedOffset : Int) (i_t_cords_clusters : Int) (i_t_cords_size : Int) (i_t_cords_starts : (Int → Int)) (i_t_cords_depth : (Int → Int)) (x1 : Int) (q : Nat ⊕ (Int)) (hf : fn_KR_topOf i_t_cords_clusters i_t_cords_starts i_t_cords_depth x1 = some q) : jk_XI l D jk_cl (jk_ty cI cR) Z mn_KR_topOf (.code mn_KR_topOf mb_KR_topOf 2 (some .int) :: jk_WA) (jk_rx 7 1 6 121) [.ref a_t, jk_V x1] (wd_KR_topOf cI a_t a_t_input a_t_output a_t_topics a_t_cords a_t_draftTopics a_t_draft a_t_saved a_t_history a_t_script a_t_cords_starts a_t_cords_depth a_t_cords_topic a_t_cords_value a_t_cords_nibbled a_t_cords_starts_k a_t_cords_depth_k i_t_hasSaved i_t_reportedCode i_t_reportedOffset i_t_cords_clusters i_t_cords_size i_t_cords_starts i_t_cords_depth) (Sum.map id (fun (z : Int) => ((z : Int), wd_KR_topOf cI a_t a_t_input a_t_output a_t_topics a_t_cords a_t_draftTopics a_t_draft a_t_saved a_t_history a_t_script a_t_cords_starts a_t_cords_depth a_t_cords_topic a_t_cords_value a_t_cords_nibbled a_t_cords_starts_k a_t_cords_depth_k i_t_hasSaved i_t_reportedCode i_t_reportedOffset i_t_cords_clusters i_t_cords_size i_t_cords_starts i_t_cords_depth)) q) 1 6 := by
  intro sz
  refine jk_xbody (by decide +kernel) (fun p e s m args below meth c hsz hz hnh C => ?_) (Nat.le_of_ble_eq_true rfl)
  subst hsz
  unfold fn_KR_topOf at hf
  refine jk_aload_n C rd_KR_topOf_0 (k := 0) rfl ?_
  refine jk_iload_n C rd_KR_topOf_1 (k := 1) rfl ?_
  obtain ⟨q2, hq2, hf⟩ := jk_bind_h hf
  rcases q2 with k2 | q2
  · replace hf : (some (Sum.inl k2) : Option (Nat ⊕ (Int))) = some q := hf
    cases hf
    exact jk_callXv_t C hZ.1 hz hnh rfl rfl rfl rfl (ct_KR_requireCluster l D Z sq hZ hl cI cR a_t a_t_input a_t_output a_t_topics a_t_cords a_t_draftTopics a_t_draft a_t_saved a_t_history a_t_script a_t_cords_starts a_t_cords_depth a_t_cords_topic a_t_cords_value a_t_cords_nibbled i_t_hasSaved i_t_reportedCode i_t_reportedOffset i_t_cords_clusters i_t_cords_size x1 _ hq2) tm_1100 tm_1102 sl_12 tm_1 tm_1103 na_KR_requireCluster ⟨Nat.le_of_ble_eq_true rfl, Nat.le_of_ble_eq_true rfl⟩ rfl [0, 1] rfl rfl rfl 0 10 rfl rfl rfl (st := []) rfl (Nat.le_of_ble_eq_true rfl) rd_KR_topOf_2 ⟨Nat.le_of_ble_eq_true rfl, Nat.le_of_ble_eq_true rfl⟩ (Nat.le_of_ble_eq_true rfl) (Nat.le_of_ble_eq_true rfl)
  · refine jk_callXv_r C hZ.1 hz rfl (ct_KR_requireCluster l D Z sq hZ hl cI cR a_t a_t_input a_t_output a_t_topics a_t_cords a_t_draftTopics a_t_draft a_t_saved a_t_history a_t_script a_t_cords_starts a_t_cords_depth a_t_cords_topic a_t_cords_value a_t_cords_nibbled i_t_hasSaved i_t_reportedCode i_t_reportedOffset i_t_cords_clusters i_t_cords_size x1 _ hq2) tm_1100 tm_1102 sl_12 tm_1 tm_1103 na_KR_requireCluster ⟨Nat.le_of_ble_eq_true rfl, Nat.le_of_ble_eq_true rfl⟩ rfl [0, 1] rfl rfl rfl (ws' := wd_KR_topOf cI a_t a_t_input a_t_output a_t_topics a_t_cords a_t_draftTopics a_t_draft a_t_saved a_t_history a_t_script a_t_cords_starts a_t_cords_depth a_t_cords_topic a_t_cords_value a_t_cords_nibbled a_t_cords_starts_k a_t_cords_depth_k i_t_hasSaved i_t_reportedCode i_t_reportedOffset i_t_cords_clusters i_t_cords_size i_t_cords_starts i_t_cords_depth) rfl 0 10 rfl rfl rfl (st := []) rfl (Nat.le_of_ble_eq_true rfl) rd_KR_topOf_2 ⟨Nat.le_of_ble_eq_true rfl, Nat.le_of_ble_eq_true rfl⟩ ?_
    refine jk_aload_n C rd_KR_topOf_5 (k := 0) rfl ?_
    refine jk_get C in_KR (ci := 10) rfl 3 (by decide) tm_434 0 rfl rfl rd_KR_topOf_6 ?_
    refine jk_iload_n C rd_KR_topOf_9 (k := 1) rfl ?_
    obtain ⟨q10, hq10, hf⟩ := jk_bind_h hf
    refine jk_callVi C hZ.1 hz (ct_Cords_hasTop l D Z sq hZ cI cR a_t_cords a_t_cords_starts a_t_cords_depth a_t_cords_topic a_t_cords_value a_t_cords_nibbled a_t_cords_starts_k a_t_cords_depth_k i_t_cords_clusters i_t_cords_size i_t_cords_starts i_t_cords_depth x1 q10 hq10) tm_1154 tm_356 tm_357 tm_6 tm_358 na_Cords_hasTop ⟨Nat.le_of_ble_eq_true rfl, Nat.le_of_ble_eq_true rfl⟩ rfl [1, 2, 3, 4, 5] rfl rfl rfl (ws' := wd_KR_topOf cI a_t a_t_input a_t_output a_t_topics a_t_cords a_t_draftTopics a_t_draft a_t_saved a_t_history a_t_script a_t_cords_starts a_t_cords_depth a_t_cords_topic a_t_cords_value a_t_cords_nibbled a_t_cords_starts_k a_t_cords_depth_k i_t_hasSaved i_t_reportedCode i_t_reportedOffset i_t_cords_clusters i_t_cords_size i_t_cords_starts i_t_cords_depth) rfl 1 5 rfl rfl rfl (st := []) rfl (Nat.le_of_ble_eq_true rfl) rd_KR_topOf_10 ?_ ⟨Nat.le_of_ble_eq_true rfl, Nat.le_of_ble_eq_true rfl⟩
    refine jk_if_eq (tgt := 27) C rd_KR_topOf_13 (by decide) hf (fun _ hf => ?_) (fun _ hf => ?_)
    · refine jk_iconst C rd_KR_topOf_27 ?_
      cases hf
      exact jk_xiret C rfl rfl (Nat.le_of_ble_eq_true rfl) (Nat.le_of_ble_eq_true rfl) rd_KR_topOf_28
    · refine jk_aload_n C rd_KR_topOf_16 (k := 0) rfl ?_
      refine jk_get C in_KR (ci := 10) rfl 3 (by decide) tm_434 0 rfl rfl rd_KR_topOf_17 ?_
      refine jk_iload_n C rd_KR_topOf_20 (k := 1) rfl ?_
      obtain ⟨q21, hq21, hf⟩ := jk_bind_h hf
      refine jk_callVi C hZ.1 hz (ct_Cords_start l D Z sq hZ cI cR a_t_cords a_t_cords_starts a_t_cords_depth a_t_cords_topic a_t_cords_value a_t_cords_nibbled a_t_cords_starts_k i_t_cords_clusters i_t_cords_size i_t_cords_starts x1 q21 hq21) tm_1148 tm_372 tm_373 tm_6 tm_374 na_Cords_start ⟨Nat.le_of_ble_eq_true rfl, Nat.le_of_ble_eq_true rfl⟩ rfl [1, 2, 3] rfl rfl rfl (ws' := wd_KR_topOf cI a_t a_t_input a_t_output a_t_topics a_t_cords a_t_draftTopics a_t_draft a_t_saved a_t_history a_t_script a_t_cords_starts a_t_cords_depth a_t_cords_topic a_t_cords_value a_t_cords_nibbled a_t_cords_starts_k a_t_cords_depth_k i_t_hasSaved i_t_reportedCode i_t_reportedOffset i_t_cords_clusters i_t_cords_size i_t_cords_starts i_t_cords_depth) rfl 1 5 rfl rfl rfl (st := []) rfl (Nat.le_of_ble_eq_true rfl) rd_KR_topOf_21 ?_ ⟨Nat.le_of_ble_eq_true rfl, Nat.le_of_ble_eq_true rfl⟩
      refine jk_goto (tgt := 28) C rd_KR_topOf_24 (by decide) ?_
      cases hf
      exact jk_xiret C rfl rfl (Nat.le_of_ble_eq_true rfl) (Nat.le_of_ble_eq_true rfl) rd_KR_topOf_28
def wd_KR_stateOf (cI : ClassId) (a_t a_t_input a_t_output a_t_topics a_t_cords a_t_draftTopics a_t_draft a_t_saved a_t_history a_t_script a_t_cords_starts a_t_cords_depth a_t_cords_topic a_t_cords_value a_t_cords_nibbled a_t_cords_starts_k a_t_cords_depth_k a_t_cords_value_k a_t_cords_nibbled_k : Nat) (i_t_hasSaved : Int) (i_t_reportedCode : Int) (i_t_reportedOffset : Int) (i_t_cords_clusters : Int) (i_t_cords_size : Int) (i_t_cords_starts : (Int → Int)) (i_t_cords_depth : (Int → Int)) (i_t_cords_value : (Int → Int)) (i_t_cords_nibbled : (Int → Int)) : va_W := [(a_t, .inr (10, [.ref a_t_input, .ref a_t_output, .ref a_t_topics, .ref a_t_cords, .ref a_t_draftTopics, .ref a_t_draft, .ref a_t_saved, .ref a_t_history, .ref a_t_script, jk_V i_t_hasSaved, jk_V i_t_reportedCode, jk_V i_t_reportedOffset])), (a_t_cords, .inr (5, [jk_V i_t_cords_clusters, jk_V i_t_cords_size, .ref a_t_cords_starts, .ref a_t_cords_depth, .ref a_t_cords_topic, .ref a_t_cords_value, .ref a_t_cords_nibbled])), (a_t_cords_starts, .inr (0, [.ref a_t_cords_starts_k])), (a_t_cords_starts_k, jk_W cI 7 i_t_cords_starts), (a_t_cords_depth, .inr (0, [.ref a_t_cords_depth_k])), (a_t_cords_depth_k, jk_W cI 40 i_t_cords_depth), (a_t_cords_value, .inr (0, [.ref a_t_cords_value_k])), (a_t_cords_value_k, jk_W cI 40 i_t_cords_value), (a_t_cords_nibbled, .inr (0, [.ref a_t_cords_nibbled_k])), (a_t_cords_nibbled_k, jk_W cI 40 i_t_cords_nibbled)]
set_option maxHeartbeats 4000000 in
set_option maxRecDepth 20000 in
theorem ct_KR_stateOf (l : Launch) (D : va_G) (Z : (Nat → Prop) → State → Heap → Prop) (sq : Nat → Nat) (hZ : jk_ZK Z sq) (hl : l.stackTraces = false) (cI cR : ClassId) (a_t a_t_input a_t_output a_t_topics a_t_cords a_t_draftTopics a_t_draft a_t_saved a_t_history a_t_script a_t_cords_starts a_t_cords_depth a_t_cords_topic a_t_cords_value a_t_cords_nibbled a_t_cords_starts_k a_t_cords_depth_k a_t_cords_value_k a_t_cords_nibbled_k : Nat) (i_t_hasSaved : Int) (i_t_reportedCode : Int) (i_t_reportedOffset : Int) (i_t_cords_clusters : Int) (i_t_cords_size : Int) (i_t_cords_starts : (Int → Int)) (i_t_cords_depth : (Int → Int)) (i_t_cords_value : (Int → Int)) (i_t_cords_nibbled : (Int → Int)) (x1 : Int) (q : Nat ⊕ (Int)) (hf : fn_KR_stateOf i_t_cords_clusters i_t_cords_starts i_t_cords_depth i_t_cords_value i_t_cords_nibbled x1 = some q) : jk_XI l D jk_cl (jk_ty cI cR) Z mn_KR_stateOf (.code mn_KR_stateOf mb_KR_stateOf 2 (some .int) :: jk_WA) (jk_rx 7 1 6 121) [.ref a_t, jk_V x1] (wd_KR_stateOf cI a_t a_t_input a_t_output a_t_topics a_t_cords a_t_draftTopics a_t_draft a_t_saved a_t_history a_t_script a_t_cords_starts a_t_cords_depth a_t_cords_topic a_t_cords_value a_t_cords_nibbled a_t_cords_starts_k a_t_cords_depth_k a_t_cords_value_k a_t_cords_nibbled_k i_t_hasSaved i_t_reportedCode i_t_reportedOffset i_t_cords_clusters i_t_cords_size i_t_cords_starts i_t_cords_depth i_t_cords_value i_t_cords_nibbled) (Sum.map id (fun (z : Int) => ((z : Int), wd_KR_stateOf cI a_t a_t_input a_t_output a_t_topics a_t_cords a_t_draftTopics a_t_draft a_t_saved a_t_history a_t_script a_t_cords_starts a_t_cords_depth a_t_cords_topic a_t_cords_value a_t_cords_nibbled a_t_cords_starts_k a_t_cords_depth_k a_t_cords_value_k a_t_cords_nibbled_k i_t_hasSaved i_t_reportedCode i_t_reportedOffset i_t_cords_clusters i_t_cords_size i_t_cords_starts i_t_cords_depth i_t_cords_value i_t_cords_nibbled)) q) 1 6 := by
  intro sz
  refine jk_xbody (by decide +kernel) (fun p e s m args below meth c hsz hz hnh C => ?_) (Nat.le_of_ble_eq_true rfl)
  subst hsz
  unfold fn_KR_stateOf at hf
  refine jk_aload_n C rd_KR_stateOf_0 (k := 0) rfl ?_
  refine jk_iload_n C rd_KR_stateOf_1 (k := 1) rfl ?_
  obtain ⟨q2, hq2, hf⟩ := jk_bind_h hf
  rcases q2 with k2 | q2
  · replace hf : (some (Sum.inl k2) : Option (Nat ⊕ (Int))) = some q := hf
    cases hf
    exact jk_callXv_t C hZ.1 hz hnh rfl rfl rfl rfl (ct_KR_requireCluster l D Z sq hZ hl cI cR a_t a_t_input a_t_output a_t_topics a_t_cords a_t_draftTopics a_t_draft a_t_saved a_t_history a_t_script a_t_cords_starts a_t_cords_depth a_t_cords_topic a_t_cords_value a_t_cords_nibbled i_t_hasSaved i_t_reportedCode i_t_reportedOffset i_t_cords_clusters i_t_cords_size x1 _ hq2) tm_1100 tm_1102 sl_12 tm_1 tm_1103 na_KR_requireCluster ⟨Nat.le_of_ble_eq_true rfl, Nat.le_of_ble_eq_true rfl⟩ rfl [0, 1] rfl rfl rfl 0 10 rfl rfl rfl (st := []) rfl (Nat.le_of_ble_eq_true rfl) rd_KR_stateOf_2 ⟨Nat.le_of_ble_eq_true rfl, Nat.le_of_ble_eq_true rfl⟩ (Nat.le_of_ble_eq_true rfl) (Nat.le_of_ble_eq_true rfl)
  · refine jk_callXv_r C hZ.1 hz rfl (ct_KR_requireCluster l D Z sq hZ hl cI cR a_t a_t_input a_t_output a_t_topics a_t_cords a_t_draftTopics a_t_draft a_t_saved a_t_history a_t_script a_t_cords_starts a_t_cords_depth a_t_cords_topic a_t_cords_value a_t_cords_nibbled i_t_hasSaved i_t_reportedCode i_t_reportedOffset i_t_cords_clusters i_t_cords_size x1 _ hq2) tm_1100 tm_1102 sl_12 tm_1 tm_1103 na_KR_requireCluster ⟨Nat.le_of_ble_eq_true rfl, Nat.le_of_ble_eq_true rfl⟩ rfl [0, 1] rfl rfl rfl (ws' := wd_KR_stateOf cI a_t a_t_input a_t_output a_t_topics a_t_cords a_t_draftTopics a_t_draft a_t_saved a_t_history a_t_script a_t_cords_starts a_t_cords_depth a_t_cords_topic a_t_cords_value a_t_cords_nibbled a_t_cords_starts_k a_t_cords_depth_k a_t_cords_value_k a_t_cords_nibbled_k i_t_hasSaved i_t_reportedCode i_t_reportedOffset i_t_cords_clusters i_t_cords_size i_t_cords_starts i_t_cords_depth i_t_cords_value i_t_cords_nibbled) rfl 0 10 rfl rfl rfl (st := []) rfl (Nat.le_of_ble_eq_true rfl) rd_KR_stateOf_2 ⟨Nat.le_of_ble_eq_true rfl, Nat.le_of_ble_eq_true rfl⟩ ?_
    refine jk_aload_n C rd_KR_stateOf_5 (k := 0) rfl ?_
    refine jk_get C in_KR (ci := 10) rfl 3 (by decide) tm_434 0 rfl rfl rd_KR_stateOf_6 ?_
    refine jk_iload_n C rd_KR_stateOf_9 (k := 1) rfl ?_
    obtain ⟨q10, hq10, hf⟩ := jk_bind_h hf
    refine jk_callVi C hZ.1 hz (ct_Cords_state l D Z sq hZ cI cR a_t_cords a_t_cords_starts a_t_cords_depth a_t_cords_topic a_t_cords_value a_t_cords_nibbled a_t_cords_starts_k a_t_cords_depth_k a_t_cords_value_k a_t_cords_nibbled_k i_t_cords_clusters i_t_cords_size i_t_cords_starts i_t_cords_depth i_t_cords_value i_t_cords_nibbled x1 q10 hq10) tm_1109 tm_581 tm_582 tm_6 tm_583 na_Cords_state ⟨Nat.le_of_ble_eq_true rfl, Nat.le_of_ble_eq_true rfl⟩ rfl [1, 2, 3, 4, 5, 6, 7, 8, 9] rfl rfl rfl (ws' := wd_KR_stateOf cI a_t a_t_input a_t_output a_t_topics a_t_cords a_t_draftTopics a_t_draft a_t_saved a_t_history a_t_script a_t_cords_starts a_t_cords_depth a_t_cords_topic a_t_cords_value a_t_cords_nibbled a_t_cords_starts_k a_t_cords_depth_k a_t_cords_value_k a_t_cords_nibbled_k i_t_hasSaved i_t_reportedCode i_t_reportedOffset i_t_cords_clusters i_t_cords_size i_t_cords_starts i_t_cords_depth i_t_cords_value i_t_cords_nibbled) rfl 1 5 rfl rfl rfl (st := []) rfl (Nat.le_of_ble_eq_true rfl) rd_KR_stateOf_10 ?_ ⟨Nat.le_of_ble_eq_true rfl, Nat.le_of_ble_eq_true rfl⟩
    cases hf
    exact jk_xiret C rfl rfl (Nat.le_of_ble_eq_true rfl) (Nat.le_of_ble_eq_true rfl) rd_KR_stateOf_13
def wd_KR_guessObstacle (cI : ClassId) (a_t a_t_input a_t_output a_t_topics a_t_cords a_t_draftTopics a_t_draft a_t_saved a_t_history a_t_script a_t_cords_starts a_t_cords_depth a_t_cords_topic a_t_cords_value a_t_cords_nibbled a_t_cords_starts_k a_t_cords_depth_k a_t_cords_value_k a_t_cords_nibbled_k : Nat) (i_t_hasSaved : Int) (i_t_reportedCode : Int) (i_t_reportedOffset : Int) (i_t_cords_clusters : Int) (i_t_cords_size : Int) (i_t_cords_starts : (Int → Int)) (i_t_cords_depth : (Int → Int)) (i_t_cords_value : (Int → Int)) (i_t_cords_nibbled : (Int → Int)) : va_W := [(a_t, .inr (10, [.ref a_t_input, .ref a_t_output, .ref a_t_topics, .ref a_t_cords, .ref a_t_draftTopics, .ref a_t_draft, .ref a_t_saved, .ref a_t_history, .ref a_t_script, jk_V i_t_hasSaved, jk_V i_t_reportedCode, jk_V i_t_reportedOffset])), (a_t_cords, .inr (5, [jk_V i_t_cords_clusters, jk_V i_t_cords_size, .ref a_t_cords_starts, .ref a_t_cords_depth, .ref a_t_cords_topic, .ref a_t_cords_value, .ref a_t_cords_nibbled])), (a_t_cords_starts, .inr (0, [.ref a_t_cords_starts_k])), (a_t_cords_starts_k, jk_W cI 7 i_t_cords_starts), (a_t_cords_depth, .inr (0, [.ref a_t_cords_depth_k])), (a_t_cords_depth_k, jk_W cI 40 i_t_cords_depth), (a_t_cords_value, .inr (0, [.ref a_t_cords_value_k])), (a_t_cords_value_k, jk_W cI 40 i_t_cords_value), (a_t_cords_nibbled, .inr (0, [.ref a_t_cords_nibbled_k])), (a_t_cords_nibbled_k, jk_W cI 40 i_t_cords_nibbled)]
set_option maxHeartbeats 4000000 in
set_option maxRecDepth 20000 in
theorem ct_KR_guessObstacle (l : Launch) (D : va_G) (Z : (Nat → Prop) → State → Heap → Prop) (sq : Nat → Nat) (hZ : jk_ZK Z sq) (hl : l.stackTraces = false) (cI cR : ClassId) (a_t a_t_input a_t_output a_t_topics a_t_cords a_t_draftTopics a_t_draft a_t_saved a_t_history a_t_script a_t_cords_starts a_t_cords_depth a_t_cords_topic a_t_cords_value a_t_cords_nibbled a_t_cords_starts_k a_t_cords_depth_k a_t_cords_value_k a_t_cords_nibbled_k : Nat) (i_t_hasSaved : Int) (i_t_reportedCode : Int) (i_t_reportedOffset : Int) (i_t_cords_clusters : Int) (i_t_cords_size : Int) (i_t_cords_starts : (Int → Int)) (i_t_cords_depth : (Int → Int)) (i_t_cords_value : (Int → Int)) (i_t_cords_nibbled : (Int → Int)) (x1 : Int) (q : Nat ⊕ (Int)) (hf : fn_KR_guessObstacle i_t_cords_clusters i_t_cords_starts i_t_cords_depth i_t_cords_value i_t_cords_nibbled x1 = some q) : jk_XI l D jk_cl (jk_ty cI cR) Z mn_KR_guessObstacle (.code mn_KR_guessObstacle mb_KR_guessObstacle 2 (some .int) :: jk_WA) (jk_rx 7 1 6 121) [.ref a_t, jk_V x1] (wd_KR_guessObstacle cI a_t a_t_input a_t_output a_t_topics a_t_cords a_t_draftTopics a_t_draft a_t_saved a_t_history a_t_script a_t_cords_starts a_t_cords_depth a_t_cords_topic a_t_cords_value a_t_cords_nibbled a_t_cords_starts_k a_t_cords_depth_k a_t_cords_value_k a_t_cords_nibbled_k i_t_hasSaved i_t_reportedCode i_t_reportedOffset i_t_cords_clusters i_t_cords_size i_t_cords_starts i_t_cords_depth i_t_cords_value i_t_cords_nibbled) (Sum.map id (fun (z : Int) => ((z : Int), wd_KR_guessObstacle cI a_t a_t_input a_t_output a_t_topics a_t_cords a_t_draftTopics a_t_draft a_t_saved a_t_history a_t_script a_t_cords_starts a_t_cords_depth a_t_cords_topic a_t_cords_value a_t_cords_nibbled a_t_cords_starts_k a_t_cords_depth_k a_t_cords_value_k a_t_cords_nibbled_k i_t_hasSaved i_t_reportedCode i_t_reportedOffset i_t_cords_clusters i_t_cords_size i_t_cords_starts i_t_cords_depth i_t_cords_value i_t_cords_nibbled)) q) 1 6 := by
  intro sz
  refine jk_xbody (by decide +kernel) (fun p e s m args below meth c hsz hz hnh C => ?_) (Nat.le_of_ble_eq_true rfl)
  subst hsz
  unfold fn_KR_guessObstacle at hf
  refine jk_aload_n C rd_KR_guessObstacle_0 (k := 0) rfl ?_
  refine jk_iload_n C rd_KR_guessObstacle_1 (k := 1) rfl ?_
  obtain ⟨q2, hq2, hf⟩ := jk_bind_h hf
  rcases q2 with k2 | q2
  · replace hf : (some (Sum.inl k2) : Option (Nat ⊕ (Int))) = some q := hf
    cases hf
    exact jk_callXv_t C hZ.1 hz hnh rfl rfl rfl rfl (ct_KR_requireCluster l D Z sq hZ hl cI cR a_t a_t_input a_t_output a_t_topics a_t_cords a_t_draftTopics a_t_draft a_t_saved a_t_history a_t_script a_t_cords_starts a_t_cords_depth a_t_cords_topic a_t_cords_value a_t_cords_nibbled i_t_hasSaved i_t_reportedCode i_t_reportedOffset i_t_cords_clusters i_t_cords_size x1 _ hq2) tm_1100 tm_1102 sl_12 tm_1 tm_1103 na_KR_requireCluster ⟨Nat.le_of_ble_eq_true rfl, Nat.le_of_ble_eq_true rfl⟩ rfl [0, 1] rfl rfl rfl 0 10 rfl rfl rfl (st := []) rfl (Nat.le_of_ble_eq_true rfl) rd_KR_guessObstacle_2 ⟨Nat.le_of_ble_eq_true rfl, Nat.le_of_ble_eq_true rfl⟩ (Nat.le_of_ble_eq_true rfl) (Nat.le_of_ble_eq_true rfl)
  · refine jk_callXv_r C hZ.1 hz rfl (ct_KR_requireCluster l D Z sq hZ hl cI cR a_t a_t_input a_t_output a_t_topics a_t_cords a_t_draftTopics a_t_draft a_t_saved a_t_history a_t_script a_t_cords_starts a_t_cords_depth a_t_cords_topic a_t_cords_value a_t_cords_nibbled i_t_hasSaved i_t_reportedCode i_t_reportedOffset i_t_cords_clusters i_t_cords_size x1 _ hq2) tm_1100 tm_1102 sl_12 tm_1 tm_1103 na_KR_requireCluster ⟨Nat.le_of_ble_eq_true rfl, Nat.le_of_ble_eq_true rfl⟩ rfl [0, 1] rfl rfl rfl (ws' := wd_KR_guessObstacle cI a_t a_t_input a_t_output a_t_topics a_t_cords a_t_draftTopics a_t_draft a_t_saved a_t_history a_t_script a_t_cords_starts a_t_cords_depth a_t_cords_topic a_t_cords_value a_t_cords_nibbled a_t_cords_starts_k a_t_cords_depth_k a_t_cords_value_k a_t_cords_nibbled_k i_t_hasSaved i_t_reportedCode i_t_reportedOffset i_t_cords_clusters i_t_cords_size i_t_cords_starts i_t_cords_depth i_t_cords_value i_t_cords_nibbled) rfl 0 10 rfl rfl rfl (st := []) rfl (Nat.le_of_ble_eq_true rfl) rd_KR_guessObstacle_2 ⟨Nat.le_of_ble_eq_true rfl, Nat.le_of_ble_eq_true rfl⟩ ?_
    refine jk_aload_n C rd_KR_guessObstacle_5 (k := 0) rfl ?_
    refine jk_get C in_KR (ci := 10) rfl 3 (by decide) tm_434 0 rfl rfl rd_KR_guessObstacle_6 ?_
    refine jk_iload_n C rd_KR_guessObstacle_9 (k := 1) rfl ?_
    obtain ⟨q10, hq10, hf⟩ := jk_bind_h hf
    refine jk_callVi C hZ.1 hz (ct_Cords_obstacle l D Z sq hZ cI cR a_t_cords a_t_cords_starts a_t_cords_depth a_t_cords_topic a_t_cords_value a_t_cords_nibbled a_t_cords_starts_k a_t_cords_depth_k a_t_cords_value_k a_t_cords_nibbled_k i_t_cords_clusters i_t_cords_size i_t_cords_starts i_t_cords_depth i_t_cords_value i_t_cords_nibbled x1 q10 hq10) tm_1125 tm_555 tm_556 tm_6 tm_557 na_Cords_obstacle ⟨Nat.le_of_ble_eq_true rfl, Nat.le_of_ble_eq_true rfl⟩ rfl [1, 2, 3, 4, 5, 6, 7, 8, 9] rfl rfl rfl (ws' := wd_KR_guessObstacle cI a_t a_t_input a_t_output a_t_topics a_t_cords a_t_draftTopics a_t_draft a_t_saved a_t_history a_t_script a_t_cords_starts a_t_cords_depth a_t_cords_topic a_t_cords_value a_t_cords_nibbled a_t_cords_starts_k a_t_cords_depth_k a_t_cords_value_k a_t_cords_nibbled_k i_t_hasSaved i_t_reportedCode i_t_reportedOffset i_t_cords_clusters i_t_cords_size i_t_cords_starts i_t_cords_depth i_t_cords_value i_t_cords_nibbled) rfl 1 5 rfl rfl rfl (st := []) rfl (Nat.le_of_ble_eq_true rfl) rd_KR_guessObstacle_10 ?_ ⟨Nat.le_of_ble_eq_true rfl, Nat.le_of_ble_eq_true rfl⟩
    cases hf
    exact jk_xiret C rfl rfl (Nat.le_of_ble_eq_true rfl) (Nat.le_of_ble_eq_true rfl) rd_KR_guessObstacle_13
def wd_KR_guessIn (cI : ClassId) (a_t a_t_input a_t_output a_t_topics a_t_cords a_t_draftTopics a_t_draft a_t_saved a_t_history a_t_script a_t_cords_starts a_t_cords_depth a_t_cords_topic a_t_cords_value a_t_cords_nibbled a_t_cords_starts_k a_t_cords_depth_k a_t_cords_value_k a_t_cords_nibbled_k : Nat) (i_t_hasSaved : Int) (i_t_reportedCode : Int) (i_t_reportedOffset : Int) (i_t_cords_clusters : Int) (i_t_cords_size : Int) (i_t_cords_starts : (Int → Int)) (i_t_cords_depth : (Int → Int)) (i_t_cords_value : (Int → Int)) (i_t_cords_nibbled : (Int → Int)) : va_W := [(a_t, .inr (10, [.ref a_t_input, .ref a_t_output, .ref a_t_topics, .ref a_t_cords, .ref a_t_draftTopics, .ref a_t_draft, .ref a_t_saved, .ref a_t_history, .ref a_t_script, jk_V i_t_hasSaved, jk_V i_t_reportedCode, jk_V i_t_reportedOffset])), (a_t_cords, .inr (5, [jk_V i_t_cords_clusters, jk_V i_t_cords_size, .ref a_t_cords_starts, .ref a_t_cords_depth, .ref a_t_cords_topic, .ref a_t_cords_value, .ref a_t_cords_nibbled])), (a_t_cords_starts, .inr (0, [.ref a_t_cords_starts_k])), (a_t_cords_starts_k, jk_W cI 7 i_t_cords_starts), (a_t_cords_depth, .inr (0, [.ref a_t_cords_depth_k])), (a_t_cords_depth_k, jk_W cI 40 i_t_cords_depth), (a_t_cords_value, .inr (0, [.ref a_t_cords_value_k])), (a_t_cords_value_k, jk_W cI 40 i_t_cords_value), (a_t_cords_nibbled, .inr (0, [.ref a_t_cords_nibbled_k])), (a_t_cords_nibbled_k, jk_W cI 40 i_t_cords_nibbled)]
set_option maxHeartbeats 4000000 in
set_option maxRecDepth 20000 in
theorem ct_KR_guessIn (l : Launch) (D : va_G) (Z : (Nat → Prop) → State → Heap → Prop) (sq : Nat → Nat) (hZ : jk_ZK Z sq) (hl : l.stackTraces = false) (cI cR : ClassId) (a_t a_t_input a_t_output a_t_topics a_t_cords a_t_draftTopics a_t_draft a_t_saved a_t_history a_t_script a_t_cords_starts a_t_cords_depth a_t_cords_topic a_t_cords_value a_t_cords_nibbled a_t_cords_starts_k a_t_cords_depth_k a_t_cords_value_k a_t_cords_nibbled_k : Nat) (i_t_hasSaved : Int) (i_t_reportedCode : Int) (i_t_reportedOffset : Int) (i_t_cords_clusters : Int) (i_t_cords_size : Int) (i_t_cords_starts : (Int → Int)) (i_t_cords_depth : (Int → Int)) (i_t_cords_value : (Int → Int)) (i_t_cords_nibbled : (Int → Int)) (x1 : Int) (q : Nat ⊕ (Int)) (hf : fn_KR_guessIn i_t_cords_clusters i_t_cords_starts i_t_cords_depth i_t_cords_value i_t_cords_nibbled x1 = some q) : jk_XI l D jk_cl (jk_ty cI cR) Z mn_KR_guessIn (.code mn_KR_guessIn mb_KR_guessIn 2 (some .int) :: jk_WA) (jk_rx 7 2 12 121) [.ref a_t, jk_V x1] (wd_KR_guessIn cI a_t a_t_input a_t_output a_t_topics a_t_cords a_t_draftTopics a_t_draft a_t_saved a_t_history a_t_script a_t_cords_starts a_t_cords_depth a_t_cords_topic a_t_cords_value a_t_cords_nibbled a_t_cords_starts_k a_t_cords_depth_k a_t_cords_value_k a_t_cords_nibbled_k i_t_hasSaved i_t_reportedCode i_t_reportedOffset i_t_cords_clusters i_t_cords_size i_t_cords_starts i_t_cords_depth i_t_cords_value i_t_cords_nibbled) (Sum.map id (fun (z : Int) => ((z : Int), wd_KR_guessIn cI a_t a_t_input a_t_output a_t_topics a_t_cords a_t_draftTopics a_t_draft a_t_saved a_t_history a_t_script a_t_cords_starts a_t_cords_depth a_t_cords_topic a_t_cords_value a_t_cords_nibbled a_t_cords_starts_k a_t_cords_depth_k a_t_cords_value_k a_t_cords_nibbled_k i_t_hasSaved i_t_reportedCode i_t_reportedOffset i_t_cords_clusters i_t_cords_size i_t_cords_starts i_t_cords_depth i_t_cords_value i_t_cords_nibbled)) q) 2 12 := by
  intro sz
  refine jk_xbody (by decide +kernel) (fun p e s m args below meth c hsz hz hnh C => ?_) (Nat.le_of_ble_eq_true rfl)
  subst hsz
  unfold fn_KR_guessIn at hf
  refine jk_aload_n C rd_KR_guessIn_0 (k := 0) rfl ?_
  refine jk_iload_n C rd_KR_guessIn_1 (k := 1) rfl ?_
  obtain ⟨q2, hq2, hf⟩ := jk_bind_h hf
  rcases q2 with k2 | q2
  · replace hf : (some (Sum.inl k2) : Option (Nat ⊕ (Int))) = some q := hf
    cases hf
    exact jk_callXv_t C hZ.1 hz hnh rfl rfl rfl rfl (ct_KR_requireCluster l D Z sq hZ hl cI cR a_t a_t_input a_t_output a_t_topics a_t_cords a_t_draftTopics a_t_draft a_t_saved a_t_history a_t_script a_t_cords_starts a_t_cords_depth a_t_cords_topic a_t_cords_value a_t_cords_nibbled i_t_hasSaved i_t_reportedCode i_t_reportedOffset i_t_cords_clusters i_t_cords_size x1 _ hq2) tm_1100 tm_1102 sl_12 tm_1 tm_1103 na_KR_requireCluster ⟨Nat.le_of_ble_eq_true rfl, Nat.le_of_ble_eq_true rfl⟩ rfl [0, 1] rfl rfl rfl 0 10 rfl rfl rfl (st := []) rfl (Nat.le_of_ble_eq_true rfl) rd_KR_guessIn_2 ⟨Nat.le_of_ble_eq_true rfl, Nat.le_of_ble_eq_true rfl⟩ (Nat.le_of_ble_eq_true rfl) (Nat.le_of_ble_eq_true rfl)
  · refine jk_callXv_r C hZ.1 hz rfl (ct_KR_requireCluster l D Z sq hZ hl cI cR a_t a_t_input a_t_output a_t_topics a_t_cords a_t_draftTopics a_t_draft a_t_saved a_t_history a_t_script a_t_cords_starts a_t_cords_depth a_t_cords_topic a_t_cords_value a_t_cords_nibbled i_t_hasSaved i_t_reportedCode i_t_reportedOffset i_t_cords_clusters i_t_cords_size x1 _ hq2) tm_1100 tm_1102 sl_12 tm_1 tm_1103 na_KR_requireCluster ⟨Nat.le_of_ble_eq_true rfl, Nat.le_of_ble_eq_true rfl⟩ rfl [0, 1] rfl rfl rfl (ws' := wd_KR_guessIn cI a_t a_t_input a_t_output a_t_topics a_t_cords a_t_draftTopics a_t_draft a_t_saved a_t_history a_t_script a_t_cords_starts a_t_cords_depth a_t_cords_topic a_t_cords_value a_t_cords_nibbled a_t_cords_starts_k a_t_cords_depth_k a_t_cords_value_k a_t_cords_nibbled_k i_t_hasSaved i_t_reportedCode i_t_reportedOffset i_t_cords_clusters i_t_cords_size i_t_cords_starts i_t_cords_depth i_t_cords_value i_t_cords_nibbled) rfl 0 10 rfl rfl rfl (st := []) rfl (Nat.le_of_ble_eq_true rfl) rd_KR_guessIn_2 ⟨Nat.le_of_ble_eq_true rfl, Nat.le_of_ble_eq_true rfl⟩ ?_
    refine jk_aload_n C rd_KR_guessIn_5 (k := 0) rfl ?_
    refine jk_get C in_KR (ci := 10) rfl 3 (by decide) tm_434 0 rfl rfl rd_KR_guessIn_6 ?_
    refine jk_iload_n C rd_KR_guessIn_9 (k := 1) rfl ?_
    obtain ⟨q10, hq10, hf⟩ := jk_bind_h hf
    refine jk_callVi C hZ.1 hz (ct_Cords_obstacle l D Z sq hZ cI cR a_t_cords a_t_cords_starts a_t_cords_depth a_t_cords_topic a_t_cords_value a_t_cords_nibbled a_t_cords_starts_k a_t_cords_depth_k a_t_cords_value_k a_t_cords_nibbled_k i_t_cords_clusters i_t_cords_size i_t_cords_starts i_t_cords_depth i_t_cords_value i_t_cords_nibbled x1 q10 hq10) tm_1125 tm_555 tm_556 tm_6 tm_557 na_Cords_obstacle ⟨Nat.le_of_ble_eq_true rfl, Nat.le_of_ble_eq_true rfl⟩ rfl [1, 2, 3, 4, 5, 6, 7, 8, 9] rfl rfl rfl (ws' := wd_KR_guessIn cI a_t a_t_input a_t_output a_t_topics a_t_cords a_t_draftTopics a_t_draft a_t_saved a_t_history a_t_script a_t_cords_starts a_t_cords_depth a_t_cords_topic a_t_cords_value a_t_cords_nibbled a_t_cords_starts_k a_t_cords_depth_k a_t_cords_value_k a_t_cords_nibbled_k i_t_hasSaved i_t_reportedCode i_t_reportedOffset i_t_cords_clusters i_t_cords_size i_t_cords_starts i_t_cords_depth i_t_cords_value i_t_cords_nibbled) rfl 1 5 rfl rfl rfl (st := []) rfl (Nat.le_of_ble_eq_true rfl) rd_KR_guessIn_10 ?_ ⟨Nat.le_of_ble_eq_true rfl, Nat.le_of_ble_eq_true rfl⟩
    refine jk_if_eq (tgt := 26) C rd_KR_guessIn_13 (by decide) hf (fun _ hf => ?_) (fun _ hf => ?_)
    · refine jk_aload_n C rd_KR_guessIn_26 (k := 0) rfl ?_
      refine jk_get C in_KR (ci := 10) rfl 3 (by decide) tm_434 0 rfl rfl rd_KR_guessIn_27 ?_
      refine jk_iload_n C rd_KR_guessIn_30 (k := 1) rfl ?_
      obtain ⟨q31, hq31, hf⟩ := jk_bind_h hf
      refine jk_callVi C hZ.1 hz (ct_Cords_guess l D Z sq hZ cI cR a_t_cords a_t_cords_starts a_t_cords_depth a_t_cords_topic a_t_cords_value a_t_cords_nibbled a_t_cords_starts_k a_t_cords_value_k a_t_cords_nibbled_k i_t_cords_clusters i_t_cords_size i_t_cords_starts i_t_cords_value i_t_cords_nibbled x1 q31 hq31) tm_1179 tm_565 tm_566 tm_6 tm_567 na_Cords_guess ⟨Nat.le_of_ble_eq_true rfl, Nat.le_of_ble_eq_true rfl⟩ rfl [1, 2, 3, 6, 7, 8, 9] rfl rfl rfl (ws' := wd_KR_guessIn cI a_t a_t_input a_t_output a_t_topics a_t_cords a_t_draftTopics a_t_draft a_t_saved a_t_history a_t_script a_t_cords_starts a_t_cords_depth a_t_cords_topic a_t_cords_value a_t_cords_nibbled a_t_cords_starts_k a_t_cords_depth_k a_t_cords_value_k a_t_cords_nibbled_k i_t_hasSaved i_t_reportedCode i_t_reportedOffset i_t_cords_clusters i_t_cords_size i_t_cords_starts i_t_cords_depth i_t_cords_value i_t_cords_nibbled) rfl 1 5 rfl rfl rfl (st := []) rfl (Nat.le_of_ble_eq_true rfl) rd_KR_guessIn_31 ?_ ⟨Nat.le_of_ble_eq_true rfl, Nat.le_of_ble_eq_true rfl⟩
      cases hf
      exact jk_xiret C rfl rfl (Nat.le_of_ble_eq_true rfl) (Nat.le_of_ble_eq_true rfl) rd_KR_guessIn_34
    · cases hf
      exact jk_throwN (k := 4) (kk := 10) C hZ hz hl hnh rfl rfl rfl tm_1163 tm_37 rfl tw_220_4 ⟨by decide +kernel, by decide +kernel, by decide +kernel⟩ nx_0 nx_1 nx_2 nx_5 rd_KR_guessIn_16 rd_KR_guessIn_19 rd_KR_guessIn_20 rd_KR_guessIn_22 rd_KR_guessIn_25 (Nat.le_of_ble_eq_true rfl) (Nat.le_of_ble_eq_true rfl) (Nat.le_of_ble_eq_true rfl) (Nat.le_of_ble_eq_true rfl) (Nat.le_of_ble_eq_true rfl) (Nat.le_of_ble_eq_true rfl)
def wd_KR_isConsistent (cI : ClassId) (a_t a_t_input a_t_output a_t_topics a_t_cords a_t_draftTopics a_t_draft a_t_saved a_t_history a_t_script a_t_cords_starts a_t_cords_depth a_t_cords_topic a_t_cords_value a_t_cords_nibbled a_t_cords_starts_k a_t_cords_depth_k a_t_cords_topic_k a_t_cords_value_k a_t_cords_nibbled_k a_t_draft_starts a_t_draft_depth a_t_draft_topic a_t_draft_value a_t_draft_nibbled a_t_draft_starts_k a_t_draft_depth_k a_t_draft_topic_k a_t_draft_value_k a_t_draft_nibbled_k : Nat) (i_t_hasSaved : Int) (i_t_reportedCode : Int) (i_t_reportedOffset : Int) (i_t_cords_clusters : Int) (i_t_cords_size : Int) (i_t_cords_starts : (Int → Int)) (i_t_cords_depth : (Int → Int)) (i_t_cords_topic : (Int → Int)) (i_t_cords_value : (Int → Int)) (i_t_cords_nibbled : (Int → Int)) (i_t_draft_clusters : Int) (i_t_draft_size : Int) (i_t_draft_starts : (Int → Int)) (i_t_draft_depth : (Int → Int)) (i_t_draft_topic : (Int → Int)) (i_t_draft_value : (Int → Int)) (i_t_draft_nibbled : (Int → Int)) : va_W := [(a_t, .inr (10, [.ref a_t_input, .ref a_t_output, .ref a_t_topics, .ref a_t_cords, .ref a_t_draftTopics, .ref a_t_draft, .ref a_t_saved, .ref a_t_history, .ref a_t_script, jk_V i_t_hasSaved, jk_V i_t_reportedCode, jk_V i_t_reportedOffset])), (a_t_cords, .inr (5, [jk_V i_t_cords_clusters, jk_V i_t_cords_size, .ref a_t_cords_starts, .ref a_t_cords_depth, .ref a_t_cords_topic, .ref a_t_cords_value, .ref a_t_cords_nibbled])), (a_t_cords_starts, .inr (0, [.ref a_t_cords_starts_k])), (a_t_cords_starts_k, jk_W cI 7 i_t_cords_starts), (a_t_cords_depth, .inr (0, [.ref a_t_cords_depth_k])), (a_t_cords_depth_k, jk_W cI 40 i_t_cords_depth), (a_t_cords_topic, .inr (0, [.ref a_t_cords_topic_k])), (a_t_cords_topic_k, jk_W cI 40 i_t_cords_topic), (a_t_cords_value, .inr (0, [.ref a_t_cords_value_k])), (a_t_cords_value_k, jk_W cI 40 i_t_cords_value), (a_t_cords_nibbled, .inr (0, [.ref a_t_cords_nibbled_k])), (a_t_cords_nibbled_k, jk_W cI 40 i_t_cords_nibbled), (a_t_draft, .inr (5, [jk_V i_t_draft_clusters, jk_V i_t_draft_size, .ref a_t_draft_starts, .ref a_t_draft_depth, .ref a_t_draft_topic, .ref a_t_draft_value, .ref a_t_draft_nibbled])), (a_t_draft_starts, .inr (0, [.ref a_t_draft_starts_k])), (a_t_draft_starts_k, jk_W cI 7 i_t_draft_starts), (a_t_draft_depth, .inr (0, [.ref a_t_draft_depth_k])), (a_t_draft_depth_k, jk_W cI 40 i_t_draft_depth), (a_t_draft_topic, .inr (0, [.ref a_t_draft_topic_k])), (a_t_draft_topic_k, jk_W cI 40 i_t_draft_topic), (a_t_draft_value, .inr (0, [.ref a_t_draft_value_k])), (a_t_draft_value_k, jk_W cI 40 i_t_draft_value), (a_t_draft_nibbled, .inr (0, [.ref a_t_draft_nibbled_k])), (a_t_draft_nibbled_k, jk_W cI 40 i_t_draft_nibbled)]
set_option maxHeartbeats 4000000 in
set_option maxRecDepth 20000 in
theorem ct_KR_isConsistent (l : Launch) (D : va_G) (Z : (Nat → Prop) → State → Heap → Prop) (sq : Nat → Nat) (hZ : jk_ZK Z sq) (cI cR : ClassId) (a_t a_t_input a_t_output a_t_topics a_t_cords a_t_draftTopics a_t_draft a_t_saved a_t_history a_t_script a_t_cords_starts a_t_cords_depth a_t_cords_topic a_t_cords_value a_t_cords_nibbled a_t_cords_starts_k a_t_cords_depth_k a_t_cords_topic_k a_t_cords_value_k a_t_cords_nibbled_k a_t_draft_starts a_t_draft_depth a_t_draft_topic a_t_draft_value a_t_draft_nibbled a_t_draft_starts_k a_t_draft_depth_k a_t_draft_topic_k a_t_draft_value_k a_t_draft_nibbled_k : Nat) (i_t_hasSaved : Int) (i_t_reportedCode : Int) (i_t_reportedOffset : Int) (i_t_cords_clusters : Int) (i_t_cords_size : Int) (i_t_cords_starts : (Int → Int)) (i_t_cords_depth : (Int → Int)) (i_t_cords_topic : (Int → Int)) (i_t_cords_value : (Int → Int)) (i_t_cords_nibbled : (Int → Int)) (i_t_draft_clusters : Int) (i_t_draft_size : Int) (i_t_draft_starts : (Int → Int)) (i_t_draft_depth : (Int → Int)) (i_t_draft_topic : (Int → Int)) (i_t_draft_value : (Int → Int)) (i_t_draft_nibbled : (Int → Int)) (q : Int × Int × Int × (Int → Int) × (Int → Int) × (Int → Int) × (Int → Int) × (Int → Int)) (hf : fn_KR_isConsistent i_t_cords_clusters i_t_cords_size i_t_cords_starts i_t_cords_depth i_t_cords_topic i_t_cords_value i_t_cords_nibbled i_t_draft_clusters i_t_draft_size i_t_draft_starts i_t_draft_depth i_t_draft_topic i_t_draft_value i_t_draft_nibbled = some q) : jk_MI l D jk_cl (jk_ty cI cR) Z mn_KR_isConsistent (.code mn_KR_isConsistent mb_KR_isConsistent 1 (some .boolean) :: jk_WA) (jk_rm 13 313) [.ref a_t] (wd_KR_isConsistent cI a_t a_t_input a_t_output a_t_topics a_t_cords a_t_draftTopics a_t_draft a_t_saved a_t_history a_t_script a_t_cords_starts a_t_cords_depth a_t_cords_topic a_t_cords_value a_t_cords_nibbled a_t_cords_starts_k a_t_cords_depth_k a_t_cords_topic_k a_t_cords_value_k a_t_cords_nibbled_k a_t_draft_starts a_t_draft_depth a_t_draft_topic a_t_draft_value a_t_draft_nibbled a_t_draft_starts_k a_t_draft_depth_k a_t_draft_topic_k a_t_draft_value_k a_t_draft_nibbled_k i_t_hasSaved i_t_reportedCode i_t_reportedOffset i_t_cords_clusters i_t_cords_size i_t_cords_starts i_t_cords_depth i_t_cords_topic i_t_cords_value i_t_cords_nibbled i_t_draft_clusters i_t_draft_size i_t_draft_starts i_t_draft_depth i_t_draft_topic i_t_draft_value i_t_draft_nibbled) (wd_KR_isConsistent cI a_t a_t_input a_t_output a_t_topics a_t_cords a_t_draftTopics a_t_draft a_t_saved a_t_history a_t_script a_t_cords_starts a_t_cords_depth a_t_cords_topic a_t_cords_value a_t_cords_nibbled a_t_cords_starts_k a_t_cords_depth_k a_t_cords_topic_k a_t_cords_value_k a_t_cords_nibbled_k a_t_draft_starts a_t_draft_depth a_t_draft_topic a_t_draft_value a_t_draft_nibbled a_t_draft_starts_k a_t_draft_depth_k a_t_draft_topic_k a_t_draft_value_k a_t_draft_nibbled_k i_t_hasSaved i_t_reportedCode i_t_reportedOffset i_t_cords_clusters i_t_cords_size i_t_cords_starts i_t_cords_depth i_t_cords_topic i_t_cords_value i_t_cords_nibbled q.2.1 q.2.2.1 q.2.2.2.1 q.2.2.2.2.1 q.2.2.2.2.2.1 q.2.2.2.2.2.2.1 q.2.2.2.2.2.2.2) q.1 := by
  intro sz
  refine jk_body (by decide +kernel) (fun p e s m args below meth c hsz hz hin C => ?_) (Nat.le_of_ble_eq_true rfl)
  subst hsz
  unfold fn_KR_isConsistent at hf
  refine jk_aload_n C rd_KR_isConsistent_0 (k := 0) rfl ?_
  refine jk_get C in_KR (ci := 10) rfl 3 (by decide) tm_434 0 rfl rfl rd_KR_isConsistent_1 ?_
  obtain ⟨q4, hq4, hf⟩ := jk_bind_h hf
  refine jk_callSi C hZ.1 hz (ct_Check_order l D Z sq hZ cI cR a_t_cords a_t_cords_starts a_t_cords_depth a_t_cords_topic a_t_cords_value a_t_cords_nibbled a_t_cords_starts_k a_t_cords_depth_k i_t_cords_clusters i_t_cords_size i_t_cords_starts i_t_cords_depth q4 hq4) tm_498 tm_499 tm_39 tm_500 na_Check_order ⟨Nat.le_of_ble_eq_true rfl, Nat.le_of_ble_eq_true rfl⟩ rfl [1, 2, 3, 4, 5] rfl rfl rfl (ws' := wd_KR_isConsistent cI a_t a_t_input a_t_output a_t_topics a_t_cords a_t_draftTopics a_t_draft a_t_saved a_t_history a_t_script a_t_cords_starts a_t_cords_depth a_t_cords_topic a_t_cords_value a_t_cords_nibbled a_t_cords_starts_k a_t_cords_depth_k a_t_cords_topic_k a_t_cords_value_k a_t_cords_nibbled_k a_t_draft_starts a_t_draft_depth a_t_draft_topic a_t_draft_value a_t_draft_nibbled a_t_draft_starts_k a_t_draft_depth_k a_t_draft_topic_k a_t_draft_value_k a_t_draft_nibbled_k i_t_hasSaved i_t_reportedCode i_t_reportedOffset i_t_cords_clusters i_t_cords_size i_t_cords_starts i_t_cords_depth i_t_cords_topic i_t_cords_value i_t_cords_nibbled i_t_draft_clusters i_t_draft_size i_t_draft_starts i_t_draft_depth i_t_draft_topic i_t_draft_value i_t_draft_nibbled) rfl (st := []) rfl (Nat.le_of_ble_eq_true rfl) rd_KR_isConsistent_4 ?_ ⟨Nat.le_of_ble_eq_true rfl, Nat.le_of_ble_eq_true rfl⟩
  refine jk_if_eq (tgt := 48) C rd_KR_isConsistent_7 (by decide) hf (fun _ hf => ?_) (fun _ hf => ?_)
  · refine jk_iconst C rd_KR_isConsistent_48 ?_
    cases hf
    exact jk_zret C (Or.inl rfl) rfl rd_KR_isConsistent_49 rfl
  · refine jk_aload_n C rd_KR_isConsistent_10 (k := 0) rfl ?_
    refine jk_get C in_KR (ci := 10) rfl 3 (by decide) tm_434 0 rfl rfl rd_KR_isConsistent_11 ?_
    obtain ⟨q14, hq14, hf⟩ := jk_bind_h hf
    refine jk_callSi C hZ.1 hz (ct_Check_branches l D Z sq hZ cI cR a_t_cords a_t_cords_starts a_t_cords_depth a_t_cords_topic a_t_cords_value a_t_cords_nibbled a_t_cords_depth_k a_t_cords_value_k a_t_cords_nibbled_k i_t_cords_clusters i_t_cords_size i_t_cords_depth i_t_cords_value i_t_cords_nibbled q14 hq14) tm_514 tm_515 tm_39 tm_516 na_Check_branches ⟨Nat.le_of_ble_eq_true rfl, Nat.le_of_ble_eq_true rfl⟩ rfl [1, 4, 5, 8, 9, 10, 11] rfl rfl rfl (ws' := wd_KR_isConsistent cI a_t a_t_input a_t_output a_t_topics a_t_cords a_t_draftTopics a_t_draft a_t_saved a_t_history a_t_script a_t_cords_starts a_t_cords_depth a_t_cords_topic a_t_cords_value a_t_cords_nibbled a_t_cords_starts_k a_t_cords_depth_k a_t_cords_topic_k a_t_cords_value_k a_t_cords_nibbled_k a_t_draft_starts a_t_draft_depth a_t_draft_topic a_t_draft_value a_t_draft_nibbled a_t_draft_starts_k a_t_draft_depth_k a_t_draft_topic_k a_t_draft_value_k a_t_draft_nibbled_k i_t_hasSaved i_t_reportedCode i_t_reportedOffset i_t_cords_clusters i_t_cords_size i_t_cords_starts i_t_cords_depth i_t_cords_topic i_t_cords_value i_t_cords_nibbled i_t_draft_clusters i_t_draft_size i_t_draft_starts i_t_draft_depth i_t_draft_topic i_t_draft_value i_t_draft_nibbled) rfl (st := []) rfl (Nat.le_of_ble_eq_true rfl) rd_KR_isConsistent_14 ?_ ⟨Nat.le_of_ble_eq_true rfl, Nat.le_of_ble_eq_true rfl⟩
    refine jk_if_eq (tgt := 48) C rd_KR_isConsistent_17 (by decide) hf (fun _ hf => ?_) (fun _ hf => ?_)
    · refine jk_iconst C rd_KR_isConsistent_48 ?_
      cases hf
      exact jk_zret C (Or.inl rfl) rfl rd_KR_isConsistent_49 rfl
    · refine jk_aload_n C rd_KR_isConsistent_20 (k := 0) rfl ?_
      refine jk_get C in_KR (ci := 10) rfl 3 (by decide) tm_434 0 rfl rfl rd_KR_isConsistent_21 ?_
      obtain ⟨q24, hq24, hf⟩ := jk_bind_h hf
      refine jk_callSi C hZ.1 hz (ct_Check_sums l D Z sq hZ cI cR a_t_cords a_t_cords_starts a_t_cords_depth a_t_cords_topic a_t_cords_value a_t_cords_nibbled a_t_cords_starts_k a_t_cords_depth_k a_t_cords_value_k a_t_cords_nibbled_k i_t_cords_clusters i_t_cords_size i_t_cords_starts i_t_cords_depth i_t_cords_value i_t_cords_nibbled q24 hq24) tm_534 tm_535 tm_39 tm_536 na_Check_sums ⟨Nat.le_of_ble_eq_true rfl, Nat.le_of_ble_eq_true rfl⟩ rfl [1, 2, 3, 4, 5, 8, 9, 10, 11] rfl rfl rfl (ws' := wd_KR_isConsistent cI a_t a_t_input a_t_output a_t_topics a_t_cords a_t_draftTopics a_t_draft a_t_saved a_t_history a_t_script a_t_cords_starts a_t_cords_depth a_t_cords_topic a_t_cords_value a_t_cords_nibbled a_t_cords_starts_k a_t_cords_depth_k a_t_cords_topic_k a_t_cords_value_k a_t_cords_nibbled_k a_t_draft_starts a_t_draft_depth a_t_draft_topic a_t_draft_value a_t_draft_nibbled a_t_draft_starts_k a_t_draft_depth_k a_t_draft_topic_k a_t_draft_value_k a_t_draft_nibbled_k i_t_hasSaved i_t_reportedCode i_t_reportedOffset i_t_cords_clusters i_t_cords_size i_t_cords_starts i_t_cords_depth i_t_cords_topic i_t_cords_value i_t_cords_nibbled i_t_draft_clusters i_t_draft_size i_t_draft_starts i_t_draft_depth i_t_draft_topic i_t_draft_value i_t_draft_nibbled) rfl (st := []) rfl (Nat.le_of_ble_eq_true rfl) rd_KR_isConsistent_24 ?_ ⟨Nat.le_of_ble_eq_true rfl, Nat.le_of_ble_eq_true rfl⟩
      refine jk_if_eq (tgt := 48) C rd_KR_isConsistent_27 (by decide) hf (fun _ hf => ?_) (fun _ hf => ?_)
      · refine jk_iconst C rd_KR_isConsistent_48 ?_
        cases hf
        exact jk_zret C (Or.inl rfl) rfl rd_KR_isConsistent_49 rfl
      · refine jk_aload_n C rd_KR_isConsistent_30 (k := 0) rfl ?_
        refine jk_get C in_KR (ci := 10) rfl 3 (by decide) tm_434 0 rfl rfl rd_KR_isConsistent_31 ?_
        refine jk_aload_n C rd_KR_isConsistent_34 (k := 0) rfl ?_
        refine jk_get C in_KR (ci := 10) rfl 5 (by decide) tm_436 0 rfl rfl rd_KR_isConsistent_35 ?_
        obtain ⟨q38, hq38, hf⟩ := jk_bind_h hf
        refine jk_callSi C hZ.1 hz (ct_Check_guesses l D Z sq hZ cI cR a_t_cords a_t_cords_starts a_t_cords_depth a_t_cords_topic a_t_cords_value a_t_cords_nibbled a_t_cords_starts_k a_t_cords_depth_k a_t_cords_topic_k a_t_cords_value_k a_t_cords_nibbled_k a_t_draft a_t_draft_starts a_t_draft_depth a_t_draft_topic a_t_draft_value a_t_draft_nibbled a_t_draft_starts_k a_t_draft_depth_k a_t_draft_topic_k a_t_draft_value_k a_t_draft_nibbled_k i_t_cords_clusters i_t_cords_size i_t_cords_starts i_t_cords_depth i_t_cords_topic i_t_cords_value i_t_cords_nibbled i_t_draft_clusters i_t_draft_size i_t_draft_starts i_t_draft_depth i_t_draft_topic i_t_draft_value i_t_draft_nibbled q38 hq38) tm_551 tm_552 tm_39 tm_553 na_Check_guesses ⟨Nat.le_of_ble_eq_true rfl, Nat.le_of_ble_eq_true rfl⟩ rfl [1, 2, 3, 4, 5, 6, 7, 8, 9, 10, 11, 12, 13, 14, 15, 16, 17, 18, 19, 20, 21, 22] rfl rfl rfl (ws' := wd_KR_isConsistent cI a_t a_t_input a_t_output a_t_topics a_t_cords a_t_draftTopics a_t_draft a_t_saved a_t_history a_t_script a_t_cords_starts a_t_cords_depth a_t_cords_topic a_t_cords_value a_t_cords_nibbled a_t_cords_starts_k a_t_cords_depth_k a_t_cords_topic_k a_t_cords_value_k a_t_cords_nibbled_k a_t_draft_starts a_t_draft_depth a_t_draft_topic a_t_draft_value a_t_draft_nibbled a_t_draft_starts_k a_t_draft_depth_k a_t_draft_topic_k a_t_draft_value_k a_t_draft_nibbled_k i_t_hasSaved i_t_reportedCode i_t_reportedOffset i_t_cords_clusters i_t_cords_size i_t_cords_starts i_t_cords_depth i_t_cords_topic i_t_cords_value i_t_cords_nibbled q38.2.1 q38.2.2.1 q38.2.2.2.1 q38.2.2.2.2.1 q38.2.2.2.2.2.1 q38.2.2.2.2.2.2.1 q38.2.2.2.2.2.2.2) rfl (st := []) rfl (Nat.le_of_ble_eq_true rfl) rd_KR_isConsistent_38 ?_ ⟨Nat.le_of_ble_eq_true rfl, Nat.le_of_ble_eq_true rfl⟩
        refine jk_if_eq (tgt := 48) C rd_KR_isConsistent_41 (by decide) hf (fun _ hf => ?_) (fun _ hf => ?_)
        · refine jk_iconst C rd_KR_isConsistent_48 ?_
          cases hf
          exact jk_zret C (Or.inl rfl) rfl rd_KR_isConsistent_49 rfl
        · refine jk_iconst C rd_KR_isConsistent_44 ?_
          refine jk_goto (tgt := 49) C rd_KR_isConsistent_45 (by decide) ?_
          cases hf
          exact jk_zret C (Or.inr rfl) rfl rd_KR_isConsistent_49 rfl
def wd_KR_perform (cI : ClassId) (a_t a_t_input a_t_output a_t_topics a_t_cords a_t_draftTopics a_t_draft a_t_saved a_t_history a_t_script a_t_cords_starts a_t_cords_depth a_t_cords_topic a_t_cords_value a_t_cords_nibbled a_t_cords_starts_k a_t_cords_depth_k a_t_cords_topic_k a_t_cords_value_k a_t_cords_nibbled_k : Nat) (i_t_hasSaved : Int) (i_t_reportedCode : Int) (i_t_reportedOffset : Int) (i_t_cords_clusters : Int) (i_t_cords_size : Int) (i_t_cords_starts : (Int → Int)) (i_t_cords_depth : (Int → Int)) (i_t_cords_topic : (Int → Int)) (i_t_cords_value : (Int → Int)) (i_t_cords_nibbled : (Int → Int)) : va_W := [(a_t, .inr (10, [.ref a_t_input, .ref a_t_output, .ref a_t_topics, .ref a_t_cords, .ref a_t_draftTopics, .ref a_t_draft, .ref a_t_saved, .ref a_t_history, .ref a_t_script, jk_V i_t_hasSaved, jk_V i_t_reportedCode, jk_V i_t_reportedOffset])), (a_t_cords, .inr (5, [jk_V i_t_cords_clusters, jk_V i_t_cords_size, .ref a_t_cords_starts, .ref a_t_cords_depth, .ref a_t_cords_topic, .ref a_t_cords_value, .ref a_t_cords_nibbled])), (a_t_cords_starts, .inr (0, [.ref a_t_cords_starts_k])), (a_t_cords_starts_k, jk_W cI 7 i_t_cords_starts), (a_t_cords_depth, .inr (0, [.ref a_t_cords_depth_k])), (a_t_cords_depth_k, jk_W cI 40 i_t_cords_depth), (a_t_cords_topic, .inr (0, [.ref a_t_cords_topic_k])), (a_t_cords_topic_k, jk_W cI 40 i_t_cords_topic), (a_t_cords_value, .inr (0, [.ref a_t_cords_value_k])), (a_t_cords_value_k, jk_W cI 40 i_t_cords_value), (a_t_cords_nibbled, .inr (0, [.ref a_t_cords_nibbled_k])), (a_t_cords_nibbled_k, jk_W cI 40 i_t_cords_nibbled)]
set_option maxHeartbeats 4000000 in
set_option maxRecDepth 20000 in
theorem ct_KR_perform (l : Launch) (D : va_G) (Z : (Nat → Prop) → State → Heap → Prop) (sq : Nat → Nat) (hZ : jk_ZK Z sq) (cI cR : ClassId) (a_t a_t_input a_t_output a_t_topics a_t_cords a_t_draftTopics a_t_draft a_t_saved a_t_history a_t_script a_t_cords_starts a_t_cords_depth a_t_cords_topic a_t_cords_value a_t_cords_nibbled a_t_cords_starts_k a_t_cords_depth_k a_t_cords_topic_k a_t_cords_value_k a_t_cords_nibbled_k : Nat) (i_t_hasSaved : Int) (i_t_reportedCode : Int) (i_t_reportedOffset : Int) (i_t_cords_clusters : Int) (i_t_cords_size : Int) (i_t_cords_starts : (Int → Int)) (i_t_cords_depth : (Int → Int)) (i_t_cords_topic : (Int → Int)) (i_t_cords_value : (Int → Int)) (i_t_cords_nibbled : (Int → Int)) (x1 : Int) (x2 : Int) (x3 : Int) (x4 : Int) (q : Int × Int × Int × (Int → Int) × (Int → Int) × (Int → Int) × (Int → Int) × (Int → Int)) (hf : fn_KR_perform i_t_cords_clusters i_t_cords_size i_t_cords_starts i_t_cords_depth i_t_cords_topic i_t_cords_value i_t_cords_nibbled x1 x2 x3 x4 = some q) : jk_MI l D jk_cl (jk_ty cI cR) Z mn_KR_perform (.code mn_KR_perform mb_KR_perform 5 (some .int) :: jk_WA) (jk_rm 4 94) [.ref a_t, jk_V x1, jk_V x2, jk_V x3, jk_V x4] (wd_KR_perform cI a_t a_t_input a_t_output a_t_topics a_t_cords a_t_draftTopics a_t_draft a_t_saved a_t_history a_t_script a_t_cords_starts a_t_cords_depth a_t_cords_topic a_t_cords_value a_t_cords_nibbled a_t_cords_starts_k a_t_cords_depth_k a_t_cords_topic_k a_t_cords_value_k a_t_cords_nibbled_k i_t_hasSaved i_t_reportedCode i_t_reportedOffset i_t_cords_clusters i_t_cords_size i_t_cords_starts i_t_cords_depth i_t_cords_topic i_t_cords_value i_t_cords_nibbled) (wd_KR_perform cI a_t a_t_input a_t_output a_t_topics a_t_cords a_t_draftTopics a_t_draft a_t_saved a_t_history a_t_script a_t_cords_starts a_t_cords_depth a_t_cords_topic a_t_cords_value a_t_cords_nibbled a_t_cords_starts_k a_t_cords_depth_k a_t_cords_topic_k a_t_cords_value_k a_t_cords_nibbled_k i_t_hasSaved i_t_reportedCode i_t_reportedOffset q.2.1 q.2.2.1 q.2.2.2.1 q.2.2.2.2.1 q.2.2.2.2.2.1 q.2.2.2.2.2.2.1 q.2.2.2.2.2.2.2) q.1 := by
  intro sz
  refine jk_body (by decide +kernel) (fun p e s m args below meth c hsz hz hin C => ?_) (Nat.le_of_ble_eq_true rfl)
  subst hsz
  unfold fn_KR_perform at hf
  refine jk_iload_n C rd_KR_perform_0 (k := 1) rfl ?_
  refine jk_eqs_c hf (fun hx hf => ?_) (fun hx0 hf => ?_)
  · refine jk_tabIn (off := 51) (tgt := 52) C rd_KR_perform_1 (k := 0) hx (by decide +kernel) (by decide) ?_
    refine jk_aload_n C rd_KR_perform_52 (k := 0) rfl ?_
    refine jk_get C in_KR (ci := 10) rfl 3 (by decide) tm_434 0 rfl rfl rd_KR_perform_53 ?_
    obtain ⟨q56, hq56, hf⟩ := jk_bind_h hf
    refine jk_callVi C hZ.1 hz (ct_Cords_openCluster l D Z sq hZ cI cR a_t_cords a_t_cords_starts a_t_cords_depth a_t_cords_topic a_t_cords_value a_t_cords_nibbled a_t_cords_starts_k i_t_cords_clusters i_t_cords_size i_t_cords_starts q56 hq56) tm_1265 tm_342 tm_343 tm_6 tm_344 na_Cords_openCluster ⟨Nat.le_of_ble_eq_true rfl, Nat.le_of_ble_eq_true rfl⟩ rfl [1, 2, 3] rfl rfl rfl (ws' := wd_KR_perform cI a_t a_t_input a_t_output a_t_topics a_t_cords a_t_draftTopics a_t_draft a_t_saved a_t_history a_t_script a_t_cords_starts a_t_cords_depth a_t_cords_topic a_t_cords_value a_t_cords_nibbled a_t_cords_starts_k a_t_cords_depth_k a_t_cords_topic_k a_t_cords_value_k a_t_cords_nibbled_k i_t_hasSaved i_t_reportedCode i_t_reportedOffset q56.2.1 i_t_cords_size q56.2.2 i_t_cords_depth i_t_cords_topic i_t_cords_value i_t_cords_nibbled) rfl 1 5 rfl rfl rfl (st := []) rfl (Nat.le_of_ble_eq_true rfl) rd_KR_perform_56 ?_ ⟨Nat.le_of_ble_eq_true rfl, Nat.le_of_ble_eq_true rfl⟩
    cases hf
    exact jk_iret C rfl rd_KR_perform_59 rfl
  refine jk_eqs_c hf (fun hx hf => ?_) (fun hx1 hf => ?_)
  · refine jk_tabIn (off := 59) (tgt := 60) C rd_KR_perform_1 (k := 1) hx (by decide +kernel) (by decide) ?_
    refine jk_aload_n C rd_KR_perform_60 (k := 0) rfl ?_
    refine jk_get C in_KR (ci := 10) rfl 3 (by decide) tm_434 0 rfl rfl rd_KR_perform_61 ?_
    refine jk_aload_n C rd_KR_perform_64 (k := 0) rfl ?_
    refine jk_get C in_KR (ci := 10) rfl 3 (by decide) tm_434 0 rfl rfl rd_KR_perform_65 ?_
    refine jk_iload_n C rd_KR_perform_68 (k := 2) rfl ?_
    obtain ⟨q69, hq69, hf⟩ := jk_bind_h hf
    refine jk_callVi C hZ.1 hz (ct_Cords_end l D Z sq hZ cI cR a_t_cords a_t_cords_starts a_t_cords_depth a_t_cords_topic a_t_cords_value a_t_cords_nibbled a_t_cords_starts_k i_t_cords_clusters i_t_cords_size i_t_cords_starts x2 q69 hq69) tm_1149 tm_502 tm_503 tm_6 tm_504 na_Cords_end ⟨Nat.le_of_ble_eq_true rfl, Nat.le_of_ble_eq_true rfl⟩ rfl [1, 2, 3] rfl rfl rfl (ws' := wd_KR_perform cI a_t a_t_input a_t_output a_t_topics a_t_cords a_t_draftTopics a_t_draft a_t_saved a_t_history a_t_script a_t_cords_starts a_t_cords_depth a_t_cords_topic a_t_cords_value a_t_cords_nibbled a_t_cords_starts_k a_t_cords_depth_k a_t_cords_topic_k a_t_cords_value_k a_t_cords_nibbled_k i_t_hasSaved i_t_reportedCode i_t_reportedOffset i_t_cords_clusters i_t_cords_size i_t_cords_starts i_t_cords_depth i_t_cords_topic i_t_cords_value i_t_cords_nibbled) rfl 1 5 rfl rfl rfl (st := [.ref a_t_cords]) rfl (Nat.le_of_ble_eq_true rfl) rd_KR_perform_69 ?_ ⟨Nat.le_of_ble_eq_true rfl, Nat.le_of_ble_eq_true rfl⟩
    refine jk_iload_n C rd_KR_perform_72 (k := 2) rfl ?_
    refine jk_iconst C rd_KR_perform_73 ?_
    refine jk_iload_n C rd_KR_perform_74 (k := 3) rfl ?_
    refine jk_iload C rd_KR_perform_75 (k := 4) rfl ?_
    obtain ⟨q77, hq77, hf⟩ := jk_bind_h hf
    refine jk_callVi C hZ.1 hz (ct_Cords_insert l D Z sq hZ cI cR a_t_cords a_t_cords_starts a_t_cords_depth a_t_cords_topic a_t_cords_value a_t_cords_nibbled a_t_cords_starts_k a_t_cords_depth_k a_t_cords_topic_k a_t_cords_value_k a_t_cords_nibbled_k i_t_cords_clusters i_t_cords_size i_t_cords_starts i_t_cords_depth i_t_cords_topic i_t_cords_value i_t_cords_nibbled q69 x2 1 x3 x4 q77 hq77) tm_1266 tm_395 tm_396 tm_6 tm_397 na_Cords_insert ⟨Nat.le_of_ble_eq_true rfl, Nat.le_of_ble_eq_true rfl⟩ rfl [1, 2, 3, 4, 5, 6, 7, 8, 9, 10, 11] rfl rfl rfl (ws' := wd_KR_perform cI a_t a_t_input a_t_output a_t_topics a_t_cords a_t_draftTopics a_t_draft a_t_saved a_t_history a_t_script a_t_cords_starts a_t_cords_depth a_t_cords_topic a_t_cords_value a_t_cords_nibbled a_t_cords_starts_k a_t_cords_depth_k a_t_cords_topic_k a_t_cords_value_k a_t_cords_nibbled_k i_t_hasSaved i_t_reportedCode i_t_reportedOffset i_t_cords_clusters q77.2.1 q77.2.2.1 q77.2.2.2.1 q77.2.2.2.2.1 q77.2.2.2.2.2.1 q77.2.2.2.2.2.2) rfl 1 5 rfl rfl rfl (st := []) rfl (Nat.le_of_ble_eq_true rfl) rd_KR_perform_77 ?_ ⟨Nat.le_of_ble_eq_true rfl, Nat.le_of_ble_eq_true rfl⟩
    cases hf
    exact jk_iret C rfl rd_KR_perform_80 rfl
  refine jk_eqs_c hf (fun hx hf => ?_) (fun hx2 hf => ?_)
  · refine jk_tabIn (off := 80) (tgt := 81) C rd_KR_perform_1 (k := 2) hx (by decide +kernel) (by decide) ?_
    refine jk_aload_n C rd_KR_perform_81 (k := 0) rfl ?_
    refine jk_get C in_KR (ci := 10) rfl 3 (by decide) tm_434 0 rfl rfl rd_KR_perform_82 ?_
    refine jk_aload_n C rd_KR_perform_85 (k := 0) rfl ?_
    refine jk_get C in_KR (ci := 10) rfl 3 (by decide) tm_434 0 rfl rfl rd_KR_perform_86 ?_
    refine jk_iload_n C rd_KR_perform_89 (k := 2) rfl ?_
    obtain ⟨q90, hq90, hf⟩ := jk_bind_h hf
    refine jk_callVi C hZ.1 hz (ct_Cords_branchEnd l D Z sq hZ cI cR a_t_cords a_t_cords_starts a_t_cords_depth a_t_cords_topic a_t_cords_value a_t_cords_nibbled a_t_cords_depth_k i_t_cords_clusters i_t_cords_size i_t_cords_depth x2 q90 hq90) tm_1051 tm_380 tm_381 tm_6 tm_382 na_Cords_branchEnd ⟨Nat.le_of_ble_eq_true rfl, Nat.le_of_ble_eq_true rfl⟩ rfl [1, 4, 5] rfl rfl rfl (ws' := wd_KR_perform cI a_t a_t_input a_t_output a_t_topics a_t_cords a_t_draftTopics a_t_draft a_t_saved a_t_history a_t_script a_t_cords_starts a_t_cords_depth a_t_cords_topic a_t_cords_value a_t_cords_nibbled a_t_cords_starts_k a_t_cords_depth_k a_t_cords_topic_k a_t_cords_value_k a_t_cords_nibbled_k i_t_hasSaved i_t_reportedCode i_t_reportedOffset i_t_cords_clusters i_t_cords_size i_t_cords_starts i_t_cords_depth i_t_cords_topic i_t_cords_value i_t_cords_nibbled) rfl 1 5 rfl rfl rfl (st := [.ref a_t_cords]) rfl (Nat.le_of_ble_eq_true rfl) rd_KR_perform_90 ?_ ⟨Nat.le_of_ble_eq_true rfl, Nat.le_of_ble_eq_true rfl⟩
    refine jk_aload_n C rd_KR_perform_93 (k := 0) rfl ?_
    refine jk_get C in_KR (ci := 10) rfl 3 (by decide) tm_434 0 rfl rfl rd_KR_perform_94 ?_
    refine jk_iload_n C rd_KR_perform_97 (k := 2) rfl ?_
    obtain ⟨q98, hq98, hf⟩ := jk_bind_h hf
    refine jk_callVi C hZ.1 hz (ct_Cords_clusterAt l D Z sq hZ cI cR a_t_cords a_t_cords_starts a_t_cords_depth a_t_cords_topic a_t_cords_value a_t_cords_nibbled a_t_cords_starts_k i_t_cords_clusters i_t_cords_size i_t_cords_starts x2 q98 hq98) tm_1023 tm_510 tm_511 tm_6 tm_512 na_Cords_clusterAt ⟨Nat.le_of_ble_eq_true rfl, Nat.le_of_ble_eq_true rfl⟩ rfl [1, 2, 3] rfl rfl rfl (ws' := wd_KR_perform cI a_t a_t_input a_t_output a_t_topics a_t_cords a_t_draftTopics a_t_draft a_t_saved a_t_history a_t_script a_t_cords_starts a_t_cords_depth a_t_cords_topic a_t_cords_value a_t_cords_nibbled a_t_cords_starts_k a_t_cords_depth_k a_t_cords_topic_k a_t_cords_value_k a_t_cords_nibbled_k i_t_hasSaved i_t_reportedCode i_t_reportedOffset i_t_cords_clusters i_t_cords_size i_t_cords_starts i_t_cords_depth i_t_cords_topic i_t_cords_value i_t_cords_nibbled) rfl 1 5 rfl rfl rfl (st := [jk_V q90, .ref a_t_cords]) rfl (Nat.le_of_ble_eq_true rfl) rd_KR_perform_98 ?_ ⟨Nat.le_of_ble_eq_true rfl, Nat.le_of_ble_eq_true rfl⟩
    refine jk_aload_n C rd_KR_perform_101 (k := 0) rfl ?_
    refine jk_get C in_KR (ci := 10) rfl 3 (by decide) tm_434 0 rfl rfl rd_KR_perform_102 ?_
    refine jk_getN C in_Cords (ci := 5) rfl 3 (by decide) (jk_nw hZ hz tn_15) 1 rfl rfl rd_KR_perform_105 ?_
    refine jk_iload_n C rd_KR_perform_108 (k := 2) rfl ?_
    obtain ⟨q109, hq109, hf⟩ := jk_bind_h hf
    refine jk_callVi C hZ.1 hz (ct_Row_get l D Z sq hZ cI cR (n_t := 40) (Nat.le_of_ble_eq_true rfl) a_t_cords_depth a_t_cords_depth_k i_t_cords_depth x2 q109 hq109) tm_1033 tm_299 tm_300 tm_3 tm_301 na_Row_get ⟨Nat.le_of_ble_eq_true rfl, Nat.le_of_ble_eq_true rfl⟩ rfl [4, 5] rfl rfl rfl (ws' := wd_KR_perform cI a_t a_t_input a_t_output a_t_topics a_t_cords a_t_draftTopics a_t_draft a_t_saved a_t_history a_t_script a_t_cords_starts a_t_cords_depth a_t_cords_topic a_t_cords_value a_t_cords_nibbled a_t_cords_starts_k a_t_cords_depth_k a_t_cords_topic_k a_t_cords_value_k a_t_cords_nibbled_k i_t_hasSaved i_t_reportedCode i_t_reportedOffset i_t_cords_clusters i_t_cords_size i_t_cords_starts i_t_cords_depth i_t_cords_topic i_t_cords_value i_t_cords_nibbled) rfl 4 0 rfl rfl rfl (st := [jk_V q98, jk_V q90, .ref a_t_cords]) rfl (Nat.le_of_ble_eq_true rfl) rd_KR_perform_109 ?_ ⟨Nat.le_of_ble_eq_true rfl, Nat.le_of_ble_eq_true rfl⟩
    refine jk_iconst C rd_KR_perform_112 ?_
    refine jk_iadd C rd_KR_perform_113 ?_
    refine jk_iload_n C rd_KR_perform_114 (k := 3) rfl ?_
    refine jk_iload C rd_KR_perform_115 (k := 4) rfl ?_
    obtain ⟨q117, hq117, hf⟩ := jk_bind_h hf
    refine jk_callVi C hZ.1 hz (ct_Cords_insert l D Z sq hZ cI cR a_t_cords a_t_cords_starts a_t_cords_depth a_t_cords_topic a_t_cords_value a_t_cords_nibbled a_t_cords_starts_k a_t_cords_depth_k a_t_cords_topic_k a_t_cords_value_k a_t_cords_nibbled_k i_t_cords_clusters i_t_cords_size i_t_cords_starts i_t_cords_depth i_t_cords_topic i_t_cords_value i_t_cords_nibbled q90 q98 (q109 + 1) x3 x4 q117 hq117) tm_1266 tm_395 tm_396 tm_6 tm_397 na_Cords_insert ⟨Nat.le_of_ble_eq_true rfl, Nat.le_of_ble_eq_true rfl⟩ rfl [1, 2, 3, 4, 5, 6, 7, 8, 9, 10, 11] rfl rfl rfl (ws' := wd_KR_perform cI a_t a_t_input a_t_output a_t_topics a_t_cords a_t_draftTopics a_t_draft a_t_saved a_t_history a_t_script a_t_cords_starts a_t_cords_depth a_t_cords_topic a_t_cords_value a_t_cords_nibbled a_t_cords_starts_k a_t_cords_depth_k a_t_cords_topic_k a_t_cords_value_k a_t_cords_nibbled_k i_t_hasSaved i_t_reportedCode i_t_reportedOffset i_t_cords_clusters q117.2.1 q117.2.2.1 q117.2.2.2.1 q117.2.2.2.2.1 q117.2.2.2.2.2.1 q117.2.2.2.2.2.2) rfl 1 5 rfl rfl rfl (st := []) rfl (Nat.le_of_ble_eq_true rfl) rd_KR_perform_117 ?_ ⟨Nat.le_of_ble_eq_true rfl, Nat.le_of_ble_eq_true rfl⟩
    cases hf
    exact jk_iret C rfl rd_KR_perform_120 rfl
  refine jk_eqs_c hf (fun hx hf => ?_) (fun hx3 hf => ?_)
  · refine jk_tabIn (off := 120) (tgt := 121) C rd_KR_perform_1 (k := 3) hx (by decide +kernel) (by decide) ?_
    refine jk_aload_n C rd_KR_perform_121 (k := 0) rfl ?_
    refine jk_get C in_KR (ci := 10) rfl 3 (by decide) tm_434 0 rfl rfl rd_KR_perform_122 ?_
    refine jk_iload_n C rd_KR_perform_125 (k := 2) rfl ?_
    refine jk_aload_n C rd_KR_perform_126 (k := 0) rfl ?_
    refine jk_get C in_KR (ci := 10) rfl 3 (by decide) tm_434 0 rfl rfl rd_KR_perform_127 ?_
    refine jk_iload_n C rd_KR_perform_130 (k := 2) rfl ?_
    obtain ⟨q131, hq131, hf⟩ := jk_bind_h hf
    refine jk_callVi C hZ.1 hz (ct_Cords_branchEnd l D Z sq hZ cI cR a_t_cords a_t_cords_starts a_t_cords_depth a_t_cords_topic a_t_cords_value a_t_cords_nibbled a_t_cords_depth_k i_t_cords_clusters i_t_cords_size i_t_cords_depth x2 q131 hq131) tm_1051 tm_380 tm_381 tm_6 tm_382 na_Cords_branchEnd ⟨Nat.le_of_ble_eq_true rfl, Nat.le_of_ble_eq_true rfl⟩ rfl [1, 4, 5] rfl rfl rfl (ws' := wd_KR_perform cI a_t a_t_input a_t_output a_t_topics a_t_cords a_t_draftTopics a_t_draft a_t_saved a_t_history a_t_script a_t_cords_starts a_t_cords_depth a_t_cords_topic a_t_cords_value a_t_cords_nibbled a_t_cords_starts_k a_t_cords_depth_k a_t_cords_topic_k a_t_cords_value_k a_t_cords_nibbled_k i_t_hasSaved i_t_reportedCode i_t_reportedOffset i_t_cords_clusters i_t_cords_size i_t_cords_starts i_t_cords_depth i_t_cords_topic i_t_cords_value i_t_cords_nibbled) rfl 1 5 rfl rfl rfl (st := [jk_V x2, .ref a_t_cords]) rfl (Nat.le_of_ble_eq_true rfl) rd_KR_perform_131 ?_ ⟨Nat.le_of_ble_eq_true rfl, Nat.le_of_ble_eq_true rfl⟩
    obtain ⟨q134, hq134, hf⟩ := jk_bind_h hf
    refine jk_callVi C hZ.1 hz (ct_Cords_remove l D Z sq hZ cI cR a_t_cords a_t_cords_starts a_t_cords_depth a_t_cords_topic a_t_cords_value a_t_cords_nibbled a_t_cords_starts_k a_t_cords_depth_k a_t_cords_topic_k a_t_cords_value_k a_t_cords_nibbled_k i_t_cords_clusters i_t_cords_size i_t_cords_starts i_t_cords_depth i_t_cords_topic i_t_cords_value i_t_cords_nibbled x2 q131 q134 hq134) tm_1267 tm_1268 tm_1269 tm_6 tm_1270 na_Cords_remove ⟨Nat.le_of_ble_eq_true rfl, Nat.le_of_ble_eq_true rfl⟩ rfl [1, 2, 3, 4, 5, 6, 7, 8, 9, 10, 11] rfl rfl rfl (ws' := wd_KR_perform cI a_t a_t_input a_t_output a_t_topics a_t_cords a_t_draftTopics a_t_draft a_t_saved a_t_history a_t_script a_t_cords_starts a_t_cords_depth a_t_cords_topic a_t_cords_value a_t_cords_nibbled a_t_cords_starts_k a_t_cords_depth_k a_t_cords_topic_k a_t_cords_value_k a_t_cords_nibbled_k i_t_hasSaved i_t_reportedCode i_t_reportedOffset i_t_cords_clusters q134.2.1 q134.2.2.1 q134.2.2.2.1 q134.2.2.2.2.1 q134.2.2.2.2.2.1 q134.2.2.2.2.2.2) rfl 1 5 rfl rfl rfl (st := []) rfl (Nat.le_of_ble_eq_true rfl) rd_KR_perform_134 ?_ ⟨Nat.le_of_ble_eq_true rfl, Nat.le_of_ble_eq_true rfl⟩
    cases hf
    exact jk_iret C rfl rd_KR_perform_137 rfl
  refine jk_eqs_c hf (fun hx hf => ?_) (fun hx4 hf => ?_)
  · refine jk_tabIn (off := 137) (tgt := 138) C rd_KR_perform_1 (k := 4) hx (by decide +kernel) (by decide) ?_
    refine jk_aload_n C rd_KR_perform_138 (k := 0) rfl ?_
    refine jk_get C in_KR (ci := 10) rfl 3 (by decide) tm_434 0 rfl rfl rd_KR_perform_139 ?_
    refine jk_iload_n C rd_KR_perform_142 (k := 2) rfl ?_
    refine jk_iload_n C rd_KR_perform_143 (k := 3) rfl ?_
    obtain ⟨q144, hq144, hf⟩ := jk_bind_h hf
    refine jk_callVi C hZ.1 hz (ct_Cords_tie l D Z sq hZ cI cR a_t_cords a_t_cords_starts a_t_cords_depth a_t_cords_topic a_t_cords_value a_t_cords_nibbled a_t_cords_starts_k a_t_cords_depth_k a_t_cords_topic_k a_t_cords_value_k a_t_cords_nibbled_k i_t_cords_clusters i_t_cords_size i_t_cords_starts i_t_cords_depth i_t_cords_topic i_t_cords_value i_t_cords_nibbled x2 x3 q144 hq144) tm_1276 tm_1277 tm_1278 tm_6 tm_1279 na_Cords_tie ⟨Nat.le_of_ble_eq_true rfl, Nat.le_of_ble_eq_true rfl⟩ rfl [1, 2, 3, 4, 5, 6, 7, 8, 9, 10, 11] rfl rfl rfl (ws' := wd_KR_perform cI a_t a_t_input a_t_output a_t_topics a_t_cords a_t_draftTopics a_t_draft a_t_saved a_t_history a_t_script a_t_cords_starts a_t_cords_depth a_t_cords_topic a_t_cords_value a_t_cords_nibbled a_t_cords_starts_k a_t_cords_depth_k a_t_cords_topic_k a_t_cords_value_k a_t_cords_nibbled_k i_t_hasSaved i_t_reportedCode i_t_reportedOffset i_t_cords_clusters q144.2.1 q144.2.2.1 q144.2.2.2.1 q144.2.2.2.2.1 q144.2.2.2.2.2.1 q144.2.2.2.2.2.2) rfl 1 5 rfl rfl rfl (st := []) rfl (Nat.le_of_ble_eq_true rfl) rd_KR_perform_144 ?_ ⟨Nat.le_of_ble_eq_true rfl, Nat.le_of_ble_eq_true rfl⟩
    cases hf
    exact jk_iret C rfl rd_KR_perform_147 rfl
  refine jk_eqs_c hf (fun hx hf => ?_) (fun hx5 hf => ?_)
  · refine jk_tabIn (off := 147) (tgt := 148) C rd_KR_perform_1 (k := 5) hx (by decide +kernel) (by decide) ?_
    refine jk_aload_n C rd_KR_perform_148 (k := 0) rfl ?_
    refine jk_get C in_KR (ci := 10) rfl 3 (by decide) tm_434 0 rfl rfl rd_KR_perform_149 ?_
    refine jk_iload_n C rd_KR_perform_152 (k := 2) rfl ?_
    refine jk_iload_n C rd_KR_perform_153 (k := 3) rfl ?_
    refine jk_iload C rd_KR_perform_154 (k := 4) rfl ?_
    obtain ⟨q156, hq156, hf⟩ := jk_bind_h hf
    refine jk_callVi C hZ.1 hz (ct_Cords_knot l D Z sq hZ cI cR a_t_cords a_t_cords_starts a_t_cords_depth a_t_cords_topic a_t_cords_value a_t_cords_nibbled a_t_cords_value_k i_t_cords_clusters i_t_cords_size i_t_cords_value x2 x3 x4 q156 hq156) tm_1281 tm_1282 tm_1283 tm_6 tm_1284 na_Cords_knot ⟨Nat.le_of_ble_eq_true rfl, Nat.le_of_ble_eq_true rfl⟩ rfl [1, 8, 9] rfl rfl rfl (ws' := wd_KR_perform cI a_t a_t_input a_t_output a_t_topics a_t_cords a_t_draftTopics a_t_draft a_t_saved a_t_history a_t_script a_t_cords_starts a_t_cords_depth a_t_cords_topic a_t_cords_value a_t_cords_nibbled a_t_cords_starts_k a_t_cords_depth_k a_t_cords_topic_k a_t_cords_value_k a_t_cords_nibbled_k i_t_hasSaved i_t_reportedCode i_t_reportedOffset i_t_cords_clusters i_t_cords_size i_t_cords_starts i_t_cords_depth i_t_cords_topic q156.2 i_t_cords_nibbled) rfl 1 5 rfl rfl rfl (st := []) rfl (Nat.le_of_ble_eq_true rfl) rd_KR_perform_156 ?_ ⟨Nat.le_of_ble_eq_true rfl, Nat.le_of_ble_eq_true rfl⟩
    cases hf
    exact jk_iret C rfl rd_KR_perform_159 rfl
  refine jk_eqs_c hf (fun hx hf => ?_) (fun hx6 hf => ?_)
  · refine jk_tabIn (off := 159) (tgt := 160) C rd_KR_perform_1 (k := 6) hx (by decide +kernel) (by decide) ?_
    refine jk_aload_n C rd_KR_perform_160 (k := 0) rfl ?_
    refine jk_get C in_KR (ci := 10) rfl 3 (by decide) tm_434 0 rfl rfl rd_KR_perform_161 ?_
    refine jk_iload_n C rd_KR_perform_164 (k := 2) rfl ?_
    refine jk_iload_n C rd_KR_perform_165 (k := 3) rfl ?_
    obtain ⟨q166, hq166, hf⟩ := jk_bind_h hf
    refine jk_callVi C hZ.1 hz (ct_Cords_loseKnots l D Z sq hZ cI cR a_t_cords a_t_cords_starts a_t_cords_depth a_t_cords_topic a_t_cords_value a_t_cords_nibbled a_t_cords_value_k a_t_cords_nibbled_k i_t_cords_clusters i_t_cords_size i_t_cords_value i_t_cords_nibbled x2 x3 q166 hq166) tm_1286 tm_409 tm_410 tm_6 tm_411 na_Cords_loseKnots ⟨Nat.le_of_ble_eq_true rfl, Nat.le_of_ble_eq_true rfl⟩ rfl [1, 8, 9, 10, 11] rfl rfl rfl (ws' := wd_KR_perform cI a_t a_t_input a_t_output a_t_topics a_t_cords a_t_draftTopics a_t_draft a_t_saved a_t_history a_t_script a_t_cords_starts a_t_cords_depth a_t_cords_topic a_t_cords_value a_t_cords_nibbled a_t_cords_starts_k a_t_cords_depth_k a_t_cords_topic_k a_t_cords_value_k a_t_cords_nibbled_k i_t_hasSaved i_t_reportedCode i_t_reportedOffset i_t_cords_clusters i_t_cords_size i_t_cords_starts i_t_cords_depth i_t_cords_topic q166.2.1 q166.2.2) rfl 1 5 rfl rfl rfl (st := []) rfl (Nat.le_of_ble_eq_true rfl) rd_KR_perform_166 ?_ ⟨Nat.le_of_ble_eq_true rfl, Nat.le_of_ble_eq_true rfl⟩
    cases hf
    exact jk_iret C rfl rd_KR_perform_169 rfl
  refine jk_eqs_c hf (fun hx hf => ?_) (fun hx7 hf => ?_)
  · refine jk_tabIn (off := 169) (tgt := 170) C rd_KR_perform_1 (k := 7) hx (by decide +kernel) (by decide) ?_
    refine jk_aload_n C rd_KR_perform_170 (k := 0) rfl ?_
    refine jk_get C in_KR (ci := 10) rfl 3 (by decide) tm_434 0 rfl rfl rd_KR_perform_171 ?_
    refine jk_getN C in_Cords (ci := 5) rfl 4 (by decide) (jk_nw hZ hz tn_16) 1 rfl rfl rd_KR_perform_174 ?_
    refine jk_iload_n C rd_KR_perform_177 (k := 2) rfl ?_
    refine jk_iload_n C rd_KR_perform_178 (k := 3) rfl ?_
    obtain ⟨q179, hq179, hf⟩ := jk_bind_h hf
    refine jk_callVi C hZ.1 hz (ct_Row_replace l D Z sq hZ cI cR (n_t := 40) (Nat.le_of_ble_eq_true rfl) a_t_cords_topic a_t_cords_topic_k i_t_cords_topic x2 x3 q179 hq179) tm_1287 tm_1288 tm_1289 tm_3 tm_1290 na_Row_replace ⟨Nat.le_of_ble_eq_true rfl, Nat.le_of_ble_eq_true rfl⟩ rfl [6, 7] rfl rfl rfl (ws' := wd_KR_perform cI a_t a_t_input a_t_output a_t_topics a_t_cords a_t_draftTopics a_t_draft a_t_saved a_t_history a_t_script a_t_cords_starts a_t_cords_depth a_t_cords_topic a_t_cords_value a_t_cords_nibbled a_t_cords_starts_k a_t_cords_depth_k a_t_cords_topic_k a_t_cords_value_k a_t_cords_nibbled_k i_t_hasSaved i_t_reportedCode i_t_reportedOffset i_t_cords_clusters i_t_cords_size i_t_cords_starts i_t_cords_depth q179.2 i_t_cords_value i_t_cords_nibbled) rfl 6 0 rfl rfl rfl (st := []) rfl (Nat.le_of_ble_eq_true rfl) rd_KR_perform_179 ?_ ⟨Nat.le_of_ble_eq_true rfl, Nat.le_of_ble_eq_true rfl⟩
    cases hf
    exact jk_iret C rfl rd_KR_perform_182 rfl
  refine jk_eqs_c hf (fun hx hf => ?_) (fun hx8 hf => ?_)
  · refine jk_tabIn (off := 182) (tgt := 183) C rd_KR_perform_1 (k := 8) hx (by decide +kernel) (by decide) ?_
    refine jk_aload_n C rd_KR_perform_183 (k := 0) rfl ?_
    refine jk_get C in_KR (ci := 10) rfl 3 (by decide) tm_434 0 rfl rfl rd_KR_perform_184 ?_
    refine jk_iload_n C rd_KR_perform_187 (k := 2) rfl ?_
    obtain ⟨q188, hq188, hf⟩ := jk_bind_h hf
    refine jk_callVi C hZ.1 hz (ct_Cords_mend l D Z sq hZ cI cR a_t_cords a_t_cords_starts a_t_cords_depth a_t_cords_topic a_t_cords_value a_t_cords_nibbled a_t_cords_starts_k a_t_cords_value_k a_t_cords_nibbled_k i_t_cords_clusters i_t_cords_size i_t_cords_starts i_t_cords_value i_t_cords_nibbled x2 q188 hq188) tm_1291 tm_577 tm_578 tm_6 tm_579 na_Cords_mend ⟨Nat.le_of_ble_eq_true rfl, Nat.le_of_ble_eq_true rfl⟩ rfl [1, 2, 3, 8, 9, 10, 11] rfl rfl rfl (ws' := wd_KR_perform cI a_t a_t_input a_t_output a_t_topics a_t_cords a_t_draftTopics a_t_draft a_t_saved a_t_history a_t_script a_t_cords_starts a_t_cords_depth a_t_cords_topic a_t_cords_value a_t_cords_nibbled a_t_cords_starts_k a_t_cords_depth_k a_t_cords_topic_k a_t_cords_value_k a_t_cords_nibbled_k i_t_hasSaved i_t_reportedCode i_t_reportedOffset i_t_cords_clusters i_t_cords_size i_t_cords_starts i_t_cords_depth i_t_cords_topic q188.2.1 q188.2.2) rfl 1 5 rfl rfl rfl (st := []) rfl (Nat.le_of_ble_eq_true rfl) rd_KR_perform_188 ?_ ⟨Nat.le_of_ble_eq_true rfl, Nat.le_of_ble_eq_true rfl⟩
    cases hf
    exact jk_iret C rfl rd_KR_perform_191 rfl
  refine jk_tabOut (tgt := 192) C rd_KR_perform_1 (jk_rg_h hf).1 (by omega) (by decide) ?_
  replace hf := (jk_rg_h hf).2
  refine jk_iconst C rd_KR_perform_192 ?_
  cases hf
  exact jk_iret C rfl rd_KR_perform_193 rfl
def wd_KR_knotsProblem (cI : ClassId) (a_t a_t_input a_t_output a_t_topics a_t_cords a_t_draftTopics a_t_draft a_t_saved a_t_history a_t_script a_t_cords_starts a_t_cords_depth a_t_cords_topic a_t_cords_value a_t_cords_nibbled a_t_cords_nibbled_k : Nat) (i_t_hasSaved : Int) (i_t_reportedCode : Int) (i_t_reportedOffset : Int) (i_t_cords_clusters : Int) (i_t_cords_size : Int) (i_t_cords_nibbled : (Int → Int)) : va_W := [(a_t, .inr (10, [.ref a_t_input, .ref a_t_output, .ref a_t_topics, .ref a_t_cords, .ref a_t_draftTopics, .ref a_t_draft, .ref a_t_saved, .ref a_t_history, .ref a_t_script, jk_V i_t_hasSaved, jk_V i_t_reportedCode, jk_V i_t_reportedOffset])), (a_t_cords, .inr (5, [jk_V i_t_cords_clusters, jk_V i_t_cords_size, .ref a_t_cords_starts, .ref a_t_cords_depth, .ref a_t_cords_topic, .ref a_t_cords_value, .ref a_t_cords_nibbled])), (a_t_cords_nibbled, .inr (0, [.ref a_t_cords_nibbled_k])), (a_t_cords_nibbled_k, jk_W cI 40 i_t_cords_nibbled)]
set_option maxHeartbeats 4000000 in
set_option maxRecDepth 20000 in
theorem ct_KR_knotsProblem (l : Launch) (D : va_G) (Z : (Nat → Prop) → State → Heap → Prop) (sq : Nat → Nat) (hZ : jk_ZK Z sq) (cI cR : ClassId) (a_t a_t_input a_t_output a_t_topics a_t_cords a_t_draftTopics a_t_draft a_t_saved a_t_history a_t_script a_t_cords_starts a_t_cords_depth a_t_cords_topic a_t_cords_value a_t_cords_nibbled a_t_cords_nibbled_k : Nat) (i_t_hasSaved : Int) (i_t_reportedCode : Int) (i_t_reportedOffset : Int) (i_t_cords_clusters : Int) (i_t_cords_size : Int) (i_t_cords_nibbled : (Int → Int)) (x1 : Int) (x2 : Int) (x3 : Int) (q : Int) (hf : fn_KR_knotsProblem i_t_cords_size i_t_cords_nibbled x1 x2 x3 = some q) : jk_MI l D jk_cl (jk_ty cI cR) Z mn_KR_knotsProblem (.code mn_KR_knotsProblem mb_KR_knotsProblem 4 (some .int) :: jk_WA) (jk_rm 1 21) [.ref a_t, jk_V x1, jk_V x2, jk_V x3] (wd_KR_knotsProblem cI a_t a_t_input a_t_output a_t_topics a_t_cords a_t_draftTopics a_t_draft a_t_saved a_t_history a_t_script a_t_cords_starts a_t_cords_depth a_t_cords_topic a_t_cords_value a_t_cords_nibbled a_t_cords_nibbled_k i_t_hasSaved i_t_reportedCode i_t_reportedOffset i_t_cords_clusters i_t_cords_size i_t_cords_nibbled) (wd_KR_knotsProblem cI a_t a_t_input a_t_output a_t_topics a_t_cords a_t_draftTopics a_t_draft a_t_saved a_t_history a_t_script a_t_cords_starts a_t_cords_depth a_t_cords_topic a_t_cords_value a_t_cords_nibbled a_t_cords_nibbled_k i_t_hasSaved i_t_reportedCode i_t_reportedOffset i_t_cords_clusters i_t_cords_size i_t_cords_nibbled) q := by
  intro sz
  refine jk_body (by decide +kernel) (fun p e s m args below meth c hsz hz hin C => ?_) (Nat.le_of_ble_eq_true rfl)
  subst hsz
  unfold fn_KR_knotsProblem at hf
  refine jk_aload_n C rd_KR_knotsProblem_0 (k := 0) rfl ?_
  refine jk_get C in_KR (ci := 10) rfl 3 (by decide) tm_434 0 rfl rfl rd_KR_knotsProblem_1 ?_
  refine jk_iload_n C rd_KR_knotsProblem_4 (k := 1) rfl ?_
  obtain ⟨q5, hq5, hf⟩ := jk_bind_h hf
  refine jk_callVi C hZ.1 hz (ct_Cords_has l D Z sq hZ cI cR a_t_cords a_t_cords_starts a_t_cords_depth a_t_cords_topic a_t_cords_value a_t_cords_nibbled i_t_cords_clusters i_t_cords_size x1 q5 hq5) tm_951 tm_952 tm_953 tm_6 tm_954 na_Cords_has ⟨Nat.le_of_ble_eq_true rfl, Nat.le_of_ble_eq_true rfl⟩ rfl [1] rfl rfl rfl (ws' := wd_KR_knotsProblem cI a_t a_t_input a_t_output a_t_topics a_t_cords a_t_draftTopics a_t_draft a_t_saved a_t_history a_t_script a_t_cords_starts a_t_cords_depth a_t_cords_topic a_t_cords_value a_t_cords_nibbled a_t_cords_nibbled_k i_t_hasSaved i_t_reportedCode i_t_reportedOffset i_t_cords_clusters i_t_cords_size i_t_cords_nibbled) rfl 1 5 rfl rfl rfl (st := []) rfl (Nat.le_of_ble_eq_true rfl) rd_KR_knotsProblem_5 ?_ ⟨Nat.le_of_ble_eq_true rfl, Nat.le_of_ble_eq_true rfl⟩
  refine jk_if_ne (tgt := 13) C rd_KR_knotsProblem_8 (by decide) hf (fun _ hf => ?_) (fun _ hf => ?_)
  · refine jk_iload_n C rd_KR_knotsProblem_13 (k := 2) rfl ?_
    obtain ⟨q14, hq14, hf⟩ := jk_bind_h hf
    refine jk_callSi C hZ.1 hz (ct_KR_isPlace l D Z sq hZ cI cR x2 q14 hq14) tm_1076 tm_1077 tm_1 tm_1078 na_KR_isPlace ⟨Nat.le_of_ble_eq_true rfl, Nat.le_of_ble_eq_true rfl⟩ rfl [] rfl rfl rfl (ws' := wd_KR_knotsProblem cI a_t a_t_input a_t_output a_t_topics a_t_cords a_t_draftTopics a_t_draft a_t_saved a_t_history a_t_script a_t_cords_starts a_t_cords_depth a_t_cords_topic a_t_cords_value a_t_cords_nibbled a_t_cords_nibbled_k i_t_hasSaved i_t_reportedCode i_t_reportedOffset i_t_cords_clusters i_t_cords_size i_t_cords_nibbled) rfl (st := []) rfl (Nat.le_of_ble_eq_true rfl) rd_KR_knotsProblem_14 ?_ ⟨Nat.le_of_ble_eq_true rfl, Nat.le_of_ble_eq_true rfl⟩
    refine jk_if_eq (tgt := 30) C rd_KR_knotsProblem_17 (by decide) hf (fun _ hf => ?_) (fun _ hf => ?_)
    · refine jk_iconst C rd_KR_knotsProblem_30 ?_
      cases hf
      exact jk_iret C rfl rd_KR_knotsProblem_31 rfl
    · refine jk_iload_n C rd_KR_knotsProblem_20 (k := 3) rfl ?_
      refine jk_if_lt (tgt := 30) C rd_KR_knotsProblem_21 (by decide) hf (fun _ hf => ?_) (fun _ hf => ?_)
      · refine jk_iconst C rd_KR_knotsProblem_30 ?_
        cases hf
        exact jk_iret C rfl rd_KR_knotsProblem_31 rfl
      · refine jk_iload_n C rd_KR_knotsProblem_24 (k := 3) rfl ?_
        refine jk_bipush C rd_KR_knotsProblem_25 (by decide +kernel) ?_
        refine jk_icmp_le (tgt := 32) C rd_KR_knotsProblem_27 (by decide) hf (fun _ hf => ?_) (fun _ hf => ?_)
        · refine jk_iload_n C rd_KR_knotsProblem_32 (k := 2) rfl ?_
          refine jk_aload_n C rd_KR_knotsProblem_33 (k := 0) rfl ?_
          refine jk_get C in_KR (ci := 10) rfl 3 (by decide) tm_434 0 rfl rfl rd_KR_knotsProblem_34 ?_
          refine jk_getN C in_Cords (ci := 5) rfl 6 (by decide) (jk_nw hZ hz tn_19) 1 rfl rfl rd_KR_knotsProblem_37 ?_
          refine jk_iload_n C rd_KR_knotsProblem_40 (k := 1) rfl ?_
          obtain ⟨q41, hq41, hf⟩ := jk_bind_h hf
          refine jk_callVi C hZ.1 hz (ct_Row_get l D Z sq hZ cI cR (n_t := 40) (Nat.le_of_ble_eq_true rfl) a_t_cords_nibbled a_t_cords_nibbled_k i_t_cords_nibbled x1 q41 hq41) tm_1033 tm_299 tm_300 tm_3 tm_301 na_Row_get ⟨Nat.le_of_ble_eq_true rfl, Nat.le_of_ble_eq_true rfl⟩ rfl [2, 3] rfl rfl rfl (ws' := wd_KR_knotsProblem cI a_t a_t_input a_t_output a_t_topics a_t_cords a_t_draftTopics a_t_draft a_t_saved a_t_history a_t_script a_t_cords_starts a_t_cords_depth a_t_cords_topic a_t_cords_value a_t_cords_nibbled a_t_cords_nibbled_k i_t_hasSaved i_t_reportedCode i_t_reportedOffset i_t_cords_clusters i_t_cords_size i_t_cords_nibbled) rfl 2 0 rfl rfl rfl (st := [jk_V x2]) rfl (Nat.le_of_ble_eq_true rfl) rd_KR_knotsProblem_41 ?_ ⟨Nat.le_of_ble_eq_true rfl, Nat.le_of_ble_eq_true rfl⟩
          refine jk_icmp_lt (tgt := 51) C rd_KR_knotsProblem_44 (by decide) hf (fun _ hf => ?_) (fun _ hf => ?_)
          · refine jk_iconst C rd_KR_knotsProblem_51 ?_
            cases hf
            exact jk_iret C rfl rd_KR_knotsProblem_52 rfl
          · refine jk_iconst C rd_KR_knotsProblem_47 ?_
            refine jk_goto (tgt := 52) C rd_KR_knotsProblem_48 (by decide) ?_
            cases hf
            exact jk_iret C rfl rd_KR_knotsProblem_52 rfl
        · refine jk_iconst C rd_KR_knotsProblem_30 ?_
          cases hf
          exact jk_iret C rfl rd_KR_knotsProblem_31 rfl
  · refine jk_iconst C rd_KR_knotsProblem_11 ?_
    cases hf
    exact jk_iret C rfl rd_KR_knotsProblem_12 rfl
def wd_KR_newCordProblem (cI : ClassId) (a_t a_t_input a_t_output a_t_topics a_t_cords a_t_draftTopics a_t_draft a_t_saved a_t_history a_t_script a_t_topics_names a_t_cords_starts a_t_cords_depth a_t_cords_topic a_t_cords_value a_t_cords_nibbled : Nat) (i_t_hasSaved : Int) (i_t_reportedCode : Int) (i_t_reportedOffset : Int) (i_t_topics_size : Int) (i_t_cords_clusters : Int) (i_t_cords_size : Int) : va_W := [(a_t, .inr (10, [.ref a_t_input, .ref a_t_output, .ref a_t_topics, .ref a_t_cords, .ref a_t_draftTopics, .ref a_t_draft, .ref a_t_saved, .ref a_t_history, .ref a_t_script, jk_V i_t_hasSaved, jk_V i_t_reportedCode, jk_V i_t_reportedOffset])), (a_t_topics, .inr (2, [jk_V i_t_topics_size, .ref a_t_topics_names])), (a_t_cords, .inr (5, [jk_V i_t_cords_clusters, jk_V i_t_cords_size, .ref a_t_cords_starts, .ref a_t_cords_depth, .ref a_t_cords_topic, .ref a_t_cords_value, .ref a_t_cords_nibbled]))]
set_option maxHeartbeats 4000000 in
set_option maxRecDepth 20000 in
theorem ct_KR_newCordProblem (l : Launch) (D : va_G) (Z : (Nat → Prop) → State → Heap → Prop) (sq : Nat → Nat) (hZ : jk_ZK Z sq) (cI cR : ClassId) (a_t a_t_input a_t_output a_t_topics a_t_cords a_t_draftTopics a_t_draft a_t_saved a_t_history a_t_script a_t_topics_names a_t_cords_starts a_t_cords_depth a_t_cords_topic a_t_cords_value a_t_cords_nibbled : Nat) (i_t_hasSaved : Int) (i_t_reportedCode : Int) (i_t_reportedOffset : Int) (i_t_topics_size : Int) (i_t_cords_clusters : Int) (i_t_cords_size : Int) (x1 : Int) (x2 : Int) (x3 : Int) (x4 : Int) (q : Int) (hf : fn_KR_newCordProblem i_t_topics_size i_t_cords_size x1 x2 x3 x4 = some q) : jk_MI l D jk_cl (jk_ty cI cR) Z mn_KR_newCordProblem (.code mn_KR_newCordProblem mb_KR_newCordProblem 5 (some .int) :: jk_WA) (jk_rm 1 21) [.ref a_t, jk_V x1, jk_V x2, jk_V x3, jk_V x4] (wd_KR_newCordProblem cI a_t a_t_input a_t_output a_t_topics a_t_cords a_t_draftTopics a_t_draft a_t_saved a_t_history a_t_script a_t_topics_names a_t_cords_starts a_t_cords_depth a_t_cords_topic a_t_cords_value a_t_cords_nibbled i_t_hasSaved i_t_reportedCode i_t_reportedOffset i_t_topics_size i_t_cords_clusters i_t_cords_size) (wd_KR_newCordProblem cI a_t a_t_input a_t_output a_t_topics a_t_cords a_t_draftTopics a_t_draft a_t_saved a_t_history a_t_script a_t_topics_names a_t_cords_starts a_t_cords_depth a_t_cords_topic a_t_cords_value a_t_cords_nibbled i_t_hasSaved i_t_reportedCode i_t_reportedOffset i_t_topics_size i_t_cords_clusters i_t_cords_size) q := by
  intro sz
  refine jk_body (by decide +kernel) (fun p e s m args below meth c hsz hz hin C => ?_) (Nat.le_of_ble_eq_true rfl)
  subst hsz
  unfold fn_KR_newCordProblem at hf
  refine jk_iload_n C rd_KR_newCordProblem_0 (k := 1) rfl ?_
  refine jk_if_eq (tgt := 15) C rd_KR_newCordProblem_1 (by decide) hf (fun _ hf => ?_) (fun _ hf => ?_)
  · refine jk_iconst C rd_KR_newCordProblem_15 ?_
    cases hf
    exact jk_iret C rfl rd_KR_newCordProblem_16 rfl
  · refine jk_aload_n C rd_KR_newCordProblem_4 (k := 0) rfl ?_
    refine jk_get C in_KR (ci := 10) rfl 2 (by decide) tm_433 0 rfl rfl rd_KR_newCordProblem_5 ?_
    refine jk_iload_n C rd_KR_newCordProblem_8 (k := 3) rfl ?_
    obtain ⟨q9, hq9, hf⟩ := jk_bind_h hf
    refine jk_callVi C hZ.1 hz (ct_Topics_has l D Z sq hZ cI cR a_t_topics a_t_topics_names i_t_topics_size x3 q9 hq9) tm_1211 tm_1212 tm_1213 tm_5 tm_1214 na_Topics_has ⟨Nat.le_of_ble_eq_true rfl, Nat.le_of_ble_eq_true rfl⟩ rfl [1] rfl rfl rfl (ws' := wd_KR_newCordProblem cI a_t a_t_input a_t_output a_t_topics a_t_cords a_t_draftTopics a_t_draft a_t_saved a_t_history a_t_script a_t_topics_names a_t_cords_starts a_t_cords_depth a_t_cords_topic a_t_cords_value a_t_cords_nibbled i_t_hasSaved i_t_reportedCode i_t_reportedOffset i_t_topics_size i_t_cords_clusters i_t_cords_size) rfl 1 2 rfl rfl rfl (st := []) rfl (Nat.le_of_ble_eq_true rfl) rd_KR_newCordProblem_9 ?_ ⟨Nat.le_of_ble_eq_true rfl, Nat.le_of_ble_eq_true rfl⟩
    refine jk_if_ne (tgt := 17) C rd_KR_newCordProblem_12 (by decide) hf (fun _ hf => ?_) (fun _ hf => ?_)
    · refine jk_iload C rd_KR_newCordProblem_17 (k := 4) rfl ?_
      obtain ⟨q19, hq19, hf⟩ := jk_bind_h hf
      refine jk_callSi C hZ.1 hz (ct_KR_isValue l D Z sq hZ cI cR x4 q19 hq19) tm_1215 tm_573 tm_1 tm_574 na_KR_isValue ⟨Nat.le_of_ble_eq_true rfl, Nat.le_of_ble_eq_true rfl⟩ rfl [] rfl rfl rfl (ws' := wd_KR_newCordProblem cI a_t a_t_input a_t_output a_t_topics a_t_cords a_t_draftTopics a_t_draft a_t_saved a_t_history a_t_script a_t_topics_names a_t_cords_starts a_t_cords_depth a_t_cords_topic a_t_cords_value a_t_cords_nibbled i_t_hasSaved i_t_reportedCode i_t_reportedOffset i_t_topics_size i_t_cords_clusters i_t_cords_size) rfl (st := []) rfl (Nat.le_of_ble_eq_true rfl) rd_KR_newCordProblem_19 ?_ ⟨Nat.le_of_ble_eq_true rfl, Nat.le_of_ble_eq_true rfl⟩
      refine jk_if_ne (tgt := 27) C rd_KR_newCordProblem_22 (by decide) hf (fun _ hf => ?_) (fun _ hf => ?_)
      · refine jk_iload_n C rd_KR_newCordProblem_27 (k := 2) rfl ?_
        refine jk_if_eq (tgt := 47) C rd_KR_newCordProblem_28 (by decide) hf (fun _ hf => ?_) (fun _ hf => ?_)
        · refine jk_iconst C rd_KR_newCordProblem_47 ?_
          cases hf
          exact jk_iret C rfl rd_KR_newCordProblem_48 rfl
        · refine jk_aload_n C rd_KR_newCordProblem_31 (k := 0) rfl ?_
          refine jk_get C in_KR (ci := 10) rfl 3 (by decide) tm_434 0 rfl rfl rd_KR_newCordProblem_32 ?_
          refine jk_getN C in_Cords (ci := 5) rfl 1 (by decide) (jk_nw hZ hz tn_12) 2 rfl rfl rd_KR_newCordProblem_35 ?_
          refine jk_bipush C rd_KR_newCordProblem_38 (by decide +kernel) ?_
          refine jk_icmp_ge (tgt := 47) C rd_KR_newCordProblem_40 (by decide) hf (fun _ hf => ?_) (fun _ hf => ?_)
          · refine jk_iconst C rd_KR_newCordProblem_47 ?_
            cases hf
            exact jk_iret C rfl rd_KR_newCordProblem_48 rfl
          · refine jk_iconst C rd_KR_newCordProblem_43 ?_
            refine jk_goto (tgt := 48) C rd_KR_newCordProblem_44 (by decide) ?_
            cases hf
            exact jk_iret C rfl rd_KR_newCordProblem_48 rfl
      · refine jk_iconst C rd_KR_newCordProblem_25 ?_
        cases hf
        exact jk_iret C rfl rd_KR_newCordProblem_26 rfl
    · refine jk_iconst C rd_KR_newCordProblem_15 ?_
      cases hf
      exact jk_iret C rfl rd_KR_newCordProblem_16 rfl
def wd_KR_nibbleProblem (cI : ClassId) (a_t a_t_input a_t_output a_t_topics a_t_cords a_t_draftTopics a_t_draft a_t_saved a_t_history a_t_script a_t_cords_starts a_t_cords_depth a_t_cords_topic a_t_cords_value a_t_cords_nibbled a_t_cords_nibbled_k : Nat) (i_t_hasSaved : Int) (i_t_reportedCode : Int) (i_t_reportedOffset : Int) (i_t_cords_clusters : Int) (i_t_cords_size : Int) (i_t_cords_nibbled : (Int → Int)) : va_W := [(a_t, .inr (10, [.ref a_t_input, .ref a_t_output, .ref a_t_topics, .ref a_t_cords, .ref a_t_draftTopics, .ref a_t_draft, .ref a_t_saved, .ref a_t_history, .ref a_t_script, jk_V i_t_hasSaved, jk_V i_t_reportedCode, jk_V i_t_reportedOffset])), (a_t_cords, .inr (5, [jk_V i_t_cords_clusters, jk_V i_t_cords_size, .ref a_t_cords_starts, .ref a_t_cords_depth, .ref a_t_cords_topic, .ref a_t_cords_value, .ref a_t_cords_nibbled])), (a_t_cords_nibbled, .inr (0, [.ref a_t_cords_nibbled_k])), (a_t_cords_nibbled_k, jk_W cI 40 i_t_cords_nibbled)]
set_option maxHeartbeats 4000000 in
set_option maxRecDepth 20000 in
theorem ct_KR_nibbleProblem (l : Launch) (D : va_G) (Z : (Nat → Prop) → State → Heap → Prop) (sq : Nat → Nat) (hZ : jk_ZK Z sq) (cI cR : ClassId) (a_t a_t_input a_t_output a_t_topics a_t_cords a_t_draftTopics a_t_draft a_t_saved a_t_history a_t_script a_t_cords_starts a_t_cords_depth a_t_cords_topic a_t_cords_value a_t_cords_nibbled a_t_cords_nibbled_k : Nat) (i_t_hasSaved : Int) (i_t_reportedCode : Int) (i_t_reportedOffset : Int) (i_t_cords_clusters : Int) (i_t_cords_size : Int) (i_t_cords_nibbled : (Int → Int)) (x1 : Int) (x2 : Int) (q : Int) (hf : fn_KR_nibbleProblem i_t_cords_size i_t_cords_nibbled x1 x2 = some q) : jk_MI l D jk_cl (jk_ty cI cR) Z mn_KR_nibbleProblem (.code mn_KR_nibbleProblem mb_KR_nibbleProblem 3 (some .int) :: jk_WA) (jk_rm 1 21) [.ref a_t, jk_V x1, jk_V x2] (wd_KR_nibbleProblem cI a_t a_t_input a_t_output a_t_topics a_t_cords a_t_draftTopics a_t_draft a_t_saved a_t_history a_t_script a_t_cords_starts a_t_cords_depth a_t_cords_topic a_t_cords_value a_t_cords_nibbled a_t_cords_nibbled_k i_t_hasSaved i_t_reportedCode i_t_reportedOffset i_t_cords_clusters i_t_cords_size i_t_cords_nibbled) (wd_KR_nibbleProblem cI a_t a_t_input a_t_output a_t_topics a_t_cords a_t_draftTopics a_t_draft a_t_saved a_t_history a_t_script a_t_cords_starts a_t_cords_depth a_t_cords_topic a_t_cords_value a_t_cords_nibbled a_t_cords_nibbled_k i_t_hasSaved i_t_reportedCode i_t_reportedOffset i_t_cords_clusters i_t_cords_size i_t_cords_nibbled) q := by
  intro sz
  refine jk_body (by decide +kernel) (fun p e s m args below meth c hsz hz hin C => ?_) (Nat.le_of_ble_eq_true rfl)
  subst hsz
  unfold fn_KR_nibbleProblem at hf
  refine jk_aload_n C rd_KR_nibbleProblem_0 (k := 0) rfl ?_
  refine jk_get C in_KR (ci := 10) rfl 3 (by decide) tm_434 0 rfl rfl rd_KR_nibbleProblem_1 ?_
  refine jk_iload_n C rd_KR_nibbleProblem_4 (k := 1) rfl ?_
  obtain ⟨q5, hq5, hf⟩ := jk_bind_h hf
  refine jk_callVi C hZ.1 hz (ct_Cords_has l D Z sq hZ cI cR a_t_cords a_t_cords_starts a_t_cords_depth a_t_cords_topic a_t_cords_value a_t_cords_nibbled i_t_cords_clusters i_t_cords_size x1 q5 hq5) tm_951 tm_952 tm_953 tm_6 tm_954 na_Cords_has ⟨Nat.le_of_ble_eq_true rfl, Nat.le_of_ble_eq_true rfl⟩ rfl [1] rfl rfl rfl (ws' := wd_KR_nibbleProblem cI a_t a_t_input a_t_output a_t_topics a_t_cords a_t_draftTopics a_t_draft a_t_saved a_t_history a_t_script a_t_cords_starts a_t_cords_depth a_t_cords_topic a_t_cords_value a_t_cords_nibbled a_t_cords_nibbled_k i_t_hasSaved i_t_reportedCode i_t_reportedOffset i_t_cords_clusters i_t_cords_size i_t_cords_nibbled) rfl 1 5 rfl rfl rfl (st := []) rfl (Nat.le_of_ble_eq_true rfl) rd_KR_nibbleProblem_5 ?_ ⟨Nat.le_of_ble_eq_true rfl, Nat.le_of_ble_eq_true rfl⟩
  refine jk_if_ne (tgt := 13) C rd_KR_nibbleProblem_8 (by decide) hf (fun _ hf => ?_) (fun _ hf => ?_)
  · refine jk_iload_n C rd_KR_nibbleProblem_13 (k := 2) rfl ?_
    refine jk_iconst C rd_KR_nibbleProblem_14 ?_
    refine jk_icmp_lt (tgt := 23) C rd_KR_nibbleProblem_15 (by decide) hf (fun _ hf => ?_) (fun _ hf => ?_)
    · refine jk_iconst C rd_KR_nibbleProblem_23 ?_
      cases hf
      exact jk_iret C rfl rd_KR_nibbleProblem_24 rfl
    · refine jk_iload_n C rd_KR_nibbleProblem_18 (k := 2) rfl ?_
      refine jk_iconst C rd_KR_nibbleProblem_19 ?_
      refine jk_icmp_le (tgt := 25) C rd_KR_nibbleProblem_20 (by decide) hf (fun _ hf => ?_) (fun _ hf => ?_)
      · refine jk_iload_n C rd_KR_nibbleProblem_25 (k := 2) rfl ?_
        refine jk_aload_n C rd_KR_nibbleProblem_26 (k := 0) rfl ?_
        refine jk_get C in_KR (ci := 10) rfl 3 (by decide) tm_434 0 rfl rfl rd_KR_nibbleProblem_27 ?_
        refine jk_getN C in_Cords (ci := 5) rfl 6 (by decide) (jk_nw hZ hz tn_19) 1 rfl rfl rd_KR_nibbleProblem_30 ?_
        refine jk_iload_n C rd_KR_nibbleProblem_33 (k := 1) rfl ?_
        obtain ⟨q34, hq34, hf⟩ := jk_bind_h hf
        refine jk_callVi C hZ.1 hz (ct_Row_get l D Z sq hZ cI cR (n_t := 40) (Nat.le_of_ble_eq_true rfl) a_t_cords_nibbled a_t_cords_nibbled_k i_t_cords_nibbled x1 q34 hq34) tm_1033 tm_299 tm_300 tm_3 tm_301 na_Row_get ⟨Nat.le_of_ble_eq_true rfl, Nat.le_of_ble_eq_true rfl⟩ rfl [2, 3] rfl rfl rfl (ws' := wd_KR_nibbleProblem cI a_t a_t_input a_t_output a_t_topics a_t_cords a_t_draftTopics a_t_draft a_t_saved a_t_history a_t_script a_t_cords_starts a_t_cords_depth a_t_cords_topic a_t_cords_value a_t_cords_nibbled a_t_cords_nibbled_k i_t_hasSaved i_t_reportedCode i_t_reportedOffset i_t_cords_clusters i_t_cords_size i_t_cords_nibbled) rfl 2 0 rfl rfl rfl (st := [jk_V x2]) rfl (Nat.le_of_ble_eq_true rfl) rd_KR_nibbleProblem_34 ?_ ⟨Nat.le_of_ble_eq_true rfl, Nat.le_of_ble_eq_true rfl⟩
        refine jk_icmp_lt (tgt := 44) C rd_KR_nibbleProblem_37 (by decide) hf (fun _ hf => ?_) (fun _ hf => ?_)
        · refine jk_iconst C rd_KR_nibbleProblem_44 ?_
          cases hf
          exact jk_iret C rfl rd_KR_nibbleProblem_45 rfl
        · refine jk_iconst C rd_KR_nibbleProblem_40 ?_
          refine jk_goto (tgt := 45) C rd_KR_nibbleProblem_41 (by decide) ?_
          cases hf
          exact jk_iret C rfl rd_KR_nibbleProblem_45 rfl
      · refine jk_iconst C rd_KR_nibbleProblem_23 ?_
        cases hf
        exact jk_iret C rfl rd_KR_nibbleProblem_24 rfl
  · refine jk_iconst C rd_KR_nibbleProblem_11 ?_
    cases hf
    exact jk_iret C rfl rd_KR_nibbleProblem_12 rfl
