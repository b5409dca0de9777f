theorem rd_Cords_clusterAt_0 : decode mb_Cords_clusterAt 0 = .ok (.iconst 0, 1) := by decide +kernel
theorem rd_Cords_clusterAt_1 : decode mb_Cords_clusterAt 1 = .ok (.istore_n 2, 1) := by decide +kernel
theorem rd_Cords_clusterAt_2 : decode mb_Cords_clusterAt 2 = .ok (.iconst 1, 1) := by decide +kernel
theorem rd_Cords_clusterAt_3 : decode mb_Cords_clusterAt 3 = .ok (.istore_n 3, 1) := by decide +kernel
theorem rd_Cords_clusterAt_4 : decode mb_Cords_clusterAt 4 = .ok (.iload_n 3, 1) := by decide +kernel
theorem rd_Cords_clusterAt_5 : decode mb_Cords_clusterAt 5 = .ok (.aload_n 0, 1) := by decide +kernel
theorem rd_Cords_clusterAt_6 : decode mb_Cords_clusterAt 6 = .ok (.getfield 9, 3) := by decide +kernel
theorem rd_Cords_clusterAt_9 : decode mb_Cords_clusterAt 9 = .ok (.if_icmp .ge 23, 3) := by decide +kernel
theorem rd_Cords_clusterAt_12 : decode mb_Cords_clusterAt 12 = .ok (.aload_n 0, 1) := by decide +kernel
theorem rd_Cords_clusterAt_13 : decode mb_Cords_clusterAt 13 = .ok (.getfield 23, 3) := by decide +kernel
theorem rd_Cords_clusterAt_16 : decode mb_Cords_clusterAt 16 = .ok (.iload_n 3, 1) := by decide +kernel
theorem rd_Cords_clusterAt_17 : decode mb_Cords_clusterAt 17 = .ok (.invokevirtual 43, 3) := by decide +kernel
theorem rd_Cords_clusterAt_20 : decode mb_Cords_clusterAt 20 = .ok (.iload_n 1, 1) := by decide +kernel
theorem rd_Cords_clusterAt_21 : decode mb_Cords_clusterAt 21 = .ok (.if_icmp .gt 5, 3) := by decide +kernel
theorem rd_Cords_clusterAt_24 : decode mb_Cords_clusterAt 24 = .ok (.iload_n 3, 1) := by decide +kernel
theorem rd_Cords_clusterAt_25 : decode mb_Cords_clusterAt 25 = .ok (.istore_n 2, 1) := by decide +kernel
theorem rd_Cords_clusterAt_26 : decode mb_Cords_clusterAt 26 = .ok (.iinc 3 1, 3) := by decide +kernel
theorem rd_Cords_clusterAt_29 : decode mb_Cords_clusterAt 29 = .ok (.goto (-25), 3) := by decide +kernel
theorem rd_Cords_clusterAt_32 : decode mb_Cords_clusterAt 32 = .ok (.iload_n 2, 1) := by decide +kernel
theorem rd_Cords_clusterAt_33 : decode mb_Cords_clusterAt 33 = .ok (.ireturn, 1) := by decide +kernel
theorem rd_Cords_end_0 : decode mb_Cords_end 0 = .ok (.aload_n 0, 1) := by decide +kernel
theorem rd_Cords_end_1 : decode mb_Cords_end 1 = .ok (.getfield 23, 3) := by decide +kernel
theorem rd_Cords_end_4 : decode mb_Cords_end 4 = .ok (.iload_n 1, 1) := by decide +kernel
theorem rd_Cords_end_5 : decode mb_Cords_end 5 = .ok (.iconst 1, 1) := by decide +kernel
theorem rd_Cords_end_6 : decode mb_Cords_end 6 = .ok (.iadd, 1) := by decide +kernel
theorem rd_Cords_end_7 : decode mb_Cords_end 7 = .ok (.invokevirtual 43, 3) := by decide +kernel
theorem rd_Cords_end_10 : decode mb_Cords_end 10 = .ok (.ireturn, 1) := by decide +kernel
theorem rd_Cords_start_0 : decode mb_Cords_start 0 = .ok (.aload_n 0, 1) := by decide +kernel
theorem rd_Cords_start_1 : decode mb_Cords_start 1 = .ok (.getfield 23, 3) := by decide +kernel
theorem rd_Cords_start_4 : decode mb_Cords_start 4 = .ok (.iload_n 1, 1) := by decide +kernel
theorem rd_Cords_start_5 : decode mb_Cords_start 5 = .ok (.invokevirtual 43, 3) := by decide +kernel
theorem rd_Cords_start_8 : decode mb_Cords_start 8 = .ok (.ireturn, 1) := by decide +kernel
theorem rd_Cords_branchEnd_0 : decode mb_Cords_branchEnd 0 = .ok (.iload_n 1, 1) := by decide +kernel
theorem rd_Cords_branchEnd_1 : decode mb_Cords_branchEnd 1 = .ok (.iconst 1, 1) := by decide +kernel
theorem rd_Cords_branchEnd_2 : decode mb_Cords_branchEnd 2 = .ok (.iadd, 1) := by decide +kernel
theorem rd_Cords_branchEnd_3 : decode mb_Cords_branchEnd 3 = .ok (.istore_n 2, 1) := by decide +kernel
theorem rd_Cords_branchEnd_4 : decode mb_Cords_branchEnd 4 = .ok (.aload_n 0, 1) := by decide +kernel
theorem rd_Cords_branchEnd_5 : decode mb_Cords_branchEnd 5 = .ok (.getfield 27, 3) := by decide +kernel
theorem rd_Cords_branchEnd_8 : decode mb_Cords_branchEnd 8 = .ok (.iload_n 1, 1) := by decide +kernel
theorem rd_Cords_branchEnd_9 : decode mb_Cords_branchEnd 9 = .ok (.invokevirtual 43, 3) := by decide +kernel
theorem rd_Cords_branchEnd_12 : decode mb_Cords_branchEnd 12 = .ok (.ifCond .ne 5, 3) := by decide +kernel
theorem rd_Cords_branchEnd_15 : decode mb_Cords_branchEnd 15 = .ok (.iload_n 2, 1) := by decide +kernel
theorem rd_Cords_branchEnd_16 : decode mb_Cords_branchEnd 16 = .ok (.ireturn, 1) := by decide +kernel
theorem rd_Cords_branchEnd_17 : decode mb_Cords_branchEnd 17 = .ok (.iload_n 2, 1) := by decide +kernel
theorem rd_Cords_branchEnd_18 : decode mb_Cords_branchEnd 18 = .ok (.aload_n 0, 1) := by decide +kernel
theorem rd_Cords_branchEnd_19 : decode mb_Cords_branchEnd 19 = .ok (.getfield 15, 3) := by decide +kernel
theorem rd_Cords_branchEnd_22 : decode mb_Cords_branchEnd 22 = .ok (.if_icmp .ge 28, 3) := by decide +kernel
theorem rd_Cords_branchEnd_25 : decode mb_Cords_branchEnd 25 = .ok (.aload_n 0, 1) := by decide +kernel
theorem rd_Cords_branchEnd_26 : decode mb_Cords_branchEnd 26 = .ok (.getfield 27, 3) := by decide +kernel
theorem rd_Cords_branchEnd_29 : decode mb_Cords_branchEnd 29 = .ok (.iload_n 2, 1) := by decide +kernel
theorem rd_Cords_branchEnd_30 : decode mb_Cords_branchEnd 30 = .ok (.invokevirtual 43, 3) := by decide +kernel
theorem rd_Cords_branchEnd_33 : decode mb_Cords_branchEnd 33 = .ok (.aload_n 0, 1) := by decide +kernel
theorem rd_Cords_branchEnd_34 : decode mb_Cords_branchEnd 34 = .ok (.getfield 27, 3) := by decide +kernel
theorem rd_Cords_branchEnd_37 : decode mb_Cords_branchEnd 37 = .ok (.iload_n 1, 1) := by decide +kernel
theorem rd_Cords_branchEnd_38 : decode mb_Cords_branchEnd 38 = .ok (.invokevirtual 43, 3) := by decide +kernel
theorem rd_Cords_branchEnd_41 : decode mb_Cords_branchEnd 41 = .ok (.if_icmp .le 9, 3) := by decide +kernel
theorem rd_Cords_branchEnd_44 : decode mb_Cords_branchEnd 44 = .ok (.iinc 2 1, 3) := by decide +kernel
theorem rd_Cords_branchEnd_47 : decode mb_Cords_branchEnd 47 = .ok (.goto (-30), 3) := by decide +kernel
theorem rd_Cords_branchEnd_50 : decode mb_Cords_branchEnd 50 = .ok (.iload_n 2, 1) := by decide +kernel
theorem rd_Cords_branchEnd_51 : decode mb_Cords_branchEnd 51 = .ok (.ireturn, 1) := by decide +kernel
theorem rd_Cords_highestSum_0 : decode mb_Cords_highestSum 0 = .ok (.iconst 0, 1) := by decide +kernel
theorem rd_Cords_highestSum_1 : decode mb_Cords_highestSum 1 = .ok (.istore_n 3, 1) := by decide +kernel
theorem rd_Cords_highestSum_2 : decode mb_Cords_highestSum 2 = .ok (.iload_n 1, 1) := by decide +kernel
theorem rd_Cords_highestSum_3 : decode mb_Cords_highestSum 3 = .ok (.istore 4, 2) := by decide +kernel
theorem rd_Cords_highestSum_5 : decode mb_Cords_highestSum 5 = .ok (.iload 4, 2) := by decide +kernel
theorem rd_Cords_highestSum_7 : decode mb_Cords_highestSum 7 = .ok (.iload_n 2, 1) := by decide +kernel
theorem rd_Cords_highestSum_8 : decode mb_Cords_highestSum 8 = .ok (.if_icmp .ge 36, 3) := by decide +kernel
theorem rd_Cords_highestSum_11 : decode mb_Cords_highestSum 11 = .ok (.iload_n 3, 1) := by decide +kernel
theorem rd_Cords_highestSum_12 : decode mb_Cords_highestSum 12 = .ok (.aload_n 0, 1) := by decide +kernel
theorem rd_Cords_highestSum_13 : decode mb_Cords_highestSum 13 = .ok (.getfield 33, 3) := by decide +kernel
theorem rd_Cords_highestSum_16 : decode mb_Cords_highestSum 16 = .ok (.iload 4, 2) := by decide +kernel
theorem rd_Cords_highestSum_18 : decode mb_Cords_highestSum 18 = .ok (.invokevirtual 43, 3) := by decide +kernel
theorem rd_Cords_highestSum_21 : decode mb_Cords_highestSum 21 = .ok (.aload_n 0, 1) := by decide +kernel
theorem rd_Cords_highestSum_22 : decode mb_Cords_highestSum 22 = .ok (.getfield 36, 3) := by decide +kernel
theorem rd_Cords_highestSum_25 : decode mb_Cords_highestSum 25 = .ok (.iload 4, 2) := by decide +kernel
theorem rd_Cords_highestSum_27 : decode mb_Cords_highestSum 27 = .ok (.invokevirtual 43, 3) := by decide +kernel
theorem rd_Cords_highestSum_30 : decode mb_Cords_highestSum 30 = .ok (.invokestatic 54, 3) := by decide +kernel
theorem rd_Cords_highestSum_33 : decode mb_Cords_highestSum 33 = .ok (.iadd, 1) := by decide +kernel
theorem rd_Cords_highestSum_34 : decode mb_Cords_highestSum 34 = .ok (.iconst 1, 1) := by decide +kernel
theorem rd_Cords_highestSum_35 : decode mb_Cords_highestSum 35 = .ok (.isub, 1) := by decide +kernel
theorem rd_Cords_highestSum_36 : decode mb_Cords_highestSum 36 = .ok (.iadd, 1) := by decide +kernel
theorem rd_Cords_highestSum_37 : decode mb_Cords_highestSum 37 = .ok (.istore_n 3, 1) := by decide +kernel
theorem rd_Cords_highestSum_38 : decode mb_Cords_highestSum 38 = .ok (.iinc 4 1, 3) := by decide +kernel
theorem rd_Cords_highestSum_41 : decode mb_Cords_highestSum 41 = .ok (.goto (-36), 3) := by decide +kernel
theorem rd_Cords_highestSum_44 : decode mb_Cords_highestSum 44 = .ok (.iload_n 3, 1) := by decide +kernel
theorem rd_Cords_highestSum_45 : decode mb_Cords_highestSum 45 = .ok (.ireturn, 1) := by decide +kernel
theorem rd_Cords_lowestSum_0 : decode mb_Cords_lowestSum 0 = .ok (.iconst 0, 1) := by decide +kernel
theorem rd_Cords_lowestSum_1 : decode mb_Cords_lowestSum 1 = .ok (.istore_n 3, 1) := by decide +kernel
theorem rd_Cords_lowestSum_2 : decode mb_Cords_lowestSum 2 = .ok (.iload_n 1, 1) := by decide +kernel
theorem rd_Cords_lowestSum_3 : decode mb_Cords_lowestSum 3 = .ok (.istore 4, 2) := by decide +kernel
theorem rd_Cords_lowestSum_5 : decode mb_Cords_lowestSum 5 = .ok (.iload 4, 2) := by decide +kernel
theorem rd_Cords_lowestSum_7 : decode mb_Cords_lowestSum 7 = .ok (.iload_n 2, 1) := by decide +kernel
theorem rd_Cords_lowestSum_8 : decode mb_Cords_lowestSum 8 = .ok (.if_icmp .ge 21, 3) := by decide +kernel
theorem rd_Cords_lowestSum_11 : decode mb_Cords_lowestSum 11 = .ok (.iload_n 3, 1) := by decide +kernel
theorem rd_Cords_lowestSum_12 : decode mb_Cords_lowestSum 12 = .ok (.aload_n 0, 1) := by decide +kernel
theorem rd_Cords_lowestSum_13 : decode mb_Cords_lowestSum 13 = .ok (.getfield 33, 3) := by decide +kernel
theorem rd_Cords_lowestSum_16 : decode mb_Cords_lowestSum 16 = .ok (.iload 4, 2) := by decide +kernel
theorem rd_Cords_lowestSum_18 : decode mb_Cords_lowestSum 18 = .ok (.invokevirtual 43, 3) := by decide +kernel
theorem rd_Cords_lowestSum_21 : decode mb_Cords_lowestSum 21 = .ok (.iadd, 1) := by decide +kernel
theorem rd_Cords_lowestSum_22 : decode mb_Cords_lowestSum 22 = .ok (.istore_n 3, 1) := by decide +kernel
theorem rd_Cords_lowestSum_23 : decode mb_Cords_lowestSum 23 = .ok (.iinc 4 1, 3) := by decide +kernel
theorem rd_Cords_lowestSum_26 : decode mb_Cords_lowestSum 26 = .ok (.goto (-21), 3) := by decide +kernel
theorem rd_Cords_lowestSum_29 : decode mb_Cords_lowestSum 29 = .ok (.iload_n 3, 1) := by decide +kernel
theorem rd_Cords_lowestSum_30 : decode mb_Cords_lowestSum 30 = .ok (.ireturn, 1) := by decide +kernel
theorem rd_Cords_nibbledAmong_0 : decode mb_Cords_nibbledAmong 0 = .ok (.iconst 0, 1) := by decide +kernel
theorem rd_Cords_nibbledAmong_1 : decode mb_Cords_nibbledAmong 1 = .ok (.istore_n 3, 1) := by decide +kernel
theorem rd_Cords_nibbledAmong_2 : decode mb_Cords_nibbledAmong 2 = .ok (.iload_n 1, 1) := by decide +kernel
theorem rd_Cords_nibbledAmong_3 : decode mb_Cords_nibbledAmong 3 = .ok (.istore 4, 2) := by decide +kernel
theorem rd_Cords_nibbledAmong_5 : decode mb_Cords_nibbledAmong 5 = .ok (.iload 4, 2) := by decide +kernel
theorem rd_Cords_nibbledAmong_7 : decode mb_Cords_nibbledAmong 7 = .ok (.iload_n 2, 1) := by decide +kernel
theorem rd_Cords_nibbledAmong_8 : decode mb_Cords_nibbledAmong 8 = .ok (.if_icmp .ge 24, 3) := by decide +kernel
theorem rd_Cords_nibbledAmong_11 : decode mb_Cords_nibbledAmong 11 = .ok (.aload_n 0, 1) := by decide +kernel
theorem rd_Cords_nibbledAmong_12 : decode mb_Cords_nibbledAmong 12 = .ok (.getfield 36, 3) := by decide +kernel
theorem rd_Cords_nibbledAmong_15 : decode mb_Cords_nibbledAmong 15 = .ok (.iload 4, 2) := by decide +kernel
theorem rd_Cords_nibbledAmong_17 : decode mb_Cords_nibbledAmong 17 = .ok (.invokevirtual 43, 3) := by decide +kernel
theorem rd_Cords_nibbledAmong_20 : decode mb_Cords_nibbledAmong 20 = .ok (.ifCond .le 6, 3) := by decide +kernel
theorem rd_Cords_nibbledAmong_23 : decode mb_Cords_nibbledAmong 23 = .ok (.iinc 3 1, 3) := by decide +kernel
theorem rd_Cords_nibbledAmong_26 : decode mb_Cords_nibbledAmong 26 = .ok (.iinc 4 1, 3) := by decide +kernel
theorem rd_Cords_nibbledAmong_29 : decode mb_Cords_nibbledAmong 29 = .ok (.goto (-24), 3) := by decide +kernel
theorem rd_Cords_nibbledAmong_32 : decode mb_Cords_nibbledAmong 32 = .ok (.iload_n 3, 1) := by decide +kernel
theorem rd_Cords_nibbledAmong_33 : decode mb_Cords_nibbledAmong 33 = .ok (.ireturn, 1) := by decide +kernel
theorem rd_Cords_pendantStart_0 : decode mb_Cords_pendantStart 0 = .ok (.aload_n 0, 1) := by decide +kernel
theorem rd_Cords_pendantStart_1 : decode mb_Cords_pendantStart 1 = .ok (.getfield 23, 3) := by decide +kernel
theorem rd_Cords_pendantStart_4 : decode mb_Cords_pendantStart 4 = .ok (.iload_n 1, 1) := by decide +kernel
theorem rd_Cords_pendantStart_5 : decode mb_Cords_pendantStart 5 = .ok (.invokevirtual 43, 3) := by decide +kernel
theorem rd_Cords_pendantStart_8 : decode mb_Cords_pendantStart 8 = .ok (.istore_n 2, 1) := by decide +kernel
theorem rd_Cords_pendantStart_9 : decode mb_Cords_pendantStart 9 = .ok (.iload_n 2, 1) := by decide +kernel
theorem rd_Cords_pendantStart_10 : decode mb_Cords_pendantStart 10 = .ok (.aload_n 0, 1) := by decide +kernel
theorem rd_Cords_pendantStart_11 : decode mb_Cords_pendantStart 11 = .ok (.getfield 23, 3) := by decide +kernel
theorem rd_Cords_pendantStart_14 : decode mb_Cords_pendantStart 14 = .ok (.iload_n 1, 1) := by decide +kernel
theorem rd_Cords_pendantStart_15 : decode mb_Cords_pendantStart 15 = .ok (.iconst 1, 1) := by decide +kernel
theorem rd_Cords_pendantStart_16 : decode mb_Cords_pendantStart 16 = .ok (.iadd, 1) := by decide +kernel
theorem rd_Cords_pendantStart_17 : decode mb_Cords_pendantStart 17 = .ok (.invokevirtual 43, 3) := by decide +kernel
theorem rd_Cords_pendantStart_20 : decode mb_Cords_pendantStart 20 = .ok (.if_icmp .ge 20, 3) := by decide +kernel
theorem rd_Cords_pendantStart_23 : decode mb_Cords_pendantStart 23 = .ok (.aload_n 0, 1) := by decide +kernel
theorem rd_Cords_pendantStart_24 : decode mb_Cords_pendantStart 24 = .ok (.getfield 27, 3) := by decide +kernel
theorem rd_Cords_pendantStart_27 : decode mb_Cords_pendantStart 27 = .ok (.iload_n 2, 1) := by decide +kernel
theorem rd_Cords_pendantStart_28 : decode mb_Cords_pendantStart 28 = .ok (.invokevirtual 43, 3) := by decide +kernel
theorem rd_Cords_pendantStart_31 : decode mb_Cords_pendantStart 31 = .ok (.ifCond .ne 9, 3) := by decide +kernel
theorem rd_Cords_pendantStart_34 : decode mb_Cords_pendantStart 34 = .ok (.iload_n 2, 1) := by decide +kernel
theorem rd_Cords_pendantStart_35 : decode mb_Cords_pendantStart 35 = .ok (.iconst 1, 1) := by decide +kernel
theorem rd_Cords_pendantStart_36 : decode mb_Cords_pendantStart 36 = .ok (.iadd, 1) := by decide +kernel
theorem rd_Cords_pendantStart_37 : decode mb_Cords_pendantStart 37 = .ok (.goto 4, 3) := by decide +kernel
theorem rd_Cords_pendantStart_40 : decode mb_Cords_pendantStart 40 = .ok (.iload_n 2, 1) := by decide +kernel
theorem rd_Cords_pendantStart_41 : decode mb_Cords_pendantStart 41 = .ok (.ireturn, 1) := by decide +kernel
theorem rd_Cords_hasKnownSum_0 : decode mb_Cords_hasKnownSum 0 = .ok (.aload_n 0, 1) := by decide +kernel
theorem rd_Cords_hasKnownSum_1 : decode mb_Cords_hasKnownSum 1 = .ok (.aload_n 0, 1) := by decide +kernel
theorem rd_Cords_hasKnownSum_2 : decode mb_Cords_hasKnownSum 2 = .ok (.iload_n 1, 1) := by decide +kernel
theorem rd_Cords_hasKnownSum_3 : decode mb_Cords_hasKnownSum 3 = .ok (.invokevirtual 47, 3) := by decide +kernel
theorem rd_Cords_hasKnownSum_6 : decode mb_Cords_hasKnownSum 6 = .ok (.aload_n 0, 1) := by decide +kernel
theorem rd_Cords_hasKnownSum_7 : decode mb_Cords_hasKnownSum 7 = .ok (.iload_n 1, 1) := by decide +kernel
theorem rd_Cords_hasKnownSum_8 : decode mb_Cords_hasKnownSum 8 = .ok (.invokevirtual 59, 3) := by decide +kernel
theorem rd_Cords_hasKnownSum_11 : decode mb_Cords_hasKnownSum 11 = .ok (.invokevirtual 62, 3) := by decide +kernel
theorem rd_Cords_hasKnownSum_14 : decode mb_Cords_hasKnownSum 14 = .ok (.ifCond .ne 7, 3) := by decide +kernel
theorem rd_Cords_hasKnownSum_17 : decode mb_Cords_hasKnownSum 17 = .ok (.iconst 1, 1) := by decide +kernel
theorem rd_Cords_hasKnownSum_18 : decode mb_Cords_hasKnownSum 18 = .ok (.goto 4, 3) := by decide +kernel
theorem rd_Cords_hasKnownSum_21 : decode mb_Cords_hasKnownSum 21 = .ok (.iconst 0, 1) := by decide +kernel
theorem rd_Cords_hasKnownSum_22 : decode mb_Cords_hasKnownSum 22 = .ok (.ireturn, 1) := by decide +kernel
theorem rd_Cords_sum_0 : decode mb_Cords_sum 0 = .ok (.aload_n 0, 1) := by decide +kernel
theorem rd_Cords_sum_1 : decode mb_Cords_sum 1 = .ok (.aload_n 0, 1) := by decide +kernel
theorem rd_Cords_sum_2 : decode mb_Cords_sum 2 = .ok (.iload_n 1, 1) := by decide +kernel
theorem rd_Cords_sum_3 : decode mb_Cords_sum 3 = .ok (.invokevirtual 47, 3) := by decide +kernel
theorem rd_Cords_sum_6 : decode mb_Cords_sum 6 = .ok (.aload_n 0, 1) := by decide +kernel
theorem rd_Cords_sum_7 : decode mb_Cords_sum 7 = .ok (.iload_n 1, 1) := by decide +kernel
theorem rd_Cords_sum_8 : decode mb_Cords_sum 8 = .ok (.invokevirtual 59, 3) := by decide +kernel
theorem rd_Cords_sum_11 : decode mb_Cords_sum 11 = .ok (.invokevirtual 66, 3) := by decide +kernel
theorem rd_Cords_sum_14 : decode mb_Cords_sum 14 = .ok (.ireturn, 1) := by decide +kernel
theorem rd_Cords_copyFrom_0 : decode mb_Cords_copyFrom 0 = .ok (.aload_n 0, 1) := by decide +kernel
theorem rd_Cords_copyFrom_1 : decode mb_Cords_copyFrom 1 = .ok (.aload_n 1, 1) := by decide +kernel
theorem rd_Cords_copyFrom_2 : decode mb_Cords_copyFrom 2 = .ok (.getfield 9, 3) := by decide +kernel
theorem rd_Cords_copyFrom_5 : decode mb_Cords_copyFrom 5 = .ok (.putfield 9, 3) := by decide +kernel
theorem rd_Cords_copyFrom_8 : decode mb_Cords_copyFrom 8 = .ok (.aload_n 0, 1) := by decide +kernel
theorem rd_Cords_copyFrom_9 : decode mb_Cords_copyFrom 9 = .ok (.aload_n 1, 1) := by decide +kernel
theorem rd_Cords_copyFrom_10 : decode mb_Cords_copyFrom 10 = .ok (.getfield 15, 3) := by decide +kernel
theorem rd_Cords_copyFrom_13 : decode mb_Cords_copyFrom 13 = .ok (.putfield 15, 3) := by decide +kernel
theorem rd_Cords_copyFrom_16 : decode mb_Cords_copyFrom 16 = .ok (.aload_n 0, 1) := by decide +kernel
theorem rd_Cords_copyFrom_17 : decode mb_Cords_copyFrom 17 = .ok (.getfield 23, 3) := by decide +kernel
theorem rd_Cords_copyFrom_20 : decode mb_Cords_copyFrom 20 = .ok (.aload_n 1, 1) := by decide +kernel
theorem rd_Cords_copyFrom_21 : decode mb_Cords_copyFrom 21 = .ok (.getfield 23, 3) := by decide +kernel
theorem rd_Cords_copyFrom_24 : decode mb_Cords_copyFrom 24 = .ok (.invokevirtual 39, 3) := by decide +kernel
theorem rd_Cords_copyFrom_27 : decode mb_Cords_copyFrom 27 = .ok (.aload_n 0, 1) := by decide +kernel
theorem rd_Cords_copyFrom_28 : decode mb_Cords_copyFrom 28 = .ok (.getfield 27, 3) := by decide +kernel
theorem rd_Cords_copyFrom_31 : decode mb_Cords_copyFrom 31 = .ok (.aload_n 1, 1) := by decide +kernel
theorem rd_Cords_copyFrom_32 : decode mb_Cords_copyFrom 32 = .ok (.getfield 27, 3) := by decide +kernel
theorem rd_Cords_copyFrom_35 : decode mb_Cords_copyFrom 35 = .ok (.invokevirtual 39, 3) := by decide +kernel
theorem rd_Cords_copyFrom_38 : decode mb_Cords_copyFrom 38 = .ok (.aload_n 0, 1) := by decide +kernel
theorem rd_Cords_copyFrom_39 : decode mb_Cords_copyFrom 39 = .ok (.getfield 30, 3) := by decide +kernel
theorem rd_Cords_copyFrom_42 : decode mb_Cords_copyFrom 42 = .ok (.aload_n 1, 1) := by decide +kernel
theorem rd_Cords_copyFrom_43 : decode mb_Cords_copyFrom 43 = .ok (.getfield 30, 3) := by decide +kernel
theorem rd_Cords_copyFrom_46 : decode mb_Cords_copyFrom 46 = .ok (.invokevirtual 39, 3) := by decide +kernel
theorem rd_Cords_copyFrom_49 : decode mb_Cords_copyFrom 49 = .ok (.aload_n 0, 1) := by decide +kernel
theorem rd_Cords_copyFrom_50 : decode mb_Cords_copyFrom 50 = .ok (.getfield 33, 3) := by decide +kernel
theorem rd_Cords_copyFrom_53 : decode mb_Cords_copyFrom 53 = .ok (.aload_n 1, 1) := by decide +kernel
theorem rd_Cords_copyFrom_54 : decode mb_Cords_copyFrom 54 = .ok (.getfield 33, 3) := by decide +kernel
theorem rd_Cords_copyFrom_57 : decode mb_Cords_copyFrom 57 = .ok (.invokevirtual 39, 3) := by decide +kernel
theorem rd_Cords_copyFrom_60 : decode mb_Cords_copyFrom 60 = .ok (.aload_n 0, 1) := by decide +kernel
theorem rd_Cords_copyFrom_61 : decode mb_Cords_copyFrom 61 = .ok (.getfield 36, 3) := by decide +kernel
theorem rd_Cords_copyFrom_64 : decode mb_Cords_copyFrom 64 = .ok (.aload_n 1, 1) := by decide +kernel
theorem rd_Cords_copyFrom_65 : decode mb_Cords_copyFrom 65 = .ok (.getfield 36, 3) := by decide +kernel
theorem rd_Cords_copyFrom_68 : decode mb_Cords_copyFrom 68 = .ok (.invokevirtual 39, 3) := by decide +kernel
theorem rd_Cords_copyFrom_71 : decode mb_Cords_copyFrom 71 = .ok (.return_, 1) := by decide +kernel
theorem rd_Cords_onlyNibbled_0 : decode mb_Cords_onlyNibbled 0 = .ok (.iconst (-1), 1) := by decide +kernel
theorem rd_Cords_onlyNibbled_1 : decode mb_Cords_onlyNibbled 1 = .ok (.istore_n 2, 1) := by decide +kernel
theorem rd_Cords_onlyNibbled_2 : decode mb_Cords_onlyNibbled 2 = .ok (.aload_n 0, 1) := by decide +kernel
theorem rd_Cords_onlyNibbled_3 : decode mb_Cords_onlyNibbled 3 = .ok (.getfield 23, 3) := by decide +kernel
theorem rd_Cords_onlyNibbled_6 : decode mb_Cords_onlyNibbled 6 = .ok (.iload_n 1, 1) := by decide +kernel
theorem rd_Cords_onlyNibbled_7 : decode mb_Cords_onlyNibbled 7 = .ok (.iconst 1, 1) := by decide +kernel
theorem rd_Cords_onlyNibbled_8 : decode mb_Cords_onlyNibbled 8 = .ok (.iadd, 1) := by decide +kernel
theorem rd_Cords_onlyNibbled_9 : decode mb_Cords_onlyNibbled 9 = .ok (.invokevirtual 43, 3) := by decide +kernel
theorem rd_Cords_onlyNibbled_12 : decode mb_Cords_onlyNibbled 12 = .ok (.istore_n 3, 1) := by decide +kernel
theorem rd_Cords_onlyNibbled_13 : decode mb_Cords_onlyNibbled 13 = .ok (.aload_n 0, 1) := by decide +kernel
theorem rd_Cords_onlyNibbled_14 : decode mb_Cords_onlyNibbled 14 = .ok (.getfield 23, 3) := by decide +kernel
theorem rd_Cords_onlyNibbled_17 : decode mb_Cords_onlyNibbled 17 = .ok (.iload_n 1, 1) := by decide +kernel
theorem rd_Cords_onlyNibbled_18 : decode mb_Cords_onlyNibbled 18 = .ok (.invokevirtual 43, 3) := by decide +kernel
theorem rd_Cords_onlyNibbled_21 : decode mb_Cords_onlyNibbled 21 = .ok (.istore 4, 2) := by decide +kernel
theorem rd_Cords_onlyNibbled_23 : decode mb_Cords_onlyNibbled 23 = .ok (.iload 4, 2) := by decide +kernel
theorem rd_Cords_onlyNibbled_25 : decode mb_Cords_onlyNibbled 25 = .ok (.iload_n 3, 1) := by decide +kernel
theorem rd_Cords_onlyNibbled_26 : decode mb_Cords_onlyNibbled 26 = .ok (.if_icmp .ge 31, 3) := by decide +kernel
theorem rd_Cords_onlyNibbled_29 : decode mb_Cords_onlyNibbled 29 = .ok (.aload_n 0, 1) := by decide +kernel
theorem rd_Cords_onlyNibbled_30 : decode mb_Cords_onlyNibbled 30 = .ok (.getfield 36, 3) := by decide +kernel
theorem rd_Cords_onlyNibbled_33 : decode mb_Cords_onlyNibbled 33 = .ok (.iload 4, 2) := by decide +kernel
theorem rd_Cords_onlyNibbled_35 : decode mb_Cords_onlyNibbled 35 = .ok (.invokevirtual 43, 3) := by decide +kernel
theorem rd_Cords_onlyNibbled_38 : decode mb_Cords_onlyNibbled 38 = .ok (.ifCond .le 13, 3) := by decide +kernel
theorem rd_Cords_onlyNibbled_41 : decode mb_Cords_onlyNibbled 41 = .ok (.iload_n 2, 1) := by decide +kernel
theorem rd_Cords_onlyNibbled_42 : decode mb_Cords_onlyNibbled 42 = .ok (.iconst (-1), 1) := by decide +kernel
theorem rd_Cords_onlyNibbled_43 : decode mb_Cords_onlyNibbled 43 = .ok (.if_icmp .eq 5, 3) := by decide +kernel
theorem rd_Cords_onlyNibbled_46 : decode mb_Cords_onlyNibbled 46 = .ok (.iconst (-1), 1) := by decide +kernel
theorem rd_Cords_onlyNibbled_47 : decode mb_Cords_onlyNibbled 47 = .ok (.ireturn, 1) := by decide +kernel
theorem rd_Cords_onlyNibbled_48 : decode mb_Cords_onlyNibbled 48 = .ok (.iload 4, 2) := by decide +kernel
theorem rd_Cords_onlyNibbled_50 : decode mb_Cords_onlyNibbled 50 = .ok (.istore_n 2, 1) := by decide +kernel
theorem rd_Cords_onlyNibbled_51 : decode mb_Cords_onlyNibbled 51 = .ok (.iinc 4 1, 3) := by decide +kernel
theorem rd_Cords_onlyNibbled_54 : decode mb_Cords_onlyNibbled 54 = .ok (.goto (-31), 3) := by decide +kernel
theorem rd_Cords_onlyNibbled_57 : decode mb_Cords_onlyNibbled 57 = .ok (.iload_n 2, 1) := by decide +kernel
theorem rd_Cords_onlyNibbled_58 : decode mb_Cords_onlyNibbled 58 = .ok (.ireturn, 1) := by decide +kernel
theorem rd_Cords_guess_0 : decode mb_Cords_guess 0 = .ok (.aload_n 0, 1) := by decide +kernel
theorem rd_Cords_guess_1 : decode mb_Cords_guess 1 = .ok (.getfield 23, 3) := by decide +kernel
theorem rd_Cords_guess_4 : decode mb_Cords_guess 4 = .ok (.iload_n 1, 1) := by decide +kernel
theorem rd_Cords_guess_5 : decode mb_Cords_guess 5 = .ok (.invokevirtual 43, 3) := by decide +kernel
theorem rd_Cords_guess_8 : decode mb_Cords_guess 8 = .ok (.istore_n 2, 1) := by decide +kernel
theorem rd_Cords_guess_9 : decode mb_Cords_guess 9 = .ok (.aload_n 0, 1) := by decide +kernel
theorem rd_Cords_guess_10 : decode mb_Cords_guess 10 = .ok (.iload_n 1, 1) := by decide +kernel
theorem rd_Cords_guess_11 : decode mb_Cords_guess 11 = .ok (.invokevirtual 79, 3) := by decide +kernel
theorem rd_Cords_guess_14 : decode mb_Cords_guess 14 = .ok (.istore_n 3, 1) := by decide +kernel
theorem rd_Cords_guess_15 : decode mb_Cords_guess 15 = .ok (.aload_n 0, 1) := by decide +kernel
theorem rd_Cords_guess_16 : decode mb_Cords_guess 16 = .ok (.iload_n 2, 1) := by decide +kernel
theorem rd_Cords_guess_17 : decode mb_Cords_guess 17 = .ok (.iconst 1, 1) := by decide +kernel
theorem rd_Cords_guess_18 : decode mb_Cords_guess 18 = .ok (.iadd, 1) := by decide +kernel
theorem rd_Cords_guess_19 : decode mb_Cords_guess 19 = .ok (.aload_n 0, 1) := by decide +kernel
theorem rd_Cords_guess_20 : decode mb_Cords_guess 20 = .ok (.getfield 23, 3) := by decide +kernel
theorem rd_Cords_guess_23 : decode mb_Cords_guess 23 = .ok (.iload_n 1, 1) := by decide +kernel
theorem rd_Cords_guess_24 : decode mb_Cords_guess 24 = .ok (.iconst 1, 1) := by decide +kernel
theorem rd_Cords_guess_25 : decode mb_Cords_guess 25 = .ok (.iadd, 1) := by decide +kernel
theorem rd_Cords_guess_26 : decode mb_Cords_guess 26 = .ok (.invokevirtual 43, 3) := by decide +kernel
theorem rd_Cords_guess_29 : decode mb_Cords_guess 29 = .ok (.invokevirtual 66, 3) := by decide +kernel
theorem rd_Cords_guess_32 : decode mb_Cords_guess 32 = .ok (.istore 4, 2) := by decide +kernel
theorem rd_Cords_guess_34 : decode mb_Cords_guess 34 = .ok (.iload_n 3, 1) := by decide +kernel
theorem rd_Cords_guess_35 : decode mb_Cords_guess 35 = .ok (.iload_n 2, 1) := by decide +kernel
theorem rd_Cords_guess_36 : decode mb_Cords_guess 36 = .ok (.if_icmp .ne 8, 3) := by decide +kernel
theorem rd_Cords_guess_39 : decode mb_Cords_guess 39 = .ok (.iload 4, 2) := by decide +kernel
theorem rd_Cords_guess_41 : decode mb_Cords_guess 41 = .ok (.goto 23, 3) := by decide +kernel
theorem rd_Cords_guess_44 : decode mb_Cords_guess 44 = .ok (.aload_n 0, 1) := by decide +kernel
theorem rd_Cords_guess_45 : decode mb_Cords_guess 45 = .ok (.getfield 33, 3) := by decide +kernel
theorem rd_Cords_guess_48 : decode mb_Cords_guess 48 = .ok (.iload_n 2, 1) := by decide +kernel
theorem rd_Cords_guess_49 : decode mb_Cords_guess 49 = .ok (.invokevirtual 43, 3) := by decide +kernel
theorem rd_Cords_guess_52 : decode mb_Cords_guess 52 = .ok (.iload 4, 2) := by decide +kernel
theorem rd_Cords_guess_54 : decode mb_Cords_guess 54 = .ok (.aload_n 0, 1) := by decide +kernel
theorem rd_Cords_guess_55 : decode mb_Cords_guess 55 = .ok (.getfield 33, 3) := by decide +kernel
theorem rd_Cords_guess_58 : decode mb_Cords_guess 58 = .ok (.iload_n 3, 1) := by decide +kernel
theorem rd_Cords_guess_59 : decode mb_Cords_guess 59 = .ok (.invokevirtual 43, 3) := by decide +kernel
theorem rd_Cords_guess_62 : decode mb_Cords_guess 62 = .ok (.isub, 1) := by decide +kernel
theorem rd_Cords_guess_63 : decode mb_Cords_guess 63 = .ok (.isub, 1) := by decide +kernel
theorem rd_Cords_guess_64 : decode mb_Cords_guess 64 = .ok (.ireturn, 1) := by decide +kernel
theorem rd_Cords_mend_0 : decode mb_Cords_mend 0 = .ok (.aload_n 0, 1) := by decide +kernel
theorem rd_Cords_mend_1 : decode mb_Cords_mend 1 = .ok (.iload_n 1, 1) := by decide +kernel
theorem rd_Cords_mend_2 : decode mb_Cords_mend 2 = .ok (.invokevirtual 82, 3) := by decide +kernel
theorem rd_Cords_mend_5 : decode mb_Cords_mend 5 = .ok (.istore_n 2, 1) := by decide +kernel
theorem rd_Cords_mend_6 : decode mb_Cords_mend 6 = .ok (.aload_n 0, 1) := by decide +kernel
theorem rd_Cords_mend_7 : decode mb_Cords_mend 7 = .ok (.iload_n 1, 1) := by decide +kernel
theorem rd_Cords_mend_8 : decode mb_Cords_mend 8 = .ok (.invokevirtual 79, 3) := by decide +kernel
theorem rd_Cords_mend_11 : decode mb_Cords_mend 11 = .ok (.istore_n 3, 1) := by decide +kernel
theorem rd_Cords_mend_12 : decode mb_Cords_mend 12 = .ok (.aload_n 0, 1) := by decide +kernel
theorem rd_Cords_mend_13 : decode mb_Cords_mend 13 = .ok (.getfield 33, 3) := by decide +kernel
theorem rd_Cords_mend_16 : decode mb_Cords_mend 16 = .ok (.iload_n 3, 1) := by decide +kernel
theorem rd_Cords_mend_17 : decode mb_Cords_mend 17 = .ok (.iload_n 2, 1) := by decide +kernel
theorem rd_Cords_mend_18 : decode mb_Cords_mend 18 = .ok (.invokevirtual 95, 3) := by decide +kernel
theorem rd_Cords_mend_21 : decode mb_Cords_mend 21 = .ok (.aload_n 0, 1) := by decide +kernel
theorem rd_Cords_mend_22 : decode mb_Cords_mend 22 = .ok (.getfield 36, 3) := by decide +kernel
theorem rd_Cords_mend_25 : decode mb_Cords_mend 25 = .ok (.iload_n 3, 1) := by decide +kernel
theorem rd_Cords_mend_26 : decode mb_Cords_mend 26 = .ok (.iconst 0, 1) := by decide +kernel
theorem rd_Cords_mend_27 : decode mb_Cords_mend 27 = .ok (.invokevirtual 95, 3) := by decide +kernel
theorem rd_Cords_mend_30 : decode mb_Cords_mend 30 = .ok (.iload_n 2, 1) := by decide +kernel
theorem rd_Cords_mend_31 : decode mb_Cords_mend 31 = .ok (.ireturn, 1) := by decide +kernel
theorem rd_Cords_fits_0 : decode mb_Cords_fits 0 = .ok (.iload_n 2, 1) := by decide +kernel
theorem rd_Cords_fits_1 : decode mb_Cords_fits 1 = .ok (.invokestatic 89, 3) := by decide +kernel
theorem rd_Cords_fits_4 : decode mb_Cords_fits 4 = .ok (.ifCond .eq 30, 3) := by decide +kernel
theorem rd_Cords_fits_7 : decode mb_Cords_fits 7 = .ok (.iload_n 2, 1) := by decide +kernel
theorem rd_Cords_fits_8 : decode mb_Cords_fits 8 = .ok (.aload_n 0, 1) := by decide +kernel
theorem rd_Cords_fits_9 : decode mb_Cords_fits 9 = .ok (.getfield 36, 3) := by decide +kernel
theorem rd_Cords_fits_12 : decode mb_Cords_fits 12 = .ok (.iload_n 1, 1) := by decide +kernel
theorem rd_Cords_fits_13 : decode mb_Cords_fits 13 = .ok (.invokevirtual 43, 3) := by decide +kernel
theorem rd_Cords_fits_16 : decode mb_Cords_fits 16 = .ok (.invokestatic 92, 3) := by decide +kernel
theorem rd_Cords_fits_19 : decode mb_Cords_fits 19 = .ok (.aload_n 0, 1) := by decide +kernel
theorem rd_Cords_fits_20 : decode mb_Cords_fits 20 = .ok (.getfield 33, 3) := by decide +kernel
theorem rd_Cords_fits_23 : decode mb_Cords_fits 23 = .ok (.iload_n 1, 1) := by decide +kernel
theorem rd_Cords_fits_24 : decode mb_Cords_fits 24 = .ok (.invokevirtual 43, 3) := by decide +kernel
theorem rd_Cords_fits_27 : decode mb_Cords_fits 27 = .ok (.if_icmp .ne 7, 3) := by decide +kernel
theorem rd_Cords_fits_30 : decode mb_Cords_fits 30 = .ok (.iconst 1, 1) := by decide +kernel
theorem rd_Cords_fits_31 : decode mb_Cords_fits 31 = .ok (.goto 4, 3) := by decide +kernel
theorem rd_Cords_fits_34 : decode mb_Cords_fits 34 = .ok (.iconst 0, 1) := by decide +kernel
theorem rd_Cords_fits_35 : decode mb_Cords_fits 35 = .ok (.ireturn, 1) := by decide +kernel
theorem rd_Cords_hasTop_0 : decode mb_Cords_hasTop 0 = .ok (.aload_n 0, 1) := by decide +kernel
theorem rd_Cords_hasTop_1 : decode mb_Cords_hasTop 1 = .ok (.iload_n 1, 1) := by decide +kernel
theorem rd_Cords_hasTop_2 : decode mb_Cords_hasTop 2 = .ok (.invokevirtual 47, 3) := by decide +kernel
theorem rd_Cords_hasTop_5 : decode mb_Cords_hasTop 5 = .ok (.aload_n 0, 1) := by decide +kernel
theorem rd_Cords_hasTop_6 : decode mb_Cords_hasTop 6 = .ok (.getfield 23, 3) := by decide +kernel
theorem rd_Cords_hasTop_9 : decode mb_Cords_hasTop 9 = .ok (.iload_n 1, 1) := by decide +kernel
theorem rd_Cords_hasTop_10 : decode mb_Cords_hasTop 10 = .ok (.invokevirtual 43, 3) := by decide +kernel
theorem rd_Cords_hasTop_13 : decode mb_Cords_hasTop 13 = .ok (.if_icmp .le 7, 3) := by decide +kernel
theorem rd_Cords_hasTop_16 : decode mb_Cords_hasTop 16 = .ok (.iconst 1, 1) := by decide +kernel
theorem rd_Cords_hasTop_17 : decode mb_Cords_hasTop 17 = .ok (.goto 4, 3) := by decide +kernel
theorem rd_Cords_hasTop_20 : decode mb_Cords_hasTop 20 = .ok (.iconst 0, 1) := by decide +kernel
theorem rd_Cords_hasTop_21 : decode mb_Cords_hasTop 21 = .ok (.ireturn, 1) := by decide +kernel
theorem rd_Cords_obstacle_0 : decode mb_Cords_obstacle 0 = .ok (.aload_n 0, 1) := by decide +kernel
theorem rd_Cords_obstacle_1 : decode mb_Cords_obstacle 1 = .ok (.iload_n 1, 1) := by decide +kernel
theorem rd_Cords_obstacle_2 : decode mb_Cords_obstacle 2 = .ok (.invokevirtual 69, 3) := by decide +kernel
theorem rd_Cords_obstacle_5 : decode mb_Cords_obstacle 5 = .ok (.ifCond .ne 5, 3) := by decide +kernel
theorem rd_Cords_obstacle_8 : decode mb_Cords_obstacle 8 = .ok (.iconst 1, 1) := by decide +kernel
theorem rd_Cords_obstacle_9 : decode mb_Cords_obstacle 9 = .ok (.ireturn, 1) := by decide +kernel
theorem rd_Cords_obstacle_10 : decode mb_Cords_obstacle 10 = .ok (.aload_n 0, 1) := by decide +kernel
theorem rd_Cords_obstacle_11 : decode mb_Cords_obstacle 11 = .ok (.aload_n 0, 1) := by decide +kernel
theorem rd_Cords_obstacle_12 : decode mb_Cords_obstacle 12 = .ok (.iload_n 1, 1) := by decide +kernel
theorem rd_Cords_obstacle_13 : decode mb_Cords_obstacle 13 = .ok (.invokevirtual 73, 3) := by decide +kernel
theorem rd_Cords_obstacle_16 : decode mb_Cords_obstacle 16 = .ok (.aload_n 0, 1) := by decide +kernel
theorem rd_Cords_obstacle_17 : decode mb_Cords_obstacle 17 = .ok (.iload_n 1, 1) := by decide +kernel
theorem rd_Cords_obstacle_18 : decode mb_Cords_obstacle 18 = .ok (.invokevirtual 59, 3) := by decide +kernel
theorem rd_Cords_obstacle_21 : decode mb_Cords_obstacle 21 = .ok (.invokevirtual 62, 3) := by decide +kernel
theorem rd_Cords_obstacle_24 : decode mb_Cords_obstacle 24 = .ok (.istore_n 2, 1) := by decide +kernel
theorem rd_Cords_obstacle_25 : decode mb_Cords_obstacle 25 = .ok (.iload_n 2, 1) := by decide +kernel
theorem rd_Cords_obstacle_26 : decode mb_Cords_obstacle 26 = .ok (.ifCond .ne 5, 3) := by decide +kernel
theorem rd_Cords_obstacle_29 : decode mb_Cords_obstacle 29 = .ok (.iconst 2, 1) := by decide +kernel
theorem rd_Cords_obstacle_30 : decode mb_Cords_obstacle 30 = .ok (.ireturn, 1) := by decide +kernel
theorem rd_Cords_obstacle_31 : decode mb_Cords_obstacle 31 = .ok (.iload_n 2, 1) := by decide +kernel
theorem rd_Cords_obstacle_32 : decode mb_Cords_obstacle 32 = .ok (.iconst 1, 1) := by decide +kernel
theorem rd_Cords_obstacle_33 : decode mb_Cords_obstacle 33 = .ok (.if_icmp .le 5, 3) := by decide +kernel
theorem rd_Cords_obstacle_36 : decode mb_Cords_obstacle 36 = .ok (.iconst 3, 1) := by decide +kernel
theorem rd_Cords_obstacle_37 : decode mb_Cords_obstacle 37 = .ok (.ireturn, 1) := by decide +kernel
theorem rd_Cords_obstacle_38 : decode mb_Cords_obstacle 38 = .ok (.aload_n 0, 1) := by decide +kernel
theorem rd_Cords_obstacle_39 : decode mb_Cords_obstacle 39 = .ok (.aload_n 0, 1) := by decide +kernel
theorem rd_Cords_obstacle_40 : decode mb_Cords_obstacle 40 = .ok (.iload_n 1, 1) := by decide +kernel
theorem rd_Cords_obstacle_41 : decode mb_Cords_obstacle 41 = .ok (.invokevirtual 79, 3) := by decide +kernel
theorem rd_Cords_obstacle_44 : decode mb_Cords_obstacle 44 = .ok (.aload_n 0, 1) := by decide +kernel
theorem rd_Cords_obstacle_45 : decode mb_Cords_obstacle 45 = .ok (.iload_n 1, 1) := by decide +kernel
theorem rd_Cords_obstacle_46 : decode mb_Cords_obstacle 46 = .ok (.invokevirtual 82, 3) := by decide +kernel
theorem rd_Cords_obstacle_49 : decode mb_Cords_obstacle 49 = .ok (.invokevirtual 85, 3) := by decide +kernel
theorem rd_Cords_obstacle_52 : decode mb_Cords_obstacle 52 = .ok (.ifCond .eq 7, 3) := by decide +kernel
theorem rd_Cords_obstacle_55 : decode mb_Cords_obstacle 55 = .ok (.iconst 0, 1) := by decide +kernel
theorem rd_Cords_obstacle_56 : decode mb_Cords_obstacle 56 = .ok (.goto 4, 3) := by decide +kernel
theorem rd_Cords_obstacle_59 : decode mb_Cords_obstacle 59 = .ok (.iconst 4, 1) := by decide +kernel
theorem rd_Cords_obstacle_60 : decode mb_Cords_obstacle 60 = .ok (.ireturn, 1) := by decide +kernel
theorem rd_Cords_state_0 : decode mb_Cords_state 0 = .ok (.aload_n 0, 1) := by decide +kernel
theorem rd_Cords_state_1 : decode mb_Cords_state 1 = .ok (.iload_n 1, 1) := by decide +kernel
theorem rd_Cords_state_2 : decode mb_Cords_state 2 = .ok (.invokevirtual 69, 3) := by decide +kernel
theorem rd_Cords_state_5 : decode mb_Cords_state 5 = .ok (.ifCond .ne 5, 3) := by decide +kernel
theorem rd_Cords_state_8 : decode mb_Cords_state 8 = .ok (.iconst 0, 1) := by decide +kernel
theorem rd_Cords_state_9 : decode mb_Cords_state 9 = .ok (.ireturn, 1) := by decide +kernel
theorem rd_Cords_state_10 : decode mb_Cords_state 10 = .ok (.aload_n 0, 1) := by decide +kernel
theorem rd_Cords_state_11 : decode mb_Cords_state 11 = .ok (.iload_n 1, 1) := by decide +kernel
theorem rd_Cords_state_12 : decode mb_Cords_state 12 = .ok (.invokevirtual 73, 3) := by decide +kernel
theorem rd_Cords_state_15 : decode mb_Cords_state 15 = .ok (.istore_n 2, 1) := by decide +kernel
theorem rd_Cords_state_16 : decode mb_Cords_state 16 = .ok (.aload_n 0, 1) := by decide +kernel
theorem rd_Cords_state_17 : decode mb_Cords_state 17 = .ok (.iload_n 2, 1) := by decide +kernel
theorem rd_Cords_state_18 : decode mb_Cords_state 18 = .ok (.aload_n 0, 1) := by decide +kernel
theorem rd_Cords_state_19 : decode mb_Cords_state 19 = .ok (.iload_n 1, 1) := by decide +kernel
theorem rd_Cords_state_20 : decode mb_Cords_state 20 = .ok (.invokevirtual 59, 3) := by decide +kernel
theorem rd_Cords_state_23 : decode mb_Cords_state 23 = .ok (.invokevirtual 62, 3) := by decide +kernel
theorem rd_Cords_state_26 : decode mb_Cords_state 26 = .ok (.ifCond .le 5, 3) := by decide +kernel
theorem rd_Cords_state_29 : decode mb_Cords_state 29 = .ok (.iconst 1, 1) := by decide +kernel
theorem rd_Cords_state_30 : decode mb_Cords_state 30 = .ok (.ireturn, 1) := by decide +kernel
theorem rd_Cords_state_31 : decode mb_Cords_state 31 = .ok (.aload_n 0, 1) := by decide +kernel
theorem rd_Cords_state_32 : decode mb_Cords_state 32 = .ok (.getfield 33, 3) := by decide +kernel
theorem rd_Cords_state_35 : decode mb_Cords_state 35 = .ok (.iload_n 2, 1) := by decide +kernel
theorem rd_Cords_state_36 : decode mb_Cords_state 36 = .ok (.invokevirtual 43, 3) := by decide +kernel
theorem rd_Cords_state_39 : decode mb_Cords_state 39 = .ok (.aload_n 0, 1) := by decide +kernel
theorem rd_Cords_state_40 : decode mb_Cords_state 40 = .ok (.iload_n 1, 1) := by decide +kernel
theorem rd_Cords_state_41 : decode mb_Cords_state 41 = .ok (.invokevirtual 76, 3) := by decide +kernel
theorem rd_Cords_state_44 : decode mb_Cords_state 44 = .ok (.if_icmp .ne 7, 3) := by decide +kernel
theorem rd_Cords_state_47 : decode mb_Cords_state 47 = .ok (.iconst 2, 1) := by decide +kernel
theorem rd_Cords_state_48 : decode mb_Cords_state 48 = .ok (.goto 4, 3) := by decide +kernel
theorem rd_Cords_state_51 : decode mb_Cords_state 51 = .ok (.iconst 3, 1) := by decide +kernel
theorem rd_Cords_state_52 : decode mb_Cords_state 52 = .ok (.ireturn, 1) := by decide +kernel
theorem rd_Cords_clear_0 : decode mb_Cords_clear 0 = .ok (.aload_n 0, 1) := by decide +kernel
theorem rd_Cords_clear_1 : decode mb_Cords_clear 1 = .ok (.iconst 0, 1) := by decide +kernel
theorem rd_Cords_clear_2 : decode mb_Cords_clear 2 = .ok (.putfield 9, 3) := by decide +kernel
theorem rd_Cords_clear_5 : decode mb_Cords_clear 5 = .ok (.aload_n 0, 1) := by decide +kernel
theorem rd_Cords_clear_6 : decode mb_Cords_clear 6 = .ok (.iconst 0, 1) := by decide +kernel
theorem rd_Cords_clear_7 : decode mb_Cords_clear 7 = .ok (.putfield 15, 3) := by decide +kernel
theorem rd_Cords_clear_10 : decode mb_Cords_clear 10 = .ok (.return_, 1) := by decide +kernel
theorem rd_Cords_has_0 : decode mb_Cords_has 0 = .ok (.iload_n 1, 1) := by decide +kernel
theorem rd_Cords_has_1 : decode mb_Cords_has 1 = .ok (.ifCond .lt 15, 3) := by decide +kernel
theorem rd_Cords_has_4 : decode mb_Cords_has 4 = .ok (.iload_n 1, 1) := by decide +kernel
theorem rd_Cords_has_5 : decode mb_Cords_has 5 = .ok (.aload_n 0, 1) := by decide +kernel
theorem rd_Cords_has_6 : decode mb_Cords_has 6 = .ok (.getfield 15, 3) := by decide +kernel
theorem rd_Cords_has_9 : decode mb_Cords_has 9 = .ok (.if_icmp .ge 7, 3) := by decide +kernel
theorem rd_Cords_has_12 : decode mb_Cords_has 12 = .ok (.iconst 1, 1) := by decide +kernel
theorem rd_Cords_has_13 : decode mb_Cords_has 13 = .ok (.goto 4, 3) := by decide +kernel
theorem rd_Cords_has_16 : decode mb_Cords_has 16 = .ok (.iconst 0, 1) := by decide +kernel
theorem rd_Cords_has_17 : decode mb_Cords_has 17 = .ok (.ireturn, 1) := by decide +kernel
theorem rd_Cords_hasCluster_0 : decode mb_Cords_hasCluster 0 = .ok (.iload_n 1, 1) := by decide +kernel
theorem rd_Cords_hasCluster_1 : decode mb_Cords_hasCluster 1 = .ok (.ifCond .lt 15, 3) := by decide +kernel
theorem rd_Cords_hasCluster_4 : decode mb_Cords_hasCluster 4 = .ok (.iload_n 1, 1) := by decide +kernel
theorem rd_Cords_hasCluster_5 : decode mb_Cords_hasCluster 5 = .ok (.aload_n 0, 1) := by decide +kernel
theorem rd_Cords_hasCluster_6 : decode mb_Cords_hasCluster 6 = .ok (.getfield 9, 3) := by decide +kernel
theorem rd_Cords_hasCluster_9 : decode mb_Cords_hasCluster 9 = .ok (.if_icmp .ge 7, 3) := by decide +kernel
theorem rd_Cords_hasCluster_12 : decode mb_Cords_hasCluster 12 = .ok (.iconst 1, 1) := by decide +kernel
theorem rd_Cords_hasCluster_13 : decode mb_Cords_hasCluster 13 = .ok (.goto 4, 3) := by decide +kernel
theorem rd_Cords_hasCluster_16 : decode mb_Cords_hasCluster 16 = .ok (.iconst 0, 1) := by decide +kernel
theorem rd_Cords_hasCluster_17 : decode mb_Cords_hasCluster 17 = .ok (.ireturn, 1) := by decide +kernel
theorem rd_Cords_canHoldMore_0 : decode mb_Cords_canHoldMore 0 = .ok (.aload_n 0, 1) := by decide +kernel
theorem rd_Cords_canHoldMore_1 : decode mb_Cords_canHoldMore 1 = .ok (.getfield 27, 3) := by decide +kernel
theorem rd_Cords_canHoldMore_4 : decode mb_Cords_canHoldMore 4 = .ok (.iload_n 1, 1) := by decide +kernel
theorem rd_Cords_canHoldMore_5 : decode mb_Cords_canHoldMore 5 = .ok (.invokevirtual 43, 3) := by decide +kernel
theorem rd_Cords_canHoldMore_8 : decode mb_Cords_canHoldMore 8 = .ok (.iconst 1, 1) := by decide +kernel
theorem rd_Cords_canHoldMore_9 : decode mb_Cords_canHoldMore 9 = .ok (.if_icmp .lt 19, 3) := by decide +kernel
theorem rd_Cords_canHoldMore_12 : decode mb_Cords_canHoldMore 12 = .ok (.aload_n 0, 1) := by decide +kernel
theorem rd_Cords_canHoldMore_13 : decode mb_Cords_canHoldMore 13 = .ok (.getfield 27, 3) := by decide +kernel
theorem rd_Cords_canHoldMore_16 : decode mb_Cords_canHoldMore 16 = .ok (.iload_n 1, 1) := by decide +kernel
theorem rd_Cords_canHoldMore_17 : decode mb_Cords_canHoldMore 17 = .ok (.invokevirtual 43, 3) := by decide +kernel
theorem rd_Cords_canHoldMore_20 : decode mb_Cords_canHoldMore 20 = .ok (.iconst 3, 1) := by decide +kernel
theorem rd_Cords_canHoldMore_21 : decode mb_Cords_canHoldMore 21 = .ok (.if_icmp .ge 7, 3) := by decide +kernel
theorem rd_Cords_canHoldMore_24 : decode mb_Cords_canHoldMore 24 = .ok (.iconst 1, 1) := by decide +kernel
theorem rd_Cords_canHoldMore_25 : decode mb_Cords_canHoldMore 25 = .ok (.goto 4, 3) := by decide +kernel
theorem rd_Cords_canHoldMore_28 : decode mb_Cords_canHoldMore 28 = .ok (.iconst 0, 1) := by decide +kernel
theorem rd_Cords_canHoldMore_29 : decode mb_Cords_canHoldMore 29 = .ok (.ireturn, 1) := by decide +kernel
theorem rd_Cords_latestAtDepth_0 : decode mb_Cords_latestAtDepth 0 = .ok (.iload_n 2, 1) := by decide +kernel
theorem rd_Cords_latestAtDepth_1 : decode mb_Cords_latestAtDepth 1 = .ok (.iconst 1, 1) := by decide +kernel
theorem rd_Cords_latestAtDepth_2 : decode mb_Cords_latestAtDepth 2 = .ok (.isub, 1) := by decide +kernel
theorem rd_Cords_latestAtDepth_3 : decode mb_Cords_latestAtDepth 3 = .ok (.istore 4, 2) := by decide +kernel
theorem rd_Cords_latestAtDepth_5 : decode mb_Cords_latestAtDepth 5 = .ok (.iload 4, 2) := by decide +kernel
theorem rd_Cords_latestAtDepth_7 : decode mb_Cords_latestAtDepth 7 = .ok (.iload_n 1, 1) := by decide +kernel
theorem rd_Cords_latestAtDepth_8 : decode mb_Cords_latestAtDepth 8 = .ok (.if_icmp .lt 25, 3) := by decide +kernel
theorem rd_Cords_latestAtDepth_11 : decode mb_Cords_latestAtDepth 11 = .ok (.aload_n 0, 1) := by decide +kernel
theorem rd_Cords_latestAtDepth_12 : decode mb_Cords_latestAtDepth 12 = .ok (.getfield 27, 3) := by decide +kernel
theorem rd_Cords_latestAtDepth_15 : decode mb_Cords_latestAtDepth 15 = .ok (.iload 4, 2) := by decide +kernel
theorem rd_Cords_latestAtDepth_17 : decode mb_Cords_latestAtDepth 17 = .ok (.invokevirtual 43, 3) := by decide +kernel
theorem rd_Cords_latestAtDepth_20 : decode mb_Cords_latestAtDepth 20 = .ok (.iload_n 3, 1) := by decide +kernel
theorem rd_Cords_latestAtDepth_21 : decode mb_Cords_latestAtDepth 21 = .ok (.if_icmp .ne 6, 3) := by decide +kernel
theorem rd_Cords_latestAtDepth_24 : decode mb_Cords_latestAtDepth 24 = .ok (.iload 4, 2) := by decide +kernel
theorem rd_Cords_latestAtDepth_26 : decode mb_Cords_latestAtDepth 26 = .ok (.ireturn, 1) := by decide +kernel
theorem rd_Cords_latestAtDepth_27 : decode mb_Cords_latestAtDepth 27 = .ok (.iinc 4 (-1), 3) := by decide +kernel
theorem rd_Cords_latestAtDepth_30 : decode mb_Cords_latestAtDepth 30 = .ok (.goto (-25), 3) := by decide +kernel
theorem rd_Cords_latestAtDepth_33 : decode mb_Cords_latestAtDepth 33 = .ok (.iconst (-1), 1) := by decide +kernel
theorem rd_Cords_latestAtDepth_34 : decode mb_Cords_latestAtDepth 34 = .ok (.ireturn, 1) := by decide +kernel
theorem rd_Cords_parent_0 : decode mb_Cords_parent 0 = .ok (.aload_n 0, 1) := by decide +kernel
theorem rd_Cords_parent_1 : decode mb_Cords_parent 1 = .ok (.getfield 27, 3) := by decide +kernel
theorem rd_Cords_parent_4 : decode mb_Cords_parent 4 = .ok (.iload_n 1, 1) := by decide +kernel
theorem rd_Cords_parent_5 : decode mb_Cords_parent 5 = .ok (.invokevirtual 43, 3) := by decide +kernel
theorem rd_Cords_parent_8 : decode mb_Cords_parent 8 = .ok (.iconst 1, 1) := by decide +kernel
theorem rd_Cords_parent_9 : decode mb_Cords_parent 9 = .ok (.if_icmp .gt 5, 3) := by decide +kernel
theorem rd_Cords_parent_12 : decode mb_Cords_parent 12 = .ok (.iconst (-1), 1) := by decide +kernel
theorem rd_Cords_parent_13 : decode mb_Cords_parent 13 = .ok (.ireturn, 1) := by decide +kernel
theorem rd_Cords_parent_14 : decode mb_Cords_parent 14 = .ok (.aload_n 0, 1) := by decide +kernel
theorem rd_Cords_parent_15 : decode mb_Cords_parent 15 = .ok (.iconst 0, 1) := by decide +kernel
theorem rd_Cords_parent_16 : decode mb_Cords_parent 16 = .ok (.iload_n 1, 1) := by decide +kernel
theorem rd_Cords_parent_17 : decode mb_Cords_parent 17 = .ok (.aload_n 0, 1) := by decide +kernel
theorem rd_Cords_parent_18 : decode mb_Cords_parent 18 = .ok (.getfield 27, 3) := by decide +kernel
theorem rd_Cords_parent_21 : decode mb_Cords_parent 21 = .ok (.iload_n 1, 1) := by decide +kernel
theorem rd_Cords_parent_22 : decode mb_Cords_parent 22 = .ok (.invokevirtual 43, 3) := by decide +kernel
theorem rd_Cords_parent_25 : decode mb_Cords_parent 25 = .ok (.iconst 1, 1) := by decide +kernel
theorem rd_Cords_parent_26 : decode mb_Cords_parent 26 = .ok (.isub, 1) := by decide +kernel
theorem rd_Cords_parent_27 : decode mb_Cords_parent 27 = .ok (.invokevirtual 50, 3) := by decide +kernel
theorem rd_Cords_parent_30 : decode mb_Cords_parent 30 = .ok (.ireturn, 1) := by decide +kernel
theorem rd_Cords_countAtDepth_0 : decode mb_Cords_countAtDepth 0 = .ok (.iconst 0, 1) := by decide +kernel
theorem rd_Cords_countAtDepth_1 : decode mb_Cords_countAtDepth 1 = .ok (.istore 4, 2) := by decide +kernel
theorem rd_Cords_countAtDepth_3 : decode mb_Cords_countAtDepth 3 = .ok (.iload_n 1, 1) := by decide +kernel
theorem rd_Cords_countAtDepth_4 : decode mb_Cords_countAtDepth 4 = .ok (.istore 5, 2) := by decide +kernel
theorem rd_Cords_countAtDepth_6 : decode mb_Cords_countAtDepth 6 = .ok (.iload 5, 2) := by decide +kernel
theorem rd_Cords_countAtDepth_8 : decode mb_Cords_countAtDepth 8 = .ok (.iload_n 2, 1) := by decide +kernel
theorem rd_Cords_countAtDepth_9 : decode mb_Cords_countAtDepth 9 = .ok (.if_icmp .ge 25, 3) := by decide +kernel
theorem rd_Cords_countAtDepth_12 : decode mb_Cords_countAtDepth 12 = .ok (.aload_n 0, 1) := by decide +kernel
theorem rd_Cords_countAtDepth_13 : decode mb_Cords_countAtDepth 13 = .ok (.getfield 27, 3) := by decide +kernel
theorem rd_Cords_countAtDepth_16 : decode mb_Cords_countAtDepth 16 = .ok (.iload 5, 2) := by decide +kernel
theorem rd_Cords_countAtDepth_18 : decode mb_Cords_countAtDepth 18 = .ok (.invokevirtual 43, 3) := by decide +kernel
theorem rd_Cords_countAtDepth_21 : decode mb_Cords_countAtDepth 21 = .ok (.iload_n 3, 1) := by decide +kernel
theorem rd_Cords_countAtDepth_22 : decode mb_Cords_countAtDepth 22 = .ok (.if_icmp .ne 6, 3) := by decide +kernel
theorem rd_Cords_countAtDepth_25 : decode mb_Cords_countAtDepth 25 = .ok (.iinc 4 1, 3) := by decide +kernel
theorem rd_Cords_countAtDepth_28 : decode mb_Cords_countAtDepth 28 = .ok (.iinc 5 1, 3) := by decide +kernel
theorem rd_Cords_countAtDepth_31 : decode mb_Cords_countAtDepth 31 = .ok (.goto (-25), 3) := by decide +kernel
theorem rd_Cords_countAtDepth_34 : decode mb_Cords_countAtDepth 34 = .ok (.iload 4, 2) := by decide +kernel
theorem rd_Cords_countAtDepth_36 : decode mb_Cords_countAtDepth 36 = .ok (.ireturn, 1) := by decide +kernel
theorem rd_Cords_countOfTopic_0 : decode mb_Cords_countOfTopic 0 = .ok (.iconst 0, 1) := by decide +kernel
theorem rd_Cords_countOfTopic_1 : decode mb_Cords_countOfTopic 1 = .ok (.istore_n 2, 1) := by decide +kernel
theorem rd_Cords_countOfTopic_2 : decode mb_Cords_countOfTopic 2 = .ok (.iconst 0, 1) := by decide +kernel
theorem rd_Cords_countOfTopic_3 : decode mb_Cords_countOfTopic 3 = .ok (.istore_n 3, 1) := by decide +kernel
theorem rd_Cords_countOfTopic_4 : decode mb_Cords_countOfTopic 4 = .ok (.iload_n 3, 1) := by decide +kernel
theorem rd_Cords_countOfTopic_5 : decode mb_Cords_countOfTopic 5 = .ok (.aload_n 0, 1) := by decide +kernel
theorem rd_Cords_countOfTopic_6 : decode mb_Cords_countOfTopic 6 = .ok (.getfield 15, 3) := by decide +kernel
theorem rd_Cords_countOfTopic_9 : decode mb_Cords_countOfTopic 9 = .ok (.if_icmp .ge 24, 3) := by decide +kernel
theorem rd_Cords_countOfTopic_12 : decode mb_Cords_countOfTopic 12 = .ok (.aload_n 0, 1) := by decide +kernel
theorem rd_Cords_countOfTopic_13 : decode mb_Cords_countOfTopic 13 = .ok (.getfield 30, 3) := by decide +kernel
theorem rd_Cords_countOfTopic_16 : decode mb_Cords_countOfTopic 16 = .ok (.iload_n 3, 1) := by decide +kernel
theorem rd_Cords_countOfTopic_17 : decode mb_Cords_countOfTopic 17 = .ok (.invokevirtual 43, 3) := by decide +kernel
theorem rd_Cords_countOfTopic_20 : decode mb_Cords_countOfTopic 20 = .ok (.iload_n 1, 1) := by decide +kernel
theorem rd_Cords_countOfTopic_21 : decode mb_Cords_countOfTopic 21 = .ok (.if_icmp .ne 6, 3) := by decide +kernel
theorem rd_Cords_countOfTopic_24 : decode mb_Cords_countOfTopic 24 = .ok (.iinc 2 1, 3) := by decide +kernel
theorem rd_Cords_countOfTopic_27 : decode mb_Cords_countOfTopic 27 = .ok (.iinc 3 1, 3) := by decide +kernel
theorem rd_Cords_countOfTopic_30 : decode mb_Cords_countOfTopic 30 = .ok (.goto (-26), 3) := by decide +kernel
theorem rd_Cords_countOfTopic_33 : decode mb_Cords_countOfTopic 33 = .ok (.iload_n 2, 1) := by decide +kernel
theorem rd_Cords_countOfTopic_34 : decode mb_Cords_countOfTopic 34 = .ok (.ireturn, 1) := by decide +kernel
theorem rd_Cords_openCluster_0 : decode mb_Cords_openCluster 0 = .ok (.aload_n 0, 1) := by decide +kernel
theorem rd_Cords_openCluster_1 : decode mb_Cords_openCluster 1 = .ok (.getfield 9, 3) := by decide +kernel
theorem rd_Cords_openCluster_4 : decode mb_Cords_openCluster 4 = .ok (.bipush 6, 2) := by decide +kernel
theorem rd_Cords_openCluster_6 : decode mb_Cords_openCluster 6 = .ok (.if_icmp .lt 5, 3) := by decide +kernel
theorem rd_Cords_openCluster_9 : decode mb_Cords_openCluster 9 = .ok (.iconst (-1), 1) := by decide +kernel
theorem rd_Cords_openCluster_10 : decode mb_Cords_openCluster 10 = .ok (.ireturn, 1) := by decide +kernel
theorem rd_Cords_openCluster_11 : decode mb_Cords_openCluster 11 = .ok (.aload_n 0, 1) := by decide +kernel
theorem rd_Cords_openCluster_12 : decode mb_Cords_openCluster 12 = .ok (.dup, 1) := by decide +kernel
theorem rd_Cords_openCluster_13 : decode mb_Cords_openCluster 13 = .ok (.getfield 9, 3) := by decide +kernel
theorem rd_Cords_openCluster_16 : decode mb_Cords_openCluster 16 = .ok (.iconst 1, 1) := by decide +kernel
theorem rd_Cords_openCluster_17 : decode mb_Cords_openCluster 17 = .ok (.iadd, 1) := by decide +kernel
theorem rd_Cords_openCluster_18 : decode mb_Cords_openCluster 18 = .ok (.putfield 9, 3) := by decide +kernel
theorem rd_Cords_openCluster_21 : decode mb_Cords_openCluster 21 = .ok (.aload_n 0, 1) := by decide +kernel
theorem rd_Cords_openCluster_22 : decode mb_Cords_openCluster 22 = .ok (.getfield 23, 3) := by decide +kernel
theorem rd_Cords_openCluster_25 : decode mb_Cords_openCluster 25 = .ok (.aload_n 0, 1) := by decide +kernel
theorem rd_Cords_openCluster_26 : decode mb_Cords_openCluster 26 = .ok (.getfield 9, 3) := by decide +kernel
theorem rd_Cords_openCluster_29 : decode mb_Cords_openCluster 29 = .ok (.aload_n 0, 1) := by decide +kernel
theorem rd_Cords_openCluster_30 : decode mb_Cords_openCluster 30 = .ok (.getfield 15, 3) := by decide +kernel
theorem rd_Cords_openCluster_33 : decode mb_Cords_openCluster 33 = .ok (.invokevirtual 95, 3) := by decide +kernel
theorem rd_Cords_openCluster_36 : decode mb_Cords_openCluster 36 = .ok (.aload_n 0, 1) := by decide +kernel
theorem rd_Cords_openCluster_37 : decode mb_Cords_openCluster 37 = .ok (.getfield 9, 3) := by decide +kernel
theorem rd_Cords_openCluster_40 : decode mb_Cords_openCluster 40 = .ok (.iconst 1, 1) := by decide +kernel
theorem rd_Cords_openCluster_41 : decode mb_Cords_openCluster 41 = .ok (.isub, 1) := by decide +kernel
theorem rd_Cords_openCluster_42 : decode mb_Cords_openCluster 42 = .ok (.ireturn, 1) := by decide +kernel
theorem rd_Cords_resize_0 : decode mb_Cords_resize 0 = .ok (.aload_n 0, 1) := by decide +kernel
theorem rd_Cords_resize_1 : decode mb_Cords_resize 1 = .ok (.dup, 1) := by decide +kernel
theorem rd_Cords_resize_2 : decode mb_Cords_resize 2 = .ok (.getfield 15, 3) := by decide +kernel
theorem rd_Cords_resize_5 : decode mb_Cords_resize 5 = .ok (.iload_n 2, 1) := by decide +kernel
theorem rd_Cords_resize_6 : decode mb_Cords_resize 6 = .ok (.iadd, 1) := by decide +kernel
theorem rd_Cords_resize_7 : decode mb_Cords_resize 7 = .ok (.putfield 15, 3) := by decide +kernel
theorem rd_Cords_resize_10 : decode mb_Cords_resize 10 = .ok (.iload_n 1, 1) := by decide +kernel
theorem rd_Cords_resize_11 : decode mb_Cords_resize 11 = .ok (.iconst 1, 1) := by decide +kernel
theorem rd_Cords_resize_12 : decode mb_Cords_resize 12 = .ok (.iadd, 1) := by decide +kernel
theorem rd_Cords_resize_13 : decode mb_Cords_resize 13 = .ok (.istore_n 3, 1) := by decide +kernel
theorem rd_Cords_resize_14 : decode mb_Cords_resize 14 = .ok (.iload_n 3, 1) := by decide +kernel
theorem rd_Cords_resize_15 : decode mb_Cords_resize 15 = .ok (.aload_n 0, 1) := by decide +kernel
theorem rd_Cords_resize_16 : decode mb_Cords_resize 16 = .ok (.getfield 9, 3) := by decide +kernel
theorem rd_Cords_resize_19 : decode mb_Cords_resize 19 = .ok (.if_icmp .gt 27, 3) := by decide +kernel
theorem rd_Cords_resize_22 : decode mb_Cords_resize 22 = .ok (.aload_n 0, 1) := by decide +kernel
theorem rd_Cords_resize_23 : decode mb_Cords_resize 23 = .ok (.getfield 23, 3) := by decide +kernel
theorem rd_Cords_resize_26 : decode mb_Cords_resize 26 = .ok (.iload_n 3, 1) := by decide +kernel
theorem rd_Cords_resize_27 : decode mb_Cords_resize 27 = .ok (.aload_n 0, 1) := by decide +kernel
theorem rd_Cords_resize_28 : decode mb_Cords_resize 28 = .ok (.getfield 23, 3) := by decide +kernel
theorem rd_Cords_resize_31 : decode mb_Cords_resize 31 = .ok (.iload_n 3, 1) := by decide +kernel
theorem rd_Cords_resize_32 : decode mb_Cords_resize 32 = .ok (.invokevirtual 43, 3) := by decide +kernel
theorem rd_Cords_resize_35 : decode mb_Cords_resize 35 = .ok (.iload_n 2, 1) := by decide +kernel
theorem rd_Cords_resize_36 : decode mb_Cords_resize 36 = .ok (.iadd, 1) := by decide +kernel
theorem rd_Cords_resize_37 : decode mb_Cords_resize 37 = .ok (.invokevirtual 95, 3) := by decide +kernel
theorem rd_Cords_resize_40 : decode mb_Cords_resize 40 = .ok (.iinc 3 1, 3) := by decide +kernel
theorem rd_Cords_resize_43 : decode mb_Cords_resize 43 = .ok (.goto (-29), 3) := by decide +kernel
theorem rd_Cords_resize_46 : decode mb_Cords_resize 46 = .ok (.return_, 1) := by decide +kernel
theorem rd_Cords_insert_0 : decode mb_Cords_insert 0 = .ok (.aload_n 0, 1) := by decide +kernel
theorem rd_Cords_insert_1 : decode mb_Cords_insert 1 = .ok (.getfield 15, 3) := by decide +kernel
theorem rd_Cords_insert_4 : decode mb_Cords_insert 4 = .ok (.bipush 40, 2) := by decide +kernel
theorem rd_Cords_insert_6 : decode mb_Cords_insert 6 = .ok (.if_icmp .lt 5, 3) := by decide +kernel
theorem rd_Cords_insert_9 : decode mb_Cords_insert 9 = .ok (.iconst (-1), 1) := by decide +kernel
theorem rd_Cords_insert_10 : decode mb_Cords_insert 10 = .ok (.ireturn, 1) := by decide +kernel
theorem rd_Cords_insert_11 : decode mb_Cords_insert 11 = .ok (.aload_n 0, 1) := by decide +kernel
theorem rd_Cords_insert_12 : decode mb_Cords_insert 12 = .ok (.getfield 27, 3) := by decide +kernel
theorem rd_Cords_insert_15 : decode mb_Cords_insert 15 = .ok (.iload_n 1, 1) := by decide +kernel
theorem rd_Cords_insert_16 : decode mb_Cords_insert 16 = .ok (.iload_n 3, 1) := by decide +kernel
theorem rd_Cords_insert_17 : decode mb_Cords_insert 17 = .ok (.aload_n 0, 1) := by decide +kernel
theorem rd_Cords_insert_18 : decode mb_Cords_insert 18 = .ok (.getfield 15, 3) := by decide +kernel
theorem rd_Cords_insert_21 : decode mb_Cords_insert 21 = .ok (.invokevirtual 99, 3) := by decide +kernel
theorem rd_Cords_insert_24 : decode mb_Cords_insert 24 = .ok (.aload_n 0, 1) := by decide +kernel
theorem rd_Cords_insert_25 : decode mb_Cords_insert 25 = .ok (.getfield 30, 3) := by decide +kernel
theorem rd_Cords_insert_28 : decode mb_Cords_insert 28 = .ok (.iload_n 1, 1) := by decide +kernel
theorem rd_Cords_insert_29 : decode mb_Cords_insert 29 = .ok (.iload 4, 2) := by decide +kernel
theorem rd_Cords_insert_31 : decode mb_Cords_insert 31 = .ok (.aload_n 0, 1) := by decide +kernel
theorem rd_Cords_insert_32 : decode mb_Cords_insert 32 = .ok (.getfield 15, 3) := by decide +kernel
theorem rd_Cords_insert_35 : decode mb_Cords_insert 35 = .ok (.invokevirtual 99, 3) := by decide +kernel
theorem rd_Cords_insert_38 : decode mb_Cords_insert 38 = .ok (.aload_n 0, 1) := by decide +kernel
theorem rd_Cords_insert_39 : decode mb_Cords_insert 39 = .ok (.getfield 33, 3) := by decide +kernel
theorem rd_Cords_insert_42 : decode mb_Cords_insert 42 = .ok (.iload_n 1, 1) := by decide +kernel
theorem rd_Cords_insert_43 : decode mb_Cords_insert 43 = .ok (.iload 5, 2) := by decide +kernel
theorem rd_Cords_insert_45 : decode mb_Cords_insert 45 = .ok (.aload_n 0, 1) := by decide +kernel
theorem rd_Cords_insert_46 : decode mb_Cords_insert 46 = .ok (.getfield 15, 3) := by decide +kernel
theorem rd_Cords_insert_49 : decode mb_Cords_insert 49 = .ok (.invokevirtual 99, 3) := by decide +kernel
theorem rd_Cords_insert_52 : decode mb_Cords_insert 52 = .ok (.aload_n 0, 1) := by decide +kernel
theorem rd_Cords_insert_53 : decode mb_Cords_insert 53 = .ok (.getfield 36, 3) := by decide +kernel
theorem rd_Cords_insert_56 : decode mb_Cords_insert 56 = .ok (.iload_n 1, 1) := by decide +kernel
theorem rd_Cords_insert_57 : decode mb_Cords_insert 57 = .ok (.iconst 0, 1) := by decide +kernel
theorem rd_Cords_insert_58 : decode mb_Cords_insert 58 = .ok (.aload_n 0, 1) := by decide +kernel
theorem rd_Cords_insert_59 : decode mb_Cords_insert 59 = .ok (.getfield 15, 3) := by decide +kernel
theorem rd_Cords_insert_62 : decode mb_Cords_insert 62 = .ok (.invokevirtual 99, 3) := by decide +kernel
theorem rd_Cords_insert_65 : decode mb_Cords_insert 65 = .ok (.aload_n 0, 1) := by decide +kernel
theorem rd_Cords_insert_66 : decode mb_Cords_insert 66 = .ok (.iload_n 2, 1) := by decide +kernel
theorem rd_Cords_insert_67 : decode mb_Cords_insert 67 = .ok (.iconst 1, 1) := by decide +kernel
theorem rd_Cords_insert_68 : decode mb_Cords_insert 68 = .ok (.invokevirtual 103, 3) := by decide +kernel
theorem rd_Cords_insert_71 : decode mb_Cords_insert 71 = .ok (.iload_n 1, 1) := by decide +kernel
theorem rd_Cords_insert_72 : decode mb_Cords_insert 72 = .ok (.ireturn, 1) := by decide +kernel
theorem rd_Cords_remove_0 : decode mb_Cords_remove 0 = .ok (.aload_n 0, 1) := by decide +kernel
theorem rd_Cords_remove_1 : decode mb_Cords_remove 1 = .ok (.iload_n 1, 1) := by decide +kernel
theorem rd_Cords_remove_2 : decode mb_Cords_remove 2 = .ok (.invokevirtual 106, 3) := by decide +kernel
theorem rd_Cords_remove_5 : decode mb_Cords_remove 5 = .ok (.istore_n 3, 1) := by decide +kernel
theorem rd_Cords_remove_6 : decode mb_Cords_remove 6 = .ok (.aload_n 0, 1) := by decide +kernel
theorem rd_Cords_remove_7 : decode mb_Cords_remove 7 = .ok (.getfield 27, 3) := by decide +kernel
theorem rd_Cords_remove_10 : decode mb_Cords_remove 10 = .ok (.iload_n 1, 1) := by decide +kernel
theorem rd_Cords_remove_11 : decode mb_Cords_remove 11 = .ok (.iload_n 2, 1) := by decide +kernel
theorem rd_Cords_remove_12 : decode mb_Cords_remove 12 = .ok (.aload_n 0, 1) := by decide +kernel
theorem rd_Cords_remove_13 : decode mb_Cords_remove 13 = .ok (.getfield 15, 3) := by decide +kernel
theorem rd_Cords_remove_16 : decode mb_Cords_remove 16 = .ok (.invokevirtual 109, 3) := by decide +kernel
theorem rd_Cords_remove_19 : decode mb_Cords_remove 19 = .ok (.aload_n 0, 1) := by decide +kernel
theorem rd_Cords_remove_20 : decode mb_Cords_remove 20 = .ok (.getfield 30, 3) := by decide +kernel
theorem rd_Cords_remove_23 : decode mb_Cords_remove 23 = .ok (.iload_n 1, 1) := by decide +kernel
theorem rd_Cords_remove_24 : decode mb_Cords_remove 24 = .ok (.iload_n 2, 1) := by decide +kernel
theorem rd_Cords_remove_25 : decode mb_Cords_remove 25 = .ok (.aload_n 0, 1) := by decide +kernel
theorem rd_Cords_remove_26 : decode mb_Cords_remove 26 = .ok (.getfield 15, 3) := by decide +kernel
theorem rd_Cords_remove_29 : decode mb_Cords_remove 29 = .ok (.invokevirtual 109, 3) := by decide +kernel
theorem rd_Cords_remove_32 : decode mb_Cords_remove 32 = .ok (.aload_n 0, 1) := by decide +kernel
theorem rd_Cords_remove_33 : decode mb_Cords_remove 33 = .ok (.getfield 33, 3) := by decide +kernel
theorem rd_Cords_remove_36 : decode mb_Cords_remove 36 = .ok (.iload_n 1, 1) := by decide +kernel
theorem rd_Cords_remove_37 : decode mb_Cords_remove 37 = .ok (.iload_n 2, 1) := by decide +kernel
theorem rd_Cords_remove_38 : decode mb_Cords_remove 38 = .ok (.aload_n 0, 1) := by decide +kernel
theorem rd_Cords_remove_39 : decode mb_Cords_remove 39 = .ok (.getfield 15, 3) := by decide +kernel
theorem rd_Cords_remove_42 : decode mb_Cords_remove 42 = .ok (.invokevirtual 109, 3) := by decide +kernel
theorem rd_Cords_remove_45 : decode mb_Cords_remove 45 = .ok (.aload_n 0, 1) := by decide +kernel
theorem rd_Cords_remove_46 : decode mb_Cords_remove 46 = .ok (.getfield 36, 3) := by decide +kernel
theorem rd_Cords_remove_49 : decode mb_Cords_remove 49 = .ok (.iload_n 1, 1) := by decide +kernel
theorem rd_Cords_remove_50 : decode mb_Cords_remove 50 = .ok (.iload_n 2, 1) := by decide +kernel
theorem rd_Cords_remove_51 : decode mb_Cords_remove 51 = .ok (.aload_n 0, 1) := by decide +kernel
theorem rd_Cords_remove_52 : decode mb_Cords_remove 52 = .ok (.getfield 15, 3) := by decide +kernel
theorem rd_Cords_remove_55 : decode mb_Cords_remove 55 = .ok (.invokevirtual 109, 3) := by decide +kernel
theorem rd_Cords_remove_58 : decode mb_Cords_remove 58 = .ok (.aload_n 0, 1) := by decide +kernel
theorem rd_Cords_remove_59 : decode mb_Cords_remove 59 = .ok (.iload_n 3, 1) := by decide +kernel
theorem rd_Cords_remove_60 : decode mb_Cords_remove 60 = .ok (.iload_n 1, 1) := by decide +kernel
theorem rd_Cords_remove_61 : decode mb_Cords_remove 61 = .ok (.iload_n 2, 1) := by decide +kernel
theorem rd_Cords_remove_62 : decode mb_Cords_remove 62 = .ok (.isub, 1) := by decide +kernel
theorem rd_Cords_remove_63 : decode mb_Cords_remove 63 = .ok (.invokevirtual 103, 3) := by decide +kernel
theorem rd_Cords_remove_66 : decode mb_Cords_remove 66 = .ok (.iload_n 2, 1) := by decide +kernel
theorem rd_Cords_remove_67 : decode mb_Cords_remove 67 = .ok (.iload_n 1, 1) := by decide +kernel
theorem rd_Cords_remove_68 : decode mb_Cords_remove 68 = .ok (.isub, 1) := by decide +kernel
theorem rd_Cords_remove_69 : decode mb_Cords_remove 69 = .ok (.ireturn, 1) := by decide +kernel
theorem rd_Cords_tie_0 : decode mb_Cords_tie 0 = .ok (.aload_n 0, 1) := by decide +kernel
theorem rd_Cords_tie_1 : decode mb_Cords_tie 1 = .ok (.iload_n 1, 1) := by decide +kernel
theorem rd_Cords_tie_2 : decode mb_Cords_tie 2 = .ok (.invokevirtual 76, 3) := by decide +kernel
theorem rd_Cords_tie_5 : decode mb_Cords_tie 5 = .ok (.istore_n 3, 1) := by decide +kernel
theorem rd_Cords_tie_6 : decode mb_Cords_tie 6 = .ok (.aload_n 0, 1) := by decide +kernel
theorem rd_Cords_tie_7 : decode mb_Cords_tie 7 = .ok (.aload_n 0, 1) := by decide +kernel
theorem rd_Cords_tie_8 : decode mb_Cords_tie 8 = .ok (.iload_n 1, 1) := by decide +kernel
theorem rd_Cords_tie_9 : decode mb_Cords_tie 9 = .ok (.invokevirtual 73, 3) := by decide +kernel
theorem rd_Cords_tie_12 : decode mb_Cords_tie 12 = .ok (.iload_n 1, 1) := by decide +kernel
theorem rd_Cords_tie_13 : decode mb_Cords_tie 13 = .ok (.iconst 0, 1) := by decide +kernel
theorem rd_Cords_tie_14 : decode mb_Cords_tie 14 = .ok (.iload_n 2, 1) := by decide +kernel
theorem rd_Cords_tie_15 : decode mb_Cords_tie 15 = .ok (.iload_n 3, 1) := by decide +kernel
theorem rd_Cords_tie_16 : decode mb_Cords_tie 16 = .ok (.invokevirtual 112, 3) := by decide +kernel
theorem rd_Cords_tie_19 : decode mb_Cords_tie 19 = .ok (.pop, 1) := by decide +kernel
theorem rd_Cords_tie_20 : decode mb_Cords_tie 20 = .ok (.iload_n 3, 1) := by decide +kernel
theorem rd_Cords_tie_21 : decode mb_Cords_tie 21 = .ok (.ireturn, 1) := by decide +kernel
theorem rd_Cords_knot_0 : decode mb_Cords_knot 0 = .ok (.aload_n 0, 1) := by decide +kernel
theorem rd_Cords_knot_1 : decode mb_Cords_knot 1 = .ok (.getfield 33, 3) := by decide +kernel
theorem rd_Cords_knot_4 : decode mb_Cords_knot 4 = .ok (.iload_n 1, 1) := by decide +kernel
theorem rd_Cords_knot_5 : decode mb_Cords_knot 5 = .ok (.invokevirtual 43, 3) := by decide +kernel
theorem rd_Cords_knot_8 : decode mb_Cords_knot 8 = .ok (.iload_n 2, 1) := by decide +kernel
theorem rd_Cords_knot_9 : decode mb_Cords_knot 9 = .ok (.invokestatic 115, 3) := by decide +kernel
theorem rd_Cords_knot_12 : decode mb_Cords_knot 12 = .ok (.istore 4, 2) := by decide +kernel
theorem rd_Cords_knot_14 : decode mb_Cords_knot 14 = .ok (.aload_n 0, 1) := by decide +kernel
theorem rd_Cords_knot_15 : decode mb_Cords_knot 15 = .ok (.getfield 33, 3) := by decide +kernel
theorem rd_Cords_knot_18 : decode mb_Cords_knot 18 = .ok (.iload_n 1, 1) := by decide +kernel
theorem rd_Cords_knot_19 : decode mb_Cords_knot 19 = .ok (.aload_n 0, 1) := by decide +kernel
theorem rd_Cords_knot_20 : decode mb_Cords_knot 20 = .ok (.getfield 33, 3) := by decide +kernel
theorem rd_Cords_knot_23 : decode mb_Cords_knot 23 = .ok (.iload_n 1, 1) := by decide +kernel
theorem rd_Cords_knot_24 : decode mb_Cords_knot 24 = .ok (.invokevirtual 43, 3) := by decide +kernel
theorem rd_Cords_knot_27 : decode mb_Cords_knot 27 = .ok (.iload_n 3, 1) := by decide +kernel
theorem rd_Cords_knot_28 : decode mb_Cords_knot 28 = .ok (.iload 4, 2) := by decide +kernel
theorem rd_Cords_knot_30 : decode mb_Cords_knot 30 = .ok (.isub, 1) := by decide +kernel
theorem rd_Cords_knot_31 : decode mb_Cords_knot 31 = .ok (.iload_n 2, 1) := by decide +kernel
theorem rd_Cords_knot_32 : decode mb_Cords_knot 32 = .ok (.invokestatic 54, 3) := by decide +kernel
theorem rd_Cords_knot_35 : decode mb_Cords_knot 35 = .ok (.imul, 1) := by decide +kernel
theorem rd_Cords_knot_36 : decode mb_Cords_knot 36 = .ok (.iadd, 1) := by decide +kernel
theorem rd_Cords_knot_37 : decode mb_Cords_knot 37 = .ok (.invokevirtual 95, 3) := by decide +kernel
theorem rd_Cords_knot_40 : decode mb_Cords_knot 40 = .ok (.iload 4, 2) := by decide +kernel
theorem rd_Cords_knot_42 : decode mb_Cords_knot 42 = .ok (.ireturn, 1) := by decide +kernel
theorem rd_Cords_loseKnots_0 : decode mb_Cords_loseKnots 0 = .ok (.aload_n 0, 1) := by decide +kernel
theorem rd_Cords_loseKnots_1 : decode mb_Cords_loseKnots 1 = .ok (.getfield 33, 3) := by decide +kernel
theorem rd_Cords_loseKnots_4 : decode mb_Cords_loseKnots 4 = .ok (.iload_n 1, 1) := by decide +kernel
theorem rd_Cords_loseKnots_5 : decode mb_Cords_loseKnots 5 = .ok (.invokevirtual 43, 3) := by decide +kernel
theorem rd_Cords_loseKnots_8 : decode mb_Cords_loseKnots 8 = .ok (.invokestatic 118, 3) := by decide +kernel
theorem rd_Cords_loseKnots_11 : decode mb_Cords_loseKnots 11 = .ok (.istore_n 3, 1) := by decide +kernel
theorem rd_Cords_loseKnots_12 : decode mb_Cords_loseKnots 12 = .ok (.aload_n 0, 1) := by decide +kernel
theorem rd_Cords_loseKnots_13 : decode mb_Cords_loseKnots 13 = .ok (.getfield 33, 3) := by decide +kernel
theorem rd_Cords_loseKnots_16 : decode mb_Cords_loseKnots 16 = .ok (.iload_n 1, 1) := by decide +kernel
theorem rd_Cords_loseKnots_17 : decode mb_Cords_loseKnots 17 = .ok (.aload_n 0, 1) := by decide +kernel
theorem rd_Cords_loseKnots_18 : decode mb_Cords_loseKnots 18 = .ok (.getfield 33, 3) := by decide +kernel
theorem rd_Cords_loseKnots_21 : decode mb_Cords_loseKnots 21 = .ok (.iload_n 1, 1) := by decide +kernel
theorem rd_Cords_loseKnots_22 : decode mb_Cords_loseKnots 22 = .ok (.invokevirtual 43, 3) := by decide +kernel
theorem rd_Cords_loseKnots_25 : decode mb_Cords_loseKnots 25 = .ok (.iload_n 2, 1) := by decide +kernel
theorem rd_Cords_loseKnots_26 : decode mb_Cords_loseKnots 26 = .ok (.invokestatic 92, 3) := by decide +kernel
theorem rd_Cords_loseKnots_29 : decode mb_Cords_loseKnots 29 = .ok (.invokevirtual 95, 3) := by decide +kernel
theorem rd_Cords_loseKnots_32 : decode mb_Cords_loseKnots 32 = .ok (.aload_n 0, 1) := by decide +kernel
theorem rd_Cords_loseKnots_33 : decode mb_Cords_loseKnots 33 = .ok (.getfield 36, 3) := by decide +kernel
theorem rd_Cords_loseKnots_36 : decode mb_Cords_loseKnots 36 = .ok (.iload_n 1, 1) := by decide +kernel
theorem rd_Cords_loseKnots_37 : decode mb_Cords_loseKnots 37 = .ok (.iload_n 2, 1) := by decide +kernel
theorem rd_Cords_loseKnots_38 : decode mb_Cords_loseKnots 38 = .ok (.invokevirtual 95, 3) := by decide +kernel
theorem rd_Cords_loseKnots_41 : decode mb_Cords_loseKnots 41 = .ok (.iload_n 3, 1) := by decide +kernel
theorem rd_Cords_loseKnots_42 : decode mb_Cords_loseKnots 42 = .ok (.aload_n 0, 1) := by decide +kernel
theorem rd_Cords_loseKnots_43 : decode mb_Cords_loseKnots 43 = .ok (.getfield 33, 3) := by decide +kernel
theorem rd_Cords_loseKnots_46 : decode mb_Cords_loseKnots 46 = .ok (.iload_n 1, 1) := by decide +kernel
theorem rd_Cords_loseKnots_47 : decode mb_Cords_loseKnots 47 = .ok (.invokevirtual 43, 3) := by decide +kernel
theorem rd_Cords_loseKnots_50 : decode mb_Cords_loseKnots 50 = .ok (.invokestatic 118, 3) := by decide +kernel
theorem rd_Cords_loseKnots_53 : decode mb_Cords_loseKnots 53 = .ok (.isub, 1) := by decide +kernel
theorem rd_Cords_loseKnots_54 : decode mb_Cords_loseKnots 54 = .ok (.ireturn, 1) := by decide +kernel
def wd_Cords_clusterAt (cI : ClassId) (a_t a_t_starts a_t_depth a_t_topic a_t_value a_t_nibbled a_t_starts_k : Nat) (i_t_clusters : Int) (i_t_size : Int) (i_t_starts : (Int → Int)) : va_W := [(a_t, .inr (5, [jk_V i_t_clusters, jk_V i_t_size, .ref a_t_starts, .ref a_t_depth, .ref a_t_topic, .ref a_t_value, .ref a_t_nibbled])), (a_t_starts, .inr (0, [.ref a_t_starts_k])), (a_t_starts_k, jk_W cI 7 i_t_starts)]
set_option maxHeartbeats 4000000 in
set_option maxRecDepth 20000 in
theorem ct_Cords_clusterAt (l : Launch) (D : va_G) (Z : (Nat → Prop) → State → Heap → Prop) (sq : Nat → Nat) (hZ : jk_ZK Z sq) (cI cR : ClassId) (a_t a_t_starts a_t_depth a_t_topic a_t_value a_t_nibbled a_t_starts_k : Nat) (i_t_clusters : Int) (i_t_size : Int) (i_t_starts : (Int → Int)) (x1 : Int) (q : Int) (hf : fn_Cords_clusterAt i_t_clusters i_t_starts x1 = some q) : jk_MI l D jk_cl (jk_ty cI cR) Z mn_Cords_clusterAt (.code mn_Cords_clusterAt mb_Cords_clusterAt 4 (some .int) :: jk_WA) (jk_rm 1 21) [.ref a_t, jk_V x1] (wd_Cords_clusterAt cI a_t a_t_starts a_t_depth a_t_topic a_t_value a_t_nibbled a_t_starts_k i_t_clusters i_t_size i_t_starts) (wd_Cords_clusterAt cI a_t a_t_starts a_t_depth a_t_topic a_t_value a_t_nibbled a_t_starts_k i_t_clusters i_t_size i_t_starts) q := by
  intro sz
  refine jk_body (by decide +kernel) (fun p e s m args below meth c hsz hz hin C => ?_) (Nat.le_of_ble_eq_true rfl)
  subst hsz
  unfold fn_Cords_clusterAt at hf
  have bk_4 : ∀ (n : Nat) (v1 : Int) (v2 : Int) (v3 : Int), fn_Cords_clusterAt_b4 n i_t_clusters i_t_starts v1 v2 v3 = some q → jk_J p l e (jk_rm 1 21) s m args below meth c 0 0 (jk_QI below D jk_cl (jk_ty cI cR) (wd_Cords_clusterAt cI a_t a_t_starts a_t_depth a_t_topic a_t_value a_t_nibbled a_t_starts_k i_t_clusters i_t_size i_t_starts) (wd_Cords_clusterAt cI a_t a_t_starts a_t_depth a_t_topic a_t_value a_t_nibbled a_t_starts_k i_t_clusters i_t_size i_t_starts) args s q) D jk_cl (va_A (wd_Cords_clusterAt cI a_t a_t_starts a_t_depth a_t_topic a_t_value a_t_nibbled a_t_starts_k i_t_clusters i_t_size i_t_starts) s.heap.size) 4 (wd_Cords_clusterAt cI a_t a_t_starts a_t_depth a_t_topic a_t_value a_t_nibbled a_t_starts_k i_t_clusters i_t_size i_t_starts) [(0, .ref a_t), (1, jk_V v1), (2, jk_V v2), (3, jk_V v3)] 4 [] := by
    intro n
    induction n with
    | zero => intro v1 v2 v3 hf; exact nomatch (show none = some q from hf)
    | succ n ih =>
      intro v1 v2 v3 hf
      rw [fn_Cords_clusterAt_b4] at hf
      refine jk_iload_n C rd_Cords_clusterAt_4 (k := 3) rfl ?_
      refine jk_aload_n C rd_Cords_clusterAt_5 (k := 0) rfl ?_
      refine jk_get C in_Cords (ci := 5) rfl 0 (by decide) tm_116 0 rfl rfl rd_Cords_clusterAt_6 ?_
      refine jk_icmp_ge (tgt := 32) C rd_Cords_clusterAt_9 (by decide) hf (fun _ hf => ?_) (fun _ hf => ?_)
      · refine jk_iload_n C rd_Cords_clusterAt_32 (k := 2) rfl ?_
        cases hf
        exact jk_iret C rfl rd_Cords_clusterAt_33 rfl
      · refine jk_aload_n C rd_Cords_clusterAt_12 (k := 0) rfl ?_
        refine jk_get C in_Cords (ci := 5) rfl 2 (by decide) tm_124 0 rfl rfl rd_Cords_clusterAt_13 ?_
        refine jk_iload_n C rd_Cords_clusterAt_16 (k := 3) rfl ?_
        obtain ⟨q17, hq17, hf⟩ := jk_bind_h hf
        refine jk_callVi C hZ.1 hz (ct_Row_get l D Z sq hZ cI cR (n_t := 7) (Nat.le_of_ble_eq_true rfl) a_t_starts a_t_starts_k i_t_starts v3 q17 hq17) tm_356 tm_292 tm_293 tm_3 tm_294 na_Row_get ⟨Nat.le_of_ble_eq_true rfl, Nat.le_of_ble_eq_true rfl⟩ rfl [1, 2] rfl rfl rfl (ws' := wd_Cords_clusterAt cI a_t a_t_starts a_t_depth a_t_topic a_t_value a_t_nibbled a_t_starts_k i_t_clusters i_t_size i_t_starts) rfl 1 0 rfl rfl rfl (st := []) rfl (Nat.le_of_ble_eq_true rfl) rd_Cords_clusterAt_17 ?_ ⟨Nat.le_refl _, Nat.le_refl _⟩
        refine jk_iload_n C rd_Cords_clusterAt_20 (k := 1) rfl ?_
        refine jk_icmp_gt (tgt := 26) C rd_Cords_clusterAt_21 (by decide) hf (fun _ hf => ?_) (fun _ hf => ?_)
        · refine jk_iinc C rd_Cords_clusterAt_26 (k := 3) rfl (by decide) (lv' := [(3, jk_V (v3 + 1)), (0, .ref a_t), (1, jk_V v1), (2, jk_V v2)]) rfl ?_
          refine jk_goto (tgt := 4) C rd_Cords_clusterAt_29 (by decide) ?_
          refine jk_lv (lv' := [(0, .ref a_t), (1, jk_V v1), (2, jk_V v2), (3, jk_V (v3 + 1))]) [1, 2, 3, 0] rfl ?_
          exact ih v1 v2 (v3 + 1) hf
        · refine jk_iload_n C rd_Cords_clusterAt_24 (k := 3) rfl ?_
          refine jk_istore_n C rd_Cords_clusterAt_25 (by decide) (lv' := [(2, jk_V v3), (0, .ref a_t), (1, jk_V v1), (3, jk_V v3)]) rfl ?_
          refine jk_iinc C rd_Cords_clusterAt_26 (k := 3) rfl (by decide) (lv' := [(3, jk_V (v3 + 1)), (2, jk_V v3), (0, .ref a_t), (1, jk_V v1)]) rfl ?_
          refine jk_goto (tgt := 4) C rd_Cords_clusterAt_29 (by decide) ?_
          refine jk_lv (lv' := [(0, .ref a_t), (1, jk_V v1), (2, jk_V v3), (3, jk_V (v3 + 1))]) [2, 3, 1, 0] rfl ?_
          exact ih v1 v3 (v3 + 1) hf
  refine jk_iconst C rd_Cords_clusterAt_0 ?_
  refine jk_istore_n C rd_Cords_clusterAt_1 (by decide) (lv' := [(2, jk_V 0), (0, .ref a_t), (1, jk_V x1)]) rfl ?_
  refine jk_iconst C rd_Cords_clusterAt_2 ?_
  refine jk_istore_n C rd_Cords_clusterAt_3 (by decide) (lv' := [(3, jk_V 1), (2, jk_V 0), (0, .ref a_t), (1, jk_V x1)]) rfl ?_
  refine jk_lv (lv' := [(0, .ref a_t), (1, jk_V x1), (2, jk_V 0), (3, jk_V 1)]) [2, 3, 1, 0] rfl ?_
  exact bk_4 jk_F x1 0 1 hf
def wd_Cords_end (cI : ClassId) (a_t a_t_starts a_t_depth a_t_topic a_t_value a_t_nibbled a_t_starts_k : Nat) (i_t_clusters : Int) (i_t_size : Int) (i_t_starts : (Int → Int)) : va_W := [(a_t, .inr (5, [jk_V i_t_clusters, jk_V i_t_size, .ref a_t_starts, .ref a_t_depth, .ref a_t_topic, .ref a_t_value, .ref a_t_nibbled])), (a_t_starts, .inr (0, [.ref a_t_starts_k])), (a_t_starts_k, jk_W cI 7 i_t_starts)]
set_option maxHeartbeats 4000000 in
set_option maxRecDepth 20000 in
theorem ct_Cords_end (l : Launch) (D : va_G) (Z : (Nat → Prop) → State → Heap → Prop) (sq : Nat → Nat) (hZ : jk_ZK Z sq) (cI cR : ClassId) (a_t a_t_starts a_t_depth a_t_topic a_t_value a_t_nibbled a_t_starts_k : Nat) (i_t_clusters : Int) (i_t_size : Int) (i_t_starts : (Int → Int)) (x1 : Int) (q : Int) (hf : fn_Cords_end i_t_starts x1 = some q) : jk_MI l D jk_cl (jk_ty cI cR) Z mn_Cords_end (.code mn_Cords_end mb_Cords_end 2 (some .int) :: jk_WA) (jk_rm 1 21) [.ref a_t, jk_V x1] (wd_Cords_end cI a_t a_t_starts a_t_depth a_t_topic a_t_value a_t_nibbled a_t_starts_k i_t_clusters i_t_size i_t_starts) (wd_Cords_end cI a_t a_t_starts a_t_depth a_t_topic a_t_value a_t_nibbled a_t_starts_k i_t_clusters i_t_size i_t_starts) q := by
  intro sz
  refine jk_body (by decide +kernel) (fun p e s m args below meth c hsz hz hin C => ?_) (Nat.le_of_ble_eq_true rfl)
  subst hsz
  unfold fn_Cords_end at hf
  refine jk_aload_n C rd_Cords_end_0 (k := 0) rfl ?_
  refine jk_get C in_Cords (ci := 5) rfl 2 (by decide) tm_124 0 rfl rfl rd_Cords_end_1 ?_
  refine jk_iload_n C rd_Cords_end_4 (k := 1) rfl ?_
  refine jk_iconst C rd_Cords_end_5 ?_
  refine jk_iadd C rd_Cords_end_6 ?_
  obtain ⟨q7, hq7, hf⟩ := jk_bind_h hf
  refine jk_callVi C hZ.1 hz (ct_Row_get l D Z sq hZ cI cR (n_t := 7) (Nat.le_of_ble_eq_true rfl) a_t_starts a_t_starts_k i_t_starts (x1 + 1) q7 hq7) tm_356 tm_292 tm_293 tm_3 tm_294 na_Row_get ⟨Nat.le_of_ble_eq_true rfl, Nat.le_of_ble_eq_true rfl⟩ rfl [1, 2] rfl rfl rfl (ws' := wd_Cords_end cI a_t a_t_starts a_t_depth a_t_topic a_t_value a_t_nibbled a_t_starts_k i_t_clusters i_t_size i_t_starts) rfl 1 0 rfl rfl rfl (st := []) rfl (Nat.le_of_ble_eq_true rfl) rd_Cords_end_7 ?_ ⟨Nat.le_refl _, Nat.le_refl _⟩
  cases hf
  exact jk_iret C rfl rd_Cords_end_10 rfl
def wd_Cords_start (cI : ClassId) (a_t a_t_starts a_t_depth a_t_topic a_t_value a_t_nibbled a_t_starts_k : Nat) (i_t_clusters : Int) (i_t_size : Int) (i_t_starts : (Int → Int)) : va_W := [(a_t, .inr (5, [jk_V i_t_clusters, jk_V i_t_size, .ref a_t_starts, .ref a_t_depth, .ref a_t_topic, .ref a_t_value, .ref a_t_nibbled])), (a_t_starts, .inr (0, [.ref a_t_starts_k])), (a_t_starts_k, jk_W cI 7 i_t_starts)]
set_option maxHeartbeats 4000000 in
set_option maxRecDepth 20000 in
theorem ct_Cords_start (l : Launch) (D : va_G) (Z : (Nat → Prop) → State → Heap → Prop) (sq : Nat → Nat) (hZ : jk_ZK Z sq) (cI cR : ClassId) (a_t a_t_starts a_t_depth a_t_topic a_t_value a_t_nibbled a_t_starts_k : Nat) (i_t_clusters : Int) (i_t_size : Int) (i_t_starts : (Int → Int)) (x1 : Int) (q : Int) (hf : fn_Cords_start i_t_starts x1 = some q) : jk_MI l D jk_cl (jk_ty cI cR) Z mn_Cords_start (.code mn_Cords_start mb_Cords_start 2 (some .int) :: jk_WA) (jk_rm 1 21) [.ref a_t, jk_V x1] (wd_Cords_start cI a_t a_t_starts a_t_depth a_t_topic a_t_value a_t_nibbled a_t_starts_k i_t_clusters i_t_size i_t_starts) (wd_Cords_start cI a_t a_t_starts a_t_depth a_t_topic a_t_value a_t_nibbled a_t_starts_k i_t_clusters i_t_size i_t_starts) q := by
  intro sz
  refine jk_body (by decide +kernel) (fun p e s m args below meth c hsz hz hin C => ?_) (Nat.le_of_ble_eq_true rfl)
  subst hsz
  unfold fn_Cords_start at hf
  refine jk_aload_n C rd_Cords_start_0 (k := 0) rfl ?_
  refine jk_get C in_Cords (ci := 5) rfl 2 (by decide) tm_124 0 rfl rfl rd_Cords_start_1 ?_
  refine jk_iload_n C rd_Cords_start_4 (k := 1) rfl ?_
  obtain ⟨q5, hq5, hf⟩ := jk_bind_h hf
  refine jk_callVi C hZ.1 hz (ct_Row_get l D Z sq hZ cI cR (n_t := 7) (Nat.le_of_ble_eq_true rfl) a_t_starts a_t_starts_k i_t_starts x1 q5 hq5) tm_356 tm_292 tm_293 tm_3 tm_294 na_Row_get ⟨Nat.le_of_ble_eq_true rfl, Nat.le_of_ble_eq_true rfl⟩ rfl [1, 2] rfl rfl rfl (ws' := wd_Cords_start cI a_t a_t_starts a_t_depth a_t_topic a_t_value a_t_nibbled a_t_starts_k i_t_clusters i_t_size i_t_starts) rfl 1 0 rfl rfl rfl (st := []) rfl (Nat.le_of_ble_eq_true rfl) rd_Cords_start_5 ?_ ⟨Nat.le_refl _, Nat.le_refl _⟩
  cases hf
  exact jk_iret C rfl rd_Cords_start_8 rfl
def wd_Cords_branchEnd (cI : ClassId) (a_t a_t_starts a_t_depth a_t_topic a_t_value a_t_nibbled a_t_depth_k : Nat) (i_t_clusters : Int) (i_t_size : Int) (i_t_depth : (Int → Int)) : va_W := [(a_t, .inr (5, [jk_V i_t_clusters, jk_V i_t_size, .ref a_t_starts, .ref a_t_depth, .ref a_t_topic, .ref a_t_value, .ref a_t_nibbled])), (a_t_depth, .inr (0, [.ref a_t_depth_k])), (a_t_depth_k, jk_W cI 40 i_t_depth)]
set_option maxHeartbeats 4000000 in
set_option maxRecDepth 20000 in
theorem ct_Cords_branchEnd (l : Launch) (D : va_G) (Z : (Nat → Prop) → State → Heap → Prop) (sq : Nat → Nat) (hZ : jk_ZK Z sq) (cI cR : ClassId) (a_t a_t_starts a_t_depth a_t_topic a_t_value a_t_nibbled a_t_depth_k : Nat) (i_t_clusters : Int) (i_t_size : Int) (i_t_depth : (Int → Int)) (x1 : Int) (q : Int) (hf : fn_Cords_branchEnd i_t_size i_t_depth x1 = some q) : jk_MI l D jk_cl (jk_ty cI cR) Z mn_Cords_branchEnd (.code mn_Cords_branchEnd mb_Cords_branchEnd 3 (some .int) :: jk_WA) (jk_rm 1 21) [.ref a_t, jk_V x1] (wd_Cords_branchEnd cI a_t a_t_starts a_t_depth a_t_topic a_t_value a_t_nibbled a_t_depth_k i_t_clusters i_t_size i_t_depth) (wd_Cords_branchEnd cI a_t a_t_starts a_t_depth a_t_topic a_t_value a_t_nibbled a_t_depth_k i_t_clusters i_t_size i_t_depth) q := by
  intro sz
  refine jk_body (by decide +kernel) (fun p e s m args below meth c hsz hz hin C => ?_) (Nat.le_of_ble_eq_true rfl)
  subst hsz
  unfold fn_Cords_branchEnd at hf
  have bk_17 : ∀ (n : Nat) (v1 : Int) (v2 : Int), fn_Cords_branchEnd_b17 n i_t_size i_t_depth v1 v2 = some q → jk_J p l e (jk_rm 1 21) s m args below meth c 0 0 (jk_QI below D jk_cl (jk_ty cI cR) (wd_Cords_branchEnd cI a_t a_t_starts a_t_depth a_t_topic a_t_value a_t_nibbled a_t_depth_k i_t_clusters i_t_size i_t_depth) (wd_Cords_branchEnd cI a_t a_t_starts a_t_depth a_t_topic a_t_value a_t_nibbled a_t_depth_k i_t_clusters i_t_size i_t_depth) args s q) D jk_cl (va_A (wd_Cords_branchEnd cI a_t a_t_starts a_t_depth a_t_topic a_t_value a_t_nibbled a_t_depth_k i_t_clusters i_t_size i_t_depth) s.heap.size) 3 (wd_Cords_branchEnd cI a_t a_t_starts a_t_depth a_t_topic a_t_value a_t_nibbled a_t_depth_k i_t_clusters i_t_size i_t_depth) [(0, .ref a_t), (1, jk_V v1), (2, jk_V v2)] 17 [] := by
    intro n
    induction n with
    | zero => intro v1 v2 hf; exact nomatch (show none = some q from hf)
    | succ n ih =>
      intro v1 v2 hf
      rw [fn_Cords_branchEnd_b17] at hf
      refine jk_iload_n C rd_Cords_branchEnd_17 (k := 2) rfl ?_
      refine jk_aload_n C rd_Cords_branchEnd_18 (k := 0) rfl ?_
      refine jk_get C in_Cords (ci := 5) rfl 1 (by decide) tm_120 0 rfl rfl rd_Cords_branchEnd_19 ?_
      refine jk_icmp_ge (tgt := 50) C rd_Cords_branchEnd_22 (by decide) hf (fun _ hf => ?_) (fun _ hf => ?_)
      · refine jk_iload_n C rd_Cords_branchEnd_50 (k := 2) rfl ?_
        cases hf
        exact jk_iret C rfl rd_Cords_branchEnd_51 rfl
      · refine jk_aload_n C rd_Cords_branchEnd_25 (k := 0) rfl ?_
        refine jk_get C in_Cords (ci := 5) rfl 3 (by decide) tm_125 0 rfl rfl rd_Cords_branchEnd_26 ?_
        refine jk_iload_n C rd_Cords_branchEnd_29 (k := 2) rfl ?_
        obtain ⟨q30, hq30, hf⟩ := jk_bind_h hf
        refine jk_callVi C hZ.1 hz (ct_Row_get l D Z sq hZ cI cR (n_t := 40) (Nat.le_of_ble_eq_true rfl) a_t_depth a_t_depth_k i_t_depth v2 q30 hq30) tm_356 tm_292 tm_293 tm_3 tm_294 na_Row_get ⟨Nat.le_of_ble_eq_true rfl, Nat.le_of_ble_eq_true rfl⟩ rfl [1, 2] rfl rfl rfl (ws' := wd_Cords_branchEnd cI a_t a_t_starts a_t_depth a_t_topic a_t_value a_t_nibbled a_t_depth_k i_t_clusters i_t_size i_t_depth) rfl 1 0 rfl rfl rfl (st := []) rfl (Nat.le_of_ble_eq_true rfl) rd_Cords_branchEnd_30 ?_ ⟨Nat.le_refl _, Nat.le_refl _⟩
        refine jk_aload_n C rd_Cords_branchEnd_33 (k := 0) rfl ?_
        refine jk_get C in_Cords (ci := 5) rfl 3 (by decide) tm_125 0 rfl rfl rd_Cords_branchEnd_34 ?_
        refine jk_iload_n C rd_Cords_branchEnd_37 (k := 1) rfl ?_
        obtain ⟨q38, hq38, hf⟩ := jk_bind_h hf
        refine jk_callVi C hZ.1 hz (ct_Row_get l D Z sq hZ cI cR (n_t := 40) (Nat.le_of_ble_eq_true rfl) a_t_depth a_t_depth_k i_t_depth v1 q38 hq38) tm_356 tm_292 tm_293 tm_3 tm_294 na_Row_get ⟨Nat.le_of_ble_eq_true rfl, Nat.le_of_ble_eq_true rfl⟩ rfl [1, 2] rfl rfl rfl (ws' := wd_Cords_branchEnd cI a_t a_t_starts a_t_depth a_t_topic a_t_value a_t_nibbled a_t_depth_k i_t_clusters i_t_size i_t_depth) rfl 1 0 rfl rfl rfl (st := [jk_V q30]) rfl (Nat.le_of_ble_eq_true rfl) rd_Cords_branchEnd_38 ?_ ⟨Nat.le_refl _, Nat.le_refl _⟩
        refine jk_icmp_le (tgt := 50) C rd_Cords_branchEnd_41 (by decide) hf (fun _ hf => ?_) (fun _ hf => ?_)
        · refine jk_iload_n C rd_Cords_branchEnd_50 (k := 2) rfl ?_
          cases hf
          exact jk_iret C rfl rd_Cords_branchEnd_51 rfl
        · refine jk_iinc C rd_Cords_branchEnd_44 (k := 2) rfl (by decide) (lv' := [(2, jk_V (v2 + 1)), (0, .ref a_t), (1, jk_V v1)]) rfl ?_
          refine jk_goto (tgt := 17) C rd_Cords_branchEnd_47 (by decide) ?_
          refine jk_lv (lv' := [(0, .ref a_t), (1, jk_V v1), (2, jk_V (v2 + 1))]) [1, 2, 0] rfl ?_
          exact ih v1 (v2 + 1) hf
  refine jk_iload_n C rd_Cords_branchEnd_0 (k := 1) rfl ?_
  refine jk_iconst C rd_Cords_branchEnd_1 ?_
  refine jk_iadd C rd_Cords_branchEnd_2 ?_
  refine jk_istore_n C rd_Cords_branchEnd_3 (by decide) (lv' := [(2, jk_V (x1 + 1)), (0, .ref a_t), (1, jk_V x1)]) rfl ?_
  refine jk_aload_n C rd_Cords_branchEnd_4 (k := 1) rfl ?_
  refine jk_get C in_Cords (ci := 5) rfl 3 (by decide) tm_125 0 rfl rfl rd_Cords_branchEnd_5 ?_
  refine jk_iload_n C rd_Cords_branchEnd_8 (k := 2) rfl ?_
  obtain ⟨q9, hq9, hf⟩ := jk_bind_h hf
  refine jk_callVi C hZ.1 hz (ct_Row_get l D Z sq hZ cI cR (n_t := 40) (Nat.le_of_ble_eq_true rfl) a_t_depth a_t_depth_k i_t_depth x1 q9 hq9) tm_356 tm_292 tm_293 tm_3 tm_294 na_Row_get ⟨Nat.le_of_ble_eq_true rfl, Nat.le_of_ble_eq_true rfl⟩ rfl [1, 2] rfl rfl rfl (ws' := wd_Cords_branchEnd cI a_t a_t_starts a_t_depth a_t_topic a_t_value a_t_nibbled a_t_depth_k i_t_clusters i_t_size i_t_depth) rfl 1 0 rfl rfl rfl (st := []) rfl (Nat.le_of_ble_eq_true rfl) rd_Cords_branchEnd_9 ?_ ⟨Nat.le_refl _, Nat.le_refl _⟩
  refine jk_if_ne (tgt := 17) C rd_Cords_branchEnd_12 (by decide) hf (fun _ hf => ?_) (fun _ hf => ?_)
  · refine jk_lv (lv' := [(0, .ref a_t), (1, jk_V x1), (2, jk_V (x1 + 1))]) [1, 2, 0] rfl ?_
    exact bk_17 jk_F x1 (x1 + 1) hf
  · refine jk_iload_n C rd_Cords_branchEnd_15 (k := 0) rfl ?_
    cases hf
    exact jk_iret C rfl rd_Cords_branchEnd_16 rfl
def wd_Cords_highestSum (cI : ClassId) (a_t a_t_starts a_t_depth a_t_topic a_t_value a_t_nibbled a_t_value_k a_t_nibbled_k : Nat) (i_t_clusters : Int) (i_t_size : Int) (i_t_value : (Int → Int)) (i_t_nibbled : (Int → Int)) : va_W := [(a_t, .inr (5, [jk_V i_t_clusters, jk_V i_t_size, .ref a_t_starts, .ref a_t_depth, .ref a_t_topic, .ref a_t_value, .ref a_t_nibbled])), (a_t_value, .inr (0, [.ref a_t_value_k])), (a_t_value_k, jk_W cI 40 i_t_value), (a_t_nibbled, .inr (0, [.ref a_t_nibbled_k])), (a_t_nibbled_k, jk_W cI 40 i_t_nibbled)]
set_option maxHeartbeats 4000000 in
set_option maxRecDepth 20000 in
theorem ct_Cords_highestSum (l : Launch) (D : va_G) (Z : (Nat → Prop) → State → Heap → Prop) (sq : Nat → Nat) (hZ : jk_ZK Z sq) (cI cR : ClassId) (a_t a_t_starts a_t_depth a_t_topic a_t_value a_t_nibbled a_t_value_k a_t_nibbled_k : Nat) (i_t_clusters : Int) (i_t_size : Int) (i_t_value : (Int → Int)) (i_t_nibbled : (Int → Int)) (x1 : Int) (x2 : Int) (q : Int) (hf : fn_Cords_highestSum i_t_value i_t_nibbled x1 x2 = some q) : jk_MI l D jk_cl (jk_ty cI cR) Z mn_Cords_highestSum (.code mn_Cords_highestSum mb_Cords_highestSum 5 (some .int) :: jk_WA) (jk_rm 1 21) [.ref a_t, jk_V x1, jk_V x2] (wd_Cords_highestSum cI a_t a_t_starts a_t_depth a_t_topic a_t_value a_t_nibbled a_t_value_k a_t_nibbled_k i_t_clusters i_t_size i_t_value i_t_nibbled) (wd_Cords_highestSum cI a_t a_t_starts a_t_depth a_t_topic a_t_value a_t_nibbled a_t_value_k a_t_nibbled_k i_t_clusters i_t_size i_t_value i_t_nibbled) q := by
  intro sz
  refine jk_body (by decide +kernel) (fun p e s m args below meth c hsz hz hin C => ?_) (Nat.le_of_ble_eq_true rfl)
  subst hsz
  unfold fn_Cords_highestSum at hf
  have bk_5 : ∀ (n : Nat) (v2 : Int) (v3 : Int) (v4 : Int), fn_Cords_highestSum_b5 n i_t_value i_t_nibbled v2 v3 v4 = some q → jk_J p l e (jk_rm 1 21) s m args below meth c 0 0 (jk_QI below D jk_cl (jk_ty cI cR) (wd_Cords_highestSum cI a_t a_t_starts a_t_depth a_t_topic a_t_value a_t_nibbled a_t_value_k a_t_nibbled_k i_t_clusters i_t_size i_t_value i_t_nibbled) (wd_Cords_highestSum cI a_t a_t_starts a_t_depth a_t_topic a_t_value a_t_nibbled a_t_value_k a_t_nibbled_k i_t_clusters i_t_size i_t_value i_t_nibbled) args s q) D jk_cl (va_A (wd_Cords_highestSum cI a_t a_t_starts a_t_depth a_t_topic a_t_value a_t_nibbled a_t_value_k a_t_nibbled_k i_t_clusters i_t_size i_t_value i_t_nibbled) s.heap.size) 5 (wd_Cords_highestSum cI a_t a_t_starts a_t_depth a_t_topic a_t_value a_t_nibbled a_t_value_k a_t_nibbled_k i_t_clusters i_t_size i_t_value i_t_nibbled) [(0, .ref a_t), (2, jk_V v2), (3, jk_V v3), (4, jk_V v4)] 5 [] := by
    intro n
    induction n with
    | zero => intro v2 v3 v4 hf; exact nomatch (show none = some q from hf)
    | succ n ih =>
      intro v2 v3 v4 hf
      rw [fn_Cords_highestSum_b5] at hf
      refine jk_iload C rd_Cords_highestSum_5 (k := 3) rfl ?_
      refine jk_iload_n C rd_Cords_highestSum_7 (k := 1) rfl ?_
      refine jk_icmp_ge (tgt := 44) C rd_Cords_highestSum_8 (by decide) hf (fun _ hf => ?_) (fun _ hf => ?_)
      · refine jk_iload_n C rd_Cords_highestSum_44 (k := 2) rfl ?_
        cases hf
        exact jk_iret C rfl rd_Cords_highestSum_45 rfl
      · refine jk_iload_n C rd_Cords_highestSum_11 (k := 2) rfl ?_
        refine jk_aload_n C rd_Cords_highestSum_12 (k := 0) rfl ?_
        refine jk_get C in_Cords (ci := 5) rfl 5 (by decide) tm_130 0 rfl rfl rd_Cords_highestSum_13 ?_
        refine jk_iload C rd_Cords_highestSum_16 (k := 3) rfl ?_
        obtain ⟨q18, hq18, hf⟩ := jk_bind_h hf
        refine jk_callVi C hZ.1 hz (ct_Row_get l D Z sq hZ cI cR (n_t := 40) (Nat.le_of_ble_eq_true rfl) a_t_value a_t_value_k i_t_value v4 q18 hq18) tm_356 tm_292 tm_293 tm_3 tm_294 na_Row_get ⟨Nat.le_of_ble_eq_true rfl, Nat.le_of_ble_eq_true rfl⟩ rfl [1, 2] rfl rfl rfl (ws' := wd_Cords_highestSum cI a_t a_t_starts a_t_depth a_t_topic a_t_value a_t_nibbled a_t_value_k a_t_nibbled_k i_t_clusters i_t_size i_t_value i_t_nibbled) rfl 1 0 rfl rfl rfl (st := [jk_V v3]) rfl (Nat.le_of_ble_eq_true rfl) rd_Cords_highestSum_18 ?_ ⟨Nat.le_refl _, Nat.le_refl _⟩
        refine jk_aload_n C rd_Cords_highestSum_21 (k := 0) rfl ?_
        refine jk_get C in_Cords (ci := 5) rfl 6 (by decide) tm_133 0 rfl rfl rd_Cords_highestSum_22 ?_
        refine jk_iload C rd_Cords_highestSum_25 (k := 3) rfl ?_
        obtain ⟨q27, hq27, hf⟩ := jk_bind_h hf
        refine jk_callVi C hZ.1 hz (ct_Row_get l D Z sq hZ cI cR (n_t := 40) (Nat.le_of_ble_eq_true rfl) a_t_nibbled a_t_nibbled_k i_t_nibbled v4 q27 hq27) tm_356 tm_292 tm_293 tm_3 tm_294 na_Row_get ⟨Nat.le_of_ble_eq_true rfl, Nat.le_of_ble_eq_true rfl⟩ rfl [3, 4] rfl rfl rfl (ws' := wd_Cords_highestSum cI a_t a_t_starts a_t_depth a_t_topic a_t_value a_t_nibbled a_t_value_k a_t_nibbled_k i_t_clusters i_t_size i_t_value i_t_nibbled) rfl 3 0 rfl rfl rfl (st := [jk_V q18, jk_V v3]) rfl (Nat.le_of_ble_eq_true rfl) rd_Cords_highestSum_27 ?_ ⟨Nat.le_refl _, Nat.le_refl _⟩
        obtain ⟨q30, hq30, hf⟩ := jk_bind_h hf
        refine jk_callSi C hZ.1 hz (ct_Knots_power l D Z sq hZ cI cR q27 q30 hq30) tm_665 tm_418 tm_14 tm_419 na_Knots_power ⟨Nat.le_of_ble_eq_true rfl, Nat.le_of_ble_eq_true rfl⟩ rfl [] rfl rfl rfl (ws' := wd_Cords_highestSum cI a_t a_t_starts a_t_depth a_t_topic a_t_value a_t_nibbled a_t_value_k a_t_nibbled_k i_t_clusters i_t_size i_t_value i_t_nibbled) rfl (st := [jk_V q18, jk_V v3]) rfl (Nat.le_of_ble_eq_true rfl) rd_Cords_highestSum_30 ?_ ⟨Nat.le_refl _, Nat.le_refl _⟩
        refine jk_iadd C rd_Cords_highestSum_33 ?_
        refine jk_iconst C rd_Cords_highestSum_34 ?_
        refine jk_isub C rd_Cords_highestSum_35 ?_
        refine jk_iadd C rd_Cords_highestSum_36 ?_
        refine jk_istore_n C rd_Cords_highestSum_37 (by decide) (lv' := [(3, jk_V (v3 + ((q18 + q30) - 1))), (0, .ref a_t), (2, jk_V v2), (4, jk_V v4)]) rfl ?_
        refine jk_iinc C rd_Cords_highestSum_38 (k := 3) rfl (by decide) (lv' := [(4, jk_V (v4 + 1)), (3, jk_V (v3 + ((q18 + q30) - 1))), (0, .ref a_t), (2, jk_V v2)]) rfl ?_
        refine jk_goto (tgt := 5) C rd_Cords_highestSum_41 (by decide) ?_
        refine jk_lv (lv' := [(0, .ref a_t), (2, jk_V v2), (3, jk_V (v3 + ((q18 + q30) - 1))), (4, jk_V (v4 + 1))]) [2, 3, 1, 0] rfl ?_
        exact ih v2 (v3 + ((q18 + q30) - 1)) (v4 + 1) hf
  refine jk_iconst C rd_Cords_highestSum_0 ?_
  refine jk_istore_n C rd_Cords_highestSum_1 (by decide) (lv' := [(3, jk_V 0), (0, .ref a_t), (1, jk_V x1), (2, jk_V x2)]) rfl ?_
  refine jk_iload_n C rd_Cords_highestSum_2 (k := 2) rfl ?_
  refine jk_istore C rd_Cords_highestSum_3 (by decide) (lv' := [(4, jk_V x1), (3, jk_V 0), (0, .ref a_t), (1, jk_V x1), (2, jk_V x2)]) rfl ?_
  refine jk_lv (lv' := [(0, .ref a_t), (2, jk_V x2), (3, jk_V 0), (4, jk_V x1)]) [2, 4, 1, 0] rfl ?_
  exact bk_5 jk_F x2 0 x1 hf
def wd_Cords_lowestSum (cI : ClassId) (a_t a_t_starts a_t_depth a_t_topic a_t_value a_t_nibbled a_t_value_k : Nat) (i_t_clusters : Int) (i_t_size : Int) (i_t_value : (Int → Int)) : va_W := [(a_t, .inr (5, [jk_V i_t_clusters, jk_V i_t_size, .ref a_t_starts, .ref a_t_depth, .ref a_t_topic, .ref a_t_value, .ref a_t_nibbled])), (a_t_value, .inr (0, [.ref a_t_value_k])), (a_t_value_k, jk_W cI 40 i_t_value)]
set_option maxHeartbeats 4000000 in
set_option maxRecDepth 20000 in
theorem ct_Cords_lowestSum (l : Launch) (D : va_G) (Z : (Nat → Prop) → State → Heap → Prop) (sq : Nat → Nat) (hZ : jk_ZK Z sq) (cI cR : ClassId) (a_t a_t_starts a_t_depth a_t_topic a_t_value a_t_nibbled a_t_value_k : Nat) (i_t_clusters : Int) (i_t_size : Int) (i_t_value : (Int → Int)) (x1 : Int) (x2 : Int) (q : Int) (hf : fn_Cords_lowestSum i_t_value x1 x2 = some q) : jk_MI l D jk_cl (jk_ty cI cR) Z mn_Cords_lowestSum (.code mn_Cords_lowestSum mb_Cords_lowestSum 5 (some .int) :: jk_WA) (jk_rm 1 21) [.ref a_t, jk_V x1, jk_V x2] (wd_Cords_lowestSum cI a_t a_t_starts a_t_depth a_t_topic a_t_value a_t_nibbled a_t_value_k i_t_clusters i_t_size i_t_value) (wd_Cords_lowestSum cI a_t a_t_starts a_t_depth a_t_topic a_t_value a_t_nibbled a_t_value_k i_t_clusters i_t_size i_t_value) q := by
  intro sz
  refine jk_body (by decide +kernel) (fun p e s m args below meth c hsz hz hin C => ?_) (Nat.le_of_ble_eq_true rfl)
  subst hsz
  unfold fn_Cords_lowestSum at hf
  have bk_5 : ∀ (n : Nat) (v2 : Int) (v3 : Int) (v4 : Int), fn_Cords_lowestSum_b5 n i_t_value v2 v3 v4 = some q → jk_J p l e (jk_rm 1 21) s m args below meth c 0 0 (jk_QI below D jk_cl (jk_ty cI cR) (wd_Cords_lowestSum cI a_t a_t_starts a_t_depth a_t_topic a_t_value a_t_nibbled a_t_value_k i_t_clusters i_t_size i_t_value) (wd_Cords_lowestSum cI a_t a_t_starts a_t_depth a_t_topic a_t_value a_t_nibbled a_t_value_k i_t_clusters i_t_size i_t_value) args s q) D jk_cl (va_A (wd_Cords_lowestSum cI a_t a_t_starts a_t_depth a_t_topic a_t_value a_t_nibbled a_t_value_k i_t_clusters i_t_size i_t_value) s.heap.size) 5 (wd_Cords_lowestSum cI a_t a_t_starts a_t_depth a_t_topic a_t_value a_t_nibbled a_t_value_k i_t_clusters i_t_size i_t_value) [(0, .ref a_t), (2, jk_V v2), (3, jk_V v3), (4, jk_V v4)] 5 [] := by
    intro n
    induction n with
    | zero => intro v2 v3 v4 hf; exact nomatch (show none = some q from hf)
    | succ n ih =>
      intro v2 v3 v4 hf
      rw [fn_Cords_lowestSum_b5] at hf
      refine jk_iload C rd_Cords_lowestSum_5 (k := 3) rfl ?_
      refine jk_iload_n C rd_Cords_lowestSum_7 (k := 1) rfl ?_
      refine jk_icmp_ge (tgt := 29) C rd_Cords_lowestSum_8 (by decide) hf (fun _ hf => ?_) (fun _ hf => ?_)
      · refine jk_iload_n C rd_Cords_lowestSum_29 (k := 2) rfl ?_
        cases hf
        exact jk_iret C rfl rd_Cords_lowestSum_30 rfl
      · refine jk_iload_n C rd_Cords_lowestSum_11 (k := 2) rfl ?_
        refine jk_aload_n C rd_Cords_lowestSum_12 (k := 0) rfl ?_
        refine jk_get C in_Cords (ci := 5) rfl 5 (by decide) tm_130 0 rfl rfl rd_Cords_lowestSum_13 ?_
        refine jk_iload C rd_Cords_lowestSum_16 (k := 3) rfl ?_
        obtain ⟨q18, hq18, hf⟩ := jk_bind_h hf
        refine jk_callVi C hZ.1 hz (ct_Row_get l D Z sq hZ cI cR (n_t := 40) (Nat.le_of_ble_eq_true rfl) a_t_value a_t_value_k i_t_value v4 q18 hq18) tm_356 tm_292 tm_293 tm_3 tm_294 na_Row_get ⟨Nat.le_of_ble_eq_true rfl, Nat.le_of_ble_eq_true rfl⟩ rfl [1, 2] rfl rfl rfl (ws' := wd_Cords_lowestSum cI a_t a_t_starts a_t_depth a_t_topic a_t_value a_t_nibbled a_t_value_k i_t_clusters i_t_size i_t_value) rfl 1 0 rfl rfl rfl (st := [jk_V v3]) rfl (Nat.le_of_ble_eq_true rfl) rd_Cords_lowestSum_18 ?_ ⟨Nat.le_refl _, Nat.le_refl _⟩
        refine jk_iadd C rd_Cords_lowestSum_21 ?_
        refine jk_istore_n C rd_Cords_lowestSum_22 (by decide) (lv' := [(3, jk_V (v3 + q18)), (0, .ref a_t), (2, jk_V v2), (4, jk_V v4)]) rfl ?_
        refine jk_iinc C rd_Cords_lowestSum_23 (k := 3) rfl (by decide) (lv' := [(4, jk_V (v4 + 1)), (3, jk_V (v3 + q18)), (0, .ref a_t), (2, jk_V v2)]) rfl ?_
        refine jk_goto (tgt := 5) C rd_Cords_lowestSum_26 (by decide) ?_
        refine jk_lv (lv' := [(0, .ref a_t), (2, jk_V v2), (3, jk_V (v3 + q18)), (4, jk_V (v4 + 1))]) [2, 3, 1, 0] rfl ?_
        exact ih v2 (v3 + q18) (v4 + 1) hf
  refine jk_iconst C rd_Cords_lowestSum_0 ?_
  refine jk_istore_n C rd_Cords_lowestSum_1 (by decide) (lv' := [(3, jk_V 0), (0, .ref a_t), (1, jk_V x1), (2, jk_V x2)]) rfl ?_
  refine jk_iload_n C rd_Cords_lowestSum_2 (k := 2) rfl ?_
  refine jk_istore C rd_Cords_lowestSum_3 (by decide) (lv' := [(4, jk_V x1), (3, jk_V 0), (0, .ref a_t), (1, jk_V x1), (2, jk_V x2)]) rfl ?_
  refine jk_lv (lv' := [(0, .ref a_t), (2, jk_V x2), (3, jk_V 0), (4, jk_V x1)]) [2, 4, 1, 0] rfl ?_
  exact bk_5 jk_F x2 0 x1 hf
def wd_Cords_nibbledAmong (cI : ClassId) (a_t a_t_starts a_t_depth a_t_topic a_t_value a_t_nibbled a_t_nibbled_k : Nat) (i_t_clusters : Int) (i_t_size : Int) (i_t_nibbled : (Int → Int)) : va_W := [(a_t, .inr (5, [jk_V i_t_clusters, jk_V i_t_size, .ref a_t_starts, .ref a_t_depth, .ref a_t_topic, .ref a_t_value, .ref a_t_nibbled])), (a_t_nibbled, .inr (0, [.ref a_t_nibbled_k])), (a_t_nibbled_k, jk_W cI 40 i_t_nibbled)]
set_option maxHeartbeats 4000000 in
set_option maxRecDepth 20000 in
theorem ct_Cords_nibbledAmong (l : Launch) (D : va_G) (Z : (Nat → Prop) → State → Heap → Prop) (sq : Nat → Nat) (hZ : jk_ZK Z sq) (cI cR : ClassId) (a_t a_t_starts a_t_depth a_t_topic a_t_value a_t_nibbled a_t_nibbled_k : Nat) (i_t_clusters : Int) (i_t_size : Int) (i_t_nibbled : (Int → Int)) (x1 : Int) (x2 : Int) (q : Int) (hf : fn_Cords_nibbledAmong i_t_nibbled x1 x2 = some q) : jk_MI l D jk_cl (jk_ty cI cR) Z mn_Cords_nibbledAmong (.code mn_Cords_nibbledAmong mb_Cords_nibbledAmong 5 (some .int) :: jk_WA) (jk_rm 1 21) [.ref a_t, jk_V x1, jk_V x2] (wd_Cords_nibbledAmong cI a_t a_t_starts a_t_depth a_t_topic a_t_value a_t_nibbled a_t_nibbled_k i_t_clusters i_t_size i_t_nibbled) (wd_Cords_nibbledAmong cI a_t a_t_starts a_t_depth a_t_topic a_t_value a_t_nibbled a_t_nibbled_k i_t_clusters i_t_size i_t_nibbled) q := by
  intro sz
  refine jk_body (by decide +kernel) (fun p e s m args below meth c hsz hz hin C => ?_) (Nat.le_of_ble_eq_true rfl)
  subst hsz
  unfold fn_Cords_nibbledAmong at hf
  have bk_5 : ∀ (n : Nat) (v2 : Int) (v3 : Int) (v4 : Int), fn_Cords_nibbledAmong_b5 n i_t_nibbled v2 v3 v4 = some q → jk_J p l e (jk_rm 1 21) s m args below meth c 0 0 (jk_QI below D jk_cl (jk_ty cI cR) (wd_Cords_nibbledAmong cI a_t a_t_starts a_t_depth a_t_topic a_t_value a_t_nibbled a_t_nibbled_k i_t_clusters i_t_size i_t_nibbled) (wd_Cords_nibbledAmong cI a_t a_t_starts a_t_depth a_t_topic a_t_value a_t_nibbled a_t_nibbled_k i_t_clusters i_t_size i_t_nibbled) args s q) D jk_cl (va_A (wd_Cords_nibbledAmong cI a_t a_t_starts a_t_depth a_t_topic a_t_value a_t_nibbled a_t_nibbled_k i_t_clusters i_t_size i_t_nibbled) s.heap.size) 5 (wd_Cords_nibbledAmong cI a_t a_t_starts a_t_depth a_t_topic a_t_value a_t_nibbled a_t_nibbled_k i_t_clusters i_t_size i_t_nibbled) [(0, .ref a_t), (2, jk_V v2), (3, jk_V v3), (4, jk_V v4)] 5 [] := by
    intro n
    induction n with
    | zero => intro v2 v3 v4 hf; exact nomatch (show none = some q from hf)
    | succ n ih =>
      intro v2 v3 v4 hf
      rw [fn_Cords_nibbledAmong_b5] at hf
      refine jk_iload C rd_Cords_nibbledAmong_5 (k := 3) rfl ?_
      refine jk_iload_n C rd_Cords_nibbledAmong_7 (k := 1) rfl ?_
      refine jk_icmp_ge (tgt := 32) C rd_Cords_nibbledAmong_8 (by decide) hf (fun _ hf => ?_) (fun _ hf => ?_)
      · refine jk_iload_n C rd_Cords_nibbledAmong_32 (k := 2) rfl ?_
        cases hf
        exact jk_iret C rfl rd_Cords_nibbledAmong_33 rfl
      · refine jk_aload_n C rd_Cords_nibbledAmong_11 (k := 0) rfl ?_
        refine jk_get C in_Cords (ci := 5) rfl 6 (by decide) tm_133 0 rfl rfl rd_Cords_nibbledAmong_12 ?_
        refine jk_iload C rd_Cords_nibbledAmong_15 (k := 3) rfl ?_
        obtain ⟨q17, hq17, hf⟩ := jk_bind_h hf
        refine jk_callVi C hZ.1 hz (ct_Row_get l D Z sq hZ cI cR (n_t := 40) (Nat.le_of_ble_eq_true rfl) a_t_nibbled a_t_nibbled_k i_t_nibbled v4 q17 hq17) tm_356 tm_292 tm_293 tm_3 tm_294 na_Row_get ⟨Nat.le_of_ble_eq_true rfl, Nat.le_of_ble_eq_true rfl⟩ rfl [1, 2] rfl rfl rfl (ws' := wd_Cords_nibbledAmong cI a_t a_t_starts a_t_depth a_t_topic a_t_value a_t_nibbled a_t_nibbled_k i_t_clusters i_t_size i_t_nibbled) rfl 1 0 rfl rfl rfl (st := []) rfl (Nat.le_of_ble_eq_true rfl) rd_Cords_nibbledAmong_17 ?_ ⟨Nat.le_refl _, Nat.le_refl _⟩
        refine jk_if_le (tgt := 26) C rd_Cords_nibbledAmong_20 (by decide) hf (fun _ hf => ?_) (fun _ hf => ?_)
        · refine jk_iinc C rd_Cords_nibbledAmong_26 (k := 3) rfl (by decide) (lv' := [(4, jk_V (v4 + 1)), (0, .ref a_t), (2, jk_V v2), (3, jk_V v3)]) rfl ?_
          refine jk_goto (tgt := 5) C rd_Cords_nibbledAmong_29 (by decide) ?_
          refine jk_lv (lv' := [(0, .ref a_t), (2, jk_V v2), (3, jk_V v3), (4, jk_V (v4 + 1))]) [1, 2, 3, 0] rfl ?_
          exact ih v2 v3 (v4 + 1) hf
        · refine jk_iinc C rd_Cords_nibbledAmong_23 (k := 2) rfl (by decide) (lv' := [(3, jk_V (v3 + 1)), (0, .ref a_t), (2, jk_V v2), (4, jk_V v4)]) rfl ?_
          refine jk_iinc C rd_Cords_nibbledAmong_26 (k := 3) rfl (by decide) (lv' := [(4, jk_V (v4 + 1)), (3, jk_V (v3 + 1)), (0, .ref a_t), (2, jk_V v2)]) rfl ?_
          refine jk_goto (tgt := 5) C rd_Cords_nibbledAmong_29 (by decide) ?_
          refine jk_lv (lv' := [(0, .ref a_t), (2, jk_V v2), (3, jk_V (v3 + 1)), (4, jk_V (v4 + 1))]) [2, 3, 1, 0] rfl ?_
          exact ih v2 (v3 + 1) (v4 + 1) hf
  refine jk_iconst C rd_Cords_nibbledAmong_0 ?_
  refine jk_istore_n C rd_Cords_nibbledAmong_1 (by decide) (lv' := [(3, jk_V 0), (0, .ref a_t), (1, jk_V x1), (2, jk_V x2)]) rfl ?_
  refine jk_iload_n C rd_Cords_nibbledAmong_2 (k := 2) rfl ?_
  refine jk_istore C rd_Cords_nibbledAmong_3 (by decide) (lv' := [(4, jk_V x1), (3, jk_V 0), (0, .ref a_t), (1, jk_V x1), (2, jk_V x2)]) rfl ?_
  refine jk_lv (lv' := [(0, .ref a_t), (2, jk_V x2), (3, jk_V 0), (4, jk_V x1)]) [2, 4, 1, 0] rfl ?_
  exact bk_5 jk_F x2 0 x1 hf
def wd_Cords_pendantStart (cI : ClassId) (a_t a_t_starts a_t_depth a_t_topic a_t_value a_t_nibbled a_t_starts_k a_t_depth_k : Nat) (i_t_clusters : Int) (i_t_size : Int) (i_t_starts : (Int → Int)) (i_t_depth : (Int → Int)) : va_W := [(a_t, .inr (5, [jk_V i_t_clusters, jk_V i_t_size, .ref a_t_starts, .ref a_t_depth, .ref a_t_topic, .ref a_t_value, .ref a_t_nibbled])), (a_t_starts, .inr (0, [.ref a_t_starts_k])), (a_t_starts_k, jk_W cI 7 i_t_starts), (a_t_depth, .inr (0, [.ref a_t_depth_k])), (a_t_depth_k, jk_W cI 40 i_t_depth)]
set_option maxHeartbeats 4000000 in
set_option maxRecDepth 20000 in
theorem ct_Cords_pendantStart (l : Launch) (D : va_G) (Z : (Nat → Prop) → State → Heap → Prop) (sq : Nat → Nat) (hZ : jk_ZK Z sq) (cI cR : ClassId) (a_t a_t_starts a_t_depth a_t_topic a_t_value a_t_nibbled a_t_starts_k a_t_depth_k : Nat) (i_t_clusters : Int) (i_t_size : Int) (i_t_starts : (Int → Int)) (i_t_depth : (Int → Int)) (x1 : Int) (q : Int) (hf : fn_Cords_pendantStart i_t_starts i_t_depth x1 = some q) : jk_MI l D jk_cl (jk_ty cI cR) Z mn_Cords_pendantStart (.code mn_Cords_pendantStart mb_Cords_pendantStart 3 (some .int) :: jk_WA) (jk_rm 1 21) [.ref a_t, jk_V x1] (wd_Cords_pendantStart cI a_t a_t_starts a_t_depth a_t_topic a_t_value a_t_nibbled a_t_starts_k a_t_depth_k i_t_clusters i_t_size i_t_starts i_t_depth) (wd_Cords_pendantStart cI a_t a_t_starts a_t_depth a_t_topic a_t_value a_t_nibbled a_t_starts_k a_t_depth_k i_t_clusters i_t_size i_t_starts i_t_depth) q := by
  intro sz
  refine jk_body (by decide +kernel) (fun p e s m args below meth c hsz hz hin C => ?_) (Nat.le_of_ble_eq_true rfl)
  subst hsz
  unfold fn_Cords_pendantStart at hf
  refine jk_aload_n C rd_Cords_pendantStart_0 (k := 0) rfl ?_
  refine jk_get C in_Cords (ci := 5) rfl 2 (by decide) tm_124 0 rfl rfl rd_Cords_pendantStart_1 ?_
  refine jk_iload_n C rd_Cords_pendantStart_4 (k := 1) rfl ?_
  obtain ⟨q5, hq5, hf⟩ := jk_bind_h hf
  refine jk_callVi C hZ.1 hz (ct_Row_get l D Z sq hZ cI cR (n_t := 7) (Nat.le_of_ble_eq_true rfl) a_t_starts a_t_starts_k i_t_starts x1 q5 hq5) tm_356 tm_292 tm_293 tm_3 tm_294 na_Row_get ⟨Nat.le_of_ble_eq_true rfl, Nat.le_of_ble_eq_true rfl⟩ rfl [1, 2] rfl rfl rfl (ws' := wd_Cords_pendantStart cI a_t a_t_starts a_t_depth a_t_topic a_t_value a_t_nibbled a_t_starts_k a_t_depth_k i_t_clusters i_t_size i_t_starts i_t_depth) rfl 1 0 rfl rfl rfl (st := []) rfl (Nat.le_of_ble_eq_true rfl) rd_Cords_pendantStart_5 ?_ ⟨Nat.le_refl _, Nat.le_refl _⟩
  refine jk_istore_n C rd_Cords_pendantStart_8 (by decide) (lv' := [(2, jk_V q5), (0, .ref a_t), (1, jk_V x1)]) rfl ?_
  refine jk_iload_n C rd_Cords_pendantStart_9 (k := 0) rfl ?_
  refine jk_aload_n C rd_Cords_pendantStart_10 (k := 1) rfl ?_
  refine jk_get C in_Cords (ci := 5) rfl 2 (by decide) tm_124 0 rfl rfl rd_Cords_pendantStart_11 ?_
  refine jk_iload_n C rd_Cords_pendantStart_14 (k := 2) rfl ?_
  refine jk_iconst C rd_Cords_pendantStart_15 ?_
  refine jk_iadd C rd_Cords_pendantStart_16 ?_
  obtain ⟨q17, hq17, hf⟩ := jk_bind_h hf
  refine jk_callVi C hZ.1 hz (ct_Row_get l D Z sq hZ cI cR (n_t := 7) (Nat.le_of_ble_eq_true rfl) a_t_starts a_t_starts_k i_t_starts (x1 + 1) q17 hq17) tm_356 tm_292 tm_293 tm_3 tm_294 na_Row_get ⟨Nat.le_of_ble_eq_true rfl, Nat.le_of_ble_eq_true rfl⟩ rfl [1, 2] rfl rfl rfl (ws' := wd_Cords_pendantStart cI a_t a_t_starts a_t_depth a_t_topic a_t_value a_t_nibbled a_t_starts_k a_t_depth_k i_t_clusters i_t_size i_t_starts i_t_depth) rfl 1 0 rfl rfl rfl (st := [jk_V q5]) rfl (Nat.le_of_ble_eq_true rfl) rd_Cords_pendantStart_17 ?_ ⟨Nat.le_refl _, Nat.le_refl _⟩
  refine jk_icmp_ge (tgt := 40) C rd_Cords_pendantStart_20 (by decide) hf (fun _ hf => ?_) (fun _ hf => ?_)
  · refine jk_iload_n C rd_Cords_pendantStart_40 (k := 0) rfl ?_
    cases hf
    exact jk_iret C rfl rd_Cords_pendantStart_41 rfl
  · refine jk_aload_n C rd_Cords_pendantStart_23 (k := 1) rfl ?_
    refine jk_get C in_Cords (ci := 5) rfl 3 (by decide) tm_125 0 rfl rfl rd_Cords_pendantStart_24 ?_
    refine jk_iload_n C rd_Cords_pendantStart_27 (k := 0) rfl ?_
    obtain ⟨q28, hq28, hf⟩ := jk_bind_h hf
    refine jk_callVi C hZ.1 hz (ct_Row_get l D Z sq hZ cI cR (n_t := 40) (Nat.le_of_ble_eq_true rfl) a_t_depth a_t_depth_k i_t_depth q5 q28 hq28) tm_356 tm_292 tm_293 tm_3 tm_294 na_Row_get ⟨Nat.le_of_ble_eq_true rfl, Nat.le_of_ble_eq_true rfl⟩ rfl [3, 4] rfl rfl rfl (ws' := wd_Cords_pendantStart cI a_t a_t_starts a_t_depth a_t_topic a_t_value a_t_nibbled a_t_starts_k a_t_depth_k i_t_clusters i_t_size i_t_starts i_t_depth) rfl 3 0 rfl rfl rfl (st := []) rfl (Nat.le_of_ble_eq_true rfl) rd_Cords_pendantStart_28 ?_ ⟨Nat.le_refl _, Nat.le_refl _⟩
    refine jk_if_ne (tgt := 40) C rd_Cords_pendantStart_31 (by decide) hf (fun _ hf => ?_) (fun _ hf => ?_)
    · refine jk_iload_n C rd_Cords_pendantStart_40 (k := 0) rfl ?_
      cases hf
      exact jk_iret C rfl rd_Cords_pendantStart_41 rfl
    · refine jk_iload_n C rd_Cords_pendantStart_34 (k := 0) rfl ?_
      refine jk_iconst C rd_Cords_pendantStart_35 ?_
      refine jk_iadd C rd_Cords_pendantStart_36 ?_
      refine jk_goto (tgt := 41) C rd_Cords_pendantStart_37 (by decide) ?_
      cases hf
      exact jk_iret C rfl rd_Cords_pendantStart_41 rfl
def wd_Cords_hasKnownSum (cI : ClassId) (a_t a_t_starts a_t_depth a_t_topic a_t_value a_t_nibbled a_t_starts_k a_t_depth_k a_t_nibbled_k : Nat) (i_t_clusters : Int) (i_t_size : Int) (i_t_starts : (Int → Int)) (i_t_depth : (Int → Int)) (i_t_nibbled : (Int → Int)) : va_W := [(a_t, .inr (5, [jk_V i_t_clusters, jk_V i_t_size, .ref a_t_starts, .ref a_t_depth, .ref a_t_topic, .ref a_t_value, .ref a_t_nibbled])), (a_t_starts, .inr (0, [.ref a_t_starts_k])), (a_t_starts_k, jk_W cI 7 i_t_starts), (a_t_depth, .inr (0, [.ref a_t_depth_k])), (a_t_depth_k, jk_W cI 40 i_t_depth), (a_t_nibbled, .inr (0, [.ref a_t_nibbled_k])), (a_t_nibbled_k, jk_W cI 40 i_t_nibbled)]
set_option maxHeartbeats 4000000 in
set_option maxRecDepth 20000 in
theorem ct_Cords_hasKnownSum (l : Launch) (D : va_G) (Z : (Nat → Prop) → State → Heap → Prop) (sq : Nat → Nat) (hZ : jk_ZK Z sq) (cI cR : ClassId) (a_t a_t_starts a_t_depth a_t_topic a_t_value a_t_nibbled a_t_starts_k a_t_depth_k a_t_nibbled_k : Nat) (i_t_clusters : Int) (i_t_size : Int) (i_t_starts : (Int → Int)) (i_t_depth : (Int → Int)) (i_t_nibbled : (Int → Int)) (x1 : Int) (q : Int) (hf : fn_Cords_hasKnownSum i_t_starts i_t_depth i_t_nibbled x1 = some q) : jk_MI l D jk_cl (jk_ty cI cR) Z mn_Cords_hasKnownSum (.code mn_Cords_hasKnownSum mb_Cords_hasKnownSum 2 (some .boolean) :: jk_WA) (jk_rm 2 45) [.ref a_t, jk_V x1] (wd_Cords_hasKnownSum cI a_t a_t_starts a_t_depth a_t_topic a_t_value a_t_nibbled a_t_starts_k a_t_depth_k a_t_nibbled_k i_t_clusters i_t_size i_t_starts i_t_depth i_t_nibbled) (wd_Cords_hasKnownSum cI a_t a_t_starts a_t_depth a_t_topic a_t_value a_t_nibbled a_t_starts_k a_t_depth_k a_t_nibbled_k i_t_clusters i_t_size i_t_starts i_t_depth i_t_nibbled) q := by
  intro sz
  refine jk_body (by decide +kernel) (fun p e s m args below meth c hsz hz hin C => ?_) (Nat.le_of_ble_eq_true rfl)
  subst hsz
  unfold fn_Cords_hasKnownSum at hf
  refine jk_aload_n C rd_Cords_hasKnownSum_0 (k := 0) rfl ?_
  refine jk_aload_n C rd_Cords_hasKnownSum_1 (k := 0) rfl ?_
  refine jk_iload_n C rd_Cords_hasKnownSum_2 (k := 1) rfl ?_
  obtain ⟨q3, hq3, hf⟩ := jk_bind_h hf
  refine jk_callVi C hZ.1 hz (ct_Cords_pendantStart l D Z sq hZ cI cR a_t a_t_starts a_t_depth a_t_topic a_t_value a_t_nibbled a_t_starts_k a_t_depth_k i_t_clusters i_t_size i_t_starts i_t_depth x1 q3 hq3) tm_352 tm_353 tm_354 tm_6 tm_355 na_Cords_pendantStart ⟨Nat.le_of_ble_eq_true rfl, Nat.le_of_ble_eq_true rfl⟩ rfl [0, 1, 2, 3, 4] rfl rfl rfl (ws' := wd_Cords_hasKnownSum cI a_t a_t_starts a_t_depth a_t_topic a_t_value a_t_nibbled a_t_starts_k a_t_depth_k a_t_nibbled_k i_t_clusters i_t_size i_t_starts i_t_depth i_t_nibbled) rfl 0 5 rfl rfl rfl (st := [.ref a_t]) rfl (Nat.le_of_ble_eq_true rfl) rd_Cords_hasKnownSum_3 ?_ ⟨Nat.le_refl _, Nat.le_refl _⟩
  refine jk_aload_n C rd_Cords_hasKnownSum_6 (k := 0) rfl ?_
  refine jk_iload_n C rd_Cords_hasKnownSum_7 (k := 1) rfl ?_
  obtain ⟨q8, hq8, hf⟩ := jk_bind_h hf
  refine jk_callVi C hZ.1 hz (ct_Cords_end l D Z sq hZ cI cR a_t a_t_starts a_t_depth a_t_topic a_t_value a_t_nibbled a_t_starts_k i_t_clusters i_t_size i_t_starts x1 q8 hq8) tm_591 tm_584 tm_585 tm_6 tm_586 na_Cords_end ⟨Nat.le_of_ble_eq_true rfl, Nat.le_of_ble_eq_true rfl⟩ rfl [0, 1, 2] rfl rfl rfl (ws' := wd_Cords_hasKnownSum cI a_t a_t_starts a_t_depth a_t_topic a_t_value a_t_nibbled a_t_starts_k a_t_depth_k a_t_nibbled_k i_t_clusters i_t_size i_t_starts i_t_depth i_t_nibbled) rfl 0 5 rfl rfl rfl (st := [jk_V q3, .ref a_t]) rfl (Nat.le_of_ble_eq_true rfl) rd_Cords_hasKnownSum_8 ?_ ⟨Nat.le_refl _, Nat.le_refl _⟩
  obtain ⟨q11, hq11, hf⟩ := jk_bind_h hf
  refine jk_callVi C hZ.1 hz (ct_Cords_nibbledAmong l D Z sq hZ cI cR a_t a_t_starts a_t_depth a_t_topic a_t_value a_t_nibbled a_t_nibbled_k i_t_clusters i_t_size i_t_nibbled q3 q8 q11 hq11) tm_592 tm_593 tm_594 tm_6 tm_595 na_Cords_nibbledAmong ⟨Nat.le_of_ble_eq_true rfl, Nat.le_of_ble_eq_true rfl⟩ rfl [0, 5, 6] rfl rfl rfl (ws' := wd_Cords_hasKnownSum cI a_t a_t_starts a_t_depth a_t_topic a_t_value a_t_nibbled a_t_starts_k a_t_depth_k a_t_nibbled_k i_t_clusters i_t_size i_t_starts i_t_depth i_t_nibbled) rfl 0 5 rfl rfl rfl (st := []) rfl (Nat.le_of_ble_eq_true rfl) rd_Cords_hasKnownSum_11 ?_ ⟨Nat.le_refl _, Nat.le_refl _⟩
  refine jk_if_ne (tgt := 21) C rd_Cords_hasKnownSum_14 (by decide) hf (fun _ hf => ?_) (fun _ hf => ?_)
  · refine jk_iconst C rd_Cords_hasKnownSum_21 ?_
    cases hf
    exact jk_zret C (Or.inl rfl) rfl rd_Cords_hasKnownSum_22 rfl
  · refine jk_iconst C rd_Cords_hasKnownSum_17 ?_
    refine jk_goto (tgt := 22) C rd_Cords_hasKnownSum_18 (by decide) ?_
    cases hf
    exact jk_zret C (Or.inr rfl) rfl rd_Cords_hasKnownSum_22 rfl
def wd_Cords_sum (cI : ClassId) (a_t a_t_starts a_t_depth a_t_topic a_t_value a_t_nibbled a_t_starts_k a_t_depth_k a_t_value_k : Nat) (i_t_clusters : Int) (i_t_size : Int) (i_t_starts : (Int → Int)) (i_t_depth : (Int → Int)) (i_t_value : (Int → Int)) : va_W := [(a_t, .inr (5, [jk_V i_t_clusters, jk_V i_t_size, .ref a_t_starts, .ref a_t_depth, .ref a_t_topic, .ref a_t_value, .ref a_t_nibbled])), (a_t_starts, .inr (0, [.ref a_t_starts_k])), (a_t_starts_k, jk_W cI 7 i_t_starts), (a_t_depth, .inr (0, [.ref a_t_depth_k])), (a_t_depth_k, jk_W cI 40 i_t_depth), (a_t_value, .inr (0, [.ref a_t_value_k])), (a_t_value_k, jk_W cI 40 i_t_value)]
set_option maxHeartbeats 4000000 in
set_option maxRecDepth 20000 in
theorem ct_Cords_sum (l : Launch) (D : va_G) (Z : (Nat → Prop) → State → Heap → Prop) (sq : Nat → Nat) (hZ : jk_ZK Z sq) (cI cR : ClassId) (a_t a_t_starts a_t_depth a_t_topic a_t_value a_t_nibbled a_t_starts_k a_t_depth_k a_t_value_k : Nat) (i_t_clusters : Int) (i_t_size : Int) (i_t_starts : (Int → Int)) (i_t_depth : (Int → Int)) (i_t_value : (Int → Int)) (x1 : Int) (q : Int) (hf : fn_Cords_sum i_t_starts i_t_depth i_t_value x1 = some q) : jk_MI l D jk_cl (jk_ty cI cR) Z mn_Cords_sum (.code mn_Cords_sum mb_Cords_sum 2 (some .int) :: jk_WA) (jk_rm 2 45) [.ref a_t, jk_V x1] (wd_Cords_sum cI a_t a_t_starts a_t_depth a_t_topic a_t_value a_t_nibbled a_t_starts_k a_t_depth_k a_t_value_k i_t_clusters i_t_size i_t_starts i_t_depth i_t_value) (wd_Cords_sum cI a_t a_t_starts a_t_depth a_t_topic a_t_value a_t_nibbled a_t_starts_k a_t_depth_k a_t_value_k i_t_clusters i_t_size i_t_starts i_t_depth i_t_value) q := by
  intro sz
  refine jk_body (by decide +kernel) (fun p e s m args below meth c hsz hz hin C => ?_) (Nat.le_of_ble_eq_true rfl)
  subst hsz
  unfold fn_Cords_sum at hf
  refine jk_aload_n C rd_Cords_sum_0 (k := 0) rfl ?_
  refine jk_aload_n C rd_Cords_sum_1 (k := 0) rfl ?_
  refine jk_iload_n C rd_Cords_sum_2 (k := 1) rfl ?_
  obtain ⟨q3, hq3, hf⟩ := jk_bind_h hf
  refine jk_callVi C hZ.1 hz (ct_Cords_pendantStart l D Z sq hZ cI cR a_t a_t_starts a_t_depth a_t_topic a_t_value a_t_nibbled a_t_starts_k a_t_depth_k i_t_clusters i_t_size i_t_starts i_t_depth x1 q3 hq3) tm_352 tm_353 tm_354 tm_6 tm_355 na_Cords_pendantStart ⟨Nat.le_of_ble_eq_true rfl, Nat.le_of_ble_eq_true rfl⟩ rfl [0, 1, 2, 3, 4] rfl rfl rfl (ws' := wd_Cords_sum cI a_t a_t_starts a_t_depth a_t_topic a_t_value a_t_nibbled a_t_starts_k a_t_depth_k a_t_value_k i_t_clusters i_t_size i_t_starts i_t_depth i_t_value) rfl 0 5 rfl rfl rfl (st := [.ref a_t]) rfl (Nat.le_of_ble_eq_true rfl) rd_Cords_sum_3 ?_ ⟨Nat.le_refl _, Nat.le_refl _⟩
  refine jk_aload_n C rd_Cords_sum_6 (k := 0) rfl ?_
  refine jk_iload_n C rd_Cords_sum_7 (k := 1) rfl ?_
  obtain ⟨q8, hq8, hf⟩ := jk_bind_h hf
  refine jk_callVi C hZ.1 hz (ct_Cords_end l D Z sq hZ cI cR a_t a_t_starts a_t_depth a_t_topic a_t_value a_t_nibbled a_t_starts_k i_t_clusters i_t_size i_t_starts x1 q8 hq8) tm_591 tm_584 tm_585 tm_6 tm_586 na_Cords_end ⟨Nat.le_of_ble_eq_true rfl, Nat.le_of_ble_eq_true rfl⟩ rfl [0, 1, 2] rfl rfl rfl (ws' := wd_Cords_sum cI a_t a_t_starts a_t_depth a_t_topic a_t_value a_t_nibbled a_t_starts_k a_t_depth_k a_t_value_k i_t_clusters i_t_size i_t_starts i_t_depth i_t_value) rfl 0 5 rfl rfl rfl (st := [jk_V q3, .ref a_t]) rfl (Nat.le_of_ble_eq_true rfl) rd_Cords_sum_8 ?_ ⟨Nat.le_refl _, Nat.le_refl _⟩
  obtain ⟨q11, hq11, hf⟩ := jk_bind_h hf
  refine jk_callVi C hZ.1 hz (ct_Cords_lowestSum l D Z sq hZ cI cR a_t a_t_starts a_t_depth a_t_topic a_t_value a_t_nibbled a_t_value_k i_t_clusters i_t_size i_t_value q3 q8 q11 hq11) tm_600 tm_601 tm_602 tm_6 tm_603 na_Cords_lowestSum ⟨Nat.le_of_ble_eq_true rfl, Nat.le_of_ble_eq_true rfl⟩ rfl [0, 5, 6] rfl rfl rfl (ws' := wd_Cords_sum cI a_t a_t_starts a_t_depth a_t_topic a_t_value a_t_nibbled a_t_starts_k a_t_depth_k a_t_value_k i_t_clusters i_t_size i_t_starts i_t_depth i_t_value) rfl 0 5 rfl rfl rfl (st := []) rfl (Nat.le_of_ble_eq_true rfl) rd_Cords_sum_11 ?_ ⟨Nat.le_refl _, Nat.le_refl _⟩
  cases hf
  exact jk_iret C rfl rd_Cords_sum_14 rfl
def wd_Cords_copyFrom (cI : ClassId) (a_t a_t_starts a_t_depth a_t_topic a_t_value a_t_nibbled a_t_starts_k a_t_depth_k a_t_topic_k a_t_value_k a_t_nibbled_k a_a a_a_starts a_a_depth a_a_topic a_a_value a_a_nibbled a_a_starts_k a_a_depth_k a_a_topic_k a_a_value_k a_a_nibbled_k : Nat) (i_t_clusters : Int) (i_t_size : Int) (i_t_starts : (Int → Int)) (i_t_depth : (Int → Int)) (i_t_topic : (Int → Int)) (i_t_value : (Int → Int)) (i_t_nibbled : (Int → Int)) (i_a_clusters : Int) (i_a_size : Int) (i_a_starts : (Int → Int)) (i_a_depth : (Int → Int)) (i_a_topic : (Int → Int)) (i_a_value : (Int → Int)) (i_a_nibbled : (Int → Int)) : va_W := [(a_t, .inr (5, [jk_V i_t_clusters, jk_V i_t_size, .ref a_t_starts, .ref a_t_depth, .ref a_t_topic, .ref a_t_value, .ref a_t_nibbled])), (a_t_starts, .inr (0, [.ref a_t_starts_k])), (a_t_starts_k, jk_W cI 7 i_t_starts), (a_t_depth, .inr (0, [.ref a_t_depth_k])), (a_t_depth_k, jk_W cI 40 i_t_depth), (a_t_topic, .inr (0, [.ref a_t_topic_k])), (a_t_topic_k, jk_W cI 40 i_t_topic), (a_t_value, .inr (0, [.ref a_t_value_k])), (a_t_value_k, jk_W cI 40 i_t_value), (a_t_nibbled, .inr (0, [.ref a_t_nibbled_k])), (a_t_nibbled_k, jk_W cI 40 i_t_nibbled), (a_a, .inr (5, [jk_V i_a_clusters, jk_V i_a_size, .ref a_a_starts, .ref a_a_depth, .ref a_a_topic, .ref a_a_value, .ref a_a_nibbled])), (a_a_starts, .inr (0, [.ref a_a_starts_k])), (a_a_starts_k, jk_W cI 7 i_a_starts), (a_a_depth, .inr (0, [.ref a_a_depth_k])), (a_a_depth_k, jk_W cI 40 i_a_depth), (a_a_topic, .inr (0, [.ref a_a_topic_k])), (a_a_topic_k, jk_W cI 40 i_a_topic), (a_a_value, .inr (0, [.ref a_a_value_k])), (a_a_value_k, jk_W cI 40 i_a_value), (a_a_nibbled, .inr (0, [.ref a_a_nibbled_k])), (a_a_nibbled_k, jk_W cI 40 i_a_nibbled)]
set_option maxHeartbeats 4000000 in
set_option maxRecDepth 20000 in
theorem ct_Cords_copyFrom (l : Launch) (D : va_G) (Z : (Nat → Prop) → State → Heap → Prop) (sq : Nat → Nat) (hZ : jk_ZK Z sq) (cI cR : ClassId) (a_t a_t_starts a_t_depth a_t_topic a_t_value a_t_nibbled a_t_starts_k a_t_depth_k a_t_topic_k a_t_value_k a_t_nibbled_k a_a a_a_starts a_a_depth a_a_topic a_a_value a_a_nibbled a_a_starts_k a_a_depth_k a_a_topic_k a_a_value_k a_a_nibbled_k : Nat) (i_t_clusters : Int) (i_t_size : Int) (i_t_starts : (Int → Int)) (i_t_depth : (Int → Int)) (i_t_topic : (Int → Int)) (i_t_value : (Int → Int)) (i_t_nibbled : (Int → Int)) (i_a_clusters : Int) (i_a_size : Int) (i_a_starts : (Int → Int)) (i_a_depth : (Int → Int)) (i_a_topic : (Int → Int)) (i_a_value : (Int → Int)) (i_a_nibbled : (Int → Int)) (q : Int × Int × (Int → Int) × (Int → Int) × (Int → Int) × (Int → Int) × (Int → Int)) (hf : fn_Cords_copyFrom i_t_clusters i_t_size i_t_starts i_t_depth i_t_topic i_t_value i_t_nibbled i_a_clusters i_a_size i_a_starts i_a_depth i_a_topic i_a_value i_a_nibbled = some q) : jk_MV l D jk_cl (jk_ty cI cR) Z mn_Cords_copyFrom (.code mn_Cords_copyFrom mb_Cords_copyFrom 2 none :: jk_WA) (jk_rm 2 43) [.ref a_t, .ref a_a] (wd_Cords_copyFrom cI a_t a_t_starts a_t_depth a_t_topic a_t_value a_t_nibbled a_t_starts_k a_t_depth_k a_t_topic_k a_t_value_k a_t_nibbled_k a_a a_a_starts a_a_depth a_a_topic a_a_value a_a_nibbled a_a_starts_k a_a_depth_k a_a_topic_k a_a_value_k a_a_nibbled_k i_t_clusters i_t_size i_t_starts i_t_depth i_t_topic i_t_value i_t_nibbled i_a_clusters i_a_size i_a_starts i_a_depth i_a_topic i_a_value i_a_nibbled) (wd_Cords_copyFrom cI a_t a_t_starts a_t_depth a_t_topic a_t_value a_t_nibbled a_t_starts_k a_t_depth_k a_t_topic_k a_t_value_k a_t_nibbled_k a_a a_a_starts a_a_depth a_a_topic a_a_value a_a_nibbled a_a_starts_k a_a_depth_k a_a_topic_k a_a_value_k a_a_nibbled_k q.1 q.2.1 q.2.2.1 q.2.2.2.1 q.2.2.2.2.1 q.2.2.2.2.2.1 q.2.2.2.2.2.2 i_a_clusters i_a_size i_a_starts i_a_depth i_a_topic i_a_value i_a_nibbled) := by
  intro sz
  refine jk_body (by decide +kernel) (fun p e s m args below meth c hsz hz hin C => ?_) (Nat.le_of_ble_eq_true rfl)
  subst hsz
  unfold fn_Cords_copyFrom at hf
  refine jk_aload_n C rd_Cords_copyFrom_0 (k := 0) rfl ?_
  refine jk_aload_n C rd_Cords_copyFrom_1 (k := 1) rfl ?_
  refine jk_get C in_Cords (ci := 5) rfl 0 (by decide) tm_116 11 rfl rfl rd_Cords_copyFrom_2 ?_
  refine jk_putf C in_Cords ty_Cords nm_Cords (ci := 5) rfl 0 (by decide) tm_116 rfl rfl rfl 0 rfl (Nat.le_of_ble_eq_true rfl) rd_Cords_copyFrom_5 (ws' := wd_Cords_copyFrom cI a_t a_t_starts a_t_depth a_t_topic a_t_value a_t_nibbled a_t_starts_k a_t_depth_k a_t_topic_k a_t_value_k a_t_nibbled_k a_a a_a_starts a_a_depth a_a_topic a_a_value a_a_nibbled a_a_starts_k a_a_depth_k a_a_topic_k a_a_value_k a_a_nibbled_k i_a_clusters i_t_size i_t_starts i_t_depth i_t_topic i_t_value i_t_nibbled i_a_clusters i_a_size i_a_starts i_a_depth i_a_topic i_a_value i_a_nibbled) rfl ?_
  refine jk_aload_n C rd_Cords_copyFrom_8 (k := 0) rfl ?_
  refine jk_aload_n C rd_Cords_copyFrom_9 (k := 1) rfl ?_
  refine jk_get C in_Cords (ci := 5) rfl 1 (by decide) tm_120 11 rfl rfl rd_Cords_copyFrom_10 ?_
  refine jk_putf C in_Cords ty_Cords nm_Cords (ci := 5) rfl 1 (by decide) tm_120 rfl rfl rfl 0 rfl (Nat.le_of_ble_eq_true rfl) rd_Cords_copyFrom_13 (ws' := wd_Cords_copyFrom cI a_t a_t_starts a_t_depth a_t_topic a_t_value a_t_nibbled a_t_starts_k a_t_depth_k a_t_topic_k a_t_value_k a_t_nibbled_k a_a a_a_starts a_a_depth a_a_topic a_a_value a_a_nibbled a_a_starts_k a_a_depth_k a_a_topic_k a_a_value_k a_a_nibbled_k i_a_clusters i_a_size i_t_starts i_t_depth i_t_topic i_t_value i_t_nibbled i_a_clusters i_a_size i_a_starts i_a_depth i_a_topic i_a_value i_a_nibbled) rfl ?_
  refine jk_aload_n C rd_Cords_copyFrom_16 (k := 0) rfl ?_
  refine jk_get C in_Cords (ci := 5) rfl 2 (by decide) tm_124 0 rfl rfl rd_Cords_copyFrom_17 ?_
  refine jk_aload_n C rd_Cords_copyFrom_20 (k := 1) rfl ?_
  refine jk_get C in_Cords (ci := 5) rfl 2 (by decide) tm_124 11 rfl rfl rd_Cords_copyFrom_21 ?_
  obtain ⟨q24, hq24, hf⟩ := jk_bind_h hf
  refine jk_callVv C hZ.1 hz (ct_Row_copyFrom l D Z sq hZ cI cR (n_a := 7) (n_t := 7) (Nat.le_of_ble_eq_true rfl) (Nat.le_of_ble_eq_true rfl) a_t_starts a_t_starts_k a_a_starts a_a_starts_k i_t_starts i_a_starts q24 hq24) tm_494 tm_487 tm_488 tm_3 tm_489 na_Row_copyFrom ⟨Nat.le_of_ble_eq_true rfl, Nat.le_of_ble_eq_true rfl⟩ rfl [1, 2, 12, 13] rfl rfl rfl (ws' := wd_Cords_copyFrom cI a_t a_t_starts a_t_depth a_t_topic a_t_value a_t_nibbled a_t_starts_k a_t_depth_k a_t_topic_k a_t_value_k a_t_nibbled_k a_a a_a_starts a_a_depth a_a_topic a_a_value a_a_nibbled a_a_starts_k a_a_depth_k a_a_topic_k a_a_value_k a_a_nibbled_k i_a_clusters i_a_size q24 i_t_depth i_t_topic i_t_value i_t_nibbled i_a_clusters i_a_size i_a_starts i_a_depth i_a_topic i_a_value i_a_nibbled) rfl 1 0 rfl rfl rfl (st := []) rfl (Nat.le_of_ble_eq_true rfl) rd_Cords_copyFrom_24 ?_ ⟨Nat.le_refl _, Nat.le_refl _⟩
  refine jk_aload_n C rd_Cords_copyFrom_27 (k := 0) rfl ?_
  refine jk_get C in_Cords (ci := 5) rfl 3 (by decide) tm_125 0 rfl rfl rd_Cords_copyFrom_28 ?_
  refine jk_aload_n C rd_Cords_copyFrom_31 (k := 1) rfl ?_
  refine jk_get C in_Cords (ci := 5) rfl 3 (by decide) tm_125 11 rfl rfl rd_Cords_copyFrom_32 ?_
  obtain ⟨q35, hq35, hf⟩ := jk_bind_h hf
  refine jk_callVv C hZ.1 hz (ct_Row_copyFrom l D Z sq hZ cI cR (n_a := 40) (n_t := 40) (Nat.le_of_ble_eq_true rfl) (Nat.le_of_ble_eq_true rfl) a_t_depth a_t_depth_k a_a_depth a_a_depth_k i_t_depth i_a_depth q35 hq35) tm_494 tm_487 tm_488 tm_3 tm_489 na_Row_copyFrom ⟨Nat.le_of_ble_eq_true rfl, Nat.le_of_ble_eq_true rfl⟩ rfl [3, 4, 14, 15] rfl rfl rfl (ws' := wd_Cords_copyFrom cI a_t a_t_starts a_t_depth a_t_topic a_t_value a_t_nibbled a_t_starts_k a_t_depth_k a_t_topic_k a_t_value_k a_t_nibbled_k a_a a_a_starts a_a_depth a_a_topic a_a_value a_a_nibbled a_a_starts_k a_a_depth_k a_a_topic_k a_a_value_k a_a_nibbled_k i_a_clusters i_a_size q24 q35 i_t_topic i_t_value i_t_nibbled i_a_clusters i_a_size i_a_starts i_a_depth i_a_topic i_a_value i_a_nibbled) rfl 3 0 rfl rfl rfl (st := []) rfl (Nat.le_of_ble_eq_true rfl) rd_Cords_copyFrom_35 ?_ ⟨Nat.le_refl _, Nat.le_refl _⟩
  refine jk_aload_n C rd_Cords_copyFrom_38 (k := 0) rfl ?_
  refine jk_get C in_Cords (ci := 5) rfl 4 (by decide) tm_128 0 rfl rfl rd_Cords_copyFrom_39 ?_
  refine jk_aload_n C rd_Cords_copyFrom_42 (k := 1) rfl ?_
  refine jk_get C in_Cords (ci := 5) rfl 4 (by decide) tm_128 11 rfl rfl rd_Cords_copyFrom_43 ?_
  obtain ⟨q46, hq46, hf⟩ := jk_bind_h hf
  refine jk_callVv C hZ.1 hz (ct_Row_copyFrom l D Z sq hZ cI cR (n_a := 40) (n_t := 40) (Nat.le_of_ble_eq_true rfl) (Nat.le_of_ble_eq_true rfl) a_t_topic a_t_topic_k a_a_topic a_a_topic_k i_t_topic i_a_topic q46 hq46) tm_494 tm_487 tm_488 tm_3 tm_489 na_Row_copyFrom ⟨Nat.le_of_ble_eq_true rfl, Nat.le_of_ble_eq_true rfl⟩ rfl [5, 6, 16, 17] rfl rfl rfl (ws' := wd_Cords_copyFrom cI a_t a_t_starts a_t_depth a_t_topic a_t_value a_t_nibbled a_t_starts_k a_t_depth_k a_t_topic_k a_t_value_k a_t_nibbled_k a_a a_a_starts a_a_depth a_a_topic a_a_value a_a_nibbled a_a_starts_k a_a_depth_k a_a_topic_k a_a_value_k a_a_nibbled_k i_a_clusters i_a_size q24 q35 q46 i_t_value i_t_nibbled i_a_clusters i_a_size i_a_starts i_a_depth i_a_topic i_a_value i_a_nibbled) rfl 5 0 rfl rfl rfl (st := []) rfl (Nat.le_of_ble_eq_true rfl) rd_Cords_copyFrom_46 ?_ ⟨Nat.le_refl _, Nat.le_refl _⟩
  refine jk_aload_n C rd_Cords_copyFrom_49 (k := 0) rfl ?_
  refine jk_get C in_Cords (ci := 5) rfl 5 (by decide) tm_130 0 rfl rfl rd_Cords_copyFrom_50 ?_
  refine jk_aload_n C rd_Cords_copyFrom_53 (k := 1) rfl ?_
  refine jk_get C in_Cords (ci := 5) rfl 5 (by decide) tm_130 11 rfl rfl rd_Cords_copyFrom_54 ?_
  obtain ⟨q57, hq57, hf⟩ := jk_bind_h hf
  refine jk_callVv C hZ.1 hz (ct_Row_copyFrom l D Z sq hZ cI cR (n_a := 40) (n_t := 40) (Nat.le_of_ble_eq_true rfl) (Nat.le_of_ble_eq_true rfl) a_t_value a_t_value_k a_a_value a_a_value_k i_t_value i_a_value q57 hq57) tm_494 tm_487 tm_488 tm_3 tm_489 na_Row_copyFrom ⟨Nat.le_of_ble_eq_true rfl, Nat.le_of_ble_eq_true rfl⟩ rfl [7, 8, 18, 19] rfl rfl rfl (ws' := wd_Cords_copyFrom cI a_t a_t_starts a_t_depth a_t_topic a_t_value a_t_nibbled a_t_starts_k a_t_depth_k a_t_topic_k a_t_value_k a_t_nibbled_k a_a a_a_starts a_a_depth a_a_topic a_a_value a_a_nibbled a_a_starts_k a_a_depth_k a_a_topic_k a_a_value_k a_a_nibbled_k i_a_clusters i_a_size q24 q35 q46 q57 i_t_nibbled i_a_clusters i_a_size i_a_starts i_a_depth i_a_topic i_a_value i_a_nibbled) rfl 7 0 rfl rfl rfl (st := []) rfl (Nat.le_of_ble_eq_true rfl) rd_Cords_copyFrom_57 ?_ ⟨Nat.le_refl _, Nat.le_refl _⟩
  refine jk_aload_n C rd_Cords_copyFrom_60 (k := 0) rfl ?_
  refine jk_get C in_Cords (ci := 5) rfl 6 (by decide) tm_133 0 rfl rfl rd_Cords_copyFrom_61 ?_
  refine jk_aload_n C rd_Cords_copyFrom_64 (k := 1) rfl ?_
  refine jk_get C in_Cords (ci := 5) rfl 6 (by decide) tm_133 11 rfl rfl rd_Cords_copyFrom_65 ?_
  obtain ⟨q68, hq68, hf⟩ := jk_bind_h hf
  refine jk_callVv C hZ.1 hz (ct_Row_copyFrom l D Z sq hZ cI cR (n_a := 40) (n_t := 40) (Nat.le_of_ble_eq_true rfl) (Nat.le_of_ble_eq_true rfl) a_t_nibbled a_t_nibbled_k a_a_nibbled a_a_nibbled_k i_t_nibbled i_a_nibbled q68 hq68) tm_494 tm_487 tm_488 tm_3 tm_489 na_Row_copyFrom ⟨Nat.le_of_ble_eq_true rfl, Nat.le_of_ble_eq_true rfl⟩ rfl [9, 10, 20, 21] rfl rfl rfl (ws' := wd_Cords_copyFrom cI a_t a_t_starts a_t_depth a_t_topic a_t_value a_t_nibbled a_t_starts_k a_t_depth_k a_t_topic_k a_t_value_k a_t_nibbled_k a_a a_a_starts a_a_depth a_a_topic a_a_value a_a_nibbled a_a_starts_k a_a_depth_k a_a_topic_k a_a_value_k a_a_nibbled_k i_a_clusters i_a_size q24 q35 q46 q57 q68 i_a_clusters i_a_size i_a_starts i_a_depth i_a_topic i_a_value i_a_nibbled) rfl 9 0 rfl rfl rfl (st := []) rfl (Nat.le_of_ble_eq_true rfl) rd_Cords_copyFrom_68 ?_ ⟨Nat.le_refl _, Nat.le_refl _⟩
  cases hf
  exact jk_vret C rfl rd_Cords_copyFrom_71 rfl
def wd_Cords_onlyNibbled (cI : ClassId) (a_t a_t_starts a_t_depth a_t_topic a_t_value a_t_nibbled a_t_starts_k a_t_nibbled_k : Nat) (i_t_clusters : Int) (i_t_size : Int) (i_t_starts : (Int → Int)) (i_t_nibbled : (Int → Int)) : va_W := [(a_t, .inr (5, [jk_V i_t_clusters, jk_V i_t_size, .ref a_t_starts, .ref a_t_depth, .ref a_t_topic, .ref a_t_value, .ref a_t_nibbled])), (a_t_starts, .inr (0, [.ref a_t_starts_k])), (a_t_starts_k, jk_W cI 7 i_t_starts), (a_t_nibbled, .inr (0, [.ref a_t_nibbled_k])), (a_t_nibbled_k, jk_W cI 40 i_t_nibbled)]
set_option maxHeartbeats 4000000 in
set_option maxRecDepth 20000 in
theorem ct_Cords_onlyNibbled (l : Launch) (D : va_G) (Z : (Nat → Prop) → State → Heap → Prop) (sq : Nat → Nat) (hZ : jk_ZK Z sq) (cI cR : ClassId) (a_t a_t_starts a_t_depth a_t_topic a_t_value a_t_nibbled a_t_starts_k a_t_nibbled_k : Nat) (i_t_clusters : Int) (i_t_size : Int) (i_t_starts : (Int → Int)) (i_t_nibbled : (Int → Int)) (x1 : Int) (q : Int) (hf : fn_Cords_onlyNibbled i_t_starts i_t_nibbled x1 = some q) : jk_MI l D jk_cl (jk_ty cI cR) Z mn_Cords_onlyNibbled (.code mn_Cords_onlyNibbled mb_Cords_onlyNibbled 5 (some .int) :: jk_WA) (jk_rm 1 21) [.ref a_t, jk_V x1] (wd_Cords_onlyNibbled cI a_t a_t_starts a_t_depth a_t_topic a_t_value a_t_nibbled a_t_starts_k a_t_nibbled_k i_t_clusters i_t_size i_t_starts i_t_nibbled) (wd_Cords_onlyNibbled cI a_t a_t_starts a_t_depth a_t_topic a_t_value a_t_nibbled a_t_starts_k a_t_nibbled_k i_t_clusters i_t_size i_t_starts i_t_nibbled) q := by
  intro sz
  refine jk_body (by decide +kernel) (fun p e s m args below meth c hsz hz hin C => ?_) (Nat.le_of_ble_eq_true rfl)
  subst hsz
  unfold fn_Cords_onlyNibbled at hf
  have bk_23 : ∀ (n : Nat) (v2 : Int) (v3 : Int) (v4 : Int), fn_Cords_onlyNibbled_b23 n i_t_nibbled v2 v3 v4 = some q → jk_J p l e (jk_rm 1 21) s m args below meth c 0 0 (jk_QI below D jk_cl (jk_ty cI cR) (wd_Cords_onlyNibbled cI a_t a_t_starts a_t_depth a_t_topic a_t_value a_t_nibbled a_t_starts_k a_t_nibbled_k i_t_clusters i_t_size i_t_starts i_t_nibbled) (wd_Cords_onlyNibbled cI a_t a_t_starts a_t_depth a_t_topic a_t_value a_t_nibbled a_t_starts_k a_t_nibbled_k i_t_clusters i_t_size i_t_starts i_t_nibbled) args s q) D jk_cl (va_A (wd_Cords_onlyNibbled cI a_t a_t_starts a_t_depth a_t_topic a_t_value a_t_nibbled a_t_starts_k a_t_nibbled_k i_t_clusters i_t_size i_t_starts i_t_nibbled) s.heap.size) 5 (wd_Cords_onlyNibbled cI a_t a_t_starts a_t_depth a_t_topic a_t_value a_t_nibbled a_t_starts_k a_t_nibbled_k i_t_clusters i_t_size i_t_starts i_t_nibbled) [(0, .ref a_t), (2, jk_V v2), (3, jk_V v3), (4, jk_V v4)] 23 [] := by
    intro n
    induction n with
    | zero => intro v2 v3 v4 hf; exact nomatch (show none = some q from hf)
    | succ n ih =>
      intro v2 v3 v4 hf
      rw [fn_Cords_onlyNibbled_b23] at hf
      refine jk_iload C rd_Cords_onlyNibbled_23 (k := 3) rfl ?_
      refine jk_iload_n C rd_Cords_onlyNibbled_25 (k := 2) rfl ?_
      refine jk_icmp_ge (tgt := 57) C rd_Cords_onlyNibbled_26 (by decide) hf (fun _ hf => ?_) (fun _ hf => ?_)
      · refine jk_iload_n C rd_Cords_onlyNibbled_57 (k := 1) rfl ?_
        cases hf
        exact jk_iret C rfl rd_Cords_onlyNibbled_58 rfl
      · refine jk_aload_n C rd_Cords_onlyNibbled_29 (k := 0) rfl ?_
        refine jk_get C in_Cords (ci := 5) rfl 6 (by decide) tm_133 0 rfl rfl rd_Cords_onlyNibbled_30 ?_
        refine jk_iload C rd_Cords_onlyNibbled_33 (k := 3) rfl ?_
        obtain ⟨q35, hq35, hf⟩ := jk_bind_h hf
        refine jk_callVi C hZ.1 hz (ct_Row_get l D Z sq hZ cI cR (n_t := 40) (Nat.le_of_ble_eq_true rfl) a_t_nibbled a_t_nibbled_k i_t_nibbled v4 q35 hq35) tm_356 tm_292 tm_293 tm_3 tm_294 na_Row_get ⟨Nat.le_of_ble_eq_true rfl, Nat.le_of_ble_eq_true rfl⟩ rfl [3, 4] rfl rfl rfl (ws' := wd_Cords_onlyNibbled cI a_t a_t_starts a_t_depth a_t_topic a_t_value a_t_nibbled a_t_starts_k a_t_nibbled_k i_t_clusters i_t_size i_t_starts i_t_nibbled) rfl 3 0 rfl rfl rfl (st := []) rfl (Nat.le_of_ble_eq_true rfl) rd_Cords_onlyNibbled_35 ?_ ⟨Nat.le_refl _, Nat.le_refl _⟩
        refine jk_if_le (tgt := 51) C rd_Cords_onlyNibbled_38 (by decide) hf (fun _ hf => ?_) (fun _ hf => ?_)
        · refine jk_iinc C rd_Cords_onlyNibbled_51 (k := 3) rfl (by decide) (lv' := [(4, jk_V (v4 + 1)), (0, .ref a_t), (2, jk_V v2), (3, jk_V v3)]) rfl ?_
          refine jk_goto (tgt := 23) C rd_Cords_onlyNibbled_54 (by decide) ?_
          refine jk_lv (lv' := [(0, .ref a_t), (2, jk_V v2), (3, jk_V v3), (4, jk_V (v4 + 1))]) [1, 2, 3, 0] rfl ?_
          exact ih v2 v3 (v4 + 1) hf
        · refine jk_iload_n C rd_Cords_onlyNibbled_41 (k := 1) rfl ?_
          refine jk_iconst C rd_Cords_onlyNibbled_42 ?_
          refine jk_icmp_eq (tgt := 48) C rd_Cords_onlyNibbled_43 (by decide) hf (fun _ hf => ?_) (fun _ hf => ?_)
          · refine jk_iload C rd_Cords_onlyNibbled_48 (k := 3) rfl ?_
            refine jk_istore_n C rd_Cords_onlyNibbled_50 (by decide) (lv' := [(2, jk_V v4), (0, .ref a_t), (3, jk_V v3), (4, jk_V v4)]) rfl ?_
            refine jk_iinc C rd_Cords_onlyNibbled_51 (k := 3) rfl (by decide) (lv' := [(4, jk_V (v4 + 1)), (2, jk_V v4), (0, .ref a_t), (3, jk_V v3)]) rfl ?_
            refine jk_goto (tgt := 23) C rd_Cords_onlyNibbled_54 (by decide) ?_
            refine jk_lv (lv' := [(0, .ref a_t), (2, jk_V v4), (3, jk_V v3), (4, jk_V (v4 + 1))]) [2, 1, 3, 0] rfl ?_
            exact ih v4 v3 (v4 + 1) hf
          · refine jk_iconst C rd_Cords_onlyNibbled_46 ?_
            cases hf
            exact jk_iret C rfl rd_Cords_onlyNibbled_47 rfl
  refine jk_iconst C rd_Cords_onlyNibbled_0 ?_
  refine jk_istore_n C rd_Cords_onlyNibbled_1 (by decide) (lv' := [(2, jk_V ((-1))), (0, .ref a_t), (1, jk_V x1)]) rfl ?_
  refine jk_aload_n C rd_Cords_onlyNibbled_2 (k := 1) rfl ?_
  refine jk_get C in_Cords (ci := 5) rfl 2 (by decide) tm_124 0 rfl rfl rd_Cords_onlyNibbled_3 ?_
  refine jk_iload_n C rd_Cords_onlyNibbled_6 (k := 2) rfl ?_
  refine jk_iconst C rd_Cords_onlyNibbled_7 ?_
  refine jk_iadd C rd_Cords_onlyNibbled_8 ?_
  obtain ⟨q9, hq9, hf⟩ := jk_bind_h hf
  refine jk_callVi C hZ.1 hz (ct_Row_get l D Z sq hZ cI cR (n_t := 7) (Nat.le_of_ble_eq_true rfl) a_t_starts a_t_starts_k i_t_starts (x1 + 1) q9 hq9) tm_356 tm_292 tm_293 tm_3 tm_294 na_Row_get ⟨Nat.le_of_ble_eq_true rfl, Nat.le_of_ble_eq_true rfl⟩ rfl [1, 2] rfl rfl rfl (ws' := wd_Cords_onlyNibbled cI a_t a_t_starts a_t_depth a_t_topic a_t_value a_t_nibbled a_t_starts_k a_t_nibbled_k i_t_clusters i_t_size i_t_starts i_t_nibbled) rfl 1 0 rfl rfl rfl (st := []) rfl (Nat.le_of_ble_eq_true rfl) rd_Cords_onlyNibbled_9 ?_ ⟨Nat.le_refl _, Nat.le_refl _⟩
  refine jk_istore_n C rd_Cords_onlyNibbled_12 (by decide) (lv' := [(3, jk_V q9), (2, jk_V ((-1))), (0, .ref a_t), (1, jk_V x1)]) rfl ?_
  refine jk_aload_n C rd_Cords_onlyNibbled_13 (k := 2) rfl ?_
  refine jk_get C in_Cords (ci := 5) rfl 2 (by decide) tm_124 0 rfl rfl rd_Cords_onlyNibbled_14 ?_
  refine jk_iload_n C rd_Cords_onlyNibbled_17 (k := 3) rfl ?_
  obtain ⟨q18, hq18, hf⟩ := jk_bind_h hf
  refine jk_callVi C hZ.1 hz (ct_Row_get l D Z sq hZ cI cR (n_t := 7) (Nat.le_of_ble_eq_true rfl) a_t_starts a_t_starts_k i_t_starts x1 q18 hq18) tm_356 tm_292 tm_293 tm_3 tm_294 na_Row_get ⟨Nat.le_of_ble_eq_true rfl, Nat.le_of_ble_eq_true rfl⟩ rfl [1, 2] rfl rfl rfl (ws' := wd_Cords_onlyNibbled cI a_t a_t_starts a_t_depth a_t_topic a_t_value a_t_nibbled a_t_starts_k a_t_nibbled_k i_t_clusters i_t_size i_t_starts i_t_nibbled) rfl 1 0 rfl rfl rfl (st := []) rfl (Nat.le_of_ble_eq_true rfl) rd_Cords_onlyNibbled_18 ?_ ⟨Nat.le_refl _, Nat.le_refl _⟩
  refine jk_istore C rd_Cords_onlyNibbled_21 (by decide) (lv' := [(4, jk_V q18), (3, jk_V q9), (2, jk_V ((-1))), (0, .ref a_t), (1, jk_V x1)]) rfl ?_
  refine jk_lv (lv' := [(0, .ref a_t), (2, jk_V ((-1))), (3, jk_V q9), (4, jk_V q18)]) [3, 2, 1, 0] rfl ?_
  exact bk_23 jk_F ((-1)) q9 q18 hf
def wd_Cords_guess (cI : ClassId) (a_t a_t_starts a_t_depth a_t_topic a_t_value a_t_nibbled a_t_starts_k a_t_value_k a_t_nibbled_k : Nat) (i_t_clusters : Int) (i_t_size : Int) (i_t_starts : (Int → Int)) (i_t_value : (Int → Int)) (i_t_nibbled : (Int → Int)) : va_W := [(a_t, .inr (5, [jk_V i_t_clusters, jk_V i_t_size, .ref a_t_starts, .ref a_t_depth, .ref a_t_topic, .ref a_t_value, .ref a_t_nibbled])), (a_t_starts, .inr (0, [.ref a_t_starts_k])), (a_t_starts_k, jk_W cI 7 i_t_starts), (a_t_value, .inr (0, [.ref a_t_value_k])), (a_t_value_k, jk_W cI 40 i_t_value), (a_t_nibbled, .inr (0, [.ref a_t_nibbled_k])), (a_t_nibbled_k, jk_W cI 40 i_t_nibbled)]
set_option maxHeartbeats 4000000 in
set_option maxRecDepth 20000 in
theorem ct_Cords_guess (l : Launch) (D : va_G) (Z : (Nat → Prop) → State → Heap → Prop) (sq : Nat → Nat) (hZ : jk_ZK Z sq) (cI cR : ClassId) (a_t a_t_starts a_t_depth a_t_topic a_t_value a_t_nibbled a_t_starts_k a_t_value_k a_t_nibbled_k : Nat) (i_t_clusters : Int) (i_t_size : Int) (i_t_starts : (Int → Int)) (i_t_value : (Int → Int)) (i_t_nibbled : (Int → Int)) (x1 : Int) (q : Int) (hf : fn_Cords_guess i_t_starts i_t_value i_t_nibbled x1 = some q) : jk_MI l D jk_cl (jk_ty cI cR) Z mn_Cords_guess (.code mn_Cords_guess mb_Cords_guess 5 (some .int) :: jk_WA) (jk_rm 2 45) [.ref a_t, jk_V x1] (wd_Cords_guess cI a_t a_t_starts a_t_depth a_t_topic a_t_value a_t_nibbled a_t_starts_k a_t_value_k a_t_nibbled_k i_t_clusters i_t_size i_t_starts i_t_value i_t_nibbled) (wd_Cords_guess cI a_t a_t_starts a_t_depth a_t_topic a_t_value a_t_nibbled a_t_starts_k a_t_value_k a_t_nibbled_k i_t_clusters i_t_size i_t_starts i_t_value i_t_nibbled) q := by
  intro sz
  refine jk_body (by decide +kernel) (fun p e s m args below meth c hsz hz hin C => ?_) (Nat.le_of_ble_eq_true rfl)
  subst hsz
  unfold fn_Cords_guess at hf
  refine jk_aload_n C rd_Cords_guess_0 (k := 0) rfl ?_
  refine jk_get C in_Cords (ci := 5) rfl 2 (by decide) tm_124 0 rfl rfl rd_Cords_guess_1 ?_
  refine jk_iload_n C rd_Cords_guess_4 (k := 1) rfl ?_
  obtain ⟨q5, hq5, hf⟩ := jk_bind_h hf
  refine jk_callVi C hZ.1 hz (ct_Row_get l D Z sq hZ cI cR (n_t := 7) (Nat.le_of_ble_eq_true rfl) a_t_starts a_t_starts_k i_t_starts x1 q5 hq5) tm_356 tm_292 tm_293 tm_3 tm_294 na_Row_get ⟨Nat.le_of_ble_eq_true rfl, Nat.le_of_ble_eq_true rfl⟩ rfl [1, 2] rfl rfl rfl (ws' := wd_Cords_guess cI a_t a_t_starts a_t_depth a_t_topic a_t_value a_t_nibbled a_t_starts_k a_t_value_k a_t_nibbled_k i_t_clusters i_t_size i_t_starts i_t_value i_t_nibbled) rfl 1 0 rfl rfl rfl (st := []) rfl (Nat.le_of_ble_eq_true rfl) rd_Cords_guess_5 ?_ ⟨Nat.le_refl _, Nat.le_refl _⟩
  refine jk_istore_n C rd_Cords_guess_8 (by decide) (lv' := [(2, jk_V q5), (0, .ref a_t), (1, jk_V x1)]) rfl ?_
  refine jk_aload_n C rd_Cords_guess_9 (k := 1) rfl ?_
  refine jk_iload_n C rd_Cords_guess_10 (k := 2) rfl ?_
  obtain ⟨q11, hq11, hf⟩ := jk_bind_h hf
  refine jk_callVi C hZ.1 hz (ct_Cords_onlyNibbled l D Z sq hZ cI cR a_t a_t_starts a_t_depth a_t_topic a_t_value a_t_nibbled a_t_starts_k a_t_nibbled_k i_t_clusters i_t_size i_t_starts i_t_nibbled x1 q11 hq11) tm_621 tm_622 tm_623 tm_6 tm_624 na_Cords_onlyNibbled ⟨Nat.le_of_ble_eq_true rfl, Nat.le_of_ble_eq_true rfl⟩ rfl [0, 1, 2, 5, 6] rfl rfl rfl (ws' := wd_Cords_guess cI a_t a_t_starts a_t_depth a_t_topic a_t_value a_t_nibbled a_t_starts_k a_t_value_k a_t_nibbled_k i_t_clusters i_t_size i_t_starts i_t_value i_t_nibbled) rfl 0 5 rfl rfl rfl (st := []) rfl (Nat.le_of_ble_eq_true rfl) rd_Cords_guess_11 ?_ ⟨Nat.le_refl _, Nat.le_refl _⟩
  refine jk_istore_n C rd_Cords_guess_14 (by decide) (lv' := [(3, jk_V q11), (2, jk_V q5), (0, .ref a_t), (1, jk_V x1)]) rfl ?_
  refine jk_aload_n C rd_Cords_guess_15 (k := 2) rfl ?_
  refine jk_iload_n C rd_Cords_guess_16 (k := 1) rfl ?_
  refine jk_iconst C rd_Cords_guess_17 ?_
  refine jk_iadd C rd_Cords_guess_18 ?_
  refine jk_aload_n C rd_Cords_guess_19 (k := 2) rfl ?_
  refine jk_get C in_Cords (ci := 5) rfl 2 (by decide) tm_124 0 rfl rfl rd_Cords_guess_20 ?_
  refine jk_iload_n C rd_Cords_guess_23 (k := 3) rfl ?_
  refine jk_iconst C rd_Cords_guess_24 ?_
  refine jk_iadd C rd_Cords_guess_25 ?_
  obtain ⟨q26, hq26, hf⟩ := jk_bind_h hf
  refine jk_callVi C hZ.1 hz (ct_Row_get l D Z sq hZ cI cR (n_t := 7) (Nat.le_of_ble_eq_true rfl) a_t_starts a_t_starts_k i_t_starts (x1 + 1) q26 hq26) tm_356 tm_292 tm_293 tm_3 tm_294 na_Row_get ⟨Nat.le_of_ble_eq_true rfl, Nat.le_of_ble_eq_true rfl⟩ rfl [1, 2] rfl rfl rfl (ws' := wd_Cords_guess cI a_t a_t_starts a_t_depth a_t_topic a_t_value a_t_nibbled a_t_starts_k a_t_value_k a_t_nibbled_k i_t_clusters i_t_size i_t_starts i_t_value i_t_nibbled) rfl 1 0 rfl rfl rfl (st := [jk_V (q5 + 1), .ref a_t]) rfl (Nat.le_of_ble_eq_true rfl) rd_Cords_guess_26 ?_ ⟨Nat.le_refl _, Nat.le_refl _⟩
  obtain ⟨q29, hq29, hf⟩ := jk_bind_h hf
  refine jk_callVi C hZ.1 hz (ct_Cords_lowestSum l D Z sq hZ cI cR a_t a_t_starts a_t_depth a_t_topic a_t_value a_t_nibbled a_t_value_k i_t_clusters i_t_size i_t_value (q5 + 1) q26 q29 hq29) tm_600 tm_601 tm_602 tm_6 tm_603 na_Cords_lowestSum ⟨Nat.le_of_ble_eq_true rfl, Nat.le_of_ble_eq_true rfl⟩ rfl [0, 3, 4] rfl rfl rfl (ws' := wd_Cords_guess cI a_t a_t_starts a_t_depth a_t_topic a_t_value a_t_nibbled a_t_starts_k a_t_value_k a_t_nibbled_k i_t_clusters i_t_size i_t_starts i_t_value i_t_nibbled) rfl 0 5 rfl rfl rfl (st := []) rfl (Nat.le_of_ble_eq_true rfl) rd_Cords_guess_29 ?_ ⟨Nat.le_refl _, Nat.le_refl _⟩
  refine jk_istore C rd_Cords_guess_32 (by decide) (lv' := [(4, jk_V q29), (3, jk_V q11), (2, jk_V q5), (0, .ref a_t), (1, jk_V x1)]) rfl ?_
  refine jk_iload_n C rd_Cords_guess_34 (k := 1) rfl ?_
  refine jk_iload_n C rd_Cords_guess_35 (k := 2) rfl ?_
  refine jk_icmp_ne (tgt := 44) C rd_Cords_guess_36 (by decide) hf (fun _ hf => ?_) (fun _ hf => ?_)
  · refine jk_aload_n C rd_Cords_guess_44 (k := 3) rfl ?_
    refine jk_get C in_Cords (ci := 5) rfl 5 (by decide) tm_130 0 rfl rfl rd_Cords_guess_45 ?_
    refine jk_iload_n C rd_Cords_guess_48 (k := 2) rfl ?_
    obtain ⟨q49, hq49, hf⟩ := jk_bind_h hf
    refine jk_callVi C hZ.1 hz (ct_Row_get l D Z sq hZ cI cR (n_t := 40) (Nat.le_of_ble_eq_true rfl) a_t_value a_t_value_k i_t_value q5 q49 hq49) tm_356 tm_292 tm_293 tm_3 tm_294 na_Row_get ⟨Nat.le_of_ble_eq_true rfl, Nat.le_of_ble_eq_true rfl⟩ rfl [3, 4] rfl rfl rfl (ws' := wd_Cords_guess cI a_t a_t_starts a_t_depth a_t_topic a_t_value a_t_nibbled a_t_starts_k a_t_value_k a_t_nibbled_k i_t_clusters i_t_size i_t_starts i_t_value i_t_nibbled) rfl 3 0 rfl rfl rfl (st := []) rfl (Nat.le_of_ble_eq_true rfl) rd_Cords_guess_49 ?_ ⟨Nat.le_refl _, Nat.le_refl _⟩
    refine jk_iload C rd_Cords_guess_52 (k := 0) rfl ?_
    refine jk_aload_n C rd_Cords_guess_54 (k := 3) rfl ?_
    refine jk_get C in_Cords (ci := 5) rfl 5 (by decide) tm_130 0 rfl rfl rd_Cords_guess_55 ?_
    refine jk_iload_n C rd_Cords_guess_58 (k := 1) rfl ?_
    obtain ⟨q59, hq59, hf⟩ := jk_bind_h hf
    refine jk_callVi C hZ.1 hz (ct_Row_get l D Z sq hZ cI cR (n_t := 40) (Nat.le_of_ble_eq_true rfl) a_t_value a_t_value_k i_t_value q11 q59 hq59) tm_356 tm_292 tm_293 tm_3 tm_294 na_Row_get ⟨Nat.le_of_ble_eq_true rfl, Nat.le_of_ble_eq_true rfl⟩ rfl [3, 4] rfl rfl rfl (ws' := wd_Cords_guess cI a_t a_t_starts a_t_depth a_t_topic a_t_value a_t_nibbled a_t_starts_k a_t_value_k a_t_nibbled_k i_t_clusters i_t_size i_t_starts i_t_value i_t_nibbled) rfl 3 0 rfl rfl rfl (st := [jk_V q29, jk_V q49]) rfl (Nat.le_of_ble_eq_true rfl) rd_Cords_guess_59 ?_ ⟨Nat.le_refl _, Nat.le_refl _⟩
    refine jk_isub C rd_Cords_guess_62 ?_
    refine jk_isub C rd_Cords_guess_63 ?_
    cases hf
    exact jk_iret C rfl rd_Cords_guess_64 rfl
  · refine jk_iload C rd_Cords_guess_39 (k := 0) rfl ?_
    refine jk_goto (tgt := 64) C rd_Cords_guess_41 (by decide) ?_
    cases hf
    exact jk_iret C rfl rd_Cords_guess_64 rfl
def wd_Cords_mend (cI : ClassId) (a_t a_t_starts a_t_depth a_t_topic a_t_value a_t_nibbled a_t_starts_k a_t_value_k a_t_nibbled_k : Nat) (i_t_clusters : Int) (i_t_size : Int) (i_t_starts : (Int → Int)) (i_t_value : (Int → Int)) (i_t_nibbled : (Int → Int)) : va_W := [(a_t, .inr (5, [jk_V i_t_clusters, jk_V i_t_size, .ref a_t_starts, .ref a_t_depth, .ref a_t_topic, .ref a_t_value, .ref a_t_nibbled])), (a_t_starts, .inr (0, [.ref a_t_starts_k])), (a_t_starts_k, jk_W cI 7 i_t_starts), (a_t_value, .inr (0, [.ref a_t_value_k])), (a_t_value_k, jk_W cI 40 i_t_value), (a_t_nibbled, .inr (0, [.ref a_t_nibbled_k])), (a_t_nibbled_k, jk_W cI 40 i_t_nibbled)]
set_option maxHeartbeats 4000000 in
set_option maxRecDepth 20000 in
theorem ct_Cords_mend (l : Launch) (D : va_G) (Z : (Nat → Prop) → State → Heap → Prop) (sq : Nat → Nat) (hZ : jk_ZK Z sq) (cI cR : ClassId) (a_t a_t_starts a_t_depth a_t_topic a_t_value a_t_nibbled a_t_starts_k a_t_value_k a_t_nibbled_k : Nat) (i_t_clusters : Int) (i_t_size : Int) (i_t_starts : (Int → Int)) (i_t_value : (Int → Int)) (i_t_nibbled : (Int → Int)) (x1 : Int) (q : Int × (Int → Int) × (Int → Int)) (hf : fn_Cords_mend i_t_starts i_t_value i_t_nibbled x1 = some q) : jk_MI l D jk_cl (jk_ty cI cR) Z mn_Cords_mend (.code mn_Cords_mend mb_Cords_mend 4 (some .int) :: jk_WA) (jk_rm 3 69) [.ref a_t, jk_V x1] (wd_Cords_mend cI a_t a_t_starts a_t_depth a_t_topic a_t_value a_t_nibbled a_t_starts_k a_t_value_k a_t_nibbled_k i_t_clusters i_t_size i_t_starts i_t_value i_t_nibbled) (wd_Cords_mend cI a_t a_t_starts a_t_depth a_t_topic a_t_value a_t_nibbled a_t_starts_k a_t_value_k a_t_nibbled_k i_t_clusters i_t_size i_t_starts q.2.1 q.2.2) q.1 := by
  intro sz
  refine jk_body (by decide +kernel) (fun p e s m args below meth c hsz hz hin C => ?_) (Nat.le_of_ble_eq_true rfl)
  subst hsz
  unfold fn_Cords_mend at hf
  refine jk_aload_n C rd_Cords_mend_0 (k := 0) rfl ?_
  refine jk_iload_n C rd_Cords_mend_1 (k := 1) rfl ?_
  obtain ⟨q2, hq2, hf⟩ := jk_bind_h hf
  refine jk_callVi C hZ.1 hz (ct_Cords_guess l D Z sq hZ cI cR a_t a_t_starts a_t_depth a_t_topic a_t_value a_t_nibbled a_t_starts_k a_t_value_k a_t_nibbled_k i_t_clusters i_t_size i_t_starts i_t_value i_t_nibbled x1 q2 hq2) tm_625 tm_626 tm_627 tm_6 tm_628 na_Cords_guess ⟨Nat.le_of_ble_eq_true rfl, Nat.le_of_ble_eq_true rfl⟩ rfl [0, 1, 2, 3, 4, 5, 6] rfl rfl rfl (ws' := wd_Cords_mend cI a_t a_t_starts a_t_depth a_t_topic a_t_value a_t_nibbled a_t_starts_k a_t_value_k a_t_nibbled_k i_t_clusters i_t_size i_t_starts i_t_value i_t_nibbled) rfl 0 5 rfl rfl rfl (st := []) rfl (Nat.le_of_ble_eq_true rfl) rd_Cords_mend_2 ?_ ⟨Nat.le_refl _, Nat.le_refl _⟩
  refine jk_istore_n C rd_Cords_mend_5 (by decide) (lv' := [(2, jk_V q2), (0, .ref a_t), (1, jk_V x1)]) rfl ?_
  refine jk_aload_n C rd_Cords_mend_6 (k := 1) rfl ?_
  refine jk_iload_n C rd_Cords_mend_7 (k := 2) rfl ?_
  obtain ⟨q8, hq8, hf⟩ := jk_bind_h hf
  refine jk_callVi C hZ.1 hz (ct_Cords_onlyNibbled l D Z sq hZ cI cR a_t a_t_starts a_t_depth a_t_topic a_t_value a_t_nibbled a_t_starts_k a_t_nibbled_k i_t_clusters i_t_size i_t_starts i_t_nibbled x1 q8 hq8) tm_621 tm_622 tm_623 tm_6 tm_624 na_Cords_onlyNibbled ⟨Nat.le_of_ble_eq_true rfl, Nat.le_of_ble_eq_true rfl⟩ rfl [0, 1, 2, 5, 6] rfl rfl rfl (ws' := wd_Cords_mend cI a_t a_t_starts a_t_depth a_t_topic a_t_value a_t_nibbled a_t_starts_k a_t_value_k a_t_nibbled_k i_t_clusters i_t_size i_t_starts i_t_value i_t_nibbled) rfl 0 5 rfl rfl rfl (st := []) rfl (Nat.le_of_ble_eq_true rfl) rd_Cords_mend_8 ?_ ⟨Nat.le_refl _, Nat.le_refl _⟩
  refine jk_istore_n C rd_Cords_mend_11 (by decide) (lv' := [(3, jk_V q8), (2, jk_V q2), (0, .ref a_t), (1, jk_V x1)]) rfl ?_
  refine jk_aload_n C rd_Cords_mend_12 (k := 2) rfl ?_
  refine jk_get C in_Cords (ci := 5) rfl 5 (by decide) tm_130 0 rfl rfl rd_Cords_mend_13 ?_
  refine jk_iload_n C rd_Cords_mend_16 (k := 0) rfl ?_
  refine jk_iload_n C rd_Cords_mend_17 (k := 1) rfl ?_
  obtain ⟨q18, hq18, hf⟩ := jk_bind_h hf
  refine jk_callVv C hZ.1 hz (ct_Row_set l D Z sq hZ cI cR (n_t := 40) (Nat.le_of_ble_eq_true rfl) a_t_value a_t_value_k i_t_value q8 q2 q18 hq18) tm_338 tm_257 tm_258 tm_3 tm_259 na_Row_set ⟨Nat.le_of_ble_eq_true rfl, Nat.le_of_ble_eq_true rfl⟩ rfl [3, 4] rfl rfl rfl (ws' := wd_Cords_mend cI a_t a_t_starts a_t_depth a_t_topic a_t_value a_t_nibbled a_t_starts_k a_t_value_k a_t_nibbled_k i_t_clusters i_t_size i_t_starts q18 i_t_nibbled) rfl 3 0 rfl rfl rfl (st := []) rfl (Nat.le_of_ble_eq_true rfl) rd_Cords_mend_18 ?_ ⟨Nat.le_refl _, Nat.le_refl _⟩
  refine jk_aload_n C rd_Cords_mend_21 (k := 2) rfl ?_
  refine jk_get C in_Cords (ci := 5) rfl 6 (by decide) tm_133 0 rfl rfl rd_Cords_mend_22 ?_
  refine jk_iload_n C rd_Cords_mend_25 (k := 0) rfl ?_
  refine jk_iconst C rd_Cords_mend_26 ?_
  obtain ⟨q27, hq27, hf⟩ := jk_bind_h hf
  refine jk_callVv C hZ.1 hz (ct_Row_set l D Z sq hZ cI cR (n_t := 40) (Nat.le_of_ble_eq_true rfl) a_t_nibbled a_t_nibbled_k i_t_nibbled q8 0 q27 hq27) tm_338 tm_257 tm_258 tm_3 tm_259 na_Row_set ⟨Nat.le_of_ble_eq_true rfl, Nat.le_of_ble_eq_true rfl⟩ rfl [5, 6] rfl rfl rfl (ws' := wd_Cords_mend cI a_t a_t_starts a_t_depth a_t_topic a_t_value a_t_nibbled a_t_starts_k a_t_value_k a_t_nibbled_k i_t_clusters i_t_size i_t_starts q18 q27) rfl 5 0 rfl rfl rfl (st := []) rfl (Nat.le_of_ble_eq_true rfl) rd_Cords_mend_27 ?_ ⟨Nat.le_refl _, Nat.le_refl _⟩
  refine jk_iload_n C rd_Cords_mend_30 (k := 1) rfl ?_
  cases hf
  exact jk_iret C rfl rd_Cords_mend_31 rfl
def wd_Cords_fits (cI : ClassId) (a_t a_t_starts a_t_depth a_t_topic a_t_value a_t_nibbled a_t_value_k a_t_nibbled_k : Nat) (i_t_clusters : Int) (i_t_size : Int) (i_t_value : (Int → Int)) (i_t_nibbled : (Int → Int)) : va_W := [(a_t, .inr (5, [jk_V i_t_clusters, jk_V i_t_size, .ref a_t_starts, .ref a_t_depth, .ref a_t_topic, .ref a_t_value, .ref a_t_nibbled])), (a_t_value, .inr (0, [.ref a_t_value_k])), (a_t_value_k, jk_W cI 40 i_t_value), (a_t_nibbled, .inr (0, [.ref a_t_nibbled_k])), (a_t_nibbled_k, jk_W cI 40 i_t_nibbled)]
set_option maxHeartbeats 4000000 in
set_option maxRecDepth 20000 in
theorem ct_Cords_fits (l : Launch) (D : va_G) (Z : (Nat → Prop) → State → Heap → Prop) (sq : Nat → Nat) (hZ : jk_ZK Z sq) (cI cR : ClassId) (a_t a_t_starts a_t_depth a_t_topic a_t_value a_t_nibbled a_t_value_k a_t_nibbled_k : Nat) (i_t_clusters : Int) (i_t_size : Int) (i_t_value : (Int → Int)) (i_t_nibbled : (Int → Int)) (x1 : Int) (x2 : Int) (q : Int) (hf : fn_Cords_fits i_t_value i_t_nibbled x1 x2 = some q) : jk_MI l D jk_cl (jk_ty cI cR) Z mn_Cords_fits (.code mn_Cords_fits mb_Cords_fits 3 (some .boolean) :: jk_WA) (jk_rm 2 44) [.ref a_t, jk_V x1, jk_V x2] (wd_Cords_fits cI a_t a_t_starts a_t_depth a_t_topic a_t_value a_t_nibbled a_t_value_k a_t_nibbled_k i_t_clusters i_t_size i_t_value i_t_nibbled) (wd_Cords_fits cI a_t a_t_starts a_t_depth a_t_topic a_t_value a_t_nibbled a_t_value_k a_t_nibbled_k i_t_clusters i_t_size i_t_value i_t_nibbled) q := by
  intro sz
  refine jk_body (by decide +kernel) (fun p e s m args below meth c hsz hz hin C => ?_) (Nat.le_of_ble_eq_true rfl)
  subst hsz
  unfold fn_Cords_fits at hf
  refine jk_iload_n C rd_Cords_fits_0 (k := 2) rfl ?_
  obtain ⟨q1, hq1, hf⟩ := jk_bind_h hf
  refine jk_callSNi C hZ.1 hz (ct_KR_isValue l D Z sq hZ cI cR x2 q1 hq1) (jk_nw hZ hz tn_31) tm_567 tm_1 tm_568 na_KR_isValue ⟨Nat.le_of_ble_eq_true rfl, Nat.le_of_ble_eq_true rfl⟩ rfl [] rfl rfl rfl (ws' := wd_Cords_fits cI a_t a_t_starts a_t_depth a_t_topic a_t_value a_t_nibbled a_t_value_k a_t_nibbled_k i_t_clusters i_t_size i_t_value i_t_nibbled) rfl (st := []) rfl (Nat.le_of_ble_eq_true rfl) rd_Cords_fits_1 ?_ ⟨Nat.le_refl _, Nat.le_refl _⟩
  refine jk_if_eq (tgt := 34) C rd_Cords_fits_4 (by decide) hf (fun _ hf => ?_) (fun _ hf => ?_)
  · refine jk_iconst C rd_Cords_fits_34 ?_
    cases hf
    exact jk_zret C (Or.inl rfl) rfl rd_Cords_fits_35 rfl
  · refine jk_iload_n C rd_Cords_fits_7 (k := 2) rfl ?_
    refine jk_aload_n C rd_Cords_fits_8 (k := 0) rfl ?_
    refine jk_get C in_Cords (ci := 5) rfl 6 (by decide) tm_133 0 rfl rfl rd_Cords_fits_9 ?_
    refine jk_iload_n C rd_Cords_fits_12 (k := 1) rfl ?_
    obtain ⟨q13, hq13, hf⟩ := jk_bind_h hf
    refine jk_callVi C hZ.1 hz (ct_Row_get l D Z sq hZ cI cR (n_t := 40) (Nat.le_of_ble_eq_true rfl) a_t_nibbled a_t_nibbled_k i_t_nibbled x1 q13 hq13) tm_356 tm_292 tm_293 tm_3 tm_294 na_Row_get ⟨Nat.le_of_ble_eq_true rfl, Nat.le_of_ble_eq_true rfl⟩ rfl [3, 4] rfl rfl rfl (ws' := wd_Cords_fits cI a_t a_t_starts a_t_depth a_t_topic a_t_value a_t_nibbled a_t_value_k a_t_nibbled_k i_t_clusters i_t_size i_t_value i_t_nibbled) rfl 3 0 rfl rfl rfl (st := [jk_V x2]) rfl (Nat.le_of_ble_eq_true rfl) rd_Cords_fits_13 ?_ ⟨Nat.le_refl _, Nat.le_refl _⟩
    obtain ⟨q16, hq16, hf⟩ := jk_bind_h hf
    refine jk_callSi C hZ.1 hz (ct_Knots_lose l D Z sq hZ cI cR x2 q13 q16 hq16) tm_414 tm_415 tm_14 tm_416 na_Knots_lose ⟨Nat.le_of_ble_eq_true rfl, Nat.le_of_ble_eq_true rfl⟩ rfl [] rfl rfl rfl (ws' := wd_Cords_fits cI a_t a_t_starts a_t_depth a_t_topic a_t_value a_t_nibbled a_t_value_k a_t_nibbled_k i_t_clusters i_t_size i_t_value i_t_nibbled) rfl (st := []) rfl (Nat.le_of_ble_eq_true rfl) rd_Cords_fits_16 ?_ ⟨Nat.le_refl _, Nat.le_refl _⟩
    refine jk_aload_n C rd_Cords_fits_19 (k := 0) rfl ?_
    refine jk_get C in_Cords (ci := 5) rfl 5 (by decide) tm_130 0 rfl rfl rd_Cords_fits_20 ?_
    refine jk_iload_n C rd_Cords_fits_23 (k := 1) rfl ?_
    obtain ⟨q24, hq24, hf⟩ := jk_bind_h hf
    refine jk_callVi C hZ.1 hz (ct_Row_get l D Z sq hZ cI cR (n_t := 40) (Nat.le_of_ble_eq_true rfl) a_t_value a_t_value_k i_t_value x1 q24 hq24) tm_356 tm_292 tm_293 tm_3 tm_294 na_Row_get ⟨Nat.le_of_ble_eq_true rfl, Nat.le_of_ble_eq_true rfl⟩ rfl [1, 2] rfl rfl rfl (ws' := wd_Cords_fits cI a_t a_t_starts a_t_depth a_t_topic a_t_value a_t_nibbled a_t_value_k a_t_nibbled_k i_t_clusters i_t_size i_t_value i_t_nibbled) rfl 1 0 rfl rfl rfl (st := [jk_V q16]) rfl (Nat.le_of_ble_eq_true rfl) rd_Cords_fits_24 ?_ ⟨Nat.le_refl _, Nat.le_refl _⟩
    refine jk_icmp_ne (tgt := 34) C rd_Cords_fits_27 (by decide) hf (fun _ hf => ?_) (fun _ hf => ?_)
    · refine jk_iconst C rd_Cords_fits_34 ?_
      cases hf
      exact jk_zret C (Or.inl rfl) rfl rd_Cords_fits_35 rfl
    · refine jk_iconst C rd_Cords_fits_30 ?_
      refine jk_goto (tgt := 35) C rd_Cords_fits_31 (by decide) ?_
      cases hf
      exact jk_zret C (Or.inr rfl) rfl rd_Cords_fits_35 rfl
def wd_Cords_hasTop (cI : ClassId) (a_t a_t_starts a_t_depth a_t_topic a_t_value a_t_nibbled a_t_starts_k a_t_depth_k : Nat) (i_t_clusters : Int) (i_t_size : Int) (i_t_starts : (Int → Int)) (i_t_depth : (Int → Int)) : va_W := [(a_t, .inr (5, [jk_V i_t_clusters, jk_V i_t_size, .ref a_t_starts, .ref a_t_depth, .ref a_t_topic, .ref a_t_value, .ref a_t_nibbled])), (a_t_starts, .inr (0, [.ref a_t_starts_k])), (a_t_starts_k, jk_W cI 7 i_t_starts), (a_t_depth, .inr (0, [.ref a_t_depth_k])), (a_t_depth_k, jk_W cI 40 i_t_depth)]
set_option maxHeartbeats 4000000 in
set_option maxRecDepth 20000 in
theorem ct_Cords_hasTop (l : Launch) (D : va_G) (Z : (Nat → Prop) → State → Heap → Prop) (sq : Nat → Nat) (hZ : jk_ZK Z sq) (cI cR : ClassId) (a_t a_t_starts a_t_depth a_t_topic a_t_value a_t_nibbled a_t_starts_k a_t_depth_k : Nat) (i_t_clusters : Int) (i_t_size : Int) (i_t_starts : (Int → Int)) (i_t_depth : (Int → Int)) (x1 : Int) (q : Int) (hf : fn_Cords_hasTop i_t_starts i_t_depth x1 = some q) : jk_MI l D jk_cl (jk_ty cI cR) Z mn_Cords_hasTop (.code mn_Cords_hasTop mb_Cords_hasTop 2 (some .boolean) :: jk_WA) (jk_rm 2 43) [.ref a_t, jk_V x1] (wd_Cords_hasTop cI a_t a_t_starts a_t_depth a_t_topic a_t_value a_t_nibbled a_t_starts_k a_t_depth_k i_t_clusters i_t_size i_t_starts i_t_depth) (wd_Cords_hasTop cI a_t a_t_starts a_t_depth a_t_topic a_t_value a_t_nibbled a_t_starts_k a_t_depth_k i_t_clusters i_t_size i_t_starts i_t_depth) q := by
  intro sz
  refine jk_body (by decide +kernel) (fun p e s m args below meth c hsz hz hin C => ?_) (Nat.le_of_ble_eq_true rfl)
  subst hsz
  unfold fn_Cords_hasTop at hf
  refine jk_aload_n C rd_Cords_hasTop_0 (k := 0) rfl ?_
  refine jk_iload_n C rd_Cords_hasTop_1 (k := 1) rfl ?_
  obtain ⟨q2, hq2, hf⟩ := jk_bind_h hf
  refine jk_callVi C hZ.1 hz (ct_Cords_pendantStart l D Z sq hZ cI cR a_t a_t_starts a_t_depth a_t_topic a_t_value a_t_nibbled a_t_starts_k a_t_depth_k i_t_clusters i_t_size i_t_starts i_t_depth x1 q2 hq2) tm_352 tm_353 tm_354 tm_6 tm_355 na_Cords_pendantStart ⟨Nat.le_of_ble_eq_true rfl, Nat.le_of_ble_eq_true rfl⟩ rfl [0, 1, 2, 3, 4] rfl rfl rfl (ws' := wd_Cords_hasTop cI a_t a_t_starts a_t_depth a_t_topic a_t_value a_t_nibbled a_t_starts_k a_t_depth_k i_t_clusters i_t_size i_t_starts i_t_depth) rfl 0 5 rfl rfl rfl (st := []) rfl (Nat.le_of_ble_eq_true rfl) rd_Cords_hasTop_2 ?_ ⟨Nat.le_refl _, Nat.le_refl _⟩
  refine jk_aload_n C rd_Cords_hasTop_5 (k := 0) rfl ?_
  refine jk_get C in_Cords (ci := 5) rfl 2 (by decide) tm_124 0 rfl rfl rd_Cords_hasTop_6 ?_
  refine jk_iload_n C rd_Cords_hasTop_9 (k := 1) rfl ?_
  obtain ⟨q10, hq10, hf⟩ := jk_bind_h hf
  refine jk_callVi C hZ.1 hz (ct_Row_get l D Z sq hZ cI cR (n_t := 7) (Nat.le_of_ble_eq_true rfl) a_t_starts a_t_starts_k i_t_starts x1 q10 hq10) tm_356 tm_292 tm_293 tm_3 tm_294 na_Row_get ⟨Nat.le_of_ble_eq_true rfl, Nat.le_of_ble_eq_true rfl⟩ rfl [1, 2] rfl rfl rfl (ws' := wd_Cords_hasTop cI a_t a_t_starts a_t_depth a_t_topic a_t_value a_t_nibbled a_t_starts_k a_t_depth_k i_t_clusters i_t_size i_t_starts i_t_depth) rfl 1 0 rfl rfl rfl (st := [jk_V q2]) rfl (Nat.le_of_ble_eq_true rfl) rd_Cords_hasTop_10 ?_ ⟨Nat.le_refl _, Nat.le_refl _⟩
  refine jk_icmp_le (tgt := 20) C rd_Cords_hasTop_13 (by decide) hf (fun _ hf => ?_) (fun _ hf => ?_)
  · refine jk_iconst C rd_Cords_hasTop_20 ?_
    cases hf
    exact jk_zret C (Or.inl rfl) rfl rd_Cords_hasTop_21 rfl
  · refine jk_iconst C rd_Cords_hasTop_16 ?_
    refine jk_goto (tgt := 21) C rd_Cords_hasTop_17 (by decide) ?_
    cases hf
    exact jk_zret C (Or.inr rfl) rfl rd_Cords_hasTop_21 rfl
def wd_Cords_obstacle (cI : ClassId) (a_t a_t_starts a_t_depth a_t_topic a_t_value a_t_nibbled a_t_starts_k a_t_depth_k a_t_value_k a_t_nibbled_k : Nat) (i_t_clusters : Int) (i_t_size : Int) (i_t_starts : (Int → Int)) (i_t_depth : (Int → Int)) (i_t_value : (Int → Int)) (i_t_nibbled : (Int → Int)) : va_W := [(a_t, .inr (5, [jk_V i_t_clusters, jk_V i_t_size, .ref a_t_starts, .ref a_t_depth, .ref a_t_topic, .ref a_t_value, .ref a_t_nibbled])), (a_t_starts, .inr (0, [.ref a_t_starts_k])), (a_t_starts_k, jk_W cI 7 i_t_starts), (a_t_depth, .inr (0, [.ref a_t_depth_k])), (a_t_depth_k, jk_W cI 40 i_t_depth), (a_t_value, .inr (0, [.ref a_t_value_k])), (a_t_value_k, jk_W cI 40 i_t_value), (a_t_nibbled, .inr (0, [.ref a_t_nibbled_k])), (a_t_nibbled_k, jk_W cI 40 i_t_nibbled)]
set_option maxHeartbeats 4000000 in
set_option maxRecDepth 20000 in
theorem ct_Cords_obstacle (l : Launch) (D : va_G) (Z : (Nat → Prop) → State → Heap → Prop) (sq : Nat → Nat) (hZ : jk_ZK Z sq) (cI cR : ClassId) (a_t a_t_starts a_t_depth a_t_topic a_t_value a_t_nibbled a_t_starts_k a_t_depth_k a_t_value_k a_t_nibbled_k : Nat) (i_t_clusters : Int) (i_t_size : Int) (i_t_starts : (Int → Int)) (i_t_depth : (Int → Int)) (i_t_value : (Int → Int)) (i_t_nibbled : (Int → Int)) (x1 : Int) (q : Int) (hf : fn_Cords_obstacle i_t_starts i_t_depth i_t_value i_t_nibbled x1 = some q) : jk_MI l D jk_cl (jk_ty cI cR) Z mn_Cords_obstacle (.code mn_Cords_obstacle mb_Cords_obstacle 3 (some .int) :: jk_WA) (jk_rm 3 69) [.ref a_t, jk_V x1] (wd_Cords_obstacle cI a_t a_t_starts a_t_depth a_t_topic a_t_value a_t_nibbled a_t_starts_k a_t_depth_k a_t_value_k a_t_nibbled_k i_t_clusters i_t_size i_t_starts i_t_depth i_t_value i_t_nibbled) (wd_Cords_obstacle cI a_t a_t_starts a_t_depth a_t_topic a_t_value a_t_nibbled a_t_starts_k a_t_depth_k a_t_value_k a_t_nibbled_k i_t_clusters i_t_size i_t_starts i_t_depth i_t_value i_t_nibbled) q := by
  intro sz
  refine jk_body (by decide +kernel) (fun p e s m args below meth c hsz hz hin C => ?_) (Nat.le_of_ble_eq_true rfl)
  subst hsz
  unfold fn_Cords_obstacle at hf
  refine jk_aload_n C rd_Cords_obstacle_0 (k := 0) rfl ?_
  refine jk_iload_n C rd_Cords_obstacle_1 (k := 1) rfl ?_
  obtain ⟨q2, hq2, hf⟩ := jk_bind_h hf
  refine jk_callVi C hZ.1 hz (ct_Cords_hasTop l D Z sq hZ cI cR a_t a_t_starts a_t_depth a_t_topic a_t_value a_t_nibbled a_t_starts_k a_t_depth_k i_t_clusters i_t_size i_t_starts i_t_depth x1 q2 hq2) tm_619 tm_349 tm_350 tm_6 tm_351 na_Cords_hasTop ⟨Nat.le_of_ble_eq_true rfl, Nat.le_of_ble_eq_true rfl⟩ rfl [0, 1, 2, 3, 4] rfl rfl rfl (ws' := wd_Cords_obstacle cI a_t a_t_starts a_t_depth a_t_topic a_t_value a_t_nibbled a_t_starts_k a_t_depth_k a_t_value_k a_t_nibbled_k i_t_clusters i_t_size i_t_starts i_t_depth i_t_value i_t_nibbled) rfl 0 5 rfl rfl rfl (st := []) rfl (Nat.le_of_ble_eq_true rfl) rd_Cords_obstacle_2 ?_ ⟨Nat.le_refl _, Nat.le_refl _⟩
  refine jk_if_ne (tgt := 10) C rd_Cords_obstacle_5 (by decide) hf (fun _ hf => ?_) (fun _ hf => ?_)
  · refine jk_aload_n C rd_Cords_obstacle_10 (k := 0) rfl ?_
    refine jk_aload_n C rd_Cords_obstacle_11 (k := 0) rfl ?_
    refine jk_iload_n C rd_Cords_obstacle_12 (k := 1) rfl ?_
    obtain ⟨q13, hq13, hf⟩ := jk_bind_h hf
    refine jk_callVi C hZ.1 hz (ct_Cords_start l D Z sq hZ cI cR a_t a_t_starts a_t_depth a_t_topic a_t_value a_t_nibbled a_t_starts_k i_t_clusters i_t_size i_t_starts x1 q13 hq13) tm_620 tm_365 tm_366 tm_6 tm_367 na_Cords_start ⟨Nat.le_of_ble_eq_true rfl, Nat.le_of_ble_eq_true rfl⟩ rfl [0, 1, 2] rfl rfl rfl (ws' := wd_Cords_obstacle cI a_t a_t_starts a_t_depth a_t_topic a_t_value a_t_nibbled a_t_starts_k a_t_depth_k a_t_value_k a_t_nibbled_k i_t_clusters i_t_size i_t_starts i_t_depth i_t_value i_t_nibbled) rfl 0 5 rfl rfl rfl (st := [.ref a_t]) rfl (Nat.le_of_ble_eq_true rfl) rd_Cords_obstacle_13 ?_ ⟨Nat.le_refl _, Nat.le_refl _⟩
    refine jk_aload_n C rd_Cords_obstacle_16 (k := 0) rfl ?_
    refine jk_iload_n C rd_Cords_obstacle_17 (k := 1) rfl ?_
    obtain ⟨q18, hq18, hf⟩ := jk_bind_h hf
    refine jk_callVi C hZ.1 hz (ct_Cords_end l D Z sq hZ cI cR a_t a_t_starts a_t_depth a_t_topic a_t_value a_t_nibbled a_t_starts_k i_t_clusters i_t_size i_t_starts x1 q18 hq18) tm_591 tm_584 tm_585 tm_6 tm_586 na_Cords_end ⟨Nat.le_of_ble_eq_true rfl, Nat.le_of_ble_eq_true rfl⟩ rfl [0, 1, 2] rfl rfl rfl (ws' := wd_Cords_obstacle cI a_t a_t_starts a_t_depth a_t_topic a_t_value a_t_nibbled a_t_starts_k a_t_depth_k a_t_value_k a_t_nibbled_k i_t_clusters i_t_size i_t_starts i_t_depth i_t_value i_t_nibbled) rfl 0 5 rfl rfl rfl (st := [jk_V q13, .ref a_t]) rfl (Nat.le_of_ble_eq_true rfl) rd_Cords_obstacle_18 ?_ ⟨Nat.le_refl _, Nat.le_refl _⟩
    obtain ⟨q21, hq21, hf⟩ := jk_bind_h hf
    refine jk_callVi C hZ.1 hz (ct_Cords_nibbledAmong l D Z sq hZ cI cR a_t a_t_starts a_t_depth a_t_topic a_t_value a_t_nibbled a_t_nibbled_k i_t_clusters i_t_size i_t_nibbled q13 q18 q21 hq21) tm_592 tm_593 tm_594 tm_6 tm_595 na_Cords_nibbledAmong ⟨Nat.le_of_ble_eq_true rfl, Nat.le_of_ble_eq_true rfl⟩ rfl [0, 7, 8] rfl rfl rfl (ws' := wd_Cords_obstacle cI a_t a_t_starts a_t_depth a_t_topic a_t_value a_t_nibbled a_t_starts_k a_t_depth_k a_t_value_k a_t_nibbled_k i_t_clusters i_t_size i_t_starts i_t_depth i_t_value i_t_nibbled) rfl 0 5 rfl rfl rfl (st := []) rfl (Nat.le_of_ble_eq_true rfl) rd_Cords_obstacle_21 ?_ ⟨Nat.le_refl _, Nat.le_refl _⟩
    refine jk_istore_n C rd_Cords_obstacle_24 (by decide) (lv' := [(2, jk_V q21), (0, .ref a_t), (1, jk_V x1)]) rfl ?_
    refine jk_iload_n C rd_Cords_obstacle_25 (k := 0) rfl ?_
    refine jk_if_ne (tgt := 31) C rd_Cords_obstacle_26 (by decide) hf (fun _ hf => ?_) (fun _ hf => ?_)
    · refine jk_iload_n C rd_Cords_obstacle_31 (k := 0) rfl ?_
      refine jk_iconst C rd_Cords_obstacle_32 ?_
      refine jk_icmp_le (tgt := 38) C rd_Cords_obstacle_33 (by decide) hf (fun _ hf => ?_) (fun _ hf => ?_)
      · refine jk_aload_n C rd_Cords_obstacle_38 (k := 1) rfl ?_
        refine jk_aload_n C rd_Cords_obstacle_39 (k := 1) rfl ?_
        refine jk_iload_n C rd_Cords_obstacle_40 (k := 2) rfl ?_
        obtain ⟨q41, hq41, hf⟩ := jk_bind_h hf
        refine jk_callVi C hZ.1 hz (ct_Cords_onlyNibbled l D Z sq hZ cI cR a_t a_t_starts a_t_depth a_t_topic a_t_value a_t_nibbled a_t_starts_k a_t_nibbled_k i_t_clusters i_t_size i_t_starts i_t_nibbled x1 q41 hq41) tm_621 tm_622 tm_623 tm_6 tm_624 na_Cords_onlyNibbled ⟨Nat.le_of_ble_eq_true rfl, Nat.le_of_ble_eq_true rfl⟩ rfl [0, 1, 2, 7, 8] rfl rfl rfl (ws' := wd_Cords_obstacle cI a_t a_t_starts a_t_depth a_t_topic a_t_value a_t_nibbled a_t_starts_k a_t_depth_k a_t_value_k a_t_nibbled_k i_t_clusters i_t_size i_t_starts i_t_depth i_t_value i_t_nibbled) rfl 0 5 rfl rfl rfl (st := [.ref a_t]) rfl (Nat.le_of_ble_eq_true rfl) rd_Cords_obstacle_41 ?_ ⟨Nat.le_refl _, Nat.le_refl _⟩
        refine jk_aload_n C rd_Cords_obstacle_44 (k := 1) rfl ?_
        refine jk_iload_n C rd_Cords_obstacle_45 (k := 2) rfl ?_
        obtain ⟨q46, hq46, hf⟩ := jk_bind_h hf
        refine jk_callVi C hZ.1 hz (ct_Cords_guess l D Z sq hZ cI cR a_t a_t_starts a_t_depth a_t_topic a_t_value a_t_nibbled a_t_starts_k a_t_value_k a_t_nibbled_k i_t_clusters i_t_size i_t_starts i_t_value i_t_nibbled x1 q46 hq46) tm_625 tm_626 tm_627 tm_6 tm_628 na_Cords_guess ⟨Nat.le_of_ble_eq_true rfl, Nat.le_of_ble_eq_true rfl⟩ rfl [0, 1, 2, 5, 6, 7, 8] rfl rfl rfl (ws' := wd_Cords_obstacle cI a_t a_t_starts a_t_depth a_t_topic a_t_value a_t_nibbled a_t_starts_k a_t_depth_k a_t_value_k a_t_nibbled_k i_t_clusters i_t_size i_t_starts i_t_depth i_t_value i_t_nibbled) rfl 0 5 rfl rfl rfl (st := [jk_V q41, .ref a_t]) rfl (Nat.le_of_ble_eq_true rfl) rd_Cords_obstacle_46 ?_ ⟨Nat.le_refl _, Nat.le_refl _⟩
        obtain ⟨q49, hq49, hf⟩ := jk_bind_h hf
        refine jk_callVi C hZ.1 hz (ct_Cords_fits l D Z sq hZ cI cR a_t a_t_starts a_t_depth a_t_topic a_t_value a_t_nibbled a_t_value_k a_t_nibbled_k i_t_clusters i_t_size i_t_value i_t_nibbled q41 q46 q49 hq49) tm_629 tm_631 sl_12 tm_6 tm_632 na_Cords_fits ⟨Nat.le_of_ble_eq_true rfl, Nat.le_of_ble_eq_true rfl⟩ rfl [0, 5, 6, 7, 8] rfl rfl rfl (ws' := wd_Cords_obstacle cI a_t a_t_starts a_t_depth a_t_topic a_t_value a_t_nibbled a_t_starts_k a_t_depth_k a_t_value_k a_t_nibbled_k i_t_clusters i_t_size i_t_starts i_t_depth i_t_value i_t_nibbled) rfl 0 5 rfl rfl rfl (st := []) rfl (Nat.le_of_ble_eq_true rfl) rd_Cords_obstacle_49 ?_ ⟨Nat.le_refl _, Nat.le_refl _⟩
        refine jk_if_eq (tgt := 59) C rd_Cords_obstacle_52 (by decide) hf (fun _ hf => ?_) (fun _ hf => ?_)
        · refine jk_iconst C rd_Cords_obstacle_59 ?_
          cases hf
          exact jk_iret C rfl rd_Cords_obstacle_60 rfl
        · refine jk_iconst C rd_Cords_obstacle_55 ?_
          refine jk_goto (tgt := 60) C rd_Cords_obstacle_56 (by decide) ?_
          cases hf
          exact jk_iret C rfl rd_Cords_obstacle_60 rfl
      · refine jk_iconst C rd_Cords_obstacle_36 ?_
        cases hf
        exact jk_iret C rfl rd_Cords_obstacle_37 rfl
    · refine jk_iconst C rd_Cords_obstacle_29 ?_
      cases hf
      exact jk_iret C rfl rd_Cords_obstacle_30 rfl
  · refine jk_iconst C rd_Cords_obstacle_8 ?_
    cases hf
    exact jk_iret C rfl rd_Cords_obstacle_9 rfl
def wd_Cords_state (cI : ClassId) (a_t a_t_starts a_t_depth a_t_topic a_t_value a_t_nibbled a_t_starts_k a_t_depth_k a_t_value_k a_t_nibbled_k : Nat) (i_t_clusters : Int) (i_t_size : Int) (i_t_starts : (Int → Int)) (i_t_depth : (Int → Int)) (i_t_value : (Int → Int)) (i_t_nibbled : (Int → Int)) : va_W := [(a_t, .inr (5, [jk_V i_t_clusters, jk_V i_t_size, .ref a_t_starts, .ref a_t_depth, .ref a_t_topic, .ref a_t_value, .ref a_t_nibbled])), (a_t_starts, .inr (0, [.ref a_t_starts_k])), (a_t_starts_k, jk_W cI 7 i_t_starts), (a_t_depth, .inr (0, [.ref a_t_depth_k])), (a_t_depth_k, jk_W cI 40 i_t_depth), (a_t_value, .inr (0, [.ref a_t_value_k])), (a_t_value_k, jk_W cI 40 i_t_value), (a_t_nibbled, .inr (0, [.ref a_t_nibbled_k])), (a_t_nibbled_k, jk_W cI 40 i_t_nibbled)]
set_option maxHeartbeats 4000000 in
set_option maxRecDepth 20000 in
theorem ct_Cords_state (l : Launch) (D : va_G) (Z : (Nat → Prop) → State → Heap → Prop) (sq : Nat → Nat) (hZ : jk_ZK Z sq) (cI cR : ClassId) (a_t a_t_starts a_t_depth a_t_topic a_t_value a_t_nibbled a_t_starts_k a_t_depth_k a_t_value_k a_t_nibbled_k : Nat) (i_t_clusters : Int) (i_t_size : Int) (i_t_starts : (Int → Int)) (i_t_depth : (Int → Int)) (i_t_value : (Int → Int)) (i_t_nibbled : (Int → Int)) (x1 : Int) (q : Int) (hf : fn_Cords_state i_t_starts i_t_depth i_t_value i_t_nibbled x1 = some q) : jk_MI l D jk_cl (jk_ty cI cR) Z mn_Cords_state (.code mn_Cords_state mb_Cords_state 3 (some .int) :: jk_WA) (jk_rm 3 66) [.ref a_t, jk_V x1] (wd_Cords_state cI a_t a_t_starts a_t_depth a_t_topic a_t_value a_t_nibbled a_t_starts_k a_t_depth_k a_t_value_k a_t_nibbled_k i_t_clusters i_t_size i_t_starts i_t_depth i_t_value i_t_nibbled) (wd_Cords_state cI a_t a_t_starts a_t_depth a_t_topic a_t_value a_t_nibbled a_t_starts_k a_t_depth_k a_t_value_k a_t_nibbled_k i_t_clusters i_t_size i_t_starts i_t_depth i_t_value i_t_nibbled) q := by
  intro sz
  refine jk_body (by decide +kernel) (fun p e s m args below meth c hsz hz hin C => ?_) (Nat.le_of_ble_eq_true rfl)
  subst hsz
  unfold fn_Cords_state at hf
  refine jk_aload_n C rd_Cords_state_0 (k := 0) rfl ?_
  refine jk_iload_n C rd_Cords_state_1 (k := 1) rfl ?_
  obtain ⟨q2, hq2, hf⟩ := jk_bind_h hf
  refine jk_callVi C hZ.1 hz (ct_Cords_hasTop l D Z sq hZ cI cR a_t a_t_starts a_t_depth a_t_topic a_t_value a_t_nibbled a_t_starts_k a_t_depth_k i_t_clusters i_t_size i_t_starts i_t_depth x1 q2 hq2) tm_619 tm_349 tm_350 tm_6 tm_351 na_Cords_hasTop ⟨Nat.le_of_ble_eq_true rfl, Nat.le_of_ble_eq_true rfl⟩ rfl [0, 1, 2, 3, 4] rfl rfl rfl (ws' := wd_Cords_state cI a_t a_t_starts a_t_depth a_t_topic a_t_value a_t_nibbled a_t_starts_k a_t_depth_k a_t_value_k a_t_nibbled_k i_t_clusters i_t_size i_t_starts i_t_depth i_t_value i_t_nibbled) rfl 0 5 rfl rfl rfl (st := []) rfl (Nat.le_of_ble_eq_true rfl) rd_Cords_state_2 ?_ ⟨Nat.le_refl _, Nat.le_refl _⟩
  refine jk_if_ne (tgt := 10) C rd_Cords_state_5 (by decide) hf (fun _ hf => ?_) (fun _ hf => ?_)
  · refine jk_aload_n C rd_Cords_state_10 (k := 0) rfl ?_
    refine jk_iload_n C rd_Cords_state_11 (k := 1) rfl ?_
    obtain ⟨q12, hq12, hf⟩ := jk_bind_h hf
    refine jk_callVi C hZ.1 hz (ct_Cords_start l D Z sq hZ cI cR a_t a_t_starts a_t_depth a_t_topic a_t_value a_t_nibbled a_t_starts_k i_t_clusters i_t_size i_t_starts x1 q12 hq12) tm_620 tm_365 tm_366 tm_6 tm_367 na_Cords_start ⟨Nat.le_of_ble_eq_true rfl, Nat.le_of_ble_eq_true rfl⟩ rfl [0, 1, 2] rfl rfl rfl (ws' := wd_Cords_state cI a_t a_t_starts a_t_depth a_t_topic a_t_value a_t_nibbled a_t_starts_k a_t_depth_k a_t_value_k a_t_nibbled_k i_t_clusters i_t_size i_t_starts i_t_depth i_t_value i_t_nibbled) rfl 0 5 rfl rfl rfl (st := []) rfl (Nat.le_of_ble_eq_true rfl) rd_Cords_state_12 ?_ ⟨Nat.le_refl _, Nat.le_refl _⟩
    refine jk_istore_n C rd_Cords_state_15 (by decide) (lv' := [(2, jk_V q12), (0, .ref a_t), (1, jk_V x1)]) rfl ?_
    refine jk_aload_n C rd_Cords_state_16 (k := 1) rfl ?_
    refine jk_iload_n C rd_Cords_state_17 (k := 0) rfl ?_
    refine jk_aload_n C rd_Cords_state_18 (k := 1) rfl ?_
    refine jk_iload_n C rd_Cords_state_19 (k := 2) rfl ?_
    obtain ⟨q20, hq20, hf⟩ := jk_bind_h hf
    refine jk_callVi C hZ.1 hz (ct_Cords_end l D Z sq hZ cI cR a_t a_t_starts a_t_depth a_t_topic a_t_value a_t_nibbled a_t_starts_k i_t_clusters i_t_size i_t_starts x1 q20 hq20) tm_591 tm_584 tm_585 tm_6 tm_586 na_Cords_end ⟨Nat.le_of_ble_eq_true rfl, Nat.le_of_ble_eq_true rfl⟩ rfl [0, 1, 2] rfl rfl rfl (ws' := wd_Cords_state cI a_t a_t_starts a_t_depth a_t_topic a_t_value a_t_nibbled a_t_starts_k a_t_depth_k a_t_value_k a_t_nibbled_k i_t_clusters i_t_size i_t_starts i_t_depth i_t_value i_t_nibbled) rfl 0 5 rfl rfl rfl (st := [jk_V q12, .ref a_t]) rfl (Nat.le_of_ble_eq_true rfl) rd_Cords_state_20 ?_ ⟨Nat.le_refl _, Nat.le_refl _⟩
    obtain ⟨q23, hq23, hf⟩ := jk_bind_h hf
    refine jk_callVi C hZ.1 hz (ct_Cords_nibbledAmong l D Z sq hZ cI cR a_t a_t_starts a_t_depth a_t_topic a_t_value a_t_nibbled a_t_nibbled_k i_t_clusters i_t_size i_t_nibbled q12 q20 q23 hq23) tm_592 tm_593 tm_594 tm_6 tm_595 na_Cords_nibbledAmong ⟨Nat.le_of_ble_eq_true rfl, Nat.le_of_ble_eq_true rfl⟩ rfl [0, 7, 8] rfl rfl rfl (ws' := wd_Cords_state cI a_t a_t_starts a_t_depth a_t_topic a_t_value a_t_nibbled a_t_starts_k a_t_depth_k a_t_value_k a_t_nibbled_k i_t_clusters i_t_size i_t_starts i_t_depth i_t_value i_t_nibbled) rfl 0 5 rfl rfl rfl (st := []) rfl (Nat.le_of_ble_eq_true rfl) rd_Cords_state_23 ?_ ⟨Nat.le_refl _, Nat.le_refl _⟩
    refine jk_if_le (tgt := 31) C rd_Cords_state_26 (by decide) hf (fun _ hf => ?_) (fun _ hf => ?_)
    · refine jk_aload_n C rd_Cords_state_31 (k := 1) rfl ?_
      refine jk_get C in_Cords (ci := 5) rfl 5 (by decide) tm_130 0 rfl rfl rd_Cords_state_32 ?_
      refine jk_iload_n C rd_Cords_state_35 (k := 0) rfl ?_
      obtain ⟨q36, hq36, hf⟩ := jk_bind_h hf
      refine jk_callVi C hZ.1 hz (ct_Row_get l D Z sq hZ cI cR (n_t := 40) (Nat.le_of_ble_eq_true rfl) a_t_value a_t_value_k i_t_value q12 q36 hq36) tm_356 tm_292 tm_293 tm_3 tm_294 na_Row_get ⟨Nat.le_of_ble_eq_true rfl, Nat.le_of_ble_eq_true rfl⟩ rfl [5, 6] rfl rfl rfl (ws' := wd_Cords_state cI a_t a_t_starts a_t_depth a_t_topic a_t_value a_t_nibbled a_t_starts_k a_t_depth_k a_t_value_k a_t_nibbled_k i_t_clusters i_t_size i_t_starts i_t_depth i_t_value i_t_nibbled) rfl 5 0 rfl rfl rfl (st := []) rfl (Nat.le_of_ble_eq_true rfl) rd_Cords_state_36 ?_ ⟨Nat.le_refl _, Nat.le_refl _⟩
      refine jk_aload_n C rd_Cords_state_39 (k := 1) rfl ?_
      refine jk_iload_n C rd_Cords_state_40 (k := 2) rfl ?_
      obtain ⟨q41, hq41, hf⟩ := jk_bind_h hf
      refine jk_callVi C hZ.1 hz (ct_Cords_sum l D Z sq hZ cI cR a_t a_t_starts a_t_depth a_t_topic a_t_value a_t_nibbled a_t_starts_k a_t_depth_k a_t_value_k i_t_clusters i_t_size i_t_starts i_t_depth i_t_value x1 q41 hq41) tm_658 tm_597 tm_598 tm_6 tm_599 na_Cords_sum ⟨Nat.le_of_ble_eq_true rfl, Nat.le_of_ble_eq_true rfl⟩ rfl [0, 1, 2, 3, 4, 5, 6] rfl rfl rfl (ws' := wd_Cords_state cI a_t a_t_starts a_t_depth a_t_topic a_t_value a_t_nibbled a_t_starts_k a_t_depth_k a_t_value_k a_t_nibbled_k i_t_clusters i_t_size i_t_starts i_t_depth i_t_value i_t_nibbled) rfl 0 5 rfl rfl rfl (st := [jk_V q36]) rfl (Nat.le_of_ble_eq_true rfl) rd_Cords_state_41 ?_ ⟨Nat.le_refl _, Nat.le_refl _⟩
      refine jk_icmp_ne (tgt := 51) C rd_Cords_state_44 (by decide) hf (fun _ hf => ?_) (fun _ hf => ?_)
      · refine jk_iconst C rd_Cords_state_51 ?_
        cases hf
        exact jk_iret C rfl rd_Cords_state_52 rfl
      · refine jk_iconst C rd_Cords_state_47 ?_
        refine jk_goto (tgt := 52) C rd_Cords_state_48 (by decide) ?_
        cases hf
        exact jk_iret C rfl rd_Cords_state_52 rfl
    · refine jk_iconst C rd_Cords_state_29 ?_
      cases hf
      exact jk_iret C rfl rd_Cords_state_30 rfl
  · refine jk_iconst C rd_Cords_state_8 ?_
    cases hf
    exact jk_iret C rfl rd_Cords_state_9 rfl
def wd_Cords_clear (cI : ClassId) (a_t a_t_starts a_t_depth a_t_topic a_t_value a_t_nibbled : Nat) (i_t_clusters : Int) (i_t_size : Int) : va_W := [(a_t, .inr (5, [jk_V i_t_clusters, jk_V i_t_size, .ref a_t_starts, .ref a_t_depth, .ref a_t_topic, .ref a_t_value, .ref a_t_nibbled]))]
set_option maxHeartbeats 4000000 in
set_option maxRecDepth 20000 in
theorem ct_Cords_clear (l : Launch) (D : va_G) (Z : (Nat → Prop) → State → Heap → Prop) (sq : Nat → Nat) (hZ : jk_ZK Z sq) (cI cR : ClassId) (a_t a_t_starts a_t_depth a_t_topic a_t_value a_t_nibbled : Nat) (i_t_clusters : Int) (i_t_size : Int) (q : Int × Int) (hf : fn_Cords_clear i_t_clusters i_t_size = some q) : jk_MV l D jk_cl (jk_ty cI cR) Z mn_Cords_clear (.code mn_Cords_clear mb_Cords_clear 1 none :: jk_WA) (jk_rm 0 0) [.ref a_t] (wd_Cords_clear cI a_t a_t_starts a_t_depth a_t_topic a_t_value a_t_nibbled i_t_clusters i_t_size) (wd_Cords_clear cI a_t a_t_starts a_t_depth a_t_topic a_t_value a_t_nibbled q.1 q.2) := by
  intro sz
  refine jk_body (by decide +kernel) (fun p e s m args below meth c hsz hz hin C => ?_) (Nat.le_of_ble_eq_true rfl)
  subst hsz
  unfold fn_Cords_clear at hf
  refine jk_aload_n C rd_Cords_clear_0 (k := 0) rfl ?_
  refine jk_iconst C rd_Cords_clear_1 ?_
  refine jk_putf C in_Cords ty_Cords nm_Cords (ci := 5) rfl 0 (by decide) tm_116 rfl rfl rfl 0 rfl (Nat.le_of_ble_eq_true rfl) rd_Cords_clear_2 (ws' := wd_Cords_clear cI a_t a_t_starts a_t_depth a_t_topic a_t_value a_t_nibbled 0 i_t_size) rfl ?_
  refine jk_aload_n C rd_Cords_clear_5 (k := 0) rfl ?_
  refine jk_iconst C rd_Cords_clear_6 ?_
  refine jk_putf C in_Cords ty_Cords nm_Cords (ci := 5) rfl 1 (by decide) tm_120 rfl rfl rfl 0 rfl (Nat.le_of_ble_eq_true rfl) rd_Cords_clear_7 (ws' := wd_Cords_clear cI a_t a_t_starts a_t_depth a_t_topic a_t_value a_t_nibbled 0 0) rfl ?_
  cases hf
  exact jk_vret C rfl rd_Cords_clear_10 rfl
def wd_Cords_has (cI : ClassId) (a_t a_t_starts a_t_depth a_t_topic a_t_value a_t_nibbled : Nat) (i_t_clusters : Int) (i_t_size : Int) : va_W := [(a_t, .inr (5, [jk_V i_t_clusters, jk_V i_t_size, .ref a_t_starts, .ref a_t_depth, .ref a_t_topic, .ref a_t_value, .ref a_t_nibbled]))]
set_option maxHeartbeats 4000000 in
set_option maxRecDepth 20000 in
theorem ct_Cords_has (l : Launch) (D : va_G) (Z : (Nat → Prop) → State → Heap → Prop) (sq : Nat → Nat) (hZ : jk_ZK Z sq) (cI cR : ClassId) (a_t a_t_starts a_t_depth a_t_topic a_t_value a_t_nibbled : Nat) (i_t_clusters : Int) (i_t_size : Int) (x1 : Int) (q : Int) (hf : fn_Cords_has i_t_size x1 = some q) : jk_MI l D jk_cl (jk_ty cI cR) Z mn_Cords_has (.code mn_Cords_has mb_Cords_has 2 (some .boolean) :: jk_WA) (jk_rm 0 0) [.ref a_t, jk_V x1] (wd_Cords_has cI a_t a_t_starts a_t_depth a_t_topic a_t_value a_t_nibbled i_t_clusters i_t_size) (wd_Cords_has cI a_t a_t_starts a_t_depth a_t_topic a_t_value a_t_nibbled i_t_clusters i_t_size) q := by
  intro sz
  refine jk_body (by decide +kernel) (fun p e s m args below meth c hsz hz hin C => ?_) (Nat.le_of_ble_eq_true rfl)
  subst hsz
  unfold fn_Cords_has at hf
  refine jk_iload_n C rd_Cords_has_0 (k := 1) rfl ?_
  refine jk_if_lt (tgt := 16) C rd_Cords_has_1 (by decide) hf (fun _ hf => ?_) (fun _ hf => ?_)
  · refine jk_iconst C rd_Cords_has_16 ?_
    cases hf
    exact jk_zret C (Or.inl rfl) rfl rd_Cords_has_17 rfl
  · refine jk_iload_n C rd_Cords_has_4 (k := 1) rfl ?_
    refine jk_aload_n C rd_Cords_has_5 (k := 0) rfl ?_
    refine jk_get C in_Cords (ci := 5) rfl 1 (by decide) tm_120 0 rfl rfl rd_Cords_has_6 ?_
    refine jk_icmp_ge (tgt := 16) C rd_Cords_has_9 (by decide) hf (fun _ hf => ?_) (fun _ hf => ?_)
    · refine jk_iconst C rd_Cords_has_16 ?_
      cases hf
      exact jk_zret C (Or.inl rfl) rfl rd_Cords_has_17 rfl
    · refine jk_iconst C rd_Cords_has_12 ?_
      refine jk_goto (tgt := 17) C rd_Cords_has_13 (by decide) ?_
      cases hf
      exact jk_zret C (Or.inr rfl) rfl rd_Cords_has_17 rfl
def wd_Cords_hasCluster (cI : ClassId) (a_t a_t_starts a_t_depth a_t_topic a_t_value a_t_nibbled : Nat) (i_t_clusters : Int) (i_t_size : Int) : va_W := [(a_t, .inr (5, [jk_V i_t_clusters, jk_V i_t_size, .ref a_t_starts, .ref a_t_depth, .ref a_t_topic, .ref a_t_value, .ref a_t_nibbled]))]
set_option maxHeartbeats 4000000 in
set_option maxRecDepth 20000 in
theorem ct_Cords_hasCluster (l : Launch) (D : va_G) (Z : (Nat → Prop) → State → Heap → Prop) (sq : Nat → Nat) (hZ : jk_ZK Z sq) (cI cR : ClassId) (a_t a_t_starts a_t_depth a_t_topic a_t_value a_t_nibbled : Nat) (i_t_clusters : Int) (i_t_size : Int) (x1 : Int) (q : Int) (hf : fn_Cords_hasCluster i_t_clusters x1 = some q) : jk_MI l D jk_cl (jk_ty cI cR) Z mn_Cords_hasCluster (.code mn_Cords_hasCluster mb_Cords_hasCluster 2 (some .boolean) :: jk_WA) (jk_rm 0 0) [.ref a_t, jk_V x1] (wd_Cords_hasCluster cI a_t a_t_starts a_t_depth a_t_topic a_t_value a_t_nibbled i_t_clusters i_t_size) (wd_Cords_hasCluster cI a_t a_t_starts a_t_depth a_t_topic a_t_value a_t_nibbled i_t_clusters i_t_size) q := by
  intro sz
  refine jk_body (by decide +kernel) (fun p e s m args below meth c hsz hz hin C => ?_) (Nat.le_of_ble_eq_true rfl)
  subst hsz
  unfold fn_Cords_hasCluster at hf
  refine jk_iload_n C rd_Cords_hasCluster_0 (k := 1) rfl ?_
  refine jk_if_lt (tgt := 16) C rd_Cords_hasCluster_1 (by decide) hf (fun _ hf => ?_) (fun _ hf => ?_)
  · refine jk_iconst C rd_Cords_hasCluster_16 ?_
    cases hf
    exact jk_zret C (Or.inl rfl) rfl rd_Cords_hasCluster_17 rfl
  · refine jk_iload_n C rd_Cords_hasCluster_4 (k := 1) rfl ?_
    refine jk_aload_n C rd_Cords_hasCluster_5 (k := 0) rfl ?_
    refine jk_get C in_Cords (ci := 5) rfl 0 (by decide) tm_116 0 rfl rfl rd_Cords_hasCluster_6 ?_
    refine jk_icmp_ge (tgt := 16) C rd_Cords_hasCluster_9 (by decide) hf (fun _ hf => ?_) (fun _ hf => ?_)
    · refine jk_iconst C rd_Cords_hasCluster_16 ?_
      cases hf
      exact jk_zret C (Or.inl rfl) rfl rd_Cords_hasCluster_17 rfl
    · refine jk_iconst C rd_Cords_hasCluster_12 ?_
      refine jk_goto (tgt := 17) C rd_Cords_hasCluster_13 (by decide) ?_
      cases hf
      exact jk_zret C (Or.inr rfl) rfl rd_Cords_hasCluster_17 rfl
def wd_Cords_canHoldMore (cI : ClassId) (a_t a_t_starts a_t_depth a_t_topic a_t_value a_t_nibbled a_t_depth_k : Nat) (i_t_clusters : Int) (i_t_size : Int) (i_t_depth : (Int → Int)) : va_W := [(a_t, .inr (5, [jk_V i_t_clusters, jk_V i_t_size, .ref a_t_starts, .ref a_t_depth, .ref a_t_topic, .ref a_t_value, .ref a_t_nibbled])), (a_t_depth, .inr (0, [.ref a_t_depth_k])), (a_t_depth_k, jk_W cI 40 i_t_depth)]
set_option maxHeartbeats 4000000 in
set_option maxRecDepth 20000 in
theorem ct_Cords_canHoldMore (l : Launch) (D : va_G) (Z : (Nat → Prop) → State → Heap → Prop) (sq : Nat → Nat) (hZ : jk_ZK Z sq) (cI cR : ClassId) (a_t a_t_starts a_t_depth a_t_topic a_t_value a_t_nibbled a_t_depth_k : Nat) (i_t_clusters : Int) (i_t_size : Int) (i_t_depth : (Int → Int)) (x1 : Int) (q : Int) (hf : fn_Cords_canHoldMore i_t_depth x1 = some q) : jk_MI l D jk_cl (jk_ty cI cR) Z mn_Cords_canHoldMore (.code mn_Cords_canHoldMore mb_Cords_canHoldMore 2 (some .boolean) :: jk_WA) (jk_rm 1 21) [.ref a_t, jk_V x1] (wd_Cords_canHoldMore cI a_t a_t_starts a_t_depth a_t_topic a_t_value a_t_nibbled a_t_depth_k i_t_clusters i_t_size i_t_depth) (wd_Cords_canHoldMore cI a_t a_t_starts a_t_depth a_t_topic a_t_value a_t_nibbled a_t_depth_k i_t_clusters i_t_size i_t_depth) q := by
  intro sz
  refine jk_body (by decide +kernel) (fun p e s m args below meth c hsz hz hin C => ?_) (Nat.le_of_ble_eq_true rfl)
  subst hsz
  unfold fn_Cords_canHoldMore at hf
  refine jk_aload_n C rd_Cords_canHoldMore_0 (k := 0) rfl ?_
  refine jk_get C in_Cords (ci := 5) rfl 3 (by decide) tm_125 0 rfl rfl rd_Cords_canHoldMore_1 ?_
  refine jk_iload_n C rd_Cords_canHoldMore_4 (k := 1) rfl ?_
  obtain ⟨q5, hq5, hf⟩ := jk_bind_h hf
  refine jk_callVi C hZ.1 hz (ct_Row_get l D Z sq hZ cI cR (n_t := 40) (Nat.le_of_ble_eq_true rfl) a_t_depth a_t_depth_k i_t_depth x1 q5 hq5) tm_356 tm_292 tm_293 tm_3 tm_294 na_Row_get ⟨Nat.le_of_ble_eq_true rfl, Nat.le_of_ble_eq_true rfl⟩ rfl [1, 2] rfl rfl rfl (ws' := wd_Cords_canHoldMore cI a_t a_t_starts a_t_depth a_t_topic a_t_value a_t_nibbled a_t_depth_k i_t_clusters i_t_size i_t_depth) rfl 1 0 rfl rfl rfl (st := []) rfl (Nat.le_of_ble_eq_true rfl) rd_Cords_canHoldMore_5 ?_ ⟨Nat.le_refl _, Nat.le_refl _⟩
  refine jk_iconst C rd_Cords_canHoldMore_8 ?_
  refine jk_icmp_lt (tgt := 28) C rd_Cords_canHoldMore_9 (by decide) hf (fun _ hf => ?_) (fun _ hf => ?_)
  · refine jk_iconst C rd_Cords_canHoldMore_28 ?_
    cases hf
    exact jk_zret C (Or.inl rfl) rfl rd_Cords_canHoldMore_29 rfl
  · refine jk_aload_n C rd_Cords_canHoldMore_12 (k := 0) rfl ?_
    refine jk_get C in_Cords (ci := 5) rfl 3 (by decide) tm_125 0 rfl rfl rd_Cords_canHoldMore_13 ?_
    refine jk_iload_n C rd_Cords_canHoldMore_16 (k := 1) rfl ?_
    obtain ⟨q17, hq17, hf⟩ := jk_bind_h hf
    refine jk_callVi C hZ.1 hz (ct_Row_get l D Z sq hZ cI cR (n_t := 40) (Nat.le_of_ble_eq_true rfl) a_t_depth a_t_depth_k i_t_depth x1 q17 hq17) tm_356 tm_292 tm_293 tm_3 tm_294 na_Row_get ⟨Nat.le_of_ble_eq_true rfl, Nat.le_of_ble_eq_true rfl⟩ rfl [1, 2] rfl rfl rfl (ws' := wd_Cords_canHoldMore cI a_t a_t_starts a_t_depth a_t_topic a_t_value a_t_nibbled a_t_depth_k i_t_clusters i_t_size i_t_depth) rfl 1 0 rfl rfl rfl (st := []) rfl (Nat.le_of_ble_eq_true rfl) rd_Cords_canHoldMore_17 ?_ ⟨Nat.le_refl _, Nat.le_refl _⟩
    refine jk_iconst C rd_Cords_canHoldMore_20 ?_
    refine jk_icmp_ge (tgt := 28) C rd_Cords_canHoldMore_21 (by decide) hf (fun _ hf => ?_) (fun _ hf => ?_)
    · refine jk_iconst C rd_Cords_canHoldMore_28 ?_
      cases hf
      exact jk_zret C (Or.inl rfl) rfl rd_Cords_canHoldMore_29 rfl
    · refine jk_iconst C rd_Cords_canHoldMore_24 ?_
      refine jk_goto (tgt := 29) C rd_Cords_canHoldMore_25 (by decide) ?_
      cases hf
      exact jk_zret C (Or.inr rfl) rfl rd_Cords_canHoldMore_29 rfl
def wd_Cords_latestAtDepth (cI : ClassId) (a_t a_t_starts a_t_depth a_t_topic a_t_value a_t_nibbled a_t_depth_k : Nat) (i_t_clusters : Int) (i_t_size : Int) (i_t_depth : (Int → Int)) : va_W := [(a_t, .inr (5, [jk_V i_t_clusters, jk_V i_t_size, .ref a_t_starts, .ref a_t_depth, .ref a_t_topic, .ref a_t_value, .ref a_t_nibbled])), (a_t_depth, .inr (0, [.ref a_t_depth_k])), (a_t_depth_k, jk_W cI 40 i_t_depth)]
set_option maxHeartbeats 4000000 in
set_option maxRecDepth 20000 in
theorem ct_Cords_latestAtDepth (l : Launch) (D : va_G) (Z : (Nat → Prop) → State → Heap → Prop) (sq : Nat → Nat) (hZ : jk_ZK Z sq) (cI cR : ClassId) (a_t a_t_starts a_t_depth a_t_topic a_t_value a_t_nibbled a_t_depth_k : Nat) (i_t_clusters : Int) (i_t_size : Int) (i_t_depth : (Int → Int)) (x1 : Int) (x2 : Int) (x3 : Int) (q : Int) (hf : fn_Cords_latestAtDepth i_t_depth x1 x2 x3 = some q) : jk_MI l D jk_cl (jk_ty cI cR) Z mn_Cords_latestAtDepth (.code mn_Cords_latestAtDepth mb_Cords_latestAtDepth 5 (some .int) :: jk_WA) (jk_rm 1 21) [.ref a_t, jk_V x1, jk_V x2, jk_V x3] (wd_Cords_latestAtDepth cI a_t a_t_starts a_t_depth a_t_topic a_t_value a_t_nibbled a_t_depth_k i_t_clusters i_t_size i_t_depth) (wd_Cords_latestAtDepth cI a_t a_t_starts a_t_depth a_t_topic a_t_value a_t_nibbled a_t_depth_k i_t_clusters i_t_size i_t_depth) q := by
  intro sz
  refine jk_body (by decide +kernel) (fun p e s m args below meth c hsz hz hin C => ?_) (Nat.le_of_ble_eq_true rfl)
  subst hsz
  unfold fn_Cords_latestAtDepth at hf
  have bk_5 : ∀ (n : Nat) (v1 : Int) (v3 : Int) (v4 : Int), fn_Cords_latestAtDepth_b5 n i_t_depth v1 v3 v4 = some q → jk_J p l e (jk_rm 1 21) s m args below meth c 0 0 (jk_QI below D jk_cl (jk_ty cI cR) (wd_Cords_latestAtDepth cI a_t a_t_starts a_t_depth a_t_topic a_t_value a_t_nibbled a_t_depth_k i_t_clusters i_t_size i_t_depth) (wd_Cords_latestAtDepth cI a_t a_t_starts a_t_depth a_t_topic a_t_value a_t_nibbled a_t_depth_k i_t_clusters i_t_size i_t_depth) args s q) D jk_cl (va_A (wd_Cords_latestAtDepth cI a_t a_t_starts a_t_depth a_t_topic a_t_value a_t_nibbled a_t_depth_k i_t_clusters i_t_size i_t_depth) s.heap.size) 5 (wd_Cords_latestAtDepth cI a_t a_t_starts a_t_depth a_t_topic a_t_value a_t_nibbled a_t_depth_k i_t_clusters i_t_size i_t_depth) [(0, .ref a_t), (1, jk_V v1), (3, jk_V v3), (4, jk_V v4)] 5 [] := by
    intro n
    induction n with
    | zero => intro v1 v3 v4 hf; exact nomatch (show none = some q from hf)
    | succ n ih =>
      intro v1 v3 v4 hf
      rw [fn_Cords_latestAtDepth_b5] at hf
      refine jk_iload C rd_Cords_latestAtDepth_5 (k := 3) rfl ?_
      refine jk_iload_n C rd_Cords_latestAtDepth_7 (k := 1) rfl ?_
      refine jk_icmp_lt (tgt := 33) C rd_Cords_latestAtDepth_8 (by decide) hf (fun _ hf => ?_) (fun _ hf => ?_)
      · refine jk_iconst C rd_Cords_latestAtDepth_33 ?_
        cases hf
        exact jk_iret C rfl rd_Cords_latestAtDepth_34 rfl
      · refine jk_aload_n C rd_Cords_latestAtDepth_11 (k := 0) rfl ?_
        refine jk_get C in_Cords (ci := 5) rfl 3 (by decide) tm_125 0 rfl rfl rd_Cords_latestAtDepth_12 ?_
        refine jk_iload C rd_Cords_latestAtDepth_15 (k := 3) rfl ?_
        obtain ⟨q17, hq17, hf⟩ := jk_bind_h hf
        refine jk_callVi C hZ.1 hz (ct_Row_get l D Z sq hZ cI cR (n_t := 40) (Nat.le_of_ble_eq_true rfl) a_t_depth a_t_depth_k i_t_depth v4 q17 hq17) tm_356 tm_292 tm_293 tm_3 tm_294 na_Row_get ⟨Nat.le_of_ble_eq_true rfl, Nat.le_of_ble_eq_true rfl⟩ rfl [1, 2] rfl rfl rfl (ws' := wd_Cords_latestAtDepth cI a_t a_t_starts a_t_depth a_t_topic a_t_value a_t_nibbled a_t_depth_k i_t_clusters i_t_size i_t_depth) rfl 1 0 rfl rfl rfl (st := []) rfl (Nat.le_of_ble_eq_true rfl) rd_Cords_latestAtDepth_17 ?_ ⟨Nat.le_refl _, Nat.le_refl _⟩
        refine jk_iload_n C rd_Cords_latestAtDepth_20 (k := 2) rfl ?_
        refine jk_icmp_ne (tgt := 27) C rd_Cords_latestAtDepth_21 (by decide) hf (fun _ hf => ?_) (fun _ hf => ?_)
        · refine jk_iinc C rd_Cords_latestAtDepth_27 (k := 3) rfl (by decide) (lv' := [(4, jk_V (v4 + (-1))), (0, .ref a_t), (1, jk_V v1), (3, jk_V v3)]) rfl ?_
          refine jk_goto (tgt := 5) C rd_Cords_latestAtDepth_30 (by decide) ?_
          refine jk_lv (lv' := [(0, .ref a_t), (1, jk_V v1), (3, jk_V v3), (4, jk_V (v4 + (-1)))]) [1, 2, 3, 0] rfl ?_
          exact ih v1 v3 (v4 + (-1)) hf
        · refine jk_iload C rd_Cords_latestAtDepth_24 (k := 3) rfl ?_
          cases hf
          exact jk_iret C rfl rd_Cords_latestAtDepth_26 rfl
  refine jk_iload_n C rd_Cords_latestAtDepth_0 (k := 2) rfl ?_
  refine jk_iconst C rd_Cords_latestAtDepth_1 ?_
  refine jk_isub C rd_Cords_latestAtDepth_2 ?_
  refine jk_istore C rd_Cords_latestAtDepth_3 (by decide) (lv' := [(4, jk_V (x2 - 1)), (0, .ref a_t), (1, jk_V x1), (2, jk_V x2), (3, jk_V x3)]) rfl ?_
  refine jk_lv (lv' := [(0, .ref a_t), (1, jk_V x1), (3, jk_V x3), (4, jk_V (x2 - 1))]) [1, 2, 4, 0] rfl ?_
  exact bk_5 jk_F x1 x3 (x2 - 1) hf
def wd_Cords_parent (cI : ClassId) (a_t a_t_starts a_t_depth a_t_topic a_t_value a_t_nibbled a_t_depth_k : Nat) (i_t_clusters : Int) (i_t_size : Int) (i_t_depth : (Int → Int)) : va_W := [(a_t, .inr (5, [jk_V i_t_clusters, jk_V i_t_size, .ref a_t_starts, .ref a_t_depth, .ref a_t_topic, .ref a_t_value, .ref a_t_nibbled])), (a_t_depth, .inr (0, [.ref a_t_depth_k])), (a_t_depth_k, jk_W cI 40 i_t_depth)]
set_option maxHeartbeats 4000000 in
set_option maxRecDepth 20000 in
theorem ct_Cords_parent (l : Launch) (D : va_G) (Z : (Nat → Prop) → State → Heap → Prop) (sq : Nat → Nat) (hZ : jk_ZK Z sq) (cI cR : ClassId) (a_t a_t_starts a_t_depth a_t_topic a_t_value a_t_nibbled a_t_depth_k : Nat) (i_t_clusters : Int) (i_t_size : Int) (i_t_depth : (Int → Int)) (x1 : Int) (q : Int) (hf : fn_Cords_parent i_t_depth x1 = some q) : jk_MI l D jk_cl (jk_ty cI cR) Z mn_Cords_parent (.code mn_Cords_parent mb_Cords_parent 2 (some .int) :: jk_WA) (jk_rm 2 45) [.ref a_t, jk_V x1] (wd_Cords_parent cI a_t a_t_starts a_t_depth a_t_topic a_t_value a_t_nibbled a_t_depth_k i_t_clusters i_t_size i_t_depth) (wd_Cords_parent cI a_t a_t_starts a_t_depth a_t_topic a_t_value a_t_nibbled a_t_depth_k i_t_clusters i_t_size i_t_depth) q := by
  intro sz
  refine jk_body (by decide +kernel) (fun p e s m args below meth c hsz hz hin C => ?_) (Nat.le_of_ble_eq_true rfl)
  subst hsz
  unfold fn_Cords_parent at hf
  refine jk_aload_n C rd_Cords_parent_0 (k := 0) rfl ?_
  refine jk_get C in_Cords (ci := 5) rfl 3 (by decide) tm_125 0 rfl rfl rd_Cords_parent_1 ?_
  refine jk_iload_n C rd_Cords_parent_4 (k := 1) rfl ?_
  obtain ⟨q5, hq5, hf⟩ := jk_bind_h hf
  refine jk_callVi C hZ.1 hz (ct_Row_get l D Z sq hZ cI cR (n_t := 40) (Nat.le_of_ble_eq_true rfl) a_t_depth a_t_depth_k i_t_depth x1 q5 hq5) tm_356 tm_292 tm_293 tm_3 tm_294 na_Row_get ⟨Nat.le_of_ble_eq_true rfl, Nat.le_of_ble_eq_true rfl⟩ rfl [1, 2] rfl rfl rfl (ws' := wd_Cords_parent cI a_t a_t_starts a_t_depth a_t_topic a_t_value a_t_nibbled a_t_depth_k i_t_clusters i_t_size i_t_depth) rfl 1 0 rfl rfl rfl (st := []) rfl (Nat.le_of_ble_eq_true rfl) rd_Cords_parent_5 ?_ ⟨Nat.le_refl _, Nat.le_refl _⟩
  refine jk_iconst C rd_Cords_parent_8 ?_
  refine jk_icmp_gt (tgt := 14) C rd_Cords_parent_9 (by decide) hf (fun _ hf => ?_) (fun _ hf => ?_)
  · refine jk_aload_n C rd_Cords_parent_14 (k := 0) rfl ?_
    refine jk_iconst C rd_Cords_parent_15 ?_
    refine jk_iload_n C rd_Cords_parent_16 (k := 1) rfl ?_
    refine jk_aload_n C rd_Cords_parent_17 (k := 0) rfl ?_
    refine jk_get C in_Cords (ci := 5) rfl 3 (by decide) tm_125 0 rfl rfl rd_Cords_parent_18 ?_
    refine jk_iload_n C rd_Cords_parent_21 (k := 1) rfl ?_
    obtain ⟨q22, hq22, hf⟩ := jk_bind_h hf
    refine jk_callVi C hZ.1 hz (ct_Row_get l D Z sq hZ cI cR (n_t := 40) (Nat.le_of_ble_eq_true rfl) a_t_depth a_t_depth_k i_t_depth x1 q22 hq22) tm_356 tm_292 tm_293 tm_3 tm_294 na_Row_get ⟨Nat.le_of_ble_eq_true rfl, Nat.le_of_ble_eq_true rfl⟩ rfl [1, 2] rfl rfl rfl (ws' := wd_Cords_parent cI a_t a_t_starts a_t_depth a_t_topic a_t_value a_t_nibbled a_t_depth_k i_t_clusters i_t_size i_t_depth) rfl 1 0 rfl rfl rfl (st := [jk_V x1, jk_V 0, .ref a_t]) rfl (Nat.le_of_ble_eq_true rfl) rd_Cords_parent_22 ?_ ⟨Nat.le_refl _, Nat.le_refl _⟩
    refine jk_iconst C rd_Cords_parent_25 ?_
    refine jk_isub C rd_Cords_parent_26 ?_
    obtain ⟨q27, hq27, hf⟩ := jk_bind_h hf
    refine jk_callVi C hZ.1 hz (ct_Cords_latestAtDepth l D Z sq hZ cI cR a_t a_t_starts a_t_depth a_t_topic a_t_value a_t_nibbled a_t_depth_k i_t_clusters i_t_size i_t_depth 0 x1 (q22 - 1) q27 hq27) tm_898 tm_369 tm_370 tm_6 tm_371 na_Cords_latestAtDepth ⟨Nat.le_of_ble_eq_true rfl, Nat.le_of_ble_eq_true rfl⟩ rfl [0, 1, 2] rfl rfl rfl (ws' := wd_Cords_parent cI a_t a_t_starts a_t_depth a_t_topic a_t_value a_t_nibbled a_t_depth_k i_t_clusters i_t_size i_t_depth) rfl 0 5 rfl rfl rfl (st := []) rfl (Nat.le_of_ble_eq_true rfl) rd_Cords_parent_27 ?_ ⟨Nat.le_refl _, Nat.le_refl _⟩
    cases hf
    exact jk_iret C rfl rd_Cords_parent_30 rfl
  · refine jk_iconst C rd_Cords_parent_12 ?_
    cases hf
    exact jk_iret C rfl rd_Cords_parent_13 rfl
def wd_Cords_countAtDepth (cI : ClassId) (a_t a_t_starts a_t_depth a_t_topic a_t_value a_t_nibbled a_t_depth_k : Nat) (i_t_clusters : Int) (i_t_size : Int) (i_t_depth : (Int → Int)) : va_W := [(a_t, .inr (5, [jk_V i_t_clusters, jk_V i_t_size, .ref a_t_starts, .ref a_t_depth, .ref a_t_topic, .ref a_t_value, .ref a_t_nibbled])), (a_t_depth, .inr (0, [.ref a_t_depth_k])), (a_t_depth_k, jk_W cI 40 i_t_depth)]
set_option maxHeartbeats 4000000 in
set_option maxRecDepth 20000 in
theorem ct_Cords_countAtDepth (l : Launch) (D : va_G) (Z : (Nat → Prop) → State → Heap → Prop) (sq : Nat → Nat) (hZ : jk_ZK Z sq) (cI cR : ClassId) (a_t a_t_starts a_t_depth a_t_topic a_t_value a_t_nibbled a_t_depth_k : Nat) (i_t_clusters : Int) (i_t_size : Int) (i_t_depth : (Int → Int)) (x1 : Int) (x2 : Int) (x3 : Int) (q : Int) (hf : fn_Cords_countAtDepth i_t_depth x1 x2 x3 = some q) : jk_MI l D jk_cl (jk_ty cI cR) Z mn_Cords_countAtDepth (.code mn_Cords_countAtDepth mb_Cords_countAtDepth 6 (some .int) :: jk_WA) (jk_rm 1 21) [.ref a_t, jk_V x1, jk_V x2, jk_V x3] (wd_Cords_countAtDepth cI a_t a_t_starts a_t_depth a_t_topic a_t_value a_t_nibbled a_t_depth_k i_t_clusters i_t_size i_t_depth) (wd_Cords_countAtDepth cI a_t a_t_starts a_t_depth a_t_topic a_t_value a_t_nibbled a_t_depth_k i_t_clusters i_t_size i_t_depth) q := by
  intro sz
  refine jk_body (by decide +kernel) (fun p e s m args below meth c hsz hz hin C => ?_) (Nat.le_of_ble_eq_true rfl)
  subst hsz
  unfold fn_Cords_countAtDepth at hf
  have bk_6 : ∀ (n : Nat) (v2 : Int) (v3 : Int) (v4 : Int) (v5 : Int), fn_Cords_countAtDepth_b6 n i_t_depth v2 v3 v4 v5 = some q → jk_J p l e (jk_rm 1 21) s m args below meth c 0 0 (jk_QI below D jk_cl (jk_ty cI cR) (wd_Cords_countAtDepth cI a_t a_t_starts a_t_depth a_t_topic a_t_value a_t_nibbled a_t_depth_k i_t_clusters i_t_size i_t_depth) (wd_Cords_countAtDepth cI a_t a_t_starts a_t_depth a_t_topic a_t_value a_t_nibbled a_t_depth_k i_t_clusters i_t_size i_t_depth) args s q) D jk_cl (va_A (wd_Cords_countAtDepth cI a_t a_t_starts a_t_depth a_t_topic a_t_value a_t_nibbled a_t_depth_k i_t_clusters i_t_size i_t_depth) s.heap.size) 6 (wd_Cords_countAtDepth cI a_t a_t_starts a_t_depth a_t_topic a_t_value a_t_nibbled a_t_depth_k i_t_clusters i_t_size i_t_depth) [(0, .ref a_t), (2, jk_V v2), (3, jk_V v3), (4, jk_V v4), (5, jk_V v5)] 6 [] := by
    intro n
    induction n with
    | zero => intro v2 v3 v4 v5 hf; exact nomatch (show none = some q from hf)
    | succ n ih =>
      intro v2 v3 v4 v5 hf
      rw [fn_Cords_countAtDepth_b6] at hf
      refine jk_iload C rd_Cords_countAtDepth_6 (k := 4) rfl ?_
      refine jk_iload_n C rd_Cords_countAtDepth_8 (k := 1) rfl ?_
      refine jk_icmp_ge (tgt := 34) C rd_Cords_countAtDepth_9 (by decide) hf (fun _ hf => ?_) (fun _ hf => ?_)
      · refine jk_iload C rd_Cords_countAtDepth_34 (k := 3) rfl ?_
        cases hf
        exact jk_iret C rfl rd_Cords_countAtDepth_36 rfl
      · refine jk_aload_n C rd_Cords_countAtDepth_12 (k := 0) rfl ?_
        refine jk_get C in_Cords (ci := 5) rfl 3 (by decide) tm_125 0 rfl rfl rd_Cords_countAtDepth_13 ?_
        refine jk_iload C rd_Cords_countAtDepth_16 (k := 4) rfl ?_
        obtain ⟨q18, hq18, hf⟩ := jk_bind_h hf
        refine jk_callVi C hZ.1 hz (ct_Row_get l D Z sq hZ cI cR (n_t := 40) (Nat.le_of_ble_eq_true rfl) a_t_depth a_t_depth_k i_t_depth v5 q18 hq18) tm_356 tm_292 tm_293 tm_3 tm_294 na_Row_get ⟨Nat.le_of_ble_eq_true rfl, Nat.le_of_ble_eq_true rfl⟩ rfl [1, 2] rfl rfl rfl (ws' := wd_Cords_countAtDepth cI a_t a_t_starts a_t_depth a_t_topic a_t_value a_t_nibbled a_t_depth_k i_t_clusters i_t_size i_t_depth) rfl 1 0 rfl rfl rfl (st := []) rfl (Nat.le_of_ble_eq_true rfl) rd_Cords_countAtDepth_18 ?_ ⟨Nat.le_refl _, Nat.le_refl _⟩
        refine jk_iload_n C rd_Cords_countAtDepth_21 (k := 2) rfl ?_
        refine jk_icmp_ne (tgt := 28) C rd_Cords_countAtDepth_22 (by decide) hf (fun _ hf => ?_) (fun _ hf => ?_)
        · refine jk_iinc C rd_Cords_countAtDepth_28 (k := 4) rfl (by decide) (lv' := [(5, jk_V (v5 + 1)), (0, .ref a_t), (2, jk_V v2), (3, jk_V v3), (4, jk_V v4)]) rfl ?_
          refine jk_goto (tgt := 6) C rd_Cords_countAtDepth_31 (by decide) ?_
          refine jk_lv (lv' := [(0, .ref a_t), (2, jk_V v2), (3, jk_V v3), (4, jk_V v4), (5, jk_V (v5 + 1))]) [1, 2, 3, 4, 0] rfl ?_
          exact ih v2 v3 v4 (v5 + 1) hf
        · refine jk_iinc C rd_Cords_countAtDepth_25 (k := 3) rfl (by decide) (lv' := [(4, jk_V (v4 + 1)), (0, .ref a_t), (2, jk_V v2), (3, jk_V v3), (5, jk_V v5)]) rfl ?_
          refine jk_iinc C rd_Cords_countAtDepth_28 (k := 4) rfl (by decide) (lv' := [(5, jk_V (v5 + 1)), (4, jk_V (v4 + 1)), (0, .ref a_t), (2, jk_V v2), (3, jk_V v3)]) rfl ?_
          refine jk_goto (tgt := 6) C rd_Cords_countAtDepth_31 (by decide) ?_
          refine jk_lv (lv' := [(0, .ref a_t), (2, jk_V v2), (3, jk_V v3), (4, jk_V (v4 + 1)), (5, jk_V (v5 + 1))]) [2, 3, 4, 1, 0] rfl ?_
          exact ih v2 v3 (v4 + 1) (v5 + 1) hf
  refine jk_iconst C rd_Cords_countAtDepth_0 ?_
  refine jk_istore C rd_Cords_countAtDepth_1 (by decide) (lv' := [(4, jk_V 0), (0, .ref a_t), (1, jk_V x1), (2, jk_V x2), (3, jk_V x3)]) rfl ?_
  refine jk_iload_n C rd_Cords_countAtDepth_3 (k := 2) rfl ?_
  refine jk_istore C rd_Cords_countAtDepth_4 (by decide) (lv' := [(5, jk_V x1), (4, jk_V 0), (0, .ref a_t), (1, jk_V x1), (2, jk_V x2), (3, jk_V x3)]) rfl ?_
  refine jk_lv (lv' := [(0, .ref a_t), (2, jk_V x2), (3, jk_V x3), (4, jk_V 0), (5, jk_V x1)]) [2, 4, 5, 1, 0] rfl ?_
  exact bk_6 jk_F x2 x3 0 x1 hf
def wd_Cords_countOfTopic (cI : ClassId) (a_t a_t_starts a_t_depth a_t_topic a_t_value a_t_nibbled a_t_topic_k : Nat) (i_t_clusters : Int) (i_t_size : Int) (i_t_topic : (Int → Int)) : va_W := [(a_t, .inr (5, [jk_V i_t_clusters, jk_V i_t_size, .ref a_t_starts, .ref a_t_depth, .ref a_t_topic, .ref a_t_value, .ref a_t_nibbled])), (a_t_topic, .inr (0, [.ref a_t_topic_k])), (a_t_topic_k, jk_W cI 40 i_t_topic)]
set_option maxHeartbeats 4000000 in
set_option maxRecDepth 20000 in
theorem ct_Cords_countOfTopic (l : Launch) (D : va_G) (Z : (Nat → Prop) → State → Heap → Prop) (sq : Nat → Nat) (hZ : jk_ZK Z sq) (cI cR : ClassId) (a_t a_t_starts a_t_depth a_t_topic a_t_value a_t_nibbled a_t_topic_k : Nat) (i_t_clusters : Int) (i_t_size : Int) (i_t_topic : (Int → Int)) (x1 : Int) (q : Int) (hf : fn_Cords_countOfTopic i_t_size i_t_topic x1 = some q) : jk_MI l D jk_cl (jk_ty cI cR) Z mn_Cords_countOfTopic (.code mn_Cords_countOfTopic mb_Cords_countOfTopic 4 (some .int) :: jk_WA) (jk_rm 1 21) [.ref a_t, jk_V x1] (wd_Cords_countOfTopic cI a_t a_t_starts a_t_depth a_t_topic a_t_value a_t_nibbled a_t_topic_k i_t_clusters i_t_size i_t_topic) (wd_Cords_countOfTopic cI a_t a_t_starts a_t_depth a_t_topic a_t_value a_t_nibbled a_t_topic_k i_t_clusters i_t_size i_t_topic) q := by
  intro sz
  refine jk_body (by decide +kernel) (fun p e s m args below meth c hsz hz hin C => ?_) (Nat.le_of_ble_eq_true rfl)
  subst hsz
  unfold fn_Cords_countOfTopic at hf
  have bk_4 : ∀ (n : Nat) (v1 : Int) (v2 : Int) (v3 : Int), fn_Cords_countOfTopic_b4 n i_t_size i_t_topic v1 v2 v3 = some q → jk_J p l e (jk_rm 1 21) s m args below meth c 0 0 (jk_QI below D jk_cl (jk_ty cI cR) (wd_Cords_countOfTopic cI a_t a_t_starts a_t_depth a_t_topic a_t_value a_t_nibbled a_t_topic_k i_t_clusters i_t_size i_t_topic) (wd_Cords_countOfTopic cI a_t a_t_starts a_t_depth a_t_topic a_t_value a_t_nibbled a_t_topic_k i_t_clusters i_t_size i_t_topic) args s q) D jk_cl (va_A (wd_Cords_countOfTopic cI a_t a_t_starts a_t_depth a_t_topic a_t_value a_t_nibbled a_t_topic_k i_t_clusters i_t_size i_t_topic) s.heap.size) 4 (wd_Cords_countOfTopic cI a_t a_t_starts a_t_depth a_t_topic a_t_value a_t_nibbled a_t_topic_k i_t_clusters i_t_size i_t_topic) [(0, .ref a_t), (1, jk_V v1), (2, jk_V v2), (3, jk_V v3)] 4 [] := by
    intro n
    induction n with
    | zero => intro v1 v2 v3 hf; exact nomatch (show none = some q from hf)
    | succ n ih =>
      intro v1 v2 v3 hf
      rw [fn_Cords_countOfTopic_b4] at hf
      refine jk_iload_n C rd_Cords_countOfTopic_4 (k := 3) rfl ?_
      refine jk_aload_n C rd_Cords_countOfTopic_5 (k := 0) rfl ?_
      refine jk_get C in_Cords (ci := 5) rfl 1 (by decide) tm_120 0 rfl rfl rd_Cords_countOfTopic_6 ?_
      refine jk_icmp_ge (tgt := 33) C rd_Cords_countOfTopic_9 (by decide) hf (fun _ hf => ?_) (fun _ hf => ?_)
      · refine jk_iload_n C rd_Cords_countOfTopic_33 (k := 2) rfl ?_
        cases hf
        exact jk_iret C rfl rd_Cords_countOfTopic_34 rfl
      · refine jk_aload_n C rd_Cords_countOfTopic_12 (k := 0) rfl ?_
        refine jk_get C in_Cords (ci := 5) rfl 4 (by decide) tm_128 0 rfl rfl rd_Cords_countOfTopic_13 ?_
        refine jk_iload_n C rd_Cords_countOfTopic_16 (k := 3) rfl ?_
        obtain ⟨q17, hq17, hf⟩ := jk_bind_h hf
        refine jk_callVi C hZ.1 hz (ct_Row_get l D Z sq hZ cI cR (n_t := 40) (Nat.le_of_ble_eq_true rfl) a_t_topic a_t_topic_k i_t_topic v3 q17 hq17) tm_356 tm_292 tm_293 tm_3 tm_294 na_Row_get ⟨Nat.le_of_ble_eq_true rfl, Nat.le_of_ble_eq_true rfl⟩ rfl [1, 2] rfl rfl rfl (ws' := wd_Cords_countOfTopic cI a_t a_t_starts a_t_depth a_t_topic a_t_value a_t_nibbled a_t_topic_k i_t_clusters i_t_size i_t_topic) rfl 1 0 rfl rfl rfl (st := []) rfl (Nat.le_of_ble_eq_true rfl) rd_Cords_countOfTopic_17 ?_ ⟨Nat.le_refl _, Nat.le_refl _⟩
        refine jk_iload_n C rd_Cords_countOfTopic_20 (k := 1) rfl ?_
        refine jk_icmp_ne (tgt := 27) C rd_Cords_countOfTopic_21 (by decide) hf (fun _ hf => ?_) (fun _ hf => ?_)
        · refine jk_iinc C rd_Cords_countOfTopic_27 (k := 3) rfl (by decide) (lv' := [(3, jk_V (v3 + 1)), (0, .ref a_t), (1, jk_V v1), (2, jk_V v2)]) rfl ?_
          refine jk_goto (tgt := 4) C rd_Cords_countOfTopic_30 (by decide) ?_
          refine jk_lv (lv' := [(0, .ref a_t), (1, jk_V v1), (2, jk_V v2), (3, jk_V (v3 + 1))]) [1, 2, 3, 0] rfl ?_
          exact ih v1 v2 (v3 + 1) hf
        · refine jk_iinc C rd_Cords_countOfTopic_24 (k := 2) rfl (by decide) (lv' := [(2, jk_V (v2 + 1)), (0, .ref a_t), (1, jk_V v1), (3, jk_V v3)]) rfl ?_
          refine jk_iinc C rd_Cords_countOfTopic_27 (k := 3) rfl (by decide) (lv' := [(3, jk_V (v3 + 1)), (2, jk_V (v2 + 1)), (0, .ref a_t), (1, jk_V v1)]) rfl ?_
          refine jk_goto (tgt := 4) C rd_Cords_countOfTopic_30 (by decide) ?_
          refine jk_lv (lv' := [(0, .ref a_t), (1, jk_V v1), (2, jk_V (v2 + 1)), (3, jk_V (v3 + 1))]) [2, 3, 1, 0] rfl ?_
          exact ih v1 (v2 + 1) (v3 + 1) hf
  refine jk_iconst C rd_Cords_countOfTopic_0 ?_
  refine jk_istore_n C rd_Cords_countOfTopic_1 (by decide) (lv' := [(2, jk_V 0), (0, .ref a_t), (1, jk_V x1)]) rfl ?_
  refine jk_iconst C rd_Cords_countOfTopic_2 ?_
  refine jk_istore_n C rd_Cords_countOfTopic_3 (by decide) (lv' := [(3, jk_V 0), (2, jk_V 0), (0, .ref a_t), (1, jk_V x1)]) rfl ?_
  refine jk_lv (lv' := [(0, .ref a_t), (1, jk_V x1), (2, jk_V 0), (3, jk_V 0)]) [2, 3, 1, 0] rfl ?_
  exact bk_4 jk_F x1 0 0 hf
def wd_Cords_openCluster (cI : ClassId) (a_t a_t_starts a_t_depth a_t_topic a_t_value a_t_nibbled a_t_starts_k : Nat) (i_t_clusters : Int) (i_t_size : Int) (i_t_starts : (Int → Int)) : va_W := [(a_t, .inr (5, [jk_V i_t_clusters, jk_V i_t_size, .ref a_t_starts, .ref a_t_depth, .ref a_t_topic, .ref a_t_value, .ref a_t_nibbled])), (a_t_starts, .inr (0, [.ref a_t_starts_k])), (a_t_starts_k, jk_W cI 7 i_t_starts)]
set_option maxHeartbeats 4000000 in
set_option maxRecDepth 20000 in
theorem ct_Cords_openCluster (l : Launch) (D : va_G) (Z : (Nat → Prop) → State → Heap → Prop) (sq : Nat → Nat) (hZ : jk_ZK Z sq) (cI cR : ClassId) (a_t a_t_starts a_t_depth a_t_topic a_t_value a_t_nibbled a_t_starts_k : Nat) (i_t_clusters : Int) (i_t_size : Int) (i_t_starts : (Int → Int)) (q : Int × Int × (Int → Int)) (hf : fn_Cords_openCluster i_t_clusters i_t_size i_t_starts = some q) : jk_MI l D jk_cl (jk_ty cI cR) Z mn_Cords_openCluster (.code mn_Cords_openCluster mb_Cords_openCluster 1 (some .int) :: jk_WA) (jk_rm 1 22) [.ref a_t] (wd_Cords_openCluster cI a_t a_t_starts a_t_depth a_t_topic a_t_value a_t_nibbled a_t_starts_k i_t_clusters i_t_size i_t_starts) (wd_Cords_openCluster cI a_t a_t_starts a_t_depth a_t_topic a_t_value a_t_nibbled a_t_starts_k q.2.1 i_t_size q.2.2) q.1 := by
  intro sz
  refine jk_body (by decide +kernel) (fun p e s m args below meth c hsz hz hin C => ?_) (Nat.le_of_ble_eq_true rfl)
  subst hsz
  unfold fn_Cords_openCluster at hf
  refine jk_aload_n C rd_Cords_openCluster_0 (k := 0) rfl ?_
  refine jk_get C in_Cords (ci := 5) rfl 0 (by decide) tm_116 0 rfl rfl rd_Cords_openCluster_1 ?_
  refine jk_bipush C rd_Cords_openCluster_4 (by decide +kernel) ?_
  refine jk_icmp_lt (tgt := 11) C rd_Cords_openCluster_6 (by decide) hf (fun _ hf => ?_) (fun _ hf => ?_)
  · refine jk_aload_n C rd_Cords_openCluster_11 (k := 0) rfl ?_
    refine jk_dup C rd_Cords_openCluster_12 rfl ?_
    refine jk_get C in_Cords (ci := 5) rfl 0 (by decide) tm_116 0 rfl rfl rd_Cords_openCluster_13 ?_
    refine jk_iconst C rd_Cords_openCluster_16 ?_
    refine jk_iadd C rd_Cords_openCluster_17 ?_
    refine jk_putf C in_Cords ty_Cords nm_Cords (ci := 5) rfl 0 (by decide) tm_116 rfl rfl rfl 0 rfl (Nat.le_of_ble_eq_true rfl) rd_Cords_openCluster_18 (ws' := wd_Cords_openCluster cI a_t a_t_starts a_t_depth a_t_topic a_t_value a_t_nibbled a_t_starts_k (i_t_clusters + 1) i_t_size i_t_starts) rfl ?_
    refine jk_aload_n C rd_Cords_openCluster_21 (k := 0) rfl ?_
    refine jk_get C in_Cords (ci := 5) rfl 2 (by decide) tm_124 0 rfl rfl rd_Cords_openCluster_22 ?_
    refine jk_aload_n C rd_Cords_openCluster_25 (k := 0) rfl ?_
    refine jk_get C in_Cords (ci := 5) rfl 0 (by decide) tm_116 0 rfl rfl rd_Cords_openCluster_26 ?_
    refine jk_aload_n C rd_Cords_openCluster_29 (k := 0) rfl ?_
    refine jk_get C in_Cords (ci := 5) rfl 1 (by decide) tm_120 0 rfl rfl rd_Cords_openCluster_30 ?_
    obtain ⟨q33, hq33, hf⟩ := jk_bind_h hf
    refine jk_callVv C hZ.1 hz (ct_Row_set l D Z sq hZ cI cR (n_t := 7) (Nat.le_of_ble_eq_true rfl) a_t_starts a_t_starts_k i_t_starts (i_t_clusters + 1) i_t_size q33 hq33) tm_338 tm_257 tm_258 tm_3 tm_259 na_Row_set ⟨Nat.le_of_ble_eq_true rfl, Nat.le_of_ble_eq_true rfl⟩ rfl [1, 2] rfl rfl rfl (ws' := wd_Cords_openCluster cI a_t a_t_starts a_t_depth a_t_topic a_t_value a_t_nibbled a_t_starts_k (i_t_clusters + 1) i_t_size q33) rfl 1 0 rfl rfl rfl (st := []) rfl (Nat.le_of_ble_eq_true rfl) rd_Cords_openCluster_33 ?_ ⟨Nat.le_refl _, Nat.le_refl _⟩
    refine jk_aload_n C rd_Cords_openCluster_36 (k := 0) rfl ?_
    refine jk_get C in_Cords (ci := 5) rfl 0 (by decide) tm_116 0 rfl rfl rd_Cords_openCluster_37 ?_
    refine jk_iconst C rd_Cords_openCluster_40 ?_
    refine jk_isub C rd_Cords_openCluster_41 ?_
    cases hf
    exact jk_iret C rfl rd_Cords_openCluster_42 rfl
  · refine jk_iconst C rd_Cords_openCluster_9 ?_
    cases hf
    exact jk_iret C rfl rd_Cords_openCluster_10 rfl
def wd_Cords_resize (cI : ClassId) (a_t a_t_starts a_t_depth a_t_topic a_t_value a_t_nibbled a_t_starts_k : Nat) (i_t_clusters : Int) (i_t_size : Int) (i_t_starts : (Int → Int)) : va_W := [(a_t, .inr (5, [jk_V i_t_clusters, jk_V i_t_size, .ref a_t_starts, .ref a_t_depth, .ref a_t_topic, .ref a_t_value, .ref a_t_nibbled])), (a_t_starts, .inr (0, [.ref a_t_starts_k])), (a_t_starts_k, jk_W cI 7 i_t_starts)]
set_option maxHeartbeats 4000000 in
set_option maxRecDepth 20000 in
theorem ct_Cords_resize (l : Launch) (D : va_G) (Z : (Nat → Prop) → State → Heap → Prop) (sq : Nat → Nat) (hZ : jk_ZK Z sq) (cI cR : ClassId) (a_t a_t_starts a_t_depth a_t_topic a_t_value a_t_nibbled a_t_starts_k : Nat) (i_t_clusters : Int) (i_t_size : Int) (i_t_starts : (Int → Int)) (x1 : Int) (x2 : Int) (q : Int × (Int → Int)) (hf : fn_Cords_resize i_t_clusters i_t_size i_t_starts x1 x2 = some q) : jk_MV l D jk_cl (jk_ty cI cR) Z mn_Cords_resize (.code mn_Cords_resize mb_Cords_resize 4 none :: jk_WA) (jk_rm 1 22) [.ref a_t, jk_V x1, jk_V x2] (wd_Cords_resize cI a_t a_t_starts a_t_depth a_t_topic a_t_value a_t_nibbled a_t_starts_k i_t_clusters i_t_size i_t_starts) (wd_Cords_resize cI a_t a_t_starts a_t_depth a_t_topic a_t_value a_t_nibbled a_t_starts_k i_t_clusters q.1 q.2) := by
  intro sz
  refine jk_body (by decide +kernel) (fun p e s m args below meth c hsz hz hin C => ?_) (Nat.le_of_ble_eq_true rfl)
  subst hsz
  unfold fn_Cords_resize at hf
  have bk_14 : ∀ (n : Nat) (t_size : Int) (t_starts : (Int → Int)) (v2 : Int) (v3 : Int), fn_Cords_resize_b14 n i_t_clusters t_size t_starts v2 v3 = some q → jk_J p l e (jk_rm 1 22) s m args below meth c 0 0 (jk_QV below D jk_cl (jk_ty cI cR) (wd_Cords_resize cI a_t a_t_starts a_t_depth a_t_topic a_t_value a_t_nibbled a_t_starts_k i_t_clusters i_t_size i_t_starts) (wd_Cords_resize cI a_t a_t_starts a_t_depth a_t_topic a_t_value a_t_nibbled a_t_starts_k i_t_clusters q.1 q.2) args s) D jk_cl (va_A (wd_Cords_resize cI a_t a_t_starts a_t_depth a_t_topic a_t_value a_t_nibbled a_t_starts_k i_t_clusters i_t_size i_t_starts) s.heap.size) 4 (wd_Cords_resize cI a_t a_t_starts a_t_depth a_t_topic a_t_value a_t_nibbled a_t_starts_k i_t_clusters t_size t_starts) [(0, .ref a_t), (2, jk_V v2), (3, jk_V v3)] 14 [] := by
    intro n
    induction n with
    | zero => intro t_size t_starts v2 v3 hf; exact nomatch (show none = some q from hf)
    | succ n ih =>
      intro t_size t_starts v2 v3 hf
      rw [fn_Cords_resize_b14] at hf
      refine jk_iload_n C rd_Cords_resize_14 (k := 2) rfl ?_
      refine jk_aload_n C rd_Cords_resize_15 (k := 0) rfl ?_
      refine jk_get C in_Cords (ci := 5) rfl 0 (by decide) tm_116 0 rfl rfl rd_Cords_resize_16 ?_
      refine jk_icmp_gt (tgt := 46) C rd_Cords_resize_19 (by decide) hf (fun _ hf => ?_) (fun _ hf => ?_)
      · cases hf
        exact jk_vret C rfl rd_Cords_resize_46 rfl
      · refine jk_aload_n C rd_Cords_resize_22 (k := 0) rfl ?_
        refine jk_get C in_Cords (ci := 5) rfl 2 (by decide) tm_124 0 rfl rfl rd_Cords_resize_23 ?_
        refine jk_iload_n C rd_Cords_resize_26 (k := 2) rfl ?_
        refine jk_aload_n C rd_Cords_resize_27 (k := 0) rfl ?_
        refine jk_get C in_Cords (ci := 5) rfl 2 (by decide) tm_124 0 rfl rfl rd_Cords_resize_28 ?_
        refine jk_iload_n C rd_Cords_resize_31 (k := 2) rfl ?_
        obtain ⟨q32, hq32, hf⟩ := jk_bind_h hf
        refine jk_callVi C hZ.1 hz (ct_Row_get l D Z sq hZ cI cR (n_t := 7) (Nat.le_of_ble_eq_true rfl) a_t_starts a_t_starts_k t_starts v3 q32 hq32) tm_356 tm_292 tm_293 tm_3 tm_294 na_Row_get ⟨Nat.le_of_ble_eq_true rfl, Nat.le_of_ble_eq_true rfl⟩ rfl [1, 2] rfl rfl rfl (ws' := wd_Cords_resize cI a_t a_t_starts a_t_depth a_t_topic a_t_value a_t_nibbled a_t_starts_k i_t_clusters t_size t_starts) rfl 1 0 rfl rfl rfl (st := [jk_V v3, .ref a_t_starts]) rfl (Nat.le_of_ble_eq_true rfl) rd_Cords_resize_32 ?_ ⟨Nat.le_refl _, Nat.le_refl _⟩
        refine jk_iload_n C rd_Cords_resize_35 (k := 1) rfl ?_
        refine jk_iadd C rd_Cords_resize_36 ?_
        obtain ⟨q37, hq37, hf⟩ := jk_bind_h hf
        refine jk_callVv C hZ.1 hz (ct_Row_set l D Z sq hZ cI cR (n_t := 7) (Nat.le_of_ble_eq_true rfl) a_t_starts a_t_starts_k t_starts v3 (q32 + v2) q37 hq37) tm_338 tm_257 tm_258 tm_3 tm_259 na_Row_set ⟨Nat.le_of_ble_eq_true rfl, Nat.le_of_ble_eq_true rfl⟩ rfl [1, 2] rfl rfl rfl (ws' := wd_Cords_resize cI a_t a_t_starts a_t_depth a_t_topic a_t_value a_t_nibbled a_t_starts_k i_t_clusters t_size q37) rfl 1 0 rfl rfl rfl (st := []) rfl (Nat.le_of_ble_eq_true rfl) rd_Cords_resize_37 ?_ ⟨Nat.le_refl _, Nat.le_refl _⟩
        refine jk_iinc C rd_Cords_resize_40 (k := 2) rfl (by decide) (lv' := [(3, jk_V (v3 + 1)), (0, .ref a_t), (2, jk_V v2)]) rfl ?_
        refine jk_goto (tgt := 14) C rd_Cords_resize_43 (by decide) ?_
        refine jk_lv (lv' := [(0, .ref a_t), (2, jk_V v2), (3, jk_V (v3 + 1))]) [1, 2, 0] rfl ?_
        exact ih t_size q37 v2 (v3 + 1) hf
  refine jk_aload_n C rd_Cords_resize_0 (k := 0) rfl ?_
  refine jk_dup C rd_Cords_resize_1 rfl ?_
  refine jk_get C in_Cords (ci := 5) rfl 1 (by decide) tm_120 0 rfl rfl rd_Cords_resize_2 ?_
  refine jk_iload_n C rd_Cords_resize_5 (k := 2) rfl ?_
  refine jk_iadd C rd_Cords_resize_6 ?_
  refine jk_putf C in_Cords ty_Cords nm_Cords (ci := 5) rfl 1 (by decide) tm_120 rfl rfl rfl 0 rfl (Nat.le_of_ble_eq_true rfl) rd_Cords_resize_7 (ws' := wd_Cords_resize cI a_t a_t_starts a_t_depth a_t_topic a_t_value a_t_nibbled a_t_starts_k i_t_clusters (i_t_size + x2) i_t_starts) rfl ?_
  refine jk_iload_n C rd_Cords_resize_10 (k := 1) rfl ?_
  refine jk_iconst C rd_Cords_resize_11 ?_
  refine jk_iadd C rd_Cords_resize_12 ?_
  refine jk_istore_n C rd_Cords_resize_13 (by decide) (lv' := [(3, jk_V (x1 + 1)), (0, .ref a_t), (1, jk_V x1), (2, jk_V x2)]) rfl ?_
  refine jk_lv (lv' := [(0, .ref a_t), (2, jk_V x2), (3, jk_V (x1 + 1))]) [1, 3, 0] rfl ?_
  exact bk_14 jk_F (i_t_size + x2) i_t_starts x2 (x1 + 1) hf
def wd_Cords_insert (cI : ClassId) (a_t a_t_starts a_t_depth a_t_topic a_t_value a_t_nibbled a_t_starts_k a_t_depth_k a_t_topic_k a_t_value_k a_t_nibbled_k : Nat) (i_t_clusters : Int) (i_t_size : Int) (i_t_starts : (Int → Int)) (i_t_depth : (Int → Int)) (i_t_topic : (Int → Int)) (i_t_value : (Int → Int)) (i_t_nibbled : (Int → Int)) : va_W := [(a_t, .inr (5, [jk_V i_t_clusters, jk_V i_t_size, .ref a_t_starts, .ref a_t_depth, .ref a_t_topic, .ref a_t_value, .ref a_t_nibbled])), (a_t_starts, .inr (0, [.ref a_t_starts_k])), (a_t_starts_k, jk_W cI 7 i_t_starts), (a_t_depth, .inr (0, [.ref a_t_depth_k])), (a_t_depth_k, jk_W cI 40 i_t_depth), (a_t_topic, .inr (0, [.ref a_t_topic_k])), (a_t_topic_k, jk_W cI 40 i_t_topic), (a_t_value, .inr (0, [.ref a_t_value_k])), (a_t_value_k, jk_W cI 40 i_t_value), (a_t_nibbled, .inr (0, [.ref a_t_nibbled_k])), (a_t_nibbled_k, jk_W cI 40 i_t_nibbled)]
set_option maxHeartbeats 4000000 in
set_option maxRecDepth 20000 in
theorem ct_Cords_insert (l : Launch) (D : va_G) (Z : (Nat → Prop) → State → Heap → Prop) (sq : Nat → Nat) (hZ : jk_ZK Z sq) (cI cR : ClassId) (a_t a_t_starts a_t_depth a_t_topic a_t_value a_t_nibbled a_t_starts_k a_t_depth_k a_t_topic_k a_t_value_k a_t_nibbled_k : Nat) (i_t_clusters : Int) (i_t_size : Int) (i_t_starts : (Int → Int)) (i_t_depth : (Int → Int)) (i_t_topic : (Int → Int)) (i_t_value : (Int → Int)) (i_t_nibbled : (Int → Int)) (x1 : Int) (x2 : Int) (x3 : Int) (x4 : Int) (x5 : Int) (q : Int × Int × (Int → Int) × (Int → Int) × (Int → Int) × (Int → Int) × (Int → Int)) (hf : fn_Cords_insert i_t_clusters i_t_size i_t_starts i_t_depth i_t_topic i_t_value i_t_nibbled x1 x2 x3 x4 x5 = some q) : jk_MI l D jk_cl (jk_ty cI cR) Z mn_Cords_insert (.code mn_Cords_insert mb_Cords_insert 6 (some .int) :: jk_WA) (jk_rm 2 46) [.ref a_t, jk_V x1, jk_V x2, jk_V x3, jk_V x4, jk_V x5] (wd_Cords_insert cI a_t a_t_starts a_t_depth a_t_topic a_t_value a_t_nibbled a_t_starts_k a_t_depth_k a_t_topic_k a_t_value_k a_t_nibbled_k i_t_clusters i_t_size i_t_starts i_t_depth i_t_topic i_t_value i_t_nibbled) (wd_Cords_insert cI a_t a_t_starts a_t_depth a_t_topic a_t_value a_t_nibbled a_t_starts_k a_t_depth_k a_t_topic_k a_t_value_k a_t_nibbled_k i_t_clusters q.2.1 q.2.2.1 q.2.2.2.1 q.2.2.2.2.1 q.2.2.2.2.2.1 q.2.2.2.2.2.2) q.1 := by
  intro sz
  refine jk_body (by decide +kernel) (fun p e s m args below meth c hsz hz hin C => ?_) (Nat.le_of_ble_eq_true rfl)
  subst hsz
  unfold fn_Cords_insert at hf
  refine jk_aload_n C rd_Cords_insert_0 (k := 0) rfl ?_
  refine jk_get C in_Cords (ci := 5) rfl 1 (by decide) tm_120 0 rfl rfl rd_Cords_insert_1 ?_
  refine jk_bipush C rd_Cords_insert_4 (by decide +kernel) ?_
  refine jk_icmp_lt (tgt := 11) C rd_Cords_insert_6 (by decide) hf (fun _ hf => ?_) (fun _ hf => ?_)
  · refine jk_aload_n C rd_Cords_insert_11 (k := 0) rfl ?_
    refine jk_get C in_Cords (ci := 5) rfl 3 (by decide) tm_125 0 rfl rfl rd_Cords_insert_12 ?_
    refine jk_iload_n C rd_Cords_insert_15 (k := 1) rfl ?_
    refine jk_iload_n C rd_Cords_insert_16 (k := 3) rfl ?_
    refine jk_aload_n C rd_Cords_insert_17 (k := 0) rfl ?_
    refine jk_get C in_Cords (ci := 5) rfl 1 (by decide) tm_120 0 rfl rfl rd_Cords_insert_18 ?_
    obtain ⟨q21, hq21, hf⟩ := jk_bind_h hf
    refine jk_callVv C hZ.1 hz (ct_Row_insert l D Z sq hZ cI cR (n_t := 40) (Nat.le_of_ble_eq_true rfl) a_t_depth a_t_depth_k i_t_depth x1 x3 i_t_size q21 hq21) tm_391 tm_392 tm_393 tm_3 tm_394 na_Row_insert ⟨Nat.le_of_ble_eq_true rfl, Nat.le_of_ble_eq_true rfl⟩ rfl [3, 4] rfl rfl rfl (ws' := wd_Cords_insert cI a_t a_t_starts a_t_depth a_t_topic a_t_value a_t_nibbled a_t_starts_k a_t_depth_k a_t_topic_k a_t_value_k a_t_nibbled_k i_t_clusters i_t_size i_t_starts q21 i_t_topic i_t_value i_t_nibbled) rfl 3 0 rfl rfl rfl (st := []) rfl (Nat.le_of_ble_eq_true rfl) rd_Cords_insert_21 ?_ ⟨Nat.le_refl _, Nat.le_refl _⟩
    refine jk_aload_n C rd_Cords_insert_24 (k := 0) rfl ?_
    refine jk_get C in_Cords (ci := 5) rfl 4 (by decide) tm_128 0 rfl rfl rd_Cords_insert_25 ?_
    refine jk_iload_n C rd_Cords_insert_28 (k := 1) rfl ?_
    refine jk_iload C rd_Cords_insert_29 (k := 4) rfl ?_
    refine jk_aload_n C rd_Cords_insert_31 (k := 0) rfl ?_
    refine jk_get C in_Cords (ci := 5) rfl 1 (by decide) tm_120 0 rfl rfl rd_Cords_insert_32 ?_
    obtain ⟨q35, hq35, hf⟩ := jk_bind_h hf
    refine jk_callVv C hZ.1 hz (ct_Row_insert l D Z sq hZ cI cR (n_t := 40) (Nat.le_of_ble_eq_true rfl) a_t_topic a_t_topic_k i_t_topic x1 x4 i_t_size q35 hq35) tm_391 tm_392 tm_393 tm_3 tm_394 na_Row_insert ⟨Nat.le_of_ble_eq_true rfl, Nat.le_of_ble_eq_true rfl⟩ rfl [5, 6] rfl rfl rfl (ws' := wd_Cords_insert cI a_t a_t_starts a_t_depth a_t_topic a_t_value a_t_nibbled a_t_starts_k a_t_depth_k a_t_topic_k a_t_value_k a_t_nibbled_k i_t_clusters i_t_size i_t_starts q21 q35 i_t_value i_t_nibbled) rfl 5 0 rfl rfl rfl (st := []) rfl (Nat.le_of_ble_eq_true rfl) rd_Cords_insert_35 ?_ ⟨Nat.le_refl _, Nat.le_refl _⟩
    refine jk_aload_n C rd_Cords_insert_38 (k := 0) rfl ?_
    refine jk_get C in_Cords (ci := 5) rfl 5 (by decide) tm_130 0 rfl rfl rd_Cords_insert_39 ?_
    refine jk_iload_n C rd_Cords_insert_42 (k := 1) rfl ?_
    refine jk_iload C rd_Cords_insert_43 (k := 5) rfl ?_
    refine jk_aload_n C rd_Cords_insert_45 (k := 0) rfl ?_
    refine jk_get C in_Cords (ci := 5) rfl 1 (by decide) tm_120 0 rfl rfl rd_Cords_insert_46 ?_
    obtain ⟨q49, hq49, hf⟩ := jk_bind_h hf
    refine jk_callVv C hZ.1 hz (ct_Row_insert l D Z sq hZ cI cR (n_t := 40) (Nat.le_of_ble_eq_true rfl) a_t_value a_t_value_k i_t_value x1 x5 i_t_size q49 hq49) tm_391 tm_392 tm_393 tm_3 tm_394 na_Row_insert ⟨Nat.le_of_ble_eq_true rfl, Nat.le_of_ble_eq_true rfl⟩ rfl [7, 8] rfl rfl rfl (ws' := wd_Cords_insert cI a_t a_t_starts a_t_depth a_t_topic a_t_value a_t_nibbled a_t_starts_k a_t_depth_k a_t_topic_k a_t_value_k a_t_nibbled_k i_t_clusters i_t_size i_t_starts q21 q35 q49 i_t_nibbled) rfl 7 0 rfl rfl rfl (st := []) rfl (Nat.le_of_ble_eq_true rfl) rd_Cords_insert_49 ?_ ⟨Nat.le_refl _, Nat.le_refl _⟩
    refine jk_aload_n C rd_Cords_insert_52 (k := 0) rfl ?_
    refine jk_get C in_Cords (ci := 5) rfl 6 (by decide) tm_133 0 rfl rfl rd_Cords_insert_53 ?_
    refine jk_iload_n C rd_Cords_insert_56 (k := 1) rfl ?_
    refine jk_iconst C rd_Cords_insert_57 ?_
    refine jk_aload_n C rd_Cords_insert_58 (k := 0) rfl ?_
    refine jk_get C in_Cords (ci := 5) rfl 1 (by decide) tm_120 0 rfl rfl rd_Cords_insert_59 ?_
    obtain ⟨q62, hq62, hf⟩ := jk_bind_h hf
    refine jk_callVv C hZ.1 hz (ct_Row_insert l D Z sq hZ cI cR (n_t := 40) (Nat.le_of_ble_eq_true rfl) a_t_nibbled a_t_nibbled_k i_t_nibbled x1 0 i_t_size q62 hq62) tm_391 tm_392 tm_393 tm_3 tm_394 na_Row_insert ⟨Nat.le_of_ble_eq_true rfl, Nat.le_of_ble_eq_true rfl⟩ rfl [9, 10] rfl rfl rfl (ws' := wd_Cords_insert cI a_t a_t_starts a_t_depth a_t_topic a_t_value a_t_nibbled a_t_starts_k a_t_depth_k a_t_topic_k a_t_value_k a_t_nibbled_k i_t_clusters i_t_size i_t_starts q21 q35 q49 q62) rfl 9 0 rfl rfl rfl (st := []) rfl (Nat.le_of_ble_eq_true rfl) rd_Cords_insert_62 ?_ ⟨Nat.le_refl _, Nat.le_refl _⟩
    refine jk_aload_n C rd_Cords_insert_65 (k := 0) rfl ?_
    refine jk_iload_n C rd_Cords_insert_66 (k := 2) rfl ?_
    refine jk_iconst C rd_Cords_insert_67 ?_
    obtain ⟨q68, hq68, hf⟩ := jk_bind_h hf
    refine jk_callVv C hZ.1 hz (ct_Cords_resize l D Z sq hZ cI cR a_t a_t_starts a_t_depth a_t_topic a_t_value a_t_nibbled a_t_starts_k i_t_clusters i_t_size i_t_starts x2 1 q68 hq68) tm_397 tm_399 sl_3 tm_6 tm_400 na_Cords_resize ⟨Nat.le_of_ble_eq_true rfl, Nat.le_of_ble_eq_true rfl⟩ rfl [0, 1, 2] rfl rfl rfl (ws' := wd_Cords_insert cI a_t a_t_starts a_t_depth a_t_topic a_t_value a_t_nibbled a_t_starts_k a_t_depth_k a_t_topic_k a_t_value_k a_t_nibbled_k i_t_clusters q68.1 q68.2 q21 q35 q49 q62) rfl 0 5 rfl rfl rfl (st := []) rfl (Nat.le_of_ble_eq_true rfl) rd_Cords_insert_68 ?_ ⟨Nat.le_refl _, Nat.le_refl _⟩
    refine jk_iload_n C rd_Cords_insert_71 (k := 1) rfl ?_
    cases hf
    exact jk_iret C rfl rd_Cords_insert_72 rfl
  · refine jk_iconst C rd_Cords_insert_9 ?_
    cases hf
    exact jk_iret C rfl rd_Cords_insert_10 rfl
def wd_Cords_remove (cI : ClassId) (a_t a_t_starts a_t_depth a_t_topic a_t_value a_t_nibbled a_t_starts_k a_t_depth_k a_t_topic_k a_t_value_k a_t_nibbled_k : Nat) (i_t_clusters : Int) (i_t_size : Int) (i_t_starts : (Int → Int)) (i_t_depth : (Int → Int)) (i_t_topic : (Int → Int)) (i_t_value : (Int → Int)) (i_t_nibbled : (Int → Int)) : va_W := [(a_t, .inr (5, [jk_V i_t_clusters, jk_V i_t_size, .ref a_t_starts, .ref a_t_depth, .ref a_t_topic, .ref a_t_value, .ref a_t_nibbled])), (a_t_starts, .inr (0, [.ref a_t_starts_k])), (a_t_starts_k, jk_W cI 7 i_t_starts), (a_t_depth, .inr (0, [.ref a_t_depth_k])), (a_t_depth_k, jk_W cI 40 i_t_depth), (a_t_topic, .inr (0, [.ref a_t_topic_k])), (a_t_topic_k, jk_W cI 40 i_t_topic), (a_t_value, .inr (0, [.ref a_t_value_k])), (a_t_value_k, jk_W cI 40 i_t_value), (a_t_nibbled, .inr (0, [.ref a_t_nibbled_k])), (a_t_nibbled_k, jk_W cI 40 i_t_nibbled)]
set_option maxHeartbeats 4000000 in
set_option maxRecDepth 20000 in
theorem ct_Cords_remove (l : Launch) (D : va_G) (Z : (Nat → Prop) → State → Heap → Prop) (sq : Nat → Nat) (hZ : jk_ZK Z sq) (cI cR : ClassId) (a_t a_t_starts a_t_depth a_t_topic a_t_value a_t_nibbled a_t_starts_k a_t_depth_k a_t_topic_k a_t_value_k a_t_nibbled_k : Nat) (i_t_clusters : Int) (i_t_size : Int) (i_t_starts : (Int → Int)) (i_t_depth : (Int → Int)) (i_t_topic : (Int → Int)) (i_t_value : (Int → Int)) (i_t_nibbled : (Int → Int)) (x1 : Int) (x2 : Int) (q : Int × Int × (Int → Int) × (Int → Int) × (Int → Int) × (Int → Int) × (Int → Int)) (hf : fn_Cords_remove i_t_clusters i_t_size i_t_starts i_t_depth i_t_topic i_t_value i_t_nibbled x1 x2 = some q) : jk_MI l D jk_cl (jk_ty cI cR) Z mn_Cords_remove (.code mn_Cords_remove mb_Cords_remove 4 (some .int) :: jk_WA) (jk_rm 2 46) [.ref a_t, jk_V x1, jk_V x2] (wd_Cords_remove cI a_t a_t_starts a_t_depth a_t_topic a_t_value a_t_nibbled a_t_starts_k a_t_depth_k a_t_topic_k a_t_value_k a_t_nibbled_k i_t_clusters i_t_size i_t_starts i_t_depth i_t_topic i_t_value i_t_nibbled) (wd_Cords_remove cI a_t a_t_starts a_t_depth a_t_topic a_t_value a_t_nibbled a_t_starts_k a_t_depth_k a_t_topic_k a_t_value_k a_t_nibbled_k i_t_clusters q.2.1 q.2.2.1 q.2.2.2.1 q.2.2.2.2.1 q.2.2.2.2.2.1 q.2.2.2.2.2.2) q.1 := by
  intro sz
  refine jk_body (by decide +kernel) (fun p e s m args below meth c hsz hz hin C => ?_) (Nat.le_of_ble_eq_true rfl)
  subst hsz
  unfold fn_Cords_remove at hf
  refine jk_aload_n C rd_Cords_remove_0 (k := 0) rfl ?_
  refine jk_iload_n C rd_Cords_remove_1 (k := 1) rfl ?_
  obtain ⟨q2, hq2, hf⟩ := jk_bind_h hf
  refine jk_callVi C hZ.1 hz (ct_Cords_clusterAt l D Z sq hZ cI cR a_t a_t_starts a_t_depth a_t_topic a_t_value a_t_nibbled a_t_starts_k i_t_clusters i_t_size i_t_starts x1 q2 hq2) tm_649 tm_642 tm_643 tm_6 tm_644 na_Cords_clusterAt ⟨Nat.le_of_ble_eq_true rfl, Nat.le_of_ble_eq_true rfl⟩ rfl [0, 1, 2] rfl rfl rfl (ws' := wd_Cords_remove cI a_t a_t_starts a_t_depth a_t_topic a_t_value a_t_nibbled a_t_starts_k a_t_depth_k a_t_topic_k a_t_value_k a_t_nibbled_k i_t_clusters i_t_size i_t_starts i_t_depth i_t_topic i_t_value i_t_nibbled) rfl 0 5 rfl rfl rfl (st := []) rfl (Nat.le_of_ble_eq_true rfl) rd_Cords_remove_2 ?_ ⟨Nat.le_refl _, Nat.le_refl _⟩
  refine jk_istore_n C rd_Cords_remove_5 (by decide) (lv' := [(3, jk_V q2), (0, .ref a_t), (1, jk_V x1), (2, jk_V x2)]) rfl ?_
  refine jk_aload_n C rd_Cords_remove_6 (k := 1) rfl ?_
  refine jk_get C in_Cords (ci := 5) rfl 3 (by decide) tm_125 0 rfl rfl rd_Cords_remove_7 ?_
  refine jk_iload_n C rd_Cords_remove_10 (k := 2) rfl ?_
  refine jk_iload_n C rd_Cords_remove_11 (k := 3) rfl ?_
  refine jk_aload_n C rd_Cords_remove_12 (k := 1) rfl ?_
  refine jk_get C in_Cords (ci := 5) rfl 1 (by decide) tm_120 0 rfl rfl rd_Cords_remove_13 ?_
  obtain ⟨q16, hq16, hf⟩ := jk_bind_h hf
  refine jk_callVv C hZ.1 hz (ct_Row_remove l D Z sq hZ cI cR (n_t := 40) (Nat.le_of_ble_eq_true rfl) a_t_depth a_t_depth_k i_t_depth x1 x2 i_t_size q16 hq16) tm_650 tm_651 tm_652 tm_3 tm_653 na_Row_remove ⟨Nat.le_of_ble_eq_true rfl, Nat.le_of_ble_eq_true rfl⟩ rfl [3, 4] rfl rfl rfl (ws' := wd_Cords_remove cI a_t a_t_starts a_t_depth a_t_topic a_t_value a_t_nibbled a_t_starts_k a_t_depth_k a_t_topic_k a_t_value_k a_t_nibbled_k i_t_clusters i_t_size i_t_starts q16 i_t_topic i_t_value i_t_nibbled) rfl 3 0 rfl rfl rfl (st := []) rfl (Nat.le_of_ble_eq_true rfl) rd_Cords_remove_16 ?_ ⟨Nat.le_refl _, Nat.le_refl _⟩
  refine jk_aload_n C rd_Cords_remove_19 (k := 1) rfl ?_
  refine jk_get C in_Cords (ci := 5) rfl 4 (by decide) tm_128 0 rfl rfl rd_Cords_remove_20 ?_
  refine jk_iload_n C rd_Cords_remove_23 (k := 2) rfl ?_
  refine jk_iload_n C rd_Cords_remove_24 (k := 3) rfl ?_
  refine jk_aload_n C rd_Cords_remove_25 (k := 1) rfl ?_
  refine jk_get C in_Cords (ci := 5) rfl 1 (by decide) tm_120 0 rfl rfl rd_Cords_remove_26 ?_
  obtain ⟨q29, hq29, hf⟩ := jk_bind_h hf
  refine jk_callVv C hZ.1 hz (ct_Row_remove l D Z sq hZ cI cR (n_t := 40) (Nat.le_of_ble_eq_true rfl) a_t_topic a_t_topic_k i_t_topic x1 x2 i_t_size q29 hq29) tm_650 tm_651 tm_652 tm_3 tm_653 na_Row_remove ⟨Nat.le_of_ble_eq_true rfl, Nat.le_of_ble_eq_true rfl⟩ rfl [5, 6] rfl rfl rfl (ws' := wd_Cords_remove cI a_t a_t_starts a_t_depth a_t_topic a_t_value a_t_nibbled a_t_starts_k a_t_depth_k a_t_topic_k a_t_value_k a_t_nibbled_k i_t_clusters i_t_size i_t_starts q16 q29 i_t_value i_t_nibbled) rfl 5 0 rfl rfl rfl (st := []) rfl (Nat.le_of_ble_eq_true rfl) rd_Cords_remove_29 ?_ ⟨Nat.le_refl _, Nat.le_refl _⟩
  refine jk_aload_n C rd_Cords_remove_32 (k := 1) rfl ?_
  refine jk_get C in_Cords (ci := 5) rfl 5 (by decide) tm_130 0 rfl rfl rd_Cords_remove_33 ?_
  refine jk_iload_n C rd_Cords_remove_36 (k := 2) rfl ?_
  refine jk_iload_n C rd_Cords_remove_37 (k := 3) rfl ?_
  refine jk_aload_n C rd_Cords_remove_38 (k := 1) rfl ?_
  refine jk_get C in_Cords (ci := 5) rfl 1 (by decide) tm_120 0 rfl rfl rd_Cords_remove_39 ?_
  obtain ⟨q42, hq42, hf⟩ := jk_bind_h hf
  refine jk_callVv C hZ.1 hz (ct_Row_remove l D Z sq hZ cI cR (n_t := 40) (Nat.le_of_ble_eq_true rfl) a_t_value a_t_value_k i_t_value x1 x2 i_t_size q42 hq42) tm_650 tm_651 tm_652 tm_3 tm_653 na_Row_remove ⟨Nat.le_of_ble_eq_true rfl, Nat.le_of_ble_eq_true rfl⟩ rfl [7, 8] rfl rfl rfl (ws' := wd_Cords_remove cI a_t a_t_starts a_t_depth a_t_topic a_t_value a_t_nibbled a_t_starts_k a_t_depth_k a_t_topic_k a_t_value_k a_t_nibbled_k i_t_clusters i_t_size i_t_starts q16 q29 q42 i_t_nibbled) rfl 7 0 rfl rfl rfl (st := []) rfl (Nat.le_of_ble_eq_true rfl) rd_Cords_remove_42 ?_ ⟨Nat.le_refl _, Nat.le_refl _⟩
  refine jk_aload_n C rd_Cords_remove_45 (k := 1) rfl ?_
  refine jk_get C in_Cords (ci := 5) rfl 6 (by decide) tm_133 0 rfl rfl rd_Cords_remove_46 ?_
  refine jk_iload_n C rd_Cords_remove_49 (k := 2) rfl ?_
  refine jk_iload_n C rd_Cords_remove_50 (k := 3) rfl ?_
  refine jk_aload_n C rd_Cords_remove_51 (k := 1) rfl ?_
  refine jk_get C in_Cords (ci := 5) rfl 1 (by decide) tm_120 0 rfl rfl rd_Cords_remove_52 ?_
  obtain ⟨q55, hq55, hf⟩ := jk_bind_h hf
  refine jk_callVv C hZ.1 hz (ct_Row_remove l D Z sq hZ cI cR (n_t := 40) (Nat.le_of_ble_eq_true rfl) a_t_nibbled a_t_nibbled_k i_t_nibbled x1 x2 i_t_size q55 hq55) tm_650 tm_651 tm_652 tm_3 tm_653 na_Row_remove ⟨Nat.le_of_ble_eq_true rfl, Nat.le_of_ble_eq_true rfl⟩ rfl [9, 10] rfl rfl rfl (ws' := wd_Cords_remove cI a_t a_t_starts a_t_depth a_t_topic a_t_value a_t_nibbled a_t_starts_k a_t_depth_k a_t_topic_k a_t_value_k a_t_nibbled_k i_t_clusters i_t_size i_t_starts q16 q29 q42 q55) rfl 9 0 rfl rfl rfl (st := []) rfl (Nat.le_of_ble_eq_true rfl) rd_Cords_remove_55 ?_ ⟨Nat.le_refl _, Nat.le_refl _⟩
  refine jk_aload_n C rd_Cords_remove_58 (k := 1) rfl ?_
  refine jk_iload_n C rd_Cords_remove_59 (k := 0) rfl ?_
  refine jk_iload_n C rd_Cords_remove_60 (k := 2) rfl ?_
  refine jk_iload_n C rd_Cords_remove_61 (k := 3) rfl ?_
  refine jk_isub C rd_Cords_remove_62 ?_
  obtain ⟨q63, hq63, hf⟩ := jk_bind_h hf
  refine jk_callVv C hZ.1 hz (ct_Cords_resize l D Z sq hZ cI cR a_t a_t_starts a_t_depth a_t_topic a_t_value a_t_nibbled a_t_starts_k i_t_clusters i_t_size i_t_starts q2 (x1 - x2) q63 hq63) tm_397 tm_399 sl_3 tm_6 tm_400 na_Cords_resize ⟨Nat.le_of_ble_eq_true rfl, Nat.le_of_ble_eq_true rfl⟩ rfl [0, 1, 2] rfl rfl rfl (ws' := wd_Cords_remove cI a_t a_t_starts a_t_depth a_t_topic a_t_value a_t_nibbled a_t_starts_k a_t_depth_k a_t_topic_k a_t_value_k a_t_nibbled_k i_t_clusters q63.1 q63.2 q16 q29 q42 q55) rfl 0 5 rfl rfl rfl (st := []) rfl (Nat.le_of_ble_eq_true rfl) rd_Cords_remove_63 ?_ ⟨Nat.le_refl _, Nat.le_refl _⟩
  refine jk_iload_n C rd_Cords_remove_66 (k := 3) rfl ?_
  refine jk_iload_n C rd_Cords_remove_67 (k := 2) rfl ?_
  refine jk_isub C rd_Cords_remove_68 ?_
  cases hf
  exact jk_iret C rfl rd_Cords_remove_69 rfl
def wd_Cords_tie (cI : ClassId) (a_t a_t_starts a_t_depth a_t_topic a_t_value a_t_nibbled a_t_starts_k a_t_depth_k a_t_topic_k a_t_value_k a_t_nibbled_k : Nat) (i_t_clusters : Int) (i_t_size : Int) (i_t_starts : (Int → Int)) (i_t_depth : (Int → Int)) (i_t_topic : (Int → Int)) (i_t_value : (Int → Int)) (i_t_nibbled : (Int → Int)) : va_W := [(a_t, .inr (5, [jk_V i_t_clusters, jk_V i_t_size, .ref a_t_starts, .ref a_t_depth, .ref a_t_topic, .ref a_t_value, .ref a_t_nibbled])), (a_t_starts, .inr (0, [.ref a_t_starts_k])), (a_t_starts_k, jk_W cI 7 i_t_starts), (a_t_depth, .inr (0, [.ref a_t_depth_k])), (a_t_depth_k, jk_W cI 40 i_t_depth), (a_t_topic, .inr (0, [.ref a_t_topic_k])), (a_t_topic_k, jk_W cI 40 i_t_topic), (a_t_value, .inr (0, [.ref a_t_value_k])), (a_t_value_k, jk_W cI 40 i_t_value), (a_t_nibbled, .inr (0, [.ref a_t_nibbled_k])), (a_t_nibbled_k, jk_W cI 40 i_t_nibbled)]
set_option maxHeartbeats 4000000 in
set_option maxRecDepth 20000 in
theorem ct_Cords_tie (l : Launch) (D : va_G) (Z : (Nat → Prop) → State → Heap → Prop) (sq : Nat → Nat) (hZ : jk_ZK Z sq) (cI cR : ClassId) (a_t a_t_starts a_t_depth a_t_topic a_t_value a_t_nibbled a_t_starts_k a_t_depth_k a_t_topic_k a_t_value_k a_t_nibbled_k : Nat) (i_t_clusters : Int) (i_t_size : Int) (i_t_starts : (Int → Int)) (i_t_depth : (Int → Int)) (i_t_topic : (Int → Int)) (i_t_value : (Int → Int)) (i_t_nibbled : (Int → Int)) (x1 : Int) (x2 : Int) (q : Int × Int × (Int → Int) × (Int → Int) × (Int → Int) × (Int → Int) × (Int → Int)) (hf : fn_Cords_tie i_t_clusters i_t_size i_t_starts i_t_depth i_t_topic i_t_value i_t_nibbled x1 x2 = some q) : jk_MI l D jk_cl (jk_ty cI cR) Z mn_Cords_tie (.code mn_Cords_tie mb_Cords_tie 4 (some .int) :: jk_WA) (jk_rm 3 71) [.ref a_t, jk_V x1, jk_V x2] (wd_Cords_tie cI a_t a_t_starts a_t_depth a_t_topic a_t_value a_t_nibbled a_t_starts_k a_t_depth_k a_t_topic_k a_t_value_k a_t_nibbled_k i_t_clusters i_t_size i_t_starts i_t_depth i_t_topic i_t_value i_t_nibbled) (wd_Cords_tie cI a_t a_t_starts a_t_depth a_t_topic a_t_value a_t_nibbled a_t_starts_k a_t_depth_k a_t_topic_k a_t_value_k a_t_nibbled_k i_t_clusters q.2.1 q.2.2.1 q.2.2.2.1 q.2.2.2.2.1 q.2.2.2.2.2.1 q.2.2.2.2.2.2) q.1 := by
  intro sz
  refine jk_body (by decide +kernel) (fun p e s m args below meth c hsz hz hin C => ?_) (Nat.le_of_ble_eq_true rfl)
  subst hsz
  unfold fn_Cords_tie at hf
  refine jk_aload_n C rd_Cords_tie_0 (k := 0) rfl ?_
  refine jk_iload_n C rd_Cords_tie_1 (k := 1) rfl ?_
  obtain ⟨q2, hq2, hf⟩ := jk_bind_h hf
  refine jk_callVi C hZ.1 hz (ct_Cords_sum l D Z sq hZ cI cR a_t a_t_starts a_t_depth a_t_topic a_t_value a_t_nibbled a_t_starts_k a_t_depth_k a_t_value_k i_t_clusters i_t_size i_t_starts i_t_depth i_t_value x1 q2 hq2) tm_658 tm_597 tm_598 tm_6 tm_599 na_Cords_sum ⟨Nat.le_of_ble_eq_true rfl, Nat.le_of_ble_eq_true rfl⟩ rfl [0, 1, 2, 3, 4, 7, 8] rfl rfl rfl (ws' := wd_Cords_tie cI a_t a_t_starts a_t_depth a_t_topic a_t_value a_t_nibbled a_t_starts_k a_t_depth_k a_t_topic_k a_t_value_k a_t_nibbled_k i_t_clusters i_t_size i_t_starts i_t_depth i_t_topic i_t_value i_t_nibbled) rfl 0 5 rfl rfl rfl (st := []) rfl (Nat.le_of_ble_eq_true rfl) rd_Cords_tie_2 ?_ ⟨Nat.le_refl _, Nat.le_refl _⟩
  refine jk_istore_n C rd_Cords_tie_5 (by decide) (lv' := [(3, jk_V q2), (0, .ref a_t), (1, jk_V x1), (2, jk_V x2)]) rfl ?_
  refine jk_aload_n C rd_Cords_tie_6 (k := 1) rfl ?_
  refine jk_aload_n C rd_Cords_tie_7 (k := 1) rfl ?_
  refine jk_iload_n C rd_Cords_tie_8 (k := 2) rfl ?_
  obtain ⟨q9, hq9, hf⟩ := jk_bind_h hf
  refine jk_callVi C hZ.1 hz (ct_Cords_start l D Z sq hZ cI cR a_t a_t_starts a_t_depth a_t_topic a_t_value a_t_nibbled a_t_starts_k i_t_clusters i_t_size i_t_starts x1 q9 hq9) tm_620 tm_365 tm_366 tm_6 tm_367 na_Cords_start ⟨Nat.le_of_ble_eq_true rfl, Nat.le_of_ble_eq_true rfl⟩ rfl [0, 1, 2] rfl rfl rfl (ws' := wd_Cords_tie cI a_t a_t_starts a_t_depth a_t_topic a_t_value a_t_nibbled a_t_starts_k a_t_depth_k a_t_topic_k a_t_value_k a_t_nibbled_k i_t_clusters i_t_size i_t_starts i_t_depth i_t_topic i_t_value i_t_nibbled) rfl 0 5 rfl rfl rfl (st := [.ref a_t]) rfl (Nat.le_of_ble_eq_true rfl) rd_Cords_tie_9 ?_ ⟨Nat.le_refl _, Nat.le_refl _⟩
  refine jk_iload_n C rd_Cords_tie_12 (k := 2) rfl ?_
  refine jk_iconst C rd_Cords_tie_13 ?_
  refine jk_iload_n C rd_Cords_tie_14 (k := 3) rfl ?_
  refine jk_iload_n C rd_Cords_tie_15 (k := 0) rfl ?_
  obtain ⟨q16, hq16, hf⟩ := jk_bind_h hf
  refine jk_callVi C hZ.1 hz (ct_Cords_insert l D Z sq hZ cI cR a_t a_t_starts a_t_depth a_t_topic a_t_value a_t_nibbled a_t_starts_k a_t_depth_k a_t_topic_k a_t_value_k a_t_nibbled_k i_t_clusters i_t_size i_t_starts i_t_depth i_t_topic i_t_value i_t_nibbled q9 x1 0 x2 q2 q16 hq16) tm_659 tm_388 tm_389 tm_6 tm_390 na_Cords_insert ⟨Nat.le_of_ble_eq_true rfl, Nat.le_of_ble_eq_true rfl⟩ rfl [0, 1, 2, 3, 4, 5, 6, 7, 8, 9, 10] rfl rfl rfl (ws' := wd_Cords_tie cI a_t a_t_starts a_t_depth a_t_topic a_t_value a_t_nibbled a_t_starts_k a_t_depth_k a_t_topic_k a_t_value_k a_t_nibbled_k i_t_clusters q16.2.1 q16.2.2.1 q16.2.2.2.1 q16.2.2.2.2.1 q16.2.2.2.2.2.1 q16.2.2.2.2.2.2) rfl 0 5 rfl rfl rfl (st := []) rfl (Nat.le_of_ble_eq_true rfl) rd_Cords_tie_16 ?_ ⟨Nat.le_refl _, Nat.le_refl _⟩
  refine jk_pop C rd_Cords_tie_19 rfl ?_
  refine jk_iload_n C rd_Cords_tie_20 (k := 0) rfl ?_
  cases hf
  exact jk_iret C rfl rd_Cords_tie_21 rfl
def wd_Cords_knot (cI : ClassId) (a_t a_t_starts a_t_depth a_t_topic a_t_value a_t_nibbled a_t_value_k : Nat) (i_t_clusters : Int) (i_t_size : Int) (i_t_value : (Int → Int)) : va_W := [(a_t, .inr (5, [jk_V i_t_clusters, jk_V i_t_size, .ref a_t_starts, .ref a_t_depth, .ref a_t_topic, .ref a_t_value, .ref a_t_nibbled])), (a_t_value, .inr (0, [.ref a_t_value_k])), (a_t_value_k, jk_W cI 40 i_t_value)]
set_option maxHeartbeats 4000000 in
set_option maxRecDepth 20000 in
theorem ct_Cords_knot (l : Launch) (D : va_G) (Z : (Nat → Prop) → State → Heap → Prop) (sq : Nat → Nat) (hZ : jk_ZK Z sq) (cI cR : ClassId) (a_t a_t_starts a_t_depth a_t_topic a_t_value a_t_nibbled a_t_value_k : Nat) (i_t_clusters : Int) (i_t_size : Int) (i_t_value : (Int → Int)) (x1 : Int) (x2 : Int) (x3 : Int) (q : Int × (Int → Int)) (hf : fn_Cords_knot i_t_value x1 x2 x3 = some q) : jk_MI l D jk_cl (jk_ty cI cR) Z mn_Cords_knot (.code mn_Cords_knot mb_Cords_knot 5 (some .int) :: jk_WA) (jk_rm 2 44) [.ref a_t, jk_V x1, jk_V x2, jk_V x3] (wd_Cords_knot cI a_t a_t_starts a_t_depth a_t_topic a_t_value a_t_nibbled a_t_value_k i_t_clusters i_t_size i_t_value) (wd_Cords_knot cI a_t a_t_starts a_t_depth a_t_topic a_t_value a_t_nibbled a_t_value_k i_t_clusters i_t_size q.2) q.1 := by
  intro sz
  refine jk_body (by decide +kernel) (fun p e s m args below meth c hsz hz hin C => ?_) (Nat.le_of_ble_eq_true rfl)
  subst hsz
  unfold fn_Cords_knot at hf
  refine jk_aload_n C rd_Cords_knot_0 (k := 0) rfl ?_
  refine jk_get C in_Cords (ci := 5) rfl 5 (by decide) tm_130 0 rfl rfl rd_Cords_knot_1 ?_
  refine jk_iload_n C rd_Cords_knot_4 (k := 1) rfl ?_
  obtain ⟨q5, hq5, hf⟩ := jk_bind_h hf
  refine jk_callVi C hZ.1 hz (ct_Row_get l D Z sq hZ cI cR (n_t := 40) (Nat.le_of_ble_eq_true rfl) a_t_value a_t_value_k i_t_value x1 q5 hq5) tm_356 tm_292 tm_293 tm_3 tm_294 na_Row_get ⟨Nat.le_of_ble_eq_true rfl, Nat.le_of_ble_eq_true rfl⟩ rfl [1, 2] rfl rfl rfl (ws' := wd_Cords_knot cI a_t a_t_starts a_t_depth a_t_topic a_t_value a_t_nibbled a_t_value_k i_t_clusters i_t_size i_t_value) rfl 1 0 rfl rfl rfl (st := []) rfl (Nat.le_of_ble_eq_true rfl) rd_Cords_knot_5 ?_ ⟨Nat.le_refl _, Nat.le_refl _⟩
  refine jk_iload_n C rd_Cords_knot_8 (k := 2) rfl ?_
  obtain ⟨q9, hq9, hf⟩ := jk_bind_h hf
  refine jk_callSi C hZ.1 hz (ct_Knots_at l D Z sq hZ cI cR q5 x2 q9 hq9) tm_664 tm_409 tm_14 tm_410 na_Knots_at ⟨Nat.le_of_ble_eq_true rfl, Nat.le_of_ble_eq_true rfl⟩ rfl [] rfl rfl rfl (ws' := wd_Cords_knot cI a_t a_t_starts a_t_depth a_t_topic a_t_value a_t_nibbled a_t_value_k i_t_clusters i_t_size i_t_value) rfl (st := []) rfl (Nat.le_of_ble_eq_true rfl) rd_Cords_knot_9 ?_ ⟨Nat.le_refl _, Nat.le_refl _⟩
  refine jk_istore C rd_Cords_knot_12 (by decide) (lv' := [(4, jk_V q9), (0, .ref a_t), (1, jk_V x1), (2, jk_V x2), (3, jk_V x3)]) rfl ?_
  refine jk_aload_n C rd_Cords_knot_14 (k := 1) rfl ?_
  refine jk_get C in_Cords (ci := 5) rfl 5 (by decide) tm_130 0 rfl rfl rd_Cords_knot_15 ?_
  refine jk_iload_n C rd_Cords_knot_18 (k := 2) rfl ?_
  refine jk_aload_n C rd_Cords_knot_19 (k := 1) rfl ?_
  refine jk_get C in_Cords (ci := 5) rfl 5 (by decide) tm_130 0 rfl rfl rd_Cords_knot_20 ?_
  refine jk_iload_n C rd_Cords_knot_23 (k := 2) rfl ?_
  obtain ⟨q24, hq24, hf⟩ := jk_bind_h hf
  refine jk_callVi C hZ.1 hz (ct_Row_get l D Z sq hZ cI cR (n_t := 40) (Nat.le_of_ble_eq_true rfl) a_t_value a_t_value_k i_t_value x1 q24 hq24) tm_356 tm_292 tm_293 tm_3 tm_294 na_Row_get ⟨Nat.le_of_ble_eq_true rfl, Nat.le_of_ble_eq_true rfl⟩ rfl [1, 2] rfl rfl rfl (ws' := wd_Cords_knot cI a_t a_t_starts a_t_depth a_t_topic a_t_value a_t_nibbled a_t_value_k i_t_clusters i_t_size i_t_value) rfl 1 0 rfl rfl rfl (st := [jk_V x1, .ref a_t_value]) rfl (Nat.le_of_ble_eq_true rfl) rd_Cords_knot_24 ?_ ⟨Nat.le_refl _, Nat.le_refl _⟩
  refine jk_iload_n C rd_Cords_knot_27 (k := 4) rfl ?_
  refine jk_iload C rd_Cords_knot_28 (k := 0) rfl ?_
  refine jk_isub C rd_Cords_knot_30 ?_
  refine jk_iload_n C rd_Cords_knot_31 (k := 3) rfl ?_
  obtain ⟨q32, hq32, hf⟩ := jk_bind_h hf
  refine jk_callSi C hZ.1 hz (ct_Knots_power l D Z sq hZ cI cR x2 q32 hq32) tm_665 tm_418 tm_14 tm_419 na_Knots_power ⟨Nat.le_of_ble_eq_true rfl, Nat.le_of_ble_eq_true rfl⟩ rfl [] rfl rfl rfl (ws' := wd_Cords_knot cI a_t a_t_starts a_t_depth a_t_topic a_t_value a_t_nibbled a_t_value_k i_t_clusters i_t_size i_t_value) rfl (st := [jk_V (x3 - q9), jk_V q24, jk_V x1, .ref a_t_value]) rfl (Nat.le_of_ble_eq_true rfl) rd_Cords_knot_32 ?_ ⟨Nat.le_refl _, Nat.le_refl _⟩
  refine jk_imul C rd_Cords_knot_35 ?_
  refine jk_iadd C rd_Cords_knot_36 ?_
  obtain ⟨q37, hq37, hf⟩ := jk_bind_h hf
  refine jk_callVv C hZ.1 hz (ct_Row_set l D Z sq hZ cI cR (n_t := 40) (Nat.le_of_ble_eq_true rfl) a_t_value a_t_value_k i_t_value x1 (q24 + ((x3 - q9) * q32)) q37 hq37) tm_338 tm_257 tm_258 tm_3 tm_259 na_Row_set ⟨Nat.le_of_ble_eq_true rfl, Nat.le_of_ble_eq_true rfl⟩ rfl [1, 2] rfl rfl rfl (ws' := wd_Cords_knot cI a_t a_t_starts a_t_depth a_t_topic a_t_value a_t_nibbled a_t_value_k i_t_clusters i_t_size q37) rfl 1 0 rfl rfl rfl (st := []) rfl (Nat.le_of_ble_eq_true rfl) rd_Cords_knot_37 ?_ ⟨Nat.le_refl _, Nat.le_refl _⟩
  refine jk_iload C rd_Cords_knot_40 (k := 0) rfl ?_
  cases hf
  exact jk_iret C rfl rd_Cords_knot_42 rfl
def wd_Cords_loseKnots (cI : ClassId) (a_t a_t_starts a_t_depth a_t_topic a_t_value a_t_nibbled a_t_value_k a_t_nibbled_k : Nat) (i_t_clusters : Int) (i_t_size : Int) (i_t_value : (Int → Int)) (i_t_nibbled : (Int → Int)) : va_W := [(a_t, .inr (5, [jk_V i_t_clusters, jk_V i_t_size, .ref a_t_starts, .ref a_t_depth, .ref a_t_topic, .ref a_t_value, .ref a_t_nibbled])), (a_t_value, .inr (0, [.ref a_t_value_k])), (a_t_value_k, jk_W cI 40 i_t_value), (a_t_nibbled, .inr (0, [.ref a_t_nibbled_k])), (a_t_nibbled_k, jk_W cI 40 i_t_nibbled)]
set_option maxHeartbeats 4000000 in
set_option maxRecDepth 20000 in
theorem ct_Cords_loseKnots (l : Launch) (D : va_G) (Z : (Nat → Prop) → State → Heap → Prop) (sq : Nat → Nat) (hZ : jk_ZK Z sq) (cI cR : ClassId) (a_t a_t_starts a_t_depth a_t_topic a_t_value a_t_nibbled a_t_value_k a_t_nibbled_k : Nat) (i_t_clusters : Int) (i_t_size : Int) (i_t_value : (Int → Int)) (i_t_nibbled : (Int → Int)) (x1 : Int) (x2 : Int) (q : Int × (Int → Int) × (Int → Int)) (hf : fn_Cords_loseKnots i_t_value i_t_nibbled x1 x2 = some q) : jk_MI l D jk_cl (jk_ty cI cR) Z mn_Cords_loseKnots (.code mn_Cords_loseKnots mb_Cords_loseKnots 4 (some .int) :: jk_WA) (jk_rm 3 66) [.ref a_t, jk_V x1, jk_V x2] (wd_Cords_loseKnots cI a_t a_t_starts a_t_depth a_t_topic a_t_value a_t_nibbled a_t_value_k a_t_nibbled_k i_t_clusters i_t_size i_t_value i_t_nibbled) (wd_Cords_loseKnots cI a_t a_t_starts a_t_depth a_t_topic a_t_value a_t_nibbled a_t_value_k a_t_nibbled_k i_t_clusters i_t_size q.2.1 q.2.2) q.1 := by
  intro sz
  refine jk_body (by decide +kernel) (fun p e s m args below meth c hsz hz hin C => ?_) (Nat.le_of_ble_eq_true rfl)
  subst hsz
  unfold fn_Cords_loseKnots at hf
  refine jk_aload_n C rd_Cords_loseKnots_0 (k := 0) rfl ?_
  refine jk_get C in_Cords (ci := 5) rfl 5 (by decide) tm_130 0 rfl rfl rd_Cords_loseKnots_1 ?_
  refine jk_iload_n C rd_Cords_loseKnots_4 (k := 1) rfl ?_
  obtain ⟨q5, hq5, hf⟩ := jk_bind_h hf
  refine jk_callVi C hZ.1 hz (ct_Row_get l D Z sq hZ cI cR (n_t := 40) (Nat.le_of_ble_eq_true rfl) a_t_value a_t_value_k i_t_value x1 q5 hq5) tm_356 tm_292 tm_293 tm_3 tm_294 na_Row_get ⟨Nat.le_of_ble_eq_true rfl, Nat.le_of_ble_eq_true rfl⟩ rfl [1, 2] rfl rfl rfl (ws' := wd_Cords_loseKnots cI a_t a_t_starts a_t_depth a_t_topic a_t_value a_t_nibbled a_t_value_k a_t_nibbled_k i_t_clusters i_t_size i_t_value i_t_nibbled) rfl 1 0 rfl rfl rfl (st := []) rfl (Nat.le_of_ble_eq_true rfl) rd_Cords_loseKnots_5 ?_ ⟨Nat.le_refl _, Nat.le_refl _⟩
  obtain ⟨q8, hq8, hf⟩ := jk_bind_h hf
  refine jk_callSi C hZ.1 hz (ct_Knots_sum l D Z sq hZ cI cR q5 q8 hq8) tm_405 tm_406 tm_14 tm_407 na_Knots_sum ⟨Nat.le_of_ble_eq_true rfl, Nat.le_of_ble_eq_true rfl⟩ rfl [] rfl rfl rfl (ws' := wd_Cords_loseKnots cI a_t a_t_starts a_t_depth a_t_topic a_t_value a_t_nibbled a_t_value_k a_t_nibbled_k i_t_clusters i_t_size i_t_value i_t_nibbled) rfl (st := []) rfl (Nat.le_of_ble_eq_true rfl) rd_Cords_loseKnots_8 ?_ ⟨Nat.le_refl _, Nat.le_refl _⟩
  refine jk_istore_n C rd_Cords_loseKnots_11 (by decide) (lv' := [(3, jk_V q8), (0, .ref a_t), (1, jk_V x1), (2, jk_V x2)]) rfl ?_
  refine jk_aload_n C rd_Cords_loseKnots_12 (k := 1) rfl ?_
  refine jk_get C in_Cords (ci := 5) rfl 5 (by decide) tm_130 0 rfl rfl rd_Cords_loseKnots_13 ?_
  refine jk_iload_n C rd_Cords_loseKnots_16 (k := 2) rfl ?_
  refine jk_aload_n C rd_Cords_loseKnots_17 (k := 1) rfl ?_
  refine jk_get C in_Cords (ci := 5) rfl 5 (by decide) tm_130 0 rfl rfl rd_Cords_loseKnots_18 ?_
  refine jk_iload_n C rd_Cords_loseKnots_21 (k := 2) rfl ?_
  obtain ⟨q22, hq22, hf⟩ := jk_bind_h hf
  refine jk_callVi C hZ.1 hz (ct_Row_get l D Z sq hZ cI cR (n_t := 40) (Nat.le_of_ble_eq_true rfl) a_t_value a_t_value_k i_t_value x1 q22 hq22) tm_356 tm_292 tm_293 tm_3 tm_294 na_Row_get ⟨Nat.le_of_ble_eq_true rfl, Nat.le_of_ble_eq_true rfl⟩ rfl [1, 2] rfl rfl rfl (ws' := wd_Cords_loseKnots cI a_t a_t_starts a_t_depth a_t_topic a_t_value a_t_nibbled a_t_value_k a_t_nibbled_k i_t_clusters i_t_size i_t_value i_t_nibbled) rfl 1 0 rfl rfl rfl (st := [jk_V x1, .ref a_t_value]) rfl (Nat.le_of_ble_eq_true rfl) rd_Cords_loseKnots_22 ?_ ⟨Nat.le_refl _, Nat.le_refl _⟩
  refine jk_iload_n C rd_Cords_loseKnots_25 (k := 3) rfl ?_
  obtain ⟨q26, hq26, hf⟩ := jk_bind_h hf
  refine jk_callSi C hZ.1 hz (ct_Knots_lose l D Z sq hZ cI cR q22 x2 q26 hq26) tm_414 tm_415 tm_14 tm_416 na_Knots_lose ⟨Nat.le_of_ble_eq_true rfl, Nat.le_of_ble_eq_true rfl⟩ rfl [] rfl rfl rfl (ws' := wd_Cords_loseKnots cI a_t a_t_starts a_t_depth a_t_topic a_t_value a_t_nibbled a_t_value_k a_t_nibbled_k i_t_clusters i_t_size i_t_value i_t_nibbled) rfl (st := [jk_V x1, .ref a_t_value]) rfl (Nat.le_of_ble_eq_true rfl) rd_Cords_loseKnots_26 ?_ ⟨Nat.le_refl _, Nat.le_refl _⟩
  obtain ⟨q29, hq29, hf⟩ := jk_bind_h hf
  refine jk_callVv C hZ.1 hz (ct_Row_set l D Z sq hZ cI cR (n_t := 40) (Nat.le_of_ble_eq_true rfl) a_t_value a_t_value_k i_t_value x1 q26 q29 hq29) tm_338 tm_257 tm_258 tm_3 tm_259 na_Row_set ⟨Nat.le_of_ble_eq_true rfl, Nat.le_of_ble_eq_true rfl⟩ rfl [1, 2] rfl rfl rfl (ws' := wd_Cords_loseKnots cI a_t a_t_starts a_t_depth a_t_topic a_t_value a_t_nibbled a_t_value_k a_t_nibbled_k i_t_clusters i_t_size q29 i_t_nibbled) rfl 1 0 rfl rfl rfl (st := []) rfl (Nat.le_of_ble_eq_true rfl) rd_Cords_loseKnots_29 ?_ ⟨Nat.le_refl _, Nat.le_refl _⟩
  refine jk_aload_n C rd_Cords_loseKnots_32 (k := 1) rfl ?_
  refine jk_get C in_Cords (ci := 5) rfl 6 (by decide) tm_133 0 rfl rfl rd_Cords_loseKnots_33 ?_
  refine jk_iload_n C rd_Cords_loseKnots_36 (k := 2) rfl ?_
  refine jk_iload_n C rd_Cords_loseKnots_37 (k := 3) rfl ?_
  obtain ⟨q38, hq38, hf⟩ := jk_bind_h hf
  refine jk_callVv C hZ.1 hz (ct_Row_set l D Z sq hZ cI cR (n_t := 40) (Nat.le_of_ble_eq_true rfl) a_t_nibbled a_t_nibbled_k i_t_nibbled x1 x2 q38 hq38) tm_338 tm_257 tm_258 tm_3 tm_259 na_Row_set ⟨Nat.le_of_ble_eq_true rfl, Nat.le_of_ble_eq_true rfl⟩ rfl [3, 4] rfl rfl rfl (ws' := wd_Cords_loseKnots cI a_t a_t_starts a_t_depth a_t_topic a_t_value a_t_nibbled a_t_value_k a_t_nibbled_k i_t_clusters i_t_size q29 q38) rfl 3 0 rfl rfl rfl (st := []) rfl (Nat.le_of_ble_eq_true rfl) rd_Cords_loseKnots_38 ?_ ⟨Nat.le_refl _, Nat.le_refl _⟩
  refine jk_iload_n C rd_Cords_loseKnots_41 (k := 0) rfl ?_
  refine jk_aload_n C rd_Cords_loseKnots_42 (k := 1) rfl ?_
  refine jk_get C in_Cords (ci := 5) rfl 5 (by decide) tm_130 0 rfl rfl rd_Cords_loseKnots_43 ?_
  refine jk_iload_n C rd_Cords_loseKnots_46 (k := 2) rfl ?_
  obtain ⟨q47, hq47, hf⟩ := jk_bind_h hf
  refine jk_callVi C hZ.1 hz (ct_Row_get l D Z sq hZ cI cR (n_t := 40) (Nat.le_of_ble_eq_true rfl) a_t_value a_t_value_k q29 x1 q47 hq47) tm_356 tm_292 tm_293 tm_3 tm_294 na_Row_get ⟨Nat.le_of_ble_eq_true rfl, Nat.le_of_ble_eq_true rfl⟩ rfl [1, 2] rfl rfl rfl (ws' := wd_Cords_loseKnots cI a_t a_t_starts a_t_depth a_t_topic a_t_value a_t_nibbled a_t_value_k a_t_nibbled_k i_t_clusters i_t_size q29 q38) rfl 1 0 rfl rfl rfl (st := [jk_V q8]) rfl (Nat.le_of_ble_eq_true rfl) rd_Cords_loseKnots_47 ?_ ⟨Nat.le_refl _, Nat.le_refl _⟩
  obtain ⟨q50, hq50, hf⟩ := jk_bind_h hf
  refine jk_callSi C hZ.1 hz (ct_Knots_sum l D Z sq hZ cI cR q47 q50 hq50) tm_405 tm_406 tm_14 tm_407 na_Knots_sum ⟨Nat.le_of_ble_eq_true rfl, Nat.le_of_ble_eq_true rfl⟩ rfl [] rfl rfl rfl (ws' := wd_Cords_loseKnots cI a_t a_t_starts a_t_depth a_t_topic a_t_value a_t_nibbled a_t_value_k a_t_nibbled_k i_t_clusters i_t_size q29 q38) rfl (st := [jk_V q8]) rfl (Nat.le_of_ble_eq_true rfl) rd_Cords_loseKnots_50 ?_ ⟨Nat.le_refl _, Nat.le_refl _⟩
  refine jk_isub C rd_Cords_loseKnots_53 ?_
  cases hf
  exact jk_iret C rfl rd_Cords_loseKnots_54 rfl
