theorem rd_Md_isWholeFrom_0 : decode mb_Md_isWholeFrom 0 = .ok (.iload_n 1, 1) := by decide +kernel
theorem rd_Md_isWholeFrom_1 : decode mb_Md_isWholeFrom 1 = .ok (.istore_n 3, 1) := by decide +kernel
theorem rd_Md_isWholeFrom_2 : decode mb_Md_isWholeFrom 2 = .ok (.iload_n 3, 1) := by decide +kernel
theorem rd_Md_isWholeFrom_3 : decode mb_Md_isWholeFrom 3 = .ok (.iload_n 2, 1) := by decide +kernel
theorem rd_Md_isWholeFrom_4 : decode mb_Md_isWholeFrom 4 = .ok (.if_icmp .ge 19, 3) := by decide +kernel
theorem rd_Md_isWholeFrom_7 : decode mb_Md_isWholeFrom 7 = .ok (.aload_n 0, 1) := by decide +kernel
theorem rd_Md_isWholeFrom_8 : decode mb_Md_isWholeFrom 8 = .ok (.iload_n 3, 1) := by decide +kernel
theorem rd_Md_isWholeFrom_9 : decode mb_Md_isWholeFrom 9 = .ok (.invokevirtual 83, 3) := by decide +kernel
theorem rd_Md_isWholeFrom_12 : decode mb_Md_isWholeFrom 12 = .ok (.ifCond .eq 5, 3) := by decide +kernel
theorem rd_Md_isWholeFrom_15 : decode mb_Md_isWholeFrom 15 = .ok (.iconst 0, 1) := by decide +kernel
theorem rd_Md_isWholeFrom_16 : decode mb_Md_isWholeFrom 16 = .ok (.ireturn, 1) := by decide +kernel
theorem rd_Md_isWholeFrom_17 : decode mb_Md_isWholeFrom 17 = .ok (.iinc 3 1, 3) := by decide +kernel
theorem rd_Md_isWholeFrom_20 : decode mb_Md_isWholeFrom 20 = .ok (.goto (-18), 3) := by decide +kernel
theorem rd_Md_isWholeFrom_23 : decode mb_Md_isWholeFrom 23 = .ok (.iconst 1, 1) := by decide +kernel
theorem rd_Md_isWholeFrom_24 : decode mb_Md_isWholeFrom 24 = .ok (.ireturn, 1) := by decide +kernel
theorem rd_Md_isWhole_0 : decode mb_Md_isWhole 0 = .ok (.aload_n 0, 1) := by decide +kernel
theorem rd_Md_isWhole_1 : decode mb_Md_isWhole 1 = .ok (.iload_n 1, 1) := by decide +kernel
theorem rd_Md_isWhole_2 : decode mb_Md_isWhole 2 = .ok (.aload_n 0, 1) := by decide +kernel
theorem rd_Md_isWhole_3 : decode mb_Md_isWhole 3 = .ok (.iload_n 1, 1) := by decide +kernel
theorem rd_Md_isWhole_4 : decode mb_Md_isWhole 4 = .ok (.invokevirtual 76, 3) := by decide +kernel
theorem rd_Md_isWhole_7 : decode mb_Md_isWhole 7 = .ok (.invokevirtual 87, 3) := by decide +kernel
theorem rd_Md_isWhole_10 : decode mb_Md_isWhole 10 = .ok (.ireturn, 1) := by decide +kernel
theorem rd_Md_lowest_0 : decode mb_Md_lowest 0 = .ok (.iconst 0, 1) := by decide +kernel
theorem rd_Md_lowest_1 : decode mb_Md_lowest 1 = .ok (.istore_n 2, 1) := by decide +kernel
theorem rd_Md_lowest_2 : decode mb_Md_lowest 2 = .ok (.iload_n 1, 1) := by decide +kernel
theorem rd_Md_lowest_3 : decode mb_Md_lowest 3 = .ok (.istore_n 3, 1) := by decide +kernel
theorem rd_Md_lowest_4 : decode mb_Md_lowest 4 = .ok (.iload_n 3, 1) := by decide +kernel
theorem rd_Md_lowest_5 : decode mb_Md_lowest 5 = .ok (.aload_n 0, 1) := by decide +kernel
theorem rd_Md_lowest_6 : decode mb_Md_lowest 6 = .ok (.iload_n 1, 1) := by decide +kernel
theorem rd_Md_lowest_7 : decode mb_Md_lowest 7 = .ok (.invokevirtual 76, 3) := by decide +kernel
theorem rd_Md_lowest_10 : decode mb_Md_lowest 10 = .ok (.if_icmp .ge 18, 3) := by decide +kernel
theorem rd_Md_lowest_13 : decode mb_Md_lowest 13 = .ok (.iload_n 2, 1) := by decide +kernel
theorem rd_Md_lowest_14 : decode mb_Md_lowest 14 = .ok (.aload_n 0, 1) := by decide +kernel
theorem rd_Md_lowest_15 : decode mb_Md_lowest 15 = .ok (.iload_n 3, 1) := by decide +kernel
theorem rd_Md_lowest_16 : decode mb_Md_lowest 16 = .ok (.iconst 3, 1) := by decide +kernel
theorem rd_Md_lowest_17 : decode mb_Md_lowest 17 = .ok (.invokevirtual 63, 3) := by decide +kernel
theorem rd_Md_lowest_20 : decode mb_Md_lowest 20 = .ok (.iadd, 1) := by decide +kernel
theorem rd_Md_lowest_21 : decode mb_Md_lowest 21 = .ok (.istore_n 2, 1) := by decide +kernel
theorem rd_Md_lowest_22 : decode mb_Md_lowest 22 = .ok (.iinc 3 1, 3) := by decide +kernel
theorem rd_Md_lowest_25 : decode mb_Md_lowest 25 = .ok (.goto (-21), 3) := by decide +kernel
theorem rd_Md_lowest_28 : decode mb_Md_lowest 28 = .ok (.iload_n 2, 1) := by decide +kernel
theorem rd_Md_lowest_29 : decode mb_Md_lowest 29 = .ok (.ireturn, 1) := by decide +kernel
theorem rd_Md_highest_0 : decode mb_Md_highest 0 = .ok (.iconst 0, 1) := by decide +kernel
theorem rd_Md_highest_1 : decode mb_Md_highest 1 = .ok (.istore_n 2, 1) := by decide +kernel
theorem rd_Md_highest_2 : decode mb_Md_highest 2 = .ok (.iload_n 1, 1) := by decide +kernel
theorem rd_Md_highest_3 : decode mb_Md_highest 3 = .ok (.istore_n 3, 1) := by decide +kernel
theorem rd_Md_highest_4 : decode mb_Md_highest 4 = .ok (.iload_n 3, 1) := by decide +kernel
theorem rd_Md_highest_5 : decode mb_Md_highest 5 = .ok (.aload_n 0, 1) := by decide +kernel
theorem rd_Md_highest_6 : decode mb_Md_highest 6 = .ok (.iload_n 1, 1) := by decide +kernel
theorem rd_Md_highest_7 : decode mb_Md_highest 7 = .ok (.invokevirtual 76, 3) := by decide +kernel
theorem rd_Md_highest_10 : decode mb_Md_highest 10 = .ok (.if_icmp .ge 30, 3) := by decide +kernel
theorem rd_Md_highest_13 : decode mb_Md_highest 13 = .ok (.iload_n 2, 1) := by decide +kernel
theorem rd_Md_highest_14 : decode mb_Md_highest 14 = .ok (.aload_n 0, 1) := by decide +kernel
theorem rd_Md_highest_15 : decode mb_Md_highest 15 = .ok (.iload_n 3, 1) := by decide +kernel
theorem rd_Md_highest_16 : decode mb_Md_highest 16 = .ok (.iconst 3, 1) := by decide +kernel
theorem rd_Md_highest_17 : decode mb_Md_highest 17 = .ok (.invokevirtual 63, 3) := by decide +kernel
theorem rd_Md_highest_20 : decode mb_Md_highest 20 = .ok (.aload_n 0, 1) := by decide +kernel
theorem rd_Md_highest_21 : decode mb_Md_highest 21 = .ok (.iload_n 3, 1) := by decide +kernel
theorem rd_Md_highest_22 : decode mb_Md_highest 22 = .ok (.iconst 4, 1) := by decide +kernel
theorem rd_Md_highest_23 : decode mb_Md_highest 23 = .ok (.invokevirtual 63, 3) := by decide +kernel
theorem rd_Md_highest_26 : decode mb_Md_highest 26 = .ok (.invokestatic 66, 3) := by decide +kernel
theorem rd_Md_highest_29 : decode mb_Md_highest 29 = .ok (.iadd, 1) := by decide +kernel
theorem rd_Md_highest_30 : decode mb_Md_highest 30 = .ok (.iconst 1, 1) := by decide +kernel
theorem rd_Md_highest_31 : decode mb_Md_highest 31 = .ok (.isub, 1) := by decide +kernel
theorem rd_Md_highest_32 : decode mb_Md_highest 32 = .ok (.iadd, 1) := by decide +kernel
theorem rd_Md_highest_33 : decode mb_Md_highest 33 = .ok (.istore_n 2, 1) := by decide +kernel
theorem rd_Md_highest_34 : decode mb_Md_highest 34 = .ok (.iinc 3 1, 3) := by decide +kernel
theorem rd_Md_highest_37 : decode mb_Md_highest 37 = .ok (.goto (-33), 3) := by decide +kernel
theorem rd_Md_highest_40 : decode mb_Md_highest 40 = .ok (.iload_n 2, 1) := by decide +kernel
theorem rd_Md_highest_41 : decode mb_Md_highest 41 = .ok (.ireturn, 1) := by decide +kernel
theorem rd_Md_first_0 : decode mb_Md_first 0 = .ok (.iconst 0, 1) := by decide +kernel
theorem rd_Md_first_1 : decode mb_Md_first 1 = .ok (.istore_n 2, 1) := by decide +kernel
theorem rd_Md_first_2 : decode mb_Md_first 2 = .ok (.iload_n 2, 1) := by decide +kernel
theorem rd_Md_first_3 : decode mb_Md_first 3 = .ok (.aload_n 0, 1) := by decide +kernel
theorem rd_Md_first_4 : decode mb_Md_first 4 = .ok (.getfield 7, 3) := by decide +kernel
theorem rd_Md_first_7 : decode mb_Md_first 7 = .ok (.iconst 2, 1) := by decide +kernel
theorem rd_Md_first_8 : decode mb_Md_first 8 = .ok (.iaload, 1) := by decide +kernel
theorem rd_Md_first_9 : decode mb_Md_first 9 = .ok (.if_icmp .ge 19, 3) := by decide +kernel
theorem rd_Md_first_12 : decode mb_Md_first 12 = .ok (.aload_n 0, 1) := by decide +kernel
theorem rd_Md_first_13 : decode mb_Md_first 13 = .ok (.iload_n 2, 1) := by decide +kernel
theorem rd_Md_first_14 : decode mb_Md_first 14 = .ok (.iconst 0, 1) := by decide +kernel
theorem rd_Md_first_15 : decode mb_Md_first 15 = .ok (.invokevirtual 63, 3) := by decide +kernel
theorem rd_Md_first_18 : decode mb_Md_first 18 = .ok (.iload_n 1, 1) := by decide +kernel
theorem rd_Md_first_19 : decode mb_Md_first 19 = .ok (.if_icmp .ge 9, 3) := by decide +kernel
theorem rd_Md_first_22 : decode mb_Md_first 22 = .ok (.iinc 2 1, 3) := by decide +kernel
theorem rd_Md_first_25 : decode mb_Md_first 25 = .ok (.goto (-23), 3) := by decide +kernel
theorem rd_Md_first_28 : decode mb_Md_first 28 = .ok (.iload_n 2, 1) := by decide +kernel
theorem rd_Md_first_29 : decode mb_Md_first 29 = .ok (.ireturn, 1) := by decide +kernel
theorem rd_Md_end_0 : decode mb_Md_end 0 = .ok (.aload_n 0, 1) := by decide +kernel
theorem rd_Md_end_1 : decode mb_Md_end 1 = .ok (.iload_n 1, 1) := by decide +kernel
theorem rd_Md_end_2 : decode mb_Md_end 2 = .ok (.iconst 1, 1) := by decide +kernel
theorem rd_Md_end_3 : decode mb_Md_end 3 = .ok (.iadd, 1) := by decide +kernel
theorem rd_Md_end_4 : decode mb_Md_end 4 = .ok (.invokevirtual 91, 3) := by decide +kernel
theorem rd_Md_end_7 : decode mb_Md_end 7 = .ok (.ireturn, 1) := by decide +kernel
theorem rd_Md_hasTop_0 : decode mb_Md_hasTop 0 = .ok (.aload_n 0, 1) := by decide +kernel
theorem rd_Md_hasTop_1 : decode mb_Md_hasTop 1 = .ok (.iload_n 1, 1) := by decide +kernel
theorem rd_Md_hasTop_2 : decode mb_Md_hasTop 2 = .ok (.invokevirtual 91, 3) := by decide +kernel
theorem rd_Md_hasTop_5 : decode mb_Md_hasTop 5 = .ok (.istore_n 2, 1) := by decide +kernel
theorem rd_Md_hasTop_6 : decode mb_Md_hasTop 6 = .ok (.iload_n 2, 1) := by decide +kernel
theorem rd_Md_hasTop_7 : decode mb_Md_hasTop 7 = .ok (.aload_n 0, 1) := by decide +kernel
theorem rd_Md_hasTop_8 : decode mb_Md_hasTop 8 = .ok (.iload_n 1, 1) := by decide +kernel
theorem rd_Md_hasTop_9 : decode mb_Md_hasTop 9 = .ok (.invokevirtual 94, 3) := by decide +kernel
theorem rd_Md_hasTop_12 : decode mb_Md_hasTop 12 = .ok (.if_icmp .ge 16, 3) := by decide +kernel
theorem rd_Md_hasTop_15 : decode mb_Md_hasTop 15 = .ok (.aload_n 0, 1) := by decide +kernel
theorem rd_Md_hasTop_16 : decode mb_Md_hasTop 16 = .ok (.iload_n 2, 1) := by decide +kernel
theorem rd_Md_hasTop_17 : decode mb_Md_hasTop 17 = .ok (.iconst 1, 1) := by decide +kernel
theorem rd_Md_hasTop_18 : decode mb_Md_hasTop 18 = .ok (.invokevirtual 63, 3) := by decide +kernel
theorem rd_Md_hasTop_21 : decode mb_Md_hasTop 21 = .ok (.ifCond .ne 7, 3) := by decide +kernel
theorem rd_Md_hasTop_24 : decode mb_Md_hasTop 24 = .ok (.iconst 1, 1) := by decide +kernel
theorem rd_Md_hasTop_25 : decode mb_Md_hasTop 25 = .ok (.goto 4, 3) := by decide +kernel
theorem rd_Md_hasTop_28 : decode mb_Md_hasTop 28 = .ok (.iconst 0, 1) := by decide +kernel
theorem rd_Md_hasTop_29 : decode mb_Md_hasTop 29 = .ok (.ireturn, 1) := by decide +kernel
theorem rd_Md_pendantsFrom_0 : decode mb_Md_pendantsFrom 0 = .ok (.aload_n 0, 1) := by decide +kernel
theorem rd_Md_pendantsFrom_1 : decode mb_Md_pendantsFrom 1 = .ok (.iload_n 1, 1) := by decide +kernel
theorem rd_Md_pendantsFrom_2 : decode mb_Md_pendantsFrom 2 = .ok (.invokevirtual 91, 3) := by decide +kernel
theorem rd_Md_pendantsFrom_5 : decode mb_Md_pendantsFrom 5 = .ok (.aload_n 0, 1) := by decide +kernel
theorem rd_Md_pendantsFrom_6 : decode mb_Md_pendantsFrom 6 = .ok (.iload_n 1, 1) := by decide +kernel
theorem rd_Md_pendantsFrom_7 : decode mb_Md_pendantsFrom 7 = .ok (.invokevirtual 97, 3) := by decide +kernel
theorem rd_Md_pendantsFrom_10 : decode mb_Md_pendantsFrom 10 = .ok (.invokestatic 79, 3) := by decide +kernel
theorem rd_Md_pendantsFrom_13 : decode mb_Md_pendantsFrom 13 = .ok (.iadd, 1) := by decide +kernel
theorem rd_Md_pendantsFrom_14 : decode mb_Md_pendantsFrom 14 = .ok (.ireturn, 1) := by decide +kernel
theorem rd_Md_pendants_0 : decode mb_Md_pendants 0 = .ok (.iconst 0, 1) := by decide +kernel
theorem rd_Md_pendants_1 : decode mb_Md_pendants 1 = .ok (.istore_n 2, 1) := by decide +kernel
theorem rd_Md_pendants_2 : decode mb_Md_pendants 2 = .ok (.aload_n 0, 1) := by decide +kernel
theorem rd_Md_pendants_3 : decode mb_Md_pendants 3 = .ok (.iload_n 1, 1) := by decide +kernel
theorem rd_Md_pendants_4 : decode mb_Md_pendants 4 = .ok (.invokevirtual 91, 3) := by decide +kernel
theorem rd_Md_pendants_7 : decode mb_Md_pendants 7 = .ok (.istore_n 3, 1) := by decide +kernel
theorem rd_Md_pendants_8 : decode mb_Md_pendants 8 = .ok (.iload_n 3, 1) := by decide +kernel
theorem rd_Md_pendants_9 : decode mb_Md_pendants 9 = .ok (.aload_n 0, 1) := by decide +kernel
theorem rd_Md_pendants_10 : decode mb_Md_pendants 10 = .ok (.iload_n 1, 1) := by decide +kernel
theorem rd_Md_pendants_11 : decode mb_Md_pendants 11 = .ok (.invokevirtual 94, 3) := by decide +kernel
theorem rd_Md_pendants_14 : decode mb_Md_pendants 14 = .ok (.if_icmp .ge 30, 3) := by decide +kernel
theorem rd_Md_pendants_17 : decode mb_Md_pendants 17 = .ok (.iload_n 2, 1) := by decide +kernel
theorem rd_Md_pendants_18 : decode mb_Md_pendants 18 = .ok (.aload_n 0, 1) := by decide +kernel
theorem rd_Md_pendants_19 : decode mb_Md_pendants 19 = .ok (.iload_n 3, 1) := by decide +kernel
theorem rd_Md_pendants_20 : decode mb_Md_pendants 20 = .ok (.iconst 1, 1) := by decide +kernel
theorem rd_Md_pendants_21 : decode mb_Md_pendants 21 = .ok (.invokevirtual 63, 3) := by decide +kernel
theorem rd_Md_pendants_24 : decode mb_Md_pendants 24 = .ok (.iconst 1, 1) := by decide +kernel
theorem rd_Md_pendants_25 : decode mb_Md_pendants 25 = .ok (.if_icmp .ne 7, 3) := by decide +kernel
theorem rd_Md_pendants_28 : decode mb_Md_pendants 28 = .ok (.iconst 1, 1) := by decide +kernel
theorem rd_Md_pendants_29 : decode mb_Md_pendants 29 = .ok (.goto 4, 3) := by decide +kernel
theorem rd_Md_pendants_32 : decode mb_Md_pendants 32 = .ok (.iconst 0, 1) := by decide +kernel
theorem rd_Md_pendants_33 : decode mb_Md_pendants 33 = .ok (.invokestatic 79, 3) := by decide +kernel
theorem rd_Md_pendants_36 : decode mb_Md_pendants 36 = .ok (.iadd, 1) := by decide +kernel
theorem rd_Md_pendants_37 : decode mb_Md_pendants 37 = .ok (.istore_n 2, 1) := by decide +kernel
theorem rd_Md_pendants_38 : decode mb_Md_pendants 38 = .ok (.iinc 3 1, 3) := by decide +kernel
theorem rd_Md_pendants_41 : decode mb_Md_pendants 41 = .ok (.goto (-33), 3) := by decide +kernel
theorem rd_Md_pendants_44 : decode mb_Md_pendants 44 = .ok (.iload_n 2, 1) := by decide +kernel
theorem rd_Md_pendants_45 : decode mb_Md_pendants 45 = .ok (.ireturn, 1) := by decide +kernel
theorem rd_Md_knownSum_0 : decode mb_Md_knownSum 0 = .ok (.iconst 0, 1) := by decide +kernel
theorem rd_Md_knownSum_1 : decode mb_Md_knownSum 1 = .ok (.istore_n 2, 1) := by decide +kernel
theorem rd_Md_knownSum_2 : decode mb_Md_knownSum 2 = .ok (.aload_n 0, 1) := by decide +kernel
theorem rd_Md_knownSum_3 : decode mb_Md_knownSum 3 = .ok (.iload_n 1, 1) := by decide +kernel
theorem rd_Md_knownSum_4 : decode mb_Md_knownSum 4 = .ok (.invokevirtual 100, 3) := by decide +kernel
theorem rd_Md_knownSum_7 : decode mb_Md_knownSum 7 = .ok (.istore_n 3, 1) := by decide +kernel
theorem rd_Md_knownSum_8 : decode mb_Md_knownSum 8 = .ok (.iload_n 3, 1) := by decide +kernel
theorem rd_Md_knownSum_9 : decode mb_Md_knownSum 9 = .ok (.aload_n 0, 1) := by decide +kernel
theorem rd_Md_knownSum_10 : decode mb_Md_knownSum 10 = .ok (.iload_n 1, 1) := by decide +kernel
theorem rd_Md_knownSum_11 : decode mb_Md_knownSum 11 = .ok (.invokevirtual 94, 3) := by decide +kernel
theorem rd_Md_knownSum_14 : decode mb_Md_knownSum 14 = .ok (.if_icmp .ge 18, 3) := by decide +kernel
theorem rd_Md_knownSum_17 : decode mb_Md_knownSum 17 = .ok (.iload_n 2, 1) := by decide +kernel
theorem rd_Md_knownSum_18 : decode mb_Md_knownSum 18 = .ok (.aload_n 0, 1) := by decide +kernel
theorem rd_Md_knownSum_19 : decode mb_Md_knownSum 19 = .ok (.iload_n 3, 1) := by decide +kernel
theorem rd_Md_knownSum_20 : decode mb_Md_knownSum 20 = .ok (.iconst 3, 1) := by decide +kernel
theorem rd_Md_knownSum_21 : decode mb_Md_knownSum 21 = .ok (.invokevirtual 63, 3) := by decide +kernel
theorem rd_Md_knownSum_24 : decode mb_Md_knownSum 24 = .ok (.iadd, 1) := by decide +kernel
theorem rd_Md_knownSum_25 : decode mb_Md_knownSum 25 = .ok (.istore_n 2, 1) := by decide +kernel
theorem rd_Md_knownSum_26 : decode mb_Md_knownSum 26 = .ok (.iinc 3 1, 3) := by decide +kernel
theorem rd_Md_knownSum_29 : decode mb_Md_knownSum 29 = .ok (.goto (-21), 3) := by decide +kernel
theorem rd_Md_knownSum_32 : decode mb_Md_knownSum 32 = .ok (.iload_n 2, 1) := by decide +kernel
theorem rd_Md_knownSum_33 : decode mb_Md_knownSum 33 = .ok (.ireturn, 1) := by decide +kernel
theorem rd_Md_nibbledIn_0 : decode mb_Md_nibbledIn 0 = .ok (.iconst 0, 1) := by decide +kernel
theorem rd_Md_nibbledIn_1 : decode mb_Md_nibbledIn 1 = .ok (.istore_n 2, 1) := by decide +kernel
theorem rd_Md_nibbledIn_2 : decode mb_Md_nibbledIn 2 = .ok (.aload_n 0, 1) := by decide +kernel
theorem rd_Md_nibbledIn_3 : decode mb_Md_nibbledIn 3 = .ok (.iload_n 1, 1) := by decide +kernel
theorem rd_Md_nibbledIn_4 : decode mb_Md_nibbledIn 4 = .ok (.invokevirtual 91, 3) := by decide +kernel
theorem rd_Md_nibbledIn_7 : decode mb_Md_nibbledIn 7 = .ok (.istore_n 3, 1) := by decide +kernel
theorem rd_Md_nibbledIn_8 : decode mb_Md_nibbledIn 8 = .ok (.iload_n 3, 1) := by decide +kernel
theorem rd_Md_nibbledIn_9 : decode mb_Md_nibbledIn 9 = .ok (.aload_n 0, 1) := by decide +kernel
theorem rd_Md_nibbledIn_10 : decode mb_Md_nibbledIn 10 = .ok (.iload_n 1, 1) := by decide +kernel
theorem rd_Md_nibbledIn_11 : decode mb_Md_nibbledIn 11 = .ok (.invokevirtual 94, 3) := by decide +kernel
theorem rd_Md_nibbledIn_14 : decode mb_Md_nibbledIn 14 = .ok (.if_icmp .ge 20, 3) := by decide +kernel
theorem rd_Md_nibbledIn_17 : decode mb_Md_nibbledIn 17 = .ok (.iload_n 2, 1) := by decide +kernel
theorem rd_Md_nibbledIn_18 : decode mb_Md_nibbledIn 18 = .ok (.aload_n 0, 1) := by decide +kernel
theorem rd_Md_nibbledIn_19 : decode mb_Md_nibbledIn 19 = .ok (.iload_n 3, 1) := by decide +kernel
theorem rd_Md_nibbledIn_20 : decode mb_Md_nibbledIn 20 = .ok (.invokevirtual 83, 3) := by decide +kernel
theorem rd_Md_nibbledIn_23 : decode mb_Md_nibbledIn 23 = .ok (.invokestatic 79, 3) := by decide +kernel
theorem rd_Md_nibbledIn_26 : decode mb_Md_nibbledIn 26 = .ok (.iadd, 1) := by decide +kernel
theorem rd_Md_nibbledIn_27 : decode mb_Md_nibbledIn 27 = .ok (.istore_n 2, 1) := by decide +kernel
theorem rd_Md_nibbledIn_28 : decode mb_Md_nibbledIn 28 = .ok (.iinc 3 1, 3) := by decide +kernel
theorem rd_Md_nibbledIn_31 : decode mb_Md_nibbledIn 31 = .ok (.goto (-23), 3) := by decide +kernel
theorem rd_Md_nibbledIn_34 : decode mb_Md_nibbledIn 34 = .ok (.iload_n 2, 1) := by decide +kernel
theorem rd_Md_nibbledIn_35 : decode mb_Md_nibbledIn 35 = .ok (.ireturn, 1) := by decide +kernel
theorem rd_Md_onlyNibbled_0 : decode mb_Md_onlyNibbled 0 = .ok (.aload_n 0, 1) := by decide +kernel
theorem rd_Md_onlyNibbled_1 : decode mb_Md_onlyNibbled 1 = .ok (.iload_n 1, 1) := by decide +kernel
theorem rd_Md_onlyNibbled_2 : decode mb_Md_onlyNibbled 2 = .ok (.invokevirtual 103, 3) := by decide +kernel
theorem rd_Md_onlyNibbled_5 : decode mb_Md_onlyNibbled 5 = .ok (.iconst 1, 1) := by decide +kernel
theorem rd_Md_onlyNibbled_6 : decode mb_Md_onlyNibbled 6 = .ok (.if_icmp .eq 5, 3) := by decide +kernel
theorem rd_Md_onlyNibbled_9 : decode mb_Md_onlyNibbled 9 = .ok (.iconst (-1), 1) := by decide +kernel
theorem rd_Md_onlyNibbled_10 : decode mb_Md_onlyNibbled 10 = .ok (.ireturn, 1) := by decide +kernel
theorem rd_Md_onlyNibbled_11 : decode mb_Md_onlyNibbled 11 = .ok (.aload_n 0, 1) := by decide +kernel
theorem rd_Md_onlyNibbled_12 : decode mb_Md_onlyNibbled 12 = .ok (.iload_n 1, 1) := by decide +kernel
theorem rd_Md_onlyNibbled_13 : decode mb_Md_onlyNibbled 13 = .ok (.invokevirtual 91, 3) := by decide +kernel
theorem rd_Md_onlyNibbled_16 : decode mb_Md_onlyNibbled 16 = .ok (.istore_n 2, 1) := by decide +kernel
theorem rd_Md_onlyNibbled_17 : decode mb_Md_onlyNibbled 17 = .ok (.aload_n 0, 1) := by decide +kernel
theorem rd_Md_onlyNibbled_18 : decode mb_Md_onlyNibbled 18 = .ok (.iload_n 2, 1) := by decide +kernel
theorem rd_Md_onlyNibbled_19 : decode mb_Md_onlyNibbled 19 = .ok (.invokevirtual 83, 3) := by decide +kernel
theorem rd_Md_onlyNibbled_22 : decode mb_Md_onlyNibbled 22 = .ok (.ifCond .ne 9, 3) := by decide +kernel
theorem rd_Md_onlyNibbled_25 : decode mb_Md_onlyNibbled 25 = .ok (.iinc 2 1, 3) := by decide +kernel
theorem rd_Md_onlyNibbled_28 : decode mb_Md_onlyNibbled 28 = .ok (.goto (-11), 3) := by decide +kernel
theorem rd_Md_onlyNibbled_31 : decode mb_Md_onlyNibbled 31 = .ok (.iload_n 2, 1) := by decide +kernel
theorem rd_Md_onlyNibbled_32 : decode mb_Md_onlyNibbled 32 = .ok (.ireturn, 1) := by decide +kernel
theorem rd_Md_state_0 : decode mb_Md_state 0 = .ok (.aload_n 0, 1) := by decide +kernel
theorem rd_Md_state_1 : decode mb_Md_state 1 = .ok (.iload_n 1, 1) := by decide +kernel
theorem rd_Md_state_2 : decode mb_Md_state 2 = .ok (.invokevirtual 97, 3) := by decide +kernel
theorem rd_Md_state_5 : decode mb_Md_state 5 = .ok (.ifCond .ne 5, 3) := by decide +kernel
theorem rd_Md_state_8 : decode mb_Md_state 8 = .ok (.iconst 0, 1) := by decide +kernel
theorem rd_Md_state_9 : decode mb_Md_state 9 = .ok (.ireturn, 1) := by decide +kernel
theorem rd_Md_state_10 : decode mb_Md_state 10 = .ok (.aload_n 0, 1) := by decide +kernel
theorem rd_Md_state_11 : decode mb_Md_state 11 = .ok (.iload_n 1, 1) := by decide +kernel
theorem rd_Md_state_12 : decode mb_Md_state 12 = .ok (.invokevirtual 103, 3) := by decide +kernel
theorem rd_Md_state_15 : decode mb_Md_state 15 = .ok (.ifCond .le 5, 3) := by decide +kernel
theorem rd_Md_state_18 : decode mb_Md_state 18 = .ok (.iconst 1, 1) := by decide +kernel
theorem rd_Md_state_19 : decode mb_Md_state 19 = .ok (.ireturn, 1) := by decide +kernel
theorem rd_Md_state_20 : decode mb_Md_state 20 = .ok (.aload_n 0, 1) := by decide +kernel
theorem rd_Md_state_21 : decode mb_Md_state 21 = .ok (.aload_n 0, 1) := by decide +kernel
theorem rd_Md_state_22 : decode mb_Md_state 22 = .ok (.iload_n 1, 1) := by decide +kernel
theorem rd_Md_state_23 : decode mb_Md_state 23 = .ok (.invokevirtual 91, 3) := by decide +kernel
theorem rd_Md_state_26 : decode mb_Md_state 26 = .ok (.iconst 3, 1) := by decide +kernel
theorem rd_Md_state_27 : decode mb_Md_state 27 = .ok (.invokevirtual 63, 3) := by decide +kernel
theorem rd_Md_state_30 : decode mb_Md_state 30 = .ok (.aload_n 0, 1) := by decide +kernel
theorem rd_Md_state_31 : decode mb_Md_state 31 = .ok (.iload_n 1, 1) := by decide +kernel
theorem rd_Md_state_32 : decode mb_Md_state 32 = .ok (.invokevirtual 106, 3) := by decide +kernel
theorem rd_Md_state_35 : decode mb_Md_state 35 = .ok (.if_icmp .ne 7, 3) := by decide +kernel
theorem rd_Md_state_38 : decode mb_Md_state 38 = .ok (.iconst 2, 1) := by decide +kernel
theorem rd_Md_state_39 : decode mb_Md_state 39 = .ok (.goto 4, 3) := by decide +kernel
theorem rd_Md_state_42 : decode mb_Md_state 42 = .ok (.iconst 3, 1) := by decide +kernel
theorem rd_Md_state_43 : decode mb_Md_state 43 = .ok (.ireturn, 1) := by decide +kernel
theorem rd_Md_guess_0 : decode mb_Md_guess 0 = .ok (.aload_n 0, 1) := by decide +kernel
theorem rd_Md_guess_1 : decode mb_Md_guess 1 = .ok (.iload_n 1, 1) := by decide +kernel
theorem rd_Md_guess_2 : decode mb_Md_guess 2 = .ok (.invokevirtual 109, 3) := by decide +kernel
theorem rd_Md_guess_5 : decode mb_Md_guess 5 = .ok (.istore_n 2, 1) := by decide +kernel
theorem rd_Md_guess_6 : decode mb_Md_guess 6 = .ok (.aload_n 0, 1) := by decide +kernel
theorem rd_Md_guess_7 : decode mb_Md_guess 7 = .ok (.iload_n 2, 1) := by decide +kernel
theorem rd_Md_guess_8 : decode mb_Md_guess 8 = .ok (.iconst 1, 1) := by decide +kernel
theorem rd_Md_guess_9 : decode mb_Md_guess 9 = .ok (.invokevirtual 63, 3) := by decide +kernel
theorem rd_Md_guess_12 : decode mb_Md_guess 12 = .ok (.ifCond .ne 9, 3) := by decide +kernel
theorem rd_Md_guess_15 : decode mb_Md_guess 15 = .ok (.aload_n 0, 1) := by decide +kernel
theorem rd_Md_guess_16 : decode mb_Md_guess 16 = .ok (.iload_n 1, 1) := by decide +kernel
theorem rd_Md_guess_17 : decode mb_Md_guess 17 = .ok (.invokevirtual 106, 3) := by decide +kernel
theorem rd_Md_guess_20 : decode mb_Md_guess 20 = .ok (.ireturn, 1) := by decide +kernel
theorem rd_Md_guess_21 : decode mb_Md_guess 21 = .ok (.aload_n 0, 1) := by decide +kernel
theorem rd_Md_guess_22 : decode mb_Md_guess 22 = .ok (.aload_n 0, 1) := by decide +kernel
theorem rd_Md_guess_23 : decode mb_Md_guess 23 = .ok (.iload_n 1, 1) := by decide +kernel
theorem rd_Md_guess_24 : decode mb_Md_guess 24 = .ok (.invokevirtual 91, 3) := by decide +kernel
theorem rd_Md_guess_27 : decode mb_Md_guess 27 = .ok (.iconst 3, 1) := by decide +kernel
theorem rd_Md_guess_28 : decode mb_Md_guess 28 = .ok (.invokevirtual 63, 3) := by decide +kernel
theorem rd_Md_guess_31 : decode mb_Md_guess 31 = .ok (.aload_n 0, 1) := by decide +kernel
theorem rd_Md_guess_32 : decode mb_Md_guess 32 = .ok (.iload_n 1, 1) := by decide +kernel
theorem rd_Md_guess_33 : decode mb_Md_guess 33 = .ok (.invokevirtual 106, 3) := by decide +kernel
theorem rd_Md_guess_36 : decode mb_Md_guess 36 = .ok (.aload_n 0, 1) := by decide +kernel
theorem rd_Md_guess_37 : decode mb_Md_guess 37 = .ok (.iload_n 2, 1) := by decide +kernel
theorem rd_Md_guess_38 : decode mb_Md_guess 38 = .ok (.iconst 3, 1) := by decide +kernel
theorem rd_Md_guess_39 : decode mb_Md_guess 39 = .ok (.invokevirtual 63, 3) := by decide +kernel
theorem rd_Md_guess_42 : decode mb_Md_guess 42 = .ok (.isub, 1) := by decide +kernel
theorem rd_Md_guess_43 : decode mb_Md_guess 43 = .ok (.isub, 1) := by decide +kernel
theorem rd_Md_guess_44 : decode mb_Md_guess 44 = .ok (.ireturn, 1) := by decide +kernel
theorem rd_Md_isPossible_0 : decode mb_Md_isPossible 0 = .ok (.aload_n 0, 1) := by decide +kernel
theorem rd_Md_isPossible_1 : decode mb_Md_isPossible 1 = .ok (.iload_n 1, 1) := by decide +kernel
theorem rd_Md_isPossible_2 : decode mb_Md_isPossible 2 = .ok (.invokevirtual 109, 3) := by decide +kernel
theorem rd_Md_isPossible_5 : decode mb_Md_isPossible 5 = .ok (.istore_n 2, 1) := by decide +kernel
theorem rd_Md_isPossible_6 : decode mb_Md_isPossible 6 = .ok (.aload_n 0, 1) := by decide +kernel
theorem rd_Md_isPossible_7 : decode mb_Md_isPossible 7 = .ok (.iload_n 1, 1) := by decide +kernel
theorem rd_Md_isPossible_8 : decode mb_Md_isPossible 8 = .ok (.invokevirtual 112, 3) := by decide +kernel
theorem rd_Md_isPossible_11 : decode mb_Md_isPossible 11 = .ok (.istore_n 3, 1) := by decide +kernel
theorem rd_Md_isPossible_12 : decode mb_Md_isPossible 12 = .ok (.iload_n 3, 1) := by decide +kernel
theorem rd_Md_isPossible_13 : decode mb_Md_isPossible 13 = .ok (.iconst 0, 1) := by decide +kernel
theorem rd_Md_isPossible_14 : decode mb_Md_isPossible 14 = .ok (.sipush 9999, 3) := by decide +kernel
theorem rd_Md_isPossible_17 : decode mb_Md_isPossible 17 = .ok (.invokestatic 115, 3) := by decide +kernel
theorem rd_Md_isPossible_20 : decode mb_Md_isPossible 20 = .ok (.ifCond .ne 5, 3) := by decide +kernel
theorem rd_Md_isPossible_23 : decode mb_Md_isPossible 23 = .ok (.iconst 0, 1) := by decide +kernel
theorem rd_Md_isPossible_24 : decode mb_Md_isPossible 24 = .ok (.ireturn, 1) := by decide +kernel
theorem rd_Md_isPossible_25 : decode mb_Md_isPossible 25 = .ok (.aload_n 0, 1) := by decide +kernel
theorem rd_Md_isPossible_26 : decode mb_Md_isPossible 26 = .ok (.iload_n 2, 1) := by decide +kernel
theorem rd_Md_isPossible_27 : decode mb_Md_isPossible 27 = .ok (.iconst 4, 1) := by decide +kernel
theorem rd_Md_isPossible_28 : decode mb_Md_isPossible 28 = .ok (.invokevirtual 63, 3) := by decide +kernel
theorem rd_Md_isPossible_31 : decode mb_Md_isPossible 31 = .ok (.invokestatic 66, 3) := by decide +kernel
theorem rd_Md_isPossible_34 : decode mb_Md_isPossible 34 = .ok (.istore 4, 2) := by decide +kernel
theorem rd_Md_isPossible_36 : decode mb_Md_isPossible 36 = .ok (.iload_n 3, 1) := by decide +kernel
theorem rd_Md_isPossible_37 : decode mb_Md_isPossible 37 = .ok (.iload 4, 2) := by decide +kernel
theorem rd_Md_isPossible_39 : decode mb_Md_isPossible 39 = .ok (.idiv, 1) := by decide +kernel
theorem rd_Md_isPossible_40 : decode mb_Md_isPossible 40 = .ok (.aload_n 0, 1) := by decide +kernel
theorem rd_Md_isPossible_41 : decode mb_Md_isPossible 41 = .ok (.iload_n 2, 1) := by decide +kernel
theorem rd_Md_isPossible_42 : decode mb_Md_isPossible 42 = .ok (.iconst 3, 1) := by decide +kernel
theorem rd_Md_isPossible_43 : decode mb_Md_isPossible 43 = .ok (.invokevirtual 63, 3) := by decide +kernel
theorem rd_Md_isPossible_46 : decode mb_Md_isPossible 46 = .ok (.iload 4, 2) := by decide +kernel
theorem rd_Md_isPossible_48 : decode mb_Md_isPossible 48 = .ok (.idiv, 1) := by decide +kernel
theorem rd_Md_isPossible_49 : decode mb_Md_isPossible 49 = .ok (.if_icmp .ne 7, 3) := by decide +kernel
theorem rd_Md_isPossible_52 : decode mb_Md_isPossible 52 = .ok (.iconst 1, 1) := by decide +kernel
theorem rd_Md_isPossible_53 : decode mb_Md_isPossible 53 = .ok (.goto 4, 3) := by decide +kernel
theorem rd_Md_isPossible_56 : decode mb_Md_isPossible 56 = .ok (.iconst 0, 1) := by decide +kernel
theorem rd_Md_isPossible_57 : decode mb_Md_isPossible 57 = .ok (.ireturn, 1) := by decide +kernel
theorem rd_Md_guessReason_0 : decode mb_Md_guessReason 0 = .ok (.aload_n 0, 1) := by decide +kernel
theorem rd_Md_guessReason_1 : decode mb_Md_guessReason 1 = .ok (.iload_n 1, 1) := by decide +kernel
theorem rd_Md_guessReason_2 : decode mb_Md_guessReason 2 = .ok (.invokevirtual 97, 3) := by decide +kernel
theorem rd_Md_guessReason_5 : decode mb_Md_guessReason 5 = .ok (.ifCond .ne 5, 3) := by decide +kernel
theorem rd_Md_guessReason_8 : decode mb_Md_guessReason 8 = .ok (.iconst 1, 1) := by decide +kernel
theorem rd_Md_guessReason_9 : decode mb_Md_guessReason 9 = .ok (.ireturn, 1) := by decide +kernel
theorem rd_Md_guessReason_10 : decode mb_Md_guessReason 10 = .ok (.aload_n 0, 1) := by decide +kernel
theorem rd_Md_guessReason_11 : decode mb_Md_guessReason 11 = .ok (.iload_n 1, 1) := by decide +kernel
theorem rd_Md_guessReason_12 : decode mb_Md_guessReason 12 = .ok (.invokevirtual 103, 3) := by decide +kernel
theorem rd_Md_guessReason_15 : decode mb_Md_guessReason 15 = .ok (.istore_n 2, 1) := by decide +kernel
theorem rd_Md_guessReason_16 : decode mb_Md_guessReason 16 = .ok (.iload_n 2, 1) := by decide +kernel
theorem rd_Md_guessReason_17 : decode mb_Md_guessReason 17 = .ok (.iconst 1, 1) := by decide +kernel
theorem rd_Md_guessReason_18 : decode mb_Md_guessReason 18 = .ok (.if_icmp .eq 13, 3) := by decide +kernel
theorem rd_Md_guessReason_21 : decode mb_Md_guessReason 21 = .ok (.iload_n 2, 1) := by decide +kernel
theorem rd_Md_guessReason_22 : decode mb_Md_guessReason 22 = .ok (.ifCond .ne 7, 3) := by decide +kernel
theorem rd_Md_guessReason_25 : decode mb_Md_guessReason 25 = .ok (.iconst 2, 1) := by decide +kernel
theorem rd_Md_guessReason_26 : decode mb_Md_guessReason 26 = .ok (.goto 4, 3) := by decide +kernel
theorem rd_Md_guessReason_29 : decode mb_Md_guessReason 29 = .ok (.iconst 3, 1) := by decide +kernel
theorem rd_Md_guessReason_30 : decode mb_Md_guessReason 30 = .ok (.ireturn, 1) := by decide +kernel
theorem rd_Md_guessReason_31 : decode mb_Md_guessReason 31 = .ok (.aload_n 0, 1) := by decide +kernel
theorem rd_Md_guessReason_32 : decode mb_Md_guessReason 32 = .ok (.iload_n 1, 1) := by decide +kernel
theorem rd_Md_guessReason_33 : decode mb_Md_guessReason 33 = .ok (.invokevirtual 119, 3) := by decide +kernel
theorem rd_Md_guessReason_36 : decode mb_Md_guessReason 36 = .ok (.ifCond .eq 7, 3) := by decide +kernel
theorem rd_Md_guessReason_39 : decode mb_Md_guessReason 39 = .ok (.iconst 0, 1) := by decide +kernel
theorem rd_Md_guessReason_40 : decode mb_Md_guessReason 40 = .ok (.goto 4, 3) := by decide +kernel
theorem rd_Md_guessReason_43 : decode mb_Md_guessReason 43 = .ok (.iconst 4, 1) := by decide +kernel
theorem rd_Md_guessReason_44 : decode mb_Md_guessReason 44 = .ok (.ireturn, 1) := by decide +kernel
theorem rd_Md_repairs_0 : decode mb_Md_repairs 0 = .ok (.aload_n 0, 1) := by decide +kernel
theorem rd_Md_repairs_1 : decode mb_Md_repairs 1 = .ok (.iload_n 1, 1) := by decide +kernel
theorem rd_Md_repairs_2 : decode mb_Md_repairs 2 = .ok (.invokevirtual 112, 3) := by decide +kernel
theorem rd_Md_repairs_5 : decode mb_Md_repairs 5 = .ok (.istore_n 2, 1) := by decide +kernel
theorem rd_Md_repairs_6 : decode mb_Md_repairs 6 = .ok (.aload_n 0, 1) := by decide +kernel
theorem rd_Md_repairs_7 : decode mb_Md_repairs 7 = .ok (.iload_n 1, 1) := by decide +kernel
theorem rd_Md_repairs_8 : decode mb_Md_repairs 8 = .ok (.invokevirtual 109, 3) := by decide +kernel
theorem rd_Md_repairs_11 : decode mb_Md_repairs 11 = .ok (.istore_n 3, 1) := by decide +kernel
theorem rd_Md_repairs_12 : decode mb_Md_repairs 12 = .ok (.aload_n 0, 1) := by decide +kernel
theorem rd_Md_repairs_13 : decode mb_Md_repairs 13 = .ok (.iload_n 3, 1) := by decide +kernel
theorem rd_Md_repairs_14 : decode mb_Md_repairs 14 = .ok (.iconst 3, 1) := by decide +kernel
theorem rd_Md_repairs_15 : decode mb_Md_repairs 15 = .ok (.iload_n 2, 1) := by decide +kernel
theorem rd_Md_repairs_16 : decode mb_Md_repairs 16 = .ok (.invokevirtual 59, 3) := by decide +kernel
theorem rd_Md_repairs_19 : decode mb_Md_repairs 19 = .ok (.aload_n 0, 1) := by decide +kernel
theorem rd_Md_repairs_20 : decode mb_Md_repairs 20 = .ok (.iload_n 3, 1) := by decide +kernel
theorem rd_Md_repairs_21 : decode mb_Md_repairs 21 = .ok (.iconst 4, 1) := by decide +kernel
theorem rd_Md_repairs_22 : decode mb_Md_repairs 22 = .ok (.iconst 0, 1) := by decide +kernel
theorem rd_Md_repairs_23 : decode mb_Md_repairs 23 = .ok (.invokevirtual 59, 3) := by decide +kernel
theorem rd_Md_repairs_26 : decode mb_Md_repairs 26 = .ok (.iload_n 2, 1) := by decide +kernel
theorem rd_Md_repairs_27 : decode mb_Md_repairs 27 = .ok (.ireturn, 1) := by decide +kernel
def wd_Md_isWholeFrom (cI : ClassId) (a_t a_t_w a_t_wKept a_t_saved a_t_past a_t_input a_t_n a_t_order a_t_numbers a_t_output : Nat) (i_t_pastMany : Int) (i_t_isSaved : Int) (i_t_thrown : Int) (i_t_inputMany : Int) (i_t_lastError : Int) (i_t_lastOffset : Int) (i_t_error : Int) (i_t_offset : Int) (i_t_nextByte : Int) (i_t_begin : Int) (i_t_value : Int) (i_t_token : Int) (i_t_got : Int) (i_t_orders : Int) (i_t_outputMany : Int) (i_t_w : (Int → Int)) : va_W := [(a_t, .inr (11, [.ref a_t_w, .ref a_t_wKept, .ref a_t_saved, .ref a_t_past, jk_V i_t_pastMany, jk_V i_t_isSaved, jk_V i_t_thrown, .ref a_t_input, jk_V i_t_inputMany, jk_V i_t_lastError, jk_V i_t_lastOffset, jk_V i_t_error, jk_V i_t_offset, jk_V i_t_nextByte, jk_V i_t_begin, jk_V i_t_value, jk_V i_t_token, jk_V i_t_got, .ref a_t_n, .ref a_t_order, .ref a_t_numbers, jk_V i_t_orders, .ref a_t_output, jk_V i_t_outputMany])), (a_t_w, jk_W cI 259 i_t_w)]
set_option maxHeartbeats 4000000 in
set_option maxRecDepth 20000 in
theorem ct_Md_isWholeFrom (l : Launch) (D : va_G) (Z : (Nat → Prop) → State → Heap → Prop) (sq : Nat → Nat) (hZ : jk_ZK Z sq) (cI cR : ClassId) (a_t a_t_w a_t_wKept a_t_saved a_t_past a_t_input a_t_n a_t_order a_t_numbers a_t_output : Nat) (i_t_pastMany : Int) (i_t_isSaved : Int) (i_t_thrown : Int) (i_t_inputMany : Int) (i_t_lastError : Int) (i_t_lastOffset : Int) (i_t_error : Int) (i_t_offset : Int) (i_t_nextByte : Int) (i_t_begin : Int) (i_t_value : Int) (i_t_token : Int) (i_t_got : Int) (i_t_orders : Int) (i_t_outputMany : Int) (i_t_w : (Int → Int)) (x1 : Int) (x2 : Int) (q : Int) (hf : fn_Md_isWholeFrom i_t_w x1 x2 = some q) : jk_MI l D jk_cl (jk_ty cI cR) Z mn_Md_isWholeFrom (.code mn_Md_isWholeFrom mb_Md_isWholeFrom 4 (some .boolean) :: jk_WA) (jk_rm 2 43) [.ref a_t, jk_V x1, jk_V x2] (wd_Md_isWholeFrom cI a_t a_t_w a_t_wKept a_t_saved a_t_past a_t_input a_t_n a_t_order a_t_numbers a_t_output i_t_pastMany i_t_isSaved i_t_thrown i_t_inputMany i_t_lastError i_t_lastOffset i_t_error i_t_offset i_t_nextByte i_t_begin i_t_value i_t_token i_t_got i_t_orders i_t_outputMany i_t_w) (wd_Md_isWholeFrom cI a_t a_t_w a_t_wKept a_t_saved a_t_past a_t_input a_t_n a_t_order a_t_numbers a_t_output i_t_pastMany i_t_isSaved i_t_thrown i_t_inputMany i_t_lastError i_t_lastOffset i_t_error i_t_offset i_t_nextByte i_t_begin i_t_value i_t_token i_t_got i_t_orders i_t_outputMany i_t_w) q := by
  intro sz
  refine jk_body (by decide +kernel) (fun p e s m args below meth c hsz hz hin C => ?_) (Nat.le_of_ble_eq_true rfl)
  subst hsz
  unfold fn_Md_isWholeFrom at hf
  have bk_2 : ∀ (n : Nat) (v2 : Int) (v3 : Int), fn_Md_isWholeFrom_b2 n i_t_w v2 v3 = some q → jk_J p l e (jk_rm 2 43) s m args below meth c 0 0 (jk_QI below D jk_cl (jk_ty cI cR) (wd_Md_isWholeFrom cI a_t a_t_w a_t_wKept a_t_saved a_t_past a_t_input a_t_n a_t_order a_t_numbers a_t_output i_t_pastMany i_t_isSaved i_t_thrown i_t_inputMany i_t_lastError i_t_lastOffset i_t_error i_t_offset i_t_nextByte i_t_begin i_t_value i_t_token i_t_got i_t_orders i_t_outputMany i_t_w) (wd_Md_isWholeFrom cI a_t a_t_w a_t_wKept a_t_saved a_t_past a_t_input a_t_n a_t_order a_t_numbers a_t_output i_t_pastMany i_t_isSaved i_t_thrown i_t_inputMany i_t_lastError i_t_lastOffset i_t_error i_t_offset i_t_nextByte i_t_begin i_t_value i_t_token i_t_got i_t_orders i_t_outputMany i_t_w) args s q) D jk_cl (va_A (wd_Md_isWholeFrom cI a_t a_t_w a_t_wKept a_t_saved a_t_past a_t_input a_t_n a_t_order a_t_numbers a_t_output i_t_pastMany i_t_isSaved i_t_thrown i_t_inputMany i_t_lastError i_t_lastOffset i_t_error i_t_offset i_t_nextByte i_t_begin i_t_value i_t_token i_t_got i_t_orders i_t_outputMany i_t_w) s.heap.size) 4 (wd_Md_isWholeFrom cI a_t a_t_w a_t_wKept a_t_saved a_t_past a_t_input a_t_n a_t_order a_t_numbers a_t_output i_t_pastMany i_t_isSaved i_t_thrown i_t_inputMany i_t_lastError i_t_lastOffset i_t_error i_t_offset i_t_nextByte i_t_begin i_t_value i_t_token i_t_got i_t_orders i_t_outputMany i_t_w) [(0, .ref a_t), (2, jk_V v2), (3, jk_V v3)] 2 [] := by
    intro n
    induction n with
    | zero => intro v2 v3 hf; exact nomatch (show none = some q from hf)
    | succ n ih =>
      intro v2 v3 hf
      rw [fn_Md_isWholeFrom_b2] at hf
      refine jk_iload_n C rd_Md_isWholeFrom_2 (k := 2) rfl ?_
      refine jk_iload_n C rd_Md_isWholeFrom_3 (k := 1) rfl ?_
      refine jk_icmp_ge (tgt := 23) C rd_Md_isWholeFrom_4 (by decide) hf (fun _ hf => ?_) (fun _ hf => ?_)
      · refine jk_iconst C rd_Md_isWholeFrom_23 ?_
        cases hf
        exact jk_zret C (Or.inr rfl) rfl rd_Md_isWholeFrom_24 rfl
      · refine jk_aload_n C rd_Md_isWholeFrom_7 (k := 0) rfl ?_
        refine jk_iload_n C rd_Md_isWholeFrom_8 (k := 2) rfl ?_
        obtain ⟨q9, hq9, hf⟩ := jk_bind_h hf
        refine jk_callVi C hZ.1 hz (ct_Md_isNibbled l D Z sq hZ cI cR a_t a_t_w a_t_wKept a_t_saved a_t_past a_t_input a_t_n a_t_order a_t_numbers a_t_output i_t_pastMany i_t_isSaved i_t_thrown i_t_inputMany i_t_lastError i_t_lastOffset i_t_error i_t_offset i_t_nextByte i_t_begin i_t_value i_t_token i_t_got i_t_orders i_t_outputMany i_t_w v3 q9 hq9) tm_1567 tm_1569 sl_74 tm_15 tm_1570 na_Md_isNibbled ⟨Nat.le_of_ble_eq_true rfl, Nat.le_of_ble_eq_true rfl⟩ rfl [0, 1] rfl rfl rfl (ws' := wd_Md_isWholeFrom cI a_t a_t_w a_t_wKept a_t_saved a_t_past a_t_input a_t_n a_t_order a_t_numbers a_t_output i_t_pastMany i_t_isSaved i_t_thrown i_t_inputMany i_t_lastError i_t_lastOffset i_t_error i_t_offset i_t_nextByte i_t_begin i_t_value i_t_token i_t_got i_t_orders i_t_outputMany i_t_w) rfl 0 11 rfl rfl rfl (st := []) rfl (Nat.le_of_ble_eq_true rfl) rd_Md_isWholeFrom_9 ?_ ⟨Nat.le_of_ble_eq_true rfl, Nat.le_of_ble_eq_true rfl⟩
        refine jk_if_eq (tgt := 17) C rd_Md_isWholeFrom_12 (by decide) hf (fun _ hf => ?_) (fun _ hf => ?_)
        · refine jk_iinc C rd_Md_isWholeFrom_17 (k := 2) rfl (by decide) (lv' := [(3, jk_V (v3 + 1)), (0, .ref a_t), (2, jk_V v2)]) rfl ?_
          refine jk_goto (tgt := 2) C rd_Md_isWholeFrom_20 (by decide) ?_
          refine jk_lv (lv' := [(0, .ref a_t), (2, jk_V v2), (3, jk_V (v3 + 1))]) [1, 2, 0] rfl ?_
          exact ih v2 (v3 + 1) hf
        · refine jk_iconst C rd_Md_isWholeFrom_15 ?_
          cases hf
          exact jk_zret C (Or.inl rfl) rfl rd_Md_isWholeFrom_16 rfl
  refine jk_iload_n C rd_Md_isWholeFrom_0 (k := 1) rfl ?_
  refine jk_istore_n C rd_Md_isWholeFrom_1 (by decide) (lv' := [(3, jk_V x1), (0, .ref a_t), (1, jk_V x1), (2, jk_V x2)]) rfl ?_
  refine jk_lv (lv' := [(0, .ref a_t), (2, jk_V x2), (3, jk_V x1)]) [1, 3, 0] rfl ?_
  exact bk_2 jk_F x2 x1 hf
def wd_Md_isWhole (cI : ClassId) (a_t a_t_w a_t_wKept a_t_saved a_t_past a_t_input a_t_n a_t_order a_t_numbers a_t_output : Nat) (i_t_pastMany : Int) (i_t_isSaved : Int) (i_t_thrown : Int) (i_t_inputMany : Int) (i_t_lastError : Int) (i_t_lastOffset : Int) (i_t_error : Int) (i_t_offset : Int) (i_t_nextByte : Int) (i_t_begin : Int) (i_t_value : Int) (i_t_token : Int) (i_t_got : Int) (i_t_orders : Int) (i_t_outputMany : Int) (i_t_w : (Int → Int)) : va_W := [(a_t, .inr (11, [.ref a_t_w, .ref a_t_wKept, .ref a_t_saved, .ref a_t_past, jk_V i_t_pastMany, jk_V i_t_isSaved, jk_V i_t_thrown, .ref a_t_input, jk_V i_t_inputMany, jk_V i_t_lastError, jk_V i_t_lastOffset, jk_V i_t_error, jk_V i_t_offset, jk_V i_t_nextByte, jk_V i_t_begin, jk_V i_t_value, jk_V i_t_token, jk_V i_t_got, .ref a_t_n, .ref a_t_order, .ref a_t_numbers, jk_V i_t_orders, .ref a_t_output, jk_V i_t_outputMany])), (a_t_w, jk_W cI 259 i_t_w)]
set_option maxHeartbeats 4000000 in
set_option maxRecDepth 20000 in
theorem ct_Md_isWhole (l : Launch) (D : va_G) (Z : (Nat → Prop) → State → Heap → Prop) (sq : Nat → Nat) (hZ : jk_ZK Z sq) (cI cR : ClassId) (a_t a_t_w a_t_wKept a_t_saved a_t_past a_t_input a_t_n a_t_order a_t_numbers a_t_output : Nat) (i_t_pastMany : Int) (i_t_isSaved : Int) (i_t_thrown : Int) (i_t_inputMany : Int) (i_t_lastError : Int) (i_t_lastOffset : Int) (i_t_error : Int) (i_t_offset : Int) (i_t_nextByte : Int) (i_t_begin : Int) (i_t_value : Int) (i_t_token : Int) (i_t_got : Int) (i_t_orders : Int) (i_t_outputMany : Int) (i_t_w : (Int → Int)) (x1 : Int) (q : Int) (hf : fn_Md_isWhole i_t_w x1 = some q) : jk_MI l D jk_cl (jk_ty cI cR) Z mn_Md_isWhole (.code mn_Md_isWhole mb_Md_isWhole 2 (some .boolean) :: jk_WA) (jk_rm 3 66) [.ref a_t, jk_V x1] (wd_Md_isWhole cI a_t a_t_w a_t_wKept a_t_saved a_t_past a_t_input a_t_n a_t_order a_t_numbers a_t_output i_t_pastMany i_t_isSaved i_t_thrown i_t_inputMany i_t_lastError i_t_lastOffset i_t_error i_t_offset i_t_nextByte i_t_begin i_t_value i_t_token i_t_got i_t_orders i_t_outputMany i_t_w) (wd_Md_isWhole cI a_t a_t_w a_t_wKept a_t_saved a_t_past a_t_input a_t_n a_t_order a_t_numbers a_t_output i_t_pastMany i_t_isSaved i_t_thrown i_t_inputMany i_t_lastError i_t_lastOffset i_t_error i_t_offset i_t_nextByte i_t_begin i_t_value i_t_token i_t_got i_t_orders i_t_outputMany i_t_w) q := by
  intro sz
  refine jk_body (by decide +kernel) (fun p e s m args below meth c hsz hz hin C => ?_) (Nat.le_of_ble_eq_true rfl)
  subst hsz
  unfold fn_Md_isWhole at hf
  refine jk_aload_n C rd_Md_isWhole_0 (k := 0) rfl ?_
  refine jk_iload_n C rd_Md_isWhole_1 (k := 1) rfl ?_
  refine jk_aload_n C rd_Md_isWhole_2 (k := 0) rfl ?_
  refine jk_iload_n C rd_Md_isWhole_3 (k := 1) rfl ?_
  obtain ⟨q4, hq4, hf⟩ := jk_bind_h hf
  refine jk_callVi C hZ.1 hz (ct_Md_behind l D Z sq hZ cI cR a_t a_t_w a_t_wKept a_t_saved a_t_past a_t_input a_t_n a_t_order a_t_numbers a_t_output i_t_pastMany i_t_isSaved i_t_thrown i_t_inputMany i_t_lastError i_t_lastOffset i_t_error i_t_offset i_t_nextByte i_t_begin i_t_value i_t_token i_t_got i_t_orders i_t_outputMany i_t_w x1 q4 hq4) tm_1457 tm_1459 sl_50 tm_15 tm_1460 na_Md_behind ⟨Nat.le_of_ble_eq_true rfl, Nat.le_of_ble_eq_true rfl⟩ rfl [0, 1] rfl rfl rfl (ws' := wd_Md_isWhole cI a_t a_t_w a_t_wKept a_t_saved a_t_past a_t_input a_t_n a_t_order a_t_numbers a_t_output i_t_pastMany i_t_isSaved i_t_thrown i_t_inputMany i_t_lastError i_t_lastOffset i_t_error i_t_offset i_t_nextByte i_t_begin i_t_value i_t_token i_t_got i_t_orders i_t_outputMany i_t_w) rfl 0 11 rfl rfl rfl (st := [jk_V x1, .ref a_t]) rfl (Nat.le_of_ble_eq_true rfl) rd_Md_isWhole_4 ?_ ⟨Nat.le_of_ble_eq_true rfl, Nat.le_of_ble_eq_true rfl⟩
  obtain ⟨q7, hq7, hf⟩ := jk_bind_h hf
  refine jk_callVi C hZ.1 hz (ct_Md_isWholeFrom l D Z sq hZ cI cR a_t a_t_w a_t_wKept a_t_saved a_t_past a_t_input a_t_n a_t_order a_t_numbers a_t_output i_t_pastMany i_t_isSaved i_t_thrown i_t_inputMany i_t_lastError i_t_lastOffset i_t_error i_t_offset i_t_nextByte i_t_begin i_t_value i_t_token i_t_got i_t_orders i_t_outputMany i_t_w x1 q4 q7 hq7) tm_1563 tm_1565 sl_73 tm_15 tm_1566 na_Md_isWholeFrom ⟨Nat.le_of_ble_eq_true rfl, Nat.le_of_ble_eq_true rfl⟩ rfl [0, 1] rfl rfl rfl (ws' := wd_Md_isWhole cI a_t a_t_w a_t_wKept a_t_saved a_t_past a_t_input a_t_n a_t_order a_t_numbers a_t_output i_t_pastMany i_t_isSaved i_t_thrown i_t_inputMany i_t_lastError i_t_lastOffset i_t_error i_t_offset i_t_nextByte i_t_begin i_t_value i_t_token i_t_got i_t_orders i_t_outputMany i_t_w) rfl 0 11 rfl rfl rfl (st := []) rfl (Nat.le_of_ble_eq_true rfl) rd_Md_isWhole_7 ?_ ⟨Nat.le_of_ble_eq_true rfl, Nat.le_of_ble_eq_true rfl⟩
  obtain ⟨hbo, hf⟩ := jk_bo_h hf
  cases hf
  exact jk_zret C hbo rfl rd_Md_isWhole_10 rfl
def wd_Md_lowest (cI : ClassId) (a_t a_t_w a_t_wKept a_t_saved a_t_past a_t_input a_t_n a_t_order a_t_numbers a_t_output : Nat) (i_t_pastMany : Int) (i_t_isSaved : Int) (i_t_thrown : Int) (i_t_inputMany : Int) (i_t_lastError : Int) (i_t_lastOffset : Int) (i_t_error : Int) (i_t_offset : Int) (i_t_nextByte : Int) (i_t_begin : Int) (i_t_value : Int) (i_t_token : Int) (i_t_got : Int) (i_t_orders : Int) (i_t_outputMany : Int) (i_t_w : (Int → Int)) : va_W := [(a_t, .inr (11, [.ref a_t_w, .ref a_t_wKept, .ref a_t_saved, .ref a_t_past, jk_V i_t_pastMany, jk_V i_t_isSaved, jk_V i_t_thrown, .ref a_t_input, jk_V i_t_inputMany, jk_V i_t_lastError, jk_V i_t_lastOffset, jk_V i_t_error, jk_V i_t_offset, jk_V i_t_nextByte, jk_V i_t_begin, jk_V i_t_value, jk_V i_t_token, jk_V i_t_got, .ref a_t_n, .ref a_t_order, .ref a_t_numbers, jk_V i_t_orders, .ref a_t_output, jk_V i_t_outputMany])), (a_t_w, jk_W cI 259 i_t_w)]
set_option maxHeartbeats 4000000 in
set_option maxRecDepth 20000 in
theorem ct_Md_lowest (l : Launch) (D : va_G) (Z : (Nat → Prop) → State → Heap → Prop) (sq : Nat → Nat) (hZ : jk_ZK Z sq) (cI cR : ClassId) (a_t a_t_w a_t_wKept a_t_saved a_t_past a_t_input a_t_n a_t_order a_t_numbers a_t_output : Nat) (i_t_pastMany : Int) (i_t_isSaved : Int) (i_t_thrown : Int) (i_t_inputMany : Int) (i_t_lastError : Int) (i_t_lastOffset : Int) (i_t_error : Int) (i_t_offset : Int) (i_t_nextByte : Int) (i_t_begin : Int) (i_t_value : Int) (i_t_token : Int) (i_t_got : Int) (i_t_orders : Int) (i_t_outputMany : Int) (i_t_w : (Int → Int)) (x1 : Int) (q : Int) (hf : fn_Md_lowest i_t_w x1 = some q) : jk_MI l D jk_cl (jk_ty cI cR) Z mn_Md_lowest (.code mn_Md_lowest mb_Md_lowest 4 (some .int) :: jk_WA) (jk_rm 2 44) [.ref a_t, jk_V x1] (wd_Md_lowest cI a_t a_t_w a_t_wKept a_t_saved a_t_past a_t_input a_t_n a_t_order a_t_numbers a_t_output i_t_pastMany i_t_isSaved i_t_thrown i_t_inputMany i_t_lastError i_t_lastOffset i_t_error i_t_offset i_t_nextByte i_t_begin i_t_value i_t_token i_t_got i_t_orders i_t_outputMany i_t_w) (wd_Md_lowest cI a_t a_t_w a_t_wKept a_t_saved a_t_past a_t_input a_t_n a_t_order a_t_numbers a_t_output i_t_pastMany i_t_isSaved i_t_thrown i_t_inputMany i_t_lastError i_t_lastOffset i_t_error i_t_offset i_t_nextByte i_t_begin i_t_value i_t_token i_t_got i_t_orders i_t_outputMany i_t_w) q := by
  intro sz
  refine jk_body (by decide +kernel) (fun p e s m args below meth c hsz hz hin C => ?_) (Nat.le_of_ble_eq_true rfl)
  subst hsz
  unfold fn_Md_lowest at hf
  have bk_4 : ∀ (n : Nat) (v1 : Int) (v2 : Int) (v3 : Int), fn_Md_lowest_b4 n i_t_w v1 v2 v3 = some q → jk_J p l e (jk_rm 2 44) s m args below meth c 0 0 (jk_QI below D jk_cl (jk_ty cI cR) (wd_Md_lowest cI a_t a_t_w a_t_wKept a_t_saved a_t_past a_t_input a_t_n a_t_order a_t_numbers a_t_output i_t_pastMany i_t_isSaved i_t_thrown i_t_inputMany i_t_lastError i_t_lastOffset i_t_error i_t_offset i_t_nextByte i_t_begin i_t_value i_t_token i_t_got i_t_orders i_t_outputMany i_t_w) (wd_Md_lowest cI a_t a_t_w a_t_wKept a_t_saved a_t_past a_t_input a_t_n a_t_order a_t_numbers a_t_output i_t_pastMany i_t_isSaved i_t_thrown i_t_inputMany i_t_lastError i_t_lastOffset i_t_error i_t_offset i_t_nextByte i_t_begin i_t_value i_t_token i_t_got i_t_orders i_t_outputMany i_t_w) args s q) D jk_cl (va_A (wd_Md_lowest cI a_t a_t_w a_t_wKept a_t_saved a_t_past a_t_input a_t_n a_t_order a_t_numbers a_t_output i_t_pastMany i_t_isSaved i_t_thrown i_t_inputMany i_t_lastError i_t_lastOffset i_t_error i_t_offset i_t_nextByte i_t_begin i_t_value i_t_token i_t_got i_t_orders i_t_outputMany i_t_w) s.heap.size) 4 (wd_Md_lowest cI a_t a_t_w a_t_wKept a_t_saved a_t_past a_t_input a_t_n a_t_order a_t_numbers a_t_output i_t_pastMany i_t_isSaved i_t_thrown i_t_inputMany i_t_lastError i_t_lastOffset i_t_error i_t_offset i_t_nextByte i_t_begin i_t_value i_t_token i_t_got i_t_orders i_t_outputMany i_t_w) [(0, .ref a_t), (1, jk_V v1), (2, jk_V v2), (3, jk_V v3)] 4 [] := by
    intro n
    induction n with
    | zero => intro v1 v2 v3 hf; exact nomatch (show none = some q from hf)
    | succ n ih =>
      intro v1 v2 v3 hf
      rw [fn_Md_lowest_b4] at hf
      refine jk_iload_n C rd_Md_lowest_4 (k := 3) rfl ?_
      refine jk_aload_n C rd_Md_lowest_5 (k := 0) rfl ?_
      refine jk_iload_n C rd_Md_lowest_6 (k := 1) rfl ?_
      obtain ⟨q7, hq7, hf⟩ := jk_bind_h hf
      refine jk_callVi C hZ.1 hz (ct_Md_behind l D Z sq hZ cI cR a_t a_t_w a_t_wKept a_t_saved a_t_past a_t_input a_t_n a_t_order a_t_numbers a_t_output i_t_pastMany i_t_isSaved i_t_thrown i_t_inputMany i_t_lastError i_t_lastOffset i_t_error i_t_offset i_t_nextByte i_t_begin i_t_value i_t_token i_t_got i_t_orders i_t_outputMany i_t_w v1 q7 hq7) tm_1457 tm_1459 sl_50 tm_15 tm_1460 na_Md_behind ⟨Nat.le_of_ble_eq_true rfl, Nat.le_of_ble_eq_true rfl⟩ rfl [0, 1] rfl rfl rfl (ws' := wd_Md_lowest cI a_t a_t_w a_t_wKept a_t_saved a_t_past a_t_input a_t_n a_t_order a_t_numbers a_t_output i_t_pastMany i_t_isSaved i_t_thrown i_t_inputMany i_t_lastError i_t_lastOffset i_t_error i_t_offset i_t_nextByte i_t_begin i_t_value i_t_token i_t_got i_t_orders i_t_outputMany i_t_w) rfl 0 11 rfl rfl rfl (st := [jk_V v3]) rfl (Nat.le_of_ble_eq_true rfl) rd_Md_lowest_7 ?_ ⟨Nat.le_of_ble_eq_true rfl, Nat.le_of_ble_eq_true rfl⟩
      refine jk_icmp_ge (tgt := 28) C rd_Md_lowest_10 (by decide) hf (fun _ hf => ?_) (fun _ hf => ?_)
      · refine jk_iload_n C rd_Md_lowest_28 (k := 2) rfl ?_
        cases hf
        exact jk_iret C rfl rd_Md_lowest_29 rfl
      · refine jk_iload_n C rd_Md_lowest_13 (k := 2) rfl ?_
        refine jk_aload_n C rd_Md_lowest_14 (k := 0) rfl ?_
        refine jk_iload_n C rd_Md_lowest_15 (k := 3) rfl ?_
        refine jk_iconst C rd_Md_lowest_16 ?_
        obtain ⟨q17, hq17, hf⟩ := jk_bind_h hf
        refine jk_callVi C hZ.1 hz (ct_Md_of l D Z sq hZ cI cR a_t a_t_w a_t_wKept a_t_saved a_t_past a_t_input a_t_n a_t_order a_t_numbers a_t_output i_t_pastMany i_t_isSaved i_t_thrown i_t_inputMany i_t_lastError i_t_lastOffset i_t_error i_t_offset i_t_nextByte i_t_begin i_t_value i_t_token i_t_got i_t_orders i_t_outputMany i_t_w v3 3 q17 hq17) tm_1256 tm_1258 sl_26 tm_15 tm_1259 na_Md_of ⟨Nat.le_of_ble_eq_true rfl, Nat.le_of_ble_eq_true rfl⟩ rfl [0, 1] rfl rfl rfl (ws' := wd_Md_lowest cI a_t a_t_w a_t_wKept a_t_saved a_t_past a_t_input a_t_n a_t_order a_t_numbers a_t_output i_t_pastMany i_t_isSaved i_t_thrown i_t_inputMany i_t_lastError i_t_lastOffset i_t_error i_t_offset i_t_nextByte i_t_begin i_t_value i_t_token i_t_got i_t_orders i_t_outputMany i_t_w) rfl 0 11 rfl rfl rfl (st := [jk_V v2]) rfl (Nat.le_of_ble_eq_true rfl) rd_Md_lowest_17 ?_ ⟨Nat.le_of_ble_eq_true rfl, Nat.le_of_ble_eq_true rfl⟩
        refine jk_iadd C rd_Md_lowest_20 ?_
        refine jk_istore_n C rd_Md_lowest_21 (by decide) (lv' := [(2, jk_V (v2 + q17)), (0, .ref a_t), (1, jk_V v1), (3, jk_V v3)]) rfl ?_
        refine jk_iinc C rd_Md_lowest_22 (k := 3) rfl (by decide) (lv' := [(3, jk_V (v3 + 1)), (2, jk_V (v2 + q17)), (0, .ref a_t), (1, jk_V v1)]) rfl ?_
        refine jk_goto (tgt := 4) C rd_Md_lowest_25 (by decide) ?_
        refine jk_lv (lv' := [(0, .ref a_t), (1, jk_V v1), (2, jk_V (v2 + q17)), (3, jk_V (v3 + 1))]) [2, 3, 1, 0] rfl ?_
        exact ih v1 (v2 + q17) (v3 + 1) hf
  refine jk_iconst C rd_Md_lowest_0 ?_
  refine jk_istore_n C rd_Md_lowest_1 (by decide) (lv' := [(2, jk_V 0), (0, .ref a_t), (1, jk_V x1)]) rfl ?_
  refine jk_iload_n C rd_Md_lowest_2 (k := 2) rfl ?_
  refine jk_istore_n C rd_Md_lowest_3 (by decide) (lv' := [(3, jk_V x1), (2, jk_V 0), (0, .ref a_t), (1, jk_V x1)]) rfl ?_
  refine jk_lv (lv' := [(0, .ref a_t), (1, jk_V x1), (2, jk_V 0), (3, jk_V x1)]) [2, 3, 1, 0] rfl ?_
  exact bk_4 jk_F x1 0 x1 hf
def wd_Md_highest (cI : ClassId) (a_t a_t_w a_t_wKept a_t_saved a_t_past a_t_input a_t_n a_t_order a_t_numbers a_t_output : Nat) (i_t_pastMany : Int) (i_t_isSaved : Int) (i_t_thrown : Int) (i_t_inputMany : Int) (i_t_lastError : Int) (i_t_lastOffset : Int) (i_t_error : Int) (i_t_offset : Int) (i_t_nextByte : Int) (i_t_begin : Int) (i_t_value : Int) (i_t_token : Int) (i_t_got : Int) (i_t_orders : Int) (i_t_outputMany : Int) (i_t_w : (Int → Int)) : va_W := [(a_t, .inr (11, [.ref a_t_w, .ref a_t_wKept, .ref a_t_saved, .ref a_t_past, jk_V i_t_pastMany, jk_V i_t_isSaved, jk_V i_t_thrown, .ref a_t_input, jk_V i_t_inputMany, jk_V i_t_lastError, jk_V i_t_lastOffset, jk_V i_t_error, jk_V i_t_offset, jk_V i_t_nextByte, jk_V i_t_begin, jk_V i_t_value, jk_V i_t_token, jk_V i_t_got, .ref a_t_n, .ref a_t_order, .ref a_t_numbers, jk_V i_t_orders, .ref a_t_output, jk_V i_t_outputMany])), (a_t_w, jk_W cI 259 i_t_w)]
set_option maxHeartbeats 4000000 in
set_option maxRecDepth 20000 in
theorem ct_Md_highest (l : Launch) (D : va_G) (Z : (Nat → Prop) → State → Heap → Prop) (sq : Nat → Nat) (hZ : jk_ZK Z sq) (cI cR : ClassId) (a_t a_t_w a_t_wKept a_t_saved a_t_past a_t_input a_t_n a_t_order a_t_numbers a_t_output : Nat) (i_t_pastMany : Int) (i_t_isSaved : Int) (i_t_thrown : Int) (i_t_inputMany : Int) (i_t_lastError : Int) (i_t_lastOffset : Int) (i_t_error : Int) (i_t_offset : Int) (i_t_nextByte : Int) (i_t_begin : Int) (i_t_value : Int) (i_t_token : Int) (i_t_got : Int) (i_t_orders : Int) (i_t_outputMany : Int) (i_t_w : (Int → Int)) (x1 : Int) (q : Int) (hf : fn_Md_highest i_t_w x1 = some q) : jk_MI l D jk_cl (jk_ty cI cR) Z mn_Md_highest (.code mn_Md_highest mb_Md_highest 4 (some .int) :: jk_WA) (jk_rm 2 44) [.ref a_t, jk_V x1] (wd_Md_highest cI a_t a_t_w a_t_wKept a_t_saved a_t_past a_t_input a_t_n a_t_order a_t_numbers a_t_output i_t_pastMany i_t_isSaved i_t_thrown i_t_inputMany i_t_lastError i_t_lastOffset i_t_error i_t_offset i_t_nextByte i_t_begin i_t_value i_t_token i_t_got i_t_orders i_t_outputMany i_t_w) (wd_Md_highest cI a_t a_t_w a_t_wKept a_t_saved a_t_past a_t_input a_t_n a_t_order a_t_numbers a_t_output i_t_pastMany i_t_isSaved i_t_thrown i_t_inputMany i_t_lastError i_t_lastOffset i_t_error i_t_offset i_t_nextByte i_t_begin i_t_value i_t_token i_t_got i_t_orders i_t_outputMany i_t_w) q := by
  intro sz
  refine jk_body (by decide +kernel) (fun p e s m args below meth c hsz hz hin C => ?_) (Nat.le_of_ble_eq_true rfl)
  subst hsz
  unfold fn_Md_highest at hf
  have bk_4 : ∀ (n : Nat) (v1 : Int) (v2 : Int) (v3 : Int), fn_Md_highest_b4 n i_t_w v1 v2 v3 = some q → jk_J p l e (jk_rm 2 44) s m args below meth c 0 0 (jk_QI below D jk_cl (jk_ty cI cR) (wd_Md_highest cI a_t a_t_w a_t_wKept a_t_saved a_t_past a_t_input a_t_n a_t_order a_t_numbers a_t_output i_t_pastMany i_t_isSaved i_t_thrown i_t_inputMany i_t_lastError i_t_lastOffset i_t_error i_t_offset i_t_nextByte i_t_begin i_t_value i_t_token i_t_got i_t_orders i_t_outputMany i_t_w) (wd_Md_highest cI a_t a_t_w a_t_wKept a_t_saved a_t_past a_t_input a_t_n a_t_order a_t_numbers a_t_output i_t_pastMany i_t_isSaved i_t_thrown i_t_inputMany i_t_lastError i_t_lastOffset i_t_error i_t_offset i_t_nextByte i_t_begin i_t_value i_t_token i_t_got i_t_orders i_t_outputMany i_t_w) args s q) D jk_cl (va_A (wd_Md_highest cI a_t a_t_w a_t_wKept a_t_saved a_t_past a_t_input a_t_n a_t_order a_t_numbers a_t_output i_t_pastMany i_t_isSaved i_t_thrown i_t_inputMany i_t_lastError i_t_lastOffset i_t_error i_t_offset i_t_nextByte i_t_begin i_t_value i_t_token i_t_got i_t_orders i_t_outputMany i_t_w) s.heap.size) 4 (wd_Md_highest cI a_t a_t_w a_t_wKept a_t_saved a_t_past a_t_input a_t_n a_t_order a_t_numbers a_t_output i_t_pastMany i_t_isSaved i_t_thrown i_t_inputMany i_t_lastError i_t_lastOffset i_t_error i_t_offset i_t_nextByte i_t_begin i_t_value i_t_token i_t_got i_t_orders i_t_outputMany i_t_w) [(0, .ref a_t), (1, jk_V v1), (2, jk_V v2), (3, jk_V v3)] 4 [] := by
    intro n
    induction n with
    | zero => intro v1 v2 v3 hf; exact nomatch (show none = some q from hf)
    | succ n ih =>
      intro v1 v2 v3 hf
      rw [fn_Md_highest_b4] at hf
      refine jk_iload_n C rd_Md_highest_4 (k := 3) rfl ?_
      refine jk_aload_n C rd_Md_highest_5 (k := 0) rfl ?_
      refine jk_iload_n C rd_Md_highest_6 (k := 1) rfl ?_
      obtain ⟨q7, hq7, hf⟩ := jk_bind_h hf
      refine jk_callVi C hZ.1 hz (ct_Md_behind l D Z sq hZ cI cR a_t a_t_w a_t_wKept a_t_saved a_t_past a_t_input a_t_n a_t_order a_t_numbers a_t_output i_t_pastMany i_t_isSaved i_t_thrown i_t_inputMany i_t_lastError i_t_lastOffset i_t_error i_t_offset i_t_nextByte i_t_begin i_t_value i_t_token i_t_got i_t_orders i_t_outputMany i_t_w v1 q7 hq7) tm_1457 tm_1459 sl_50 tm_15 tm_1460 na_Md_behind ⟨Nat.le_of_ble_eq_true rfl, Nat.le_of_ble_eq_true rfl⟩ rfl [0, 1] rfl rfl rfl (ws' := wd_Md_highest cI a_t a_t_w a_t_wKept a_t_saved a_t_past a_t_input a_t_n a_t_order a_t_numbers a_t_output i_t_pastMany i_t_isSaved i_t_thrown i_t_inputMany i_t_lastError i_t_lastOffset i_t_error i_t_offset i_t_nextByte i_t_begin i_t_value i_t_token i_t_got i_t_orders i_t_outputMany i_t_w) rfl 0 11 rfl rfl rfl (st := [jk_V v3]) rfl (Nat.le_of_ble_eq_true rfl) rd_Md_highest_7 ?_ ⟨Nat.le_of_ble_eq_true rfl, Nat.le_of_ble_eq_true rfl⟩
      refine jk_icmp_ge (tgt := 40) C rd_Md_highest_10 (by decide) hf (fun _ hf => ?_) (fun _ hf => ?_)
      · refine jk_iload_n C rd_Md_highest_40 (k := 2) rfl ?_
        cases hf
        exact jk_iret C rfl rd_Md_highest_41 rfl
      · refine jk_iload_n C rd_Md_highest_13 (k := 2) rfl ?_
        refine jk_aload_n C rd_Md_highest_14 (k := 0) rfl ?_
        refine jk_iload_n C rd_Md_highest_15 (k := 3) rfl ?_
        refine jk_iconst C rd_Md_highest_16 ?_
        obtain ⟨q17, hq17, hf⟩ := jk_bind_h hf
        refine jk_callVi C hZ.1 hz (ct_Md_of l D Z sq hZ cI cR a_t a_t_w a_t_wKept a_t_saved a_t_past a_t_input a_t_n a_t_order a_t_numbers a_t_output i_t_pastMany i_t_isSaved i_t_thrown i_t_inputMany i_t_lastError i_t_lastOffset i_t_error i_t_offset i_t_nextByte i_t_begin i_t_value i_t_token i_t_got i_t_orders i_t_outputMany i_t_w v3 3 q17 hq17) tm_1256 tm_1258 sl_26 tm_15 tm_1259 na_Md_of ⟨Nat.le_of_ble_eq_true rfl, Nat.le_of_ble_eq_true rfl⟩ rfl [0, 1] rfl rfl rfl (ws' := wd_Md_highest cI a_t a_t_w a_t_wKept a_t_saved a_t_past a_t_input a_t_n a_t_order a_t_numbers a_t_output i_t_pastMany i_t_isSaved i_t_thrown i_t_inputMany i_t_lastError i_t_lastOffset i_t_error i_t_offset i_t_nextByte i_t_begin i_t_value i_t_token i_t_got i_t_orders i_t_outputMany i_t_w) rfl 0 11 rfl rfl rfl (st := [jk_V v2]) rfl (Nat.le_of_ble_eq_true rfl) rd_Md_highest_17 ?_ ⟨Nat.le_of_ble_eq_true rfl, Nat.le_of_ble_eq_true rfl⟩
        refine jk_aload_n C rd_Md_highest_20 (k := 0) rfl ?_
        refine jk_iload_n C rd_Md_highest_21 (k := 3) rfl ?_
        refine jk_iconst C rd_Md_highest_22 ?_
        obtain ⟨q23, hq23, hf⟩ := jk_bind_h hf
        refine jk_callVi C hZ.1 hz (ct_Md_of l D Z sq hZ cI cR a_t a_t_w a_t_wKept a_t_saved a_t_past a_t_input a_t_n a_t_order a_t_numbers a_t_output i_t_pastMany i_t_isSaved i_t_thrown i_t_inputMany i_t_lastError i_t_lastOffset i_t_error i_t_offset i_t_nextByte i_t_begin i_t_value i_t_token i_t_got i_t_orders i_t_outputMany i_t_w v3 4 q23 hq23) tm_1256 tm_1258 sl_26 tm_15 tm_1259 na_Md_of ⟨Nat.le_of_ble_eq_true rfl, Nat.le_of_ble_eq_true rfl⟩ rfl [0, 1] rfl rfl rfl (ws' := wd_Md_highest cI a_t a_t_w a_t_wKept a_t_saved a_t_past a_t_input a_t_n a_t_order a_t_numbers a_t_output i_t_pastMany i_t_isSaved i_t_thrown i_t_inputMany i_t_lastError i_t_lastOffset i_t_error i_t_offset i_t_nextByte i_t_begin i_t_value i_t_token i_t_got i_t_orders i_t_outputMany i_t_w) rfl 0 11 rfl rfl rfl (st := [jk_V q17, jk_V v2]) rfl (Nat.le_of_ble_eq_true rfl) rd_Md_highest_23 ?_ ⟨Nat.le_of_ble_eq_true rfl, Nat.le_of_ble_eq_true rfl⟩
        obtain ⟨q26, hq26, hf⟩ := jk_bind_h hf
        refine jk_callSi C hZ.1 hz (ct_Md_power l D Z sq hZ cI cR q23 q26 hq26) tm_1260 tm_1261 tm_15 tm_1262 na_Md_power ⟨Nat.le_of_ble_eq_true rfl, Nat.le_of_ble_eq_true rfl⟩ rfl [] rfl rfl rfl (ws' := wd_Md_highest cI a_t a_t_w a_t_wKept a_t_saved a_t_past a_t_input a_t_n a_t_order a_t_numbers a_t_output i_t_pastMany i_t_isSaved i_t_thrown i_t_inputMany i_t_lastError i_t_lastOffset i_t_error i_t_offset i_t_nextByte i_t_begin i_t_value i_t_token i_t_got i_t_orders i_t_outputMany i_t_w) rfl (st := [jk_V q17, jk_V v2]) rfl (Nat.le_of_ble_eq_true rfl) rd_Md_highest_26 ?_ ⟨Nat.le_of_ble_eq_true rfl, Nat.le_of_ble_eq_true rfl⟩
        refine jk_iadd C rd_Md_highest_29 ?_
        refine jk_iconst C rd_Md_highest_30 ?_
        refine jk_isub C rd_Md_highest_31 ?_
        refine jk_iadd C rd_Md_highest_32 ?_
        refine jk_istore_n C rd_Md_highest_33 (by decide) (lv' := [(2, jk_V (v2 + ((q17 + q26) - 1))), (0, .ref a_t), (1, jk_V v1), (3, jk_V v3)]) rfl ?_
        refine jk_iinc C rd_Md_highest_34 (k := 3) rfl (by decide) (lv' := [(3, jk_V (v3 + 1)), (2, jk_V (v2 + ((q17 + q26) - 1))), (0, .ref a_t), (1, jk_V v1)]) rfl ?_
        refine jk_goto (tgt := 4) C rd_Md_highest_37 (by decide) ?_
        refine jk_lv (lv' := [(0, .ref a_t), (1, jk_V v1), (2, jk_V (v2 + ((q17 + q26) - 1))), (3, jk_V (v3 + 1))]) [2, 3, 1, 0] rfl ?_
        exact ih v1 (v2 + ((q17 + q26) - 1)) (v3 + 1) hf
  refine jk_iconst C rd_Md_highest_0 ?_
  refine jk_istore_n C rd_Md_highest_1 (by decide) (lv' := [(2, jk_V 0), (0, .ref a_t), (1, jk_V x1)]) rfl ?_
  refine jk_iload_n C rd_Md_highest_2 (k := 2) rfl ?_
  refine jk_istore_n C rd_Md_highest_3 (by decide) (lv' := [(3, jk_V x1), (2, jk_V 0), (0, .ref a_t), (1, jk_V x1)]) rfl ?_
  refine jk_lv (lv' := [(0, .ref a_t), (1, jk_V x1), (2, jk_V 0), (3, jk_V x1)]) [2, 3, 1, 0] rfl ?_
  exact bk_4 jk_F x1 0 x1 hf
def wd_Md_first (cI : ClassId) (a_t a_t_w a_t_wKept a_t_saved a_t_past a_t_input a_t_n a_t_order a_t_numbers a_t_output : Nat) (i_t_pastMany : Int) (i_t_isSaved : Int) (i_t_thrown : Int) (i_t_inputMany : Int) (i_t_lastError : Int) (i_t_lastOffset : Int) (i_t_error : Int) (i_t_offset : Int) (i_t_nextByte : Int) (i_t_begin : Int) (i_t_value : Int) (i_t_token : Int) (i_t_got : Int) (i_t_orders : Int) (i_t_outputMany : Int) (i_t_w : (Int → Int)) : va_W := [(a_t, .inr (11, [.ref a_t_w, .ref a_t_wKept, .ref a_t_saved, .ref a_t_past, jk_V i_t_pastMany, jk_V i_t_isSaved, jk_V i_t_thrown, .ref a_t_input, jk_V i_t_inputMany, jk_V i_t_lastError, jk_V i_t_lastOffset, jk_V i_t_error, jk_V i_t_offset, jk_V i_t_nextByte, jk_V i_t_begin, jk_V i_t_value, jk_V i_t_token, jk_V i_t_got, .ref a_t_n, .ref a_t_order, .ref a_t_numbers, jk_V i_t_orders, .ref a_t_output, jk_V i_t_outputMany])), (a_t_w, jk_W cI 259 i_t_w)]
set_option maxHeartbeats 4000000 in
set_option maxRecDepth 20000 in
theorem ct_Md_first (l : Launch) (D : va_G) (Z : (Nat → Prop) → State → Heap → Prop) (sq : Nat → Nat) (hZ : jk_ZK Z sq) (cI cR : ClassId) (a_t a_t_w a_t_wKept a_t_saved a_t_past a_t_input a_t_n a_t_order a_t_numbers a_t_output : Nat) (i_t_pastMany : Int) (i_t_isSaved : Int) (i_t_thrown : Int) (i_t_inputMany : Int) (i_t_lastError : Int) (i_t_lastOffset : Int) (i_t_error : Int) (i_t_offset : Int) (i_t_nextByte : Int) (i_t_begin : Int) (i_t_value : Int) (i_t_token : Int) (i_t_got : Int) (i_t_orders : Int) (i_t_outputMany : Int) (i_t_w : (Int → Int)) (x1 : Int) (q : Int) (hf : fn_Md_first i_t_w x1 = some q) : jk_MI l D jk_cl (jk_ty cI cR) Z mn_Md_first (.code mn_Md_first mb_Md_first 3 (some .int) :: jk_WA) (jk_rm 1 22) [.ref a_t, jk_V x1] (wd_Md_first cI a_t a_t_w a_t_wKept a_t_saved a_t_past a_t_input a_t_n a_t_order a_t_numbers a_t_output i_t_pastMany i_t_isSaved i_t_thrown i_t_inputMany i_t_lastError i_t_lastOffset i_t_error i_t_offset i_t_nextByte i_t_begin i_t_value i_t_token i_t_got i_t_orders i_t_outputMany i_t_w) (wd_Md_first cI a_t a_t_w a_t_wKept a_t_saved a_t_past a_t_input a_t_n a_t_order a_t_numbers a_t_output i_t_pastMany i_t_isSaved i_t_thrown i_t_inputMany i_t_lastError i_t_lastOffset i_t_error i_t_offset i_t_nextByte i_t_begin i_t_value i_t_token i_t_got i_t_orders i_t_outputMany i_t_w) q := by
  intro sz
  refine jk_body (by decide +kernel) (fun p e s m args below meth c hsz hz hin C => ?_) (Nat.le_of_ble_eq_true rfl)
  subst hsz
  unfold fn_Md_first at hf
  have bk_2 : ∀ (n : Nat) (v1 : Int) (v2 : Int), fn_Md_first_b2 n i_t_w v1 v2 = some q → jk_J p l e (jk_rm 1 22) s m args below meth c 0 0 (jk_QI below D jk_cl (jk_ty cI cR) (wd_Md_first cI a_t a_t_w a_t_wKept a_t_saved a_t_past a_t_input a_t_n a_t_order a_t_numbers a_t_output i_t_pastMany i_t_isSaved i_t_thrown i_t_inputMany i_t_lastError i_t_lastOffset i_t_error i_t_offset i_t_nextByte i_t_begin i_t_value i_t_token i_t_got i_t_orders i_t_outputMany i_t_w) (wd_Md_first cI a_t a_t_w a_t_wKept a_t_saved a_t_past a_t_input a_t_n a_t_order a_t_numbers a_t_output i_t_pastMany i_t_isSaved i_t_thrown i_t_inputMany i_t_lastError i_t_lastOffset i_t_error i_t_offset i_t_nextByte i_t_begin i_t_value i_t_token i_t_got i_t_orders i_t_outputMany i_t_w) args s q) D jk_cl (va_A (wd_Md_first cI a_t a_t_w a_t_wKept a_t_saved a_t_past a_t_input a_t_n a_t_order a_t_numbers a_t_output i_t_pastMany i_t_isSaved i_t_thrown i_t_inputMany i_t_lastError i_t_lastOffset i_t_error i_t_offset i_t_nextByte i_t_begin i_t_value i_t_token i_t_got i_t_orders i_t_outputMany i_t_w) s.heap.size) 3 (wd_Md_first cI a_t a_t_w a_t_wKept a_t_saved a_t_past a_t_input a_t_n a_t_order a_t_numbers a_t_output i_t_pastMany i_t_isSaved i_t_thrown i_t_inputMany i_t_lastError i_t_lastOffset i_t_error i_t_offset i_t_nextByte i_t_begin i_t_value i_t_token i_t_got i_t_orders i_t_outputMany i_t_w) [(0, .ref a_t), (1, jk_V v1), (2, jk_V v2)] 2 [] := by
    intro n
    induction n with
    | zero => intro v1 v2 hf; exact nomatch (show none = some q from hf)
    | succ n ih =>
      intro v1 v2 hf
      rw [fn_Md_first_b2] at hf
      refine jk_iload_n C rd_Md_first_2 (k := 2) rfl ?_
      refine jk_aload_n C rd_Md_first_3 (k := 0) rfl ?_
      refine jk_get C in_Md (ci := 11) rfl 0 (by decide) tm_1263 0 rfl rfl rd_Md_first_4 ?_
      refine jk_iconst C rd_Md_first_7 ?_
      refine jk_iald C 1 0 rfl rfl (Nat.le_of_ble_eq_true rfl) rd_Md_first_8 hf (fun hf => ?_)
      refine jk_icmp_ge (tgt := 28) C rd_Md_first_9 (by decide) hf (fun _ hf => ?_) (fun _ hf => ?_)
      · refine jk_iload_n C rd_Md_first_28 (k := 2) rfl ?_
        cases hf
        exact jk_iret C rfl rd_Md_first_29 rfl
      · refine jk_aload_n C rd_Md_first_12 (k := 0) rfl ?_
        refine jk_iload_n C rd_Md_first_13 (k := 2) rfl ?_
        refine jk_iconst C rd_Md_first_14 ?_
        obtain ⟨q15, hq15, hf⟩ := jk_bind_h hf
        refine jk_callVi C hZ.1 hz (ct_Md_of l D Z sq hZ cI cR a_t a_t_w a_t_wKept a_t_saved a_t_past a_t_input a_t_n a_t_order a_t_numbers a_t_output i_t_pastMany i_t_isSaved i_t_thrown i_t_inputMany i_t_lastError i_t_lastOffset i_t_error i_t_offset i_t_nextByte i_t_begin i_t_value i_t_token i_t_got i_t_orders i_t_outputMany i_t_w v2 0 q15 hq15) tm_1256 tm_1258 sl_26 tm_15 tm_1259 na_Md_of ⟨Nat.le_of_ble_eq_true rfl, Nat.le_of_ble_eq_true rfl⟩ rfl [0, 1] rfl rfl rfl (ws' := wd_Md_first cI a_t a_t_w a_t_wKept a_t_saved a_t_past a_t_input a_t_n a_t_order a_t_numbers a_t_output i_t_pastMany i_t_isSaved i_t_thrown i_t_inputMany i_t_lastError i_t_lastOffset i_t_error i_t_offset i_t_nextByte i_t_begin i_t_value i_t_token i_t_got i_t_orders i_t_outputMany i_t_w) rfl 0 11 rfl rfl rfl (st := []) rfl (Nat.le_of_ble_eq_true rfl) rd_Md_first_15 ?_ ⟨Nat.le_of_ble_eq_true rfl, Nat.le_of_ble_eq_true rfl⟩
        refine jk_iload_n C rd_Md_first_18 (k := 1) rfl ?_
        refine jk_icmp_ge (tgt := 28) C rd_Md_first_19 (by decide) hf (fun _ hf => ?_) (fun _ hf => ?_)
        · refine jk_iload_n C rd_Md_first_28 (k := 2) rfl ?_
          cases hf
          exact jk_iret C rfl rd_Md_first_29 rfl
        · refine jk_iinc C rd_Md_first_22 (k := 2) rfl (by decide) (lv' := [(2, jk_V (v2 + 1)), (0, .ref a_t), (1, jk_V v1)]) rfl ?_
          refine jk_goto (tgt := 2) C rd_Md_first_25 (by decide) ?_
          refine jk_lv (lv' := [(0, .ref a_t), (1, jk_V v1), (2, jk_V (v2 + 1))]) [1, 2, 0] rfl ?_
          exact ih v1 (v2 + 1) hf
  refine jk_iconst C rd_Md_first_0 ?_
  refine jk_istore_n C rd_Md_first_1 (by decide) (lv' := [(2, jk_V 0), (0, .ref a_t), (1, jk_V x1)]) rfl ?_
  refine jk_lv (lv' := [(0, .ref a_t), (1, jk_V x1), (2, jk_V 0)]) [1, 2, 0] rfl ?_
  exact bk_2 jk_F x1 0 hf
def wd_Md_end (cI : ClassId) (a_t a_t_w a_t_wKept a_t_saved a_t_past a_t_input a_t_n a_t_order a_t_numbers a_t_output : Nat) (i_t_pastMany : Int) (i_t_isSaved : Int) (i_t_thrown : Int) (i_t_inputMany : Int) (i_t_lastError : Int) (i_t_lastOffset : Int) (i_t_error : Int) (i_t_offset : Int) (i_t_nextByte : Int) (i_t_begin : Int) (i_t_value : Int) (i_t_token : Int) (i_t_got : Int) (i_t_orders : Int) (i_t_outputMany : Int) (i_t_w : (Int → Int)) : va_W := [(a_t, .inr (11, [.ref a_t_w, .ref a_t_wKept, .ref a_t_saved, .ref a_t_past, jk_V i_t_pastMany, jk_V i_t_isSaved, jk_V i_t_thrown, .ref a_t_input, jk_V i_t_inputMany, jk_V i_t_lastError, jk_V i_t_lastOffset, jk_V i_t_error, jk_V i_t_offset, jk_V i_t_nextByte, jk_V i_t_begin, jk_V i_t_value, jk_V i_t_token, jk_V i_t_got, .ref a_t_n, .ref a_t_order, .ref a_t_numbers, jk_V i_t_orders, .ref a_t_output, jk_V i_t_outputMany])), (a_t_w, jk_W cI 259 i_t_w)]
set_option maxHeartbeats 4000000 in
set_option maxRecDepth 20000 in
theorem ct_Md_end (l : Launch) (D : va_G) (Z : (Nat → Prop) → State → Heap → Prop) (sq : Nat → Nat) (hZ : jk_ZK Z sq) (cI cR : ClassId) (a_t a_t_w a_t_wKept a_t_saved a_t_past a_t_input a_t_n a_t_order a_t_numbers a_t_output : Nat) (i_t_pastMany : Int) (i_t_isSaved : Int) (i_t_thrown : Int) (i_t_inputMany : Int) (i_t_lastError : Int) (i_t_lastOffset : Int) (i_t_error : Int) (i_t_offset : Int) (i_t_nextByte : Int) (i_t_begin : Int) (i_t_value : Int) (i_t_token : Int) (i_t_got : Int) (i_t_orders : Int) (i_t_outputMany : Int) (i_t_w : (Int → Int)) (x1 : Int) (q : Int) (hf : fn_Md_end i_t_w x1 = some q) : jk_MI l D jk_cl (jk_ty cI cR) Z mn_Md_end (.code mn_Md_end mb_Md_end 2 (some .int) :: jk_WA) (jk_rm 2 44) [.ref a_t, jk_V x1] (wd_Md_end cI a_t a_t_w a_t_wKept a_t_saved a_t_past a_t_input a_t_n a_t_order a_t_numbers a_t_output i_t_pastMany i_t_isSaved i_t_thrown i_t_inputMany i_t_lastError i_t_lastOffset i_t_error i_t_offset i_t_nextByte i_t_begin i_t_value i_t_token i_t_got i_t_orders i_t_outputMany i_t_w) (wd_Md_end cI a_t a_t_w a_t_wKept a_t_saved a_t_past a_t_input a_t_n a_t_order a_t_numbers a_t_output i_t_pastMany i_t_isSaved i_t_thrown i_t_inputMany i_t_lastError i_t_lastOffset i_t_error i_t_offset i_t_nextByte i_t_begin i_t_value i_t_token i_t_got i_t_orders i_t_outputMany i_t_w) q := by
  intro sz
  refine jk_body (by decide +kernel) (fun p e s m args below meth c hsz hz hin C => ?_) (Nat.le_of_ble_eq_true rfl)
  subst hsz
  unfold fn_Md_end at hf
  refine jk_aload_n C rd_Md_end_0 (k := 0) rfl ?_
  refine jk_iload_n C rd_Md_end_1 (k := 1) rfl ?_
  refine jk_iconst C rd_Md_end_2 ?_
  refine jk_iadd C rd_Md_end_3 ?_
  obtain ⟨q4, hq4, hf⟩ := jk_bind_h hf
  refine jk_callVi C hZ.1 hz (ct_Md_first l D Z sq hZ cI cR a_t a_t_w a_t_wKept a_t_saved a_t_past a_t_input a_t_n a_t_order a_t_numbers a_t_output i_t_pastMany i_t_isSaved i_t_thrown i_t_inputMany i_t_lastError i_t_lastOffset i_t_error i_t_offset i_t_nextByte i_t_begin i_t_value i_t_token i_t_got i_t_orders i_t_outputMany i_t_w (x1 + 1) q4 hq4) tm_1433 tm_1435 sl_44 tm_15 tm_1436 na_Md_first ⟨Nat.le_of_ble_eq_true rfl, Nat.le_of_ble_eq_true rfl⟩ rfl [0, 1] rfl rfl rfl (ws' := wd_Md_end cI a_t a_t_w a_t_wKept a_t_saved a_t_past a_t_input a_t_n a_t_order a_t_numbers a_t_output i_t_pastMany i_t_isSaved i_t_thrown i_t_inputMany i_t_lastError i_t_lastOffset i_t_error i_t_offset i_t_nextByte i_t_begin i_t_value i_t_token i_t_got i_t_orders i_t_outputMany i_t_w) rfl 0 11 rfl rfl rfl (st := []) rfl (Nat.le_of_ble_eq_true rfl) rd_Md_end_4 ?_ ⟨Nat.le_of_ble_eq_true rfl, Nat.le_of_ble_eq_true rfl⟩
  cases hf
  exact jk_iret C rfl rd_Md_end_7 rfl
def wd_Md_hasTop (cI : ClassId) (a_t a_t_w a_t_wKept a_t_saved a_t_past a_t_input a_t_n a_t_order a_t_numbers a_t_output : Nat) (i_t_pastMany : Int) (i_t_isSaved : Int) (i_t_thrown : Int) (i_t_inputMany : Int) (i_t_lastError : Int) (i_t_lastOffset : Int) (i_t_error : Int) (i_t_offset : Int) (i_t_nextByte : Int) (i_t_begin : Int) (i_t_value : Int) (i_t_token : Int) (i_t_got : Int) (i_t_orders : Int) (i_t_outputMany : Int) (i_t_w : (Int → Int)) : va_W := [(a_t, .inr (11, [.ref a_t_w, .ref a_t_wKept, .ref a_t_saved, .ref a_t_past, jk_V i_t_pastMany, jk_V i_t_isSaved, jk_V i_t_thrown, .ref a_t_input, jk_V i_t_inputMany, jk_V i_t_lastError, jk_V i_t_lastOffset, jk_V i_t_error, jk_V i_t_offset, jk_V i_t_nextByte, jk_V i_t_begin, jk_V i_t_value, jk_V i_t_token, jk_V i_t_got, .ref a_t_n, .ref a_t_order, .ref a_t_numbers, jk_V i_t_orders, .ref a_t_output, jk_V i_t_outputMany])), (a_t_w, jk_W cI 259 i_t_w)]
set_option maxHeartbeats 4000000 in
set_option maxRecDepth 20000 in
theorem ct_Md_hasTop (l : Launch) (D : va_G) (Z : (Nat → Prop) → State → Heap → Prop) (sq : Nat → Nat) (hZ : jk_ZK Z sq) (cI cR : ClassId) (a_t a_t_w a_t_wKept a_t_saved a_t_past a_t_input a_t_n a_t_order a_t_numbers a_t_output : Nat) (i_t_pastMany : Int) (i_t_isSaved : Int) (i_t_thrown : Int) (i_t_inputMany : Int) (i_t_lastError : Int) (i_t_lastOffset : Int) (i_t_error : Int) (i_t_offset : Int) (i_t_nextByte : Int) (i_t_begin : Int) (i_t_value : Int) (i_t_token : Int) (i_t_got : Int) (i_t_orders : Int) (i_t_outputMany : Int) (i_t_w : (Int → Int)) (x1 : Int) (q : Int) (hf : fn_Md_hasTop i_t_w x1 = some q) : jk_MI l D jk_cl (jk_ty cI cR) Z mn_Md_hasTop (.code mn_Md_hasTop mb_Md_hasTop 3 (some .boolean) :: jk_WA) (jk_rm 3 65) [.ref a_t, jk_V x1] (wd_Md_hasTop cI a_t a_t_w a_t_wKept a_t_saved a_t_past a_t_input a_t_n a_t_order a_t_numbers a_t_output i_t_pastMany i_t_isSaved i_t_thrown i_t_inputMany i_t_lastError i_t_lastOffset i_t_error i_t_offset i_t_nextByte i_t_begin i_t_value i_t_token i_t_got i_t_orders i_t_outputMany i_t_w) (wd_Md_hasTop cI a_t a_t_w a_t_wKept a_t_saved a_t_past a_t_input a_t_n a_t_order a_t_numbers a_t_output i_t_pastMany i_t_isSaved i_t_thrown i_t_inputMany i_t_lastError i_t_lastOffset i_t_error i_t_offset i_t_nextByte i_t_begin i_t_value i_t_token i_t_got i_t_orders i_t_outputMany i_t_w) q := by
  intro sz
  refine jk_body (by decide +kernel) (fun p e s m args below meth c hsz hz hin C => ?_) (Nat.le_of_ble_eq_true rfl)
  subst hsz
  unfold fn_Md_hasTop at hf
  refine jk_aload_n C rd_Md_hasTop_0 (k := 0) rfl ?_
  refine jk_iload_n C rd_Md_hasTop_1 (k := 1) rfl ?_
  obtain ⟨q2, hq2, hf⟩ := jk_bind_h hf
  refine jk_callVi C hZ.1 hz (ct_Md_first l D Z sq hZ cI cR a_t a_t_w a_t_wKept a_t_saved a_t_past a_t_input a_t_n a_t_order a_t_numbers a_t_output i_t_pastMany i_t_isSaved i_t_thrown i_t_inputMany i_t_lastError i_t_lastOffset i_t_error i_t_offset i_t_nextByte i_t_begin i_t_value i_t_token i_t_got i_t_orders i_t_outputMany i_t_w x1 q2 hq2) tm_1433 tm_1435 sl_44 tm_15 tm_1436 na_Md_first ⟨Nat.le_of_ble_eq_true rfl, Nat.le_of_ble_eq_true rfl⟩ rfl [0, 1] rfl rfl rfl (ws' := wd_Md_hasTop cI a_t a_t_w a_t_wKept a_t_saved a_t_past a_t_input a_t_n a_t_order a_t_numbers a_t_output i_t_pastMany i_t_isSaved i_t_thrown i_t_inputMany i_t_lastError i_t_lastOffset i_t_error i_t_offset i_t_nextByte i_t_begin i_t_value i_t_token i_t_got i_t_orders i_t_outputMany i_t_w) rfl 0 11 rfl rfl rfl (st := []) rfl (Nat.le_of_ble_eq_true rfl) rd_Md_hasTop_2 ?_ ⟨Nat.le_of_ble_eq_true rfl, Nat.le_of_ble_eq_true rfl⟩
  refine jk_istore_n C rd_Md_hasTop_5 (by decide) (lv' := [(2, jk_V q2), (0, .ref a_t), (1, jk_V x1)]) rfl ?_
  refine jk_iload_n C rd_Md_hasTop_6 (k := 0) rfl ?_
  refine jk_aload_n C rd_Md_hasTop_7 (k := 1) rfl ?_
  refine jk_iload_n C rd_Md_hasTop_8 (k := 2) rfl ?_
  obtain ⟨q9, hq9, hf⟩ := jk_bind_h hf
  refine jk_callVi C hZ.1 hz (ct_Md_end l D Z sq hZ cI cR a_t a_t_w a_t_wKept a_t_saved a_t_past a_t_input a_t_n a_t_order a_t_numbers a_t_output i_t_pastMany i_t_isSaved i_t_thrown i_t_inputMany i_t_lastError i_t_lastOffset i_t_error i_t_offset i_t_nextByte i_t_begin i_t_value i_t_token i_t_got i_t_orders i_t_outputMany i_t_w x1 q9 hq9) tm_1437 tm_1439 sl_45 tm_15 tm_1440 na_Md_end ⟨Nat.le_of_ble_eq_true rfl, Nat.le_of_ble_eq_true rfl⟩ rfl [0, 1] rfl rfl rfl (ws' := wd_Md_hasTop cI a_t a_t_w a_t_wKept a_t_saved a_t_past a_t_input a_t_n a_t_order a_t_numbers a_t_output i_t_pastMany i_t_isSaved i_t_thrown i_t_inputMany i_t_lastError i_t_lastOffset i_t_error i_t_offset i_t_nextByte i_t_begin i_t_value i_t_token i_t_got i_t_orders i_t_outputMany i_t_w) rfl 0 11 rfl rfl rfl (st := [jk_V q2]) rfl (Nat.le_of_ble_eq_true rfl) rd_Md_hasTop_9 ?_ ⟨Nat.le_of_ble_eq_true rfl, Nat.le_of_ble_eq_true rfl⟩
  refine jk_icmp_ge (tgt := 28) C rd_Md_hasTop_12 (by decide) hf (fun _ hf => ?_) (fun _ hf => ?_)
  · refine jk_iconst C rd_Md_hasTop_28 ?_
    cases hf
    exact jk_zret C (Or.inl rfl) rfl rd_Md_hasTop_29 rfl
  · refine jk_aload_n C rd_Md_hasTop_15 (k := 1) rfl ?_
    refine jk_iload_n C rd_Md_hasTop_16 (k := 0) rfl ?_
    refine jk_iconst C rd_Md_hasTop_17 ?_
    obtain ⟨q18, hq18, hf⟩ := jk_bind_h hf
    refine jk_callVi C hZ.1 hz (ct_Md_of l D Z sq hZ cI cR a_t a_t_w a_t_wKept a_t_saved a_t_past a_t_input a_t_n a_t_order a_t_numbers a_t_output i_t_pastMany i_t_isSaved i_t_thrown i_t_inputMany i_t_lastError i_t_lastOffset i_t_error i_t_offset i_t_nextByte i_t_begin i_t_value i_t_token i_t_got i_t_orders i_t_outputMany i_t_w q2 1 q18 hq18) tm_1256 tm_1258 sl_26 tm_15 tm_1259 na_Md_of ⟨Nat.le_of_ble_eq_true rfl, Nat.le_of_ble_eq_true rfl⟩ rfl [0, 1] rfl rfl rfl (ws' := wd_Md_hasTop cI a_t a_t_w a_t_wKept a_t_saved a_t_past a_t_input a_t_n a_t_order a_t_numbers a_t_output i_t_pastMany i_t_isSaved i_t_thrown i_t_inputMany i_t_lastError i_t_lastOffset i_t_error i_t_offset i_t_nextByte i_t_begin i_t_value i_t_token i_t_got i_t_orders i_t_outputMany i_t_w) rfl 0 11 rfl rfl rfl (st := []) rfl (Nat.le_of_ble_eq_true rfl) rd_Md_hasTop_18 ?_ ⟨Nat.le_of_ble_eq_true rfl, Nat.le_of_ble_eq_true rfl⟩
    refine jk_if_ne (tgt := 28) C rd_Md_hasTop_21 (by decide) hf (fun _ hf => ?_) (fun _ hf => ?_)
    · refine jk_iconst C rd_Md_hasTop_28 ?_
      cases hf
      exact jk_zret C (Or.inl rfl) rfl rd_Md_hasTop_29 rfl
    · refine jk_iconst C rd_Md_hasTop_24 ?_
      refine jk_goto (tgt := 29) C rd_Md_hasTop_25 (by decide) ?_
      cases hf
      exact jk_zret C (Or.inr rfl) rfl rd_Md_hasTop_29 rfl
def wd_Md_pendantsFrom (cI : ClassId) (a_t a_t_w a_t_wKept a_t_saved a_t_past a_t_input a_t_n a_t_order a_t_numbers a_t_output : Nat) (i_t_pastMany : Int) (i_t_isSaved : Int) (i_t_thrown : Int) (i_t_inputMany : Int) (i_t_lastError : Int) (i_t_lastOffset : Int) (i_t_error : Int) (i_t_offset : Int) (i_t_nextByte : Int) (i_t_begin : Int) (i_t_value : Int) (i_t_token : Int) (i_t_got : Int) (i_t_orders : Int) (i_t_outputMany : Int) (i_t_w : (Int → Int)) : va_W := [(a_t, .inr (11, [.ref a_t_w, .ref a_t_wKept, .ref a_t_saved, .ref a_t_past, jk_V i_t_pastMany, jk_V i_t_isSaved, jk_V i_t_thrown, .ref a_t_input, jk_V i_t_inputMany, jk_V i_t_lastError, jk_V i_t_lastOffset, jk_V i_t_error, jk_V i_t_offset, jk_V i_t_nextByte, jk_V i_t_begin, jk_V i_t_value, jk_V i_t_token, jk_V i_t_got, .ref a_t_n, .ref a_t_order, .ref a_t_numbers, jk_V i_t_orders, .ref a_t_output, jk_V i_t_outputMany])), (a_t_w, jk_W cI 259 i_t_w)]
set_option maxHeartbeats 4000000 in
set_option maxRecDepth 20000 in
theorem ct_Md_pendantsFrom (l : Launch) (D : va_G) (Z : (Nat → Prop) → State → Heap → Prop) (sq : Nat → Nat) (hZ : jk_ZK Z sq) (cI cR : ClassId) (a_t a_t_w a_t_wKept a_t_saved a_t_past a_t_input a_t_n a_t_order a_t_numbers a_t_output : Nat) (i_t_pastMany : Int) (i_t_isSaved : Int) (i_t_thrown : Int) (i_t_inputMany : Int) (i_t_lastError : Int) (i_t_lastOffset : Int) (i_t_error : Int) (i_t_offset : Int) (i_t_nextByte : Int) (i_t_begin : Int) (i_t_value : Int) (i_t_token : Int) (i_t_got : Int) (i_t_orders : Int) (i_t_outputMany : Int) (i_t_w : (Int → Int)) (x1 : Int) (q : Int) (hf : fn_Md_pendantsFrom i_t_w x1 = some q) : jk_MI l D jk_cl (jk_ty cI cR) Z mn_Md_pendantsFrom (.code mn_Md_pendantsFrom mb_Md_pendantsFrom 2 (some .int) :: jk_WA) (jk_rm 4 87) [.ref a_t, jk_V x1] (wd_Md_pendantsFrom cI a_t a_t_w a_t_wKept a_t_saved a_t_past a_t_input a_t_n a_t_order a_t_numbers a_t_output i_t_pastMany i_t_isSaved i_t_thrown i_t_inputMany i_t_lastError i_t_lastOffset i_t_error i_t_offset i_t_nextByte i_t_begin i_t_value i_t_token i_t_got i_t_orders i_t_outputMany i_t_w) (wd_Md_pendantsFrom cI a_t a_t_w a_t_wKept a_t_saved a_t_past a_t_input a_t_n a_t_order a_t_numbers a_t_output i_t_pastMany i_t_isSaved i_t_thrown i_t_inputMany i_t_lastError i_t_lastOffset i_t_error i_t_offset i_t_nextByte i_t_begin i_t_value i_t_token i_t_got i_t_orders i_t_outputMany i_t_w) q := by
  intro sz
  refine jk_body (by decide +kernel) (fun p e s m args below meth c hsz hz hin C => ?_) (Nat.le_of_ble_eq_true rfl)
  subst hsz
  unfold fn_Md_pendantsFrom at hf
  refine jk_aload_n C rd_Md_pendantsFrom_0 (k := 0) rfl ?_
  refine jk_iload_n C rd_Md_pendantsFrom_1 (k := 1) rfl ?_
  obtain ⟨q2, hq2, hf⟩ := jk_bind_h hf
  refine jk_callVi C hZ.1 hz (ct_Md_first l D Z sq hZ cI cR a_t a_t_w a_t_wKept a_t_saved a_t_past a_t_input a_t_n a_t_order a_t_numbers a_t_output i_t_pastMany i_t_isSaved i_t_thrown i_t_inputMany i_t_lastError i_t_lastOffset i_t_error i_t_offset i_t_nextByte i_t_begin i_t_value i_t_token i_t_got i_t_orders i_t_outputMany i_t_w x1 q2 hq2) tm_1433 tm_1435 sl_44 tm_15 tm_1436 na_Md_first ⟨Nat.le_of_ble_eq_true rfl, Nat.le_of_ble_eq_true rfl⟩ rfl [0, 1] rfl rfl rfl (ws' := wd_Md_pendantsFrom cI a_t a_t_w a_t_wKept a_t_saved a_t_past a_t_input a_t_n a_t_order a_t_numbers a_t_output i_t_pastMany i_t_isSaved i_t_thrown i_t_inputMany i_t_lastError i_t_lastOffset i_t_error i_t_offset i_t_nextByte i_t_begin i_t_value i_t_token i_t_got i_t_orders i_t_outputMany i_t_w) rfl 0 11 rfl rfl rfl (st := []) rfl (Nat.le_of_ble_eq_true rfl) rd_Md_pendantsFrom_2 ?_ ⟨Nat.le_of_ble_eq_true rfl, Nat.le_of_ble_eq_true rfl⟩
  refine jk_aload_n C rd_Md_pendantsFrom_5 (k := 0) rfl ?_
  refine jk_iload_n C rd_Md_pendantsFrom_6 (k := 1) rfl ?_
  obtain ⟨q7, hq7, hf⟩ := jk_bind_h hf
  refine jk_callVi C hZ.1 hz (ct_Md_hasTop l D Z sq hZ cI cR a_t a_t_w a_t_wKept a_t_saved a_t_past a_t_input a_t_n a_t_order a_t_numbers a_t_output i_t_pastMany i_t_isSaved i_t_thrown i_t_inputMany i_t_lastError i_t_lastOffset i_t_error i_t_offset i_t_nextByte i_t_begin i_t_value i_t_token i_t_got i_t_orders i_t_outputMany i_t_w x1 q7 hq7) tm_1429 tm_1431 sl_43 tm_15 tm_1432 na_Md_hasTop ⟨Nat.le_of_ble_eq_true rfl, Nat.le_of_ble_eq_true rfl⟩ rfl [0, 1] rfl rfl rfl (ws' := wd_Md_pendantsFrom cI a_t a_t_w a_t_wKept a_t_saved a_t_past a_t_input a_t_n a_t_order a_t_numbers a_t_output i_t_pastMany i_t_isSaved i_t_thrown i_t_inputMany i_t_lastError i_t_lastOffset i_t_error i_t_offset i_t_nextByte i_t_begin i_t_value i_t_token i_t_got i_t_orders i_t_outputMany i_t_w) rfl 0 11 rfl rfl rfl (st := [jk_V q2]) rfl (Nat.le_of_ble_eq_true rfl) rd_Md_pendantsFrom_7 ?_ ⟨Nat.le_of_ble_eq_true rfl, Nat.le_of_ble_eq_true rfl⟩
  obtain ⟨q10, hq10, hf⟩ := jk_bind_h hf
  refine jk_callSi C hZ.1 hz (ct_Md_one l D Z sq hZ cI cR q7 q10 hq10) tm_1560 tm_1561 tm_15 tm_1562 na_Md_one ⟨Nat.le_of_ble_eq_true rfl, Nat.le_of_ble_eq_true rfl⟩ rfl [] rfl rfl rfl (ws' := wd_Md_pendantsFrom cI a_t a_t_w a_t_wKept a_t_saved a_t_past a_t_input a_t_n a_t_order a_t_numbers a_t_output i_t_pastMany i_t_isSaved i_t_thrown i_t_inputMany i_t_lastError i_t_lastOffset i_t_error i_t_offset i_t_nextByte i_t_begin i_t_value i_t_token i_t_got i_t_orders i_t_outputMany i_t_w) rfl (st := [jk_V q2]) rfl (Nat.le_of_ble_eq_true rfl) rd_Md_pendantsFrom_10 ?_ ⟨Nat.le_of_ble_eq_true rfl, Nat.le_of_ble_eq_true rfl⟩
  refine jk_iadd C rd_Md_pendantsFrom_13 ?_
  cases hf
  exact jk_iret C rfl rd_Md_pendantsFrom_14 rfl
def wd_Md_pendants (cI : ClassId) (a_t a_t_w a_t_wKept a_t_saved a_t_past a_t_input a_t_n a_t_order a_t_numbers a_t_output : Nat) (i_t_pastMany : Int) (i_t_isSaved : Int) (i_t_thrown : Int) (i_t_inputMany : Int) (i_t_lastError : Int) (i_t_lastOffset : Int) (i_t_error : Int) (i_t_offset : Int) (i_t_nextByte : Int) (i_t_begin : Int) (i_t_value : Int) (i_t_token : Int) (i_t_got : Int) (i_t_orders : Int) (i_t_outputMany : Int) (i_t_w : (Int → Int)) : va_W := [(a_t, .inr (11, [.ref a_t_w, .ref a_t_wKept, .ref a_t_saved, .ref a_t_past, jk_V i_t_pastMany, jk_V i_t_isSaved, jk_V i_t_thrown, .ref a_t_input, jk_V i_t_inputMany, jk_V i_t_lastError, jk_V i_t_lastOffset, jk_V i_t_error, jk_V i_t_offset, jk_V i_t_nextByte, jk_V i_t_begin, jk_V i_t_value, jk_V i_t_token, jk_V i_t_got, .ref a_t_n, .ref a_t_order, .ref a_t_numbers, jk_V i_t_orders, .ref a_t_output, jk_V i_t_outputMany])), (a_t_w, jk_W cI 259 i_t_w)]
set_option maxHeartbeats 4000000 in
set_option maxRecDepth 20000 in
theorem ct_Md_pendants (l : Launch) (D : va_G) (Z : (Nat → Prop) → State → Heap → Prop) (sq : Nat → Nat) (hZ : jk_ZK Z sq) (cI cR : ClassId) (a_t a_t_w a_t_wKept a_t_saved a_t_past a_t_input a_t_n a_t_order a_t_numbers a_t_output : Nat) (i_t_pastMany : Int) (i_t_isSaved : Int) (i_t_thrown : Int) (i_t_inputMany : Int) (i_t_lastError : Int) (i_t_lastOffset : Int) (i_t_error : Int) (i_t_offset : Int) (i_t_nextByte : Int) (i_t_begin : Int) (i_t_value : Int) (i_t_token : Int) (i_t_got : Int) (i_t_orders : Int) (i_t_outputMany : Int) (i_t_w : (Int → Int)) (x1 : Int) (q : Int) (hf : fn_Md_pendants i_t_w x1 = some q) : jk_MI l D jk_cl (jk_ty cI cR) Z mn_Md_pendants (.code mn_Md_pendants mb_Md_pendants 4 (some .int) :: jk_WA) (jk_rm 3 65) [.ref a_t, jk_V x1] (wd_Md_pendants cI a_t a_t_w a_t_wKept a_t_saved a_t_past a_t_input a_t_n a_t_order a_t_numbers a_t_output i_t_pastMany i_t_isSaved i_t_thrown i_t_inputMany i_t_lastError i_t_lastOffset i_t_error i_t_offset i_t_nextByte i_t_begin i_t_value i_t_token i_t_got i_t_orders i_t_outputMany i_t_w) (wd_Md_pendants cI a_t a_t_w a_t_wKept a_t_saved a_t_past a_t_input a_t_n a_t_order a_t_numbers a_t_output i_t_pastMany i_t_isSaved i_t_thrown i_t_inputMany i_t_lastError i_t_lastOffset i_t_error i_t_offset i_t_nextByte i_t_begin i_t_value i_t_token i_t_got i_t_orders i_t_outputMany i_t_w) q := by
  intro sz
  refine jk_body (by decide +kernel) (fun p e s m args below meth c hsz hz hin C => ?_) (Nat.le_of_ble_eq_true rfl)
  subst hsz
  unfold fn_Md_pendants at hf
  have bk_8 : ∀ (n : Nat) (v1 : Int) (v2 : Int) (v3 : Int), fn_Md_pendants_b8 n i_t_w v1 v2 v3 = some q → jk_J p l e (jk_rm 3 65) s m args below meth c 0 0 (jk_QI below D jk_cl (jk_ty cI cR) (wd_Md_pendants cI a_t a_t_w a_t_wKept a_t_saved a_t_past a_t_input a_t_n a_t_order a_t_numbers a_t_output i_t_pastMany i_t_isSaved i_t_thrown i_t_inputMany i_t_lastError i_t_lastOffset i_t_error i_t_offset i_t_nextByte i_t_begin i_t_value i_t_token i_t_got i_t_orders i_t_outputMany i_t_w) (wd_Md_pendants cI a_t a_t_w a_t_wKept a_t_saved a_t_past a_t_input a_t_n a_t_order a_t_numbers a_t_output i_t_pastMany i_t_isSaved i_t_thrown i_t_inputMany i_t_lastError i_t_lastOffset i_t_error i_t_offset i_t_nextByte i_t_begin i_t_value i_t_token i_t_got i_t_orders i_t_outputMany i_t_w) args s q) D jk_cl (va_A (wd_Md_pendants cI a_t a_t_w a_t_wKept a_t_saved a_t_past a_t_input a_t_n a_t_order a_t_numbers a_t_output i_t_pastMany i_t_isSaved i_t_thrown i_t_inputMany i_t_lastError i_t_lastOffset i_t_error i_t_offset i_t_nextByte i_t_begin i_t_value i_t_token i_t_got i_t_orders i_t_outputMany i_t_w) s.heap.size) 4 (wd_Md_pendants cI a_t a_t_w a_t_wKept a_t_saved a_t_past a_t_input a_t_n a_t_order a_t_numbers a_t_output i_t_pastMany i_t_isSaved i_t_thrown i_t_inputMany i_t_lastError i_t_lastOffset i_t_error i_t_offset i_t_nextByte i_t_begin i_t_value i_t_token i_t_got i_t_orders i_t_outputMany i_t_w) [(0, .ref a_t), (1, jk_V v1), (2, jk_V v2), (3, jk_V v3)] 8 [] := by
    intro n
    induction n with
    | zero => intro v1 v2 v3 hf; exact nomatch (show none = some q from hf)
    | succ n ih =>
      intro v1 v2 v3 hf
      rw [fn_Md_pendants_b8] at hf
      refine jk_iload_n C rd_Md_pendants_8 (k := 3) rfl ?_
      refine jk_aload_n C rd_Md_pendants_9 (k := 0) rfl ?_
      refine jk_iload_n C rd_Md_pendants_10 (k := 1) rfl ?_
      obtain ⟨q11, hq11, hf⟩ := jk_bind_h hf
      refine jk_callVi C hZ.1 hz (ct_Md_end l D Z sq hZ cI cR a_t a_t_w a_t_wKept a_t_saved a_t_past a_t_input a_t_n a_t_order a_t_numbers a_t_output i_t_pastMany i_t_isSaved i_t_thrown i_t_inputMany i_t_lastError i_t_lastOffset i_t_error i_t_offset i_t_nextByte i_t_begin i_t_value i_t_token i_t_got i_t_orders i_t_outputMany i_t_w v1 q11 hq11) tm_1437 tm_1439 sl_45 tm_15 tm_1440 na_Md_end ⟨Nat.le_of_ble_eq_true rfl, Nat.le_of_ble_eq_true rfl⟩ rfl [0, 1] rfl rfl rfl (ws' := wd_Md_pendants cI a_t a_t_w a_t_wKept a_t_saved a_t_past a_t_input a_t_n a_t_order a_t_numbers a_t_output i_t_pastMany i_t_isSaved i_t_thrown i_t_inputMany i_t_lastError i_t_lastOffset i_t_error i_t_offset i_t_nextByte i_t_begin i_t_value i_t_token i_t_got i_t_orders i_t_outputMany i_t_w) rfl 0 11 rfl rfl rfl (st := [jk_V v3]) rfl (Nat.le_of_ble_eq_true rfl) rd_Md_pendants_11 ?_ ⟨Nat.le_of_ble_eq_true rfl, Nat.le_of_ble_eq_true rfl⟩
      refine jk_icmp_ge (tgt := 44) C rd_Md_pendants_14 (by decide) hf (fun _ hf => ?_) (fun _ hf => ?_)
      · refine jk_iload_n C rd_Md_pendants_44 (k := 2) rfl ?_
        cases hf
        exact jk_iret C rfl rd_Md_pendants_45 rfl
      · refine jk_iload_n C rd_Md_pendants_17 (k := 2) rfl ?_
        refine jk_aload_n C rd_Md_pendants_18 (k := 0) rfl ?_
        refine jk_iload_n C rd_Md_pendants_19 (k := 3) rfl ?_
        refine jk_iconst C rd_Md_pendants_20 ?_
        obtain ⟨q21, hq21, hf⟩ := jk_bind_h hf
        refine jk_callVi C hZ.1 hz (ct_Md_of l D Z sq hZ cI cR a_t a_t_w a_t_wKept a_t_saved a_t_past a_t_input a_t_n a_t_order a_t_numbers a_t_output i_t_pastMany i_t_isSaved i_t_thrown i_t_inputMany i_t_lastError i_t_lastOffset i_t_error i_t_offset i_t_nextByte i_t_begin i_t_value i_t_token i_t_got i_t_orders i_t_outputMany i_t_w v3 1 q21 hq21) tm_1256 tm_1258 sl_26 tm_15 tm_1259 na_Md_of ⟨Nat.le_of_ble_eq_true rfl, Nat.le_of_ble_eq_true rfl⟩ rfl [0, 1] rfl rfl rfl (ws' := wd_Md_pendants cI a_t a_t_w a_t_wKept a_t_saved a_t_past a_t_input a_t_n a_t_order a_t_numbers a_t_output i_t_pastMany i_t_isSaved i_t_thrown i_t_inputMany i_t_lastError i_t_lastOffset i_t_error i_t_offset i_t_nextByte i_t_begin i_t_value i_t_token i_t_got i_t_orders i_t_outputMany i_t_w) rfl 0 11 rfl rfl rfl (st := [jk_V v2]) rfl (Nat.le_of_ble_eq_true rfl) rd_Md_pendants_21 ?_ ⟨Nat.le_of_ble_eq_true rfl, Nat.le_of_ble_eq_true rfl⟩
        refine jk_iconst C rd_Md_pendants_24 ?_
        refine jk_icmp_ne (tgt := 32) C rd_Md_pendants_25 (by decide) hf (fun _ hf => ?_) (fun _ hf => ?_)
        · refine jk_iconst C rd_Md_pendants_32 ?_
          obtain ⟨q33, hq33, hf⟩ := jk_bind_h hf
          refine jk_callSi C hZ.1 hz (ct_Md_one l D Z sq hZ cI cR 0 q33 hq33) tm_1560 tm_1561 tm_15 tm_1562 na_Md_one ⟨Nat.le_of_ble_eq_true rfl, Nat.le_of_ble_eq_true rfl⟩ rfl [] rfl rfl rfl (ws' := wd_Md_pendants cI a_t a_t_w a_t_wKept a_t_saved a_t_past a_t_input a_t_n a_t_order a_t_numbers a_t_output i_t_pastMany i_t_isSaved i_t_thrown i_t_inputMany i_t_lastError i_t_lastOffset i_t_error i_t_offset i_t_nextByte i_t_begin i_t_value i_t_token i_t_got i_t_orders i_t_outputMany i_t_w) rfl (st := [jk_V v2]) rfl (Nat.le_of_ble_eq_true rfl) rd_Md_pendants_33 ?_ ⟨Nat.le_of_ble_eq_true rfl, Nat.le_of_ble_eq_true rfl⟩
          refine jk_iadd C rd_Md_pendants_36 ?_
          refine jk_istore_n C rd_Md_pendants_37 (by decide) (lv' := [(2, jk_V (v2 + q33)), (0, .ref a_t), (1, jk_V v1), (3, jk_V v3)]) rfl ?_
          refine jk_iinc C rd_Md_pendants_38 (k := 3) rfl (by decide) (lv' := [(3, jk_V (v3 + 1)), (2, jk_V (v2 + q33)), (0, .ref a_t), (1, jk_V v1)]) rfl ?_
          refine jk_goto (tgt := 8) C rd_Md_pendants_41 (by decide) ?_
          refine jk_lv (lv' := [(0, .ref a_t), (1, jk_V v1), (2, jk_V (v2 + q33)), (3, jk_V (v3 + 1))]) [2, 3, 1, 0] rfl ?_
          exact ih v1 (v2 + q33) (v3 + 1) hf
        · refine jk_iconst C rd_Md_pendants_28 ?_
          refine jk_goto (tgt := 33) C rd_Md_pendants_29 (by decide) ?_
          obtain ⟨q33, hq33, hf⟩ := jk_bind_h hf
          refine jk_callSi C hZ.1 hz (ct_Md_one l D Z sq hZ cI cR 1 q33 hq33) tm_1560 tm_1561 tm_15 tm_1562 na_Md_one ⟨Nat.le_of_ble_eq_true rfl, Nat.le_of_ble_eq_true rfl⟩ rfl [] rfl rfl rfl (ws' := wd_Md_pendants cI a_t a_t_w a_t_wKept a_t_saved a_t_past a_t_input a_t_n a_t_order a_t_numbers a_t_output i_t_pastMany i_t_isSaved i_t_thrown i_t_inputMany i_t_lastError i_t_lastOffset i_t_error i_t_offset i_t_nextByte i_t_begin i_t_value i_t_token i_t_got i_t_orders i_t_outputMany i_t_w) rfl (st := [jk_V v2]) rfl (Nat.le_of_ble_eq_true rfl) rd_Md_pendants_33 ?_ ⟨Nat.le_of_ble_eq_true rfl, Nat.le_of_ble_eq_true rfl⟩
          refine jk_iadd C rd_Md_pendants_36 ?_
          refine jk_istore_n C rd_Md_pendants_37 (by decide) (lv' := [(2, jk_V (v2 + q33)), (0, .ref a_t), (1, jk_V v1), (3, jk_V v3)]) rfl ?_
          refine jk_iinc C rd_Md_pendants_38 (k := 3) rfl (by decide) (lv' := [(3, jk_V (v3 + 1)), (2, jk_V (v2 + q33)), (0, .ref a_t), (1, jk_V v1)]) rfl ?_
          refine jk_goto (tgt := 8) C rd_Md_pendants_41 (by decide) ?_
          refine jk_lv (lv' := [(0, .ref a_t), (1, jk_V v1), (2, jk_V (v2 + q33)), (3, jk_V (v3 + 1))]) [2, 3, 1, 0] rfl ?_
          exact ih v1 (v2 + q33) (v3 + 1) hf
  refine jk_iconst C rd_Md_pendants_0 ?_
  refine jk_istore_n C rd_Md_pendants_1 (by decide) (lv' := [(2, jk_V 0), (0, .ref a_t), (1, jk_V x1)]) rfl ?_
  refine jk_aload_n C rd_Md_pendants_2 (k := 1) rfl ?_
  refine jk_iload_n C rd_Md_pendants_3 (k := 2) rfl ?_
  obtain ⟨q4, hq4, hf⟩ := jk_bind_h hf
  refine jk_callVi C hZ.1 hz (ct_Md_first l D Z sq hZ cI cR a_t a_t_w a_t_wKept a_t_saved a_t_past a_t_input a_t_n a_t_order a_t_numbers a_t_output i_t_pastMany i_t_isSaved i_t_thrown i_t_inputMany i_t_lastError i_t_lastOffset i_t_error i_t_offset i_t_nextByte i_t_begin i_t_value i_t_token i_t_got i_t_orders i_t_outputMany i_t_w x1 q4 hq4) tm_1433 tm_1435 sl_44 tm_15 tm_1436 na_Md_first ⟨Nat.le_of_ble_eq_true rfl, Nat.le_of_ble_eq_true rfl⟩ rfl [0, 1] rfl rfl rfl (ws' := wd_Md_pendants cI a_t a_t_w a_t_wKept a_t_saved a_t_past a_t_input a_t_n a_t_order a_t_numbers a_t_output i_t_pastMany i_t_isSaved i_t_thrown i_t_inputMany i_t_lastError i_t_lastOffset i_t_error i_t_offset i_t_nextByte i_t_begin i_t_value i_t_token i_t_got i_t_orders i_t_outputMany i_t_w) rfl 0 11 rfl rfl rfl (st := []) rfl (Nat.le_of_ble_eq_true rfl) rd_Md_pendants_4 ?_ ⟨Nat.le_of_ble_eq_true rfl, Nat.le_of_ble_eq_true rfl⟩
  refine jk_istore_n C rd_Md_pendants_7 (by decide) (lv' := [(3, jk_V q4), (2, jk_V 0), (0, .ref a_t), (1, jk_V x1)]) rfl ?_
  refine jk_lv (lv' := [(0, .ref a_t), (1, jk_V x1), (2, jk_V 0), (3, jk_V q4)]) [2, 3, 1, 0] rfl ?_
  exact bk_8 jk_F x1 0 q4 hf
def wd_Md_knownSum (cI : ClassId) (a_t a_t_w a_t_wKept a_t_saved a_t_past a_t_input a_t_n a_t_order a_t_numbers a_t_output : Nat) (i_t_pastMany : Int) (i_t_isSaved : Int) (i_t_thrown : Int) (i_t_inputMany : Int) (i_t_lastError : Int) (i_t_lastOffset : Int) (i_t_error : Int) (i_t_offset : Int) (i_t_nextByte : Int) (i_t_begin : Int) (i_t_value : Int) (i_t_token : Int) (i_t_got : Int) (i_t_orders : Int) (i_t_outputMany : Int) (i_t_w : (Int → Int)) : va_W := [(a_t, .inr (11, [.ref a_t_w, .ref a_t_wKept, .ref a_t_saved, .ref a_t_past, jk_V i_t_pastMany, jk_V i_t_isSaved, jk_V i_t_thrown, .ref a_t_input, jk_V i_t_inputMany, jk_V i_t_lastError, jk_V i_t_lastOffset, jk_V i_t_error, jk_V i_t_offset, jk_V i_t_nextByte, jk_V i_t_begin, jk_V i_t_value, jk_V i_t_token, jk_V i_t_got, .ref a_t_n, .ref a_t_order, .ref a_t_numbers, jk_V i_t_orders, .ref a_t_output, jk_V i_t_outputMany])), (a_t_w, jk_W cI 259 i_t_w)]
set_option maxHeartbeats 4000000 in
set_option maxRecDepth 20000 in
theorem ct_Md_knownSum (l : Launch) (D : va_G) (Z : (Nat → Prop) → State → Heap → Prop) (sq : Nat → Nat) (hZ : jk_ZK Z sq) (cI cR : ClassId) (a_t a_t_w a_t_wKept a_t_saved a_t_past a_t_input a_t_n a_t_order a_t_numbers a_t_output : Nat) (i_t_pastMany : Int) (i_t_isSaved : Int) (i_t_thrown : Int) (i_t_inputMany : Int) (i_t_lastError : Int) (i_t_lastOffset : Int) (i_t_error : Int) (i_t_offset : Int) (i_t_nextByte : Int) (i_t_begin : Int) (i_t_value : Int) (i_t_token : Int) (i_t_got : Int) (i_t_orders : Int) (i_t_outputMany : Int) (i_t_w : (Int → Int)) (x1 : Int) (q : Int) (hf : fn_Md_knownSum i_t_w x1 = some q) : jk_MI l D jk_cl (jk_ty cI cR) Z mn_Md_knownSum (.code mn_Md_knownSum mb_Md_knownSum 4 (some .int) :: jk_WA) (jk_rm 5 108) [.ref a_t, jk_V x1] (wd_Md_knownSum cI a_t a_t_w a_t_wKept a_t_saved a_t_past a_t_input a_t_n a_t_order a_t_numbers a_t_output i_t_pastMany i_t_isSaved i_t_thrown i_t_inputMany i_t_lastError i_t_lastOffset i_t_error i_t_offset i_t_nextByte i_t_begin i_t_value i_t_token i_t_got i_t_orders i_t_outputMany i_t_w) (wd_Md_knownSum cI a_t a_t_w a_t_wKept a_t_saved a_t_past a_t_input a_t_n a_t_order a_t_numbers a_t_output i_t_pastMany i_t_isSaved i_t_thrown i_t_inputMany i_t_lastError i_t_lastOffset i_t_error i_t_offset i_t_nextByte i_t_begin i_t_value i_t_token i_t_got i_t_orders i_t_outputMany i_t_w) q := by
  intro sz
  refine jk_body (by decide +kernel) (fun p e s m args below meth c hsz hz hin C => ?_) (Nat.le_of_ble_eq_true rfl)
  subst hsz
  unfold fn_Md_knownSum at hf
  have bk_8 : ∀ (n : Nat) (v1 : Int) (v2 : Int) (v3 : Int), fn_Md_knownSum_b8 n i_t_w v1 v2 v3 = some q → jk_J p l e (jk_rm 5 108) s m args below meth c 0 0 (jk_QI below D jk_cl (jk_ty cI cR) (wd_Md_knownSum cI a_t a_t_w a_t_wKept a_t_saved a_t_past a_t_input a_t_n a_t_order a_t_numbers a_t_output i_t_pastMany i_t_isSaved i_t_thrown i_t_inputMany i_t_lastError i_t_lastOffset i_t_error i_t_offset i_t_nextByte i_t_begin i_t_value i_t_token i_t_got i_t_orders i_t_outputMany i_t_w) (wd_Md_knownSum cI a_t a_t_w a_t_wKept a_t_saved a_t_past a_t_input a_t_n a_t_order a_t_numbers a_t_output i_t_pastMany i_t_isSaved i_t_thrown i_t_inputMany i_t_lastError i_t_lastOffset i_t_error i_t_offset i_t_nextByte i_t_begin i_t_value i_t_token i_t_got i_t_orders i_t_outputMany i_t_w) args s q) D jk_cl (va_A (wd_Md_knownSum cI a_t a_t_w a_t_wKept a_t_saved a_t_past a_t_input a_t_n a_t_order a_t_numbers a_t_output i_t_pastMany i_t_isSaved i_t_thrown i_t_inputMany i_t_lastError i_t_lastOffset i_t_error i_t_offset i_t_nextByte i_t_begin i_t_value i_t_token i_t_got i_t_orders i_t_outputMany i_t_w) s.heap.size) 4 (wd_Md_knownSum cI a_t a_t_w a_t_wKept a_t_saved a_t_past a_t_input a_t_n a_t_order a_t_numbers a_t_output i_t_pastMany i_t_isSaved i_t_thrown i_t_inputMany i_t_lastError i_t_lastOffset i_t_error i_t_offset i_t_nextByte i_t_begin i_t_value i_t_token i_t_got i_t_orders i_t_outputMany i_t_w) [(0, .ref a_t), (1, jk_V v1), (2, jk_V v2), (3, jk_V v3)] 8 [] := by
    intro n
    induction n with
    | zero => intro v1 v2 v3 hf; exact nomatch (show none = some q from hf)
    | succ n ih =>
      intro v1 v2 v3 hf
      rw [fn_Md_knownSum_b8] at hf
      refine jk_iload_n C rd_Md_knownSum_8 (k := 3) rfl ?_
      refine jk_aload_n C rd_Md_knownSum_9 (k := 0) rfl ?_
      refine jk_iload_n C rd_Md_knownSum_10 (k := 1) rfl ?_
      obtain ⟨q11, hq11, hf⟩ := jk_bind_h hf
      refine jk_callVi C hZ.1 hz (ct_Md_end l D Z sq hZ cI cR a_t a_t_w a_t_wKept a_t_saved a_t_past a_t_input a_t_n a_t_order a_t_numbers a_t_output i_t_pastMany i_t_isSaved i_t_thrown i_t_inputMany i_t_lastError i_t_lastOffset i_t_error i_t_offset i_t_nextByte i_t_begin i_t_value i_t_token i_t_got i_t_orders i_t_outputMany i_t_w v1 q11 hq11) tm_1437 tm_1439 sl_45 tm_15 tm_1440 na_Md_end ⟨Nat.le_of_ble_eq_true rfl, Nat.le_of_ble_eq_true rfl⟩ rfl [0, 1] rfl rfl rfl (ws' := wd_Md_knownSum cI a_t a_t_w a_t_wKept a_t_saved a_t_past a_t_input a_t_n a_t_order a_t_numbers a_t_output i_t_pastMany i_t_isSaved i_t_thrown i_t_inputMany i_t_lastError i_t_lastOffset i_t_error i_t_offset i_t_nextByte i_t_begin i_t_value i_t_token i_t_got i_t_orders i_t_outputMany i_t_w) rfl 0 11 rfl rfl rfl (st := [jk_V v3]) rfl (Nat.le_of_ble_eq_true rfl) rd_Md_knownSum_11 ?_ ⟨Nat.le_of_ble_eq_true rfl, Nat.le_of_ble_eq_true rfl⟩
      refine jk_icmp_ge (tgt := 32) C rd_Md_knownSum_14 (by decide) hf (fun _ hf => ?_) (fun _ hf => ?_)
      · refine jk_iload_n C rd_Md_knownSum_32 (k := 2) rfl ?_
        cases hf
        exact jk_iret C rfl rd_Md_knownSum_33 rfl
      · refine jk_iload_n C rd_Md_knownSum_17 (k := 2) rfl ?_
        refine jk_aload_n C rd_Md_knownSum_18 (k := 0) rfl ?_
        refine jk_iload_n C rd_Md_knownSum_19 (k := 3) rfl ?_
        refine jk_iconst C rd_Md_knownSum_20 ?_
        obtain ⟨q21, hq21, hf⟩ := jk_bind_h hf
        refine jk_callVi C hZ.1 hz (ct_Md_of l D Z sq hZ cI cR a_t a_t_w a_t_wKept a_t_saved a_t_past a_t_input a_t_n a_t_order a_t_numbers a_t_output i_t_pastMany i_t_isSaved i_t_thrown i_t_inputMany i_t_lastError i_t_lastOffset i_t_error i_t_offset i_t_nextByte i_t_begin i_t_value i_t_token i_t_got i_t_orders i_t_outputMany i_t_w v3 3 q21 hq21) tm_1256 tm_1258 sl_26 tm_15 tm_1259 na_Md_of ⟨Nat.le_of_ble_eq_true rfl, Nat.le_of_ble_eq_true rfl⟩ rfl [0, 1] rfl rfl rfl (ws' := wd_Md_knownSum cI a_t a_t_w a_t_wKept a_t_saved a_t_past a_t_input a_t_n a_t_order a_t_numbers a_t_output i_t_pastMany i_t_isSaved i_t_thrown i_t_inputMany i_t_lastError i_t_lastOffset i_t_error i_t_offset i_t_nextByte i_t_begin i_t_value i_t_token i_t_got i_t_orders i_t_outputMany i_t_w) rfl 0 11 rfl rfl rfl (st := [jk_V v2]) rfl (Nat.le_of_ble_eq_true rfl) rd_Md_knownSum_21 ?_ ⟨Nat.le_of_ble_eq_true rfl, Nat.le_of_ble_eq_true rfl⟩
        refine jk_iadd C rd_Md_knownSum_24 ?_
        refine jk_istore_n C rd_Md_knownSum_25 (by decide) (lv' := [(2, jk_V (v2 + q21)), (0, .ref a_t), (1, jk_V v1), (3, jk_V v3)]) rfl ?_
        refine jk_iinc C rd_Md_knownSum_26 (k := 3) rfl (by decide) (lv' := [(3, jk_V (v3 + 1)), (2, jk_V (v2 + q21)), (0, .ref a_t), (1, jk_V v1)]) rfl ?_
        refine jk_goto (tgt := 8) C rd_Md_knownSum_29 (by decide) ?_
        refine jk_lv (lv' := [(0, .ref a_t), (1, jk_V v1), (2, jk_V (v2 + q21)), (3, jk_V (v3 + 1))]) [2, 3, 1, 0] rfl ?_
        exact ih v1 (v2 + q21) (v3 + 1) hf
  refine jk_iconst C rd_Md_knownSum_0 ?_
  refine jk_istore_n C rd_Md_knownSum_1 (by decide) (lv' := [(2, jk_V 0), (0, .ref a_t), (1, jk_V x1)]) rfl ?_
  refine jk_aload_n C rd_Md_knownSum_2 (k := 1) rfl ?_
  refine jk_iload_n C rd_Md_knownSum_3 (k := 2) rfl ?_
  obtain ⟨q4, hq4, hf⟩ := jk_bind_h hf
  refine jk_callVi C hZ.1 hz (ct_Md_pendantsFrom l D Z sq hZ cI cR a_t a_t_w a_t_wKept a_t_saved a_t_past a_t_input a_t_n a_t_order a_t_numbers a_t_output i_t_pastMany i_t_isSaved i_t_thrown i_t_inputMany i_t_lastError i_t_lastOffset i_t_error i_t_offset i_t_nextByte i_t_begin i_t_value i_t_token i_t_got i_t_orders i_t_outputMany i_t_w x1 q4 hq4) tm_1575 tm_1577 sl_76 tm_15 tm_1578 na_Md_pendantsFrom ⟨Nat.le_of_ble_eq_true rfl, Nat.le_of_ble_eq_true rfl⟩ rfl [0, 1] rfl rfl rfl (ws' := wd_Md_knownSum cI a_t a_t_w a_t_wKept a_t_saved a_t_past a_t_input a_t_n a_t_order a_t_numbers a_t_output i_t_pastMany i_t_isSaved i_t_thrown i_t_inputMany i_t_lastError i_t_lastOffset i_t_error i_t_offset i_t_nextByte i_t_begin i_t_value i_t_token i_t_got i_t_orders i_t_outputMany i_t_w) rfl 0 11 rfl rfl rfl (st := []) rfl (Nat.le_of_ble_eq_true rfl) rd_Md_knownSum_4 ?_ ⟨Nat.le_of_ble_eq_true rfl, Nat.le_of_ble_eq_true rfl⟩
  refine jk_istore_n C rd_Md_knownSum_7 (by decide) (lv' := [(3, jk_V q4), (2, jk_V 0), (0, .ref a_t), (1, jk_V x1)]) rfl ?_
  refine jk_lv (lv' := [(0, .ref a_t), (1, jk_V x1), (2, jk_V 0), (3, jk_V q4)]) [2, 3, 1, 0] rfl ?_
  exact bk_8 jk_F x1 0 q4 hf
def wd_Md_nibbledIn (cI : ClassId) (a_t a_t_w a_t_wKept a_t_saved a_t_past a_t_input a_t_n a_t_order a_t_numbers a_t_output : Nat) (i_t_pastMany : Int) (i_t_isSaved : Int) (i_t_thrown : Int) (i_t_inputMany : Int) (i_t_lastError : Int) (i_t_lastOffset : Int) (i_t_error : Int) (i_t_offset : Int) (i_t_nextByte : Int) (i_t_begin : Int) (i_t_value : Int) (i_t_token : Int) (i_t_got : Int) (i_t_orders : Int) (i_t_outputMany : Int) (i_t_w : (Int → Int)) : va_W := [(a_t, .inr (11, [.ref a_t_w, .ref a_t_wKept, .ref a_t_saved, .ref a_t_past, jk_V i_t_pastMany, jk_V i_t_isSaved, jk_V i_t_thrown, .ref a_t_input, jk_V i_t_inputMany, jk_V i_t_lastError, jk_V i_t_lastOffset, jk_V i_t_error, jk_V i_t_offset, jk_V i_t_nextByte, jk_V i_t_begin, jk_V i_t_value, jk_V i_t_token, jk_V i_t_got, .ref a_t_n, .ref a_t_order, .ref a_t_numbers, jk_V i_t_orders, .ref a_t_output, jk_V i_t_outputMany])), (a_t_w, jk_W cI 259 i_t_w)]
set_option maxHeartbeats 4000000 in
set_option maxRecDepth 20000 in
theorem ct_Md_nibbledIn (l : Launch) (D : va_G) (Z : (Nat → Prop) → State → Heap → Prop) (sq : Nat → Nat) (hZ : jk_ZK Z sq) (cI cR : ClassId) (a_t a_t_w a_t_wKept a_t_saved a_t_past a_t_input a_t_n a_t_order a_t_numbers a_t_output : Nat) (i_t_pastMany : Int) (i_t_isSaved : Int) (i_t_thrown : Int) (i_t_inputMany : Int) (i_t_lastError : Int) (i_t_lastOffset : Int) (i_t_error : Int) (i_t_offset : Int) (i_t_nextByte : Int) (i_t_begin : Int) (i_t_value : Int) (i_t_token : Int) (i_t_got : Int) (i_t_orders : Int) (i_t_outputMany : Int) (i_t_w : (Int → Int)) (x1 : Int) (q : Int) (hf : fn_Md_nibbledIn i_t_w x1 = some q) : jk_MI l D jk_cl (jk_ty cI cR) Z mn_Md_nibbledIn (.code mn_Md_nibbledIn mb_Md_nibbledIn 4 (some .int) :: jk_WA) (jk_rm 3 65) [.ref a_t, jk_V x1] (wd_Md_nibbledIn cI a_t a_t_w a_t_wKept a_t_saved a_t_past a_t_input a_t_n a_t_order a_t_numbers a_t_output i_t_pastMany i_t_isSaved i_t_thrown i_t_inputMany i_t_lastError i_t_lastOffset i_t_error i_t_offset i_t_nextByte i_t_begin i_t_value i_t_token i_t_got i_t_orders i_t_outputMany i_t_w) (wd_Md_nibbledIn cI a_t a_t_w a_t_wKept a_t_saved a_t_past a_t_input a_t_n a_t_order a_t_numbers a_t_output i_t_pastMany i_t_isSaved i_t_thrown i_t_inputMany i_t_lastError i_t_lastOffset i_t_error i_t_offset i_t_nextByte i_t_begin i_t_value i_t_token i_t_got i_t_orders i_t_outputMany i_t_w) q := by
  intro sz
  refine jk_body (by decide +kernel) (fun p e s m args below meth c hsz hz hin C => ?_) (Nat.le_of_ble_eq_true rfl)
  subst hsz
  unfold fn_Md_nibbledIn at hf
  have bk_8 : ∀ (n : Nat) (v1 : Int) (v2 : Int) (v3 : Int), fn_Md_nibbledIn_b8 n i_t_w v1 v2 v3 = some q → jk_J p l e (jk_rm 3 65) s m args below meth c 0 0 (jk_QI below D jk_cl (jk_ty cI cR) (wd_Md_nibbledIn cI a_t a_t_w a_t_wKept a_t_saved a_t_past a_t_input a_t_n a_t_order a_t_numbers a_t_output i_t_pastMany i_t_isSaved i_t_thrown i_t_inputMany i_t_lastError i_t_lastOffset i_t_error i_t_offset i_t_nextByte i_t_begin i_t_value i_t_token i_t_got i_t_orders i_t_outputMany i_t_w) (wd_Md_nibbledIn cI a_t a_t_w a_t_wKept a_t_saved a_t_past a_t_input a_t_n a_t_order a_t_numbers a_t_output i_t_pastMany i_t_isSaved i_t_thrown i_t_inputMany i_t_lastError i_t_lastOffset i_t_error i_t_offset i_t_nextByte i_t_begin i_t_value i_t_token i_t_got i_t_orders i_t_outputMany i_t_w) args s q) D jk_cl (va_A (wd_Md_nibbledIn cI a_t a_t_w a_t_wKept a_t_saved a_t_past a_t_input a_t_n a_t_order a_t_numbers a_t_output i_t_pastMany i_t_isSaved i_t_thrown i_t_inputMany i_t_lastError i_t_lastOffset i_t_error i_t_offset i_t_nextByte i_t_begin i_t_value i_t_token i_t_got i_t_orders i_t_outputMany i_t_w) s.heap.size) 4 (wd_Md_nibbledIn cI a_t a_t_w a_t_wKept a_t_saved a_t_past a_t_input a_t_n a_t_order a_t_numbers a_t_output i_t_pastMany i_t_isSaved i_t_thrown i_t_inputMany i_t_lastError i_t_lastOffset i_t_error i_t_offset i_t_nextByte i_t_begin i_t_value i_t_token i_t_got i_t_orders i_t_outputMany i_t_w) [(0, .ref a_t), (1, jk_V v1), (2, jk_V v2), (3, jk_V v3)] 8 [] := by
    intro n
    induction n with
    | zero => intro v1 v2 v3 hf; exact nomatch (show none = some q from hf)
    | succ n ih =>
      intro v1 v2 v3 hf
      rw [fn_Md_nibbledIn_b8] at hf
      refine jk_iload_n C rd_Md_nibbledIn_8 (k := 3) rfl ?_
      refine jk_aload_n C rd_Md_nibbledIn_9 (k := 0) rfl ?_
      refine jk_iload_n C rd_Md_nibbledIn_10 (k := 1) rfl ?_
      obtain ⟨q11, hq11, hf⟩ := jk_bind_h hf
      refine jk_callVi C hZ.1 hz (ct_Md_end l D Z sq hZ cI cR a_t a_t_w a_t_wKept a_t_saved a_t_past a_t_input a_t_n a_t_order a_t_numbers a_t_output i_t_pastMany i_t_isSaved i_t_thrown i_t_inputMany i_t_lastError i_t_lastOffset i_t_error i_t_offset i_t_nextByte i_t_begin i_t_value i_t_token i_t_got i_t_orders i_t_outputMany i_t_w v1 q11 hq11) tm_1437 tm_1439 sl_45 tm_15 tm_1440 na_Md_end ⟨Nat.le_of_ble_eq_true rfl, Nat.le_of_ble_eq_true rfl⟩ rfl [0, 1] rfl rfl rfl (ws' := wd_Md_nibbledIn cI a_t a_t_w a_t_wKept a_t_saved a_t_past a_t_input a_t_n a_t_order a_t_numbers a_t_output i_t_pastMany i_t_isSaved i_t_thrown i_t_inputMany i_t_lastError i_t_lastOffset i_t_error i_t_offset i_t_nextByte i_t_begin i_t_value i_t_token i_t_got i_t_orders i_t_outputMany i_t_w) rfl 0 11 rfl rfl rfl (st := [jk_V v3]) rfl (Nat.le_of_ble_eq_true rfl) rd_Md_nibbledIn_11 ?_ ⟨Nat.le_of_ble_eq_true rfl, Nat.le_of_ble_eq_true rfl⟩
      refine jk_icmp_ge (tgt := 34) C rd_Md_nibbledIn_14 (by decide) hf (fun _ hf => ?_) (fun _ hf => ?_)
      · refine jk_iload_n C rd_Md_nibbledIn_34 (k := 2) rfl ?_
        cases hf
        exact jk_iret C rfl rd_Md_nibbledIn_35 rfl
      · refine jk_iload_n C rd_Md_nibbledIn_17 (k := 2) rfl ?_
        refine jk_aload_n C rd_Md_nibbledIn_18 (k := 0) rfl ?_
        refine jk_iload_n C rd_Md_nibbledIn_19 (k := 3) rfl ?_
        obtain ⟨q20, hq20, hf⟩ := jk_bind_h hf
        refine jk_callVi C hZ.1 hz (ct_Md_isNibbled l D Z sq hZ cI cR a_t a_t_w a_t_wKept a_t_saved a_t_past a_t_input a_t_n a_t_order a_t_numbers a_t_output i_t_pastMany i_t_isSaved i_t_thrown i_t_inputMany i_t_lastError i_t_lastOffset i_t_error i_t_offset i_t_nextByte i_t_begin i_t_value i_t_token i_t_got i_t_orders i_t_outputMany i_t_w v3 q20 hq20) tm_1567 tm_1569 sl_74 tm_15 tm_1570 na_Md_isNibbled ⟨Nat.le_of_ble_eq_true rfl, Nat.le_of_ble_eq_true rfl⟩ rfl [0, 1] rfl rfl rfl (ws' := wd_Md_nibbledIn cI a_t a_t_w a_t_wKept a_t_saved a_t_past a_t_input a_t_n a_t_order a_t_numbers a_t_output i_t_pastMany i_t_isSaved i_t_thrown i_t_inputMany i_t_lastError i_t_lastOffset i_t_error i_t_offset i_t_nextByte i_t_begin i_t_value i_t_token i_t_got i_t_orders i_t_outputMany i_t_w) rfl 0 11 rfl rfl rfl (st := [jk_V v2]) rfl (Nat.le_of_ble_eq_true rfl) rd_Md_nibbledIn_20 ?_ ⟨Nat.le_of_ble_eq_true rfl, Nat.le_of_ble_eq_true rfl⟩
        obtain ⟨q23, hq23, hf⟩ := jk_bind_h hf
        refine jk_callSi C hZ.1 hz (ct_Md_one l D Z sq hZ cI cR q20 q23 hq23) tm_1560 tm_1561 tm_15 tm_1562 na_Md_one ⟨Nat.le_of_ble_eq_true rfl, Nat.le_of_ble_eq_true rfl⟩ rfl [] rfl rfl rfl (ws' := wd_Md_nibbledIn cI a_t a_t_w a_t_wKept a_t_saved a_t_past a_t_input a_t_n a_t_order a_t_numbers a_t_output i_t_pastMany i_t_isSaved i_t_thrown i_t_inputMany i_t_lastError i_t_lastOffset i_t_error i_t_offset i_t_nextByte i_t_begin i_t_value i_t_token i_t_got i_t_orders i_t_outputMany i_t_w) rfl (st := [jk_V v2]) rfl (Nat.le_of_ble_eq_true rfl) rd_Md_nibbledIn_23 ?_ ⟨Nat.le_of_ble_eq_true rfl, Nat.le_of_ble_eq_true rfl⟩
        refine jk_iadd C rd_Md_nibbledIn_26 ?_
        refine jk_istore_n C rd_Md_nibbledIn_27 (by decide) (lv' := [(2, jk_V (v2 + q23)), (0, .ref a_t), (1, jk_V v1), (3, jk_V v3)]) rfl ?_
        refine jk_iinc C rd_Md_nibbledIn_28 (k := 3) rfl (by decide) (lv' := [(3, jk_V (v3 + 1)), (2, jk_V (v2 + q23)), (0, .ref a_t), (1, jk_V v1)]) rfl ?_
        refine jk_goto (tgt := 8) C rd_Md_nibbledIn_31 (by decide) ?_
        refine jk_lv (lv' := [(0, .ref a_t), (1, jk_V v1), (2, jk_V (v2 + q23)), (3, jk_V (v3 + 1))]) [2, 3, 1, 0] rfl ?_
        exact ih v1 (v2 + q23) (v3 + 1) hf
  refine jk_iconst C rd_Md_nibbledIn_0 ?_
  refine jk_istore_n C rd_Md_nibbledIn_1 (by decide) (lv' := [(2, jk_V 0), (0, .ref a_t), (1, jk_V x1)]) rfl ?_
  refine jk_aload_n C rd_Md_nibbledIn_2 (k := 1) rfl ?_
  refine jk_iload_n C rd_Md_nibbledIn_3 (k := 2) rfl ?_
  obtain ⟨q4, hq4, hf⟩ := jk_bind_h hf
  refine jk_callVi C hZ.1 hz (ct_Md_first l D Z sq hZ cI cR a_t a_t_w a_t_wKept a_t_saved a_t_past a_t_input a_t_n a_t_order a_t_numbers a_t_output i_t_pastMany i_t_isSaved i_t_thrown i_t_inputMany i_t_lastError i_t_lastOffset i_t_error i_t_offset i_t_nextByte i_t_begin i_t_value i_t_token i_t_got i_t_orders i_t_outputMany i_t_w x1 q4 hq4) tm_1433 tm_1435 sl_44 tm_15 tm_1436 na_Md_first ⟨Nat.le_of_ble_eq_true rfl, Nat.le_of_ble_eq_true rfl⟩ rfl [0, 1] rfl rfl rfl (ws' := wd_Md_nibbledIn cI a_t a_t_w a_t_wKept a_t_saved a_t_past a_t_input a_t_n a_t_order a_t_numbers a_t_output i_t_pastMany i_t_isSaved i_t_thrown i_t_inputMany i_t_lastError i_t_lastOffset i_t_error i_t_offset i_t_nextByte i_t_begin i_t_value i_t_token i_t_got i_t_orders i_t_outputMany i_t_w) rfl 0 11 rfl rfl rfl (st := []) rfl (Nat.le_of_ble_eq_true rfl) rd_Md_nibbledIn_4 ?_ ⟨Nat.le_of_ble_eq_true rfl, Nat.le_of_ble_eq_true rfl⟩
  refine jk_istore_n C rd_Md_nibbledIn_7 (by decide) (lv' := [(3, jk_V q4), (2, jk_V 0), (0, .ref a_t), (1, jk_V x1)]) rfl ?_
  refine jk_lv (lv' := [(0, .ref a_t), (1, jk_V x1), (2, jk_V 0), (3, jk_V q4)]) [2, 3, 1, 0] rfl ?_
  exact bk_8 jk_F x1 0 q4 hf
def wd_Md_onlyNibbled (cI : ClassId) (a_t a_t_w a_t_wKept a_t_saved a_t_past a_t_input a_t_n a_t_order a_t_numbers a_t_output : Nat) (i_t_pastMany : Int) (i_t_isSaved : Int) (i_t_thrown : Int) (i_t_inputMany : Int) (i_t_lastError : Int) (i_t_lastOffset : Int) (i_t_error : Int) (i_t_offset : Int) (i_t_nextByte : Int) (i_t_begin : Int) (i_t_value : Int) (i_t_token : Int) (i_t_got : Int) (i_t_orders : Int) (i_t_outputMany : Int) (i_t_w : (Int → Int)) : va_W := [(a_t, .inr (11, [.ref a_t_w, .ref a_t_wKept, .ref a_t_saved, .ref a_t_past, jk_V i_t_pastMany, jk_V i_t_isSaved, jk_V i_t_thrown, .ref a_t_input, jk_V i_t_inputMany, jk_V i_t_lastError, jk_V i_t_lastOffset, jk_V i_t_error, jk_V i_t_offset, jk_V i_t_nextByte, jk_V i_t_begin, jk_V i_t_value, jk_V i_t_token, jk_V i_t_got, .ref a_t_n, .ref a_t_order, .ref a_t_numbers, jk_V i_t_orders, .ref a_t_output, jk_V i_t_outputMany])), (a_t_w, jk_W cI 259 i_t_w)]
set_option maxHeartbeats 4000000 in
set_option maxRecDepth 20000 in
theorem ct_Md_onlyNibbled (l : Launch) (D : va_G) (Z : (Nat → Prop) → State → Heap → Prop) (sq : Nat → Nat) (hZ : jk_ZK Z sq) (cI cR : ClassId) (a_t a_t_w a_t_wKept a_t_saved a_t_past a_t_input a_t_n a_t_order a_t_numbers a_t_output : Nat) (i_t_pastMany : Int) (i_t_isSaved : Int) (i_t_thrown : Int) (i_t_inputMany : Int) (i_t_lastError : Int) (i_t_lastOffset : Int) (i_t_error : Int) (i_t_offset : Int) (i_t_nextByte : Int) (i_t_begin : Int) (i_t_value : Int) (i_t_token : Int) (i_t_got : Int) (i_t_orders : Int) (i_t_outputMany : Int) (i_t_w : (Int → Int)) (x1 : Int) (q : Int) (hf : fn_Md_onlyNibbled i_t_w x1 = some q) : jk_MI l D jk_cl (jk_ty cI cR) Z mn_Md_onlyNibbled (.code mn_Md_onlyNibbled mb_Md_onlyNibbled 3 (some .int) :: jk_WA) (jk_rm 4 88) [.ref a_t, jk_V x1] (wd_Md_onlyNibbled cI a_t a_t_w a_t_wKept a_t_saved a_t_past a_t_input a_t_n a_t_order a_t_numbers a_t_output i_t_pastMany i_t_isSaved i_t_thrown i_t_inputMany i_t_lastError i_t_lastOffset i_t_error i_t_offset i_t_nextByte i_t_begin i_t_value i_t_token i_t_got i_t_orders i_t_outputMany i_t_w) (wd_Md_onlyNibbled cI a_t a_t_w a_t_wKept a_t_saved a_t_past a_t_input a_t_n a_t_order a_t_numbers a_t_output i_t_pastMany i_t_isSaved i_t_thrown i_t_inputMany i_t_lastError i_t_lastOffset i_t_error i_t_offset i_t_nextByte i_t_begin i_t_value i_t_token i_t_got i_t_orders i_t_outputMany i_t_w) q := by
  intro sz
  refine jk_body (by decide +kernel) (fun p e s m args below meth c hsz hz hin C => ?_) (Nat.le_of_ble_eq_true rfl)
  subst hsz
  unfold fn_Md_onlyNibbled at hf
  have bk_17 : ∀ (n : Nat) (v2 : Int), fn_Md_onlyNibbled_b17 n i_t_w v2 = some q → jk_J p l e (jk_rm 4 88) s m args below meth c 0 0 (jk_QI below D jk_cl (jk_ty cI cR) (wd_Md_onlyNibbled cI a_t a_t_w a_t_wKept a_t_saved a_t_past a_t_input a_t_n a_t_order a_t_numbers a_t_output i_t_pastMany i_t_isSaved i_t_thrown i_t_inputMany i_t_lastError i_t_lastOffset i_t_error i_t_offset i_t_nextByte i_t_begin i_t_value i_t_token i_t_got i_t_orders i_t_outputMany i_t_w) (wd_Md_onlyNibbled cI a_t a_t_w a_t_wKept a_t_saved a_t_past a_t_input a_t_n a_t_order a_t_numbers a_t_output i_t_pastMany i_t_isSaved i_t_thrown i_t_inputMany i_t_lastError i_t_lastOffset i_t_error i_t_offset i_t_nextByte i_t_begin i_t_value i_t_token i_t_got i_t_orders i_t_outputMany i_t_w) args s q) D jk_cl (va_A (wd_Md_onlyNibbled cI a_t a_t_w a_t_wKept a_t_saved a_t_past a_t_input a_t_n a_t_order a_t_numbers a_t_output i_t_pastMany i_t_isSaved i_t_thrown i_t_inputMany i_t_lastError i_t_lastOffset i_t_error i_t_offset i_t_nextByte i_t_begin i_t_value i_t_token i_t_got i_t_orders i_t_outputMany i_t_w) s.heap.size) 3 (wd_Md_onlyNibbled cI a_t a_t_w a_t_wKept a_t_saved a_t_past a_t_input a_t_n a_t_order a_t_numbers a_t_output i_t_pastMany i_t_isSaved i_t_thrown i_t_inputMany i_t_lastError i_t_lastOffset i_t_error i_t_offset i_t_nextByte i_t_begin i_t_value i_t_token i_t_got i_t_orders i_t_outputMany i_t_w) [(0, .ref a_t), (2, jk_V v2)] 17 [] := by
    intro n
    induction n with
    | zero => intro v2 hf; exact nomatch (show none = some q from hf)
    | succ n ih =>
      intro v2 hf
      rw [fn_Md_onlyNibbled_b17] at hf
      refine jk_aload_n C rd_Md_onlyNibbled_17 (k := 0) rfl ?_
      refine jk_iload_n C rd_Md_onlyNibbled_18 (k := 1) rfl ?_
      obtain ⟨q19, hq19, hf⟩ := jk_bind_h hf
      refine jk_callVi C hZ.1 hz (ct_Md_isNibbled l D Z sq hZ cI cR a_t a_t_w a_t_wKept a_t_saved a_t_past a_t_input a_t_n a_t_order a_t_numbers a_t_output i_t_pastMany i_t_isSaved i_t_thrown i_t_inputMany i_t_lastError i_t_lastOffset i_t_error i_t_offset i_t_nextByte i_t_begin i_t_value i_t_token i_t_got i_t_orders i_t_outputMany i_t_w v2 q19 hq19) tm_1567 tm_1569 sl_74 tm_15 tm_1570 na_Md_isNibbled ⟨Nat.le_of_ble_eq_true rfl, Nat.le_of_ble_eq_true rfl⟩ rfl [0, 1] rfl rfl rfl (ws' := wd_Md_onlyNibbled cI a_t a_t_w a_t_wKept a_t_saved a_t_past a_t_input a_t_n a_t_order a_t_numbers a_t_output i_t_pastMany i_t_isSaved i_t_thrown i_t_inputMany i_t_lastError i_t_lastOffset i_t_error i_t_offset i_t_nextByte i_t_begin i_t_value i_t_token i_t_got i_t_orders i_t_outputMany i_t_w) rfl 0 11 rfl rfl rfl (st := []) rfl (Nat.le_of_ble_eq_true rfl) rd_Md_onlyNibbled_19 ?_ ⟨Nat.le_of_ble_eq_true rfl, Nat.le_of_ble_eq_true rfl⟩
      refine jk_if_ne (tgt := 31) C rd_Md_onlyNibbled_22 (by decide) hf (fun _ hf => ?_) (fun _ hf => ?_)
      · refine jk_iload_n C rd_Md_onlyNibbled_31 (k := 1) rfl ?_
        cases hf
        exact jk_iret C rfl rd_Md_onlyNibbled_32 rfl
      · refine jk_iinc C rd_Md_onlyNibbled_25 (k := 1) rfl (by decide) (lv' := [(2, jk_V (v2 + 1)), (0, .ref a_t)]) rfl ?_
        refine jk_goto (tgt := 17) C rd_Md_onlyNibbled_28 (by decide) ?_
        refine jk_lv (lv' := [(0, .ref a_t), (2, jk_V (v2 + 1))]) [1, 0] rfl ?_
        exact ih (v2 + 1) hf
  refine jk_aload_n C rd_Md_onlyNibbled_0 (k := 0) rfl ?_
  refine jk_iload_n C rd_Md_onlyNibbled_1 (k := 1) rfl ?_
  obtain ⟨q2, hq2, hf⟩ := jk_bind_h hf
  refine jk_callVi C hZ.1 hz (ct_Md_nibbledIn l D Z sq hZ cI cR a_t a_t_w a_t_wKept a_t_saved a_t_past a_t_input a_t_n a_t_order a_t_numbers a_t_output i_t_pastMany i_t_isSaved i_t_thrown i_t_inputMany i_t_lastError i_t_lastOffset i_t_error i_t_offset i_t_nextByte i_t_begin i_t_value i_t_token i_t_got i_t_orders i_t_outputMany i_t_w x1 q2 hq2) tm_1595 tm_1597 sl_81 tm_15 tm_1598 na_Md_nibbledIn ⟨Nat.le_of_ble_eq_true rfl, Nat.le_of_ble_eq_true rfl⟩ rfl [0, 1] rfl rfl rfl (ws' := wd_Md_onlyNibbled cI a_t a_t_w a_t_wKept a_t_saved a_t_past a_t_input a_t_n a_t_order a_t_numbers a_t_output i_t_pastMany i_t_isSaved i_t_thrown i_t_inputMany i_t_lastError i_t_lastOffset i_t_error i_t_offset i_t_nextByte i_t_begin i_t_value i_t_token i_t_got i_t_orders i_t_outputMany i_t_w) rfl 0 11 rfl rfl rfl (st := []) rfl (Nat.le_of_ble_eq_true rfl) rd_Md_onlyNibbled_2 ?_ ⟨Nat.le_of_ble_eq_true rfl, Nat.le_of_ble_eq_true rfl⟩
  refine jk_iconst C rd_Md_onlyNibbled_5 ?_
  refine jk_icmp_eq (tgt := 11) C rd_Md_onlyNibbled_6 (by decide) hf (fun _ hf => ?_) (fun _ hf => ?_)
  · refine jk_aload_n C rd_Md_onlyNibbled_11 (k := 0) rfl ?_
    refine jk_iload_n C rd_Md_onlyNibbled_12 (k := 1) rfl ?_
    obtain ⟨q13, hq13, hf⟩ := jk_bind_h hf
    refine jk_callVi C hZ.1 hz (ct_Md_first l D Z sq hZ cI cR a_t a_t_w a_t_wKept a_t_saved a_t_past a_t_input a_t_n a_t_order a_t_numbers a_t_output i_t_pastMany i_t_isSaved i_t_thrown i_t_inputMany i_t_lastError i_t_lastOffset i_t_error i_t_offset i_t_nextByte i_t_begin i_t_value i_t_token i_t_got i_t_orders i_t_outputMany i_t_w x1 q13 hq13) tm_1433 tm_1435 sl_44 tm_15 tm_1436 na_Md_first ⟨Nat.le_of_ble_eq_true rfl, Nat.le_of_ble_eq_true rfl⟩ rfl [0, 1] rfl rfl rfl (ws' := wd_Md_onlyNibbled cI a_t a_t_w a_t_wKept a_t_saved a_t_past a_t_input a_t_n a_t_order a_t_numbers a_t_output i_t_pastMany i_t_isSaved i_t_thrown i_t_inputMany i_t_lastError i_t_lastOffset i_t_error i_t_offset i_t_nextByte i_t_begin i_t_value i_t_token i_t_got i_t_orders i_t_outputMany i_t_w) rfl 0 11 rfl rfl rfl (st := []) rfl (Nat.le_of_ble_eq_true rfl) rd_Md_onlyNibbled_13 ?_ ⟨Nat.le_of_ble_eq_true rfl, Nat.le_of_ble_eq_true rfl⟩
    refine jk_istore_n C rd_Md_onlyNibbled_16 (by decide) (lv' := [(2, jk_V q13), (0, .ref a_t), (1, jk_V x1)]) rfl ?_
    refine jk_lv (lv' := [(0, .ref a_t), (2, jk_V q13)]) [1, 0] rfl ?_
    exact bk_17 jk_F q13 hf
  · refine jk_iconst C rd_Md_onlyNibbled_9 ?_
    cases hf
    exact jk_iret C rfl rd_Md_onlyNibbled_10 rfl
def wd_Md_state (cI : ClassId) (a_t a_t_w a_t_wKept a_t_saved a_t_past a_t_input a_t_n a_t_order a_t_numbers a_t_output : Nat) (i_t_pastMany : Int) (i_t_isSaved : Int) (i_t_thrown : Int) (i_t_inputMany : Int) (i_t_lastError : Int) (i_t_lastOffset : Int) (i_t_error : Int) (i_t_offset : Int) (i_t_nextByte : Int) (i_t_begin : Int) (i_t_value : Int) (i_t_token : Int) (i_t_got : Int) (i_t_orders : Int) (i_t_outputMany : Int) (i_t_w : (Int → Int)) : va_W := [(a_t, .inr (11, [.ref a_t_w, .ref a_t_wKept, .ref a_t_saved, .ref a_t_past, jk_V i_t_pastMany, jk_V i_t_isSaved, jk_V i_t_thrown, .ref a_t_input, jk_V i_t_inputMany, jk_V i_t_lastError, jk_V i_t_lastOffset, jk_V i_t_error, jk_V i_t_offset, jk_V i_t_nextByte, jk_V i_t_begin, jk_V i_t_value, jk_V i_t_token, jk_V i_t_got, .ref a_t_n, .ref a_t_order, .ref a_t_numbers, jk_V i_t_orders, .ref a_t_output, jk_V i_t_outputMany])), (a_t_w, jk_W cI 259 i_t_w)]
set_option maxHeartbeats 4000000 in
set_option maxRecDepth 20000 in
theorem ct_Md_state (l : Launch) (D : va_G) (Z : (Nat → Prop) → State → Heap → Prop) (sq : Nat → Nat) (hZ : jk_ZK Z sq) (cI cR : ClassId) (a_t a_t_w a_t_wKept a_t_saved a_t_past a_t_input a_t_n a_t_order a_t_numbers a_t_output : Nat) (i_t_pastMany : Int) (i_t_isSaved : Int) (i_t_thrown : Int) (i_t_inputMany : Int) (i_t_lastError : Int) (i_t_lastOffset : Int) (i_t_error : Int) (i_t_offset : Int) (i_t_nextByte : Int) (i_t_begin : Int) (i_t_value : Int) (i_t_token : Int) (i_t_got : Int) (i_t_orders : Int) (i_t_outputMany : Int) (i_t_w : (Int → Int)) (x1 : Int) (q : Int) (hf : fn_Md_state i_t_w x1 = some q) : jk_MI l D jk_cl (jk_ty cI cR) Z mn_Md_state (.code mn_Md_state mb_Md_state 2 (some .int) :: jk_WA) (jk_rm 6 131) [.ref a_t, jk_V x1] (wd_Md_state cI a_t a_t_w a_t_wKept a_t_saved a_t_past a_t_input a_t_n a_t_order a_t_numbers a_t_output i_t_pastMany i_t_isSaved i_t_thrown i_t_inputMany i_t_lastError i_t_lastOffset i_t_error i_t_offset i_t_nextByte i_t_begin i_t_value i_t_token i_t_got i_t_orders i_t_outputMany i_t_w) (wd_Md_state cI a_t a_t_w a_t_wKept a_t_saved a_t_past a_t_input a_t_n a_t_order a_t_numbers a_t_output i_t_pastMany i_t_isSaved i_t_thrown i_t_inputMany i_t_lastError i_t_lastOffset i_t_error i_t_offset i_t_nextByte i_t_begin i_t_value i_t_token i_t_got i_t_orders i_t_outputMany i_t_w) q := by
  intro sz
  refine jk_body (by decide +kernel) (fun p e s m args below meth c hsz hz hin C => ?_) (Nat.le_of_ble_eq_true rfl)
  subst hsz
  unfold fn_Md_state at hf
  refine jk_aload_n C rd_Md_state_0 (k := 0) rfl ?_
  refine jk_iload_n C rd_Md_state_1 (k := 1) rfl ?_
  obtain ⟨q2, hq2, hf⟩ := jk_bind_h hf
  refine jk_callVi C hZ.1 hz (ct_Md_hasTop l D Z sq hZ cI cR a_t a_t_w a_t_wKept a_t_saved a_t_past a_t_input a_t_n a_t_order a_t_numbers a_t_output i_t_pastMany i_t_isSaved i_t_thrown i_t_inputMany i_t_lastError i_t_lastOffset i_t_error i_t_offset i_t_nextByte i_t_begin i_t_value i_t_token i_t_got i_t_orders i_t_outputMany i_t_w x1 q2 hq2) tm_1429 tm_1431 sl_43 tm_15 tm_1432 na_Md_hasTop ⟨Nat.le_of_ble_eq_true rfl, Nat.le_of_ble_eq_true rfl⟩ rfl [0, 1] rfl rfl rfl (ws' := wd_Md_state cI a_t a_t_w a_t_wKept a_t_saved a_t_past a_t_input a_t_n a_t_order a_t_numbers a_t_output i_t_pastMany i_t_isSaved i_t_thrown i_t_inputMany i_t_lastError i_t_lastOffset i_t_error i_t_offset i_t_nextByte i_t_begin i_t_value i_t_token i_t_got i_t_orders i_t_outputMany i_t_w) rfl 0 11 rfl rfl rfl (st := []) rfl (Nat.le_of_ble_eq_true rfl) rd_Md_state_2 ?_ ⟨Nat.le_of_ble_eq_true rfl, Nat.le_of_ble_eq_true rfl⟩
  refine jk_if_ne (tgt := 10) C rd_Md_state_5 (by decide) hf (fun _ hf => ?_) (fun _ hf => ?_)
  · refine jk_aload_n C rd_Md_state_10 (k := 0) rfl ?_
    refine jk_iload_n C rd_Md_state_11 (k := 1) rfl ?_
    obtain ⟨q12, hq12, hf⟩ := jk_bind_h hf
    refine jk_callVi C hZ.1 hz (ct_Md_nibbledIn l D Z sq hZ cI cR a_t a_t_w a_t_wKept a_t_saved a_t_past a_t_input a_t_n a_t_order a_t_numbers a_t_output i_t_pastMany i_t_isSaved i_t_thrown i_t_inputMany i_t_lastError i_t_lastOffset i_t_error i_t_offset i_t_nextByte i_t_begin i_t_value i_t_token i_t_got i_t_orders i_t_outputMany i_t_w x1 q12 hq12) tm_1595 tm_1597 sl_81 tm_15 tm_1598 na_Md_nibbledIn ⟨Nat.le_of_ble_eq_true rfl, Nat.le_of_ble_eq_true rfl⟩ rfl [0, 1] rfl rfl rfl (ws' := wd_Md_state cI a_t a_t_w a_t_wKept a_t_saved a_t_past a_t_input a_t_n a_t_order a_t_numbers a_t_output i_t_pastMany i_t_isSaved i_t_thrown i_t_inputMany i_t_lastError i_t_lastOffset i_t_error i_t_offset i_t_nextByte i_t_begin i_t_value i_t_token i_t_got i_t_orders i_t_outputMany i_t_w) rfl 0 11 rfl rfl rfl (st := []) rfl (Nat.le_of_ble_eq_true rfl) rd_Md_state_12 ?_ ⟨Nat.le_of_ble_eq_true rfl, Nat.le_of_ble_eq_true rfl⟩
    refine jk_if_le (tgt := 20) C rd_Md_state_15 (by decide) hf (fun _ hf => ?_) (fun _ hf => ?_)
    · refine jk_aload_n C rd_Md_state_20 (k := 0) rfl ?_
      refine jk_aload_n C rd_Md_state_21 (k := 0) rfl ?_
      refine jk_iload_n C rd_Md_state_22 (k := 1) rfl ?_
      obtain ⟨q23, hq23, hf⟩ := jk_bind_h hf
      refine jk_callVi C hZ.1 hz (ct_Md_first l D Z sq hZ cI cR a_t a_t_w a_t_wKept a_t_saved a_t_past a_t_input a_t_n a_t_order a_t_numbers a_t_output i_t_pastMany i_t_isSaved i_t_thrown i_t_inputMany i_t_lastError i_t_lastOffset i_t_error i_t_offset i_t_nextByte i_t_begin i_t_value i_t_token i_t_got i_t_orders i_t_outputMany i_t_w x1 q23 hq23) tm_1433 tm_1435 sl_44 tm_15 tm_1436 na_Md_first ⟨Nat.le_of_ble_eq_true rfl, Nat.le_of_ble_eq_true rfl⟩ rfl [0, 1] rfl rfl rfl (ws' := wd_Md_state cI a_t a_t_w a_t_wKept a_t_saved a_t_past a_t_input a_t_n a_t_order a_t_numbers a_t_output i_t_pastMany i_t_isSaved i_t_thrown i_t_inputMany i_t_lastError i_t_lastOffset i_t_error i_t_offset i_t_nextByte i_t_begin i_t_value i_t_token i_t_got i_t_orders i_t_outputMany i_t_w) rfl 0 11 rfl rfl rfl (st := [.ref a_t]) rfl (Nat.le_of_ble_eq_true rfl) rd_Md_state_23 ?_ ⟨Nat.le_of_ble_eq_true rfl, Nat.le_of_ble_eq_true rfl⟩
      refine jk_iconst C rd_Md_state_26 ?_
      obtain ⟨q27, hq27, hf⟩ := jk_bind_h hf
      refine jk_callVi C hZ.1 hz (ct_Md_of l D Z sq hZ cI cR a_t a_t_w a_t_wKept a_t_saved a_t_past a_t_input a_t_n a_t_order a_t_numbers a_t_output i_t_pastMany i_t_isSaved i_t_thrown i_t_inputMany i_t_lastError i_t_lastOffset i_t_error i_t_offset i_t_nextByte i_t_begin i_t_value i_t_token i_t_got i_t_orders i_t_outputMany i_t_w q23 3 q27 hq27) tm_1256 tm_1258 sl_26 tm_15 tm_1259 na_Md_of ⟨Nat.le_of_ble_eq_true rfl, Nat.le_of_ble_eq_true rfl⟩ rfl [0, 1] rfl rfl rfl (ws' := wd_Md_state cI a_t a_t_w a_t_wKept a_t_saved a_t_past a_t_input a_t_n a_t_order a_t_numbers a_t_output i_t_pastMany i_t_isSaved i_t_thrown i_t_inputMany i_t_lastError i_t_lastOffset i_t_error i_t_offset i_t_nextByte i_t_begin i_t_value i_t_token i_t_got i_t_orders i_t_outputMany i_t_w) rfl 0 11 rfl rfl rfl (st := []) rfl (Nat.le_of_ble_eq_true rfl) rd_Md_state_27 ?_ ⟨Nat.le_of_ble_eq_true rfl, Nat.le_of_ble_eq_true rfl⟩
      refine jk_aload_n C rd_Md_state_30 (k := 0) rfl ?_
      refine jk_iload_n C rd_Md_state_31 (k := 1) rfl ?_
      obtain ⟨q32, hq32, hf⟩ := jk_bind_h hf
      refine jk_callVi C hZ.1 hz (ct_Md_knownSum l D Z sq hZ cI cR a_t a_t_w a_t_wKept a_t_saved a_t_past a_t_input a_t_n a_t_order a_t_numbers a_t_output i_t_pastMany i_t_isSaved i_t_thrown i_t_inputMany i_t_lastError i_t_lastOffset i_t_error i_t_offset i_t_nextByte i_t_begin i_t_value i_t_token i_t_got i_t_orders i_t_outputMany i_t_w x1 q32 hq32) tm_1571 tm_1573 sl_75 tm_15 tm_1574 na_Md_knownSum ⟨Nat.le_of_ble_eq_true rfl, Nat.le_of_ble_eq_true rfl⟩ rfl [0, 1] rfl rfl rfl (ws' := wd_Md_state cI a_t a_t_w a_t_wKept a_t_saved a_t_past a_t_input a_t_n a_t_order a_t_numbers a_t_output i_t_pastMany i_t_isSaved i_t_thrown i_t_inputMany i_t_lastError i_t_lastOffset i_t_error i_t_offset i_t_nextByte i_t_begin i_t_value i_t_token i_t_got i_t_orders i_t_outputMany i_t_w) rfl 0 11 rfl rfl rfl (st := [jk_V q27]) rfl (Nat.le_of_ble_eq_true rfl) rd_Md_state_32 ?_ ⟨Nat.le_of_ble_eq_true rfl, Nat.le_of_ble_eq_true rfl⟩
      refine jk_icmp_ne (tgt := 42) C rd_Md_state_35 (by decide) hf (fun _ hf => ?_) (fun _ hf => ?_)
      · refine jk_iconst C rd_Md_state_42 ?_
        cases hf
        exact jk_iret C rfl rd_Md_state_43 rfl
      · refine jk_iconst C rd_Md_state_38 ?_
        refine jk_goto (tgt := 43) C rd_Md_state_39 (by decide) ?_
        cases hf
        exact jk_iret C rfl rd_Md_state_43 rfl
    · refine jk_iconst C rd_Md_state_18 ?_
      cases hf
      exact jk_iret C rfl rd_Md_state_19 rfl
  · refine jk_iconst C rd_Md_state_8 ?_
    cases hf
    exact jk_iret C rfl rd_Md_state_9 rfl
def wd_Md_guess (cI : ClassId) (a_t a_t_w a_t_wKept a_t_saved a_t_past a_t_input a_t_n a_t_order a_t_numbers a_t_output : Nat) (i_t_pastMany : Int) (i_t_isSaved : Int) (i_t_thrown : Int) (i_t_inputMany : Int) (i_t_lastError : Int) (i_t_lastOffset : Int) (i_t_error : Int) (i_t_offset : Int) (i_t_nextByte : Int) (i_t_begin : Int) (i_t_value : Int) (i_t_token : Int) (i_t_got : Int) (i_t_orders : Int) (i_t_outputMany : Int) (i_t_w : (Int → Int)) : va_W := [(a_t, .inr (11, [.ref a_t_w, .ref a_t_wKept, .ref a_t_saved, .ref a_t_past, jk_V i_t_pastMany, jk_V i_t_isSaved, jk_V i_t_thrown, .ref a_t_input, jk_V i_t_inputMany, jk_V i_t_lastError, jk_V i_t_lastOffset, jk_V i_t_error, jk_V i_t_offset, jk_V i_t_nextByte, jk_V i_t_begin, jk_V i_t_value, jk_V i_t_token, jk_V i_t_got, .ref a_t_n, .ref a_t_order, .ref a_t_numbers, jk_V i_t_orders, .ref a_t_output, jk_V i_t_outputMany])), (a_t_w, jk_W cI 259 i_t_w)]
set_option maxHeartbeats 4000000 in
set_option maxRecDepth 20000 in
theorem ct_Md_guess (l : Launch) (D : va_G) (Z : (Nat → Prop) → State → Heap → Prop) (sq : Nat → Nat) (hZ : jk_ZK Z sq) (cI cR : ClassId) (a_t a_t_w a_t_wKept a_t_saved a_t_past a_t_input a_t_n a_t_order a_t_numbers a_t_output : Nat) (i_t_pastMany : Int) (i_t_isSaved : Int) (i_t_thrown : Int) (i_t_inputMany : Int) (i_t_lastError : Int) (i_t_lastOffset : Int) (i_t_error : Int) (i_t_offset : Int) (i_t_nextByte : Int) (i_t_begin : Int) (i_t_value : Int) (i_t_token : Int) (i_t_got : Int) (i_t_orders : Int) (i_t_outputMany : Int) (i_t_w : (Int → Int)) (x1 : Int) (q : Int) (hf : fn_Md_guess i_t_w x1 = some q) : jk_MI l D jk_cl (jk_ty cI cR) Z mn_Md_guess (.code mn_Md_guess mb_Md_guess 3 (some .int) :: jk_WA) (jk_rm 6 131) [.ref a_t, jk_V x1] (wd_Md_guess cI a_t a_t_w a_t_wKept a_t_saved a_t_past a_t_input a_t_n a_t_order a_t_numbers a_t_output i_t_pastMany i_t_isSaved i_t_thrown i_t_inputMany i_t_lastError i_t_lastOffset i_t_error i_t_offset i_t_nextByte i_t_begin i_t_value i_t_token i_t_got i_t_orders i_t_outputMany i_t_w) (wd_Md_guess cI a_t a_t_w a_t_wKept a_t_saved a_t_past a_t_input a_t_n a_t_order a_t_numbers a_t_output i_t_pastMany i_t_isSaved i_t_thrown i_t_inputMany i_t_lastError i_t_lastOffset i_t_error i_t_offset i_t_nextByte i_t_begin i_t_value i_t_token i_t_got i_t_orders i_t_outputMany i_t_w) q := by
  intro sz
  refine jk_body (by decide +kernel) (fun p e s m args below meth c hsz hz hin C => ?_) (Nat.le_of_ble_eq_true rfl)
  subst hsz
  unfold fn_Md_guess at hf
  refine jk_aload_n C rd_Md_guess_0 (k := 0) rfl ?_
  refine jk_iload_n C rd_Md_guess_1 (k := 1) rfl ?_
  obtain ⟨q2, hq2, hf⟩ := jk_bind_h hf
  refine jk_callVi C hZ.1 hz (ct_Md_onlyNibbled l D Z sq hZ cI cR a_t a_t_w a_t_wKept a_t_saved a_t_past a_t_input a_t_n a_t_order a_t_numbers a_t_output i_t_pastMany i_t_isSaved i_t_thrown i_t_inputMany i_t_lastError i_t_lastOffset i_t_error i_t_offset i_t_nextByte i_t_begin i_t_value i_t_token i_t_got i_t_orders i_t_outputMany i_t_w x1 q2 hq2) tm_1603 tm_1605 sl_83 tm_15 tm_1606 na_Md_onlyNibbled ⟨Nat.le_of_ble_eq_true rfl, Nat.le_of_ble_eq_true rfl⟩ rfl [0, 1] rfl rfl rfl (ws' := wd_Md_guess cI a_t a_t_w a_t_wKept a_t_saved a_t_past a_t_input a_t_n a_t_order a_t_numbers a_t_output i_t_pastMany i_t_isSaved i_t_thrown i_t_inputMany i_t_lastError i_t_lastOffset i_t_error i_t_offset i_t_nextByte i_t_begin i_t_value i_t_token i_t_got i_t_orders i_t_outputMany i_t_w) rfl 0 11 rfl rfl rfl (st := []) rfl (Nat.le_of_ble_eq_true rfl) rd_Md_guess_2 ?_ ⟨Nat.le_of_ble_eq_true rfl, Nat.le_of_ble_eq_true rfl⟩
  refine jk_istore_n C rd_Md_guess_5 (by decide) (lv' := [(2, jk_V q2), (0, .ref a_t), (1, jk_V x1)]) rfl ?_
  refine jk_aload_n C rd_Md_guess_6 (k := 1) rfl ?_
  refine jk_iload_n C rd_Md_guess_7 (k := 0) rfl ?_
  refine jk_iconst C rd_Md_guess_8 ?_
  obtain ⟨q9, hq9, hf⟩ := jk_bind_h hf
  refine jk_callVi C hZ.1 hz (ct_Md_of l D Z sq hZ cI cR a_t a_t_w a_t_wKept a_t_saved a_t_past a_t_input a_t_n a_t_order a_t_numbers a_t_output i_t_pastMany i_t_isSaved i_t_thrown i_t_inputMany i_t_lastError i_t_lastOffset i_t_error i_t_offset i_t_nextByte i_t_begin i_t_value i_t_token i_t_got i_t_orders i_t_outputMany i_t_w q2 1 q9 hq9) tm_1256 tm_1258 sl_26 tm_15 tm_1259 na_Md_of ⟨Nat.le_of_ble_eq_true rfl, Nat.le_of_ble_eq_true rfl⟩ rfl [0, 1] rfl rfl rfl (ws' := wd_Md_guess cI a_t a_t_w a_t_wKept a_t_saved a_t_past a_t_input a_t_n a_t_order a_t_numbers a_t_output i_t_pastMany i_t_isSaved i_t_thrown i_t_inputMany i_t_lastError i_t_lastOffset i_t_error i_t_offset i_t_nextByte i_t_begin i_t_value i_t_token i_t_got i_t_orders i_t_outputMany i_t_w) rfl 0 11 rfl rfl rfl (st := []) rfl (Nat.le_of_ble_eq_true rfl) rd_Md_guess_9 ?_ ⟨Nat.le_of_ble_eq_true rfl, Nat.le_of_ble_eq_true rfl⟩
  refine jk_if_ne (tgt := 21) C rd_Md_guess_12 (by decide) hf (fun _ hf => ?_) (fun _ hf => ?_)
  · refine jk_aload_n C rd_Md_guess_21 (k := 1) rfl ?_
    refine jk_aload_n C rd_Md_guess_22 (k := 1) rfl ?_
    refine jk_iload_n C rd_Md_guess_23 (k := 2) rfl ?_
    obtain ⟨q24, hq24, hf⟩ := jk_bind_h hf
    refine jk_callVi C hZ.1 hz (ct_Md_first l D Z sq hZ cI cR a_t a_t_w a_t_wKept a_t_saved a_t_past a_t_input a_t_n a_t_order a_t_numbers a_t_output i_t_pastMany i_t_isSaved i_t_thrown i_t_inputMany i_t_lastError i_t_lastOffset i_t_error i_t_offset i_t_nextByte i_t_begin i_t_value i_t_token i_t_got i_t_orders i_t_outputMany i_t_w x1 q24 hq24) tm_1433 tm_1435 sl_44 tm_15 tm_1436 na_Md_first ⟨Nat.le_of_ble_eq_true rfl, Nat.le_of_ble_eq_true rfl⟩ rfl [0, 1] rfl rfl rfl (ws' := wd_Md_guess cI a_t a_t_w a_t_wKept a_t_saved a_t_past a_t_input a_t_n a_t_order a_t_numbers a_t_output i_t_pastMany i_t_isSaved i_t_thrown i_t_inputMany i_t_lastError i_t_lastOffset i_t_error i_t_offset i_t_nextByte i_t_begin i_t_value i_t_token i_t_got i_t_orders i_t_outputMany i_t_w) rfl 0 11 rfl rfl rfl (st := [.ref a_t]) rfl (Nat.le_of_ble_eq_true rfl) rd_Md_guess_24 ?_ ⟨Nat.le_of_ble_eq_true rfl, Nat.le_of_ble_eq_true rfl⟩
    refine jk_iconst C rd_Md_guess_27 ?_
    obtain ⟨q28, hq28, hf⟩ := jk_bind_h hf
    refine jk_callVi C hZ.1 hz (ct_Md_of l D Z sq hZ cI cR a_t a_t_w a_t_wKept a_t_saved a_t_past a_t_input a_t_n a_t_order a_t_numbers a_t_output i_t_pastMany i_t_isSaved i_t_thrown i_t_inputMany i_t_lastError i_t_lastOffset i_t_error i_t_offset i_t_nextByte i_t_begin i_t_value i_t_token i_t_got i_t_orders i_t_outputMany i_t_w q24 3 q28 hq28) tm_1256 tm_1258 sl_26 tm_15 tm_1259 na_Md_of ⟨Nat.le_of_ble_eq_true rfl, Nat.le_of_ble_eq_true rfl⟩ rfl [0, 1] rfl rfl rfl (ws' := wd_Md_guess cI a_t a_t_w a_t_wKept a_t_saved a_t_past a_t_input a_t_n a_t_order a_t_numbers a_t_output i_t_pastMany i_t_isSaved i_t_thrown i_t_inputMany i_t_lastError i_t_lastOffset i_t_error i_t_offset i_t_nextByte i_t_begin i_t_value i_t_token i_t_got i_t_orders i_t_outputMany i_t_w) rfl 0 11 rfl rfl rfl (st := []) rfl (Nat.le_of_ble_eq_true rfl) rd_Md_guess_28 ?_ ⟨Nat.le_of_ble_eq_true rfl, Nat.le_of_ble_eq_true rfl⟩
    refine jk_aload_n C rd_Md_guess_31 (k := 1) rfl ?_
    refine jk_iload_n C rd_Md_guess_32 (k := 2) rfl ?_
    obtain ⟨q33, hq33, hf⟩ := jk_bind_h hf
    refine jk_callVi C hZ.1 hz (ct_Md_knownSum l D Z sq hZ cI cR a_t a_t_w a_t_wKept a_t_saved a_t_past a_t_input a_t_n a_t_order a_t_numbers a_t_output i_t_pastMany i_t_isSaved i_t_thrown i_t_inputMany i_t_lastError i_t_lastOffset i_t_error i_t_offset i_t_nextByte i_t_begin i_t_value i_t_token i_t_got i_t_orders i_t_outputMany i_t_w x1 q33 hq33) tm_1571 tm_1573 sl_75 tm_15 tm_1574 na_Md_knownSum ⟨Nat.le_of_ble_eq_true rfl, Nat.le_of_ble_eq_true rfl⟩ rfl [0, 1] rfl rfl rfl (ws' := wd_Md_guess cI a_t a_t_w a_t_wKept a_t_saved a_t_past a_t_input a_t_n a_t_order a_t_numbers a_t_output i_t_pastMany i_t_isSaved i_t_thrown i_t_inputMany i_t_lastError i_t_lastOffset i_t_error i_t_offset i_t_nextByte i_t_begin i_t_value i_t_token i_t_got i_t_orders i_t_outputMany i_t_w) rfl 0 11 rfl rfl rfl (st := [jk_V q28]) rfl (Nat.le_of_ble_eq_true rfl) rd_Md_guess_33 ?_ ⟨Nat.le_of_ble_eq_true rfl, Nat.le_of_ble_eq_true rfl⟩
    refine jk_aload_n C rd_Md_guess_36 (k := 1) rfl ?_
    refine jk_iload_n C rd_Md_guess_37 (k := 0) rfl ?_
    refine jk_iconst C rd_Md_guess_38 ?_
    obtain ⟨q39, hq39, hf⟩ := jk_bind_h hf
    refine jk_callVi C hZ.1 hz (ct_Md_of l D Z sq hZ cI cR a_t a_t_w a_t_wKept a_t_saved a_t_past a_t_input a_t_n a_t_order a_t_numbers a_t_output i_t_pastMany i_t_isSaved i_t_thrown i_t_inputMany i_t_lastError i_t_lastOffset i_t_error i_t_offset i_t_nextByte i_t_begin i_t_value i_t_token i_t_got i_t_orders i_t_outputMany i_t_w q2 3 q39 hq39) tm_1256 tm_1258 sl_26 tm_15 tm_1259 na_Md_of ⟨Nat.le_of_ble_eq_true rfl, Nat.le_of_ble_eq_true rfl⟩ rfl [0, 1] rfl rfl rfl (ws' := wd_Md_guess cI a_t a_t_w a_t_wKept a_t_saved a_t_past a_t_input a_t_n a_t_order a_t_numbers a_t_output i_t_pastMany i_t_isSaved i_t_thrown i_t_inputMany i_t_lastError i_t_lastOffset i_t_error i_t_offset i_t_nextByte i_t_begin i_t_value i_t_token i_t_got i_t_orders i_t_outputMany i_t_w) rfl 0 11 rfl rfl rfl (st := [jk_V q33, jk_V q28]) rfl (Nat.le_of_ble_eq_true rfl) rd_Md_guess_39 ?_ ⟨Nat.le_of_ble_eq_true rfl, Nat.le_of_ble_eq_true rfl⟩
    refine jk_isub C rd_Md_guess_42 ?_
    refine jk_isub C rd_Md_guess_43 ?_
    cases hf
    exact jk_iret C rfl rd_Md_guess_44 rfl
  · refine jk_aload_n C rd_Md_guess_15 (k := 1) rfl ?_
    refine jk_iload_n C rd_Md_guess_16 (k := 2) rfl ?_
    obtain ⟨q17, hq17, hf⟩ := jk_bind_h hf
    refine jk_callVi C hZ.1 hz (ct_Md_knownSum l D Z sq hZ cI cR a_t a_t_w a_t_wKept a_t_saved a_t_past a_t_input a_t_n a_t_order a_t_numbers a_t_output i_t_pastMany i_t_isSaved i_t_thrown i_t_inputMany i_t_lastError i_t_lastOffset i_t_error i_t_offset i_t_nextByte i_t_begin i_t_value i_t_token i_t_got i_t_orders i_t_outputMany i_t_w x1 q17 hq17) tm_1571 tm_1573 sl_75 tm_15 tm_1574 na_Md_knownSum ⟨Nat.le_of_ble_eq_true rfl, Nat.le_of_ble_eq_true rfl⟩ rfl [0, 1] rfl rfl rfl (ws' := wd_Md_guess cI a_t a_t_w a_t_wKept a_t_saved a_t_past a_t_input a_t_n a_t_order a_t_numbers a_t_output i_t_pastMany i_t_isSaved i_t_thrown i_t_inputMany i_t_lastError i_t_lastOffset i_t_error i_t_offset i_t_nextByte i_t_begin i_t_value i_t_token i_t_got i_t_orders i_t_outputMany i_t_w) rfl 0 11 rfl rfl rfl (st := []) rfl (Nat.le_of_ble_eq_true rfl) rd_Md_guess_17 ?_ ⟨Nat.le_of_ble_eq_true rfl, Nat.le_of_ble_eq_true rfl⟩
    cases hf
    exact jk_iret C rfl rd_Md_guess_20 rfl
def wd_Md_isPossible (cI : ClassId) (a_t a_t_w a_t_wKept a_t_saved a_t_past a_t_input a_t_n a_t_order a_t_numbers a_t_output : Nat) (i_t_pastMany : Int) (i_t_isSaved : Int) (i_t_thrown : Int) (i_t_inputMany : Int) (i_t_lastError : Int) (i_t_lastOffset : Int) (i_t_error : Int) (i_t_offset : Int) (i_t_nextByte : Int) (i_t_begin : Int) (i_t_value : Int) (i_t_token : Int) (i_t_got : Int) (i_t_orders : Int) (i_t_outputMany : Int) (i_t_w : (Int → Int)) : va_W := [(a_t, .inr (11, [.ref a_t_w, .ref a_t_wKept, .ref a_t_saved, .ref a_t_past, jk_V i_t_pastMany, jk_V i_t_isSaved, jk_V i_t_thrown, .ref a_t_input, jk_V i_t_inputMany, jk_V i_t_lastError, jk_V i_t_lastOffset, jk_V i_t_error, jk_V i_t_offset, jk_V i_t_nextByte, jk_V i_t_begin, jk_V i_t_value, jk_V i_t_token, jk_V i_t_got, .ref a_t_n, .ref a_t_order, .ref a_t_numbers, jk_V i_t_orders, .ref a_t_output, jk_V i_t_outputMany])), (a_t_w, jk_W cI 259 i_t_w)]
set_option maxHeartbeats 4000000 in
set_option maxRecDepth 20000 in
theorem ct_Md_isPossible (l : Launch) (D : va_G) (Z : (Nat → Prop) → State → Heap → Prop) (sq : Nat → Nat) (hZ : jk_ZK Z sq) (cI cR : ClassId) (a_t a_t_w a_t_wKept a_t_saved a_t_past a_t_input a_t_n a_t_order a_t_numbers a_t_output : Nat) (i_t_pastMany : Int) (i_t_isSaved : Int) (i_t_thrown : Int) (i_t_inputMany : Int) (i_t_lastError : Int) (i_t_lastOffset : Int) (i_t_error : Int) (i_t_offset : Int) (i_t_nextByte : Int) (i_t_begin : Int) (i_t_value : Int) (i_t_token : Int) (i_t_got : Int) (i_t_orders : Int) (i_t_outputMany : Int) (i_t_w : (Int → Int)) (x1 : Int) (q : Int) (hf : fn_Md_isPossible i_t_w x1 = some q) : jk_MI l D jk_cl (jk_ty cI cR) Z mn_Md_isPossible (.code mn_Md_isPossible mb_Md_isPossible 5 (some .boolean) :: jk_WA) (jk_rm 7 153) [.ref a_t, jk_V x1] (wd_Md_isPossible cI a_t a_t_w a_t_wKept a_t_saved a_t_past a_t_input a_t_n a_t_order a_t_numbers a_t_output i_t_pastMany i_t_isSaved i_t_thrown i_t_inputMany i_t_lastError i_t_lastOffset i_t_error i_t_offset i_t_nextByte i_t_begin i_t_value i_t_token i_t_got i_t_orders i_t_outputMany i_t_w) (wd_Md_isPossible cI a_t a_t_w a_t_wKept a_t_saved a_t_past a_t_input a_t_n a_t_order a_t_numbers a_t_output i_t_pastMany i_t_isSaved i_t_thrown i_t_inputMany i_t_lastError i_t_lastOffset i_t_error i_t_offset i_t_nextByte i_t_begin i_t_value i_t_token i_t_got i_t_orders i_t_outputMany i_t_w) q := by
  intro sz
  refine jk_body (by decide +kernel) (fun p e s m args below meth c hsz hz hin C => ?_) (Nat.le_of_ble_eq_true rfl)
  subst hsz
  unfold fn_Md_isPossible at hf
  refine jk_aload_n C rd_Md_isPossible_0 (k := 0) rfl ?_
  refine jk_iload_n C rd_Md_isPossible_1 (k := 1) rfl ?_
  obtain ⟨q2, hq2, hf⟩ := jk_bind_h hf
  refine jk_callVi C hZ.1 hz (ct_Md_onlyNibbled l D Z sq hZ cI cR a_t a_t_w a_t_wKept a_t_saved a_t_past a_t_input a_t_n a_t_order a_t_numbers a_t_output i_t_pastMany i_t_isSaved i_t_thrown i_t_inputMany i_t_lastError i_t_lastOffset i_t_error i_t_offset i_t_nextByte i_t_begin i_t_value i_t_token i_t_got i_t_orders i_t_outputMany i_t_w x1 q2 hq2) tm_1603 tm_1605 sl_83 tm_15 tm_1606 na_Md_onlyNibbled ⟨Nat.le_of_ble_eq_true rfl, Nat.le_of_ble_eq_true rfl⟩ rfl [0, 1] rfl rfl rfl (ws' := wd_Md_isPossible cI a_t a_t_w a_t_wKept a_t_saved a_t_past a_t_input a_t_n a_t_order a_t_numbers a_t_output i_t_pastMany i_t_isSaved i_t_thrown i_t_inputMany i_t_lastError i_t_lastOffset i_t_error i_t_offset i_t_nextByte i_t_begin i_t_value i_t_token i_t_got i_t_orders i_t_outputMany i_t_w) rfl 0 11 rfl rfl rfl (st := []) rfl (Nat.le_of_ble_eq_true rfl) rd_Md_isPossible_2 ?_ ⟨Nat.le_of_ble_eq_true rfl, Nat.le_of_ble_eq_true rfl⟩
  refine jk_istore_n C rd_Md_isPossible_5 (by decide) (lv' := [(2, jk_V q2), (0, .ref a_t), (1, jk_V x1)]) rfl ?_
  refine jk_aload_n C rd_Md_isPossible_6 (k := 1) rfl ?_
  refine jk_iload_n C rd_Md_isPossible_7 (k := 2) rfl ?_
  obtain ⟨q8, hq8, hf⟩ := jk_bind_h hf
  refine jk_callVi C hZ.1 hz (ct_Md_guess l D Z sq hZ cI cR a_t a_t_w a_t_wKept a_t_saved a_t_past a_t_input a_t_n a_t_order a_t_numbers a_t_output i_t_pastMany i_t_isSaved i_t_thrown i_t_inputMany i_t_lastError i_t_lastOffset i_t_error i_t_offset i_t_nextByte i_t_begin i_t_value i_t_token i_t_got i_t_orders i_t_outputMany i_t_w x1 q8 hq8) tm_1607 tm_1609 sl_84 tm_15 tm_1610 na_Md_guess ⟨Nat.le_of_ble_eq_true rfl, Nat.le_of_ble_eq_true rfl⟩ rfl [0, 1] rfl rfl rfl (ws' := wd_Md_isPossible cI a_t a_t_w a_t_wKept a_t_saved a_t_past a_t_input a_t_n a_t_order a_t_numbers a_t_output i_t_pastMany i_t_isSaved i_t_thrown i_t_inputMany i_t_lastError i_t_lastOffset i_t_error i_t_offset i_t_nextByte i_t_begin i_t_value i_t_token i_t_got i_t_orders i_t_outputMany i_t_w) rfl 0 11 rfl rfl rfl (st := []) rfl (Nat.le_of_ble_eq_true rfl) rd_Md_isPossible_8 ?_ ⟨Nat.le_of_ble_eq_true rfl, Nat.le_of_ble_eq_true rfl⟩
  refine jk_istore_n C rd_Md_isPossible_11 (by decide) (lv' := [(3, jk_V q8), (2, jk_V q2), (0, .ref a_t), (1, jk_V x1)]) rfl ?_
  refine jk_iload_n C rd_Md_isPossible_12 (k := 0) rfl ?_
  refine jk_iconst C rd_Md_isPossible_13 ?_
  refine jk_sipush C rd_Md_isPossible_14 (by decide +kernel) ?_
  obtain ⟨q17, hq17, hf⟩ := jk_bind_h hf
  refine jk_callSi C hZ.1 hz (ct_Md_inRange l D Z sq hZ cI cR q8 0 9999 q17 hq17) tm_1352 tm_1353 tm_15 tm_1354 na_Md_inRange ⟨Nat.le_of_ble_eq_true rfl, Nat.le_of_ble_eq_true rfl⟩ rfl [] rfl rfl rfl (ws' := wd_Md_isPossible cI a_t a_t_w a_t_wKept a_t_saved a_t_past a_t_input a_t_n a_t_order a_t_numbers a_t_output i_t_pastMany i_t_isSaved i_t_thrown i_t_inputMany i_t_lastError i_t_lastOffset i_t_error i_t_offset i_t_nextByte i_t_begin i_t_value i_t_token i_t_got i_t_orders i_t_outputMany i_t_w) rfl (st := []) rfl (Nat.le_of_ble_eq_true rfl) rd_Md_isPossible_17 ?_ ⟨Nat.le_of_ble_eq_true rfl, Nat.le_of_ble_eq_true rfl⟩
  refine jk_if_ne (tgt := 25) C rd_Md_isPossible_20 (by decide) hf (fun _ hf => ?_) (fun _ hf => ?_)
  · refine jk_aload_n C rd_Md_isPossible_25 (k := 2) rfl ?_
    refine jk_iload_n C rd_Md_isPossible_26 (k := 1) rfl ?_
    refine jk_iconst C rd_Md_isPossible_27 ?_
    obtain ⟨q28, hq28, hf⟩ := jk_bind_h hf
    refine jk_callVi C hZ.1 hz (ct_Md_of l D Z sq hZ cI cR a_t a_t_w a_t_wKept a_t_saved a_t_past a_t_input a_t_n a_t_order a_t_numbers a_t_output i_t_pastMany i_t_isSaved i_t_thrown i_t_inputMany i_t_lastError i_t_lastOffset i_t_error i_t_offset i_t_nextByte i_t_begin i_t_value i_t_token i_t_got i_t_orders i_t_outputMany i_t_w q2 4 q28 hq28) tm_1256 tm_1258 sl_26 tm_15 tm_1259 na_Md_of ⟨Nat.le_of_ble_eq_true rfl, Nat.le_of_ble_eq_true rfl⟩ rfl [0, 1] rfl rfl rfl (ws' := wd_Md_isPossible cI a_t a_t_w a_t_wKept a_t_saved a_t_past a_t_input a_t_n a_t_order a_t_numbers a_t_output i_t_pastMany i_t_isSaved i_t_thrown i_t_inputMany i_t_lastError i_t_lastOffset i_t_error i_t_offset i_t_nextByte i_t_begin i_t_value i_t_token i_t_got i_t_orders i_t_outputMany i_t_w) rfl 0 11 rfl rfl rfl (st := []) rfl (Nat.le_of_ble_eq_true rfl) rd_Md_isPossible_28 ?_ ⟨Nat.le_of_ble_eq_true rfl, Nat.le_of_ble_eq_true rfl⟩
    obtain ⟨q31, hq31, hf⟩ := jk_bind_h hf
    refine jk_callSi C hZ.1 hz (ct_Md_power l D Z sq hZ cI cR q28 q31 hq31) tm_1260 tm_1261 tm_15 tm_1262 na_Md_power ⟨Nat.le_of_ble_eq_true rfl, Nat.le_of_ble_eq_true rfl⟩ rfl [] rfl rfl rfl (ws' := wd_Md_isPossible cI a_t a_t_w a_t_wKept a_t_saved a_t_past a_t_input a_t_n a_t_order a_t_numbers a_t_output i_t_pastMany i_t_isSaved i_t_thrown i_t_inputMany i_t_lastError i_t_lastOffset i_t_error i_t_offset i_t_nextByte i_t_begin i_t_value i_t_token i_t_got i_t_orders i_t_outputMany i_t_w) rfl (st := []) rfl (Nat.le_of_ble_eq_true rfl) rd_Md_isPossible_31 ?_ ⟨Nat.le_of_ble_eq_true rfl, Nat.le_of_ble_eq_true rfl⟩
    refine jk_istore C rd_Md_isPossible_34 (by decide) (lv' := [(4, jk_V q31), (3, jk_V q8), (2, jk_V q2), (0, .ref a_t), (1, jk_V x1)]) rfl ?_
    refine jk_iload_n C rd_Md_isPossible_36 (k := 1) rfl ?_
    refine jk_iload C rd_Md_isPossible_37 (k := 0) rfl ?_
    refine jk_idiv C rd_Md_isPossible_39 hf (fun hf => ?_)
    refine jk_aload_n C rd_Md_isPossible_40 (k := 3) rfl ?_
    refine jk_iload_n C rd_Md_isPossible_41 (k := 2) rfl ?_
    refine jk_iconst C rd_Md_isPossible_42 ?_
    obtain ⟨q43, hq43, hf⟩ := jk_bind_h hf
    refine jk_callVi C hZ.1 hz (ct_Md_of l D Z sq hZ cI cR a_t a_t_w a_t_wKept a_t_saved a_t_past a_t_input a_t_n a_t_order a_t_numbers a_t_output i_t_pastMany i_t_isSaved i_t_thrown i_t_inputMany i_t_lastError i_t_lastOffset i_t_error i_t_offset i_t_nextByte i_t_begin i_t_value i_t_token i_t_got i_t_orders i_t_outputMany i_t_w q2 3 q43 hq43) tm_1256 tm_1258 sl_26 tm_15 tm_1259 na_Md_of ⟨Nat.le_of_ble_eq_true rfl, Nat.le_of_ble_eq_true rfl⟩ rfl [0, 1] rfl rfl rfl (ws' := wd_Md_isPossible cI a_t a_t_w a_t_wKept a_t_saved a_t_past a_t_input a_t_n a_t_order a_t_numbers a_t_output i_t_pastMany i_t_isSaved i_t_thrown i_t_inputMany i_t_lastError i_t_lastOffset i_t_error i_t_offset i_t_nextByte i_t_begin i_t_value i_t_token i_t_got i_t_orders i_t_outputMany i_t_w) rfl 0 11 rfl rfl rfl (st := [jk_V (q8 / q31)]) rfl (Nat.le_of_ble_eq_true rfl) rd_Md_isPossible_43 ?_ ⟨Nat.le_of_ble_eq_true rfl, Nat.le_of_ble_eq_true rfl⟩
    refine jk_iload C rd_Md_isPossible_46 (k := 0) rfl ?_
    refine jk_idiv C rd_Md_isPossible_48 hf (fun hf => ?_)
    refine jk_icmp_ne (tgt := 56) C rd_Md_isPossible_49 (by decide) hf (fun _ hf => ?_) (fun _ hf => ?_)
    · refine jk_iconst C rd_Md_isPossible_56 ?_
      cases hf
      exact jk_zret C (Or.inl rfl) rfl rd_Md_isPossible_57 rfl
    · refine jk_iconst C rd_Md_isPossible_52 ?_
      refine jk_goto (tgt := 57) C rd_Md_isPossible_53 (by decide) ?_
      cases hf
      exact jk_zret C (Or.inr rfl) rfl rd_Md_isPossible_57 rfl
  · refine jk_iconst C rd_Md_isPossible_23 ?_
    cases hf
    exact jk_zret C (Or.inl rfl) rfl rd_Md_isPossible_24 rfl
def wd_Md_guessReason (cI : ClassId) (a_t a_t_w a_t_wKept a_t_saved a_t_past a_t_input a_t_n a_t_order a_t_numbers a_t_output : Nat) (i_t_pastMany : Int) (i_t_isSaved : Int) (i_t_thrown : Int) (i_t_inputMany : Int) (i_t_lastError : Int) (i_t_lastOffset : Int) (i_t_error : Int) (i_t_offset : Int) (i_t_nextByte : Int) (i_t_begin : Int) (i_t_value : Int) (i_t_token : Int) (i_t_got : Int) (i_t_orders : Int) (i_t_outputMany : Int) (i_t_w : (Int → Int)) : va_W := [(a_t, .inr (11, [.ref a_t_w, .ref a_t_wKept, .ref a_t_saved, .ref a_t_past, jk_V i_t_pastMany, jk_V i_t_isSaved, jk_V i_t_thrown, .ref a_t_input, jk_V i_t_inputMany, jk_V i_t_lastError, jk_V i_t_lastOffset, jk_V i_t_error, jk_V i_t_offset, jk_V i_t_nextByte, jk_V i_t_begin, jk_V i_t_value, jk_V i_t_token, jk_V i_t_got, .ref a_t_n, .ref a_t_order, .ref a_t_numbers, jk_V i_t_orders, .ref a_t_output, jk_V i_t_outputMany])), (a_t_w, jk_W cI 259 i_t_w)]
set_option maxHeartbeats 4000000 in
set_option maxRecDepth 20000 in
theorem ct_Md_guessReason (l : Launch) (D : va_G) (Z : (Nat → Prop) → State → Heap → Prop) (sq : Nat → Nat) (hZ : jk_ZK Z sq) (cI cR : ClassId) (a_t a_t_w a_t_wKept a_t_saved a_t_past a_t_input a_t_n a_t_order a_t_numbers a_t_output : Nat) (i_t_pastMany : Int) (i_t_isSaved : Int) (i_t_thrown : Int) (i_t_inputMany : Int) (i_t_lastError : Int) (i_t_lastOffset : Int) (i_t_error : Int) (i_t_offset : Int) (i_t_nextByte : Int) (i_t_begin : Int) (i_t_value : Int) (i_t_token : Int) (i_t_got : Int) (i_t_orders : Int) (i_t_outputMany : Int) (i_t_w : (Int → Int)) (x1 : Int) (q : Int) (hf : fn_Md_guessReason i_t_w x1 = some q) : jk_MI l D jk_cl (jk_ty cI cR) Z mn_Md_guessReason (.code mn_Md_guessReason mb_Md_guessReason 3 (some .int) :: jk_WA) (jk_rm 8 177) [.ref a_t, jk_V x1] (wd_Md_guessReason cI a_t a_t_w a_t_wKept a_t_saved a_t_past a_t_input a_t_n a_t_order a_t_numbers a_t_output i_t_pastMany i_t_isSaved i_t_thrown i_t_inputMany i_t_lastError i_t_lastOffset i_t_error i_t_offset i_t_nextByte i_t_begin i_t_value i_t_token i_t_got i_t_orders i_t_outputMany i_t_w) (wd_Md_guessReason cI a_t a_t_w a_t_wKept a_t_saved a_t_past a_t_input a_t_n a_t_order a_t_numbers a_t_output i_t_pastMany i_t_isSaved i_t_thrown i_t_inputMany i_t_lastError i_t_lastOffset i_t_error i_t_offset i_t_nextByte i_t_begin i_t_value i_t_token i_t_got i_t_orders i_t_outputMany i_t_w) q := by
  intro sz
  refine jk_body (by decide +kernel) (fun p e s m args below meth c hsz hz hin C => ?_) (Nat.le_of_ble_eq_true rfl)
  subst hsz
  unfold fn_Md_guessReason at hf
  refine jk_aload_n C rd_Md_guessReason_0 (k := 0) rfl ?_
  refine jk_iload_n C rd_Md_guessReason_1 (k := 1) rfl ?_
  obtain ⟨q2, hq2, hf⟩ := jk_bind_h hf
  refine jk_callVi C hZ.1 hz (ct_Md_hasTop l D Z sq hZ cI cR a_t a_t_w a_t_wKept a_t_saved a_t_past a_t_input a_t_n a_t_order a_t_numbers a_t_output i_t_pastMany i_t_isSaved i_t_thrown i_t_inputMany i_t_lastError i_t_lastOffset i_t_error i_t_offset i_t_nextByte i_t_begin i_t_value i_t_token i_t_got i_t_orders i_t_outputMany i_t_w x1 q2 hq2) tm_1429 tm_1431 sl_43 tm_15 tm_1432 na_Md_hasTop ⟨Nat.le_of_ble_eq_true rfl, Nat.le_of_ble_eq_true rfl⟩ rfl [0, 1] rfl rfl rfl (ws' := wd_Md_guessReason cI a_t a_t_w a_t_wKept a_t_saved a_t_past a_t_input a_t_n a_t_order a_t_numbers a_t_output i_t_pastMany i_t_isSaved i_t_thrown i_t_inputMany i_t_lastError i_t_lastOffset i_t_error i_t_offset i_t_nextByte i_t_begin i_t_value i_t_token i_t_got i_t_orders i_t_outputMany i_t_w) rfl 0 11 rfl rfl rfl (st := []) rfl (Nat.le_of_ble_eq_true rfl) rd_Md_guessReason_2 ?_ ⟨Nat.le_of_ble_eq_true rfl, Nat.le_of_ble_eq_true rfl⟩
  refine jk_if_ne (tgt := 10) C rd_Md_guessReason_5 (by decide) hf (fun _ hf => ?_) (fun _ hf => ?_)
  · refine jk_aload_n C rd_Md_guessReason_10 (k := 0) rfl ?_
    refine jk_iload_n C rd_Md_guessReason_11 (k := 1) rfl ?_
    obtain ⟨q12, hq12, hf⟩ := jk_bind_h hf
    refine jk_callVi C hZ.1 hz (ct_Md_nibbledIn l D Z sq hZ cI cR a_t a_t_w a_t_wKept a_t_saved a_t_past a_t_input a_t_n a_t_order a_t_numbers a_t_output i_t_pastMany i_t_isSaved i_t_thrown i_t_inputMany i_t_lastError i_t_lastOffset i_t_error i_t_offset i_t_nextByte i_t_begin i_t_value i_t_token i_t_got i_t_orders i_t_outputMany i_t_w x1 q12 hq12) tm_1595 tm_1597 sl_81 tm_15 tm_1598 na_Md_nibbledIn ⟨Nat.le_of_ble_eq_true rfl, Nat.le_of_ble_eq_true rfl⟩ rfl [0, 1] rfl rfl rfl (ws' := wd_Md_guessReason cI a_t a_t_w a_t_wKept a_t_saved a_t_past a_t_input a_t_n a_t_order a_t_numbers a_t_output i_t_pastMany i_t_isSaved i_t_thrown i_t_inputMany i_t_lastError i_t_lastOffset i_t_error i_t_offset i_t_nextByte i_t_begin i_t_value i_t_token i_t_got i_t_orders i_t_outputMany i_t_w) rfl 0 11 rfl rfl rfl (st := []) rfl (Nat.le_of_ble_eq_true rfl) rd_Md_guessReason_12 ?_ ⟨Nat.le_of_ble_eq_true rfl, Nat.le_of_ble_eq_true rfl⟩
    refine jk_istore_n C rd_Md_guessReason_15 (by decide) (lv' := [(2, jk_V q12), (0, .ref a_t), (1, jk_V x1)]) rfl ?_
    refine jk_iload_n C rd_Md_guessReason_16 (k := 0) rfl ?_
    refine jk_iconst C rd_Md_guessReason_17 ?_
    refine jk_icmp_eq (tgt := 31) C rd_Md_guessReason_18 (by decide) hf (fun _ hf => ?_) (fun _ hf => ?_)
    · refine jk_aload_n C rd_Md_guessReason_31 (k := 1) rfl ?_
      refine jk_iload_n C rd_Md_guessReason_32 (k := 2) rfl ?_
      obtain ⟨q33, hq33, hf⟩ := jk_bind_h hf
      refine jk_callVi C hZ.1 hz (ct_Md_isPossible l D Z sq hZ cI cR a_t a_t_w a_t_wKept a_t_saved a_t_past a_t_input a_t_n a_t_order a_t_numbers a_t_output i_t_pastMany i_t_isSaved i_t_thrown i_t_inputMany i_t_lastError i_t_lastOffset i_t_error i_t_offset i_t_nextByte i_t_begin i_t_value i_t_token i_t_got i_t_orders i_t_outputMany i_t_w x1 q33 hq33) tm_1599 tm_1601 sl_82 tm_15 tm_1602 na_Md_isPossible ⟨Nat.le_of_ble_eq_true rfl, Nat.le_of_ble_eq_true rfl⟩ rfl [0, 1] rfl rfl rfl (ws' := wd_Md_guessReason cI a_t a_t_w a_t_wKept a_t_saved a_t_past a_t_input a_t_n a_t_order a_t_numbers a_t_output i_t_pastMany i_t_isSaved i_t_thrown i_t_inputMany i_t_lastError i_t_lastOffset i_t_error i_t_offset i_t_nextByte i_t_begin i_t_value i_t_token i_t_got i_t_orders i_t_outputMany i_t_w) rfl 0 11 rfl rfl rfl (st := []) rfl (Nat.le_of_ble_eq_true rfl) rd_Md_guessReason_33 ?_ ⟨Nat.le_of_ble_eq_true rfl, Nat.le_of_ble_eq_true rfl⟩
      refine jk_if_eq (tgt := 43) C rd_Md_guessReason_36 (by decide) hf (fun _ hf => ?_) (fun _ hf => ?_)
      · refine jk_iconst C rd_Md_guessReason_43 ?_
        cases hf
        exact jk_iret C rfl rd_Md_guessReason_44 rfl
      · refine jk_iconst C rd_Md_guessReason_39 ?_
        refine jk_goto (tgt := 44) C rd_Md_guessReason_40 (by decide) ?_
        cases hf
        exact jk_iret C rfl rd_Md_guessReason_44 rfl
    · refine jk_iload_n C rd_Md_guessReason_21 (k := 0) rfl ?_
      refine jk_if_ne (tgt := 29) C rd_Md_guessReason_22 (by decide) hf (fun _ hf => ?_) (fun _ hf => ?_)
      · refine jk_iconst C rd_Md_guessReason_29 ?_
        cases hf
        exact jk_iret C rfl rd_Md_guessReason_30 rfl
      · refine jk_iconst C rd_Md_guessReason_25 ?_
        refine jk_goto (tgt := 30) C rd_Md_guessReason_26 (by decide) ?_
        cases hf
        exact jk_iret C rfl rd_Md_guessReason_30 rfl
  · refine jk_iconst C rd_Md_guessReason_8 ?_
    cases hf
    exact jk_iret C rfl rd_Md_guessReason_9 rfl
def wd_Md_repairs (cI : ClassId) (a_t a_t_w a_t_wKept a_t_saved a_t_past a_t_input a_t_n a_t_order a_t_numbers a_t_output : Nat) (i_t_pastMany : Int) (i_t_isSaved : Int) (i_t_thrown : Int) (i_t_inputMany : Int) (i_t_lastError : Int) (i_t_lastOffset : Int) (i_t_error : Int) (i_t_offset : Int) (i_t_nextByte : Int) (i_t_begin : Int) (i_t_value : Int) (i_t_token : Int) (i_t_got : Int) (i_t_orders : Int) (i_t_outputMany : Int) (i_t_w : (Int → Int)) : va_W := [(a_t, .inr (11, [.ref a_t_w, .ref a_t_wKept, .ref a_t_saved, .ref a_t_past, jk_V i_t_pastMany, jk_V i_t_isSaved, jk_V i_t_thrown, .ref a_t_input, jk_V i_t_inputMany, jk_V i_t_lastError, jk_V i_t_lastOffset, jk_V i_t_error, jk_V i_t_offset, jk_V i_t_nextByte, jk_V i_t_begin, jk_V i_t_value, jk_V i_t_token, jk_V i_t_got, .ref a_t_n, .ref a_t_order, .ref a_t_numbers, jk_V i_t_orders, .ref a_t_output, jk_V i_t_outputMany])), (a_t_w, jk_W cI 259 i_t_w)]
set_option maxHeartbeats 4000000 in
set_option maxRecDepth 20000 in
theorem ct_Md_repairs (l : Launch) (D : va_G) (Z : (Nat → Prop) → State → Heap → Prop) (sq : Nat → Nat) (hZ : jk_ZK Z sq) (cI cR : ClassId) (a_t a_t_w a_t_wKept a_t_saved a_t_past a_t_input a_t_n a_t_order a_t_numbers a_t_output : Nat) (i_t_pastMany : Int) (i_t_isSaved : Int) (i_t_thrown : Int) (i_t_inputMany : Int) (i_t_lastError : Int) (i_t_lastOffset : Int) (i_t_error : Int) (i_t_offset : Int) (i_t_nextByte : Int) (i_t_begin : Int) (i_t_value : Int) (i_t_token : Int) (i_t_got : Int) (i_t_orders : Int) (i_t_outputMany : Int) (i_t_w : (Int → Int)) (x1 : Int) (q : Int × (Int → Int)) (hf : fn_Md_repairs i_t_w x1 = some q) : jk_MI l D jk_cl (jk_ty cI cR) Z mn_Md_repairs (.code mn_Md_repairs mb_Md_repairs 4 (some .int) :: jk_WA) (jk_rm 7 153) [.ref a_t, jk_V x1] (wd_Md_repairs cI a_t a_t_w a_t_wKept a_t_saved a_t_past a_t_input a_t_n a_t_order a_t_numbers a_t_output i_t_pastMany i_t_isSaved i_t_thrown i_t_inputMany i_t_lastError i_t_lastOffset i_t_error i_t_offset i_t_nextByte i_t_begin i_t_value i_t_token i_t_got i_t_orders i_t_outputMany i_t_w) (wd_Md_repairs cI a_t a_t_w a_t_wKept a_t_saved a_t_past a_t_input a_t_n a_t_order a_t_numbers a_t_output i_t_pastMany i_t_isSaved i_t_thrown i_t_inputMany i_t_lastError i_t_lastOffset i_t_error i_t_offset i_t_nextByte i_t_begin i_t_value i_t_token i_t_got i_t_orders i_t_outputMany q.2) q.1 := by
  intro sz
  refine jk_body (by decide +kernel) (fun p e s m args below meth c hsz hz hin C => ?_) (Nat.le_of_ble_eq_true rfl)
  subst hsz
  unfold fn_Md_repairs at hf
  refine jk_aload_n C rd_Md_repairs_0 (k := 0) rfl ?_
  refine jk_iload_n C rd_Md_repairs_1 (k := 1) rfl ?_
  obtain ⟨q2, hq2, hf⟩ := jk_bind_h hf
  refine jk_callVi C hZ.1 hz (ct_Md_guess l D Z sq hZ cI cR a_t a_t_w a_t_wKept a_t_saved a_t_past a_t_input a_t_n a_t_order a_t_numbers a_t_output i_t_pastMany i_t_isSaved i_t_thrown i_t_inputMany i_t_lastError i_t_lastOffset i_t_error i_t_offset i_t_nextByte i_t_begin i_t_value i_t_token i_t_got i_t_orders i_t_outputMany i_t_w x1 q2 hq2) tm_1607 tm_1609 sl_84 tm_15 tm_1610 na_Md_guess ⟨Nat.le_of_ble_eq_true rfl, Nat.le_of_ble_eq_true rfl⟩ rfl [0, 1] rfl rfl rfl (ws' := wd_Md_repairs cI a_t a_t_w a_t_wKept a_t_saved a_t_past a_t_input a_t_n a_t_order a_t_numbers a_t_output i_t_pastMany i_t_isSaved i_t_thrown i_t_inputMany i_t_lastError i_t_lastOffset i_t_error i_t_offset i_t_nextByte i_t_begin i_t_value i_t_token i_t_got i_t_orders i_t_outputMany i_t_w) rfl 0 11 rfl rfl rfl (st := []) rfl (Nat.le_of_ble_eq_true rfl) rd_Md_repairs_2 ?_ ⟨Nat.le_of_ble_eq_true rfl, Nat.le_of_ble_eq_true rfl⟩
  refine jk_istore_n C rd_Md_repairs_5 (by decide) (lv' := [(2, jk_V q2), (0, .ref a_t), (1, jk_V x1)]) rfl ?_
  refine jk_aload_n C rd_Md_repairs_6 (k := 1) rfl ?_
  refine jk_iload_n C rd_Md_repairs_7 (k := 2) rfl ?_
  obtain ⟨q8, hq8, hf⟩ := jk_bind_h hf
  refine jk_callVi C hZ.1 hz (ct_Md_onlyNibbled l D Z sq hZ cI cR a_t a_t_w a_t_wKept a_t_saved a_t_past a_t_input a_t_n a_t_order a_t_numbers a_t_output i_t_pastMany i_t_isSaved i_t_thrown i_t_inputMany i_t_lastError i_t_lastOffset i_t_error i_t_offset i_t_nextByte i_t_begin i_t_value i_t_token i_t_got i_t_orders i_t_outputMany i_t_w x1 q8 hq8) tm_1603 tm_1605 sl_83 tm_15 tm_1606 na_Md_onlyNibbled ⟨Nat.le_of_ble_eq_true rfl, Nat.le_of_ble_eq_true rfl⟩ rfl [0, 1] rfl rfl rfl (ws' := wd_Md_repairs cI a_t a_t_w a_t_wKept a_t_saved a_t_past a_t_input a_t_n a_t_order a_t_numbers a_t_output i_t_pastMany i_t_isSaved i_t_thrown i_t_inputMany i_t_lastError i_t_lastOffset i_t_error i_t_offset i_t_nextByte i_t_begin i_t_value i_t_token i_t_got i_t_orders i_t_outputMany i_t_w) rfl 0 11 rfl rfl rfl (st := []) rfl (Nat.le_of_ble_eq_true rfl) rd_Md_repairs_8 ?_ ⟨Nat.le_of_ble_eq_true rfl, Nat.le_of_ble_eq_true rfl⟩
  refine jk_istore_n C rd_Md_repairs_11 (by decide) (lv' := [(3, jk_V q8), (2, jk_V q2), (0, .ref a_t), (1, jk_V x1)]) rfl ?_
  refine jk_aload_n C rd_Md_repairs_12 (k := 2) rfl ?_
  refine jk_iload_n C rd_Md_repairs_13 (k := 0) rfl ?_
  refine jk_iconst C rd_Md_repairs_14 ?_
  refine jk_iload_n C rd_Md_repairs_15 (k := 1) rfl ?_
  obtain ⟨q16, hq16, hf⟩ := jk_bind_h hf
  refine jk_callVv C hZ.1 hz (ct_Md_puts l D Z sq hZ cI cR a_t a_t_w a_t_wKept a_t_saved a_t_past a_t_input a_t_n a_t_order a_t_numbers a_t_output i_t_pastMany i_t_isSaved i_t_thrown i_t_inputMany i_t_lastError i_t_lastOffset i_t_error i_t_offset i_t_nextByte i_t_begin i_t_value i_t_token i_t_got i_t_orders i_t_outputMany i_t_w q8 3 q2 q16 hq16) tm_1240 tm_1242 sl_22 tm_15 tm_1243 na_Md_puts ⟨Nat.le_of_ble_eq_true rfl, Nat.le_of_ble_eq_true rfl⟩ rfl [0, 1] rfl rfl rfl (ws' := wd_Md_repairs cI a_t a_t_w a_t_wKept a_t_saved a_t_past a_t_input a_t_n a_t_order a_t_numbers a_t_output i_t_pastMany i_t_isSaved i_t_thrown i_t_inputMany i_t_lastError i_t_lastOffset i_t_error i_t_offset i_t_nextByte i_t_begin i_t_value i_t_token i_t_got i_t_orders i_t_outputMany q16) rfl 0 11 rfl rfl rfl (st := []) rfl (Nat.le_of_ble_eq_true rfl) rd_Md_repairs_16 ?_ ⟨Nat.le_of_ble_eq_true rfl, Nat.le_of_ble_eq_true rfl⟩
  refine jk_aload_n C rd_Md_repairs_19 (k := 2) rfl ?_
  refine jk_iload_n C rd_Md_repairs_20 (k := 0) rfl ?_
  refine jk_iconst C rd_Md_repairs_21 ?_
  refine jk_iconst C rd_Md_repairs_22 ?_
  obtain ⟨q23, hq23, hf⟩ := jk_bind_h hf
  refine jk_callVv C hZ.1 hz (ct_Md_puts l D Z sq hZ cI cR a_t a_t_w a_t_wKept a_t_saved a_t_past a_t_input a_t_n a_t_order a_t_numbers a_t_output i_t_pastMany i_t_isSaved i_t_thrown i_t_inputMany i_t_lastError i_t_lastOffset i_t_error i_t_offset i_t_nextByte i_t_begin i_t_value i_t_token i_t_got i_t_orders i_t_outputMany q16 q8 4 0 q23 hq23) tm_1240 tm_1242 sl_22 tm_15 tm_1243 na_Md_puts ⟨Nat.le_of_ble_eq_true rfl, Nat.le_of_ble_eq_true rfl⟩ rfl [0, 1] rfl rfl rfl (ws' := wd_Md_repairs cI a_t a_t_w a_t_wKept a_t_saved a_t_past a_t_input a_t_n a_t_order a_t_numbers a_t_output i_t_pastMany i_t_isSaved i_t_thrown i_t_inputMany i_t_lastError i_t_lastOffset i_t_error i_t_offset i_t_nextByte i_t_begin i_t_value i_t_token i_t_got i_t_orders i_t_outputMany q23) rfl 0 11 rfl rfl rfl (st := []) rfl (Nat.le_of_ble_eq_true rfl) rd_Md_repairs_23 ?_ ⟨Nat.le_of_ble_eq_true rfl, Nat.le_of_ble_eq_true rfl⟩
  refine jk_iload_n C rd_Md_repairs_26 (k := 1) rfl ?_
  cases hf
  exact jk_iret C rfl rd_Md_repairs_27 rfl
