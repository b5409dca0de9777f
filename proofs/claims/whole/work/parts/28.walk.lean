theorem rd_Md_sumOf_0 : decode mb_Md_sumOf 0 = .ok (.aload_n 0, 1) := by decide +kernel
theorem rd_Md_sumOf_1 : decode mb_Md_sumOf 1 = .ok (.iconst 0, 1) := by decide +kernel
theorem rd_Md_sumOf_2 : decode mb_Md_sumOf 2 = .ok (.putfield 56, 3) := by decide +kernel
theorem rd_Md_sumOf_5 : decode mb_Md_sumOf 5 = .ok (.aload_n 0, 1) := by decide +kernel
theorem rd_Md_sumOf_6 : decode mb_Md_sumOf 6 = .ok (.iload_n 1, 1) := by decide +kernel
theorem rd_Md_sumOf_7 : decode mb_Md_sumOf 7 = .ok (.invokevirtual 364, 3) := by decide +kernel
theorem rd_Md_sumOf_10 : decode mb_Md_sumOf 10 = .ok (.ifCond .ne 33, 3) := by decide +kernel
theorem rd_Md_sumOf_13 : decode mb_Md_sumOf 13 = .ok (.aload_n 0, 1) := by decide +kernel
theorem rd_Md_sumOf_14 : decode mb_Md_sumOf 14 = .ok (.aload_n 0, 1) := by decide +kernel
theorem rd_Md_sumOf_15 : decode mb_Md_sumOf 15 = .ok (.aload_n 0, 1) := by decide +kernel
theorem rd_Md_sumOf_16 : decode mb_Md_sumOf 16 = .ok (.iload_n 1, 1) := by decide +kernel
theorem rd_Md_sumOf_17 : decode mb_Md_sumOf 17 = .ok (.invokevirtual 100, 3) := by decide +kernel
theorem rd_Md_sumOf_20 : decode mb_Md_sumOf 20 = .ok (.aload_n 0, 1) := by decide +kernel
theorem rd_Md_sumOf_21 : decode mb_Md_sumOf 21 = .ok (.iload_n 1, 1) := by decide +kernel
theorem rd_Md_sumOf_22 : decode mb_Md_sumOf 22 = .ok (.invokevirtual 94, 3) := by decide +kernel
theorem rd_Md_sumOf_25 : decode mb_Md_sumOf 25 = .ok (.invokevirtual 87, 3) := by decide +kernel
theorem rd_Md_sumOf_28 : decode mb_Md_sumOf 28 = .ok (.ifCond .ne 7, 3) := by decide +kernel
theorem rd_Md_sumOf_31 : decode mb_Md_sumOf 31 = .ok (.iconst 1, 1) := by decide +kernel
theorem rd_Md_sumOf_32 : decode mb_Md_sumOf 32 = .ok (.goto 4, 3) := by decide +kernel
theorem rd_Md_sumOf_35 : decode mb_Md_sumOf 35 = .ok (.iconst 0, 1) := by decide +kernel
theorem rd_Md_sumOf_36 : decode mb_Md_sumOf 36 = .ok (.iconst 2, 1) := by decide +kernel
theorem rd_Md_sumOf_37 : decode mb_Md_sumOf 37 = .ok (.invokevirtual 345, 3) := by decide +kernel
theorem rd_Md_sumOf_40 : decode mb_Md_sumOf 40 = .ok (.ifCond .eq 5, 3) := by decide +kernel
theorem rd_Md_sumOf_43 : decode mb_Md_sumOf 43 = .ok (.iconst 0, 1) := by decide +kernel
theorem rd_Md_sumOf_44 : decode mb_Md_sumOf 44 = .ok (.ireturn, 1) := by decide +kernel
theorem rd_Md_sumOf_45 : decode mb_Md_sumOf 45 = .ok (.aload_n 0, 1) := by decide +kernel
theorem rd_Md_sumOf_46 : decode mb_Md_sumOf 46 = .ok (.iload_n 1, 1) := by decide +kernel
theorem rd_Md_sumOf_47 : decode mb_Md_sumOf 47 = .ok (.invokevirtual 106, 3) := by decide +kernel
theorem rd_Md_sumOf_50 : decode mb_Md_sumOf 50 = .ok (.ireturn, 1) := by decide +kernel
theorem rd_Md_guessIn_0 : decode mb_Md_guessIn 0 = .ok (.aload_n 0, 1) := by decide +kernel
theorem rd_Md_guessIn_1 : decode mb_Md_guessIn 1 = .ok (.iconst 0, 1) := by decide +kernel
theorem rd_Md_guessIn_2 : decode mb_Md_guessIn 2 = .ok (.putfield 56, 3) := by decide +kernel
theorem rd_Md_guessIn_5 : decode mb_Md_guessIn 5 = .ok (.aload_n 0, 1) := by decide +kernel
theorem rd_Md_guessIn_6 : decode mb_Md_guessIn 6 = .ok (.iload_n 1, 1) := by decide +kernel
theorem rd_Md_guessIn_7 : decode mb_Md_guessIn 7 = .ok (.invokevirtual 364, 3) := by decide +kernel
theorem rd_Md_guessIn_10 : decode mb_Md_guessIn 10 = .ok (.ifCond .ne 24, 3) := by decide +kernel
theorem rd_Md_guessIn_13 : decode mb_Md_guessIn 13 = .ok (.aload_n 0, 1) := by decide +kernel
theorem rd_Md_guessIn_14 : decode mb_Md_guessIn 14 = .ok (.aload_n 0, 1) := by decide +kernel
theorem rd_Md_guessIn_15 : decode mb_Md_guessIn 15 = .ok (.iload_n 1, 1) := by decide +kernel
theorem rd_Md_guessIn_16 : decode mb_Md_guessIn 16 = .ok (.invokevirtual 327, 3) := by decide +kernel
theorem rd_Md_guessIn_19 : decode mb_Md_guessIn 19 = .ok (.ifCond .eq 7, 3) := by decide +kernel
theorem rd_Md_guessIn_22 : decode mb_Md_guessIn 22 = .ok (.iconst 1, 1) := by decide +kernel
theorem rd_Md_guessIn_23 : decode mb_Md_guessIn 23 = .ok (.goto 4, 3) := by decide +kernel
theorem rd_Md_guessIn_26 : decode mb_Md_guessIn 26 = .ok (.iconst 0, 1) := by decide +kernel
theorem rd_Md_guessIn_27 : decode mb_Md_guessIn 27 = .ok (.iconst 2, 1) := by decide +kernel
theorem rd_Md_guessIn_28 : decode mb_Md_guessIn 28 = .ok (.invokevirtual 345, 3) := by decide +kernel
theorem rd_Md_guessIn_31 : decode mb_Md_guessIn 31 = .ok (.ifCond .eq 5, 3) := by decide +kernel
theorem rd_Md_guessIn_34 : decode mb_Md_guessIn 34 = .ok (.iconst 0, 1) := by decide +kernel
theorem rd_Md_guessIn_35 : decode mb_Md_guessIn 35 = .ok (.ireturn, 1) := by decide +kernel
theorem rd_Md_guessIn_36 : decode mb_Md_guessIn 36 = .ok (.aload_n 0, 1) := by decide +kernel
theorem rd_Md_guessIn_37 : decode mb_Md_guessIn 37 = .ok (.iload_n 1, 1) := by decide +kernel
theorem rd_Md_guessIn_38 : decode mb_Md_guessIn 38 = .ok (.invokevirtual 112, 3) := by decide +kernel
theorem rd_Md_guessIn_41 : decode mb_Md_guessIn 41 = .ok (.ireturn, 1) := by decide +kernel
theorem rd_Md_cordsWith_0 : decode mb_Md_cordsWith 0 = .ok (.iconst 0, 1) := by decide +kernel
theorem rd_Md_cordsWith_1 : decode mb_Md_cordsWith 1 = .ok (.istore_n 2, 1) := by decide +kernel
theorem rd_Md_cordsWith_2 : decode mb_Md_cordsWith 2 = .ok (.iconst 0, 1) := by decide +kernel
theorem rd_Md_cordsWith_3 : decode mb_Md_cordsWith 3 = .ok (.istore_n 3, 1) := by decide +kernel
theorem rd_Md_cordsWith_4 : decode mb_Md_cordsWith 4 = .ok (.iload_n 3, 1) := by decide +kernel
theorem rd_Md_cordsWith_5 : decode mb_Md_cordsWith 5 = .ok (.aload_n 0, 1) := by decide +kernel
theorem rd_Md_cordsWith_6 : decode mb_Md_cordsWith 6 = .ok (.getfield 7, 3) := by decide +kernel
theorem rd_Md_cordsWith_9 : decode mb_Md_cordsWith 9 = .ok (.iconst 2, 1) := by decide +kernel
theorem rd_Md_cordsWith_10 : decode mb_Md_cordsWith 10 = .ok (.iaload, 1) := by decide +kernel
theorem rd_Md_cordsWith_11 : decode mb_Md_cordsWith 11 = .ok (.if_icmp .ge 30, 3) := by decide +kernel
theorem rd_Md_cordsWith_14 : decode mb_Md_cordsWith 14 = .ok (.iload_n 2, 1) := by decide +kernel
theorem rd_Md_cordsWith_15 : decode mb_Md_cordsWith 15 = .ok (.aload_n 0, 1) := by decide +kernel
theorem rd_Md_cordsWith_16 : decode mb_Md_cordsWith 16 = .ok (.iload_n 3, 1) := by decide +kernel
theorem rd_Md_cordsWith_17 : decode mb_Md_cordsWith 17 = .ok (.iconst 2, 1) := by decide +kernel
theorem rd_Md_cordsWith_18 : decode mb_Md_cordsWith 18 = .ok (.invokevirtual 63, 3) := by decide +kernel
theorem rd_Md_cordsWith_21 : decode mb_Md_cordsWith 21 = .ok (.iload_n 1, 1) := by decide +kernel
theorem rd_Md_cordsWith_22 : decode mb_Md_cordsWith 22 = .ok (.if_icmp .ne 7, 3) := by decide +kernel
theorem rd_Md_cordsWith_25 : decode mb_Md_cordsWith 25 = .ok (.iconst 1, 1) := by decide +kernel
theorem rd_Md_cordsWith_26 : decode mb_Md_cordsWith 26 = .ok (.goto 4, 3) := by decide +kernel
theorem rd_Md_cordsWith_29 : decode mb_Md_cordsWith 29 = .ok (.iconst 0, 1) := by decide +kernel
theorem rd_Md_cordsWith_30 : decode mb_Md_cordsWith 30 = .ok (.invokestatic 79, 3) := by decide +kernel
theorem rd_Md_cordsWith_33 : decode mb_Md_cordsWith 33 = .ok (.iadd, 1) := by decide +kernel
theorem rd_Md_cordsWith_34 : decode mb_Md_cordsWith 34 = .ok (.istore_n 2, 1) := by decide +kernel
theorem rd_Md_cordsWith_35 : decode mb_Md_cordsWith 35 = .ok (.iinc 3 1, 3) := by decide +kernel
theorem rd_Md_cordsWith_38 : decode mb_Md_cordsWith 38 = .ok (.goto (-34), 3) := by decide +kernel
theorem rd_Md_cordsWith_41 : decode mb_Md_cordsWith 41 = .ok (.iload_n 2, 1) := by decide +kernel
theorem rd_Md_cordsWith_42 : decode mb_Md_cordsWith 42 = .ok (.ireturn, 1) := by decide +kernel
theorem rd_Md_cordsOfTopic_0 : decode mb_Md_cordsOfTopic 0 = .ok (.aload_n 0, 1) := by decide +kernel
theorem rd_Md_cordsOfTopic_1 : decode mb_Md_cordsOfTopic 1 = .ok (.iconst 0, 1) := by decide +kernel
theorem rd_Md_cordsOfTopic_2 : decode mb_Md_cordsOfTopic 2 = .ok (.putfield 56, 3) := by decide +kernel
theorem rd_Md_cordsOfTopic_5 : decode mb_Md_cordsOfTopic 5 = .ok (.aload_n 0, 1) := by decide +kernel
theorem rd_Md_cordsOfTopic_6 : decode mb_Md_cordsOfTopic 6 = .ok (.iload_n 1, 1) := by decide +kernel
theorem rd_Md_cordsOfTopic_7 : decode mb_Md_cordsOfTopic 7 = .ok (.invokevirtual 372, 3) := by decide +kernel
theorem rd_Md_cordsOfTopic_10 : decode mb_Md_cordsOfTopic 10 = .ok (.ifCond .eq 7, 3) := by decide +kernel
theorem rd_Md_cordsOfTopic_13 : decode mb_Md_cordsOfTopic 13 = .ok (.iconst 0, 1) := by decide +kernel
theorem rd_Md_cordsOfTopic_14 : decode mb_Md_cordsOfTopic 14 = .ok (.goto 8, 3) := by decide +kernel
theorem rd_Md_cordsOfTopic_17 : decode mb_Md_cordsOfTopic 17 = .ok (.aload_n 0, 1) := by decide +kernel
theorem rd_Md_cordsOfTopic_18 : decode mb_Md_cordsOfTopic 18 = .ok (.iload_n 1, 1) := by decide +kernel
theorem rd_Md_cordsOfTopic_19 : decode mb_Md_cordsOfTopic 19 = .ok (.invokevirtual 381, 3) := by decide +kernel
theorem rd_Md_cordsOfTopic_22 : decode mb_Md_cordsOfTopic 22 = .ok (.ireturn, 1) := by decide +kernel
theorem rd_Md_sumOfTopic_0 : decode mb_Md_sumOfTopic 0 = .ok (.aload_n 0, 1) := by decide +kernel
theorem rd_Md_sumOfTopic_1 : decode mb_Md_sumOfTopic 1 = .ok (.iconst 0, 1) := by decide +kernel
theorem rd_Md_sumOfTopic_2 : decode mb_Md_sumOfTopic 2 = .ok (.putfield 56, 3) := by decide +kernel
theorem rd_Md_sumOfTopic_5 : decode mb_Md_sumOfTopic 5 = .ok (.aload_n 0, 1) := by decide +kernel
theorem rd_Md_sumOfTopic_6 : decode mb_Md_sumOfTopic 6 = .ok (.iload_n 1, 1) := by decide +kernel
theorem rd_Md_sumOfTopic_7 : decode mb_Md_sumOfTopic 7 = .ok (.invokevirtual 372, 3) := by decide +kernel
theorem rd_Md_sumOfTopic_10 : decode mb_Md_sumOfTopic 10 = .ok (.ifCond .eq 5, 3) := by decide +kernel
theorem rd_Md_sumOfTopic_13 : decode mb_Md_sumOfTopic 13 = .ok (.iconst 0, 1) := by decide +kernel
theorem rd_Md_sumOfTopic_14 : decode mb_Md_sumOfTopic 14 = .ok (.ireturn, 1) := by decide +kernel
theorem rd_Md_sumOfTopic_15 : decode mb_Md_sumOfTopic 15 = .ok (.iconst 0, 1) := by decide +kernel
theorem rd_Md_sumOfTopic_16 : decode mb_Md_sumOfTopic 16 = .ok (.istore_n 2, 1) := by decide +kernel
theorem rd_Md_sumOfTopic_17 : decode mb_Md_sumOfTopic 17 = .ok (.iconst 0, 1) := by decide +kernel
theorem rd_Md_sumOfTopic_18 : decode mb_Md_sumOfTopic 18 = .ok (.istore_n 3, 1) := by decide +kernel
theorem rd_Md_sumOfTopic_19 : decode mb_Md_sumOfTopic 19 = .ok (.iload_n 3, 1) := by decide +kernel
theorem rd_Md_sumOfTopic_20 : decode mb_Md_sumOfTopic 20 = .ok (.aload_n 0, 1) := by decide +kernel
theorem rd_Md_sumOfTopic_21 : decode mb_Md_sumOfTopic 21 = .ok (.getfield 7, 3) := by decide +kernel
theorem rd_Md_sumOfTopic_24 : decode mb_Md_sumOfTopic 24 = .ok (.iconst 2, 1) := by decide +kernel
theorem rd_Md_sumOfTopic_25 : decode mb_Md_sumOfTopic 25 = .ok (.iaload, 1) := by decide +kernel
theorem rd_Md_sumOfTopic_26 : decode mb_Md_sumOfTopic 26 = .ok (.if_icmp .ge 41, 3) := by decide +kernel
theorem rd_Md_sumOfTopic_29 : decode mb_Md_sumOfTopic 29 = .ok (.iload_n 2, 1) := by decide +kernel
theorem rd_Md_sumOfTopic_30 : decode mb_Md_sumOfTopic 30 = .ok (.aload_n 0, 1) := by decide +kernel
theorem rd_Md_sumOfTopic_31 : decode mb_Md_sumOfTopic 31 = .ok (.iload_n 3, 1) := by decide +kernel
theorem rd_Md_sumOfTopic_32 : decode mb_Md_sumOfTopic 32 = .ok (.iconst 2, 1) := by decide +kernel
theorem rd_Md_sumOfTopic_33 : decode mb_Md_sumOfTopic 33 = .ok (.invokevirtual 63, 3) := by decide +kernel
theorem rd_Md_sumOfTopic_36 : decode mb_Md_sumOfTopic 36 = .ok (.iload_n 1, 1) := by decide +kernel
theorem rd_Md_sumOfTopic_37 : decode mb_Md_sumOfTopic 37 = .ok (.if_icmp .ne 21, 3) := by decide +kernel
theorem rd_Md_sumOfTopic_40 : decode mb_Md_sumOfTopic 40 = .ok (.aload_n 0, 1) := by decide +kernel
theorem rd_Md_sumOfTopic_41 : decode mb_Md_sumOfTopic 41 = .ok (.iload_n 3, 1) := by decide +kernel
theorem rd_Md_sumOfTopic_42 : decode mb_Md_sumOfTopic 42 = .ok (.iconst 1, 1) := by decide +kernel
theorem rd_Md_sumOfTopic_43 : decode mb_Md_sumOfTopic 43 = .ok (.invokevirtual 63, 3) := by decide +kernel
theorem rd_Md_sumOfTopic_46 : decode mb_Md_sumOfTopic 46 = .ok (.ifCond .le 12, 3) := by decide +kernel
theorem rd_Md_sumOfTopic_49 : decode mb_Md_sumOfTopic 49 = .ok (.aload_n 0, 1) := by decide +kernel
theorem rd_Md_sumOfTopic_50 : decode mb_Md_sumOfTopic 50 = .ok (.iload_n 3, 1) := by decide +kernel
theorem rd_Md_sumOfTopic_51 : decode mb_Md_sumOfTopic 51 = .ok (.iconst 3, 1) := by decide +kernel
theorem rd_Md_sumOfTopic_52 : decode mb_Md_sumOfTopic 52 = .ok (.invokevirtual 63, 3) := by decide +kernel
theorem rd_Md_sumOfTopic_55 : decode mb_Md_sumOfTopic 55 = .ok (.goto 4, 3) := by decide +kernel
theorem rd_Md_sumOfTopic_58 : decode mb_Md_sumOfTopic 58 = .ok (.iconst 0, 1) := by decide +kernel
theorem rd_Md_sumOfTopic_59 : decode mb_Md_sumOfTopic 59 = .ok (.iadd, 1) := by decide +kernel
theorem rd_Md_sumOfTopic_60 : decode mb_Md_sumOfTopic 60 = .ok (.istore_n 2, 1) := by decide +kernel
theorem rd_Md_sumOfTopic_61 : decode mb_Md_sumOfTopic 61 = .ok (.iinc 3 1, 3) := by decide +kernel
theorem rd_Md_sumOfTopic_64 : decode mb_Md_sumOfTopic 64 = .ok (.goto (-45), 3) := by decide +kernel
theorem rd_Md_sumOfTopic_67 : decode mb_Md_sumOfTopic 67 = .ok (.iload_n 2, 1) := by decide +kernel
theorem rd_Md_sumOfTopic_68 : decode mb_Md_sumOfTopic 68 = .ok (.ireturn, 1) := by decide +kernel
theorem rd_Md_mostUsedTopic_0 : decode mb_Md_mostUsedTopic 0 = .ok (.aload_n 0, 1) := by decide +kernel
theorem rd_Md_mostUsedTopic_1 : decode mb_Md_mostUsedTopic 1 = .ok (.iconst 0, 1) := by decide +kernel
theorem rd_Md_mostUsedTopic_2 : decode mb_Md_mostUsedTopic 2 = .ok (.putfield 56, 3) := by decide +kernel
theorem rd_Md_mostUsedTopic_5 : decode mb_Md_mostUsedTopic 5 = .ok (.iconst 0, 1) := by decide +kernel
theorem rd_Md_mostUsedTopic_6 : decode mb_Md_mostUsedTopic 6 = .ok (.istore_n 1, 1) := by decide +kernel
theorem rd_Md_mostUsedTopic_7 : decode mb_Md_mostUsedTopic 7 = .ok (.iconst 1, 1) := by decide +kernel
theorem rd_Md_mostUsedTopic_8 : decode mb_Md_mostUsedTopic 8 = .ok (.istore_n 2, 1) := by decide +kernel
theorem rd_Md_mostUsedTopic_9 : decode mb_Md_mostUsedTopic 9 = .ok (.iload_n 2, 1) := by decide +kernel
theorem rd_Md_mostUsedTopic_10 : decode mb_Md_mostUsedTopic 10 = .ok (.aload_n 0, 1) := by decide +kernel
theorem rd_Md_mostUsedTopic_11 : decode mb_Md_mostUsedTopic 11 = .ok (.getfield 7, 3) := by decide +kernel
theorem rd_Md_mostUsedTopic_14 : decode mb_Md_mostUsedTopic 14 = .ok (.iconst 0, 1) := by decide +kernel
theorem rd_Md_mostUsedTopic_15 : decode mb_Md_mostUsedTopic 15 = .ok (.iaload, 1) := by decide +kernel
theorem rd_Md_mostUsedTopic_16 : decode mb_Md_mostUsedTopic 16 = .ok (.if_icmp .ge 24, 3) := by decide +kernel
theorem rd_Md_mostUsedTopic_19 : decode mb_Md_mostUsedTopic 19 = .ok (.aload_n 0, 1) := by decide +kernel
theorem rd_Md_mostUsedTopic_20 : decode mb_Md_mostUsedTopic 20 = .ok (.iload_n 2, 1) := by decide +kernel
theorem rd_Md_mostUsedTopic_21 : decode mb_Md_mostUsedTopic 21 = .ok (.invokevirtual 381, 3) := by decide +kernel
theorem rd_Md_mostUsedTopic_24 : decode mb_Md_mostUsedTopic 24 = .ok (.aload_n 0, 1) := by decide +kernel
theorem rd_Md_mostUsedTopic_25 : decode mb_Md_mostUsedTopic 25 = .ok (.iload_n 1, 1) := by decide +kernel
theorem rd_Md_mostUsedTopic_26 : decode mb_Md_mostUsedTopic 26 = .ok (.invokevirtual 381, 3) := by decide +kernel
theorem rd_Md_mostUsedTopic_29 : decode mb_Md_mostUsedTopic 29 = .ok (.if_icmp .le 5, 3) := by decide +kernel
theorem rd_Md_mostUsedTopic_32 : decode mb_Md_mostUsedTopic 32 = .ok (.iload_n 2, 1) := by decide +kernel
theorem rd_Md_mostUsedTopic_33 : decode mb_Md_mostUsedTopic 33 = .ok (.istore_n 1, 1) := by decide +kernel
theorem rd_Md_mostUsedTopic_34 : decode mb_Md_mostUsedTopic 34 = .ok (.iinc 2 1, 3) := by decide +kernel
theorem rd_Md_mostUsedTopic_37 : decode mb_Md_mostUsedTopic 37 = .ok (.goto (-28), 3) := by decide +kernel
theorem rd_Md_mostUsedTopic_40 : decode mb_Md_mostUsedTopic 40 = .ok (.iload_n 1, 1) := by decide +kernel
theorem rd_Md_mostUsedTopic_41 : decode mb_Md_mostUsedTopic 41 = .ok (.ireturn, 1) := by decide +kernel
theorem rd_Md_greatestCord_0 : decode mb_Md_greatestCord 0 = .ok (.aload_n 0, 1) := by decide +kernel
theorem rd_Md_greatestCord_1 : decode mb_Md_greatestCord 1 = .ok (.iconst 0, 1) := by decide +kernel
theorem rd_Md_greatestCord_2 : decode mb_Md_greatestCord 2 = .ok (.putfield 56, 3) := by decide +kernel
theorem rd_Md_greatestCord_5 : decode mb_Md_greatestCord 5 = .ok (.iconst (-1), 1) := by decide +kernel
theorem rd_Md_greatestCord_6 : decode mb_Md_greatestCord 6 = .ok (.istore_n 1, 1) := by decide +kernel
theorem rd_Md_greatestCord_7 : decode mb_Md_greatestCord 7 = .ok (.iconst 0, 1) := by decide +kernel
theorem rd_Md_greatestCord_8 : decode mb_Md_greatestCord 8 = .ok (.istore_n 2, 1) := by decide +kernel
theorem rd_Md_greatestCord_9 : decode mb_Md_greatestCord 9 = .ok (.iload_n 2, 1) := by decide +kernel
theorem rd_Md_greatestCord_10 : decode mb_Md_greatestCord 10 = .ok (.aload_n 0, 1) := by decide +kernel
theorem rd_Md_greatestCord_11 : decode mb_Md_greatestCord 11 = .ok (.getfield 7, 3) := by decide +kernel
theorem rd_Md_greatestCord_14 : decode mb_Md_greatestCord 14 = .ok (.iconst 2, 1) := by decide +kernel
theorem rd_Md_greatestCord_15 : decode mb_Md_greatestCord 15 = .ok (.iaload, 1) := by decide +kernel
theorem rd_Md_greatestCord_16 : decode mb_Md_greatestCord 16 = .ok (.if_icmp .ge 34, 3) := by decide +kernel
theorem rd_Md_greatestCord_19 : decode mb_Md_greatestCord 19 = .ok (.iload_n 1, 1) := by decide +kernel
theorem rd_Md_greatestCord_20 : decode mb_Md_greatestCord 20 = .ok (.iconst (-1), 1) := by decide +kernel
theorem rd_Md_greatestCord_21 : decode mb_Md_greatestCord 21 = .ok (.if_icmp .eq 21, 3) := by decide +kernel
theorem rd_Md_greatestCord_24 : decode mb_Md_greatestCord 24 = .ok (.aload_n 0, 1) := by decide +kernel
theorem rd_Md_greatestCord_25 : decode mb_Md_greatestCord 25 = .ok (.iload_n 2, 1) := by decide +kernel
theorem rd_Md_greatestCord_26 : decode mb_Md_greatestCord 26 = .ok (.iconst 3, 1) := by decide +kernel
theorem rd_Md_greatestCord_27 : decode mb_Md_greatestCord 27 = .ok (.invokevirtual 63, 3) := by decide +kernel
theorem rd_Md_greatestCord_30 : decode mb_Md_greatestCord 30 = .ok (.aload_n 0, 1) := by decide +kernel
theorem rd_Md_greatestCord_31 : decode mb_Md_greatestCord 31 = .ok (.iload_n 1, 1) := by decide +kernel
theorem rd_Md_greatestCord_32 : decode mb_Md_greatestCord 32 = .ok (.iconst 3, 1) := by decide +kernel
theorem rd_Md_greatestCord_33 : decode mb_Md_greatestCord 33 = .ok (.invokevirtual 63, 3) := by decide +kernel
theorem rd_Md_greatestCord_36 : decode mb_Md_greatestCord 36 = .ok (.if_icmp .gt 6, 3) := by decide +kernel
theorem rd_Md_greatestCord_39 : decode mb_Md_greatestCord 39 = .ok (.goto 5, 3) := by decide +kernel
theorem rd_Md_greatestCord_42 : decode mb_Md_greatestCord 42 = .ok (.iload_n 2, 1) := by decide +kernel
theorem rd_Md_greatestCord_43 : decode mb_Md_greatestCord 43 = .ok (.istore_n 1, 1) := by decide +kernel
theorem rd_Md_greatestCord_44 : decode mb_Md_greatestCord 44 = .ok (.iinc 2 1, 3) := by decide +kernel
theorem rd_Md_greatestCord_47 : decode mb_Md_greatestCord 47 = .ok (.goto (-38), 3) := by decide +kernel
theorem rd_Md_greatestCord_50 : decode mb_Md_greatestCord 50 = .ok (.iload_n 1, 1) := by decide +kernel
theorem rd_Md_greatestCord_51 : decode mb_Md_greatestCord 51 = .ok (.ireturn, 1) := by decide +kernel
theorem rd_Md_totalBelow_0 : decode mb_Md_totalBelow 0 = .ok (.aload_n 0, 1) := by decide +kernel
theorem rd_Md_totalBelow_1 : decode mb_Md_totalBelow 1 = .ok (.iload_n 1, 1) := by decide +kernel
theorem rd_Md_totalBelow_2 : decode mb_Md_totalBelow 2 = .ok (.iconst 3, 1) := by decide +kernel
theorem rd_Md_totalBelow_3 : decode mb_Md_totalBelow 3 = .ok (.invokevirtual 63, 3) := by decide +kernel
theorem rd_Md_totalBelow_6 : decode mb_Md_totalBelow 6 = .ok (.istore_n 2, 1) := by decide +kernel
theorem rd_Md_totalBelow_7 : decode mb_Md_totalBelow 7 = .ok (.iload_n 1, 1) := by decide +kernel
theorem rd_Md_totalBelow_8 : decode mb_Md_totalBelow 8 = .ok (.iconst 1, 1) := by decide +kernel
theorem rd_Md_totalBelow_9 : decode mb_Md_totalBelow 9 = .ok (.iadd, 1) := by decide +kernel
theorem rd_Md_totalBelow_10 : decode mb_Md_totalBelow 10 = .ok (.istore_n 3, 1) := by decide +kernel
theorem rd_Md_totalBelow_11 : decode mb_Md_totalBelow 11 = .ok (.iload_n 3, 1) := by decide +kernel
theorem rd_Md_totalBelow_12 : decode mb_Md_totalBelow 12 = .ok (.aload_n 0, 1) := by decide +kernel
theorem rd_Md_totalBelow_13 : decode mb_Md_totalBelow 13 = .ok (.iload_n 1, 1) := by decide +kernel
theorem rd_Md_totalBelow_14 : decode mb_Md_totalBelow 14 = .ok (.invokevirtual 76, 3) := by decide +kernel
theorem rd_Md_totalBelow_17 : decode mb_Md_totalBelow 17 = .ok (.if_icmp .ge 20, 3) := by decide +kernel
theorem rd_Md_totalBelow_20 : decode mb_Md_totalBelow 20 = .ok (.iload_n 2, 1) := by decide +kernel
theorem rd_Md_totalBelow_21 : decode mb_Md_totalBelow 21 = .ok (.aload_n 0, 1) := by decide +kernel
theorem rd_Md_totalBelow_22 : decode mb_Md_totalBelow 22 = .ok (.iload_n 3, 1) := by decide +kernel
theorem rd_Md_totalBelow_23 : decode mb_Md_totalBelow 23 = .ok (.invokevirtual 384, 3) := by decide +kernel
theorem rd_Md_totalBelow_26 : decode mb_Md_totalBelow 26 = .ok (.iadd, 1) := by decide +kernel
theorem rd_Md_totalBelow_27 : decode mb_Md_totalBelow 27 = .ok (.istore_n 2, 1) := by decide +kernel
theorem rd_Md_totalBelow_28 : decode mb_Md_totalBelow 28 = .ok (.aload_n 0, 1) := by decide +kernel
theorem rd_Md_totalBelow_29 : decode mb_Md_totalBelow 29 = .ok (.iload_n 3, 1) := by decide +kernel
theorem rd_Md_totalBelow_30 : decode mb_Md_totalBelow 30 = .ok (.invokevirtual 76, 3) := by decide +kernel
theorem rd_Md_totalBelow_33 : decode mb_Md_totalBelow 33 = .ok (.istore_n 3, 1) := by decide +kernel
theorem rd_Md_totalBelow_34 : decode mb_Md_totalBelow 34 = .ok (.goto (-23), 3) := by decide +kernel
theorem rd_Md_totalBelow_37 : decode mb_Md_totalBelow 37 = .ok (.iload_n 2, 1) := by decide +kernel
theorem rd_Md_totalBelow_38 : decode mb_Md_totalBelow 38 = .ok (.ireturn, 1) := by decide +kernel
theorem rd_Md_isCordRight_0 : decode mb_Md_isCordRight 0 = .ok (.aload_n 0, 1) := by decide +kernel
theorem rd_Md_isCordRight_1 : decode mb_Md_isCordRight 1 = .ok (.iload_n 1, 1) := by decide +kernel
theorem rd_Md_isCordRight_2 : decode mb_Md_isCordRight 2 = .ok (.iconst 1, 1) := by decide +kernel
theorem rd_Md_isCordRight_3 : decode mb_Md_isCordRight 3 = .ok (.invokevirtual 63, 3) := by decide +kernel
theorem rd_Md_isCordRight_6 : decode mb_Md_isCordRight 6 = .ok (.iconst 0, 1) := by decide +kernel
theorem rd_Md_isCordRight_7 : decode mb_Md_isCordRight 7 = .ok (.iconst 3, 1) := by decide +kernel
theorem rd_Md_isCordRight_8 : decode mb_Md_isCordRight 8 = .ok (.invokestatic 115, 3) := by decide +kernel
theorem rd_Md_isCordRight_11 : decode mb_Md_isCordRight 11 = .ok (.ifCond .eq 37, 3) := by decide +kernel
theorem rd_Md_isCordRight_14 : decode mb_Md_isCordRight 14 = .ok (.aload_n 0, 1) := by decide +kernel
theorem rd_Md_isCordRight_15 : decode mb_Md_isCordRight 15 = .ok (.aload_n 0, 1) := by decide +kernel
theorem rd_Md_isCordRight_16 : decode mb_Md_isCordRight 16 = .ok (.iload_n 1, 1) := by decide +kernel
theorem rd_Md_isCordRight_17 : decode mb_Md_isCordRight 17 = .ok (.iconst 0, 1) := by decide +kernel
theorem rd_Md_isCordRight_18 : decode mb_Md_isCordRight 18 = .ok (.invokevirtual 63, 3) := by decide +kernel
theorem rd_Md_isCordRight_21 : decode mb_Md_isCordRight 21 = .ok (.invokevirtual 296, 3) := by decide +kernel
theorem rd_Md_isCordRight_24 : decode mb_Md_isCordRight 24 = .ok (.ifCond .eq 24, 3) := by decide +kernel
theorem rd_Md_isCordRight_27 : decode mb_Md_isCordRight 27 = .ok (.iload_n 1, 1) := by decide +kernel
theorem rd_Md_isCordRight_28 : decode mb_Md_isCordRight 28 = .ok (.ifCond .le 22, 3) := by decide +kernel
theorem rd_Md_isCordRight_31 : decode mb_Md_isCordRight 31 = .ok (.aload_n 0, 1) := by decide +kernel
theorem rd_Md_isCordRight_32 : decode mb_Md_isCordRight 32 = .ok (.iload_n 1, 1) := by decide +kernel
theorem rd_Md_isCordRight_33 : decode mb_Md_isCordRight 33 = .ok (.iconst 0, 1) := by decide +kernel
theorem rd_Md_isCordRight_34 : decode mb_Md_isCordRight 34 = .ok (.invokevirtual 63, 3) := by decide +kernel
theorem rd_Md_isCordRight_37 : decode mb_Md_isCordRight 37 = .ok (.aload_n 0, 1) := by decide +kernel
theorem rd_Md_isCordRight_38 : decode mb_Md_isCordRight 38 = .ok (.iload_n 1, 1) := by decide +kernel
theorem rd_Md_isCordRight_39 : decode mb_Md_isCordRight 39 = .ok (.iconst 1, 1) := by decide +kernel
theorem rd_Md_isCordRight_40 : decode mb_Md_isCordRight 40 = .ok (.isub, 1) := by decide +kernel
theorem rd_Md_isCordRight_41 : decode mb_Md_isCordRight 41 = .ok (.iconst 0, 1) := by decide +kernel
theorem rd_Md_isCordRight_42 : decode mb_Md_isCordRight 42 = .ok (.invokevirtual 63, 3) := by decide +kernel
theorem rd_Md_isCordRight_45 : decode mb_Md_isCordRight 45 = .ok (.if_icmp .ge 5, 3) := by decide +kernel
theorem rd_Md_isCordRight_48 : decode mb_Md_isCordRight 48 = .ok (.iconst 0, 1) := by decide +kernel
theorem rd_Md_isCordRight_49 : decode mb_Md_isCordRight 49 = .ok (.ireturn, 1) := by decide +kernel
theorem rd_Md_isCordRight_50 : decode mb_Md_isCordRight 50 = .ok (.aload_n 0, 1) := by decide +kernel
theorem rd_Md_isCordRight_51 : decode mb_Md_isCordRight 51 = .ok (.iload_n 1, 1) := by decide +kernel
theorem rd_Md_isCordRight_52 : decode mb_Md_isCordRight 52 = .ok (.invokevirtual 358, 3) := by decide +kernel
theorem rd_Md_isCordRight_55 : decode mb_Md_isCordRight 55 = .ok (.aload_n 0, 1) := by decide +kernel
theorem rd_Md_isCordRight_56 : decode mb_Md_isCordRight 56 = .ok (.iload_n 1, 1) := by decide +kernel
theorem rd_Md_isCordRight_57 : decode mb_Md_isCordRight 57 = .ok (.invokevirtual 361, 3) := by decide +kernel
theorem rd_Md_isCordRight_60 : decode mb_Md_isCordRight 60 = .ok (.if_icmp .ne 7, 3) := by decide +kernel
theorem rd_Md_isCordRight_63 : decode mb_Md_isCordRight 63 = .ok (.iconst 1, 1) := by decide +kernel
theorem rd_Md_isCordRight_64 : decode mb_Md_isCordRight 64 = .ok (.goto 4, 3) := by decide +kernel
theorem rd_Md_isCordRight_67 : decode mb_Md_isCordRight 67 = .ok (.iconst 0, 1) := by decide +kernel
theorem rd_Md_isCordRight_68 : decode mb_Md_isCordRight 68 = .ok (.aload_n 0, 1) := by decide +kernel
theorem rd_Md_isCordRight_69 : decode mb_Md_isCordRight 69 = .ok (.iload_n 1, 1) := by decide +kernel
theorem rd_Md_isCordRight_70 : decode mb_Md_isCordRight 70 = .ok (.invokevirtual 378, 3) := by decide +kernel
theorem rd_Md_isCordRight_73 : decode mb_Md_isCordRight 73 = .ok (.if_icmp .ne 20, 3) := by decide +kernel
theorem rd_Md_isCordRight_76 : decode mb_Md_isCordRight 76 = .ok (.aload_n 0, 1) := by decide +kernel
theorem rd_Md_isCordRight_77 : decode mb_Md_isCordRight 77 = .ok (.iload_n 1, 1) := by decide +kernel
theorem rd_Md_isCordRight_78 : decode mb_Md_isCordRight 78 = .ok (.invokevirtual 384, 3) := by decide +kernel
theorem rd_Md_isCordRight_81 : decode mb_Md_isCordRight 81 = .ok (.aload_n 0, 1) := by decide +kernel
theorem rd_Md_isCordRight_82 : decode mb_Md_isCordRight 82 = .ok (.iload_n 1, 1) := by decide +kernel
theorem rd_Md_isCordRight_83 : decode mb_Md_isCordRight 83 = .ok (.invokevirtual 358, 3) := by decide +kernel
theorem rd_Md_isCordRight_86 : decode mb_Md_isCordRight 86 = .ok (.if_icmp .ne 7, 3) := by decide +kernel
theorem rd_Md_isCordRight_89 : decode mb_Md_isCordRight 89 = .ok (.iconst 1, 1) := by decide +kernel
theorem rd_Md_isCordRight_90 : decode mb_Md_isCordRight 90 = .ok (.goto 4, 3) := by decide +kernel
theorem rd_Md_isCordRight_93 : decode mb_Md_isCordRight 93 = .ok (.iconst 0, 1) := by decide +kernel
theorem rd_Md_isCordRight_94 : decode mb_Md_isCordRight 94 = .ok (.ireturn, 1) := by decide +kernel
def wd_Md_sumOf (cI : ClassId) (a_t a_t_w a_t_wKept a_t_saved a_t_past a_t_input a_t_n a_t_order a_t_numbers a_t_output : Nat) (i_t_pastMany : Int) (i_t_isSaved : Int) (i_t_thrown : Int) (i_t_inputMany : Int) (i_t_lastError : Int) (i_t_lastOffset : Int) (i_t_error : Int) (i_t_offset : Int) (i_t_nextByte : Int) (i_t_begin : Int) (i_t_value : Int) (i_t_token : Int) (i_t_got : Int) (i_t_orders : Int) (i_t_outputMany : Int) (i_t_w : (Int → Int)) : va_W := [(a_t, .inr (11, [.ref a_t_w, .ref a_t_wKept, .ref a_t_saved, .ref a_t_past, jk_V i_t_pastMany, jk_V i_t_isSaved, jk_V i_t_thrown, .ref a_t_input, jk_V i_t_inputMany, jk_V i_t_lastError, jk_V i_t_lastOffset, jk_V i_t_error, jk_V i_t_offset, jk_V i_t_nextByte, jk_V i_t_begin, jk_V i_t_value, jk_V i_t_token, jk_V i_t_got, .ref a_t_n, .ref a_t_order, .ref a_t_numbers, jk_V i_t_orders, .ref a_t_output, jk_V i_t_outputMany])), (a_t_w, jk_W cI 259 i_t_w)]
set_option maxHeartbeats 4000000 in
set_option maxRecDepth 20000 in
theorem ct_Md_sumOf (l : Launch) (D : va_G) (Z : (Nat → Prop) → State → Heap → Prop) (sq : Nat → Nat) (hZ : jk_ZK Z sq) (cI cR : ClassId) (a_t a_t_w a_t_wKept a_t_saved a_t_past a_t_input a_t_n a_t_order a_t_numbers a_t_output : Nat) (i_t_pastMany : Int) (i_t_isSaved : Int) (i_t_thrown : Int) (i_t_inputMany : Int) (i_t_lastError : Int) (i_t_lastOffset : Int) (i_t_error : Int) (i_t_offset : Int) (i_t_nextByte : Int) (i_t_begin : Int) (i_t_value : Int) (i_t_token : Int) (i_t_got : Int) (i_t_orders : Int) (i_t_outputMany : Int) (i_t_w : (Int → Int)) (x1 : Int) (q : Int × Int) (hf : fn_Md_sumOf i_t_w i_t_thrown x1 = some q) : jk_MI l D jk_cl (jk_ty cI cR) Z mn_Md_sumOf (.code mn_Md_sumOf mb_Md_sumOf 2 (some .int) :: jk_WA) (jk_rm 6 131) [.ref a_t, jk_V x1] (wd_Md_sumOf cI a_t a_t_w a_t_wKept a_t_saved a_t_past a_t_input a_t_n a_t_order a_t_numbers a_t_output i_t_pastMany i_t_isSaved i_t_thrown i_t_inputMany i_t_lastError i_t_lastOffset i_t_error i_t_offset i_t_nextByte i_t_begin i_t_value i_t_token i_t_got i_t_orders i_t_outputMany i_t_w) (wd_Md_sumOf cI a_t a_t_w a_t_wKept a_t_saved a_t_past a_t_input a_t_n a_t_order a_t_numbers a_t_output i_t_pastMany i_t_isSaved q.2 i_t_inputMany i_t_lastError i_t_lastOffset i_t_error i_t_offset i_t_nextByte i_t_begin i_t_value i_t_token i_t_got i_t_orders i_t_outputMany i_t_w) q.1 := by
  intro sz
  refine jk_body (by decide +kernel) (fun p e s m args below meth c hsz hz hin C => ?_) (Nat.le_of_ble_eq_true rfl)
  subst hsz
  unfold fn_Md_sumOf at hf
  refine jk_aload_n C rd_Md_sumOf_0 (k := 0) rfl ?_
  refine jk_iconst C rd_Md_sumOf_1 ?_
  refine jk_putf C in_Md ty_Md nm_Md (ci := 11) rfl 6 (by decide) tm_1269 rfl rfl rfl 0 rfl (Nat.le_of_ble_eq_true rfl) rd_Md_sumOf_2 (ws' := wd_Md_sumOf cI a_t a_t_w a_t_wKept a_t_saved a_t_past a_t_input a_t_n a_t_order a_t_numbers a_t_output i_t_pastMany i_t_isSaved 0 i_t_inputMany i_t_lastError i_t_lastOffset i_t_error i_t_offset i_t_nextByte i_t_begin i_t_value i_t_token i_t_got i_t_orders i_t_outputMany i_t_w) rfl ?_
  refine jk_aload_n C rd_Md_sumOf_5 (k := 0) rfl ?_
  refine jk_iload_n C rd_Md_sumOf_6 (k := 1) rfl ?_
  obtain ⟨q7, hq7, hf⟩ := jk_bind_h hf
  refine jk_callVi C hZ.1 hz (ct_Md_noCluster l D Z sq hZ cI cR a_t a_t_w a_t_wKept a_t_saved a_t_past a_t_input a_t_n a_t_order a_t_numbers a_t_output i_t_pastMany i_t_isSaved 0 i_t_inputMany i_t_lastError i_t_lastOffset i_t_error i_t_offset i_t_nextByte i_t_begin i_t_value i_t_token i_t_got i_t_orders i_t_outputMany i_t_w x1 q7 hq7) tm_1699 tm_1701 sl_92 tm_15 tm_1702 na_Md_noCluster ⟨Nat.le_of_ble_eq_true rfl, Nat.le_of_ble_eq_true rfl⟩ rfl [0, 1] rfl rfl rfl (ws' := wd_Md_sumOf cI a_t a_t_w a_t_wKept a_t_saved a_t_past a_t_input a_t_n a_t_order a_t_numbers a_t_output i_t_pastMany i_t_isSaved q7.2 i_t_inputMany i_t_lastError i_t_lastOffset i_t_error i_t_offset i_t_nextByte i_t_begin i_t_value i_t_token i_t_got i_t_orders i_t_outputMany i_t_w) rfl 0 11 rfl rfl rfl (st := []) rfl (Nat.le_of_ble_eq_true rfl) rd_Md_sumOf_7 ?_ ⟨Nat.le_of_ble_eq_true rfl, Nat.le_of_ble_eq_true rfl⟩
  refine jk_if_ne (tgt := 43) C rd_Md_sumOf_10 (by decide) hf (fun _ hf => ?_) (fun _ hf => ?_)
  · refine jk_iconst C rd_Md_sumOf_43 ?_
    cases hf
    exact jk_iret C rfl rd_Md_sumOf_44 rfl
  · refine jk_aload_n C rd_Md_sumOf_13 (k := 0) rfl ?_
    refine jk_aload_n C rd_Md_sumOf_14 (k := 0) rfl ?_
    refine jk_aload_n C rd_Md_sumOf_15 (k := 0) rfl ?_
    refine jk_iload_n C rd_Md_sumOf_16 (k := 1) rfl ?_
    obtain ⟨q17, hq17, hf⟩ := jk_bind_h hf
    refine jk_callVi C hZ.1 hz (ct_Md_pendantsFrom l D Z sq hZ cI cR a_t a_t_w a_t_wKept a_t_saved a_t_past a_t_input a_t_n a_t_order a_t_numbers a_t_output i_t_pastMany i_t_isSaved q7.2 i_t_inputMany i_t_lastError i_t_lastOffset i_t_error i_t_offset i_t_nextByte i_t_begin i_t_value i_t_token i_t_got i_t_orders i_t_outputMany i_t_w x1 q17 hq17) tm_1575 tm_1577 sl_76 tm_15 tm_1578 na_Md_pendantsFrom ⟨Nat.le_of_ble_eq_true rfl, Nat.le_of_ble_eq_true rfl⟩ rfl [0, 1] rfl rfl rfl (ws' := wd_Md_sumOf cI a_t a_t_w a_t_wKept a_t_saved a_t_past a_t_input a_t_n a_t_order a_t_numbers a_t_output i_t_pastMany i_t_isSaved q7.2 i_t_inputMany i_t_lastError i_t_lastOffset i_t_error i_t_offset i_t_nextByte i_t_begin i_t_value i_t_token i_t_got i_t_orders i_t_outputMany i_t_w) rfl 0 11 rfl rfl rfl (st := [.ref a_t, .ref a_t]) rfl (Nat.le_of_ble_eq_true rfl) rd_Md_sumOf_17 ?_ ⟨Nat.le_of_ble_eq_true rfl, Nat.le_of_ble_eq_true rfl⟩
    refine jk_aload_n C rd_Md_sumOf_20 (k := 0) rfl ?_
    refine jk_iload_n C rd_Md_sumOf_21 (k := 1) rfl ?_
    obtain ⟨q22, hq22, hf⟩ := jk_bind_h hf
    refine jk_callVi C hZ.1 hz (ct_Md_end l D Z sq hZ cI cR a_t a_t_w a_t_wKept a_t_saved a_t_past a_t_input a_t_n a_t_order a_t_numbers a_t_output i_t_pastMany i_t_isSaved q7.2 i_t_inputMany i_t_lastError i_t_lastOffset i_t_error i_t_offset i_t_nextByte i_t_begin i_t_value i_t_token i_t_got i_t_orders i_t_outputMany i_t_w x1 q22 hq22) tm_1437 tm_1439 sl_45 tm_15 tm_1440 na_Md_end ⟨Nat.le_of_ble_eq_true rfl, Nat.le_of_ble_eq_true rfl⟩ rfl [0, 1] rfl rfl rfl (ws' := wd_Md_sumOf cI a_t a_t_w a_t_wKept a_t_saved a_t_past a_t_input a_t_n a_t_order a_t_numbers a_t_output i_t_pastMany i_t_isSaved q7.2 i_t_inputMany i_t_lastError i_t_lastOffset i_t_error i_t_offset i_t_nextByte i_t_begin i_t_value i_t_token i_t_got i_t_orders i_t_outputMany i_t_w) rfl 0 11 rfl rfl rfl (st := [jk_V q17, .ref a_t, .ref a_t]) rfl (Nat.le_of_ble_eq_true rfl) rd_Md_sumOf_22 ?_ ⟨Nat.le_of_ble_eq_true rfl, Nat.le_of_ble_eq_true rfl⟩
    obtain ⟨q25, hq25, hf⟩ := jk_bind_h hf
    refine jk_callVi C hZ.1 hz (ct_Md_isWholeFrom l D Z sq hZ cI cR a_t a_t_w a_t_wKept a_t_saved a_t_past a_t_input a_t_n a_t_order a_t_numbers a_t_output i_t_pastMany i_t_isSaved q7.2 i_t_inputMany i_t_lastError i_t_lastOffset i_t_error i_t_offset i_t_nextByte i_t_begin i_t_value i_t_token i_t_got i_t_orders i_t_outputMany i_t_w q17 q22 q25 hq25) tm_1563 tm_1565 sl_73 tm_15 tm_1566 na_Md_isWholeFrom ⟨Nat.le_of_ble_eq_true rfl, Nat.le_of_ble_eq_true rfl⟩ rfl [0, 1] rfl rfl rfl (ws' := wd_Md_sumOf cI a_t a_t_w a_t_wKept a_t_saved a_t_past a_t_input a_t_n a_t_order a_t_numbers a_t_output i_t_pastMany i_t_isSaved q7.2 i_t_inputMany i_t_lastError i_t_lastOffset i_t_error i_t_offset i_t_nextByte i_t_begin i_t_value i_t_token i_t_got i_t_orders i_t_outputMany i_t_w) rfl 0 11 rfl rfl rfl (st := [.ref a_t]) rfl (Nat.le_of_ble_eq_true rfl) rd_Md_sumOf_25 ?_ ⟨Nat.le_of_ble_eq_true rfl, Nat.le_of_ble_eq_true rfl⟩
    refine jk_if_ne (tgt := 35) C rd_Md_sumOf_28 (by decide) hf (fun _ hf => ?_) (fun _ hf => ?_)
    · refine jk_iconst C rd_Md_sumOf_35 ?_
      refine jk_iconst C rd_Md_sumOf_36 ?_
      obtain ⟨q37, hq37, hf⟩ := jk_bind_h hf
      refine jk_callVi C hZ.1 hz (ct_Md_fails l D Z sq hZ cI cR a_t a_t_w a_t_wKept a_t_saved a_t_past a_t_input a_t_n a_t_order a_t_numbers a_t_output i_t_pastMany i_t_isSaved q7.2 i_t_inputMany i_t_lastError i_t_lastOffset i_t_error i_t_offset i_t_nextByte i_t_begin i_t_value i_t_token i_t_got i_t_orders i_t_outputMany 0 2 q37 hq37) tm_1643 tm_1645 sl_87 tm_15 tm_1646 na_Md_fails ⟨Nat.le_of_ble_eq_true rfl, Nat.le_of_ble_eq_true rfl⟩ rfl [0] rfl rfl rfl (ws' := wd_Md_sumOf cI a_t a_t_w a_t_wKept a_t_saved a_t_past a_t_input a_t_n a_t_order a_t_numbers a_t_output i_t_pastMany i_t_isSaved q37.2 i_t_inputMany i_t_lastError i_t_lastOffset i_t_error i_t_offset i_t_nextByte i_t_begin i_t_value i_t_token i_t_got i_t_orders i_t_outputMany i_t_w) rfl 0 11 rfl rfl rfl (st := []) rfl (Nat.le_of_ble_eq_true rfl) rd_Md_sumOf_37 ?_ ⟨Nat.le_of_ble_eq_true rfl, Nat.le_of_ble_eq_true rfl⟩
      refine jk_if_eq (tgt := 45) C rd_Md_sumOf_40 (by decide) hf (fun _ hf => ?_) (fun _ hf => ?_)
      · refine jk_aload_n C rd_Md_sumOf_45 (k := 0) rfl ?_
        refine jk_iload_n C rd_Md_sumOf_46 (k := 1) rfl ?_
        obtain ⟨q47, hq47, hf⟩ := jk_bind_h hf
        refine jk_callVi C hZ.1 hz (ct_Md_knownSum l D Z sq hZ cI cR a_t a_t_w a_t_wKept a_t_saved a_t_past a_t_input a_t_n a_t_order a_t_numbers a_t_output i_t_pastMany i_t_isSaved q37.2 i_t_inputMany i_t_lastError i_t_lastOffset i_t_error i_t_offset i_t_nextByte i_t_begin i_t_value i_t_token i_t_got i_t_orders i_t_outputMany i_t_w x1 q47 hq47) tm_1571 tm_1573 sl_75 tm_15 tm_1574 na_Md_knownSum ⟨Nat.le_of_ble_eq_true rfl, Nat.le_of_ble_eq_true rfl⟩ rfl [0, 1] rfl rfl rfl (ws' := wd_Md_sumOf cI a_t a_t_w a_t_wKept a_t_saved a_t_past a_t_input a_t_n a_t_order a_t_numbers a_t_output i_t_pastMany i_t_isSaved q37.2 i_t_inputMany i_t_lastError i_t_lastOffset i_t_error i_t_offset i_t_nextByte i_t_begin i_t_value i_t_token i_t_got i_t_orders i_t_outputMany i_t_w) rfl 0 11 rfl rfl rfl (st := []) rfl (Nat.le_of_ble_eq_true rfl) rd_Md_sumOf_47 ?_ ⟨Nat.le_of_ble_eq_true rfl, Nat.le_of_ble_eq_true rfl⟩
        cases hf
        exact jk_iret C rfl rd_Md_sumOf_50 rfl
      · refine jk_iconst C rd_Md_sumOf_43 ?_
        cases hf
        exact jk_iret C rfl rd_Md_sumOf_44 rfl
    · refine jk_iconst C rd_Md_sumOf_31 ?_
      refine jk_goto (tgt := 36) C rd_Md_sumOf_32 (by decide) ?_
      refine jk_iconst C rd_Md_sumOf_36 ?_
      obtain ⟨q37, hq37, hf⟩ := jk_bind_h hf
      refine jk_callVi C hZ.1 hz (ct_Md_fails l D Z sq hZ cI cR a_t a_t_w a_t_wKept a_t_saved a_t_past a_t_input a_t_n a_t_order a_t_numbers a_t_output i_t_pastMany i_t_isSaved q7.2 i_t_inputMany i_t_lastError i_t_lastOffset i_t_error i_t_offset i_t_nextByte i_t_begin i_t_value i_t_token i_t_got i_t_orders i_t_outputMany 1 2 q37 hq37) tm_1643 tm_1645 sl_87 tm_15 tm_1646 na_Md_fails ⟨Nat.le_of_ble_eq_true rfl, Nat.le_of_ble_eq_true rfl⟩ rfl [0] rfl rfl rfl (ws' := wd_Md_sumOf cI a_t a_t_w a_t_wKept a_t_saved a_t_past a_t_input a_t_n a_t_order a_t_numbers a_t_output i_t_pastMany i_t_isSaved q37.2 i_t_inputMany i_t_lastError i_t_lastOffset i_t_error i_t_offset i_t_nextByte i_t_begin i_t_value i_t_token i_t_got i_t_orders i_t_outputMany i_t_w) rfl 0 11 rfl rfl rfl (st := []) rfl (Nat.le_of_ble_eq_true rfl) rd_Md_sumOf_37 ?_ ⟨Nat.le_of_ble_eq_true rfl, Nat.le_of_ble_eq_true rfl⟩
      refine jk_if_eq (tgt := 45) C rd_Md_sumOf_40 (by decide) hf (fun _ hf => ?_) (fun _ hf => ?_)
      · refine jk_aload_n C rd_Md_sumOf_45 (k := 0) rfl ?_
        refine jk_iload_n C rd_Md_sumOf_46 (k := 1) rfl ?_
        obtain ⟨q47, hq47, hf⟩ := jk_bind_h hf
        refine jk_callVi C hZ.1 hz (ct_Md_knownSum l D Z sq hZ cI cR a_t a_t_w a_t_wKept a_t_saved a_t_past a_t_input a_t_n a_t_order a_t_numbers a_t_output i_t_pastMany i_t_isSaved q37.2 i_t_inputMany i_t_lastError i_t_lastOffset i_t_error i_t_offset i_t_nextByte i_t_begin i_t_value i_t_token i_t_got i_t_orders i_t_outputMany i_t_w x1 q47 hq47) tm_1571 tm_1573 sl_75 tm_15 tm_1574 na_Md_knownSum ⟨Nat.le_of_ble_eq_true rfl, Nat.le_of_ble_eq_true rfl⟩ rfl [0, 1] rfl rfl rfl (ws' := wd_Md_sumOf cI a_t a_t_w a_t_wKept a_t_saved a_t_past a_t_input a_t_n a_t_order a_t_numbers a_t_output i_t_pastMany i_t_isSaved q37.2 i_t_inputMany i_t_lastError i_t_lastOffset i_t_error i_t_offset i_t_nextByte i_t_begin i_t_value i_t_token i_t_got i_t_orders i_t_outputMany i_t_w) rfl 0 11 rfl rfl rfl (st := []) rfl (Nat.le_of_ble_eq_true rfl) rd_Md_sumOf_47 ?_ ⟨Nat.le_of_ble_eq_true rfl, Nat.le_of_ble_eq_true rfl⟩
        cases hf
        exact jk_iret C rfl rd_Md_sumOf_50 rfl
      · refine jk_iconst C rd_Md_sumOf_43 ?_
        cases hf
        exact jk_iret C rfl rd_Md_sumOf_44 rfl
def wd_Md_guessIn (cI : ClassId) (a_t a_t_w a_t_wKept a_t_saved a_t_past a_t_input a_t_n a_t_order a_t_numbers a_t_output : Nat) (i_t_pastMany : Int) (i_t_isSaved : Int) (i_t_thrown : Int) (i_t_inputMany : Int) (i_t_lastError : Int) (i_t_lastOffset : Int) (i_t_error : Int) (i_t_offset : Int) (i_t_nextByte : Int) (i_t_begin : Int) (i_t_value : Int) (i_t_token : Int) (i_t_got : Int) (i_t_orders : Int) (i_t_outputMany : Int) (i_t_w : (Int → Int)) : va_W := [(a_t, .inr (11, [.ref a_t_w, .ref a_t_wKept, .ref a_t_saved, .ref a_t_past, jk_V i_t_pastMany, jk_V i_t_isSaved, jk_V i_t_thrown, .ref a_t_input, jk_V i_t_inputMany, jk_V i_t_lastError, jk_V i_t_lastOffset, jk_V i_t_error, jk_V i_t_offset, jk_V i_t_nextByte, jk_V i_t_begin, jk_V i_t_value, jk_V i_t_token, jk_V i_t_got, .ref a_t_n, .ref a_t_order, .ref a_t_numbers, jk_V i_t_orders, .ref a_t_output, jk_V i_t_outputMany])), (a_t_w, jk_W cI 259 i_t_w)]
set_option maxHeartbeats 4000000 in
set_option maxRecDepth 20000 in
theorem ct_Md_guessIn (l : Launch) (D : va_G) (Z : (Nat → Prop) → State → Heap → Prop) (sq : Nat → Nat) (hZ : jk_ZK Z sq) (cI cR : ClassId) (a_t a_t_w a_t_wKept a_t_saved a_t_past a_t_input a_t_n a_t_order a_t_numbers a_t_output : Nat) (i_t_pastMany : Int) (i_t_isSaved : Int) (i_t_thrown : Int) (i_t_inputMany : Int) (i_t_lastError : Int) (i_t_lastOffset : Int) (i_t_error : Int) (i_t_offset : Int) (i_t_nextByte : Int) (i_t_begin : Int) (i_t_value : Int) (i_t_token : Int) (i_t_got : Int) (i_t_orders : Int) (i_t_outputMany : Int) (i_t_w : (Int → Int)) (x1 : Int) (q : Int × Int) (hf : fn_Md_guessIn i_t_w i_t_thrown x1 = some q) : jk_MI l D jk_cl (jk_ty cI cR) Z mn_Md_guessIn (.code mn_Md_guessIn mb_Md_guessIn 2 (some .int) :: jk_WA) (jk_rm 9 199) [.ref a_t, jk_V x1] (wd_Md_guessIn cI a_t a_t_w a_t_wKept a_t_saved a_t_past a_t_input a_t_n a_t_order a_t_numbers a_t_output i_t_pastMany i_t_isSaved i_t_thrown i_t_inputMany i_t_lastError i_t_lastOffset i_t_error i_t_offset i_t_nextByte i_t_begin i_t_value i_t_token i_t_got i_t_orders i_t_outputMany i_t_w) (wd_Md_guessIn cI a_t a_t_w a_t_wKept a_t_saved a_t_past a_t_input a_t_n a_t_order a_t_numbers a_t_output i_t_pastMany i_t_isSaved q.2 i_t_inputMany i_t_lastError i_t_lastOffset i_t_error i_t_offset i_t_nextByte i_t_begin i_t_value i_t_token i_t_got i_t_orders i_t_outputMany i_t_w) q.1 := by
  intro sz
  refine jk_body (by decide +kernel) (fun p e s m args below meth c hsz hz hin C => ?_) (Nat.le_of_ble_eq_true rfl)
  subst hsz
  unfold fn_Md_guessIn at hf
  refine jk_aload_n C rd_Md_guessIn_0 (k := 0) rfl ?_
  refine jk_iconst C rd_Md_guessIn_1 ?_
  refine jk_putf C in_Md ty_Md nm_Md (ci := 11) rfl 6 (by decide) tm_1269 rfl rfl rfl 0 rfl (Nat.le_of_ble_eq_true rfl) rd_Md_guessIn_2 (ws' := wd_Md_guessIn cI a_t a_t_w a_t_wKept a_t_saved a_t_past a_t_input a_t_n a_t_order a_t_numbers a_t_output i_t_pastMany i_t_isSaved 0 i_t_inputMany i_t_lastError i_t_lastOffset i_t_error i_t_offset i_t_nextByte i_t_begin i_t_value i_t_token i_t_got i_t_orders i_t_outputMany i_t_w) rfl ?_
  refine jk_aload_n C rd_Md_guessIn_5 (k := 0) rfl ?_
  refine jk_iload_n C rd_Md_guessIn_6 (k := 1) rfl ?_
  obtain ⟨q7, hq7, hf⟩ := jk_bind_h hf
  refine jk_callVi C hZ.1 hz (ct_Md_noCluster l D Z sq hZ cI cR a_t a_t_w a_t_wKept a_t_saved a_t_past a_t_input a_t_n a_t_order a_t_numbers a_t_output i_t_pastMany i_t_isSaved 0 i_t_inputMany i_t_lastError i_t_lastOffset i_t_error i_t_offset i_t_nextByte i_t_begin i_t_value i_t_token i_t_got i_t_orders i_t_outputMany i_t_w x1 q7 hq7) tm_1699 tm_1701 sl_92 tm_15 tm_1702 na_Md_noCluster ⟨Nat.le_of_ble_eq_true rfl, Nat.le_of_ble_eq_true rfl⟩ rfl [0, 1] rfl rfl rfl (ws' := wd_Md_guessIn cI a_t a_t_w a_t_wKept a_t_saved a_t_past a_t_input a_t_n a_t_order a_t_numbers a_t_output i_t_pastMany i_t_isSaved q7.2 i_t_inputMany i_t_lastError i_t_lastOffset i_t_error i_t_offset i_t_nextByte i_t_begin i_t_value i_t_token i_t_got i_t_orders i_t_outputMany i_t_w) rfl 0 11 rfl rfl rfl (st := []) rfl (Nat.le_of_ble_eq_true rfl) rd_Md_guessIn_7 ?_ ⟨Nat.le_of_ble_eq_true rfl, Nat.le_of_ble_eq_true rfl⟩
  refine jk_if_ne (tgt := 34) C rd_Md_guessIn_10 (by decide) hf (fun _ hf => ?_) (fun _ hf => ?_)
  · refine jk_iconst C rd_Md_guessIn_34 ?_
    cases hf
    exact jk_iret C rfl rd_Md_guessIn_35 rfl
  · refine jk_aload_n C rd_Md_guessIn_13 (k := 0) rfl ?_
    refine jk_aload_n C rd_Md_guessIn_14 (k := 0) rfl ?_
    refine jk_iload_n C rd_Md_guessIn_15 (k := 1) rfl ?_
    obtain ⟨q16, hq16, hf⟩ := jk_bind_h hf
    refine jk_callVi C hZ.1 hz (ct_Md_guessReason l D Z sq hZ cI cR a_t a_t_w a_t_wKept a_t_saved a_t_past a_t_input a_t_n a_t_order a_t_numbers a_t_output i_t_pastMany i_t_isSaved q7.2 i_t_inputMany i_t_lastError i_t_lastOffset i_t_error i_t_offset i_t_nextByte i_t_begin i_t_value i_t_token i_t_got i_t_orders i_t_outputMany i_t_w x1 q16 hq16) tm_1591 tm_1593 sl_80 tm_15 tm_1594 na_Md_guessReason ⟨Nat.le_of_ble_eq_true rfl, Nat.le_of_ble_eq_true rfl⟩ rfl [0, 1] rfl rfl rfl (ws' := wd_Md_guessIn cI a_t a_t_w a_t_wKept a_t_saved a_t_past a_t_input a_t_n a_t_order a_t_numbers a_t_output i_t_pastMany i_t_isSaved q7.2 i_t_inputMany i_t_lastError i_t_lastOffset i_t_error i_t_offset i_t_nextByte i_t_begin i_t_value i_t_token i_t_got i_t_orders i_t_outputMany i_t_w) rfl 0 11 rfl rfl rfl (st := [.ref a_t]) rfl (Nat.le_of_ble_eq_true rfl) rd_Md_guessIn_16 ?_ ⟨Nat.le_of_ble_eq_true rfl, Nat.le_of_ble_eq_true rfl⟩
    refine jk_if_eq (tgt := 26) C rd_Md_guessIn_19 (by decide) hf (fun _ hf => ?_) (fun _ hf => ?_)
    · refine jk_iconst C rd_Md_guessIn_26 ?_
      refine jk_iconst C rd_Md_guessIn_27 ?_
      obtain ⟨q28, hq28, hf⟩ := jk_bind_h hf
      refine jk_callVi C hZ.1 hz (ct_Md_fails l D Z sq hZ cI cR a_t a_t_w a_t_wKept a_t_saved a_t_past a_t_input a_t_n a_t_order a_t_numbers a_t_output i_t_pastMany i_t_isSaved q7.2 i_t_inputMany i_t_lastError i_t_lastOffset i_t_error i_t_offset i_t_nextByte i_t_begin i_t_value i_t_token i_t_got i_t_orders i_t_outputMany 0 2 q28 hq28) tm_1643 tm_1645 sl_87 tm_15 tm_1646 na_Md_fails ⟨Nat.le_of_ble_eq_true rfl, Nat.le_of_ble_eq_true rfl⟩ rfl [0] rfl rfl rfl (ws' := wd_Md_guessIn cI a_t a_t_w a_t_wKept a_t_saved a_t_past a_t_input a_t_n a_t_order a_t_numbers a_t_output i_t_pastMany i_t_isSaved q28.2 i_t_inputMany i_t_lastError i_t_lastOffset i_t_error i_t_offset i_t_nextByte i_t_begin i_t_value i_t_token i_t_got i_t_orders i_t_outputMany i_t_w) rfl 0 11 rfl rfl rfl (st := []) rfl (Nat.le_of_ble_eq_true rfl) rd_Md_guessIn_28 ?_ ⟨Nat.le_of_ble_eq_true rfl, Nat.le_of_ble_eq_true rfl⟩
      refine jk_if_eq (tgt := 36) C rd_Md_guessIn_31 (by decide) hf (fun _ hf => ?_) (fun _ hf => ?_)
      · refine jk_aload_n C rd_Md_guessIn_36 (k := 0) rfl ?_
        refine jk_iload_n C rd_Md_guessIn_37 (k := 1) rfl ?_
        obtain ⟨q38, hq38, hf⟩ := jk_bind_h hf
        refine jk_callVi C hZ.1 hz (ct_Md_guess l D Z sq hZ cI cR a_t a_t_w a_t_wKept a_t_saved a_t_past a_t_input a_t_n a_t_order a_t_numbers a_t_output i_t_pastMany i_t_isSaved q28.2 i_t_inputMany i_t_lastError i_t_lastOffset i_t_error i_t_offset i_t_nextByte i_t_begin i_t_value i_t_token i_t_got i_t_orders i_t_outputMany i_t_w x1 q38 hq38) tm_1607 tm_1609 sl_84 tm_15 tm_1610 na_Md_guess ⟨Nat.le_of_ble_eq_true rfl, Nat.le_of_ble_eq_true rfl⟩ rfl [0, 1] rfl rfl rfl (ws' := wd_Md_guessIn cI a_t a_t_w a_t_wKept a_t_saved a_t_past a_t_input a_t_n a_t_order a_t_numbers a_t_output i_t_pastMany i_t_isSaved q28.2 i_t_inputMany i_t_lastError i_t_lastOffset i_t_error i_t_offset i_t_nextByte i_t_begin i_t_value i_t_token i_t_got i_t_orders i_t_outputMany i_t_w) rfl 0 11 rfl rfl rfl (st := []) rfl (Nat.le_of_ble_eq_true rfl) rd_Md_guessIn_38 ?_ ⟨Nat.le_of_ble_eq_true rfl, Nat.le_of_ble_eq_true rfl⟩
        cases hf
        exact jk_iret C rfl rd_Md_guessIn_41 rfl
      · refine jk_iconst C rd_Md_guessIn_34 ?_
        cases hf
        exact jk_iret C rfl rd_Md_guessIn_35 rfl
    · refine jk_iconst C rd_Md_guessIn_22 ?_
      refine jk_goto (tgt := 27) C rd_Md_guessIn_23 (by decide) ?_
      refine jk_iconst C rd_Md_guessIn_27 ?_
      obtain ⟨q28, hq28, hf⟩ := jk_bind_h hf
      refine jk_callVi C hZ.1 hz (ct_Md_fails l D Z sq hZ cI cR a_t a_t_w a_t_wKept a_t_saved a_t_past a_t_input a_t_n a_t_order a_t_numbers a_t_output i_t_pastMany i_t_isSaved q7.2 i_t_inputMany i_t_lastError i_t_lastOffset i_t_error i_t_offset i_t_nextByte i_t_begin i_t_value i_t_token i_t_got i_t_orders i_t_outputMany 1 2 q28 hq28) tm_1643 tm_1645 sl_87 tm_15 tm_1646 na_Md_fails ⟨Nat.le_of_ble_eq_true rfl, Nat.le_of_ble_eq_true rfl⟩ rfl [0] rfl rfl rfl (ws' := wd_Md_guessIn cI a_t a_t_w a_t_wKept a_t_saved a_t_past a_t_input a_t_n a_t_order a_t_numbers a_t_output i_t_pastMany i_t_isSaved q28.2 i_t_inputMany i_t_lastError i_t_lastOffset i_t_error i_t_offset i_t_nextByte i_t_begin i_t_value i_t_token i_t_got i_t_orders i_t_outputMany i_t_w) rfl 0 11 rfl rfl rfl (st := []) rfl (Nat.le_of_ble_eq_true rfl) rd_Md_guessIn_28 ?_ ⟨Nat.le_of_ble_eq_true rfl, Nat.le_of_ble_eq_true rfl⟩
      refine jk_if_eq (tgt := 36) C rd_Md_guessIn_31 (by decide) hf (fun _ hf => ?_) (fun _ hf => ?_)
      · refine jk_aload_n C rd_Md_guessIn_36 (k := 0) rfl ?_
        refine jk_iload_n C rd_Md_guessIn_37 (k := 1) rfl ?_
        obtain ⟨q38, hq38, hf⟩ := jk_bind_h hf
        refine jk_callVi C hZ.1 hz (ct_Md_guess l D Z sq hZ cI cR a_t a_t_w a_t_wKept a_t_saved a_t_past a_t_input a_t_n a_t_order a_t_numbers a_t_output i_t_pastMany i_t_isSaved q28.2 i_t_inputMany i_t_lastError i_t_lastOffset i_t_error i_t_offset i_t_nextByte i_t_begin i_t_value i_t_token i_t_got i_t_orders i_t_outputMany i_t_w x1 q38 hq38) tm_1607 tm_1609 sl_84 tm_15 tm_1610 na_Md_guess ⟨Nat.le_of_ble_eq_true rfl, Nat.le_of_ble_eq_true rfl⟩ rfl [0, 1] rfl rfl rfl (ws' := wd_Md_guessIn cI a_t a_t_w a_t_wKept a_t_saved a_t_past a_t_input a_t_n a_t_order a_t_numbers a_t_output i_t_pastMany i_t_isSaved q28.2 i_t_inputMany i_t_lastError i_t_lastOffset i_t_error i_t_offset i_t_nextByte i_t_begin i_t_value i_t_token i_t_got i_t_orders i_t_outputMany i_t_w) rfl 0 11 rfl rfl rfl (st := []) rfl (Nat.le_of_ble_eq_true rfl) rd_Md_guessIn_38 ?_ ⟨Nat.le_of_ble_eq_true rfl, Nat.le_of_ble_eq_true rfl⟩
        cases hf
        exact jk_iret C rfl rd_Md_guessIn_41 rfl
      · refine jk_iconst C rd_Md_guessIn_34 ?_
        cases hf
        exact jk_iret C rfl rd_Md_guessIn_35 rfl
def wd_Md_cordsWith (cI : ClassId) (a_t a_t_w a_t_wKept a_t_saved a_t_past a_t_input a_t_n a_t_order a_t_numbers a_t_output : Nat) (i_t_pastMany : Int) (i_t_isSaved : Int) (i_t_thrown : Int) (i_t_inputMany : Int) (i_t_lastError : Int) (i_t_lastOffset : Int) (i_t_error : Int) (i_t_offset : Int) (i_t_nextByte : Int) (i_t_begin : Int) (i_t_value : Int) (i_t_token : Int) (i_t_got : Int) (i_t_orders : Int) (i_t_outputMany : Int) (i_t_w : (Int → Int)) : va_W := [(a_t, .inr (11, [.ref a_t_w, .ref a_t_wKept, .ref a_t_saved, .ref a_t_past, jk_V i_t_pastMany, jk_V i_t_isSaved, jk_V i_t_thrown, .ref a_t_input, jk_V i_t_inputMany, jk_V i_t_lastError, jk_V i_t_lastOffset, jk_V i_t_error, jk_V i_t_offset, jk_V i_t_nextByte, jk_V i_t_begin, jk_V i_t_value, jk_V i_t_token, jk_V i_t_got, .ref a_t_n, .ref a_t_order, .ref a_t_numbers, jk_V i_t_orders, .ref a_t_output, jk_V i_t_outputMany])), (a_t_w, jk_W cI 259 i_t_w)]
set_option maxHeartbeats 4000000 in
set_option maxRecDepth 20000 in
theorem ct_Md_cordsWith (l : Launch) (D : va_G) (Z : (Nat → Prop) → State → Heap → Prop) (sq : Nat → Nat) (hZ : jk_ZK Z sq) (cI cR : ClassId) (a_t a_t_w a_t_wKept a_t_saved a_t_past a_t_input a_t_n a_t_order a_t_numbers a_t_output : Nat) (i_t_pastMany : Int) (i_t_isSaved : Int) (i_t_thrown : Int) (i_t_inputMany : Int) (i_t_lastError : Int) (i_t_lastOffset : Int) (i_t_error : Int) (i_t_offset : Int) (i_t_nextByte : Int) (i_t_begin : Int) (i_t_value : Int) (i_t_token : Int) (i_t_got : Int) (i_t_orders : Int) (i_t_outputMany : Int) (i_t_w : (Int → Int)) (x1 : Int) (q : Int) (hf : fn_Md_cordsWith i_t_w x1 = some q) : jk_MI l D jk_cl (jk_ty cI cR) Z mn_Md_cordsWith (.code mn_Md_cordsWith mb_Md_cordsWith 4 (some .int) :: jk_WA) (jk_rm 1 22) [.ref a_t, jk_V x1] (wd_Md_cordsWith cI a_t a_t_w a_t_wKept a_t_saved a_t_past a_t_input a_t_n a_t_order a_t_numbers a_t_output i_t_pastMany i_t_isSaved i_t_thrown i_t_inputMany i_t_lastError i_t_lastOffset i_t_error i_t_offset i_t_nextByte i_t_begin i_t_value i_t_token i_t_got i_t_orders i_t_outputMany i_t_w) (wd_Md_cordsWith cI a_t a_t_w a_t_wKept a_t_saved a_t_past a_t_input a_t_n a_t_order a_t_numbers a_t_output i_t_pastMany i_t_isSaved i_t_thrown i_t_inputMany i_t_lastError i_t_lastOffset i_t_error i_t_offset i_t_nextByte i_t_begin i_t_value i_t_token i_t_got i_t_orders i_t_outputMany i_t_w) q := by
  intro sz
  refine jk_body (by decide +kernel) (fun p e s m args below meth c hsz hz hin C => ?_) (Nat.le_of_ble_eq_true rfl)
  subst hsz
  unfold fn_Md_cordsWith at hf
  have bk_4 : ∀ (n : Nat) (v1 : Int) (v2 : Int) (v3 : Int), fn_Md_cordsWith_b4 n i_t_w v1 v2 v3 = some q → jk_J p l e (jk_rm 1 22) s m args below meth c 0 0 (jk_QI below D jk_cl (jk_ty cI cR) (wd_Md_cordsWith cI a_t a_t_w a_t_wKept a_t_saved a_t_past a_t_input a_t_n a_t_order a_t_numbers a_t_output i_t_pastMany i_t_isSaved i_t_thrown i_t_inputMany i_t_lastError i_t_lastOffset i_t_error i_t_offset i_t_nextByte i_t_begin i_t_value i_t_token i_t_got i_t_orders i_t_outputMany i_t_w) (wd_Md_cordsWith cI a_t a_t_w a_t_wKept a_t_saved a_t_past a_t_input a_t_n a_t_order a_t_numbers a_t_output i_t_pastMany i_t_isSaved i_t_thrown i_t_inputMany i_t_lastError i_t_lastOffset i_t_error i_t_offset i_t_nextByte i_t_begin i_t_value i_t_token i_t_got i_t_orders i_t_outputMany i_t_w) args s q) D jk_cl (va_A (wd_Md_cordsWith cI a_t a_t_w a_t_wKept a_t_saved a_t_past a_t_input a_t_n a_t_order a_t_numbers a_t_output i_t_pastMany i_t_isSaved i_t_thrown i_t_inputMany i_t_lastError i_t_lastOffset i_t_error i_t_offset i_t_nextByte i_t_begin i_t_value i_t_token i_t_got i_t_orders i_t_outputMany i_t_w) s.heap.size) 4 (wd_Md_cordsWith cI a_t a_t_w a_t_wKept a_t_saved a_t_past a_t_input a_t_n a_t_order a_t_numbers a_t_output i_t_pastMany i_t_isSaved i_t_thrown i_t_inputMany i_t_lastError i_t_lastOffset i_t_error i_t_offset i_t_nextByte i_t_begin i_t_value i_t_token i_t_got i_t_orders i_t_outputMany i_t_w) [(0, .ref a_t), (1, jk_V v1), (2, jk_V v2), (3, jk_V v3)] 4 [] := by
    intro n
    induction n with
    | zero => intro v1 v2 v3 hf; exact nomatch (show none = some q from hf)
    | succ n ih =>
      intro v1 v2 v3 hf
      rw [fn_Md_cordsWith_b4] at hf
      refine jk_iload_n C rd_Md_cordsWith_4 (k := 3) rfl ?_
      refine jk_aload_n C rd_Md_cordsWith_5 (k := 0) rfl ?_
      refine jk_get C in_Md (ci := 11) rfl 0 (by decide) tm_1263 0 rfl rfl rd_Md_cordsWith_6 ?_
      refine jk_iconst C rd_Md_cordsWith_9 ?_
      refine jk_iald C 1 0 rfl rfl (Nat.le_of_ble_eq_true rfl) rd_Md_cordsWith_10 hf (fun hf => ?_)
      refine jk_icmp_ge (tgt := 41) C rd_Md_cordsWith_11 (by decide) hf (fun _ hf => ?_) (fun _ hf => ?_)
      · refine jk_iload_n C rd_Md_cordsWith_41 (k := 2) rfl ?_
        cases hf
        exact jk_iret C rfl rd_Md_cordsWith_42 rfl
      · refine jk_iload_n C rd_Md_cordsWith_14 (k := 2) rfl ?_
        refine jk_aload_n C rd_Md_cordsWith_15 (k := 0) rfl ?_
        refine jk_iload_n C rd_Md_cordsWith_16 (k := 3) rfl ?_
        refine jk_iconst C rd_Md_cordsWith_17 ?_
        obtain ⟨q18, hq18, hf⟩ := jk_bind_h hf
        refine jk_callVi C hZ.1 hz (ct_Md_of l D Z sq hZ cI cR a_t a_t_w a_t_wKept a_t_saved a_t_past a_t_input a_t_n a_t_order a_t_numbers a_t_output i_t_pastMany i_t_isSaved i_t_thrown i_t_inputMany i_t_lastError i_t_lastOffset i_t_error i_t_offset i_t_nextByte i_t_begin i_t_value i_t_token i_t_got i_t_orders i_t_outputMany i_t_w v3 2 q18 hq18) tm_1256 tm_1258 sl_26 tm_15 tm_1259 na_Md_of ⟨Nat.le_of_ble_eq_true rfl, Nat.le_of_ble_eq_true rfl⟩ rfl [0, 1] rfl rfl rfl (ws' := wd_Md_cordsWith cI a_t a_t_w a_t_wKept a_t_saved a_t_past a_t_input a_t_n a_t_order a_t_numbers a_t_output i_t_pastMany i_t_isSaved i_t_thrown i_t_inputMany i_t_lastError i_t_lastOffset i_t_error i_t_offset i_t_nextByte i_t_begin i_t_value i_t_token i_t_got i_t_orders i_t_outputMany i_t_w) rfl 0 11 rfl rfl rfl (st := [jk_V v2]) rfl (Nat.le_of_ble_eq_true rfl) rd_Md_cordsWith_18 ?_ ⟨Nat.le_of_ble_eq_true rfl, Nat.le_of_ble_eq_true rfl⟩
        refine jk_iload_n C rd_Md_cordsWith_21 (k := 1) rfl ?_
        refine jk_icmp_ne (tgt := 29) C rd_Md_cordsWith_22 (by decide) hf (fun _ hf => ?_) (fun _ hf => ?_)
        · refine jk_iconst C rd_Md_cordsWith_29 ?_
          obtain ⟨q30, hq30, hf⟩ := jk_bind_h hf
          refine jk_callSi C hZ.1 hz (ct_Md_one l D Z sq hZ cI cR 0 q30 hq30) tm_1560 tm_1561 tm_15 tm_1562 na_Md_one ⟨Nat.le_of_ble_eq_true rfl, Nat.le_of_ble_eq_true rfl⟩ rfl [] rfl rfl rfl (ws' := wd_Md_cordsWith cI a_t a_t_w a_t_wKept a_t_saved a_t_past a_t_input a_t_n a_t_order a_t_numbers a_t_output i_t_pastMany i_t_isSaved i_t_thrown i_t_inputMany i_t_lastError i_t_lastOffset i_t_error i_t_offset i_t_nextByte i_t_begin i_t_value i_t_token i_t_got i_t_orders i_t_outputMany i_t_w) rfl (st := [jk_V v2]) rfl (Nat.le_of_ble_eq_true rfl) rd_Md_cordsWith_30 ?_ ⟨Nat.le_of_ble_eq_true rfl, Nat.le_of_ble_eq_true rfl⟩
          refine jk_iadd C rd_Md_cordsWith_33 ?_
          refine jk_istore_n C rd_Md_cordsWith_34 (by decide) (lv' := [(2, jk_V (v2 + q30)), (0, .ref a_t), (1, jk_V v1), (3, jk_V v3)]) rfl ?_
          refine jk_iinc C rd_Md_cordsWith_35 (k := 3) rfl (by decide) (lv' := [(3, jk_V (v3 + 1)), (2, jk_V (v2 + q30)), (0, .ref a_t), (1, jk_V v1)]) rfl ?_
          refine jk_goto (tgt := 4) C rd_Md_cordsWith_38 (by decide) ?_
          refine jk_lv (lv' := [(0, .ref a_t), (1, jk_V v1), (2, jk_V (v2 + q30)), (3, jk_V (v3 + 1))]) [2, 3, 1, 0] rfl ?_
          exact ih v1 (v2 + q30) (v3 + 1) hf
        · refine jk_iconst C rd_Md_cordsWith_25 ?_
          refine jk_goto (tgt := 30) C rd_Md_cordsWith_26 (by decide) ?_
          obtain ⟨q30, hq30, hf⟩ := jk_bind_h hf
          refine jk_callSi C hZ.1 hz (ct_Md_one l D Z sq hZ cI cR 1 q30 hq30) tm_1560 tm_1561 tm_15 tm_1562 na_Md_one ⟨Nat.le_of_ble_eq_true rfl, Nat.le_of_ble_eq_true rfl⟩ rfl [] rfl rfl rfl (ws' := wd_Md_cordsWith cI a_t a_t_w a_t_wKept a_t_saved a_t_past a_t_input a_t_n a_t_order a_t_numbers a_t_output i_t_pastMany i_t_isSaved i_t_thrown i_t_inputMany i_t_lastError i_t_lastOffset i_t_error i_t_offset i_t_nextByte i_t_begin i_t_value i_t_token i_t_got i_t_orders i_t_outputMany i_t_w) rfl (st := [jk_V v2]) rfl (Nat.le_of_ble_eq_true rfl) rd_Md_cordsWith_30 ?_ ⟨Nat.le_of_ble_eq_true rfl, Nat.le_of_ble_eq_true rfl⟩
          refine jk_iadd C rd_Md_cordsWith_33 ?_
          refine jk_istore_n C rd_Md_cordsWith_34 (by decide) (lv' := [(2, jk_V (v2 + q30)), (0, .ref a_t), (1, jk_V v1), (3, jk_V v3)]) rfl ?_
          refine jk_iinc C rd_Md_cordsWith_35 (k := 3) rfl (by decide) (lv' := [(3, jk_V (v3 + 1)), (2, jk_V (v2 + q30)), (0, .ref a_t), (1, jk_V v1)]) rfl ?_
          refine jk_goto (tgt := 4) C rd_Md_cordsWith_38 (by decide) ?_
          refine jk_lv (lv' := [(0, .ref a_t), (1, jk_V v1), (2, jk_V (v2 + q30)), (3, jk_V (v3 + 1))]) [2, 3, 1, 0] rfl ?_
          exact ih v1 (v2 + q30) (v3 + 1) hf
  refine jk_iconst C rd_Md_cordsWith_0 ?_
  refine jk_istore_n C rd_Md_cordsWith_1 (by decide) (lv' := [(2, jk_V 0), (0, .ref a_t), (1, jk_V x1)]) rfl ?_
  refine jk_iconst C rd_Md_cordsWith_2 ?_
  refine jk_istore_n C rd_Md_cordsWith_3 (by decide) (lv' := [(3, jk_V 0), (2, jk_V 0), (0, .ref a_t), (1, jk_V x1)]) rfl ?_
  refine jk_lv (lv' := [(0, .ref a_t), (1, jk_V x1), (2, jk_V 0), (3, jk_V 0)]) [2, 3, 1, 0] rfl ?_
  exact bk_4 jk_F x1 0 0 hf
def wd_Md_cordsOfTopic (cI : ClassId) (a_t a_t_w a_t_wKept a_t_saved a_t_past a_t_input a_t_n a_t_order a_t_numbers a_t_output : Nat) (i_t_pastMany : Int) (i_t_isSaved : Int) (i_t_thrown : Int) (i_t_inputMany : Int) (i_t_lastError : Int) (i_t_lastOffset : Int) (i_t_error : Int) (i_t_offset : Int) (i_t_nextByte : Int) (i_t_begin : Int) (i_t_value : Int) (i_t_token : Int) (i_t_got : Int) (i_t_orders : Int) (i_t_outputMany : Int) (i_t_w : (Int → Int)) : va_W := [(a_t, .inr (11, [.ref a_t_w, .ref a_t_wKept, .ref a_t_saved, .ref a_t_past, jk_V i_t_pastMany, jk_V i_t_isSaved, jk_V i_t_thrown, .ref a_t_input, jk_V i_t_inputMany, jk_V i_t_lastError, jk_V i_t_lastOffset, jk_V i_t_error, jk_V i_t_offset, jk_V i_t_nextByte, jk_V i_t_begin, jk_V i_t_value, jk_V i_t_token, jk_V i_t_got, .ref a_t_n, .ref a_t_order, .ref a_t_numbers, jk_V i_t_orders, .ref a_t_output, jk_V i_t_outputMany])), (a_t_w, jk_W cI 259 i_t_w)]
set_option maxHeartbeats 4000000 in
set_option maxRecDepth 20000 in
theorem ct_Md_cordsOfTopic (l : Launch) (D : va_G) (Z : (Nat → Prop) → State → Heap → Prop) (sq : Nat → Nat) (hZ : jk_ZK Z sq) (cI cR : ClassId) (a_t a_t_w a_t_wKept a_t_saved a_t_past a_t_input a_t_n a_t_order a_t_numbers a_t_output : Nat) (i_t_pastMany : Int) (i_t_isSaved : Int) (i_t_thrown : Int) (i_t_inputMany : Int) (i_t_lastError : Int) (i_t_lastOffset : Int) (i_t_error : Int) (i_t_offset : Int) (i_t_nextByte : Int) (i_t_begin : Int) (i_t_value : Int) (i_t_token : Int) (i_t_got : Int) (i_t_orders : Int) (i_t_outputMany : Int) (i_t_w : (Int → Int)) (x1 : Int) (q : Int × Int) (hf : fn_Md_cordsOfTopic i_t_w i_t_thrown x1 = some q) : jk_MI l D jk_cl (jk_ty cI cR) Z mn_Md_cordsOfTopic (.code mn_Md_cordsOfTopic mb_Md_cordsOfTopic 2 (some .int) :: jk_WA) (jk_rm 3 64) [.ref a_t, jk_V x1] (wd_Md_cordsOfTopic cI a_t a_t_w a_t_wKept a_t_saved a_t_past a_t_input a_t_n a_t_order a_t_numbers a_t_output i_t_pastMany i_t_isSaved i_t_thrown i_t_inputMany i_t_lastError i_t_lastOffset i_t_error i_t_offset i_t_nextByte i_t_begin i_t_value i_t_token i_t_got i_t_orders i_t_outputMany i_t_w) (wd_Md_cordsOfTopic cI a_t a_t_w a_t_wKept a_t_saved a_t_past a_t_input a_t_n a_t_order a_t_numbers a_t_output i_t_pastMany i_t_isSaved q.2 i_t_inputMany i_t_lastError i_t_lastOffset i_t_error i_t_offset i_t_nextByte i_t_begin i_t_value i_t_token i_t_got i_t_orders i_t_outputMany i_t_w) q.1 := by
  intro sz
  refine jk_body (by decide +kernel) (fun p e s m args below meth c hsz hz hin C => ?_) (Nat.le_of_ble_eq_true rfl)
  subst hsz
  unfold fn_Md_cordsOfTopic at hf
  refine jk_aload_n C rd_Md_cordsOfTopic_0 (k := 0) rfl ?_
  refine jk_iconst C rd_Md_cordsOfTopic_1 ?_
  refine jk_putf C in_Md ty_Md nm_Md (ci := 11) rfl 6 (by decide) tm_1269 rfl rfl rfl 0 rfl (Nat.le_of_ble_eq_true rfl) rd_Md_cordsOfTopic_2 (ws' := wd_Md_cordsOfTopic cI a_t a_t_w a_t_wKept a_t_saved a_t_past a_t_input a_t_n a_t_order a_t_numbers a_t_output i_t_pastMany i_t_isSaved 0 i_t_inputMany i_t_lastError i_t_lastOffset i_t_error i_t_offset i_t_nextByte i_t_begin i_t_value i_t_token i_t_got i_t_orders i_t_outputMany i_t_w) rfl ?_
  refine jk_aload_n C rd_Md_cordsOfTopic_5 (k := 0) rfl ?_
  refine jk_iload_n C rd_Md_cordsOfTopic_6 (k := 1) rfl ?_
  obtain ⟨q7, hq7, hf⟩ := jk_bind_h hf
  refine jk_callVi C hZ.1 hz (ct_Md_noTopic l D Z sq hZ cI cR a_t a_t_w a_t_wKept a_t_saved a_t_past a_t_input a_t_n a_t_order a_t_numbers a_t_output i_t_pastMany i_t_isSaved 0 i_t_inputMany i_t_lastError i_t_lastOffset i_t_error i_t_offset i_t_nextByte i_t_begin i_t_value i_t_token i_t_got i_t_orders i_t_outputMany i_t_w x1 q7 hq7) tm_1751 tm_1753 sl_95 tm_15 tm_1754 na_Md_noTopic ⟨Nat.le_of_ble_eq_true rfl, Nat.le_of_ble_eq_true rfl⟩ rfl [0, 1] rfl rfl rfl (ws' := wd_Md_cordsOfTopic cI a_t a_t_w a_t_wKept a_t_saved a_t_past a_t_input a_t_n a_t_order a_t_numbers a_t_output i_t_pastMany i_t_isSaved q7.2 i_t_inputMany i_t_lastError i_t_lastOffset i_t_error i_t_offset i_t_nextByte i_t_begin i_t_value i_t_token i_t_got i_t_orders i_t_outputMany i_t_w) rfl 0 11 rfl rfl rfl (st := []) rfl (Nat.le_of_ble_eq_true rfl) rd_Md_cordsOfTopic_7 ?_ ⟨Nat.le_of_ble_eq_true rfl, Nat.le_of_ble_eq_true rfl⟩
  refine jk_if_eq (tgt := 17) C rd_Md_cordsOfTopic_10 (by decide) hf (fun _ hf => ?_) (fun _ hf => ?_)
  · refine jk_aload_n C rd_Md_cordsOfTopic_17 (k := 0) rfl ?_
    refine jk_iload_n C rd_Md_cordsOfTopic_18 (k := 1) rfl ?_
    obtain ⟨q19, hq19, hf⟩ := jk_bind_h hf
    refine jk_callVi C hZ.1 hz (ct_Md_cordsWith l D Z sq hZ cI cR a_t a_t_w a_t_wKept a_t_saved a_t_past a_t_input a_t_n a_t_order a_t_numbers a_t_output i_t_pastMany i_t_isSaved q7.2 i_t_inputMany i_t_lastError i_t_lastOffset i_t_error i_t_offset i_t_nextByte i_t_begin i_t_value i_t_token i_t_got i_t_orders i_t_outputMany i_t_w x1 q19 hq19) tm_1791 tm_1793 sl_99 tm_15 tm_1794 na_Md_cordsWith ⟨Nat.le_of_ble_eq_true rfl, Nat.le_of_ble_eq_true rfl⟩ rfl [0, 1] rfl rfl rfl (ws' := wd_Md_cordsOfTopic cI a_t a_t_w a_t_wKept a_t_saved a_t_past a_t_input a_t_n a_t_order a_t_numbers a_t_output i_t_pastMany i_t_isSaved q7.2 i_t_inputMany i_t_lastError i_t_lastOffset i_t_error i_t_offset i_t_nextByte i_t_begin i_t_value i_t_token i_t_got i_t_orders i_t_outputMany i_t_w) rfl 0 11 rfl rfl rfl (st := []) rfl (Nat.le_of_ble_eq_true rfl) rd_Md_cordsOfTopic_19 ?_ ⟨Nat.le_of_ble_eq_true rfl, Nat.le_of_ble_eq_true rfl⟩
    cases hf
    exact jk_iret C rfl rd_Md_cordsOfTopic_22 rfl
  · refine jk_iconst C rd_Md_cordsOfTopic_13 ?_
    refine jk_goto (tgt := 22) C rd_Md_cordsOfTopic_14 (by decide) ?_
    cases hf
    exact jk_iret C rfl rd_Md_cordsOfTopic_22 rfl
def wd_Md_sumOfTopic (cI : ClassId) (a_t a_t_w a_t_wKept a_t_saved a_t_past a_t_input a_t_n a_t_order a_t_numbers a_t_output : Nat) (i_t_pastMany : Int) (i_t_isSaved : Int) (i_t_thrown : Int) (i_t_inputMany : Int) (i_t_lastError : Int) (i_t_lastOffset : Int) (i_t_error : Int) (i_t_offset : Int) (i_t_nextByte : Int) (i_t_begin : Int) (i_t_value : Int) (i_t_token : Int) (i_t_got : Int) (i_t_orders : Int) (i_t_outputMany : Int) (i_t_w : (Int → Int)) : va_W := [(a_t, .inr (11, [.ref a_t_w, .ref a_t_wKept, .ref a_t_saved, .ref a_t_past, jk_V i_t_pastMany, jk_V i_t_isSaved, jk_V i_t_thrown, .ref a_t_input, jk_V i_t_inputMany, jk_V i_t_lastError, jk_V i_t_lastOffset, jk_V i_t_error, jk_V i_t_offset, jk_V i_t_nextByte, jk_V i_t_begin, jk_V i_t_value, jk_V i_t_token, jk_V i_t_got, .ref a_t_n, .ref a_t_order, .ref a_t_numbers, jk_V i_t_orders, .ref a_t_output, jk_V i_t_outputMany])), (a_t_w, jk_W cI 259 i_t_w)]
set_option maxHeartbeats 4000000 in
set_option maxRecDepth 20000 in
theorem ct_Md_sumOfTopic (l : Launch) (D : va_G) (Z : (Nat → Prop) → State → Heap → Prop) (sq : Nat → Nat) (hZ : jk_ZK Z sq) (cI cR : ClassId) (a_t a_t_w a_t_wKept a_t_saved a_t_past a_t_input a_t_n a_t_order a_t_numbers a_t_output : Nat) (i_t_pastMany : Int) (i_t_isSaved : Int) (i_t_thrown : Int) (i_t_inputMany : Int) (i_t_lastError : Int) (i_t_lastOffset : Int) (i_t_error : Int) (i_t_offset : Int) (i_t_nextByte : Int) (i_t_begin : Int) (i_t_value : Int) (i_t_token : Int) (i_t_got : Int) (i_t_orders : Int) (i_t_outputMany : Int) (i_t_w : (Int → Int)) (x1 : Int) (q : Int × Int) (hf : fn_Md_sumOfTopic i_t_w i_t_thrown x1 = some q) : jk_MI l D jk_cl (jk_ty cI cR) Z mn_Md_sumOfTopic (.code mn_Md_sumOfTopic mb_Md_sumOfTopic 4 (some .int) :: jk_WA) (jk_rm 3 64) [.ref a_t, jk_V x1] (wd_Md_sumOfTopic cI a_t a_t_w a_t_wKept a_t_saved a_t_past a_t_input a_t_n a_t_order a_t_numbers a_t_output i_t_pastMany i_t_isSaved i_t_thrown i_t_inputMany i_t_lastError i_t_lastOffset i_t_error i_t_offset i_t_nextByte i_t_begin i_t_value i_t_token i_t_got i_t_orders i_t_outputMany i_t_w) (wd_Md_sumOfTopic cI a_t a_t_w a_t_wKept a_t_saved a_t_past a_t_input a_t_n a_t_order a_t_numbers a_t_output i_t_pastMany i_t_isSaved q.2 i_t_inputMany i_t_lastError i_t_lastOffset i_t_error i_t_offset i_t_nextByte i_t_begin i_t_value i_t_token i_t_got i_t_orders i_t_outputMany i_t_w) q.1 := by
  intro sz
  refine jk_body (by decide +kernel) (fun p e s m args below meth c hsz hz hin C => ?_) (Nat.le_of_ble_eq_true rfl)
  subst hsz
  unfold fn_Md_sumOfTopic at hf
  have bk_19 : ∀ (n : Nat) (t_thrown : Int) (v1 : Int) (v2 : Int) (v3 : Int), fn_Md_sumOfTopic_b19 n i_t_w t_thrown v1 v2 v3 = some q → jk_J p l e (jk_rm 3 64) s m args below meth c 0 0 (jk_QI below D jk_cl (jk_ty cI cR) (wd_Md_sumOfTopic cI a_t a_t_w a_t_wKept a_t_saved a_t_past a_t_input a_t_n a_t_order a_t_numbers a_t_output i_t_pastMany i_t_isSaved i_t_thrown i_t_inputMany i_t_lastError i_t_lastOffset i_t_error i_t_offset i_t_nextByte i_t_begin i_t_value i_t_token i_t_got i_t_orders i_t_outputMany i_t_w) (wd_Md_sumOfTopic cI a_t a_t_w a_t_wKept a_t_saved a_t_past a_t_input a_t_n a_t_order a_t_numbers a_t_output i_t_pastMany i_t_isSaved q.2 i_t_inputMany i_t_lastError i_t_lastOffset i_t_error i_t_offset i_t_nextByte i_t_begin i_t_value i_t_token i_t_got i_t_orders i_t_outputMany i_t_w) args s q.1) D jk_cl (va_A (wd_Md_sumOfTopic cI a_t a_t_w a_t_wKept a_t_saved a_t_past a_t_input a_t_n a_t_order a_t_numbers a_t_output i_t_pastMany i_t_isSaved i_t_thrown i_t_inputMany i_t_lastError i_t_lastOffset i_t_error i_t_offset i_t_nextByte i_t_begin i_t_value i_t_token i_t_got i_t_orders i_t_outputMany i_t_w) s.heap.size) 4 (wd_Md_sumOfTopic cI a_t a_t_w a_t_wKept a_t_saved a_t_past a_t_input a_t_n a_t_order a_t_numbers a_t_output i_t_pastMany i_t_isSaved t_thrown i_t_inputMany i_t_lastError i_t_lastOffset i_t_error i_t_offset i_t_nextByte i_t_begin i_t_value i_t_token i_t_got i_t_orders i_t_outputMany i_t_w) [(0, .ref a_t), (1, jk_V v1), (2, jk_V v2), (3, jk_V v3)] 19 [] := by
    intro n
    induction n with
    | zero => intro t_thrown v1 v2 v3 hf; exact nomatch (show none = some q from hf)
    | succ n ih =>
      intro t_thrown v1 v2 v3 hf
      rw [fn_Md_sumOfTopic_b19] at hf
      refine jk_iload_n C rd_Md_sumOfTopic_19 (k := 3) rfl ?_
      refine jk_aload_n C rd_Md_sumOfTopic_20 (k := 0) rfl ?_
      refine jk_get C in_Md (ci := 11) rfl 0 (by decide) tm_1263 0 rfl rfl rd_Md_sumOfTopic_21 ?_
      refine jk_iconst C rd_Md_sumOfTopic_24 ?_
      refine jk_iald C 1 0 rfl rfl (Nat.le_of_ble_eq_true rfl) rd_Md_sumOfTopic_25 hf (fun hf => ?_)
      refine jk_icmp_ge (tgt := 67) C rd_Md_sumOfTopic_26 (by decide) hf (fun _ hf => ?_) (fun _ hf => ?_)
      · refine jk_iload_n C rd_Md_sumOfTopic_67 (k := 2) rfl ?_
        cases hf
        exact jk_iret C rfl rd_Md_sumOfTopic_68 rfl
      · refine jk_iload_n C rd_Md_sumOfTopic_29 (k := 2) rfl ?_
        refine jk_aload_n C rd_Md_sumOfTopic_30 (k := 0) rfl ?_
        refine jk_iload_n C rd_Md_sumOfTopic_31 (k := 3) rfl ?_
        refine jk_iconst C rd_Md_sumOfTopic_32 ?_
        obtain ⟨q33, hq33, hf⟩ := jk_bind_h hf
        refine jk_callVi C hZ.1 hz (ct_Md_of l D Z sq hZ cI cR a_t a_t_w a_t_wKept a_t_saved a_t_past a_t_input a_t_n a_t_order a_t_numbers a_t_output i_t_pastMany i_t_isSaved t_thrown i_t_inputMany i_t_lastError i_t_lastOffset i_t_error i_t_offset i_t_nextByte i_t_begin i_t_value i_t_token i_t_got i_t_orders i_t_outputMany i_t_w v3 2 q33 hq33) tm_1256 tm_1258 sl_26 tm_15 tm_1259 na_Md_of ⟨Nat.le_of_ble_eq_true rfl, Nat.le_of_ble_eq_true rfl⟩ rfl [0, 1] rfl rfl rfl (ws' := wd_Md_sumOfTopic cI a_t a_t_w a_t_wKept a_t_saved a_t_past a_t_input a_t_n a_t_order a_t_numbers a_t_output i_t_pastMany i_t_isSaved t_thrown i_t_inputMany i_t_lastError i_t_lastOffset i_t_error i_t_offset i_t_nextByte i_t_begin i_t_value i_t_token i_t_got i_t_orders i_t_outputMany i_t_w) rfl 0 11 rfl rfl rfl (st := [jk_V v2]) rfl (Nat.le_of_ble_eq_true rfl) rd_Md_sumOfTopic_33 ?_ ⟨Nat.le_of_ble_eq_true rfl, Nat.le_of_ble_eq_true rfl⟩
        refine jk_iload_n C rd_Md_sumOfTopic_36 (k := 1) rfl ?_
        refine jk_icmp_ne (tgt := 58) C rd_Md_sumOfTopic_37 (by decide) hf (fun _ hf => ?_) (fun _ hf => ?_)
        · refine jk_iconst C rd_Md_sumOfTopic_58 ?_
          refine jk_iadd C rd_Md_sumOfTopic_59 ?_
          refine jk_istore_n C rd_Md_sumOfTopic_60 (by decide) (lv' := [(2, jk_V (v2 + 0)), (0, .ref a_t), (1, jk_V v1), (3, jk_V v3)]) rfl ?_
          refine jk_iinc C rd_Md_sumOfTopic_61 (k := 3) rfl (by decide) (lv' := [(3, jk_V (v3 + 1)), (2, jk_V (v2 + 0)), (0, .ref a_t), (1, jk_V v1)]) rfl ?_
          refine jk_goto (tgt := 19) C rd_Md_sumOfTopic_64 (by decide) ?_
          refine jk_lv (lv' := [(0, .ref a_t), (1, jk_V v1), (2, jk_V (v2 + 0)), (3, jk_V (v3 + 1))]) [2, 3, 1, 0] rfl ?_
          exact ih t_thrown v1 (v2 + 0) (v3 + 1) hf
        · refine jk_aload_n C rd_Md_sumOfTopic_40 (k := 0) rfl ?_
          refine jk_iload_n C rd_Md_sumOfTopic_41 (k := 3) rfl ?_
          refine jk_iconst C rd_Md_sumOfTopic_42 ?_
          obtain ⟨q43, hq43, hf⟩ := jk_bind_h hf
          refine jk_callVi C hZ.1 hz (ct_Md_of l D Z sq hZ cI cR a_t a_t_w a_t_wKept a_t_saved a_t_past a_t_input a_t_n a_t_order a_t_numbers a_t_output i_t_pastMany i_t_isSaved t_thrown i_t_inputMany i_t_lastError i_t_lastOffset i_t_error i_t_offset i_t_nextByte i_t_begin i_t_value i_t_token i_t_got i_t_orders i_t_outputMany i_t_w v3 1 q43 hq43) tm_1256 tm_1258 sl_26 tm_15 tm_1259 na_Md_of ⟨Nat.le_of_ble_eq_true rfl, Nat.le_of_ble_eq_true rfl⟩ rfl [0, 1] rfl rfl rfl (ws' := wd_Md_sumOfTopic cI a_t a_t_w a_t_wKept a_t_saved a_t_past a_t_input a_t_n a_t_order a_t_numbers a_t_output i_t_pastMany i_t_isSaved t_thrown i_t_inputMany i_t_lastError i_t_lastOffset i_t_error i_t_offset i_t_nextByte i_t_begin i_t_value i_t_token i_t_got i_t_orders i_t_outputMany i_t_w) rfl 0 11 rfl rfl rfl (st := [jk_V v2]) rfl (Nat.le_of_ble_eq_true rfl) rd_Md_sumOfTopic_43 ?_ ⟨Nat.le_of_ble_eq_true rfl, Nat.le_of_ble_eq_true rfl⟩
          refine jk_if_le (tgt := 58) C rd_Md_sumOfTopic_46 (by decide) hf (fun _ hf => ?_) (fun _ hf => ?_)
          · refine jk_iconst C rd_Md_sumOfTopic_58 ?_
            refine jk_iadd C rd_Md_sumOfTopic_59 ?_
            refine jk_istore_n C rd_Md_sumOfTopic_60 (by decide) (lv' := [(2, jk_V (v2 + 0)), (0, .ref a_t), (1, jk_V v1), (3, jk_V v3)]) rfl ?_
            refine jk_iinc C rd_Md_sumOfTopic_61 (k := 3) rfl (by decide) (lv' := [(3, jk_V (v3 + 1)), (2, jk_V (v2 + 0)), (0, .ref a_t), (1, jk_V v1)]) rfl ?_
            refine jk_goto (tgt := 19) C rd_Md_sumOfTopic_64 (by decide) ?_
            refine jk_lv (lv' := [(0, .ref a_t), (1, jk_V v1), (2, jk_V (v2 + 0)), (3, jk_V (v3 + 1))]) [2, 3, 1, 0] rfl ?_
            exact ih t_thrown v1 (v2 + 0) (v3 + 1) hf
          · refine jk_aload_n C rd_Md_sumOfTopic_49 (k := 0) rfl ?_
            refine jk_iload_n C rd_Md_sumOfTopic_50 (k := 3) rfl ?_
            refine jk_iconst C rd_Md_sumOfTopic_51 ?_
            obtain ⟨q52, hq52, hf⟩ := jk_bind_h hf
            refine jk_callVi C hZ.1 hz (ct_Md_of l D Z sq hZ cI cR a_t a_t_w a_t_wKept a_t_saved a_t_past a_t_input a_t_n a_t_order a_t_numbers a_t_output i_t_pastMany i_t_isSaved t_thrown i_t_inputMany i_t_lastError i_t_lastOffset i_t_error i_t_offset i_t_nextByte i_t_begin i_t_value i_t_token i_t_got i_t_orders i_t_outputMany i_t_w v3 3 q52 hq52) tm_1256 tm_1258 sl_26 tm_15 tm_1259 na_Md_of ⟨Nat.le_of_ble_eq_true rfl, Nat.le_of_ble_eq_true rfl⟩ rfl [0, 1] rfl rfl rfl (ws' := wd_Md_sumOfTopic cI a_t a_t_w a_t_wKept a_t_saved a_t_past a_t_input a_t_n a_t_order a_t_numbers a_t_output i_t_pastMany i_t_isSaved t_thrown i_t_inputMany i_t_lastError i_t_lastOffset i_t_error i_t_offset i_t_nextByte i_t_begin i_t_value i_t_token i_t_got i_t_orders i_t_outputMany i_t_w) rfl 0 11 rfl rfl rfl (st := [jk_V v2]) rfl (Nat.le_of_ble_eq_true rfl) rd_Md_sumOfTopic_52 ?_ ⟨Nat.le_of_ble_eq_true rfl, Nat.le_of_ble_eq_true rfl⟩
            refine jk_goto (tgt := 59) C rd_Md_sumOfTopic_55 (by decide) ?_
            refine jk_iadd C rd_Md_sumOfTopic_59 ?_
            refine jk_istore_n C rd_Md_sumOfTopic_60 (by decide) (lv' := [(2, jk_V (v2 + q52)), (0, .ref a_t), (1, jk_V v1), (3, jk_V v3)]) rfl ?_
            refine jk_iinc C rd_Md_sumOfTopic_61 (k := 3) rfl (by decide) (lv' := [(3, jk_V (v3 + 1)), (2, jk_V (v2 + q52)), (0, .ref a_t), (1, jk_V v1)]) rfl ?_
            refine jk_goto (tgt := 19) C rd_Md_sumOfTopic_64 (by decide) ?_
            refine jk_lv (lv' := [(0, .ref a_t), (1, jk_V v1), (2, jk_V (v2 + q52)), (3, jk_V (v3 + 1))]) [2, 3, 1, 0] rfl ?_
            exact ih t_thrown v1 (v2 + q52) (v3 + 1) hf
  refine jk_aload_n C rd_Md_sumOfTopic_0 (k := 0) rfl ?_
  refine jk_iconst C rd_Md_sumOfTopic_1 ?_
  refine jk_putf C in_Md ty_Md nm_Md (ci := 11) rfl 6 (by decide) tm_1269 rfl rfl rfl 0 rfl (Nat.le_of_ble_eq_true rfl) rd_Md_sumOfTopic_2 (ws' := wd_Md_sumOfTopic cI a_t a_t_w a_t_wKept a_t_saved a_t_past a_t_input a_t_n a_t_order a_t_numbers a_t_output i_t_pastMany i_t_isSaved 0 i_t_inputMany i_t_lastError i_t_lastOffset i_t_error i_t_offset i_t_nextByte i_t_begin i_t_value i_t_token i_t_got i_t_orders i_t_outputMany i_t_w) rfl ?_
  refine jk_aload_n C rd_Md_sumOfTopic_5 (k := 0) rfl ?_
  refine jk_iload_n C rd_Md_sumOfTopic_6 (k := 1) rfl ?_
  obtain ⟨q7, hq7, hf⟩ := jk_bind_h hf
  refine jk_callVi C hZ.1 hz (ct_Md_noTopic l D Z sq hZ cI cR a_t a_t_w a_t_wKept a_t_saved a_t_past a_t_input a_t_n a_t_order a_t_numbers a_t_output i_t_pastMany i_t_isSaved 0 i_t_inputMany i_t_lastError i_t_lastOffset i_t_error i_t_offset i_t_nextByte i_t_begin i_t_value i_t_token i_t_got i_t_orders i_t_outputMany i_t_w x1 q7 hq7) tm_1751 tm_1753 sl_95 tm_15 tm_1754 na_Md_noTopic ⟨Nat.le_of_ble_eq_true rfl, Nat.le_of_ble_eq_true rfl⟩ rfl [0, 1] rfl rfl rfl (ws' := wd_Md_sumOfTopic cI a_t a_t_w a_t_wKept a_t_saved a_t_past a_t_input a_t_n a_t_order a_t_numbers a_t_output i_t_pastMany i_t_isSaved q7.2 i_t_inputMany i_t_lastError i_t_lastOffset i_t_error i_t_offset i_t_nextByte i_t_begin i_t_value i_t_token i_t_got i_t_orders i_t_outputMany i_t_w) rfl 0 11 rfl rfl rfl (st := []) rfl (Nat.le_of_ble_eq_true rfl) rd_Md_sumOfTopic_7 ?_ ⟨Nat.le_of_ble_eq_true rfl, Nat.le_of_ble_eq_true rfl⟩
  refine jk_if_eq (tgt := 15) C rd_Md_sumOfTopic_10 (by decide) hf (fun _ hf => ?_) (fun _ hf => ?_)
  · refine jk_iconst C rd_Md_sumOfTopic_15 ?_
    refine jk_istore_n C rd_Md_sumOfTopic_16 (by decide) (lv' := [(2, jk_V 0), (0, .ref a_t), (1, jk_V x1)]) rfl ?_
    refine jk_iconst C rd_Md_sumOfTopic_17 ?_
    refine jk_istore_n C rd_Md_sumOfTopic_18 (by decide) (lv' := [(3, jk_V 0), (2, jk_V 0), (0, .ref a_t), (1, jk_V x1)]) rfl ?_
    refine jk_lv (lv' := [(0, .ref a_t), (1, jk_V x1), (2, jk_V 0), (3, jk_V 0)]) [2, 3, 1, 0] rfl ?_
    exact bk_19 jk_F q7.2 x1 0 0 hf
  · refine jk_iconst C rd_Md_sumOfTopic_13 ?_
    cases hf
    exact jk_iret C rfl rd_Md_sumOfTopic_14 rfl
def wd_Md_mostUsedTopic (cI : ClassId) (a_t a_t_w a_t_wKept a_t_saved a_t_past a_t_input a_t_n a_t_order a_t_numbers a_t_output : Nat) (i_t_pastMany : Int) (i_t_isSaved : Int) (i_t_thrown : Int) (i_t_inputMany : Int) (i_t_lastError : Int) (i_t_lastOffset : Int) (i_t_error : Int) (i_t_offset : Int) (i_t_nextByte : Int) (i_t_begin : Int) (i_t_value : Int) (i_t_token : Int) (i_t_got : Int) (i_t_orders : Int) (i_t_outputMany : Int) (i_t_w : (Int → Int)) : va_W := [(a_t, .inr (11, [.ref a_t_w, .ref a_t_wKept, .ref a_t_saved, .ref a_t_past, jk_V i_t_pastMany, jk_V i_t_isSaved, jk_V i_t_thrown, .ref a_t_input, jk_V i_t_inputMany, jk_V i_t_lastError, jk_V i_t_lastOffset, jk_V i_t_error, jk_V i_t_offset, jk_V i_t_nextByte, jk_V i_t_begin, jk_V i_t_value, jk_V i_t_token, jk_V i_t_got, .ref a_t_n, .ref a_t_order, .ref a_t_numbers, jk_V i_t_orders, .ref a_t_output, jk_V i_t_outputMany])), (a_t_w, jk_W cI 259 i_t_w)]
set_option maxHeartbeats 4000000 in
set_option maxRecDepth 20000 in
theorem ct_Md_mostUsedTopic (l : Launch) (D : va_G) (Z : (Nat → Prop) → State → Heap → Prop) (sq : Nat → Nat) (hZ : jk_ZK Z sq) (cI cR : ClassId) (a_t a_t_w a_t_wKept a_t_saved a_t_past a_t_input a_t_n a_t_order a_t_numbers a_t_output : Nat) (i_t_pastMany : Int) (i_t_isSaved : Int) (i_t_thrown : Int) (i_t_inputMany : Int) (i_t_lastError : Int) (i_t_lastOffset : Int) (i_t_error : Int) (i_t_offset : Int) (i_t_nextByte : Int) (i_t_begin : Int) (i_t_value : Int) (i_t_token : Int) (i_t_got : Int) (i_t_orders : Int) (i_t_outputMany : Int) (i_t_w : (Int → Int)) (q : Int × Int) (hf : fn_Md_mostUsedTopic i_t_w i_t_thrown = some q) : jk_MI l D jk_cl (jk_ty cI cR) Z mn_Md_mostUsedTopic (.code mn_Md_mostUsedTopic mb_Md_mostUsedTopic 3 (some .int) :: jk_WA) (jk_rm 2 45) [.ref a_t] (wd_Md_mostUsedTopic cI a_t a_t_w a_t_wKept a_t_saved a_t_past a_t_input a_t_n a_t_order a_t_numbers a_t_output i_t_pastMany i_t_isSaved i_t_thrown i_t_inputMany i_t_lastError i_t_lastOffset i_t_error i_t_offset i_t_nextByte i_t_begin i_t_value i_t_token i_t_got i_t_orders i_t_outputMany i_t_w) (wd_Md_mostUsedTopic cI a_t a_t_w a_t_wKept a_t_saved a_t_past a_t_input a_t_n a_t_order a_t_numbers a_t_output i_t_pastMany i_t_isSaved q.2 i_t_inputMany i_t_lastError i_t_lastOffset i_t_error i_t_offset i_t_nextByte i_t_begin i_t_value i_t_token i_t_got i_t_orders i_t_outputMany i_t_w) q.1 := by
  intro sz
  refine jk_body (by decide +kernel) (fun p e s m args below meth c hsz hz hin C => ?_) (Nat.le_of_ble_eq_true rfl)
  subst hsz
  unfold fn_Md_mostUsedTopic at hf
  have bk_9 : ∀ (n : Nat) (t_thrown : Int) (v1 : Int) (v2 : Int), fn_Md_mostUsedTopic_b9 n i_t_w t_thrown v1 v2 = some q → jk_J p l e (jk_rm 2 45) s m args below meth c 0 0 (jk_QI below D jk_cl (jk_ty cI cR) (wd_Md_mostUsedTopic cI a_t a_t_w a_t_wKept a_t_saved a_t_past a_t_input a_t_n a_t_order a_t_numbers a_t_output i_t_pastMany i_t_isSaved i_t_thrown i_t_inputMany i_t_lastError i_t_lastOffset i_t_error i_t_offset i_t_nextByte i_t_begin i_t_value i_t_token i_t_got i_t_orders i_t_outputMany i_t_w) (wd_Md_mostUsedTopic cI a_t a_t_w a_t_wKept a_t_saved a_t_past a_t_input a_t_n a_t_order a_t_numbers a_t_output i_t_pastMany i_t_isSaved q.2 i_t_inputMany i_t_lastError i_t_lastOffset i_t_error i_t_offset i_t_nextByte i_t_begin i_t_value i_t_token i_t_got i_t_orders i_t_outputMany i_t_w) args s q.1) D jk_cl (va_A (wd_Md_mostUsedTopic cI a_t a_t_w a_t_wKept a_t_saved a_t_past a_t_input a_t_n a_t_order a_t_numbers a_t_output i_t_pastMany i_t_isSaved i_t_thrown i_t_inputMany i_t_lastError i_t_lastOffset i_t_error i_t_offset i_t_nextByte i_t_begin i_t_value i_t_token i_t_got i_t_orders i_t_outputMany i_t_w) s.heap.size) 3 (wd_Md_mostUsedTopic cI a_t a_t_w a_t_wKept a_t_saved a_t_past a_t_input a_t_n a_t_order a_t_numbers a_t_output i_t_pastMany i_t_isSaved t_thrown i_t_inputMany i_t_lastError i_t_lastOffset i_t_error i_t_offset i_t_nextByte i_t_begin i_t_value i_t_token i_t_got i_t_orders i_t_outputMany i_t_w) [(0, .ref a_t), (1, jk_V v1), (2, jk_V v2)] 9 [] := by
    intro n
    induction n with
    | zero => intro t_thrown v1 v2 hf; exact nomatch (show none = some q from hf)
    | succ n ih =>
      intro t_thrown v1 v2 hf
      rw [fn_Md_mostUsedTopic_b9] at hf
      refine jk_iload_n C rd_Md_mostUsedTopic_9 (k := 2) rfl ?_
      refine jk_aload_n C rd_Md_mostUsedTopic_10 (k := 0) rfl ?_
      refine jk_get C in_Md (ci := 11) rfl 0 (by decide) tm_1263 0 rfl rfl rd_Md_mostUsedTopic_11 ?_
      refine jk_iconst C rd_Md_mostUsedTopic_14 ?_
      refine jk_iald C 1 0 rfl rfl (Nat.le_of_ble_eq_true rfl) rd_Md_mostUsedTopic_15 hf (fun hf => ?_)
      refine jk_icmp_ge (tgt := 40) C rd_Md_mostUsedTopic_16 (by decide) hf (fun _ hf => ?_) (fun _ hf => ?_)
      · refine jk_iload_n C rd_Md_mostUsedTopic_40 (k := 1) rfl ?_
        cases hf
        exact jk_iret C rfl rd_Md_mostUsedTopic_41 rfl
      · refine jk_aload_n C rd_Md_mostUsedTopic_19 (k := 0) rfl ?_
        refine jk_iload_n C rd_Md_mostUsedTopic_20 (k := 2) rfl ?_
        obtain ⟨q21, hq21, hf⟩ := jk_bind_h hf
        refine jk_callVi C hZ.1 hz (ct_Md_cordsWith l D Z sq hZ cI cR a_t a_t_w a_t_wKept a_t_saved a_t_past a_t_input a_t_n a_t_order a_t_numbers a_t_output i_t_pastMany i_t_isSaved t_thrown i_t_inputMany i_t_lastError i_t_lastOffset i_t_error i_t_offset i_t_nextByte i_t_begin i_t_value i_t_token i_t_got i_t_orders i_t_outputMany i_t_w v2 q21 hq21) tm_1791 tm_1793 sl_99 tm_15 tm_1794 na_Md_cordsWith ⟨Nat.le_of_ble_eq_true rfl, Nat.le_of_ble_eq_true rfl⟩ rfl [0, 1] rfl rfl rfl (ws' := wd_Md_mostUsedTopic cI a_t a_t_w a_t_wKept a_t_saved a_t_past a_t_input a_t_n a_t_order a_t_numbers a_t_output i_t_pastMany i_t_isSaved t_thrown i_t_inputMany i_t_lastError i_t_lastOffset i_t_error i_t_offset i_t_nextByte i_t_begin i_t_value i_t_token i_t_got i_t_orders i_t_outputMany i_t_w) rfl 0 11 rfl rfl rfl (st := []) rfl (Nat.le_of_ble_eq_true rfl) rd_Md_mostUsedTopic_21 ?_ ⟨Nat.le_of_ble_eq_true rfl, Nat.le_of_ble_eq_true rfl⟩
        refine jk_aload_n C rd_Md_mostUsedTopic_24 (k := 0) rfl ?_
        refine jk_iload_n C rd_Md_mostUsedTopic_25 (k := 1) rfl ?_
        obtain ⟨q26, hq26, hf⟩ := jk_bind_h hf
        refine jk_callVi C hZ.1 hz (ct_Md_cordsWith l D Z sq hZ cI cR a_t a_t_w a_t_wKept a_t_saved a_t_past a_t_input a_t_n a_t_order a_t_numbers a_t_output i_t_pastMany i_t_isSaved t_thrown i_t_inputMany i_t_lastError i_t_lastOffset i_t_error i_t_offset i_t_nextByte i_t_begin i_t_value i_t_token i_t_got i_t_orders i_t_outputMany i_t_w v1 q26 hq26) tm_1791 tm_1793 sl_99 tm_15 tm_1794 na_Md_cordsWith ⟨Nat.le_of_ble_eq_true rfl, Nat.le_of_ble_eq_true rfl⟩ rfl [0, 1] rfl rfl rfl (ws' := wd_Md_mostUsedTopic cI a_t a_t_w a_t_wKept a_t_saved a_t_past a_t_input a_t_n a_t_order a_t_numbers a_t_output i_t_pastMany i_t_isSaved t_thrown i_t_inputMany i_t_lastError i_t_lastOffset i_t_error i_t_offset i_t_nextByte i_t_begin i_t_value i_t_token i_t_got i_t_orders i_t_outputMany i_t_w) rfl 0 11 rfl rfl rfl (st := [jk_V q21]) rfl (Nat.le_of_ble_eq_true rfl) rd_Md_mostUsedTopic_26 ?_ ⟨Nat.le_of_ble_eq_true rfl, Nat.le_of_ble_eq_true rfl⟩
        refine jk_icmp_le (tgt := 34) C rd_Md_mostUsedTopic_29 (by decide) hf (fun _ hf => ?_) (fun _ hf => ?_)
        · refine jk_iinc C rd_Md_mostUsedTopic_34 (k := 2) rfl (by decide) (lv' := [(2, jk_V (v2 + 1)), (0, .ref a_t), (1, jk_V v1)]) rfl ?_
          refine jk_goto (tgt := 9) C rd_Md_mostUsedTopic_37 (by decide) ?_
          refine jk_lv (lv' := [(0, .ref a_t), (1, jk_V v1), (2, jk_V (v2 + 1))]) [1, 2, 0] rfl ?_
          exact ih t_thrown v1 (v2 + 1) hf
        · refine jk_iload_n C rd_Md_mostUsedTopic_32 (k := 2) rfl ?_
          refine jk_istore_n C rd_Md_mostUsedTopic_33 (by decide) (lv' := [(1, jk_V v2), (0, .ref a_t), (2, jk_V v2)]) rfl ?_
          refine jk_iinc C rd_Md_mostUsedTopic_34 (k := 2) rfl (by decide) (lv' := [(2, jk_V (v2 + 1)), (1, jk_V v2), (0, .ref a_t)]) rfl ?_
          refine jk_goto (tgt := 9) C rd_Md_mostUsedTopic_37 (by decide) ?_
          refine jk_lv (lv' := [(0, .ref a_t), (1, jk_V v2), (2, jk_V (v2 + 1))]) [2, 1, 0] rfl ?_
          exact ih t_thrown v2 (v2 + 1) hf
  refine jk_aload_n C rd_Md_mostUsedTopic_0 (k := 0) rfl ?_
  refine jk_iconst C rd_Md_mostUsedTopic_1 ?_
  refine jk_putf C in_Md ty_Md nm_Md (ci := 11) rfl 6 (by decide) tm_1269 rfl rfl rfl 0 rfl (Nat.le_of_ble_eq_true rfl) rd_Md_mostUsedTopic_2 (ws' := wd_Md_mostUsedTopic cI a_t a_t_w a_t_wKept a_t_saved a_t_past a_t_input a_t_n a_t_order a_t_numbers a_t_output i_t_pastMany i_t_isSaved 0 i_t_inputMany i_t_lastError i_t_lastOffset i_t_error i_t_offset i_t_nextByte i_t_begin i_t_value i_t_token i_t_got i_t_orders i_t_outputMany i_t_w) rfl ?_
  refine jk_iconst C rd_Md_mostUsedTopic_5 ?_
  refine jk_istore_n C rd_Md_mostUsedTopic_6 (by decide) (lv' := [(1, jk_V 0), (0, .ref a_t)]) rfl ?_
  refine jk_iconst C rd_Md_mostUsedTopic_7 ?_
  refine jk_istore_n C rd_Md_mostUsedTopic_8 (by decide) (lv' := [(2, jk_V 1), (1, jk_V 0), (0, .ref a_t)]) rfl ?_
  refine jk_lv (lv' := [(0, .ref a_t), (1, jk_V 0), (2, jk_V 1)]) [2, 1, 0] rfl ?_
  exact bk_9 jk_F 0 0 1 hf
def wd_Md_greatestCord (cI : ClassId) (a_t a_t_w a_t_wKept a_t_saved a_t_past a_t_input a_t_n a_t_order a_t_numbers a_t_output : Nat) (i_t_pastMany : Int) (i_t_isSaved : Int) (i_t_thrown : Int) (i_t_inputMany : Int) (i_t_lastError : Int) (i_t_lastOffset : Int) (i_t_error : Int) (i_t_offset : Int) (i_t_nextByte : Int) (i_t_begin : Int) (i_t_value : Int) (i_t_token : Int) (i_t_got : Int) (i_t_orders : Int) (i_t_outputMany : Int) (i_t_w : (Int → Int)) : va_W := [(a_t, .inr (11, [.ref a_t_w, .ref a_t_wKept, .ref a_t_saved, .ref a_t_past, jk_V i_t_pastMany, jk_V i_t_isSaved, jk_V i_t_thrown, .ref a_t_input, jk_V i_t_inputMany, jk_V i_t_lastError, jk_V i_t_lastOffset, jk_V i_t_error, jk_V i_t_offset, jk_V i_t_nextByte, jk_V i_t_begin, jk_V i_t_value, jk_V i_t_token, jk_V i_t_got, .ref a_t_n, .ref a_t_order, .ref a_t_numbers, jk_V i_t_orders, .ref a_t_output, jk_V i_t_outputMany])), (a_t_w, jk_W cI 259 i_t_w)]
set_option maxHeartbeats 4000000 in
set_option maxRecDepth 20000 in
theorem ct_Md_greatestCord (l : Launch) (D : va_G) (Z : (Nat → Prop) → State → Heap → Prop) (sq : Nat → Nat) (hZ : jk_ZK Z sq) (cI cR : ClassId) (a_t a_t_w a_t_wKept a_t_saved a_t_past a_t_input a_t_n a_t_order a_t_numbers a_t_output : Nat) (i_t_pastMany : Int) (i_t_isSaved : Int) (i_t_thrown : Int) (i_t_inputMany : Int) (i_t_lastError : Int) (i_t_lastOffset : Int) (i_t_error : Int) (i_t_offset : Int) (i_t_nextByte : Int) (i_t_begin : Int) (i_t_value : Int) (i_t_token : Int) (i_t_got : Int) (i_t_orders : Int) (i_t_outputMany : Int) (i_t_w : (Int → Int)) (q : Int × Int) (hf : fn_Md_greatestCord i_t_w i_t_thrown = some q) : jk_MI l D jk_cl (jk_ty cI cR) Z mn_Md_greatestCord (.code mn_Md_greatestCord mb_Md_greatestCord 3 (some .int) :: jk_WA) (jk_rm 1 22) [.ref a_t] (wd_Md_greatestCord cI a_t a_t_w a_t_wKept a_t_saved a_t_past a_t_input a_t_n a_t_order a_t_numbers a_t_output i_t_pastMany i_t_isSaved i_t_thrown i_t_inputMany i_t_lastError i_t_lastOffset i_t_error i_t_offset i_t_nextByte i_t_begin i_t_value i_t_token i_t_got i_t_orders i_t_outputMany i_t_w) (wd_Md_greatestCord cI a_t a_t_w a_t_wKept a_t_saved a_t_past a_t_input a_t_n a_t_order a_t_numbers a_t_output i_t_pastMany i_t_isSaved q.2 i_t_inputMany i_t_lastError i_t_lastOffset i_t_error i_t_offset i_t_nextByte i_t_begin i_t_value i_t_token i_t_got i_t_orders i_t_outputMany i_t_w) q.1 := by
  intro sz
  refine jk_body (by decide +kernel) (fun p e s m args below meth c hsz hz hin C => ?_) (Nat.le_of_ble_eq_true rfl)
  subst hsz
  unfold fn_Md_greatestCord at hf
  have bk_9 : ∀ (n : Nat) (t_thrown : Int) (v1 : Int) (v2 : Int), fn_Md_greatestCord_b9 n i_t_w t_thrown v1 v2 = some q → jk_J p l e (jk_rm 1 22) s m args below meth c 0 0 (jk_QI below D jk_cl (jk_ty cI cR) (wd_Md_greatestCord cI a_t a_t_w a_t_wKept a_t_saved a_t_past a_t_input a_t_n a_t_order a_t_numbers a_t_output i_t_pastMany i_t_isSaved i_t_thrown i_t_inputMany i_t_lastError i_t_lastOffset i_t_error i_t_offset i_t_nextByte i_t_begin i_t_value i_t_token i_t_got i_t_orders i_t_outputMany i_t_w) (wd_Md_greatestCord cI a_t a_t_w a_t_wKept a_t_saved a_t_past a_t_input a_t_n a_t_order a_t_numbers a_t_output i_t_pastMany i_t_isSaved q.2 i_t_inputMany i_t_lastError i_t_lastOffset i_t_error i_t_offset i_t_nextByte i_t_begin i_t_value i_t_token i_t_got i_t_orders i_t_outputMany i_t_w) args s q.1) D jk_cl (va_A (wd_Md_greatestCord cI a_t a_t_w a_t_wKept a_t_saved a_t_past a_t_input a_t_n a_t_order a_t_numbers a_t_output i_t_pastMany i_t_isSaved i_t_thrown i_t_inputMany i_t_lastError i_t_lastOffset i_t_error i_t_offset i_t_nextByte i_t_begin i_t_value i_t_token i_t_got i_t_orders i_t_outputMany i_t_w) s.heap.size) 3 (wd_Md_greatestCord cI a_t a_t_w a_t_wKept a_t_saved a_t_past a_t_input a_t_n a_t_order a_t_numbers a_t_output i_t_pastMany i_t_isSaved t_thrown i_t_inputMany i_t_lastError i_t_lastOffset i_t_error i_t_offset i_t_nextByte i_t_begin i_t_value i_t_token i_t_got i_t_orders i_t_outputMany i_t_w) [(0, .ref a_t), (1, jk_V v1), (2, jk_V v2)] 9 [] := by
    intro n
    induction n with
    | zero => intro t_thrown v1 v2 hf; exact nomatch (show none = some q from hf)
    | succ n ih =>
      intro t_thrown v1 v2 hf
      rw [fn_Md_greatestCord_b9] at hf
      refine jk_iload_n C rd_Md_greatestCord_9 (k := 2) rfl ?_
      refine jk_aload_n C rd_Md_greatestCord_10 (k := 0) rfl ?_
      refine jk_get C in_Md (ci := 11) rfl 0 (by decide) tm_1263 0 rfl rfl rd_Md_greatestCord_11 ?_
      refine jk_iconst C rd_Md_greatestCord_14 ?_
      refine jk_iald C 1 0 rfl rfl (Nat.le_of_ble_eq_true rfl) rd_Md_greatestCord_15 hf (fun hf => ?_)
      refine jk_icmp_ge (tgt := 50) C rd_Md_greatestCord_16 (by decide) hf (fun _ hf => ?_) (fun _ hf => ?_)
      · refine jk_iload_n C rd_Md_greatestCord_50 (k := 1) rfl ?_
        cases hf
        exact jk_iret C rfl rd_Md_greatestCord_51 rfl
      · refine jk_iload_n C rd_Md_greatestCord_19 (k := 1) rfl ?_
        refine jk_iconst C rd_Md_greatestCord_20 ?_
        refine jk_icmp_eq (tgt := 42) C rd_Md_greatestCord_21 (by decide) hf (fun _ hf => ?_) (fun _ hf => ?_)
        · refine jk_iload_n C rd_Md_greatestCord_42 (k := 2) rfl ?_
          refine jk_istore_n C rd_Md_greatestCord_43 (by decide) (lv' := [(1, jk_V v2), (0, .ref a_t), (2, jk_V v2)]) rfl ?_
          refine jk_iinc C rd_Md_greatestCord_44 (k := 2) rfl (by decide) (lv' := [(2, jk_V (v2 + 1)), (1, jk_V v2), (0, .ref a_t)]) rfl ?_
          refine jk_goto (tgt := 9) C rd_Md_greatestCord_47 (by decide) ?_
          refine jk_lv (lv' := [(0, .ref a_t), (1, jk_V v2), (2, jk_V (v2 + 1))]) [2, 1, 0] rfl ?_
          exact ih t_thrown v2 (v2 + 1) hf
        · refine jk_aload_n C rd_Md_greatestCord_24 (k := 0) rfl ?_
          refine jk_iload_n C rd_Md_greatestCord_25 (k := 2) rfl ?_
          refine jk_iconst C rd_Md_greatestCord_26 ?_
          obtain ⟨q27, hq27, hf⟩ := jk_bind_h hf
          refine jk_callVi C hZ.1 hz (ct_Md_of l D Z sq hZ cI cR a_t a_t_w a_t_wKept a_t_saved a_t_past a_t_input a_t_n a_t_order a_t_numbers a_t_output i_t_pastMany i_t_isSaved t_thrown i_t_inputMany i_t_lastError i_t_lastOffset i_t_error i_t_offset i_t_nextByte i_t_begin i_t_value i_t_token i_t_got i_t_orders i_t_outputMany i_t_w v2 3 q27 hq27) tm_1256 tm_1258 sl_26 tm_15 tm_1259 na_Md_of ⟨Nat.le_of_ble_eq_true rfl, Nat.le_of_ble_eq_true rfl⟩ rfl [0, 1] rfl rfl rfl (ws' := wd_Md_greatestCord cI a_t a_t_w a_t_wKept a_t_saved a_t_past a_t_input a_t_n a_t_order a_t_numbers a_t_output i_t_pastMany i_t_isSaved t_thrown i_t_inputMany i_t_lastError i_t_lastOffset i_t_error i_t_offset i_t_nextByte i_t_begin i_t_value i_t_token i_t_got i_t_orders i_t_outputMany i_t_w) rfl 0 11 rfl rfl rfl (st := []) rfl (Nat.le_of_ble_eq_true rfl) rd_Md_greatestCord_27 ?_ ⟨Nat.le_of_ble_eq_true rfl, Nat.le_of_ble_eq_true rfl⟩
          refine jk_aload_n C rd_Md_greatestCord_30 (k := 0) rfl ?_
          refine jk_iload_n C rd_Md_greatestCord_31 (k := 1) rfl ?_
          refine jk_iconst C rd_Md_greatestCord_32 ?_
          obtain ⟨q33, hq33, hf⟩ := jk_bind_h hf
          refine jk_callVi C hZ.1 hz (ct_Md_of l D Z sq hZ cI cR a_t a_t_w a_t_wKept a_t_saved a_t_past a_t_input a_t_n a_t_order a_t_numbers a_t_output i_t_pastMany i_t_isSaved t_thrown i_t_inputMany i_t_lastError i_t_lastOffset i_t_error i_t_offset i_t_nextByte i_t_begin i_t_value i_t_token i_t_got i_t_orders i_t_outputMany i_t_w v1 3 q33 hq33) tm_1256 tm_1258 sl_26 tm_15 tm_1259 na_Md_of ⟨Nat.le_of_ble_eq_true rfl, Nat.le_of_ble_eq_true rfl⟩ rfl [0, 1] rfl rfl rfl (ws' := wd_Md_greatestCord cI a_t a_t_w a_t_wKept a_t_saved a_t_past a_t_input a_t_n a_t_order a_t_numbers a_t_output i_t_pastMany i_t_isSaved t_thrown i_t_inputMany i_t_lastError i_t_lastOffset i_t_error i_t_offset i_t_nextByte i_t_begin i_t_value i_t_token i_t_got i_t_orders i_t_outputMany i_t_w) rfl 0 11 rfl rfl rfl (st := [jk_V q27]) rfl (Nat.le_of_ble_eq_true rfl) rd_Md_greatestCord_33 ?_ ⟨Nat.le_of_ble_eq_true rfl, Nat.le_of_ble_eq_true rfl⟩
          refine jk_icmp_gt (tgt := 42) C rd_Md_greatestCord_36 (by decide) hf (fun _ hf => ?_) (fun _ hf => ?_)
          · refine jk_iload_n C rd_Md_greatestCord_42 (k := 2) rfl ?_
            refine jk_istore_n C rd_Md_greatestCord_43 (by decide) (lv' := [(1, jk_V v2), (0, .ref a_t), (2, jk_V v2)]) rfl ?_
            refine jk_iinc C rd_Md_greatestCord_44 (k := 2) rfl (by decide) (lv' := [(2, jk_V (v2 + 1)), (1, jk_V v2), (0, .ref a_t)]) rfl ?_
            refine jk_goto (tgt := 9) C rd_Md_greatestCord_47 (by decide) ?_
            refine jk_lv (lv' := [(0, .ref a_t), (1, jk_V v2), (2, jk_V (v2 + 1))]) [2, 1, 0] rfl ?_
            exact ih t_thrown v2 (v2 + 1) hf
          · refine jk_goto (tgt := 44) C rd_Md_greatestCord_39 (by decide) ?_
            refine jk_iinc C rd_Md_greatestCord_44 (k := 2) rfl (by decide) (lv' := [(2, jk_V (v2 + 1)), (0, .ref a_t), (1, jk_V v1)]) rfl ?_
            refine jk_goto (tgt := 9) C rd_Md_greatestCord_47 (by decide) ?_
            refine jk_lv (lv' := [(0, .ref a_t), (1, jk_V v1), (2, jk_V (v2 + 1))]) [1, 2, 0] rfl ?_
            exact ih t_thrown v1 (v2 + 1) hf
  refine jk_aload_n C rd_Md_greatestCord_0 (k := 0) rfl ?_
  refine jk_iconst C rd_Md_greatestCord_1 ?_
  refine jk_putf C in_Md ty_Md nm_Md (ci := 11) rfl 6 (by decide) tm_1269 rfl rfl rfl 0 rfl (Nat.le_of_ble_eq_true rfl) rd_Md_greatestCord_2 (ws' := wd_Md_greatestCord cI a_t a_t_w a_t_wKept a_t_saved a_t_past a_t_input a_t_n a_t_order a_t_numbers a_t_output i_t_pastMany i_t_isSaved 0 i_t_inputMany i_t_lastError i_t_lastOffset i_t_error i_t_offset i_t_nextByte i_t_begin i_t_value i_t_token i_t_got i_t_orders i_t_outputMany i_t_w) rfl ?_
  refine jk_iconst C rd_Md_greatestCord_5 ?_
  refine jk_istore_n C rd_Md_greatestCord_6 (by decide) (lv' := [(1, jk_V ((-1))), (0, .ref a_t)]) rfl ?_
  refine jk_iconst C rd_Md_greatestCord_7 ?_
  refine jk_istore_n C rd_Md_greatestCord_8 (by decide) (lv' := [(2, jk_V 0), (1, jk_V ((-1))), (0, .ref a_t)]) rfl ?_
  refine jk_lv (lv' := [(0, .ref a_t), (1, jk_V ((-1))), (2, jk_V 0)]) [2, 1, 0] rfl ?_
  exact bk_9 jk_F 0 ((-1)) 0 hf
def wd_Md_totalBelow (cI : ClassId) (a_t a_t_w a_t_wKept a_t_saved a_t_past a_t_input a_t_n a_t_order a_t_numbers a_t_output : Nat) (i_t_pastMany : Int) (i_t_isSaved : Int) (i_t_thrown : Int) (i_t_inputMany : Int) (i_t_lastError : Int) (i_t_lastOffset : Int) (i_t_error : Int) (i_t_offset : Int) (i_t_nextByte : Int) (i_t_begin : Int) (i_t_value : Int) (i_t_token : Int) (i_t_got : Int) (i_t_orders : Int) (i_t_outputMany : Int) (i_t_w : (Int → Int)) : va_W := [(a_t, .inr (11, [.ref a_t_w, .ref a_t_wKept, .ref a_t_saved, .ref a_t_past, jk_V i_t_pastMany, jk_V i_t_isSaved, jk_V i_t_thrown, .ref a_t_input, jk_V i_t_inputMany, jk_V i_t_lastError, jk_V i_t_lastOffset, jk_V i_t_error, jk_V i_t_offset, jk_V i_t_nextByte, jk_V i_t_begin, jk_V i_t_value, jk_V i_t_token, jk_V i_t_got, .ref a_t_n, .ref a_t_order, .ref a_t_numbers, jk_V i_t_orders, .ref a_t_output, jk_V i_t_outputMany])), (a_t_w, jk_W cI 259 i_t_w)]
set_option maxHeartbeats 4000000 in
set_option maxRecDepth 20000 in
theorem ct_Md_totalBelow (l : Launch) (D : va_G) (Z : (Nat → Prop) → State → Heap → Prop) (sq : Nat → Nat) (hZ : jk_ZK Z sq) (cI cR : ClassId) (a_t a_t_w a_t_wKept a_t_saved a_t_past a_t_input a_t_n a_t_order a_t_numbers a_t_output : Nat) : ∀ (d : Nat) (i_t_pastMany : Int) (i_t_isSaved : Int) (i_t_thrown : Int) (i_t_inputMany : Int) (i_t_lastError : Int) (i_t_lastOffset : Int) (i_t_error : Int) (i_t_offset : Int) (i_t_nextByte : Int) (i_t_begin : Int) (i_t_value : Int) (i_t_token : Int) (i_t_got : Int) (i_t_orders : Int) (i_t_outputMany : Int) (i_t_w : (Int → Int)) (x1 : Int) (q : Int), fn_Md_totalBelow d i_t_w x1 = some q → jk_MI l D jk_cl (jk_ty cI cR) Z mn_Md_totalBelow (.code mn_Md_totalBelow mb_Md_totalBelow 4 (some .int) :: jk_WA) (jk_rm (2 + d) (44 + d * 23)) [.ref a_t, jk_V x1] (wd_Md_totalBelow cI a_t a_t_w a_t_wKept a_t_saved a_t_past a_t_input a_t_n a_t_order a_t_numbers a_t_output i_t_pastMany i_t_isSaved i_t_thrown i_t_inputMany i_t_lastError i_t_lastOffset i_t_error i_t_offset i_t_nextByte i_t_begin i_t_value i_t_token i_t_got i_t_orders i_t_outputMany i_t_w) (wd_Md_totalBelow cI a_t a_t_w a_t_wKept a_t_saved a_t_past a_t_input a_t_n a_t_order a_t_numbers a_t_output i_t_pastMany i_t_isSaved i_t_thrown i_t_inputMany i_t_lastError i_t_lastOffset i_t_error i_t_offset i_t_nextByte i_t_begin i_t_value i_t_token i_t_got i_t_orders i_t_outputMany i_t_w) q := by
  intro d
  induction d with
  | zero => intro i_t_pastMany i_t_isSaved i_t_thrown i_t_inputMany i_t_lastError i_t_lastOffset i_t_error i_t_offset i_t_nextByte i_t_begin i_t_value i_t_token i_t_got i_t_orders i_t_outputMany i_t_w x1 q hf; exact nomatch (show none = some q from hf)
  | succ d ihd =>
  intro i_t_pastMany i_t_isSaved i_t_thrown i_t_inputMany i_t_lastError i_t_lastOffset i_t_error i_t_offset i_t_nextByte i_t_begin i_t_value i_t_token i_t_got i_t_orders i_t_outputMany i_t_w x1 q hf
  intro sz
  refine jk_body (by decide +kernel) (fun p e s m args below meth c hsz hz hin C => ?_) (Nat.le_of_ble_eq_true rfl)
  subst hsz
  rw [fn_Md_totalBelow] at hf
  have bk_11 : ∀ (n : Nat) (v1 : Int) (v2 : Int) (v3 : Int), fn_Md_totalBelow_b11 (fn_Md_totalBelow d) n i_t_w v1 v2 v3 = some q → jk_J p l e (jk_rm (2 + (d + 1)) (44 + (d + 1) * 23)) s m args below meth c 0 0 (jk_QI below D jk_cl (jk_ty cI cR) (wd_Md_totalBelow cI a_t a_t_w a_t_wKept a_t_saved a_t_past a_t_input a_t_n a_t_order a_t_numbers a_t_output i_t_pastMany i_t_isSaved i_t_thrown i_t_inputMany i_t_lastError i_t_lastOffset i_t_error i_t_offset i_t_nextByte i_t_begin i_t_value i_t_token i_t_got i_t_orders i_t_outputMany i_t_w) (wd_Md_totalBelow cI a_t a_t_w a_t_wKept a_t_saved a_t_past a_t_input a_t_n a_t_order a_t_numbers a_t_output i_t_pastMany i_t_isSaved i_t_thrown i_t_inputMany i_t_lastError i_t_lastOffset i_t_error i_t_offset i_t_nextByte i_t_begin i_t_value i_t_token i_t_got i_t_orders i_t_outputMany i_t_w) args s q) D jk_cl (va_A (wd_Md_totalBelow cI a_t a_t_w a_t_wKept a_t_saved a_t_past a_t_input a_t_n a_t_order a_t_numbers a_t_output i_t_pastMany i_t_isSaved i_t_thrown i_t_inputMany i_t_lastError i_t_lastOffset i_t_error i_t_offset i_t_nextByte i_t_begin i_t_value i_t_token i_t_got i_t_orders i_t_outputMany i_t_w) s.heap.size) 4 (wd_Md_totalBelow cI a_t a_t_w a_t_wKept a_t_saved a_t_past a_t_input a_t_n a_t_order a_t_numbers a_t_output i_t_pastMany i_t_isSaved i_t_thrown i_t_inputMany i_t_lastError i_t_lastOffset i_t_error i_t_offset i_t_nextByte i_t_begin i_t_value i_t_token i_t_got i_t_orders i_t_outputMany i_t_w) [(0, .ref a_t), (1, jk_V v1), (2, jk_V v2), (3, jk_V v3)] 11 [] := by
    intro n
    induction n with
    | zero => intro v1 v2 v3 hf; exact nomatch (show none = some q from hf)
    | succ n ih =>
      intro v1 v2 v3 hf
      rw [fn_Md_totalBelow_b11] at hf
      refine jk_iload_n C rd_Md_totalBelow_11 (k := 3) rfl ?_
      refine jk_aload_n C rd_Md_totalBelow_12 (k := 0) rfl ?_
      refine jk_iload_n C rd_Md_totalBelow_13 (k := 1) rfl ?_
      obtain ⟨q14, hq14, hf⟩ := jk_bind_h hf
      refine jk_callVi C hZ.1 hz (ct_Md_behind l D Z sq hZ cI cR a_t a_t_w a_t_wKept a_t_saved a_t_past a_t_input a_t_n a_t_order a_t_numbers a_t_output i_t_pastMany i_t_isSaved i_t_thrown i_t_inputMany i_t_lastError i_t_lastOffset i_t_error i_t_offset i_t_nextByte i_t_begin i_t_value i_t_token i_t_got i_t_orders i_t_outputMany i_t_w v1 q14 hq14) tm_1457 tm_1459 sl_50 tm_15 tm_1460 na_Md_behind ⟨by dsimp only [jk_rm]; omega, by dsimp only [jk_rm]; omega⟩ rfl [0, 1] rfl rfl rfl (ws' := wd_Md_totalBelow cI a_t a_t_w a_t_wKept a_t_saved a_t_past a_t_input a_t_n a_t_order a_t_numbers a_t_output i_t_pastMany i_t_isSaved i_t_thrown i_t_inputMany i_t_lastError i_t_lastOffset i_t_error i_t_offset i_t_nextByte i_t_begin i_t_value i_t_token i_t_got i_t_orders i_t_outputMany i_t_w) rfl 0 11 rfl rfl rfl (st := [jk_V v3]) rfl (Nat.le_of_ble_eq_true rfl) rd_Md_totalBelow_14 ?_ ⟨Nat.le_of_ble_eq_true rfl, Nat.le_of_ble_eq_true rfl⟩
      refine jk_icmp_ge (tgt := 37) C rd_Md_totalBelow_17 (by decide) hf (fun _ hf => ?_) (fun _ hf => ?_)
      · refine jk_iload_n C rd_Md_totalBelow_37 (k := 2) rfl ?_
        cases hf
        exact jk_iret C rfl rd_Md_totalBelow_38 rfl
      · refine jk_iload_n C rd_Md_totalBelow_20 (k := 2) rfl ?_
        refine jk_aload_n C rd_Md_totalBelow_21 (k := 0) rfl ?_
        refine jk_iload_n C rd_Md_totalBelow_22 (k := 3) rfl ?_
        obtain ⟨q23, hq23, hf⟩ := jk_bind_h hf
        refine jk_callVi C hZ.1 hz (ihd i_t_pastMany i_t_isSaved i_t_thrown i_t_inputMany i_t_lastError i_t_lastOffset i_t_error i_t_offset i_t_nextByte i_t_begin i_t_value i_t_token i_t_got i_t_orders i_t_outputMany i_t_w v3 q23 hq23) tm_1823 tm_1825 sl_101 tm_15 tm_1826 na_Md_totalBelow ⟨by dsimp only [jk_rm]; omega, by dsimp only [jk_rm]; omega⟩ rfl [0, 1] rfl rfl rfl (ws' := wd_Md_totalBelow cI a_t a_t_w a_t_wKept a_t_saved a_t_past a_t_input a_t_n a_t_order a_t_numbers a_t_output i_t_pastMany i_t_isSaved i_t_thrown i_t_inputMany i_t_lastError i_t_lastOffset i_t_error i_t_offset i_t_nextByte i_t_begin i_t_value i_t_token i_t_got i_t_orders i_t_outputMany i_t_w) rfl 0 11 rfl rfl rfl (st := [jk_V v2]) rfl (Nat.le_of_ble_eq_true rfl) rd_Md_totalBelow_23 ?_ ⟨Nat.le_of_ble_eq_true rfl, Nat.le_of_ble_eq_true rfl⟩
        refine jk_iadd C rd_Md_totalBelow_26 ?_
        refine jk_istore_n C rd_Md_totalBelow_27 (by decide) (lv' := [(2, jk_V (v2 + q23)), (0, .ref a_t), (1, jk_V v1), (3, jk_V v3)]) rfl ?_
        refine jk_aload_n C rd_Md_totalBelow_28 (k := 1) rfl ?_
        refine jk_iload_n C rd_Md_totalBelow_29 (k := 3) rfl ?_
        obtain ⟨q30, hq30, hf⟩ := jk_bind_h hf
        refine jk_callVi C hZ.1 hz (ct_Md_behind l D Z sq hZ cI cR a_t a_t_w a_t_wKept a_t_saved a_t_past a_t_input a_t_n a_t_order a_t_numbers a_t_output i_t_pastMany i_t_isSaved i_t_thrown i_t_inputMany i_t_lastError i_t_lastOffset i_t_error i_t_offset i_t_nextByte i_t_begin i_t_value i_t_token i_t_got i_t_orders i_t_outputMany i_t_w v3 q30 hq30) tm_1457 tm_1459 sl_50 tm_15 tm_1460 na_Md_behind ⟨by dsimp only [jk_rm]; omega, by dsimp only [jk_rm]; omega⟩ rfl [0, 1] rfl rfl rfl (ws' := wd_Md_totalBelow cI a_t a_t_w a_t_wKept a_t_saved a_t_past a_t_input a_t_n a_t_order a_t_numbers a_t_output i_t_pastMany i_t_isSaved i_t_thrown i_t_inputMany i_t_lastError i_t_lastOffset i_t_error i_t_offset i_t_nextByte i_t_begin i_t_value i_t_token i_t_got i_t_orders i_t_outputMany i_t_w) rfl 0 11 rfl rfl rfl (st := []) rfl (Nat.le_of_ble_eq_true rfl) rd_Md_totalBelow_30 ?_ ⟨Nat.le_of_ble_eq_true rfl, Nat.le_of_ble_eq_true rfl⟩
        refine jk_istore_n C rd_Md_totalBelow_33 (by decide) (lv' := [(3, jk_V q30), (2, jk_V (v2 + q23)), (0, .ref a_t), (1, jk_V v1)]) rfl ?_
        refine jk_goto (tgt := 11) C rd_Md_totalBelow_34 (by decide) ?_
        refine jk_lv (lv' := [(0, .ref a_t), (1, jk_V v1), (2, jk_V (v2 + q23)), (3, jk_V q30)]) [2, 3, 1, 0] rfl ?_
        exact ih v1 (v2 + q23) q30 hf
  refine jk_aload_n C rd_Md_totalBelow_0 (k := 0) rfl ?_
  refine jk_iload_n C rd_Md_totalBelow_1 (k := 1) rfl ?_
  refine jk_iconst C rd_Md_totalBelow_2 ?_
  obtain ⟨q3, hq3, hf⟩ := jk_bind_h hf
  refine jk_callVi C hZ.1 hz (ct_Md_of l D Z sq hZ cI cR a_t a_t_w a_t_wKept a_t_saved a_t_past a_t_input a_t_n a_t_order a_t_numbers a_t_output i_t_pastMany i_t_isSaved i_t_thrown i_t_inputMany i_t_lastError i_t_lastOffset i_t_error i_t_offset i_t_nextByte i_t_begin i_t_value i_t_token i_t_got i_t_orders i_t_outputMany i_t_w x1 3 q3 hq3) tm_1256 tm_1258 sl_26 tm_15 tm_1259 na_Md_of ⟨by dsimp only [jk_rm]; omega, by dsimp only [jk_rm]; omega⟩ rfl [0, 1] rfl rfl rfl (ws' := wd_Md_totalBelow cI a_t a_t_w a_t_wKept a_t_saved a_t_past a_t_input a_t_n a_t_order a_t_numbers a_t_output i_t_pastMany i_t_isSaved i_t_thrown i_t_inputMany i_t_lastError i_t_lastOffset i_t_error i_t_offset i_t_nextByte i_t_begin i_t_value i_t_token i_t_got i_t_orders i_t_outputMany i_t_w) rfl 0 11 rfl rfl rfl (st := []) rfl (Nat.le_of_ble_eq_true rfl) rd_Md_totalBelow_3 ?_ ⟨Nat.le_of_ble_eq_true rfl, Nat.le_of_ble_eq_true rfl⟩
  refine jk_istore_n C rd_Md_totalBelow_6 (by decide) (lv' := [(2, jk_V q3), (0, .ref a_t), (1, jk_V x1)]) rfl ?_
  refine jk_iload_n C rd_Md_totalBelow_7 (k := 2) rfl ?_
  refine jk_iconst C rd_Md_totalBelow_8 ?_
  refine jk_iadd C rd_Md_totalBelow_9 ?_
  refine jk_istore_n C rd_Md_totalBelow_10 (by decide) (lv' := [(3, jk_V (x1 + 1)), (2, jk_V q3), (0, .ref a_t), (1, jk_V x1)]) rfl ?_
  refine jk_lv (lv' := [(0, .ref a_t), (1, jk_V x1), (2, jk_V q3), (3, jk_V (x1 + 1))]) [2, 3, 1, 0] rfl ?_
  exact bk_11 jk_F x1 q3 (x1 + 1) hf
def wd_Md_isCordRight (cI : ClassId) (a_t a_t_w a_t_wKept a_t_saved a_t_past a_t_input a_t_n a_t_order a_t_numbers a_t_output : Nat) (i_t_pastMany : Int) (i_t_isSaved : Int) (i_t_thrown : Int) (i_t_inputMany : Int) (i_t_lastError : Int) (i_t_lastOffset : Int) (i_t_error : Int) (i_t_offset : Int) (i_t_nextByte : Int) (i_t_begin : Int) (i_t_value : Int) (i_t_token : Int) (i_t_got : Int) (i_t_orders : Int) (i_t_outputMany : Int) (i_t_w : (Int → Int)) : va_W := [(a_t, .inr (11, [.ref a_t_w, .ref a_t_wKept, .ref a_t_saved, .ref a_t_past, jk_V i_t_pastMany, jk_V i_t_isSaved, jk_V i_t_thrown, .ref a_t_input, jk_V i_t_inputMany, jk_V i_t_lastError, jk_V i_t_lastOffset, jk_V i_t_error, jk_V i_t_offset, jk_V i_t_nextByte, jk_V i_t_begin, jk_V i_t_value, jk_V i_t_token, jk_V i_t_got, .ref a_t_n, .ref a_t_order, .ref a_t_numbers, jk_V i_t_orders, .ref a_t_output, jk_V i_t_outputMany])), (a_t_w, jk_W cI 259 i_t_w)]
set_option maxHeartbeats 4000000 in
set_option maxRecDepth 20000 in
theorem ct_Md_isCordRight (l : Launch) (D : va_G) (Z : (Nat → Prop) → State → Heap → Prop) (sq : Nat → Nat) (hZ : jk_ZK Z sq) (cI cR : ClassId) (a_t a_t_w a_t_wKept a_t_saved a_t_past a_t_input a_t_n a_t_order a_t_numbers a_t_output : Nat) (i_t_pastMany : Int) (i_t_isSaved : Int) (i_t_thrown : Int) (i_t_inputMany : Int) (i_t_lastError : Int) (i_t_lastOffset : Int) (i_t_error : Int) (i_t_offset : Int) (i_t_nextByte : Int) (i_t_begin : Int) (i_t_value : Int) (i_t_token : Int) (i_t_got : Int) (i_t_orders : Int) (i_t_outputMany : Int) (i_t_w : (Int → Int)) (x1 : Int) (q : Int) (hf : fn_Md_isCordRight i_t_w x1 = some q) : jk_MI l D jk_cl (jk_ty cI cR) Z mn_Md_isCordRight (.code mn_Md_isCordRight mb_Md_isCordRight 2 (some .boolean) :: jk_WA) (jk_rm 11 251) [.ref a_t, jk_V x1] (wd_Md_isCordRight cI a_t a_t_w a_t_wKept a_t_saved a_t_past a_t_input a_t_n a_t_order a_t_numbers a_t_output i_t_pastMany i_t_isSaved i_t_thrown i_t_inputMany i_t_lastError i_t_lastOffset i_t_error i_t_offset i_t_nextByte i_t_begin i_t_value i_t_token i_t_got i_t_orders i_t_outputMany i_t_w) (wd_Md_isCordRight cI a_t a_t_w a_t_wKept a_t_saved a_t_past a_t_input a_t_n a_t_order a_t_numbers a_t_output i_t_pastMany i_t_isSaved i_t_thrown i_t_inputMany i_t_lastError i_t_lastOffset i_t_error i_t_offset i_t_nextByte i_t_begin i_t_value i_t_token i_t_got i_t_orders i_t_outputMany i_t_w) q := by
  intro sz
  refine jk_body (by decide +kernel) (fun p e s m args below meth c hsz hz hin C => ?_) (Nat.le_of_ble_eq_true rfl)
  subst hsz
  unfold fn_Md_isCordRight at hf
  have bk_68 : ∀ (v1 : Int) (s0 : Int), fn_Md_isCordRight_b68 i_t_w v1 s0 = some q → jk_J p l e (jk_rm 11 251) s m args below meth c 0 0 (jk_QI below D jk_cl (jk_ty cI cR) (wd_Md_isCordRight cI a_t a_t_w a_t_wKept a_t_saved a_t_past a_t_input a_t_n a_t_order a_t_numbers a_t_output i_t_pastMany i_t_isSaved i_t_thrown i_t_inputMany i_t_lastError i_t_lastOffset i_t_error i_t_offset i_t_nextByte i_t_begin i_t_value i_t_token i_t_got i_t_orders i_t_outputMany i_t_w) (wd_Md_isCordRight cI a_t a_t_w a_t_wKept a_t_saved a_t_past a_t_input a_t_n a_t_order a_t_numbers a_t_output i_t_pastMany i_t_isSaved i_t_thrown i_t_inputMany i_t_lastError i_t_lastOffset i_t_error i_t_offset i_t_nextByte i_t_begin i_t_value i_t_token i_t_got i_t_orders i_t_outputMany i_t_w) args s q) D jk_cl (va_A (wd_Md_isCordRight cI a_t a_t_w a_t_wKept a_t_saved a_t_past a_t_input a_t_n a_t_order a_t_numbers a_t_output i_t_pastMany i_t_isSaved i_t_thrown i_t_inputMany i_t_lastError i_t_lastOffset i_t_error i_t_offset i_t_nextByte i_t_begin i_t_value i_t_token i_t_got i_t_orders i_t_outputMany i_t_w) s.heap.size) 2 (wd_Md_isCordRight cI a_t a_t_w a_t_wKept a_t_saved a_t_past a_t_input a_t_n a_t_order a_t_numbers a_t_output i_t_pastMany i_t_isSaved i_t_thrown i_t_inputMany i_t_lastError i_t_lastOffset i_t_error i_t_offset i_t_nextByte i_t_begin i_t_value i_t_token i_t_got i_t_orders i_t_outputMany i_t_w) [(0, .ref a_t), (1, jk_V v1)] 68 [jk_V s0] := by
    intro v1 s0 hf
    unfold fn_Md_isCordRight_b68 at hf
    refine jk_aload_n C rd_Md_isCordRight_68 (k := 0) rfl ?_
    refine jk_iload_n C rd_Md_isCordRight_69 (k := 1) rfl ?_
    obtain ⟨q70, hq70, hf⟩ := jk_bind_h hf
    refine jk_callVi C hZ.1 hz (ct_Md_isWhole l D Z sq hZ cI cR a_t a_t_w a_t_wKept a_t_saved a_t_past a_t_input a_t_n a_t_order a_t_numbers a_t_output i_t_pastMany i_t_isSaved i_t_thrown i_t_inputMany i_t_lastError i_t_lastOffset i_t_error i_t_offset i_t_nextByte i_t_begin i_t_value i_t_token i_t_got i_t_orders i_t_outputMany i_t_w v1 q70 hq70) tm_1771 tm_1773 sl_98 tm_15 tm_1774 na_Md_isWhole ⟨Nat.le_of_ble_eq_true rfl, Nat.le_of_ble_eq_true rfl⟩ rfl [0, 1] rfl rfl rfl (ws' := wd_Md_isCordRight cI a_t a_t_w a_t_wKept a_t_saved a_t_past a_t_input a_t_n a_t_order a_t_numbers a_t_output i_t_pastMany i_t_isSaved i_t_thrown i_t_inputMany i_t_lastError i_t_lastOffset i_t_error i_t_offset i_t_nextByte i_t_begin i_t_value i_t_token i_t_got i_t_orders i_t_outputMany i_t_w) rfl 0 11 rfl rfl rfl (st := [jk_V s0]) rfl (Nat.le_of_ble_eq_true rfl) rd_Md_isCordRight_70 ?_ ⟨Nat.le_of_ble_eq_true rfl, Nat.le_of_ble_eq_true rfl⟩
    refine jk_icmp_ne (tgt := 93) C rd_Md_isCordRight_73 (by decide) hf (fun _ hf => ?_) (fun _ hf => ?_)
    · refine jk_iconst C rd_Md_isCordRight_93 ?_
      cases hf
      exact jk_zret C (Or.inl rfl) rfl rd_Md_isCordRight_94 rfl
    · refine jk_aload_n C rd_Md_isCordRight_76 (k := 0) rfl ?_
      refine jk_iload_n C rd_Md_isCordRight_77 (k := 1) rfl ?_
      obtain ⟨q78, hq78, hf⟩ := jk_bind_h hf
      refine jk_callVi C hZ.1 hz (ct_Md_totalBelow l D Z sq hZ cI cR a_t a_t_w a_t_wKept a_t_saved a_t_past a_t_input a_t_n a_t_order a_t_numbers a_t_output 8 i_t_pastMany i_t_isSaved i_t_thrown i_t_inputMany i_t_lastError i_t_lastOffset i_t_error i_t_offset i_t_nextByte i_t_begin i_t_value i_t_token i_t_got i_t_orders i_t_outputMany i_t_w v1 q78 hq78) tm_1823 tm_1825 sl_101 tm_15 tm_1826 na_Md_totalBelow ⟨Nat.le_of_ble_eq_true rfl, Nat.le_of_ble_eq_true rfl⟩ rfl [0, 1] rfl rfl rfl (ws' := wd_Md_isCordRight cI a_t a_t_w a_t_wKept a_t_saved a_t_past a_t_input a_t_n a_t_order a_t_numbers a_t_output i_t_pastMany i_t_isSaved i_t_thrown i_t_inputMany i_t_lastError i_t_lastOffset i_t_error i_t_offset i_t_nextByte i_t_begin i_t_value i_t_token i_t_got i_t_orders i_t_outputMany i_t_w) rfl 0 11 rfl rfl rfl (st := []) rfl (Nat.le_of_ble_eq_true rfl) rd_Md_isCordRight_78 ?_ ⟨Nat.le_of_ble_eq_true rfl, Nat.le_of_ble_eq_true rfl⟩
      refine jk_aload_n C rd_Md_isCordRight_81 (k := 0) rfl ?_
      refine jk_iload_n C rd_Md_isCordRight_82 (k := 1) rfl ?_
      obtain ⟨q83, hq83, hf⟩ := jk_bind_h hf
      refine jk_callVi C hZ.1 hz (ct_Md_lowest l D Z sq hZ cI cR a_t a_t_w a_t_wKept a_t_saved a_t_past a_t_input a_t_n a_t_order a_t_numbers a_t_output i_t_pastMany i_t_isSaved i_t_thrown i_t_inputMany i_t_lastError i_t_lastOffset i_t_error i_t_offset i_t_nextByte i_t_begin i_t_value i_t_token i_t_got i_t_orders i_t_outputMany i_t_w v1 q83 hq83) tm_1683 tm_1685 sl_90 tm_15 tm_1686 na_Md_lowest ⟨Nat.le_of_ble_eq_true rfl, Nat.le_of_ble_eq_true rfl⟩ rfl [0, 1] rfl rfl rfl (ws' := wd_Md_isCordRight cI a_t a_t_w a_t_wKept a_t_saved a_t_past a_t_input a_t_n a_t_order a_t_numbers a_t_output i_t_pastMany i_t_isSaved i_t_thrown i_t_inputMany i_t_lastError i_t_lastOffset i_t_error i_t_offset i_t_nextByte i_t_begin i_t_value i_t_token i_t_got i_t_orders i_t_outputMany i_t_w) rfl 0 11 rfl rfl rfl (st := [jk_V q78]) rfl (Nat.le_of_ble_eq_true rfl) rd_Md_isCordRight_83 ?_ ⟨Nat.le_of_ble_eq_true rfl, Nat.le_of_ble_eq_true rfl⟩
      refine jk_icmp_ne (tgt := 93) C rd_Md_isCordRight_86 (by decide) hf (fun _ hf => ?_) (fun _ hf => ?_)
      · refine jk_iconst C rd_Md_isCordRight_93 ?_
        cases hf
        exact jk_zret C (Or.inl rfl) rfl rd_Md_isCordRight_94 rfl
      · refine jk_iconst C rd_Md_isCordRight_89 ?_
        refine jk_goto (tgt := 94) C rd_Md_isCordRight_90 (by decide) ?_
        cases hf
        exact jk_zret C (Or.inr rfl) rfl rd_Md_isCordRight_94 rfl
  have bk_50 : ∀ (v1 : Int), fn_Md_isCordRight_b50 i_t_w v1 = some q → jk_J p l e (jk_rm 11 251) s m args below meth c 0 0 (jk_QI below D jk_cl (jk_ty cI cR) (wd_Md_isCordRight cI a_t a_t_w a_t_wKept a_t_saved a_t_past a_t_input a_t_n a_t_order a_t_numbers a_t_output i_t_pastMany i_t_isSaved i_t_thrown i_t_inputMany i_t_lastError i_t_lastOffset i_t_error i_t_offset i_t_nextByte i_t_begin i_t_value i_t_token i_t_got i_t_orders i_t_outputMany i_t_w) (wd_Md_isCordRight cI a_t a_t_w a_t_wKept a_t_saved a_t_past a_t_input a_t_n a_t_order a_t_numbers a_t_output i_t_pastMany i_t_isSaved i_t_thrown i_t_inputMany i_t_lastError i_t_lastOffset i_t_error i_t_offset i_t_nextByte i_t_begin i_t_value i_t_token i_t_got i_t_orders i_t_outputMany i_t_w) args s q) D jk_cl (va_A (wd_Md_isCordRight cI a_t a_t_w a_t_wKept a_t_saved a_t_past a_t_input a_t_n a_t_order a_t_numbers a_t_output i_t_pastMany i_t_isSaved i_t_thrown i_t_inputMany i_t_lastError i_t_lastOffset i_t_error i_t_offset i_t_nextByte i_t_begin i_t_value i_t_token i_t_got i_t_orders i_t_outputMany i_t_w) s.heap.size) 2 (wd_Md_isCordRight cI a_t a_t_w a_t_wKept a_t_saved a_t_past a_t_input a_t_n a_t_order a_t_numbers a_t_output i_t_pastMany i_t_isSaved i_t_thrown i_t_inputMany i_t_lastError i_t_lastOffset i_t_error i_t_offset i_t_nextByte i_t_begin i_t_value i_t_token i_t_got i_t_orders i_t_outputMany i_t_w) [(0, .ref a_t), (1, jk_V v1)] 50 [] := by
    intro v1 hf
    unfold fn_Md_isCordRight_b50 at hf
    refine jk_aload_n C rd_Md_isCordRight_50 (k := 0) rfl ?_
    refine jk_iload_n C rd_Md_isCordRight_51 (k := 1) rfl ?_
    obtain ⟨q52, hq52, hf⟩ := jk_bind_h hf
    refine jk_callVi C hZ.1 hz (ct_Md_lowest l D Z sq hZ cI cR a_t a_t_w a_t_wKept a_t_saved a_t_past a_t_input a_t_n a_t_order a_t_numbers a_t_output i_t_pastMany i_t_isSaved i_t_thrown i_t_inputMany i_t_lastError i_t_lastOffset i_t_error i_t_offset i_t_nextByte i_t_begin i_t_value i_t_token i_t_got i_t_orders i_t_outputMany i_t_w v1 q52 hq52) tm_1683 tm_1685 sl_90 tm_15 tm_1686 na_Md_lowest ⟨Nat.le_of_ble_eq_true rfl, Nat.le_of_ble_eq_true rfl⟩ rfl [0, 1] rfl rfl rfl (ws' := wd_Md_isCordRight cI a_t a_t_w a_t_wKept a_t_saved a_t_past a_t_input a_t_n a_t_order a_t_numbers a_t_output i_t_pastMany i_t_isSaved i_t_thrown i_t_inputMany i_t_lastError i_t_lastOffset i_t_error i_t_offset i_t_nextByte i_t_begin i_t_value i_t_token i_t_got i_t_orders i_t_outputMany i_t_w) rfl 0 11 rfl rfl rfl (st := []) rfl (Nat.le_of_ble_eq_true rfl) rd_Md_isCordRight_52 ?_ ⟨Nat.le_of_ble_eq_true rfl, Nat.le_of_ble_eq_true rfl⟩
    refine jk_aload_n C rd_Md_isCordRight_55 (k := 0) rfl ?_
    refine jk_iload_n C rd_Md_isCordRight_56 (k := 1) rfl ?_
    obtain ⟨q57, hq57, hf⟩ := jk_bind_h hf
    refine jk_callVi C hZ.1 hz (ct_Md_highest l D Z sq hZ cI cR a_t a_t_w a_t_wKept a_t_saved a_t_past a_t_input a_t_n a_t_order a_t_numbers a_t_output i_t_pastMany i_t_isSaved i_t_thrown i_t_inputMany i_t_lastError i_t_lastOffset i_t_error i_t_offset i_t_nextByte i_t_begin i_t_value i_t_token i_t_got i_t_orders i_t_outputMany i_t_w v1 q57 hq57) tm_1691 tm_1693 sl_91 tm_15 tm_1694 na_Md_highest ⟨Nat.le_of_ble_eq_true rfl, Nat.le_of_ble_eq_true rfl⟩ rfl [0, 1] rfl rfl rfl (ws' := wd_Md_isCordRight cI a_t a_t_w a_t_wKept a_t_saved a_t_past a_t_input a_t_n a_t_order a_t_numbers a_t_output i_t_pastMany i_t_isSaved i_t_thrown i_t_inputMany i_t_lastError i_t_lastOffset i_t_error i_t_offset i_t_nextByte i_t_begin i_t_value i_t_token i_t_got i_t_orders i_t_outputMany i_t_w) rfl 0 11 rfl rfl rfl (st := [jk_V q52]) rfl (Nat.le_of_ble_eq_true rfl) rd_Md_isCordRight_57 ?_ ⟨Nat.le_of_ble_eq_true rfl, Nat.le_of_ble_eq_true rfl⟩
    refine jk_icmp_ne (tgt := 67) C rd_Md_isCordRight_60 (by decide) hf (fun _ hf => ?_) (fun _ hf => ?_)
    · refine jk_iconst C rd_Md_isCordRight_67 ?_
      refine jk_lv (lv' := [(0, .ref a_t), (1, jk_V v1)]) [0, 1] rfl ?_
      exact bk_68 v1 0 hf
    · refine jk_iconst C rd_Md_isCordRight_63 ?_
      refine jk_goto (tgt := 68) C rd_Md_isCordRight_64 (by decide) ?_
      refine jk_lv (lv' := [(0, .ref a_t), (1, jk_V v1)]) [0, 1] rfl ?_
      exact bk_68 v1 1 hf
  refine jk_aload_n C rd_Md_isCordRight_0 (k := 0) rfl ?_
  refine jk_iload_n C rd_Md_isCordRight_1 (k := 1) rfl ?_
  refine jk_iconst C rd_Md_isCordRight_2 ?_
  obtain ⟨q3, hq3, hf⟩ := jk_bind_h hf
  refine jk_callVi C hZ.1 hz (ct_Md_of l D Z sq hZ cI cR a_t a_t_w a_t_wKept a_t_saved a_t_past a_t_input a_t_n a_t_order a_t_numbers a_t_output i_t_pastMany i_t_isSaved i_t_thrown i_t_inputMany i_t_lastError i_t_lastOffset i_t_error i_t_offset i_t_nextByte i_t_begin i_t_value i_t_token i_t_got i_t_orders i_t_outputMany i_t_w x1 1 q3 hq3) tm_1256 tm_1258 sl_26 tm_15 tm_1259 na_Md_of ⟨Nat.le_of_ble_eq_true rfl, Nat.le_of_ble_eq_true rfl⟩ rfl [0, 1] rfl rfl rfl (ws' := wd_Md_isCordRight cI a_t a_t_w a_t_wKept a_t_saved a_t_past a_t_input a_t_n a_t_order a_t_numbers a_t_output i_t_pastMany i_t_isSaved i_t_thrown i_t_inputMany i_t_lastError i_t_lastOffset i_t_error i_t_offset i_t_nextByte i_t_begin i_t_value i_t_token i_t_got i_t_orders i_t_outputMany i_t_w) rfl 0 11 rfl rfl rfl (st := []) rfl (Nat.le_of_ble_eq_true rfl) rd_Md_isCordRight_3 ?_ ⟨Nat.le_of_ble_eq_true rfl, Nat.le_of_ble_eq_true rfl⟩
  refine jk_iconst C rd_Md_isCordRight_6 ?_
  refine jk_iconst C rd_Md_isCordRight_7 ?_
  obtain ⟨q8, hq8, hf⟩ := jk_bind_h hf
  refine jk_callSi C hZ.1 hz (ct_Md_inRange l D Z sq hZ cI cR q3 0 3 q8 hq8) tm_1352 tm_1353 tm_15 tm_1354 na_Md_inRange ⟨Nat.le_of_ble_eq_true rfl, Nat.le_of_ble_eq_true rfl⟩ rfl [] rfl rfl rfl (ws' := wd_Md_isCordRight cI a_t a_t_w a_t_wKept a_t_saved a_t_past a_t_input a_t_n a_t_order a_t_numbers a_t_output i_t_pastMany i_t_isSaved i_t_thrown i_t_inputMany i_t_lastError i_t_lastOffset i_t_error i_t_offset i_t_nextByte i_t_begin i_t_value i_t_token i_t_got i_t_orders i_t_outputMany i_t_w) rfl (st := []) rfl (Nat.le_of_ble_eq_true rfl) rd_Md_isCordRight_8 ?_ ⟨Nat.le_of_ble_eq_true rfl, Nat.le_of_ble_eq_true rfl⟩
  refine jk_if_eq (tgt := 48) C rd_Md_isCordRight_11 (by decide) hf (fun _ hf => ?_) (fun _ hf => ?_)
  · refine jk_iconst C rd_Md_isCordRight_48 ?_
    cases hf
    exact jk_zret C (Or.inl rfl) rfl rd_Md_isCordRight_49 rfl
  · refine jk_aload_n C rd_Md_isCordRight_14 (k := 0) rfl ?_
    refine jk_aload_n C rd_Md_isCordRight_15 (k := 0) rfl ?_
    refine jk_iload_n C rd_Md_isCordRight_16 (k := 1) rfl ?_
    refine jk_iconst C rd_Md_isCordRight_17 ?_
    obtain ⟨q18, hq18, hf⟩ := jk_bind_h hf
    refine jk_callVi C hZ.1 hz (ct_Md_of l D Z sq hZ cI cR a_t a_t_w a_t_wKept a_t_saved a_t_past a_t_input a_t_n a_t_order a_t_numbers a_t_output i_t_pastMany i_t_isSaved i_t_thrown i_t_inputMany i_t_lastError i_t_lastOffset i_t_error i_t_offset i_t_nextByte i_t_begin i_t_value i_t_token i_t_got i_t_orders i_t_outputMany i_t_w x1 0 q18 hq18) tm_1256 tm_1258 sl_26 tm_15 tm_1259 na_Md_of ⟨Nat.le_of_ble_eq_true rfl, Nat.le_of_ble_eq_true rfl⟩ rfl [0, 1] rfl rfl rfl (ws' := wd_Md_isCordRight cI a_t a_t_w a_t_wKept a_t_saved a_t_past a_t_input a_t_n a_t_order a_t_numbers a_t_output i_t_pastMany i_t_isSaved i_t_thrown i_t_inputMany i_t_lastError i_t_lastOffset i_t_error i_t_offset i_t_nextByte i_t_begin i_t_value i_t_token i_t_got i_t_orders i_t_outputMany i_t_w) rfl 0 11 rfl rfl rfl (st := [.ref a_t]) rfl (Nat.le_of_ble_eq_true rfl) rd_Md_isCordRight_18 ?_ ⟨Nat.le_of_ble_eq_true rfl, Nat.le_of_ble_eq_true rfl⟩
    obtain ⟨q21, hq21, hf⟩ := jk_bind_h hf
    refine jk_callVi C hZ.1 hz (ct_Md_isCluster l D Z sq hZ cI cR a_t a_t_w a_t_wKept a_t_saved a_t_past a_t_input a_t_n a_t_order a_t_numbers a_t_output i_t_pastMany i_t_isSaved i_t_thrown i_t_inputMany i_t_lastError i_t_lastOffset i_t_error i_t_offset i_t_nextByte i_t_begin i_t_value i_t_token i_t_got i_t_orders i_t_outputMany i_t_w q18 q21 hq21) tm_1524 tm_1526 sl_64 tm_15 tm_1527 na_Md_isCluster ⟨Nat.le_of_ble_eq_true rfl, Nat.le_of_ble_eq_true rfl⟩ rfl [0, 1] rfl rfl rfl (ws' := wd_Md_isCordRight cI a_t a_t_w a_t_wKept a_t_saved a_t_past a_t_input a_t_n a_t_order a_t_numbers a_t_output i_t_pastMany i_t_isSaved i_t_thrown i_t_inputMany i_t_lastError i_t_lastOffset i_t_error i_t_offset i_t_nextByte i_t_begin i_t_value i_t_token i_t_got i_t_orders i_t_outputMany i_t_w) rfl 0 11 rfl rfl rfl (st := []) rfl (Nat.le_of_ble_eq_true rfl) rd_Md_isCordRight_21 ?_ ⟨Nat.le_of_ble_eq_true rfl, Nat.le_of_ble_eq_true rfl⟩
    refine jk_if_eq (tgt := 48) C rd_Md_isCordRight_24 (by decide) hf (fun _ hf => ?_) (fun _ hf => ?_)
    · refine jk_iconst C rd_Md_isCordRight_48 ?_
      cases hf
      exact jk_zret C (Or.inl rfl) rfl rd_Md_isCordRight_49 rfl
    · refine jk_iload_n C rd_Md_isCordRight_27 (k := 1) rfl ?_
      refine jk_if_le (tgt := 50) C rd_Md_isCordRight_28 (by decide) hf (fun _ hf => ?_) (fun _ hf => ?_)
      · refine jk_lv (lv' := [(0, .ref a_t), (1, jk_V x1)]) [0, 1] rfl ?_
        exact bk_50 x1 hf
      · refine jk_aload_n C rd_Md_isCordRight_31 (k := 0) rfl ?_
        refine jk_iload_n C rd_Md_isCordRight_32 (k := 1) rfl ?_
        refine jk_iconst C rd_Md_isCordRight_33 ?_
        obtain ⟨q34, hq34, hf⟩ := jk_bind_h hf
        refine jk_callVi C hZ.1 hz (ct_Md_of l D Z sq hZ cI cR a_t a_t_w a_t_wKept a_t_saved a_t_past a_t_input a_t_n a_t_order a_t_numbers a_t_output i_t_pastMany i_t_isSaved i_t_thrown i_t_inputMany i_t_lastError i_t_lastOffset i_t_error i_t_offset i_t_nextByte i_t_begin i_t_value i_t_token i_t_got i_t_orders i_t_outputMany i_t_w x1 0 q34 hq34) tm_1256 tm_1258 sl_26 tm_15 tm_1259 na_Md_of ⟨Nat.le_of_ble_eq_true rfl, Nat.le_of_ble_eq_true rfl⟩ rfl [0, 1] rfl rfl rfl (ws' := wd_Md_isCordRight cI a_t a_t_w a_t_wKept a_t_saved a_t_past a_t_input a_t_n a_t_order a_t_numbers a_t_output i_t_pastMany i_t_isSaved i_t_thrown i_t_inputMany i_t_lastError i_t_lastOffset i_t_error i_t_offset i_t_nextByte i_t_begin i_t_value i_t_token i_t_got i_t_orders i_t_outputMany i_t_w) rfl 0 11 rfl rfl rfl (st := []) rfl (Nat.le_of_ble_eq_true rfl) rd_Md_isCordRight_34 ?_ ⟨Nat.le_of_ble_eq_true rfl, Nat.le_of_ble_eq_true rfl⟩
        refine jk_aload_n C rd_Md_isCordRight_37 (k := 0) rfl ?_
        refine jk_iload_n C rd_Md_isCordRight_38 (k := 1) rfl ?_
        refine jk_iconst C rd_Md_isCordRight_39 ?_
        refine jk_isub C rd_Md_isCordRight_40 ?_
        refine jk_iconst C rd_Md_isCordRight_41 ?_
        obtain ⟨q42, hq42, hf⟩ := jk_bind_h hf
        refine jk_callVi C hZ.1 hz (ct_Md_of l D Z sq hZ cI cR a_t a_t_w a_t_wKept a_t_saved a_t_past a_t_input a_t_n a_t_order a_t_numbers a_t_output i_t_pastMany i_t_isSaved i_t_thrown i_t_inputMany i_t_lastError i_t_lastOffset i_t_error i_t_offset i_t_nextByte i_t_begin i_t_value i_t_token i_t_got i_t_orders i_t_outputMany i_t_w (x1 - 1) 0 q42 hq42) tm_1256 tm_1258 sl_26 tm_15 tm_1259 na_Md_of ⟨Nat.le_of_ble_eq_true rfl, Nat.le_of_ble_eq_true rfl⟩ rfl [0, 1] rfl rfl rfl (ws' := wd_Md_isCordRight cI a_t a_t_w a_t_wKept a_t_saved a_t_past a_t_input a_t_n a_t_order a_t_numbers a_t_output i_t_pastMany i_t_isSaved i_t_thrown i_t_inputMany i_t_lastError i_t_lastOffset i_t_error i_t_offset i_t_nextByte i_t_begin i_t_value i_t_token i_t_got i_t_orders i_t_outputMany i_t_w) rfl 0 11 rfl rfl rfl (st := [jk_V q34]) rfl (Nat.le_of_ble_eq_true rfl) rd_Md_isCordRight_42 ?_ ⟨Nat.le_of_ble_eq_true rfl, Nat.le_of_ble_eq_true rfl⟩
        refine jk_icmp_ge (tgt := 50) C rd_Md_isCordRight_45 (by decide) hf (fun _ hf => ?_) (fun _ hf => ?_)
        · refine jk_lv (lv' := [(0, .ref a_t), (1, jk_V x1)]) [0, 1] rfl ?_
          exact bk_50 x1 hf
        · refine jk_iconst C rd_Md_isCordRight_48 ?_
          cases hf
          exact jk_zret C (Or.inl rfl) rfl rd_Md_isCordRight_49 rfl
