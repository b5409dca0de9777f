theorem rd_Md_knownValue_0 : decode mb_Md_knownValue 0 = .ok (.aload_n 0, 1) := by decide +kernel
theorem rd_Md_knownValue_1 : decode mb_Md_knownValue 1 = .ok (.iconst 0, 1) := by decide +kernel
theorem rd_Md_knownValue_2 : decode mb_Md_knownValue 2 = .ok (.putfield 56, 3) := by decide +kernel
theorem rd_Md_knownValue_5 : decode mb_Md_knownValue 5 = .ok (.aload_n 0, 1) := by decide +kernel
theorem rd_Md_knownValue_6 : decode mb_Md_knownValue 6 = .ok (.iload_n 1, 1) := by decide +kernel
theorem rd_Md_knownValue_7 : decode mb_Md_knownValue 7 = .ok (.invokevirtual 349, 3) := by decide +kernel
theorem rd_Md_knownValue_10 : decode mb_Md_knownValue 10 = .ok (.ifCond .eq 7, 3) := by decide +kernel
theorem rd_Md_knownValue_13 : decode mb_Md_knownValue 13 = .ok (.iconst 0, 1) := by decide +kernel
theorem rd_Md_knownValue_14 : decode mb_Md_knownValue 14 = .ok (.goto 9, 3) := by decide +kernel
theorem rd_Md_knownValue_17 : decode mb_Md_knownValue 17 = .ok (.aload_n 0, 1) := by decide +kernel
theorem rd_Md_knownValue_18 : decode mb_Md_knownValue 18 = .ok (.iload_n 1, 1) := by decide +kernel
theorem rd_Md_knownValue_19 : decode mb_Md_knownValue 19 = .ok (.iconst 3, 1) := by decide +kernel
theorem rd_Md_knownValue_20 : decode mb_Md_knownValue 20 = .ok (.invokevirtual 63, 3) := by decide +kernel
theorem rd_Md_knownValue_23 : decode mb_Md_knownValue 23 = .ok (.ireturn, 1) := by decide +kernel
theorem rd_Md_lowestTotal_0 : decode mb_Md_lowestTotal 0 = .ok (.aload_n 0, 1) := by decide +kernel
theorem rd_Md_lowestTotal_1 : decode mb_Md_lowestTotal 1 = .ok (.iconst 0, 1) := by decide +kernel
theorem rd_Md_lowestTotal_2 : decode mb_Md_lowestTotal 2 = .ok (.putfield 56, 3) := by decide +kernel
theorem rd_Md_lowestTotal_5 : decode mb_Md_lowestTotal 5 = .ok (.aload_n 0, 1) := by decide +kernel
theorem rd_Md_lowestTotal_6 : decode mb_Md_lowestTotal 6 = .ok (.iload_n 1, 1) := by decide +kernel
theorem rd_Md_lowestTotal_7 : decode mb_Md_lowestTotal 7 = .ok (.invokevirtual 349, 3) := by decide +kernel
theorem rd_Md_lowestTotal_10 : decode mb_Md_lowestTotal 10 = .ok (.ifCond .eq 7, 3) := by decide +kernel
theorem rd_Md_lowestTotal_13 : decode mb_Md_lowestTotal 13 = .ok (.iconst 0, 1) := by decide +kernel
theorem rd_Md_lowestTotal_14 : decode mb_Md_lowestTotal 14 = .ok (.goto 8, 3) := by decide +kernel
theorem rd_Md_lowestTotal_17 : decode mb_Md_lowestTotal 17 = .ok (.aload_n 0, 1) := by decide +kernel
theorem rd_Md_lowestTotal_18 : decode mb_Md_lowestTotal 18 = .ok (.iload_n 1, 1) := by decide +kernel
theorem rd_Md_lowestTotal_19 : decode mb_Md_lowestTotal 19 = .ok (.invokevirtual 358, 3) := by decide +kernel
theorem rd_Md_lowestTotal_22 : decode mb_Md_lowestTotal 22 = .ok (.ireturn, 1) := by decide +kernel
theorem rd_Md_highestTotal_0 : decode mb_Md_highestTotal 0 = .ok (.aload_n 0, 1) := by decide +kernel
theorem rd_Md_highestTotal_1 : decode mb_Md_highestTotal 1 = .ok (.iconst 0, 1) := by decide +kernel
theorem rd_Md_highestTotal_2 : decode mb_Md_highestTotal 2 = .ok (.putfield 56, 3) := by decide +kernel
theorem rd_Md_highestTotal_5 : decode mb_Md_highestTotal 5 = .ok (.aload_n 0, 1) := by decide +kernel
theorem rd_Md_highestTotal_6 : decode mb_Md_highestTotal 6 = .ok (.iload_n 1, 1) := by decide +kernel
theorem rd_Md_highestTotal_7 : decode mb_Md_highestTotal 7 = .ok (.invokevirtual 349, 3) := by decide +kernel
theorem rd_Md_highestTotal_10 : decode mb_Md_highestTotal 10 = .ok (.ifCond .eq 7, 3) := by decide +kernel
theorem rd_Md_highestTotal_13 : decode mb_Md_highestTotal 13 = .ok (.iconst 0, 1) := by decide +kernel
theorem rd_Md_highestTotal_14 : decode mb_Md_highestTotal 14 = .ok (.goto 8, 3) := by decide +kernel
theorem rd_Md_highestTotal_17 : decode mb_Md_highestTotal 17 = .ok (.aload_n 0, 1) := by decide +kernel
theorem rd_Md_highestTotal_18 : decode mb_Md_highestTotal 18 = .ok (.iload_n 1, 1) := by decide +kernel
theorem rd_Md_highestTotal_19 : decode mb_Md_highestTotal 19 = .ok (.invokevirtual 361, 3) := by decide +kernel
theorem rd_Md_highestTotal_22 : decode mb_Md_highestTotal 22 = .ok (.ireturn, 1) := by decide +kernel
theorem rd_Md_pendantsIn_0 : decode mb_Md_pendantsIn 0 = .ok (.aload_n 0, 1) := by decide +kernel
theorem rd_Md_pendantsIn_1 : decode mb_Md_pendantsIn 1 = .ok (.iconst 0, 1) := by decide +kernel
theorem rd_Md_pendantsIn_2 : decode mb_Md_pendantsIn 2 = .ok (.putfield 56, 3) := by decide +kernel
theorem rd_Md_pendantsIn_5 : decode mb_Md_pendantsIn 5 = .ok (.aload_n 0, 1) := by decide +kernel
theorem rd_Md_pendantsIn_6 : decode mb_Md_pendantsIn 6 = .ok (.iload_n 1, 1) := by decide +kernel
theorem rd_Md_pendantsIn_7 : decode mb_Md_pendantsIn 7 = .ok (.invokevirtual 364, 3) := by decide +kernel
theorem rd_Md_pendantsIn_10 : decode mb_Md_pendantsIn 10 = .ok (.ifCond .eq 7, 3) := by decide +kernel
theorem rd_Md_pendantsIn_13 : decode mb_Md_pendantsIn 13 = .ok (.iconst 0, 1) := by decide +kernel
theorem rd_Md_pendantsIn_14 : decode mb_Md_pendantsIn 14 = .ok (.goto 8, 3) := by decide +kernel
theorem rd_Md_pendantsIn_17 : decode mb_Md_pendantsIn 17 = .ok (.aload_n 0, 1) := by decide +kernel
theorem rd_Md_pendantsIn_18 : decode mb_Md_pendantsIn 18 = .ok (.iload_n 1, 1) := by decide +kernel
theorem rd_Md_pendantsIn_19 : decode mb_Md_pendantsIn 19 = .ok (.invokevirtual 129, 3) := by decide +kernel
theorem rd_Md_pendantsIn_22 : decode mb_Md_pendantsIn 22 = .ok (.ireturn, 1) := by decide +kernel
theorem rd_Md_cordsIn_0 : decode mb_Md_cordsIn 0 = .ok (.aload_n 0, 1) := by decide +kernel
theorem rd_Md_cordsIn_1 : decode mb_Md_cordsIn 1 = .ok (.iconst 0, 1) := by decide +kernel
theorem rd_Md_cordsIn_2 : decode mb_Md_cordsIn 2 = .ok (.putfield 56, 3) := by decide +kernel
theorem rd_Md_cordsIn_5 : decode mb_Md_cordsIn 5 = .ok (.aload_n 0, 1) := by decide +kernel
theorem rd_Md_cordsIn_6 : decode mb_Md_cordsIn 6 = .ok (.iload_n 1, 1) := by decide +kernel
theorem rd_Md_cordsIn_7 : decode mb_Md_cordsIn 7 = .ok (.invokevirtual 364, 3) := by decide +kernel
theorem rd_Md_cordsIn_10 : decode mb_Md_cordsIn 10 = .ok (.ifCond .eq 7, 3) := by decide +kernel
theorem rd_Md_cordsIn_13 : decode mb_Md_cordsIn 13 = .ok (.iconst 0, 1) := by decide +kernel
theorem rd_Md_cordsIn_14 : decode mb_Md_cordsIn 14 = .ok (.goto 14, 3) := by decide +kernel
theorem rd_Md_cordsIn_17 : decode mb_Md_cordsIn 17 = .ok (.aload_n 0, 1) := by decide +kernel
theorem rd_Md_cordsIn_18 : decode mb_Md_cordsIn 18 = .ok (.iload_n 1, 1) := by decide +kernel
theorem rd_Md_cordsIn_19 : decode mb_Md_cordsIn 19 = .ok (.invokevirtual 94, 3) := by decide +kernel
theorem rd_Md_cordsIn_22 : decode mb_Md_cordsIn 22 = .ok (.aload_n 0, 1) := by decide +kernel
theorem rd_Md_cordsIn_23 : decode mb_Md_cordsIn 23 = .ok (.iload_n 1, 1) := by decide +kernel
theorem rd_Md_cordsIn_24 : decode mb_Md_cordsIn 24 = .ok (.invokevirtual 91, 3) := by decide +kernel
theorem rd_Md_cordsIn_27 : decode mb_Md_cordsIn 27 = .ok (.isub, 1) := by decide +kernel
theorem rd_Md_cordsIn_28 : decode mb_Md_cordsIn 28 = .ok (.ireturn, 1) := by decide +kernel
theorem rd_Md_topOf_0 : decode mb_Md_topOf 0 = .ok (.aload_n 0, 1) := by decide +kernel
theorem rd_Md_topOf_1 : decode mb_Md_topOf 1 = .ok (.iconst 0, 1) := by decide +kernel
theorem rd_Md_topOf_2 : decode mb_Md_topOf 2 = .ok (.putfield 56, 3) := by decide +kernel
theorem rd_Md_topOf_5 : decode mb_Md_topOf 5 = .ok (.aload_n 0, 1) := by decide +kernel
theorem rd_Md_topOf_6 : decode mb_Md_topOf 6 = .ok (.iload_n 1, 1) := by decide +kernel
theorem rd_Md_topOf_7 : decode mb_Md_topOf 7 = .ok (.invokevirtual 364, 3) := by decide +kernel
theorem rd_Md_topOf_10 : decode mb_Md_topOf 10 = .ok (.ifCond .eq 7, 3) := by decide +kernel
theorem rd_Md_topOf_13 : decode mb_Md_topOf 13 = .ok (.iconst 0, 1) := by decide +kernel
theorem rd_Md_topOf_14 : decode mb_Md_topOf 14 = .ok (.goto 20, 3) := by decide +kernel
theorem rd_Md_topOf_17 : decode mb_Md_topOf 17 = .ok (.aload_n 0, 1) := by decide +kernel
theorem rd_Md_topOf_18 : decode mb_Md_topOf 18 = .ok (.iload_n 1, 1) := by decide +kernel
theorem rd_Md_topOf_19 : decode mb_Md_topOf 19 = .ok (.invokevirtual 97, 3) := by decide +kernel
theorem rd_Md_topOf_22 : decode mb_Md_topOf 22 = .ok (.ifCond .eq 11, 3) := by decide +kernel
theorem rd_Md_topOf_25 : decode mb_Md_topOf 25 = .ok (.aload_n 0, 1) := by decide +kernel
theorem rd_Md_topOf_26 : decode mb_Md_topOf 26 = .ok (.iload_n 1, 1) := by decide +kernel
theorem rd_Md_topOf_27 : decode mb_Md_topOf 27 = .ok (.invokevirtual 91, 3) := by decide +kernel
theorem rd_Md_topOf_30 : decode mb_Md_topOf 30 = .ok (.goto 4, 3) := by decide +kernel
theorem rd_Md_topOf_33 : decode mb_Md_topOf 33 = .ok (.iconst (-1), 1) := by decide +kernel
theorem rd_Md_topOf_34 : decode mb_Md_topOf 34 = .ok (.ireturn, 1) := by decide +kernel
theorem rd_Md_firstPendant_0 : decode mb_Md_firstPendant 0 = .ok (.aload_n 0, 1) := by decide +kernel
theorem rd_Md_firstPendant_1 : decode mb_Md_firstPendant 1 = .ok (.iconst 0, 1) := by decide +kernel
theorem rd_Md_firstPendant_2 : decode mb_Md_firstPendant 2 = .ok (.putfield 56, 3) := by decide +kernel
theorem rd_Md_firstPendant_5 : decode mb_Md_firstPendant 5 = .ok (.aload_n 0, 1) := by decide +kernel
theorem rd_Md_firstPendant_6 : decode mb_Md_firstPendant 6 = .ok (.iload_n 1, 1) := by decide +kernel
theorem rd_Md_firstPendant_7 : decode mb_Md_firstPendant 7 = .ok (.invokevirtual 364, 3) := by decide +kernel
theorem rd_Md_firstPendant_10 : decode mb_Md_firstPendant 10 = .ok (.ifCond .eq 7, 3) := by decide +kernel
theorem rd_Md_firstPendant_13 : decode mb_Md_firstPendant 13 = .ok (.iconst 0, 1) := by decide +kernel
theorem rd_Md_firstPendant_14 : decode mb_Md_firstPendant 14 = .ok (.goto 20, 3) := by decide +kernel
theorem rd_Md_firstPendant_17 : decode mb_Md_firstPendant 17 = .ok (.aload_n 0, 1) := by decide +kernel
theorem rd_Md_firstPendant_18 : decode mb_Md_firstPendant 18 = .ok (.iload_n 1, 1) := by decide +kernel
theorem rd_Md_firstPendant_19 : decode mb_Md_firstPendant 19 = .ok (.invokevirtual 129, 3) := by decide +kernel
theorem rd_Md_firstPendant_22 : decode mb_Md_firstPendant 22 = .ok (.ifCond .le 11, 3) := by decide +kernel
theorem rd_Md_firstPendant_25 : decode mb_Md_firstPendant 25 = .ok (.aload_n 0, 1) := by decide +kernel
theorem rd_Md_firstPendant_26 : decode mb_Md_firstPendant 26 = .ok (.iload_n 1, 1) := by decide +kernel
theorem rd_Md_firstPendant_27 : decode mb_Md_firstPendant 27 = .ok (.invokevirtual 100, 3) := by decide +kernel
theorem rd_Md_firstPendant_30 : decode mb_Md_firstPendant 30 = .ok (.goto 4, 3) := by decide +kernel
theorem rd_Md_firstPendant_33 : decode mb_Md_firstPendant 33 = .ok (.iconst (-1), 1) := by decide +kernel
theorem rd_Md_firstPendant_34 : decode mb_Md_firstPendant 34 = .ok (.ireturn, 1) := by decide +kernel
theorem rd_Md_stateOf_0 : decode mb_Md_stateOf 0 = .ok (.aload_n 0, 1) := by decide +kernel
theorem rd_Md_stateOf_1 : decode mb_Md_stateOf 1 = .ok (.iconst 0, 1) := by decide +kernel
theorem rd_Md_stateOf_2 : decode mb_Md_stateOf 2 = .ok (.putfield 56, 3) := by decide +kernel
theorem rd_Md_stateOf_5 : decode mb_Md_stateOf 5 = .ok (.aload_n 0, 1) := by decide +kernel
theorem rd_Md_stateOf_6 : decode mb_Md_stateOf 6 = .ok (.iload_n 1, 1) := by decide +kernel
theorem rd_Md_stateOf_7 : decode mb_Md_stateOf 7 = .ok (.invokevirtual 364, 3) := by decide +kernel
theorem rd_Md_stateOf_10 : decode mb_Md_stateOf 10 = .ok (.ifCond .eq 7, 3) := by decide +kernel
theorem rd_Md_stateOf_13 : decode mb_Md_stateOf 13 = .ok (.iconst 0, 1) := by decide +kernel
theorem rd_Md_stateOf_14 : decode mb_Md_stateOf 14 = .ok (.goto 8, 3) := by decide +kernel
theorem rd_Md_stateOf_17 : decode mb_Md_stateOf 17 = .ok (.aload_n 0, 1) := by decide +kernel
theorem rd_Md_stateOf_18 : decode mb_Md_stateOf 18 = .ok (.iload_n 1, 1) := by decide +kernel
theorem rd_Md_stateOf_19 : decode mb_Md_stateOf 19 = .ok (.invokevirtual 367, 3) := by decide +kernel
theorem rd_Md_stateOf_22 : decode mb_Md_stateOf 22 = .ok (.ireturn, 1) := by decide +kernel
theorem rd_Md_guessObstacle_0 : decode mb_Md_guessObstacle 0 = .ok (.aload_n 0, 1) := by decide +kernel
theorem rd_Md_guessObstacle_1 : decode mb_Md_guessObstacle 1 = .ok (.iconst 0, 1) := by decide +kernel
theorem rd_Md_guessObstacle_2 : decode mb_Md_guessObstacle 2 = .ok (.putfield 56, 3) := by decide +kernel
theorem rd_Md_guessObstacle_5 : decode mb_Md_guessObstacle 5 = .ok (.aload_n 0, 1) := by decide +kernel
theorem rd_Md_guessObstacle_6 : decode mb_Md_guessObstacle 6 = .ok (.iload_n 1, 1) := by decide +kernel
theorem rd_Md_guessObstacle_7 : decode mb_Md_guessObstacle 7 = .ok (.invokevirtual 364, 3) := by decide +kernel
theorem rd_Md_guessObstacle_10 : decode mb_Md_guessObstacle 10 = .ok (.ifCond .eq 7, 3) := by decide +kernel
theorem rd_Md_guessObstacle_13 : decode mb_Md_guessObstacle 13 = .ok (.iconst 0, 1) := by decide +kernel
theorem rd_Md_guessObstacle_14 : decode mb_Md_guessObstacle 14 = .ok (.goto 8, 3) := by decide +kernel
theorem rd_Md_guessObstacle_17 : decode mb_Md_guessObstacle 17 = .ok (.aload_n 0, 1) := by decide +kernel
theorem rd_Md_guessObstacle_18 : decode mb_Md_guessObstacle 18 = .ok (.iload_n 1, 1) := by decide +kernel
theorem rd_Md_guessObstacle_19 : decode mb_Md_guessObstacle 19 = .ok (.invokevirtual 327, 3) := by decide +kernel
theorem rd_Md_guessObstacle_22 : decode mb_Md_guessObstacle 22 = .ok (.ireturn, 1) := by decide +kernel
theorem rd_Md_nibbledCord_0 : decode mb_Md_nibbledCord 0 = .ok (.aload_n 0, 1) := by decide +kernel
theorem rd_Md_nibbledCord_1 : decode mb_Md_nibbledCord 1 = .ok (.iconst 0, 1) := by decide +kernel
theorem rd_Md_nibbledCord_2 : decode mb_Md_nibbledCord 2 = .ok (.putfield 56, 3) := by decide +kernel
theorem rd_Md_nibbledCord_5 : decode mb_Md_nibbledCord 5 = .ok (.aload_n 0, 1) := by decide +kernel
theorem rd_Md_nibbledCord_6 : decode mb_Md_nibbledCord 6 = .ok (.iload_n 1, 1) := by decide +kernel
theorem rd_Md_nibbledCord_7 : decode mb_Md_nibbledCord 7 = .ok (.invokevirtual 364, 3) := by decide +kernel
theorem rd_Md_nibbledCord_10 : decode mb_Md_nibbledCord 10 = .ok (.ifCond .eq 7, 3) := by decide +kernel
theorem rd_Md_nibbledCord_13 : decode mb_Md_nibbledCord 13 = .ok (.iconst 0, 1) := by decide +kernel
theorem rd_Md_nibbledCord_14 : decode mb_Md_nibbledCord 14 = .ok (.goto 8, 3) := by decide +kernel
theorem rd_Md_nibbledCord_17 : decode mb_Md_nibbledCord 17 = .ok (.aload_n 0, 1) := by decide +kernel
theorem rd_Md_nibbledCord_18 : decode mb_Md_nibbledCord 18 = .ok (.iload_n 1, 1) := by decide +kernel
theorem rd_Md_nibbledCord_19 : decode mb_Md_nibbledCord 19 = .ok (.invokevirtual 109, 3) := by decide +kernel
theorem rd_Md_nibbledCord_22 : decode mb_Md_nibbledCord 22 = .ok (.ireturn, 1) := by decide +kernel
theorem rd_Md_knotCount_0 : decode mb_Md_knotCount 0 = .ok (.aload_n 0, 1) := by decide +kernel
theorem rd_Md_knotCount_1 : decode mb_Md_knotCount 1 = .ok (.iconst 0, 1) := by decide +kernel
theorem rd_Md_knotCount_2 : decode mb_Md_knotCount 2 = .ok (.putfield 56, 3) := by decide +kernel
theorem rd_Md_knotCount_5 : decode mb_Md_knotCount 5 = .ok (.iconst 0, 1) := by decide +kernel
theorem rd_Md_knotCount_6 : decode mb_Md_knotCount 6 = .ok (.istore_n 1, 1) := by decide +kernel
theorem rd_Md_knotCount_7 : decode mb_Md_knotCount 7 = .ok (.iconst 0, 1) := by decide +kernel
theorem rd_Md_knotCount_8 : decode mb_Md_knotCount 8 = .ok (.istore_n 2, 1) := by decide +kernel
theorem rd_Md_knotCount_9 : decode mb_Md_knotCount 9 = .ok (.iload_n 2, 1) := by decide +kernel
theorem rd_Md_knotCount_10 : decode mb_Md_knotCount 10 = .ok (.aload_n 0, 1) := by decide +kernel
theorem rd_Md_knotCount_11 : decode mb_Md_knotCount 11 = .ok (.getfield 7, 3) := by decide +kernel
theorem rd_Md_knotCount_14 : decode mb_Md_knotCount 14 = .ok (.iconst 2, 1) := by decide +kernel
theorem rd_Md_knotCount_15 : decode mb_Md_knotCount 15 = .ok (.iaload, 1) := by decide +kernel
theorem rd_Md_knotCount_16 : decode mb_Md_knotCount 16 = .ok (.if_icmp .ge 17, 3) := by decide +kernel
theorem rd_Md_knotCount_19 : decode mb_Md_knotCount 19 = .ok (.iload_n 1, 1) := by decide +kernel
theorem rd_Md_knotCount_20 : decode mb_Md_knotCount 20 = .ok (.aload_n 0, 1) := by decide +kernel
theorem rd_Md_knotCount_21 : decode mb_Md_knotCount 21 = .ok (.iload_n 2, 1) := by decide +kernel
theorem rd_Md_knotCount_22 : decode mb_Md_knotCount 22 = .ok (.invokevirtual 73, 3) := by decide +kernel
theorem rd_Md_knotCount_25 : decode mb_Md_knotCount 25 = .ok (.iadd, 1) := by decide +kernel
theorem rd_Md_knotCount_26 : decode mb_Md_knotCount 26 = .ok (.istore_n 1, 1) := by decide +kernel
theorem rd_Md_knotCount_27 : decode mb_Md_knotCount 27 = .ok (.iinc 2 1, 3) := by decide +kernel
theorem rd_Md_knotCount_30 : decode mb_Md_knotCount 30 = .ok (.goto (-21), 3) := by decide +kernel
theorem rd_Md_knotCount_33 : decode mb_Md_knotCount 33 = .ok (.iload_n 1, 1) := by decide +kernel
theorem rd_Md_knotCount_34 : decode mb_Md_knotCount 34 = .ok (.ireturn, 1) := by decide +kernel
theorem rd_Md_nibbled_0 : decode mb_Md_nibbled 0 = .ok (.iconst 0, 1) := by decide +kernel
theorem rd_Md_nibbled_1 : decode mb_Md_nibbled 1 = .ok (.istore_n 1, 1) := by decide +kernel
theorem rd_Md_nibbled_2 : decode mb_Md_nibbled 2 = .ok (.iconst 0, 1) := by decide +kernel
theorem rd_Md_nibbled_3 : decode mb_Md_nibbled 3 = .ok (.istore_n 2, 1) := by decide +kernel
theorem rd_Md_nibbled_4 : decode mb_Md_nibbled 4 = .ok (.iload_n 2, 1) := by decide +kernel
theorem rd_Md_nibbled_5 : decode mb_Md_nibbled 5 = .ok (.aload_n 0, 1) := by decide +kernel
theorem rd_Md_nibbled_6 : decode mb_Md_nibbled 6 = .ok (.getfield 7, 3) := by decide +kernel
theorem rd_Md_nibbled_9 : decode mb_Md_nibbled 9 = .ok (.iconst 2, 1) := by decide +kernel
theorem rd_Md_nibbled_10 : decode mb_Md_nibbled 10 = .ok (.iaload, 1) := by decide +kernel
theorem rd_Md_nibbled_11 : decode mb_Md_nibbled 11 = .ok (.if_icmp .ge 20, 3) := by decide +kernel
theorem rd_Md_nibbled_14 : decode mb_Md_nibbled 14 = .ok (.iload_n 1, 1) := by decide +kernel
theorem rd_Md_nibbled_15 : decode mb_Md_nibbled 15 = .ok (.aload_n 0, 1) := by decide +kernel
theorem rd_Md_nibbled_16 : decode mb_Md_nibbled 16 = .ok (.iload_n 2, 1) := by decide +kernel
theorem rd_Md_nibbled_17 : decode mb_Md_nibbled 17 = .ok (.invokevirtual 83, 3) := by decide +kernel
theorem rd_Md_nibbled_20 : decode mb_Md_nibbled 20 = .ok (.invokestatic 79, 3) := by decide +kernel
theorem rd_Md_nibbled_23 : decode mb_Md_nibbled 23 = .ok (.iadd, 1) := by decide +kernel
theorem rd_Md_nibbled_24 : decode mb_Md_nibbled 24 = .ok (.istore_n 1, 1) := by decide +kernel
theorem rd_Md_nibbled_25 : decode mb_Md_nibbled 25 = .ok (.iinc 2 1, 3) := by decide +kernel
theorem rd_Md_nibbled_28 : decode mb_Md_nibbled 28 = .ok (.goto (-24), 3) := by decide +kernel
theorem rd_Md_nibbled_31 : decode mb_Md_nibbled 31 = .ok (.iload_n 1, 1) := by decide +kernel
theorem rd_Md_nibbled_32 : decode mb_Md_nibbled 32 = .ok (.ireturn, 1) := by decide +kernel
theorem rd_Md_nibbledCount_0 : decode mb_Md_nibbledCount 0 = .ok (.aload_n 0, 1) := by decide +kernel
theorem rd_Md_nibbledCount_1 : decode mb_Md_nibbledCount 1 = .ok (.iconst 0, 1) := by decide +kernel
theorem rd_Md_nibbledCount_2 : decode mb_Md_nibbledCount 2 = .ok (.putfield 56, 3) := by decide +kernel
theorem rd_Md_nibbledCount_5 : decode mb_Md_nibbledCount 5 = .ok (.aload_n 0, 1) := by decide +kernel
theorem rd_Md_nibbledCount_6 : decode mb_Md_nibbledCount 6 = .ok (.invokevirtual 370, 3) := by decide +kernel
theorem rd_Md_nibbledCount_9 : decode mb_Md_nibbledCount 9 = .ok (.ireturn, 1) := by decide +kernel
theorem rd_Md_matchingCount_0 : decode mb_Md_matchingCount 0 = .ok (.aload_n 0, 1) := by decide +kernel
theorem rd_Md_matchingCount_1 : decode mb_Md_matchingCount 1 = .ok (.iconst 0, 1) := by decide +kernel
theorem rd_Md_matchingCount_2 : decode mb_Md_matchingCount 2 = .ok (.putfield 56, 3) := by decide +kernel
theorem rd_Md_matchingCount_5 : decode mb_Md_matchingCount 5 = .ok (.iconst 0, 1) := by decide +kernel
theorem rd_Md_matchingCount_6 : decode mb_Md_matchingCount 6 = .ok (.istore_n 1, 1) := by decide +kernel
theorem rd_Md_matchingCount_7 : decode mb_Md_matchingCount 7 = .ok (.iconst 0, 1) := by decide +kernel
theorem rd_Md_matchingCount_8 : decode mb_Md_matchingCount 8 = .ok (.istore_n 2, 1) := by decide +kernel
theorem rd_Md_matchingCount_9 : decode mb_Md_matchingCount 9 = .ok (.iload_n 2, 1) := by decide +kernel
theorem rd_Md_matchingCount_10 : decode mb_Md_matchingCount 10 = .ok (.aload_n 0, 1) := by decide +kernel
theorem rd_Md_matchingCount_11 : decode mb_Md_matchingCount 11 = .ok (.getfield 7, 3) := by decide +kernel
theorem rd_Md_matchingCount_14 : decode mb_Md_matchingCount 14 = .ok (.iconst 1, 1) := by decide +kernel
theorem rd_Md_matchingCount_15 : decode mb_Md_matchingCount 15 = .ok (.iaload, 1) := by decide +kernel
theorem rd_Md_matchingCount_16 : decode mb_Md_matchingCount 16 = .ok (.if_icmp .ge 29, 3) := by decide +kernel
theorem rd_Md_matchingCount_19 : decode mb_Md_matchingCount 19 = .ok (.iload_n 1, 1) := by decide +kernel
theorem rd_Md_matchingCount_20 : decode mb_Md_matchingCount 20 = .ok (.aload_n 0, 1) := by decide +kernel
theorem rd_Md_matchingCount_21 : decode mb_Md_matchingCount 21 = .ok (.iload_n 2, 1) := by decide +kernel
theorem rd_Md_matchingCount_22 : decode mb_Md_matchingCount 22 = .ok (.invokevirtual 367, 3) := by decide +kernel
theorem rd_Md_matchingCount_25 : decode mb_Md_matchingCount 25 = .ok (.iconst 2, 1) := by decide +kernel
theorem rd_Md_matchingCount_26 : decode mb_Md_matchingCount 26 = .ok (.if_icmp .ne 7, 3) := by decide +kernel
theorem rd_Md_matchingCount_29 : decode mb_Md_matchingCount 29 = .ok (.iconst 1, 1) := by decide +kernel
theorem rd_Md_matchingCount_30 : decode mb_Md_matchingCount 30 = .ok (.goto 4, 3) := by decide +kernel
theorem rd_Md_matchingCount_33 : decode mb_Md_matchingCount 33 = .ok (.iconst 0, 1) := by decide +kernel
theorem rd_Md_matchingCount_34 : decode mb_Md_matchingCount 34 = .ok (.invokestatic 79, 3) := by decide +kernel
theorem rd_Md_matchingCount_37 : decode mb_Md_matchingCount 37 = .ok (.iadd, 1) := by decide +kernel
theorem rd_Md_matchingCount_38 : decode mb_Md_matchingCount 38 = .ok (.istore_n 1, 1) := by decide +kernel
theorem rd_Md_matchingCount_39 : decode mb_Md_matchingCount 39 = .ok (.iinc 2 1, 3) := by decide +kernel
theorem rd_Md_matchingCount_42 : decode mb_Md_matchingCount 42 = .ok (.goto (-33), 3) := by decide +kernel
theorem rd_Md_matchingCount_45 : decode mb_Md_matchingCount 45 = .ok (.iload_n 1, 1) := by decide +kernel
theorem rd_Md_matchingCount_46 : decode mb_Md_matchingCount 46 = .ok (.ireturn, 1) := by decide +kernel
theorem rd_Md_topicByte_0 : decode mb_Md_topicByte 0 = .ok (.aload_n 0, 1) := by decide +kernel
theorem rd_Md_topicByte_1 : decode mb_Md_topicByte 1 = .ok (.iconst 0, 1) := by decide +kernel
theorem rd_Md_topicByte_2 : decode mb_Md_topicByte 2 = .ok (.putfield 56, 3) := by decide +kernel
theorem rd_Md_topicByte_5 : decode mb_Md_topicByte 5 = .ok (.aload_n 0, 1) := by decide +kernel
theorem rd_Md_topicByte_6 : decode mb_Md_topicByte 6 = .ok (.iload_n 1, 1) := by decide +kernel
theorem rd_Md_topicByte_7 : decode mb_Md_topicByte 7 = .ok (.invokevirtual 372, 3) := by decide +kernel
theorem rd_Md_topicByte_10 : decode mb_Md_topicByte 10 = .ok (.ifCond .eq 5, 3) := by decide +kernel
theorem rd_Md_topicByte_13 : decode mb_Md_topicByte 13 = .ok (.iconst 0, 1) := by decide +kernel
theorem rd_Md_topicByte_14 : decode mb_Md_topicByte 14 = .ok (.ireturn, 1) := by decide +kernel
theorem rd_Md_topicByte_15 : decode mb_Md_topicByte 15 = .ok (.iload_n 2, 1) := by decide +kernel
theorem rd_Md_topicByte_16 : decode mb_Md_topicByte 16 = .ok (.iconst 0, 1) := by decide +kernel
theorem rd_Md_topicByte_17 : decode mb_Md_topicByte 17 = .ok (.aload_n 0, 1) := by decide +kernel
theorem rd_Md_topicByte_18 : decode mb_Md_topicByte 18 = .ok (.iload_n 1, 1) := by decide +kernel
theorem rd_Md_topicByte_19 : decode mb_Md_topicByte 19 = .ok (.iconst 0, 1) := by decide +kernel
theorem rd_Md_topicByte_20 : decode mb_Md_topicByte 20 = .ok (.invokevirtual 375, 3) := by decide +kernel
theorem rd_Md_topicByte_23 : decode mb_Md_topicByte 23 = .ok (.iconst 1, 1) := by decide +kernel
theorem rd_Md_topicByte_24 : decode mb_Md_topicByte 24 = .ok (.isub, 1) := by decide +kernel
theorem rd_Md_topicByte_25 : decode mb_Md_topicByte 25 = .ok (.invokestatic 115, 3) := by decide +kernel
theorem rd_Md_topicByte_28 : decode mb_Md_topicByte 28 = .ok (.ifCond .eq 14, 3) := by decide +kernel
theorem rd_Md_topicByte_31 : decode mb_Md_topicByte 31 = .ok (.aload_n 0, 1) := by decide +kernel
theorem rd_Md_topicByte_32 : decode mb_Md_topicByte 32 = .ok (.iload_n 1, 1) := by decide +kernel
theorem rd_Md_topicByte_33 : decode mb_Md_topicByte 33 = .ok (.iconst 1, 1) := by decide +kernel
theorem rd_Md_topicByte_34 : decode mb_Md_topicByte 34 = .ok (.iload_n 2, 1) := by decide +kernel
theorem rd_Md_topicByte_35 : decode mb_Md_topicByte 35 = .ok (.iadd, 1) := by decide +kernel
theorem rd_Md_topicByte_36 : decode mb_Md_topicByte 36 = .ok (.invokevirtual 375, 3) := by decide +kernel
theorem rd_Md_topicByte_39 : decode mb_Md_topicByte 39 = .ok (.goto 4, 3) := by decide +kernel
theorem rd_Md_topicByte_42 : decode mb_Md_topicByte 42 = .ok (.iconst (-1), 1) := by decide +kernel
theorem rd_Md_topicByte_43 : decode mb_Md_topicByte 43 = .ok (.ireturn, 1) := by decide +kernel
theorem rd_Md_knotsAt_0 : decode mb_Md_knotsAt 0 = .ok (.aload_n 0, 1) := by decide +kernel
theorem rd_Md_knotsAt_1 : decode mb_Md_knotsAt 1 = .ok (.iconst 0, 1) := by decide +kernel
theorem rd_Md_knotsAt_2 : decode mb_Md_knotsAt 2 = .ok (.putfield 56, 3) := by decide +kernel
theorem rd_Md_knotsAt_5 : decode mb_Md_knotsAt 5 = .ok (.aload_n 0, 1) := by decide +kernel
theorem rd_Md_knotsAt_6 : decode mb_Md_knotsAt 6 = .ok (.iload_n 1, 1) := by decide +kernel
theorem rd_Md_knotsAt_7 : decode mb_Md_knotsAt 7 = .ok (.invokevirtual 349, 3) := by decide +kernel
theorem rd_Md_knotsAt_10 : decode mb_Md_knotsAt 10 = .ok (.ifCond .ne 25, 3) := by decide +kernel
theorem rd_Md_knotsAt_13 : decode mb_Md_knotsAt 13 = .ok (.aload_n 0, 1) := by decide +kernel
theorem rd_Md_knotsAt_14 : decode mb_Md_knotsAt 14 = .ok (.iload_n 2, 1) := by decide +kernel
theorem rd_Md_knotsAt_15 : decode mb_Md_knotsAt 15 = .ok (.iconst 0, 1) := by decide +kernel
theorem rd_Md_knotsAt_16 : decode mb_Md_knotsAt 16 = .ok (.iconst 3, 1) := by decide +kernel
theorem rd_Md_knotsAt_17 : decode mb_Md_knotsAt 17 = .ok (.invokestatic 115, 3) := by decide +kernel
theorem rd_Md_knotsAt_20 : decode mb_Md_knotsAt 20 = .ok (.ifCond .ne 7, 3) := by decide +kernel
theorem rd_Md_knotsAt_23 : decode mb_Md_knotsAt 23 = .ok (.iconst 1, 1) := by decide +kernel
theorem rd_Md_knotsAt_24 : decode mb_Md_knotsAt 24 = .ok (.goto 4, 3) := by decide +kernel
theorem rd_Md_knotsAt_27 : decode mb_Md_knotsAt 27 = .ok (.iconst 0, 1) := by decide +kernel
theorem rd_Md_knotsAt_28 : decode mb_Md_knotsAt 28 = .ok (.iconst 2, 1) := by decide +kernel
theorem rd_Md_knotsAt_29 : decode mb_Md_knotsAt 29 = .ok (.invokevirtual 345, 3) := by decide +kernel
theorem rd_Md_knotsAt_32 : decode mb_Md_knotsAt 32 = .ok (.ifCond .eq 5, 3) := by decide +kernel
theorem rd_Md_knotsAt_35 : decode mb_Md_knotsAt 35 = .ok (.iconst 0, 1) := by decide +kernel
theorem rd_Md_knotsAt_36 : decode mb_Md_knotsAt 36 = .ok (.ireturn, 1) := by decide +kernel
theorem rd_Md_knotsAt_37 : decode mb_Md_knotsAt 37 = .ok (.iload_n 2, 1) := by decide +kernel
theorem rd_Md_knotsAt_38 : decode mb_Md_knotsAt 38 = .ok (.aload_n 0, 1) := by decide +kernel
theorem rd_Md_knotsAt_39 : decode mb_Md_knotsAt 39 = .ok (.iload_n 1, 1) := by decide +kernel
theorem rd_Md_knotsAt_40 : decode mb_Md_knotsAt 40 = .ok (.iconst 4, 1) := by decide +kernel
theorem rd_Md_knotsAt_41 : decode mb_Md_knotsAt 41 = .ok (.invokevirtual 63, 3) := by decide +kernel
theorem rd_Md_knotsAt_44 : decode mb_Md_knotsAt 44 = .ok (.if_icmp .ge 7, 3) := by decide +kernel
theorem rd_Md_knotsAt_47 : decode mb_Md_knotsAt 47 = .ok (.iconst (-1), 1) := by decide +kernel
theorem rd_Md_knotsAt_48 : decode mb_Md_knotsAt 48 = .ok (.goto 9, 3) := by decide +kernel
theorem rd_Md_knotsAt_51 : decode mb_Md_knotsAt 51 = .ok (.aload_n 0, 1) := by decide +kernel
theorem rd_Md_knotsAt_52 : decode mb_Md_knotsAt 52 = .ok (.iload_n 1, 1) := by decide +kernel
theorem rd_Md_knotsAt_53 : decode mb_Md_knotsAt 53 = .ok (.iload_n 2, 1) := by decide +kernel
theorem rd_Md_knotsAt_54 : decode mb_Md_knotsAt 54 = .ok (.invokevirtual 70, 3) := by decide +kernel
theorem rd_Md_knotsAt_57 : decode mb_Md_knotsAt 57 = .ok (.ireturn, 1) := by decide +kernel
theorem rd_Md_isComplete_0 : decode mb_Md_isComplete 0 = .ok (.aload_n 0, 1) := by decide +kernel
theorem rd_Md_isComplete_1 : decode mb_Md_isComplete 1 = .ok (.iconst 0, 1) := by decide +kernel
theorem rd_Md_isComplete_2 : decode mb_Md_isComplete 2 = .ok (.putfield 56, 3) := by decide +kernel
theorem rd_Md_isComplete_5 : decode mb_Md_isComplete 5 = .ok (.aload_n 0, 1) := by decide +kernel
theorem rd_Md_isComplete_6 : decode mb_Md_isComplete 6 = .ok (.iload_n 1, 1) := by decide +kernel
theorem rd_Md_isComplete_7 : decode mb_Md_isComplete 7 = .ok (.invokevirtual 349, 3) := by decide +kernel
theorem rd_Md_isComplete_10 : decode mb_Md_isComplete 10 = .ok (.ifCond .ne 15, 3) := by decide +kernel
theorem rd_Md_isComplete_13 : decode mb_Md_isComplete 13 = .ok (.aload_n 0, 1) := by decide +kernel
theorem rd_Md_isComplete_14 : decode mb_Md_isComplete 14 = .ok (.iload_n 1, 1) := by decide +kernel
theorem rd_Md_isComplete_15 : decode mb_Md_isComplete 15 = .ok (.invokevirtual 378, 3) := by decide +kernel
theorem rd_Md_isComplete_18 : decode mb_Md_isComplete 18 = .ok (.ifCond .eq 7, 3) := by decide +kernel
theorem rd_Md_isComplete_21 : decode mb_Md_isComplete 21 = .ok (.iconst 1, 1) := by decide +kernel
theorem rd_Md_isComplete_22 : decode mb_Md_isComplete 22 = .ok (.goto 4, 3) := by decide +kernel
theorem rd_Md_isComplete_25 : decode mb_Md_isComplete 25 = .ok (.iconst 0, 1) := by decide +kernel
theorem rd_Md_isComplete_26 : decode mb_Md_isComplete 26 = .ok (.ireturn, 1) := by decide +kernel
theorem rd_Md_totalOf_0 : decode mb_Md_totalOf 0 = .ok (.aload_n 0, 1) := by decide +kernel
theorem rd_Md_totalOf_1 : decode mb_Md_totalOf 1 = .ok (.iconst 0, 1) := by decide +kernel
theorem rd_Md_totalOf_2 : decode mb_Md_totalOf 2 = .ok (.putfield 56, 3) := by decide +kernel
theorem rd_Md_totalOf_5 : decode mb_Md_totalOf 5 = .ok (.aload_n 0, 1) := by decide +kernel
theorem rd_Md_totalOf_6 : decode mb_Md_totalOf 6 = .ok (.iload_n 1, 1) := by decide +kernel
theorem rd_Md_totalOf_7 : decode mb_Md_totalOf 7 = .ok (.invokevirtual 349, 3) := by decide +kernel
theorem rd_Md_totalOf_10 : decode mb_Md_totalOf 10 = .ok (.ifCond .ne 24, 3) := by decide +kernel
theorem rd_Md_totalOf_13 : decode mb_Md_totalOf 13 = .ok (.aload_n 0, 1) := by decide +kernel
theorem rd_Md_totalOf_14 : decode mb_Md_totalOf 14 = .ok (.aload_n 0, 1) := by decide +kernel
theorem rd_Md_totalOf_15 : decode mb_Md_totalOf 15 = .ok (.iload_n 1, 1) := by decide +kernel
theorem rd_Md_totalOf_16 : decode mb_Md_totalOf 16 = .ok (.invokevirtual 378, 3) := by decide +kernel
theorem rd_Md_totalOf_19 : decode mb_Md_totalOf 19 = .ok (.ifCond .ne 7, 3) := by decide +kernel
theorem rd_Md_totalOf_22 : decode mb_Md_totalOf 22 = .ok (.iconst 1, 1) := by decide +kernel
theorem rd_Md_totalOf_23 : decode mb_Md_totalOf 23 = .ok (.goto 4, 3) := by decide +kernel
theorem rd_Md_totalOf_26 : decode mb_Md_totalOf 26 = .ok (.iconst 0, 1) := by decide +kernel
theorem rd_Md_totalOf_27 : decode mb_Md_totalOf 27 = .ok (.iconst 2, 1) := by decide +kernel
theorem rd_Md_totalOf_28 : decode mb_Md_totalOf 28 = .ok (.invokevirtual 345, 3) := by decide +kernel
theorem rd_Md_totalOf_31 : decode mb_Md_totalOf 31 = .ok (.ifCond .eq 5, 3) := by decide +kernel
theorem rd_Md_totalOf_34 : decode mb_Md_totalOf 34 = .ok (.iconst 0, 1) := by decide +kernel
theorem rd_Md_totalOf_35 : decode mb_Md_totalOf 35 = .ok (.ireturn, 1) := by decide +kernel
theorem rd_Md_totalOf_36 : decode mb_Md_totalOf 36 = .ok (.aload_n 0, 1) := by decide +kernel
theorem rd_Md_totalOf_37 : decode mb_Md_totalOf 37 = .ok (.iload_n 1, 1) := by decide +kernel
theorem rd_Md_totalOf_38 : decode mb_Md_totalOf 38 = .ok (.invokevirtual 358, 3) := by decide +kernel
theorem rd_Md_totalOf_41 : decode mb_Md_totalOf 41 = .ok (.ireturn, 1) := by decide +kernel
def wd_Md_knownValue (cI : ClassId) (a_t a_t_w a_t_wKept a_t_saved a_t_past a_t_input a_t_n a_t_order a_t_numbers a_t_output : Nat) (i_t_pastMany : Int) (i_t_isSaved : Int) (i_t_thrown : Int) (i_t_inputMany : Int) (i_t_lastError : Int) (i_t_lastOffset : Int) (i_t_error : Int) (i_t_offset : Int) (i_t_nextByte : Int) (i_t_begin : Int) (i_t_value : Int) (i_t_token : Int) (i_t_got : Int) (i_t_orders : Int) (i_t_outputMany : Int) (i_t_w : (Int → Int)) : va_W := [(a_t, .inr (11, [.ref a_t_w, .ref a_t_wKept, .ref a_t_saved, .ref a_t_past, jk_V i_t_pastMany, jk_V i_t_isSaved, jk_V i_t_thrown, .ref a_t_input, jk_V i_t_inputMany, jk_V i_t_lastError, jk_V i_t_lastOffset, jk_V i_t_error, jk_V i_t_offset, jk_V i_t_nextByte, jk_V i_t_begin, jk_V i_t_value, jk_V i_t_token, jk_V i_t_got, .ref a_t_n, .ref a_t_order, .ref a_t_numbers, jk_V i_t_orders, .ref a_t_output, jk_V i_t_outputMany])), (a_t_w, jk_W cI 259 i_t_w)]
set_option maxHeartbeats 4000000 in
set_option maxRecDepth 20000 in
theorem ct_Md_knownValue (l : Launch) (D : va_G) (Z : (Nat → Prop) → State → Heap → Prop) (sq : Nat → Nat) (hZ : jk_ZK Z sq) (cI cR : ClassId) (a_t a_t_w a_t_wKept a_t_saved a_t_past a_t_input a_t_n a_t_order a_t_numbers a_t_output : Nat) (i_t_pastMany : Int) (i_t_isSaved : Int) (i_t_thrown : Int) (i_t_inputMany : Int) (i_t_lastError : Int) (i_t_lastOffset : Int) (i_t_error : Int) (i_t_offset : Int) (i_t_nextByte : Int) (i_t_begin : Int) (i_t_value : Int) (i_t_token : Int) (i_t_got : Int) (i_t_orders : Int) (i_t_outputMany : Int) (i_t_w : (Int → Int)) (x1 : Int) (q : Int × Int) (hf : fn_Md_knownValue i_t_w i_t_thrown x1 = some q) : jk_MI l D jk_cl (jk_ty cI cR) Z mn_Md_knownValue (.code mn_Md_knownValue mb_Md_knownValue 2 (some .int) :: jk_WA) (jk_rm 3 64) [.ref a_t, jk_V x1] (wd_Md_knownValue cI a_t a_t_w a_t_wKept a_t_saved a_t_past a_t_input a_t_n a_t_order a_t_numbers a_t_output i_t_pastMany i_t_isSaved i_t_thrown i_t_inputMany i_t_lastError i_t_lastOffset i_t_error i_t_offset i_t_nextByte i_t_begin i_t_value i_t_token i_t_got i_t_orders i_t_outputMany i_t_w) (wd_Md_knownValue cI a_t a_t_w a_t_wKept a_t_saved a_t_past a_t_input a_t_n a_t_order a_t_numbers a_t_output i_t_pastMany i_t_isSaved q.2 i_t_inputMany i_t_lastError i_t_lastOffset i_t_error i_t_offset i_t_nextByte i_t_begin i_t_value i_t_token i_t_got i_t_orders i_t_outputMany i_t_w) q.1 := by
  intro sz
  refine jk_body (by decide +kernel) (fun p e s m args below meth c hsz hz hin C => ?_) (Nat.le_of_ble_eq_true rfl)
  subst hsz
  unfold fn_Md_knownValue at hf
  refine jk_aload_n C rd_Md_knownValue_0 (k := 0) rfl ?_
  refine jk_iconst C rd_Md_knownValue_1 ?_
  refine jk_putf C in_Md ty_Md nm_Md (ci := 11) rfl 6 (by decide) tm_1269 rfl rfl rfl 0 rfl (Nat.le_of_ble_eq_true rfl) rd_Md_knownValue_2 (ws' := wd_Md_knownValue cI a_t a_t_w a_t_wKept a_t_saved a_t_past a_t_input a_t_n a_t_order a_t_numbers a_t_output i_t_pastMany i_t_isSaved 0 i_t_inputMany i_t_lastError i_t_lastOffset i_t_error i_t_offset i_t_nextByte i_t_begin i_t_value i_t_token i_t_got i_t_orders i_t_outputMany i_t_w) rfl ?_
  refine jk_aload_n C rd_Md_knownValue_5 (k := 0) rfl ?_
  refine jk_iload_n C rd_Md_knownValue_6 (k := 1) rfl ?_
  obtain ⟨q7, hq7, hf⟩ := jk_bind_h hf
  refine jk_callVi C hZ.1 hz (ct_Md_noCord l D Z sq hZ cI cR a_t a_t_w a_t_wKept a_t_saved a_t_past a_t_input a_t_n a_t_order a_t_numbers a_t_output i_t_pastMany i_t_isSaved 0 i_t_inputMany i_t_lastError i_t_lastOffset i_t_error i_t_offset i_t_nextByte i_t_begin i_t_value i_t_token i_t_got i_t_orders i_t_outputMany i_t_w x1 q7 hq7) tm_1639 tm_1641 sl_86 tm_15 tm_1642 na_Md_noCord ⟨Nat.le_of_ble_eq_true rfl, Nat.le_of_ble_eq_true rfl⟩ rfl [0, 1] rfl rfl rfl (ws' := wd_Md_knownValue cI a_t a_t_w a_t_wKept a_t_saved a_t_past a_t_input a_t_n a_t_order a_t_numbers a_t_output i_t_pastMany i_t_isSaved q7.2 i_t_inputMany i_t_lastError i_t_lastOffset i_t_error i_t_offset i_t_nextByte i_t_begin i_t_value i_t_token i_t_got i_t_orders i_t_outputMany i_t_w) rfl 0 11 rfl rfl rfl (st := []) rfl (Nat.le_of_ble_eq_true rfl) rd_Md_knownValue_7 ?_ ⟨Nat.le_of_ble_eq_true rfl, Nat.le_of_ble_eq_true rfl⟩
  refine jk_if_eq (tgt := 17) C rd_Md_knownValue_10 (by decide) hf (fun _ hf => ?_) (fun _ hf => ?_)
  · refine jk_aload_n C rd_Md_knownValue_17 (k := 0) rfl ?_
    refine jk_iload_n C rd_Md_knownValue_18 (k := 1) rfl ?_
    refine jk_iconst C rd_Md_knownValue_19 ?_
    obtain ⟨q20, hq20, hf⟩ := jk_bind_h hf
    refine jk_callVi C hZ.1 hz (ct_Md_of l D Z sq hZ cI cR a_t a_t_w a_t_wKept a_t_saved a_t_past a_t_input a_t_n a_t_order a_t_numbers a_t_output i_t_pastMany i_t_isSaved q7.2 i_t_inputMany i_t_lastError i_t_lastOffset i_t_error i_t_offset i_t_nextByte i_t_begin i_t_value i_t_token i_t_got i_t_orders i_t_outputMany i_t_w x1 3 q20 hq20) tm_1256 tm_1258 sl_26 tm_15 tm_1259 na_Md_of ⟨Nat.le_of_ble_eq_true rfl, Nat.le_of_ble_eq_true rfl⟩ rfl [0, 1] rfl rfl rfl (ws' := wd_Md_knownValue cI a_t a_t_w a_t_wKept a_t_saved a_t_past a_t_input a_t_n a_t_order a_t_numbers a_t_output i_t_pastMany i_t_isSaved q7.2 i_t_inputMany i_t_lastError i_t_lastOffset i_t_error i_t_offset i_t_nextByte i_t_begin i_t_value i_t_token i_t_got i_t_orders i_t_outputMany i_t_w) rfl 0 11 rfl rfl rfl (st := []) rfl (Nat.le_of_ble_eq_true rfl) rd_Md_knownValue_20 ?_ ⟨Nat.le_of_ble_eq_true rfl, Nat.le_of_ble_eq_true rfl⟩
    cases hf
    exact jk_iret C rfl rd_Md_knownValue_23 rfl
  · refine jk_iconst C rd_Md_knownValue_13 ?_
    refine jk_goto (tgt := 23) C rd_Md_knownValue_14 (by decide) ?_
    cases hf
    exact jk_iret C rfl rd_Md_knownValue_23 rfl
def wd_Md_lowestTotal (cI : ClassId) (a_t a_t_w a_t_wKept a_t_saved a_t_past a_t_input a_t_n a_t_order a_t_numbers a_t_output : Nat) (i_t_pastMany : Int) (i_t_isSaved : Int) (i_t_thrown : Int) (i_t_inputMany : Int) (i_t_lastError : Int) (i_t_lastOffset : Int) (i_t_error : Int) (i_t_offset : Int) (i_t_nextByte : Int) (i_t_begin : Int) (i_t_value : Int) (i_t_token : Int) (i_t_got : Int) (i_t_orders : Int) (i_t_outputMany : Int) (i_t_w : (Int → Int)) : va_W := [(a_t, .inr (11, [.ref a_t_w, .ref a_t_wKept, .ref a_t_saved, .ref a_t_past, jk_V i_t_pastMany, jk_V i_t_isSaved, jk_V i_t_thrown, .ref a_t_input, jk_V i_t_inputMany, jk_V i_t_lastError, jk_V i_t_lastOffset, jk_V i_t_error, jk_V i_t_offset, jk_V i_t_nextByte, jk_V i_t_begin, jk_V i_t_value, jk_V i_t_token, jk_V i_t_got, .ref a_t_n, .ref a_t_order, .ref a_t_numbers, jk_V i_t_orders, .ref a_t_output, jk_V i_t_outputMany])), (a_t_w, jk_W cI 259 i_t_w)]
set_option maxHeartbeats 4000000 in
set_option maxRecDepth 20000 in
theorem ct_Md_lowestTotal (l : Launch) (D : va_G) (Z : (Nat → Prop) → State → Heap → Prop) (sq : Nat → Nat) (hZ : jk_ZK Z sq) (cI cR : ClassId) (a_t a_t_w a_t_wKept a_t_saved a_t_past a_t_input a_t_n a_t_order a_t_numbers a_t_output : Nat) (i_t_pastMany : Int) (i_t_isSaved : Int) (i_t_thrown : Int) (i_t_inputMany : Int) (i_t_lastError : Int) (i_t_lastOffset : Int) (i_t_error : Int) (i_t_offset : Int) (i_t_nextByte : Int) (i_t_begin : Int) (i_t_value : Int) (i_t_token : Int) (i_t_got : Int) (i_t_orders : Int) (i_t_outputMany : Int) (i_t_w : (Int → Int)) (x1 : Int) (q : Int × Int) (hf : fn_Md_lowestTotal i_t_w i_t_thrown x1 = some q) : jk_MI l D jk_cl (jk_ty cI cR) Z mn_Md_lowestTotal (.code mn_Md_lowestTotal mb_Md_lowestTotal 2 (some .int) :: jk_WA) (jk_rm 3 67) [.ref a_t, jk_V x1] (wd_Md_lowestTotal cI a_t a_t_w a_t_wKept a_t_saved a_t_past a_t_input a_t_n a_t_order a_t_numbers a_t_output i_t_pastMany i_t_isSaved i_t_thrown i_t_inputMany i_t_lastError i_t_lastOffset i_t_error i_t_offset i_t_nextByte i_t_begin i_t_value i_t_token i_t_got i_t_orders i_t_outputMany i_t_w) (wd_Md_lowestTotal cI a_t a_t_w a_t_wKept a_t_saved a_t_past a_t_input a_t_n a_t_order a_t_numbers a_t_output i_t_pastMany i_t_isSaved q.2 i_t_inputMany i_t_lastError i_t_lastOffset i_t_error i_t_offset i_t_nextByte i_t_begin i_t_value i_t_token i_t_got i_t_orders i_t_outputMany i_t_w) q.1 := by
  intro sz
  refine jk_body (by decide +kernel) (fun p e s m args below meth c hsz hz hin C => ?_) (Nat.le_of_ble_eq_true rfl)
  subst hsz
  unfold fn_Md_lowestTotal at hf
  refine jk_aload_n C rd_Md_lowestTotal_0 (k := 0) rfl ?_
  refine jk_iconst C rd_Md_lowestTotal_1 ?_
  refine jk_putf C in_Md ty_Md nm_Md (ci := 11) rfl 6 (by decide) tm_1269 rfl rfl rfl 0 rfl (Nat.le_of_ble_eq_true rfl) rd_Md_lowestTotal_2 (ws' := wd_Md_lowestTotal cI a_t a_t_w a_t_wKept a_t_saved a_t_past a_t_input a_t_n a_t_order a_t_numbers a_t_output i_t_pastMany i_t_isSaved 0 i_t_inputMany i_t_lastError i_t_lastOffset i_t_error i_t_offset i_t_nextByte i_t_begin i_t_value i_t_token i_t_got i_t_orders i_t_outputMany i_t_w) rfl ?_
  refine jk_aload_n C rd_Md_lowestTotal_5 (k := 0) rfl ?_
  refine jk_iload_n C rd_Md_lowestTotal_6 (k := 1) rfl ?_
  obtain ⟨q7, hq7, hf⟩ := jk_bind_h hf
  refine jk_callVi C hZ.1 hz (ct_Md_noCord l D Z sq hZ cI cR a_t a_t_w a_t_wKept a_t_saved a_t_past a_t_input a_t_n a_t_order a_t_numbers a_t_output i_t_pastMany i_t_isSaved 0 i_t_inputMany i_t_lastError i_t_lastOffset i_t_error i_t_offset i_t_nextByte i_t_begin i_t_value i_t_token i_t_got i_t_orders i_t_outputMany i_t_w x1 q7 hq7) tm_1639 tm_1641 sl_86 tm_15 tm_1642 na_Md_noCord ⟨Nat.le_of_ble_eq_true rfl, Nat.le_of_ble_eq_true rfl⟩ rfl [0, 1] rfl rfl rfl (ws' := wd_Md_lowestTotal cI a_t a_t_w a_t_wKept a_t_saved a_t_past a_t_input a_t_n a_t_order a_t_numbers a_t_output i_t_pastMany i_t_isSaved q7.2 i_t_inputMany i_t_lastError i_t_lastOffset i_t_error i_t_offset i_t_nextByte i_t_begin i_t_value i_t_token i_t_got i_t_orders i_t_outputMany i_t_w) rfl 0 11 rfl rfl rfl (st := []) rfl (Nat.le_of_ble_eq_true rfl) rd_Md_lowestTotal_7 ?_ ⟨Nat.le_of_ble_eq_true rfl, Nat.le_of_ble_eq_true rfl⟩
  refine jk_if_eq (tgt := 17) C rd_Md_lowestTotal_10 (by decide) hf (fun _ hf => ?_) (fun _ hf => ?_)
  · refine jk_aload_n C rd_Md_lowestTotal_17 (k := 0) rfl ?_
    refine jk_iload_n C rd_Md_lowestTotal_18 (k := 1) rfl ?_
    obtain ⟨q19, hq19, hf⟩ := jk_bind_h hf
    refine jk_callVi C hZ.1 hz (ct_Md_lowest l D Z sq hZ cI cR a_t a_t_w a_t_wKept a_t_saved a_t_past a_t_input a_t_n a_t_order a_t_numbers a_t_output i_t_pastMany i_t_isSaved q7.2 i_t_inputMany i_t_lastError i_t_lastOffset i_t_error i_t_offset i_t_nextByte i_t_begin i_t_value i_t_token i_t_got i_t_orders i_t_outputMany i_t_w x1 q19 hq19) tm_1683 tm_1685 sl_90 tm_15 tm_1686 na_Md_lowest ⟨Nat.le_of_ble_eq_true rfl, Nat.le_of_ble_eq_true rfl⟩ rfl [0, 1] rfl rfl rfl (ws' := wd_Md_lowestTotal cI a_t a_t_w a_t_wKept a_t_saved a_t_past a_t_input a_t_n a_t_order a_t_numbers a_t_output i_t_pastMany i_t_isSaved q7.2 i_t_inputMany i_t_lastError i_t_lastOffset i_t_error i_t_offset i_t_nextByte i_t_begin i_t_value i_t_token i_t_got i_t_orders i_t_outputMany i_t_w) rfl 0 11 rfl rfl rfl (st := []) rfl (Nat.le_of_ble_eq_true rfl) rd_Md_lowestTotal_19 ?_ ⟨Nat.le_of_ble_eq_true rfl, Nat.le_of_ble_eq_true rfl⟩
    cases hf
    exact jk_iret C rfl rd_Md_lowestTotal_22 rfl
  · refine jk_iconst C rd_Md_lowestTotal_13 ?_
    refine jk_goto (tgt := 22) C rd_Md_lowestTotal_14 (by decide) ?_
    cases hf
    exact jk_iret C rfl rd_Md_lowestTotal_22 rfl
def wd_Md_highestTotal (cI : ClassId) (a_t a_t_w a_t_wKept a_t_saved a_t_past a_t_input a_t_n a_t_order a_t_numbers a_t_output : Nat) (i_t_pastMany : Int) (i_t_isSaved : Int) (i_t_thrown : Int) (i_t_inputMany : Int) (i_t_lastError : Int) (i_t_lastOffset : Int) (i_t_error : Int) (i_t_offset : Int) (i_t_nextByte : Int) (i_t_begin : Int) (i_t_value : Int) (i_t_token : Int) (i_t_got : Int) (i_t_orders : Int) (i_t_outputMany : Int) (i_t_w : (Int → Int)) : va_W := [(a_t, .inr (11, [.ref a_t_w, .ref a_t_wKept, .ref a_t_saved, .ref a_t_past, jk_V i_t_pastMany, jk_V i_t_isSaved, jk_V i_t_thrown, .ref a_t_input, jk_V i_t_inputMany, jk_V i_t_lastError, jk_V i_t_lastOffset, jk_V i_t_error, jk_V i_t_offset, jk_V i_t_nextByte, jk_V i_t_begin, jk_V i_t_value, jk_V i_t_token, jk_V i_t_got, .ref a_t_n, .ref a_t_order, .ref a_t_numbers, jk_V i_t_orders, .ref a_t_output, jk_V i_t_outputMany])), (a_t_w, jk_W cI 259 i_t_w)]
set_option maxHeartbeats 4000000 in
set_option maxRecDepth 20000 in
theorem ct_Md_highestTotal (l : Launch) (D : va_G) (Z : (Nat → Prop) → State → Heap → Prop) (sq : Nat → Nat) (hZ : jk_ZK Z sq) (cI cR : ClassId) (a_t a_t_w a_t_wKept a_t_saved a_t_past a_t_input a_t_n a_t_order a_t_numbers a_t_output : Nat) (i_t_pastMany : Int) (i_t_isSaved : Int) (i_t_thrown : Int) (i_t_inputMany : Int) (i_t_lastError : Int) (i_t_lastOffset : Int) (i_t_error : Int) (i_t_offset : Int) (i_t_nextByte : Int) (i_t_begin : Int) (i_t_value : Int) (i_t_token : Int) (i_t_got : Int) (i_t_orders : Int) (i_t_outputMany : Int) (i_t_w : (Int → Int)) (x1 : Int) (q : Int × Int) (hf : fn_Md_highestTotal i_t_w i_t_thrown x1 = some q) : jk_MI l D jk_cl (jk_ty cI cR) Z mn_Md_highestTotal (.code mn_Md_highestTotal mb_Md_highestTotal 2 (some .int) :: jk_WA) (jk_rm 3 67) [.ref a_t, jk_V x1] (wd_Md_highestTotal cI a_t a_t_w a_t_wKept a_t_saved a_t_past a_t_input a_t_n a_t_order a_t_numbers a_t_output i_t_pastMany i_t_isSaved i_t_thrown i_t_inputMany i_t_lastError i_t_lastOffset i_t_error i_t_offset i_t_nextByte i_t_begin i_t_value i_t_token i_t_got i_t_orders i_t_outputMany i_t_w) (wd_Md_highestTotal cI a_t a_t_w a_t_wKept a_t_saved a_t_past a_t_input a_t_n a_t_order a_t_numbers a_t_output i_t_pastMany i_t_isSaved q.2 i_t_inputMany i_t_lastError i_t_lastOffset i_t_error i_t_offset i_t_nextByte i_t_begin i_t_value i_t_token i_t_got i_t_orders i_t_outputMany i_t_w) q.1 := by
  intro sz
  refine jk_body (by decide +kernel) (fun p e s m args below meth c hsz hz hin C => ?_) (Nat.le_of_ble_eq_true rfl)
  subst hsz
  unfold fn_Md_highestTotal at hf
  refine jk_aload_n C rd_Md_highestTotal_0 (k := 0) rfl ?_
  refine jk_iconst C rd_Md_highestTotal_1 ?_
  refine jk_putf C in_Md ty_Md nm_Md (ci := 11) rfl 6 (by decide) tm_1269 rfl rfl rfl 0 rfl (Nat.le_of_ble_eq_true rfl) rd_Md_highestTotal_2 (ws' := wd_Md_highestTotal cI a_t a_t_w a_t_wKept a_t_saved a_t_past a_t_input a_t_n a_t_order a_t_numbers a_t_output i_t_pastMany i_t_isSaved 0 i_t_inputMany i_t_lastError i_t_lastOffset i_t_error i_t_offset i_t_nextByte i_t_begin i_t_value i_t_token i_t_got i_t_orders i_t_outputMany i_t_w) rfl ?_
  refine jk_aload_n C rd_Md_highestTotal_5 (k := 0) rfl ?_
  refine jk_iload_n C rd_Md_highestTotal_6 (k := 1) rfl ?_
  obtain ⟨q7, hq7, hf⟩ := jk_bind_h hf
  refine jk_callVi C hZ.1 hz (ct_Md_noCord l D Z sq hZ cI cR a_t a_t_w a_t_wKept a_t_saved a_t_past a_t_input a_t_n a_t_order a_t_numbers a_t_output i_t_pastMany i_t_isSaved 0 i_t_inputMany i_t_lastError i_t_lastOffset i_t_error i_t_offset i_t_nextByte i_t_begin i_t_value i_t_token i_t_got i_t_orders i_t_outputMany i_t_w x1 q7 hq7) tm_1639 tm_1641 sl_86 tm_15 tm_1642 na_Md_noCord ⟨Nat.le_of_ble_eq_true rfl, Nat.le_of_ble_eq_true rfl⟩ rfl [0, 1] rfl rfl rfl (ws' := wd_Md_highestTotal cI a_t a_t_w a_t_wKept a_t_saved a_t_past a_t_input a_t_n a_t_order a_t_numbers a_t_output i_t_pastMany i_t_isSaved q7.2 i_t_inputMany i_t_lastError i_t_lastOffset i_t_error i_t_offset i_t_nextByte i_t_begin i_t_value i_t_token i_t_got i_t_orders i_t_outputMany i_t_w) rfl 0 11 rfl rfl rfl (st := []) rfl (Nat.le_of_ble_eq_true rfl) rd_Md_highestTotal_7 ?_ ⟨Nat.le_of_ble_eq_true rfl, Nat.le_of_ble_eq_true rfl⟩
  refine jk_if_eq (tgt := 17) C rd_Md_highestTotal_10 (by decide) hf (fun _ hf => ?_) (fun _ hf => ?_)
  · refine jk_aload_n C rd_Md_highestTotal_17 (k := 0) rfl ?_
    refine jk_iload_n C rd_Md_highestTotal_18 (k := 1) rfl ?_
    obtain ⟨q19, hq19, hf⟩ := jk_bind_h hf
    refine jk_callVi C hZ.1 hz (ct_Md_highest l D Z sq hZ cI cR a_t a_t_w a_t_wKept a_t_saved a_t_past a_t_input a_t_n a_t_order a_t_numbers a_t_output i_t_pastMany i_t_isSaved q7.2 i_t_inputMany i_t_lastError i_t_lastOffset i_t_error i_t_offset i_t_nextByte i_t_begin i_t_value i_t_token i_t_got i_t_orders i_t_outputMany i_t_w x1 q19 hq19) tm_1691 tm_1693 sl_91 tm_15 tm_1694 na_Md_highest ⟨Nat.le_of_ble_eq_true rfl, Nat.le_of_ble_eq_true rfl⟩ rfl [0, 1] rfl rfl rfl (ws' := wd_Md_highestTotal cI a_t a_t_w a_t_wKept a_t_saved a_t_past a_t_input a_t_n a_t_order a_t_numbers a_t_output i_t_pastMany i_t_isSaved q7.2 i_t_inputMany i_t_lastError i_t_lastOffset i_t_error i_t_offset i_t_nextByte i_t_begin i_t_value i_t_token i_t_got i_t_orders i_t_outputMany i_t_w) rfl 0 11 rfl rfl rfl (st := []) rfl (Nat.le_of_ble_eq_true rfl) rd_Md_highestTotal_19 ?_ ⟨Nat.le_of_ble_eq_true rfl, Nat.le_of_ble_eq_true rfl⟩
    cases hf
    exact jk_iret C rfl rd_Md_highestTotal_22 rfl
  · refine jk_iconst C rd_Md_highestTotal_13 ?_
    refine jk_goto (tgt := 22) C rd_Md_highestTotal_14 (by decide) ?_
    cases hf
    exact jk_iret C rfl rd_Md_highestTotal_22 rfl
def wd_Md_pendantsIn (cI : ClassId) (a_t a_t_w a_t_wKept a_t_saved a_t_past a_t_input a_t_n a_t_order a_t_numbers a_t_output : Nat) (i_t_pastMany : Int) (i_t_isSaved : Int) (i_t_thrown : Int) (i_t_inputMany : Int) (i_t_lastError : Int) (i_t_lastOffset : Int) (i_t_error : Int) (i_t_offset : Int) (i_t_nextByte : Int) (i_t_begin : Int) (i_t_value : Int) (i_t_token : Int) (i_t_got : Int) (i_t_orders : Int) (i_t_outputMany : Int) (i_t_w : (Int → Int)) : va_W := [(a_t, .inr (11, [.ref a_t_w, .ref a_t_wKept, .ref a_t_saved, .ref a_t_past, jk_V i_t_pastMany, jk_V i_t_isSaved, jk_V i_t_thrown, .ref a_t_input, jk_V i_t_inputMany, jk_V i_t_lastError, jk_V i_t_lastOffset, jk_V i_t_error, jk_V i_t_offset, jk_V i_t_nextByte, jk_V i_t_begin, jk_V i_t_value, jk_V i_t_token, jk_V i_t_got, .ref a_t_n, .ref a_t_order, .ref a_t_numbers, jk_V i_t_orders, .ref a_t_output, jk_V i_t_outputMany])), (a_t_w, jk_W cI 259 i_t_w)]
set_option maxHeartbeats 4000000 in
set_option maxRecDepth 20000 in
theorem ct_Md_pendantsIn (l : Launch) (D : va_G) (Z : (Nat → Prop) → State → Heap → Prop) (sq : Nat → Nat) (hZ : jk_ZK Z sq) (cI cR : ClassId) (a_t a_t_w a_t_wKept a_t_saved a_t_past a_t_input a_t_n a_t_order a_t_numbers a_t_output : Nat) (i_t_pastMany : Int) (i_t_isSaved : Int) (i_t_thrown : Int) (i_t_inputMany : Int) (i_t_lastError : Int) (i_t_lastOffset : Int) (i_t_error : Int) (i_t_offset : Int) (i_t_nextByte : Int) (i_t_begin : Int) (i_t_value : Int) (i_t_token : Int) (i_t_got : Int) (i_t_orders : Int) (i_t_outputMany : Int) (i_t_w : (Int → Int)) (x1 : Int) (q : Int × Int) (hf : fn_Md_pendantsIn i_t_w i_t_thrown x1 = some q) : jk_MI l D jk_cl (jk_ty cI cR) Z mn_Md_pendantsIn (.code mn_Md_pendantsIn mb_Md_pendantsIn 2 (some .int) :: jk_WA) (jk_rm 4 88) [.ref a_t, jk_V x1] (wd_Md_pendantsIn cI a_t a_t_w a_t_wKept a_t_saved a_t_past a_t_input a_t_n a_t_order a_t_numbers a_t_output i_t_pastMany i_t_isSaved i_t_thrown i_t_inputMany i_t_lastError i_t_lastOffset i_t_error i_t_offset i_t_nextByte i_t_begin i_t_value i_t_token i_t_got i_t_orders i_t_outputMany i_t_w) (wd_Md_pendantsIn cI a_t a_t_w a_t_wKept a_t_saved a_t_past a_t_input a_t_n a_t_order a_t_numbers a_t_output i_t_pastMany i_t_isSaved q.2 i_t_inputMany i_t_lastError i_t_lastOffset i_t_error i_t_offset i_t_nextByte i_t_begin i_t_value i_t_token i_t_got i_t_orders i_t_outputMany i_t_w) q.1 := by
  intro sz
  refine jk_body (by decide +kernel) (fun p e s m args below meth c hsz hz hin C => ?_) (Nat.le_of_ble_eq_true rfl)
  subst hsz
  unfold fn_Md_pendantsIn at hf
  refine jk_aload_n C rd_Md_pendantsIn_0 (k := 0) rfl ?_
  refine jk_iconst C rd_Md_pendantsIn_1 ?_
  refine jk_putf C in_Md ty_Md nm_Md (ci := 11) rfl 6 (by decide) tm_1269 rfl rfl rfl 0 rfl (Nat.le_of_ble_eq_true rfl) rd_Md_pendantsIn_2 (ws' := wd_Md_pendantsIn cI a_t a_t_w a_t_wKept a_t_saved a_t_past a_t_input a_t_n a_t_order a_t_numbers a_t_output i_t_pastMany i_t_isSaved 0 i_t_inputMany i_t_lastError i_t_lastOffset i_t_error i_t_offset i_t_nextByte i_t_begin i_t_value i_t_token i_t_got i_t_orders i_t_outputMany i_t_w) rfl ?_
  refine jk_aload_n C rd_Md_pendantsIn_5 (k := 0) rfl ?_
  refine jk_iload_n C rd_Md_pendantsIn_6 (k := 1) rfl ?_
  obtain ⟨q7, hq7, hf⟩ := jk_bind_h hf
  refine jk_callVi C hZ.1 hz (ct_Md_noCluster l D Z sq hZ cI cR a_t a_t_w a_t_wKept a_t_saved a_t_past a_t_input a_t_n a_t_order a_t_numbers a_t_output i_t_pastMany i_t_isSaved 0 i_t_inputMany i_t_lastError i_t_lastOffset i_t_error i_t_offset i_t_nextByte i_t_begin i_t_value i_t_token i_t_got i_t_orders i_t_outputMany i_t_w x1 q7 hq7) tm_1699 tm_1701 sl_92 tm_15 tm_1702 na_Md_noCluster ⟨Nat.le_of_ble_eq_true rfl, Nat.le_of_ble_eq_true rfl⟩ rfl [0, 1] rfl rfl rfl (ws' := wd_Md_pendantsIn cI a_t a_t_w a_t_wKept a_t_saved a_t_past a_t_input a_t_n a_t_order a_t_numbers a_t_output i_t_pastMany i_t_isSaved q7.2 i_t_inputMany i_t_lastError i_t_lastOffset i_t_error i_t_offset i_t_nextByte i_t_begin i_t_value i_t_token i_t_got i_t_orders i_t_outputMany i_t_w) rfl 0 11 rfl rfl rfl (st := []) rfl (Nat.le_of_ble_eq_true rfl) rd_Md_pendantsIn_7 ?_ ⟨Nat.le_of_ble_eq_true rfl, Nat.le_of_ble_eq_true rfl⟩
  refine jk_if_eq (tgt := 17) C rd_Md_pendantsIn_10 (by decide) hf (fun _ hf => ?_) (fun _ hf => ?_)
  · refine jk_aload_n C rd_Md_pendantsIn_17 (k := 0) rfl ?_
    refine jk_iload_n C rd_Md_pendantsIn_18 (k := 1) rfl ?_
    obtain ⟨q19, hq19, hf⟩ := jk_bind_h hf
    refine jk_callVi C hZ.1 hz (ct_Md_pendants l D Z sq hZ cI cR a_t a_t_w a_t_wKept a_t_saved a_t_past a_t_input a_t_n a_t_order a_t_numbers a_t_output i_t_pastMany i_t_isSaved q7.2 i_t_inputMany i_t_lastError i_t_lastOffset i_t_error i_t_offset i_t_nextByte i_t_begin i_t_value i_t_token i_t_got i_t_orders i_t_outputMany i_t_w x1 q19 hq19) tm_1556 tm_1558 sl_72 tm_15 tm_1559 na_Md_pendants ⟨Nat.le_of_ble_eq_true rfl, Nat.le_of_ble_eq_true rfl⟩ rfl [0, 1] rfl rfl rfl (ws' := wd_Md_pendantsIn cI a_t a_t_w a_t_wKept a_t_saved a_t_past a_t_input a_t_n a_t_order a_t_numbers a_t_output i_t_pastMany i_t_isSaved q7.2 i_t_inputMany i_t_lastError i_t_lastOffset i_t_error i_t_offset i_t_nextByte i_t_begin i_t_value i_t_token i_t_got i_t_orders i_t_outputMany i_t_w) rfl 0 11 rfl rfl rfl (st := []) rfl (Nat.le_of_ble_eq_true rfl) rd_Md_pendantsIn_19 ?_ ⟨Nat.le_of_ble_eq_true rfl, Nat.le_of_ble_eq_true rfl⟩
    cases hf
    exact jk_iret C rfl rd_Md_pendantsIn_22 rfl
  · refine jk_iconst C rd_Md_pendantsIn_13 ?_
    refine jk_goto (tgt := 22) C rd_Md_pendantsIn_14 (by decide) ?_
    cases hf
    exact jk_iret C rfl rd_Md_pendantsIn_22 rfl
def wd_Md_cordsIn (cI : ClassId) (a_t a_t_w a_t_wKept a_t_saved a_t_past a_t_input a_t_n a_t_order a_t_numbers a_t_output : Nat) (i_t_pastMany : Int) (i_t_isSaved : Int) (i_t_thrown : Int) (i_t_inputMany : Int) (i_t_lastError : Int) (i_t_lastOffset : Int) (i_t_error : Int) (i_t_offset : Int) (i_t_nextByte : Int) (i_t_begin : Int) (i_t_value : Int) (i_t_token : Int) (i_t_got : Int) (i_t_orders : Int) (i_t_outputMany : Int) (i_t_w : (Int → Int)) : va_W := [(a_t, .inr (11, [.ref a_t_w, .ref a_t_wKept, .ref a_t_saved, .ref a_t_past, jk_V i_t_pastMany, jk_V i_t_isSaved, jk_V i_t_thrown, .ref a_t_input, jk_V i_t_inputMany, jk_V i_t_lastError, jk_V i_t_lastOffset, jk_V i_t_error, jk_V i_t_offset, jk_V i_t_nextByte, jk_V i_t_begin, jk_V i_t_value, jk_V i_t_token, jk_V i_t_got, .ref a_t_n, .ref a_t_order, .ref a_t_numbers, jk_V i_t_orders, .ref a_t_output, jk_V i_t_outputMany])), (a_t_w, jk_W cI 259 i_t_w)]
set_option maxHeartbeats 4000000 in
set_option maxRecDepth 20000 in
theorem ct_Md_cordsIn (l : Launch) (D : va_G) (Z : (Nat → Prop) → State → Heap → Prop) (sq : Nat → Nat) (hZ : jk_ZK Z sq) (cI cR : ClassId) (a_t a_t_w a_t_wKept a_t_saved a_t_past a_t_input a_t_n a_t_order a_t_numbers a_t_output : Nat) (i_t_pastMany : Int) (i_t_isSaved : Int) (i_t_thrown : Int) (i_t_inputMany : Int) (i_t_lastError : Int) (i_t_lastOffset : Int) (i_t_error : Int) (i_t_offset : Int) (i_t_nextByte : Int) (i_t_begin : Int) (i_t_value : Int) (i_t_token : Int) (i_t_got : Int) (i_t_orders : Int) (i_t_outputMany : Int) (i_t_w : (Int → Int)) (x1 : Int) (q : Int × Int) (hf : fn_Md_cordsIn i_t_w i_t_thrown x1 = some q) : jk_MI l D jk_cl (jk_ty cI cR) Z mn_Md_cordsIn (.code mn_Md_cordsIn mb_Md_cordsIn 2 (some .int) :: jk_WA) (jk_rm 3 65) [.ref a_t, jk_V x1] (wd_Md_cordsIn cI a_t a_t_w a_t_wKept a_t_saved a_t_past a_t_input a_t_n a_t_order a_t_numbers a_t_output i_t_pastMany i_t_isSaved i_t_thrown i_t_inputMany i_t_lastError i_t_lastOffset i_t_error i_t_offset i_t_nextByte i_t_begin i_t_value i_t_token i_t_got i_t_orders i_t_outputMany i_t_w) (wd_Md_cordsIn cI a_t a_t_w a_t_wKept a_t_saved a_t_past a_t_input a_t_n a_t_order a_t_numbers a_t_output i_t_pastMany i_t_isSaved q.2 i_t_inputMany i_t_lastError i_t_lastOffset i_t_error i_t_offset i_t_nextByte i_t_begin i_t_value i_t_token i_t_got i_t_orders i_t_outputMany i_t_w) q.1 := by
  intro sz
  refine jk_body (by decide +kernel) (fun p e s m args below meth c hsz hz hin C => ?_) (Nat.le_of_ble_eq_true rfl)
  subst hsz
  unfold fn_Md_cordsIn at hf
  refine jk_aload_n C rd_Md_cordsIn_0 (k := 0) rfl ?_
  refine jk_iconst C rd_Md_cordsIn_1 ?_
  refine jk_putf C in_Md ty_Md nm_Md (ci := 11) rfl 6 (by decide) tm_1269 rfl rfl rfl 0 rfl (Nat.le_of_ble_eq_true rfl) rd_Md_cordsIn_2 (ws' := wd_Md_cordsIn cI a_t a_t_w a_t_wKept a_t_saved a_t_past a_t_input a_t_n a_t_order a_t_numbers a_t_output i_t_pastMany i_t_isSaved 0 i_t_inputMany i_t_lastError i_t_lastOffset i_t_error i_t_offset i_t_nextByte i_t_begin i_t_value i_t_token i_t_got i_t_orders i_t_outputMany i_t_w) rfl ?_
  refine jk_aload_n C rd_Md_cordsIn_5 (k := 0) rfl ?_
  refine jk_iload_n C rd_Md_cordsIn_6 (k := 1) rfl ?_
  obtain ⟨q7, hq7, hf⟩ := jk_bind_h hf
  refine jk_callVi C hZ.1 hz (ct_Md_noCluster l D Z sq hZ cI cR a_t a_t_w a_t_wKept a_t_saved a_t_past a_t_input a_t_n a_t_order a_t_numbers a_t_output i_t_pastMany i_t_isSaved 0 i_t_inputMany i_t_lastError i_t_lastOffset i_t_error i_t_offset i_t_nextByte i_t_begin i_t_value i_t_token i_t_got i_t_orders i_t_outputMany i_t_w x1 q7 hq7) tm_1699 tm_1701 sl_92 tm_15 tm_1702 na_Md_noCluster ⟨Nat.le_of_ble_eq_true rfl, Nat.le_of_ble_eq_true rfl⟩ rfl [0, 1] rfl rfl rfl (ws' := wd_Md_cordsIn cI a_t a_t_w a_t_wKept a_t_saved a_t_past a_t_input a_t_n a_t_order a_t_numbers a_t_output i_t_pastMany i_t_isSaved q7.2 i_t_inputMany i_t_lastError i_t_lastOffset i_t_error i_t_offset i_t_nextByte i_t_begin i_t_value i_t_token i_t_got i_t_orders i_t_outputMany i_t_w) rfl 0 11 rfl rfl rfl (st := []) rfl (Nat.le_of_ble_eq_true rfl) rd_Md_cordsIn_7 ?_ ⟨Nat.le_of_ble_eq_true rfl, Nat.le_of_ble_eq_true rfl⟩
  refine jk_if_eq (tgt := 17) C rd_Md_cordsIn_10 (by decide) hf (fun _ hf => ?_) (fun _ hf => ?_)
  · refine jk_aload_n C rd_Md_cordsIn_17 (k := 0) rfl ?_
    refine jk_iload_n C rd_Md_cordsIn_18 (k := 1) rfl ?_
    obtain ⟨q19, hq19, hf⟩ := jk_bind_h hf
    refine jk_callVi C hZ.1 hz (ct_Md_end l D Z sq hZ cI cR a_t a_t_w a_t_wKept a_t_saved a_t_past a_t_input a_t_n a_t_order a_t_numbers a_t_output i_t_pastMany i_t_isSaved q7.2 i_t_inputMany i_t_lastError i_t_lastOffset i_t_error i_t_offset i_t_nextByte i_t_begin i_t_value i_t_token i_t_got i_t_orders i_t_outputMany i_t_w x1 q19 hq19) tm_1437 tm_1439 sl_45 tm_15 tm_1440 na_Md_end ⟨Nat.le_of_ble_eq_true rfl, Nat.le_of_ble_eq_true rfl⟩ rfl [0, 1] rfl rfl rfl (ws' := wd_Md_cordsIn cI a_t a_t_w a_t_wKept a_t_saved a_t_past a_t_input a_t_n a_t_order a_t_numbers a_t_output i_t_pastMany i_t_isSaved q7.2 i_t_inputMany i_t_lastError i_t_lastOffset i_t_error i_t_offset i_t_nextByte i_t_begin i_t_value i_t_token i_t_got i_t_orders i_t_outputMany i_t_w) rfl 0 11 rfl rfl rfl (st := []) rfl (Nat.le_of_ble_eq_true rfl) rd_Md_cordsIn_19 ?_ ⟨Nat.le_of_ble_eq_true rfl, Nat.le_of_ble_eq_true rfl⟩
    refine jk_aload_n C rd_Md_cordsIn_22 (k := 0) rfl ?_
    refine jk_iload_n C rd_Md_cordsIn_23 (k := 1) rfl ?_
    obtain ⟨q24, hq24, hf⟩ := jk_bind_h hf
    refine jk_callVi C hZ.1 hz (ct_Md_first l D Z sq hZ cI cR a_t a_t_w a_t_wKept a_t_saved a_t_past a_t_input a_t_n a_t_order a_t_numbers a_t_output i_t_pastMany i_t_isSaved q7.2 i_t_inputMany i_t_lastError i_t_lastOffset i_t_error i_t_offset i_t_nextByte i_t_begin i_t_value i_t_token i_t_got i_t_orders i_t_outputMany i_t_w x1 q24 hq24) tm_1433 tm_1435 sl_44 tm_15 tm_1436 na_Md_first ⟨Nat.le_of_ble_eq_true rfl, Nat.le_of_ble_eq_true rfl⟩ rfl [0, 1] rfl rfl rfl (ws' := wd_Md_cordsIn cI a_t a_t_w a_t_wKept a_t_saved a_t_past a_t_input a_t_n a_t_order a_t_numbers a_t_output i_t_pastMany i_t_isSaved q7.2 i_t_inputMany i_t_lastError i_t_lastOffset i_t_error i_t_offset i_t_nextByte i_t_begin i_t_value i_t_token i_t_got i_t_orders i_t_outputMany i_t_w) rfl 0 11 rfl rfl rfl (st := [jk_V q19]) rfl (Nat.le_of_ble_eq_true rfl) rd_Md_cordsIn_24 ?_ ⟨Nat.le_of_ble_eq_true rfl, Nat.le_of_ble_eq_true rfl⟩
    refine jk_isub C rd_Md_cordsIn_27 ?_
    cases hf
    exact jk_iret C rfl rd_Md_cordsIn_28 rfl
  · refine jk_iconst C rd_Md_cordsIn_13 ?_
    refine jk_goto (tgt := 28) C rd_Md_cordsIn_14 (by decide) ?_
    cases hf
    exact jk_iret C rfl rd_Md_cordsIn_28 rfl
def wd_Md_topOf (cI : ClassId) (a_t a_t_w a_t_wKept a_t_saved a_t_past a_t_input a_t_n a_t_order a_t_numbers a_t_output : Nat) (i_t_pastMany : Int) (i_t_isSaved : Int) (i_t_thrown : Int) (i_t_inputMany : Int) (i_t_lastError : Int) (i_t_lastOffset : Int) (i_t_error : Int) (i_t_offset : Int) (i_t_nextByte : Int) (i_t_begin : Int) (i_t_value : Int) (i_t_token : Int) (i_t_got : Int) (i_t_orders : Int) (i_t_outputMany : Int) (i_t_w : (Int → Int)) : va_W := [(a_t, .inr (11, [.ref a_t_w, .ref a_t_wKept, .ref a_t_saved, .ref a_t_past, jk_V i_t_pastMany, jk_V i_t_isSaved, jk_V i_t_thrown, .ref a_t_input, jk_V i_t_inputMany, jk_V i_t_lastError, jk_V i_t_lastOffset, jk_V i_t_error, jk_V i_t_offset, jk_V i_t_nextByte, jk_V i_t_begin, jk_V i_t_value, jk_V i_t_token, jk_V i_t_got, .ref a_t_n, .ref a_t_order, .ref a_t_numbers, jk_V i_t_orders, .ref a_t_output, jk_V i_t_outputMany])), (a_t_w, jk_W cI 259 i_t_w)]
set_option maxHeartbeats 4000000 in
set_option maxRecDepth 20000 in
theorem ct_Md_topOf (l : Launch) (D : va_G) (Z : (Nat → Prop) → State → Heap → Prop) (sq : Nat → Nat) (hZ : jk_ZK Z sq) (cI cR : ClassId) (a_t a_t_w a_t_wKept a_t_saved a_t_past a_t_input a_t_n a_t_order a_t_numbers a_t_output : Nat) (i_t_pastMany : Int) (i_t_isSaved : Int) (i_t_thrown : Int) (i_t_inputMany : Int) (i_t_lastError : Int) (i_t_lastOffset : Int) (i_t_error : Int) (i_t_offset : Int) (i_t_nextByte : Int) (i_t_begin : Int) (i_t_value : Int) (i_t_token : Int) (i_t_got : Int) (i_t_orders : Int) (i_t_outputMany : Int) (i_t_w : (Int → Int)) (x1 : Int) (q : Int × Int) (hf : fn_Md_topOf i_t_w i_t_thrown x1 = some q) : jk_MI l D jk_cl (jk_ty cI cR) Z mn_Md_topOf (.code mn_Md_topOf mb_Md_topOf 2 (some .int) :: jk_WA) (jk_rm 4 87) [.ref a_t, jk_V x1] (wd_Md_topOf cI a_t a_t_w a_t_wKept a_t_saved a_t_past a_t_input a_t_n a_t_order a_t_numbers a_t_output i_t_pastMany i_t_isSaved i_t_thrown i_t_inputMany i_t_lastError i_t_lastOffset i_t_error i_t_offset i_t_nextByte i_t_begin i_t_value i_t_token i_t_got i_t_orders i_t_outputMany i_t_w) (wd_Md_topOf cI a_t a_t_w a_t_wKept a_t_saved a_t_past a_t_input a_t_n a_t_order a_t_numbers a_t_output i_t_pastMany i_t_isSaved q.2 i_t_inputMany i_t_lastError i_t_lastOffset i_t_error i_t_offset i_t_nextByte i_t_begin i_t_value i_t_token i_t_got i_t_orders i_t_outputMany i_t_w) q.1 := by
  intro sz
  refine jk_body (by decide +kernel) (fun p e s m args below meth c hsz hz hin C => ?_) (Nat.le_of_ble_eq_true rfl)
  subst hsz
  unfold fn_Md_topOf at hf
  refine jk_aload_n C rd_Md_topOf_0 (k := 0) rfl ?_
  refine jk_iconst C rd_Md_topOf_1 ?_
  refine jk_putf C in_Md ty_Md nm_Md (ci := 11) rfl 6 (by decide) tm_1269 rfl rfl rfl 0 rfl (Nat.le_of_ble_eq_true rfl) rd_Md_topOf_2 (ws' := wd_Md_topOf cI a_t a_t_w a_t_wKept a_t_saved a_t_past a_t_input a_t_n a_t_order a_t_numbers a_t_output i_t_pastMany i_t_isSaved 0 i_t_inputMany i_t_lastError i_t_lastOffset i_t_error i_t_offset i_t_nextByte i_t_begin i_t_value i_t_token i_t_got i_t_orders i_t_outputMany i_t_w) rfl ?_
  refine jk_aload_n C rd_Md_topOf_5 (k := 0) rfl ?_
  refine jk_iload_n C rd_Md_topOf_6 (k := 1) rfl ?_
  obtain ⟨q7, hq7, hf⟩ := jk_bind_h hf
  refine jk_callVi C hZ.1 hz (ct_Md_noCluster l D Z sq hZ cI cR a_t a_t_w a_t_wKept a_t_saved a_t_past a_t_input a_t_n a_t_order a_t_numbers a_t_output i_t_pastMany i_t_isSaved 0 i_t_inputMany i_t_lastError i_t_lastOffset i_t_error i_t_offset i_t_nextByte i_t_begin i_t_value i_t_token i_t_got i_t_orders i_t_outputMany i_t_w x1 q7 hq7) tm_1699 tm_1701 sl_92 tm_15 tm_1702 na_Md_noCluster ⟨Nat.le_of_ble_eq_true rfl, Nat.le_of_ble_eq_true rfl⟩ rfl [0, 1] rfl rfl rfl (ws' := wd_Md_topOf cI a_t a_t_w a_t_wKept a_t_saved a_t_past a_t_input a_t_n a_t_order a_t_numbers a_t_output i_t_pastMany i_t_isSaved q7.2 i_t_inputMany i_t_lastError i_t_lastOffset i_t_error i_t_offset i_t_nextByte i_t_begin i_t_value i_t_token i_t_got i_t_orders i_t_outputMany i_t_w) rfl 0 11 rfl rfl rfl (st := []) rfl (Nat.le_of_ble_eq_true rfl) rd_Md_topOf_7 ?_ ⟨Nat.le_of_ble_eq_true rfl, Nat.le_of_ble_eq_true rfl⟩
  refine jk_if_eq (tgt := 17) C rd_Md_topOf_10 (by decide) hf (fun _ hf => ?_) (fun _ hf => ?_)
  · refine jk_aload_n C rd_Md_topOf_17 (k := 0) rfl ?_
    refine jk_iload_n C rd_Md_topOf_18 (k := 1) rfl ?_
    obtain ⟨q19, hq19, hf⟩ := jk_bind_h hf
    refine jk_callVi C hZ.1 hz (ct_Md_hasTop l D Z sq hZ cI cR a_t a_t_w a_t_wKept a_t_saved a_t_past a_t_input a_t_n a_t_order a_t_numbers a_t_output i_t_pastMany i_t_isSaved q7.2 i_t_inputMany i_t_lastError i_t_lastOffset i_t_error i_t_offset i_t_nextByte i_t_begin i_t_value i_t_token i_t_got i_t_orders i_t_outputMany i_t_w x1 q19 hq19) tm_1429 tm_1431 sl_43 tm_15 tm_1432 na_Md_hasTop ⟨Nat.le_of_ble_eq_true rfl, Nat.le_of_ble_eq_true rfl⟩ rfl [0, 1] rfl rfl rfl (ws' := wd_Md_topOf cI a_t a_t_w a_t_wKept a_t_saved a_t_past a_t_input a_t_n a_t_order a_t_numbers a_t_output i_t_pastMany i_t_isSaved q7.2 i_t_inputMany i_t_lastError i_t_lastOffset i_t_error i_t_offset i_t_nextByte i_t_begin i_t_value i_t_token i_t_got i_t_orders i_t_outputMany i_t_w) rfl 0 11 rfl rfl rfl (st := []) rfl (Nat.le_of_ble_eq_true rfl) rd_Md_topOf_19 ?_ ⟨Nat.le_of_ble_eq_true rfl, Nat.le_of_ble_eq_true rfl⟩
    refine jk_if_eq (tgt := 33) C rd_Md_topOf_22 (by decide) hf (fun _ hf => ?_) (fun _ hf => ?_)
    · refine jk_iconst C rd_Md_topOf_33 ?_
      cases hf
      exact jk_iret C rfl rd_Md_topOf_34 rfl
    · refine jk_aload_n C rd_Md_topOf_25 (k := 0) rfl ?_
      refine jk_iload_n C rd_Md_topOf_26 (k := 1) rfl ?_
      obtain ⟨q27, hq27, hf⟩ := jk_bind_h hf
      refine jk_callVi C hZ.1 hz (ct_Md_first l D Z sq hZ cI cR a_t a_t_w a_t_wKept a_t_saved a_t_past a_t_input a_t_n a_t_order a_t_numbers a_t_output i_t_pastMany i_t_isSaved q7.2 i_t_inputMany i_t_lastError i_t_lastOffset i_t_error i_t_offset i_t_nextByte i_t_begin i_t_value i_t_token i_t_got i_t_orders i_t_outputMany i_t_w x1 q27 hq27) tm_1433 tm_1435 sl_44 tm_15 tm_1436 na_Md_first ⟨Nat.le_of_ble_eq_true rfl, Nat.le_of_ble_eq_true rfl⟩ rfl [0, 1] rfl rfl rfl (ws' := wd_Md_topOf cI a_t a_t_w a_t_wKept a_t_saved a_t_past a_t_input a_t_n a_t_order a_t_numbers a_t_output i_t_pastMany i_t_isSaved q7.2 i_t_inputMany i_t_lastError i_t_lastOffset i_t_error i_t_offset i_t_nextByte i_t_begin i_t_value i_t_token i_t_got i_t_orders i_t_outputMany i_t_w) rfl 0 11 rfl rfl rfl (st := []) rfl (Nat.le_of_ble_eq_true rfl) rd_Md_topOf_27 ?_ ⟨Nat.le_of_ble_eq_true rfl, Nat.le_of_ble_eq_true rfl⟩
      refine jk_goto (tgt := 34) C rd_Md_topOf_30 (by decide) ?_
      cases hf
      exact jk_iret C rfl rd_Md_topOf_34 rfl
  · refine jk_iconst C rd_Md_topOf_13 ?_
    refine jk_goto (tgt := 34) C rd_Md_topOf_14 (by decide) ?_
    cases hf
    exact jk_iret C rfl rd_Md_topOf_34 rfl
def wd_Md_firstPendant (cI : ClassId) (a_t a_t_w a_t_wKept a_t_saved a_t_past a_t_input a_t_n a_t_order a_t_numbers a_t_output : Nat) (i_t_pastMany : Int) (i_t_isSaved : Int) (i_t_thrown : Int) (i_t_inputMany : Int) (i_t_lastError : Int) (i_t_lastOffset : Int) (i_t_error : Int) (i_t_offset : Int) (i_t_nextByte : Int) (i_t_begin : Int) (i_t_value : Int) (i_t_token : Int) (i_t_got : Int) (i_t_orders : Int) (i_t_outputMany : Int) (i_t_w : (Int → Int)) : va_W := [(a_t, .inr (11, [.ref a_t_w, .ref a_t_wKept, .ref a_t_saved, .ref a_t_past, jk_V i_t_pastMany, jk_V i_t_isSaved, jk_V i_t_thrown, .ref a_t_input, jk_V i_t_inputMany, jk_V i_t_lastError, jk_V i_t_lastOffset, jk_V i_t_error, jk_V i_t_offset, jk_V i_t_nextByte, jk_V i_t_begin, jk_V i_t_value, jk_V i_t_token, jk_V i_t_got, .ref a_t_n, .ref a_t_order, .ref a_t_numbers, jk_V i_t_orders, .ref a_t_output, jk_V i_t_outputMany])), (a_t_w, jk_W cI 259 i_t_w)]
set_option maxHeartbeats 4000000 in
set_option maxRecDepth 20000 in
theorem ct_Md_firstPendant (l : Launch) (D : va_G) (Z : (Nat → Prop) → State → Heap → Prop) (sq : Nat → Nat) (hZ : jk_ZK Z sq) (cI cR : ClassId) (a_t a_t_w a_t_wKept a_t_saved a_t_past a_t_input a_t_n a_t_order a_t_numbers a_t_output : Nat) (i_t_pastMany : Int) (i_t_isSaved : Int) (i_t_thrown : Int) (i_t_inputMany : Int) (i_t_lastError : Int) (i_t_lastOffset : Int) (i_t_error : Int) (i_t_offset : Int) (i_t_nextByte : Int) (i_t_begin : Int) (i_t_value : Int) (i_t_token : Int) (i_t_got : Int) (i_t_orders : Int) (i_t_outputMany : Int) (i_t_w : (Int → Int)) (x1 : Int) (q : Int × Int) (hf : fn_Md_firstPendant i_t_w i_t_thrown x1 = some q) : jk_MI l D jk_cl (jk_ty cI cR) Z mn_Md_firstPendant (.code mn_Md_firstPendant mb_Md_firstPendant 2 (some .int) :: jk_WA) (jk_rm 5 108) [.ref a_t, jk_V x1] (wd_Md_firstPendant cI a_t a_t_w a_t_wKept a_t_saved a_t_past a_t_input a_t_n a_t_order a_t_numbers a_t_output i_t_pastMany i_t_isSaved i_t_thrown i_t_inputMany i_t_lastError i_t_lastOffset i_t_error i_t_offset i_t_nextByte i_t_begin i_t_value i_t_token i_t_got i_t_orders i_t_outputMany i_t_w) (wd_Md_firstPendant cI a_t a_t_w a_t_wKept a_t_saved a_t_past a_t_input a_t_n a_t_order a_t_numbers a_t_output i_t_pastMany i_t_isSaved q.2 i_t_inputMany i_t_lastError i_t_lastOffset i_t_error i_t_offset i_t_nextByte i_t_begin i_t_value i_t_token i_t_got i_t_orders i_t_outputMany i_t_w) q.1 := by
  intro sz
  refine jk_body (by decide +kernel) (fun p e s m args below meth c hsz hz hin C => ?_) (Nat.le_of_ble_eq_true rfl)
  subst hsz
  unfold fn_Md_firstPendant at hf
  refine jk_aload_n C rd_Md_firstPendant_0 (k := 0) rfl ?_
  refine jk_iconst C rd_Md_firstPendant_1 ?_
  refine jk_putf C in_Md ty_Md nm_Md (ci := 11) rfl 6 (by decide) tm_1269 rfl rfl rfl 0 rfl (Nat.le_of_ble_eq_true rfl) rd_Md_firstPendant_2 (ws' := wd_Md_firstPendant cI a_t a_t_w a_t_wKept a_t_saved a_t_past a_t_input a_t_n a_t_order a_t_numbers a_t_output i_t_pastMany i_t_isSaved 0 i_t_inputMany i_t_lastError i_t_lastOffset i_t_error i_t_offset i_t_nextByte i_t_begin i_t_value i_t_token i_t_got i_t_orders i_t_outputMany i_t_w) rfl ?_
  refine jk_aload_n C rd_Md_firstPendant_5 (k := 0) rfl ?_
  refine jk_iload_n C rd_Md_firstPendant_6 (k := 1) rfl ?_
  obtain ⟨q7, hq7, hf⟩ := jk_bind_h hf
  refine jk_callVi C hZ.1 hz (ct_Md_noCluster l D Z sq hZ cI cR a_t a_t_w a_t_wKept a_t_saved a_t_past a_t_input a_t_n a_t_order a_t_numbers a_t_output i_t_pastMany i_t_isSaved 0 i_t_inputMany i_t_lastError i_t_lastOffset i_t_error i_t_offset i_t_nextByte i_t_begin i_t_value i_t_token i_t_got i_t_orders i_t_outputMany i_t_w x1 q7 hq7) tm_1699 tm_1701 sl_92 tm_15 tm_1702 na_Md_noCluster ⟨Nat.le_of_ble_eq_true rfl, Nat.le_of_ble_eq_true rfl⟩ rfl [0, 1] rfl rfl rfl (ws' := wd_Md_firstPendant cI a_t a_t_w a_t_wKept a_t_saved a_t_past a_t_input a_t_n a_t_order a_t_numbers a_t_output i_t_pastMany i_t_isSaved q7.2 i_t_inputMany i_t_lastError i_t_lastOffset i_t_error i_t_offset i_t_nextByte i_t_begin i_t_value i_t_token i_t_got i_t_orders i_t_outputMany i_t_w) rfl 0 11 rfl rfl rfl (st := []) rfl (Nat.le_of_ble_eq_true rfl) rd_Md_firstPendant_7 ?_ ⟨Nat.le_of_ble_eq_true rfl, Nat.le_of_ble_eq_true rfl⟩
  refine jk_if_eq (tgt := 17) C rd_Md_firstPendant_10 (by decide) hf (fun _ hf => ?_) (fun _ hf => ?_)
  · refine jk_aload_n C rd_Md_firstPendant_17 (k := 0) rfl ?_
    refine jk_iload_n C rd_Md_firstPendant_18 (k := 1) rfl ?_
    obtain ⟨q19, hq19, hf⟩ := jk_bind_h hf
    refine jk_callVi C hZ.1 hz (ct_Md_pendants l D Z sq hZ cI cR a_t a_t_w a_t_wKept a_t_saved a_t_past a_t_input a_t_n a_t_order a_t_numbers a_t_output i_t_pastMany i_t_isSaved q7.2 i_t_inputMany i_t_lastError i_t_lastOffset i_t_error i_t_offset i_t_nextByte i_t_begin i_t_value i_t_token i_t_got i_t_orders i_t_outputMany i_t_w x1 q19 hq19) tm_1556 tm_1558 sl_72 tm_15 tm_1559 na_Md_pendants ⟨Nat.le_of_ble_eq_true rfl, Nat.le_of_ble_eq_true rfl⟩ rfl [0, 1] rfl rfl rfl (ws' := wd_Md_firstPendant cI a_t a_t_w a_t_wKept a_t_saved a_t_past a_t_input a_t_n a_t_order a_t_numbers a_t_output i_t_pastMany i_t_isSaved q7.2 i_t_inputMany i_t_lastError i_t_lastOffset i_t_error i_t_offset i_t_nextByte i_t_begin i_t_value i_t_token i_t_got i_t_orders i_t_outputMany i_t_w) rfl 0 11 rfl rfl rfl (st := []) rfl (Nat.le_of_ble_eq_true rfl) rd_Md_firstPendant_19 ?_ ⟨Nat.le_of_ble_eq_true rfl, Nat.le_of_ble_eq_true rfl⟩
    refine jk_if_le (tgt := 33) C rd_Md_firstPendant_22 (by decide) hf (fun _ hf => ?_) (fun _ hf => ?_)
    · refine jk_iconst C rd_Md_firstPendant_33 ?_
      cases hf
      exact jk_iret C rfl rd_Md_firstPendant_34 rfl
    · refine jk_aload_n C rd_Md_firstPendant_25 (k := 0) rfl ?_
      refine jk_iload_n C rd_Md_firstPendant_26 (k := 1) rfl ?_
      obtain ⟨q27, hq27, hf⟩ := jk_bind_h hf
      refine jk_callVi C hZ.1 hz (ct_Md_pendantsFrom l D Z sq hZ cI cR a_t a_t_w a_t_wKept a_t_saved a_t_past a_t_input a_t_n a_t_order a_t_numbers a_t_output i_t_pastMany i_t_isSaved q7.2 i_t_inputMany i_t_lastError i_t_lastOffset i_t_error i_t_offset i_t_nextByte i_t_begin i_t_value i_t_token i_t_got i_t_orders i_t_outputMany i_t_w x1 q27 hq27) tm_1575 tm_1577 sl_76 tm_15 tm_1578 na_Md_pendantsFrom ⟨Nat.le_of_ble_eq_true rfl, Nat.le_of_ble_eq_true rfl⟩ rfl [0, 1] rfl rfl rfl (ws' := wd_Md_firstPendant cI a_t a_t_w a_t_wKept a_t_saved a_t_past a_t_input a_t_n a_t_order a_t_numbers a_t_output i_t_pastMany i_t_isSaved q7.2 i_t_inputMany i_t_lastError i_t_lastOffset i_t_error i_t_offset i_t_nextByte i_t_begin i_t_value i_t_token i_t_got i_t_orders i_t_outputMany i_t_w) rfl 0 11 rfl rfl rfl (st := []) rfl (Nat.le_of_ble_eq_true rfl) rd_Md_firstPendant_27 ?_ ⟨Nat.le_of_ble_eq_true rfl, Nat.le_of_ble_eq_true rfl⟩
      refine jk_goto (tgt := 34) C rd_Md_firstPendant_30 (by decide) ?_
      cases hf
      exact jk_iret C rfl rd_Md_firstPendant_34 rfl
  · refine jk_iconst C rd_Md_firstPendant_13 ?_
    refine jk_goto (tgt := 34) C rd_Md_firstPendant_14 (by decide) ?_
    cases hf
    exact jk_iret C rfl rd_Md_firstPendant_34 rfl
def wd_Md_stateOf (cI : ClassId) (a_t a_t_w a_t_wKept a_t_saved a_t_past a_t_input a_t_n a_t_order a_t_numbers a_t_output : Nat) (i_t_pastMany : Int) (i_t_isSaved : Int) (i_t_thrown : Int) (i_t_inputMany : Int) (i_t_lastError : Int) (i_t_lastOffset : Int) (i_t_error : Int) (i_t_offset : Int) (i_t_nextByte : Int) (i_t_begin : Int) (i_t_value : Int) (i_t_token : Int) (i_t_got : Int) (i_t_orders : Int) (i_t_outputMany : Int) (i_t_w : (Int → Int)) : va_W := [(a_t, .inr (11, [.ref a_t_w, .ref a_t_wKept, .ref a_t_saved, .ref a_t_past, jk_V i_t_pastMany, jk_V i_t_isSaved, jk_V i_t_thrown, .ref a_t_input, jk_V i_t_inputMany, jk_V i_t_lastError, jk_V i_t_lastOffset, jk_V i_t_error, jk_V i_t_offset, jk_V i_t_nextByte, jk_V i_t_begin, jk_V i_t_value, jk_V i_t_token, jk_V i_t_got, .ref a_t_n, .ref a_t_order, .ref a_t_numbers, jk_V i_t_orders, .ref a_t_output, jk_V i_t_outputMany])), (a_t_w, jk_W cI 259 i_t_w)]
set_option maxHeartbeats 4000000 in
set_option maxRecDepth 20000 in
theorem ct_Md_stateOf (l : Launch) (D : va_G) (Z : (Nat → Prop) → State → Heap → Prop) (sq : Nat → Nat) (hZ : jk_ZK Z sq) (cI cR : ClassId) (a_t a_t_w a_t_wKept a_t_saved a_t_past a_t_input a_t_n a_t_order a_t_numbers a_t_output : Nat) (i_t_pastMany : Int) (i_t_isSaved : Int) (i_t_thrown : Int) (i_t_inputMany : Int) (i_t_lastError : Int) (i_t_lastOffset : Int) (i_t_error : Int) (i_t_offset : Int) (i_t_nextByte : Int) (i_t_begin : Int) (i_t_value : Int) (i_t_token : Int) (i_t_got : Int) (i_t_orders : Int) (i_t_outputMany : Int) (i_t_w : (Int → Int)) (x1 : Int) (q : Int × Int) (hf : fn_Md_stateOf i_t_w i_t_thrown x1 = some q) : jk_MI l D jk_cl (jk_ty cI cR) Z mn_Md_stateOf (.code mn_Md_stateOf mb_Md_stateOf 2 (some .int) :: jk_WA) (jk_rm 7 152) [.ref a_t, jk_V x1] (wd_Md_stateOf cI a_t a_t_w a_t_wKept a_t_saved a_t_past a_t_input a_t_n a_t_order a_t_numbers a_t_output i_t_pastMany i_t_isSaved i_t_thrown i_t_inputMany i_t_lastError i_t_lastOffset i_t_error i_t_offset i_t_nextByte i_t_begin i_t_value i_t_token i_t_got i_t_orders i_t_outputMany i_t_w) (wd_Md_stateOf cI a_t a_t_w a_t_wKept a_t_saved a_t_past a_t_input a_t_n a_t_order a_t_numbers a_t_output i_t_pastMany i_t_isSaved q.2 i_t_inputMany i_t_lastError i_t_lastOffset i_t_error i_t_offset i_t_nextByte i_t_begin i_t_value i_t_token i_t_got i_t_orders i_t_outputMany i_t_w) q.1 := by
  intro sz
  refine jk_body (by decide +kernel) (fun p e s m args below meth c hsz hz hin C => ?_) (Nat.le_of_ble_eq_true rfl)
  subst hsz
  unfold fn_Md_stateOf at hf
  refine jk_aload_n C rd_Md_stateOf_0 (k := 0) rfl ?_
  refine jk_iconst C rd_Md_stateOf_1 ?_
  refine jk_putf C in_Md ty_Md nm_Md (ci := 11) rfl 6 (by decide) tm_1269 rfl rfl rfl 0 rfl (Nat.le_of_ble_eq_true rfl) rd_Md_stateOf_2 (ws' := wd_Md_stateOf cI a_t a_t_w a_t_wKept a_t_saved a_t_past a_t_input a_t_n a_t_order a_t_numbers a_t_output i_t_pastMany i_t_isSaved 0 i_t_inputMany i_t_lastError i_t_lastOffset i_t_error i_t_offset i_t_nextByte i_t_begin i_t_value i_t_token i_t_got i_t_orders i_t_outputMany i_t_w) rfl ?_
  refine jk_aload_n C rd_Md_stateOf_5 (k := 0) rfl ?_
  refine jk_iload_n C rd_Md_stateOf_6 (k := 1) rfl ?_
  obtain ⟨q7, hq7, hf⟩ := jk_bind_h hf
  refine jk_callVi C hZ.1 hz (ct_Md_noCluster l D Z sq hZ cI cR a_t a_t_w a_t_wKept a_t_saved a_t_past a_t_input a_t_n a_t_order a_t_numbers a_t_output i_t_pastMany i_t_isSaved 0 i_t_inputMany i_t_lastError i_t_lastOffset i_t_error i_t_offset i_t_nextByte i_t_begin i_t_value i_t_token i_t_got i_t_orders i_t_outputMany i_t_w x1 q7 hq7) tm_1699 tm_1701 sl_92 tm_15 tm_1702 na_Md_noCluster ⟨Nat.le_of_ble_eq_true rfl, Nat.le_of_ble_eq_true rfl⟩ rfl [0, 1] rfl rfl rfl (ws' := wd_Md_stateOf cI a_t a_t_w a_t_wKept a_t_saved a_t_past a_t_input a_t_n a_t_order a_t_numbers a_t_output i_t_pastMany i_t_isSaved q7.2 i_t_inputMany i_t_lastError i_t_lastOffset i_t_error i_t_offset i_t_nextByte i_t_begin i_t_value i_t_token i_t_got i_t_orders i_t_outputMany i_t_w) rfl 0 11 rfl rfl rfl (st := []) rfl (Nat.le_of_ble_eq_true rfl) rd_Md_stateOf_7 ?_ ⟨Nat.le_of_ble_eq_true rfl, Nat.le_of_ble_eq_true rfl⟩
  refine jk_if_eq (tgt := 17) C rd_Md_stateOf_10 (by decide) hf (fun _ hf => ?_) (fun _ hf => ?_)
  · refine jk_aload_n C rd_Md_stateOf_17 (k := 0) rfl ?_
    refine jk_iload_n C rd_Md_stateOf_18 (k := 1) rfl ?_
    obtain ⟨q19, hq19, hf⟩ := jk_bind_h hf
    refine jk_callVi C hZ.1 hz (ct_Md_state l D Z sq hZ cI cR a_t a_t_w a_t_wKept a_t_saved a_t_past a_t_input a_t_n a_t_order a_t_numbers a_t_output i_t_pastMany i_t_isSaved q7.2 i_t_inputMany i_t_lastError i_t_lastOffset i_t_error i_t_offset i_t_nextByte i_t_begin i_t_value i_t_token i_t_got i_t_orders i_t_outputMany i_t_w x1 q19 hq19) tm_1719 tm_1721 sl_93 tm_15 tm_1722 na_Md_state ⟨Nat.le_of_ble_eq_true rfl, Nat.le_of_ble_eq_true rfl⟩ rfl [0, 1] rfl rfl rfl (ws' := wd_Md_stateOf cI a_t a_t_w a_t_wKept a_t_saved a_t_past a_t_input a_t_n a_t_order a_t_numbers a_t_output i_t_pastMany i_t_isSaved q7.2 i_t_inputMany i_t_lastError i_t_lastOffset i_t_error i_t_offset i_t_nextByte i_t_begin i_t_value i_t_token i_t_got i_t_orders i_t_outputMany i_t_w) rfl 0 11 rfl rfl rfl (st := []) rfl (Nat.le_of_ble_eq_true rfl) rd_Md_stateOf_19 ?_ ⟨Nat.le_of_ble_eq_true rfl, Nat.le_of_ble_eq_true rfl⟩
    cases hf
    exact jk_iret C rfl rd_Md_stateOf_22 rfl
  · refine jk_iconst C rd_Md_stateOf_13 ?_
    refine jk_goto (tgt := 22) C rd_Md_stateOf_14 (by decide) ?_
    cases hf
    exact jk_iret C rfl rd_Md_stateOf_22 rfl
def wd_Md_guessObstacle (cI : ClassId) (a_t a_t_w a_t_wKept a_t_saved a_t_past a_t_input a_t_n a_t_order a_t_numbers a_t_output : Nat) (i_t_pastMany : Int) (i_t_isSaved : Int) (i_t_thrown : Int) (i_t_inputMany : Int) (i_t_lastError : Int) (i_t_lastOffset : Int) (i_t_error : Int) (i_t_offset : Int) (i_t_nextByte : Int) (i_t_begin : Int) (i_t_value : Int) (i_t_token : Int) (i_t_got : Int) (i_t_orders : Int) (i_t_outputMany : Int) (i_t_w : (Int → Int)) : va_W := [(a_t, .inr (11, [.ref a_t_w, .ref a_t_wKept, .ref a_t_saved, .ref a_t_past, jk_V i_t_pastMany, jk_V i_t_isSaved, jk_V i_t_thrown, .ref a_t_input, jk_V i_t_inputMany, jk_V i_t_lastError, jk_V i_t_lastOffset, jk_V i_t_error, jk_V i_t_offset, jk_V i_t_nextByte, jk_V i_t_begin, jk_V i_t_value, jk_V i_t_token, jk_V i_t_got, .ref a_t_n, .ref a_t_order, .ref a_t_numbers, jk_V i_t_orders, .ref a_t_output, jk_V i_t_outputMany])), (a_t_w, jk_W cI 259 i_t_w)]
set_option maxHeartbeats 4000000 in
set_option maxRecDepth 20000 in
theorem ct_Md_guessObstacle (l : Launch) (D : va_G) (Z : (Nat → Prop) → State → Heap → Prop) (sq : Nat → Nat) (hZ : jk_ZK Z sq) (cI cR : ClassId) (a_t a_t_w a_t_wKept a_t_saved a_t_past a_t_input a_t_n a_t_order a_t_numbers a_t_output : Nat) (i_t_pastMany : Int) (i_t_isSaved : Int) (i_t_thrown : Int) (i_t_inputMany : Int) (i_t_lastError : Int) (i_t_lastOffset : Int) (i_t_error : Int) (i_t_offset : Int) (i_t_nextByte : Int) (i_t_begin : Int) (i_t_value : Int) (i_t_token : Int) (i_t_got : Int) (i_t_orders : Int) (i_t_outputMany : Int) (i_t_w : (Int → Int)) (x1 : Int) (q : Int × Int) (hf : fn_Md_guessObstacle i_t_w i_t_thrown x1 = some q) : jk_MI l D jk_cl (jk_ty cI cR) Z mn_Md_guessObstacle (.code mn_Md_guessObstacle mb_Md_guessObstacle 2 (some .int) :: jk_WA) (jk_rm 9 199) [.ref a_t, jk_V x1] (wd_Md_guessObstacle cI a_t a_t_w a_t_wKept a_t_saved a_t_past a_t_input a_t_n a_t_order a_t_numbers a_t_output i_t_pastMany i_t_isSaved i_t_thrown i_t_inputMany i_t_lastError i_t_lastOffset i_t_error i_t_offset i_t_nextByte i_t_begin i_t_value i_t_token i_t_got i_t_orders i_t_outputMany i_t_w) (wd_Md_guessObstacle cI a_t a_t_w a_t_wKept a_t_saved a_t_past a_t_input a_t_n a_t_order a_t_numbers a_t_output i_t_pastMany i_t_isSaved q.2 i_t_inputMany i_t_lastError i_t_lastOffset i_t_error i_t_offset i_t_nextByte i_t_begin i_t_value i_t_token i_t_got i_t_orders i_t_outputMany i_t_w) q.1 := by
  intro sz
  refine jk_body (by decide +kernel) (fun p e s m args below meth c hsz hz hin C => ?_) (Nat.le_of_ble_eq_true rfl)
  subst hsz
  unfold fn_Md_guessObstacle at hf
  refine jk_aload_n C rd_Md_guessObstacle_0 (k := 0) rfl ?_
  refine jk_iconst C rd_Md_guessObstacle_1 ?_
  refine jk_putf C in_Md ty_Md nm_Md (ci := 11) rfl 6 (by decide) tm_1269 rfl rfl rfl 0 rfl (Nat.le_of_ble_eq_true rfl) rd_Md_guessObstacle_2 (ws' := wd_Md_guessObstacle cI a_t a_t_w a_t_wKept a_t_saved a_t_past a_t_input a_t_n a_t_order a_t_numbers a_t_output i_t_pastMany i_t_isSaved 0 i_t_inputMany i_t_lastError i_t_lastOffset i_t_error i_t_offset i_t_nextByte i_t_begin i_t_value i_t_token i_t_got i_t_orders i_t_outputMany i_t_w) rfl ?_
  refine jk_aload_n C rd_Md_guessObstacle_5 (k := 0) rfl ?_
  refine jk_iload_n C rd_Md_guessObstacle_6 (k := 1) rfl ?_
  obtain ⟨q7, hq7, hf⟩ := jk_bind_h hf
  refine jk_callVi C hZ.1 hz (ct_Md_noCluster l D Z sq hZ cI cR a_t a_t_w a_t_wKept a_t_saved a_t_past a_t_input a_t_n a_t_order a_t_numbers a_t_output i_t_pastMany i_t_isSaved 0 i_t_inputMany i_t_lastError i_t_lastOffset i_t_error i_t_offset i_t_nextByte i_t_begin i_t_value i_t_token i_t_got i_t_orders i_t_outputMany i_t_w x1 q7 hq7) tm_1699 tm_1701 sl_92 tm_15 tm_1702 na_Md_noCluster ⟨Nat.le_of_ble_eq_true rfl, Nat.le_of_ble_eq_true rfl⟩ rfl [0, 1] rfl rfl rfl (ws' := wd_Md_guessObstacle cI a_t a_t_w a_t_wKept a_t_saved a_t_past a_t_input a_t_n a_t_order a_t_numbers a_t_output i_t_pastMany i_t_isSaved q7.2 i_t_inputMany i_t_lastError i_t_lastOffset i_t_error i_t_offset i_t_nextByte i_t_begin i_t_value i_t_token i_t_got i_t_orders i_t_outputMany i_t_w) rfl 0 11 rfl rfl rfl (st := []) rfl (Nat.le_of_ble_eq_true rfl) rd_Md_guessObstacle_7 ?_ ⟨Nat.le_of_ble_eq_true rfl, Nat.le_of_ble_eq_true rfl⟩
  refine jk_if_eq (tgt := 17) C rd_Md_guessObstacle_10 (by decide) hf (fun _ hf => ?_) (fun _ hf => ?_)
  · refine jk_aload_n C rd_Md_guessObstacle_17 (k := 0) rfl ?_
    refine jk_iload_n C rd_Md_guessObstacle_18 (k := 1) rfl ?_
    obtain ⟨q19, hq19, hf⟩ := jk_bind_h hf
    refine jk_callVi C hZ.1 hz (ct_Md_guessReason l D Z sq hZ cI cR a_t a_t_w a_t_wKept a_t_saved a_t_past a_t_input a_t_n a_t_order a_t_numbers a_t_output i_t_pastMany i_t_isSaved q7.2 i_t_inputMany i_t_lastError i_t_lastOffset i_t_error i_t_offset i_t_nextByte i_t_begin i_t_value i_t_token i_t_got i_t_orders i_t_outputMany i_t_w x1 q19 hq19) tm_1591 tm_1593 sl_80 tm_15 tm_1594 na_Md_guessReason ⟨Nat.le_of_ble_eq_true rfl, Nat.le_of_ble_eq_true rfl⟩ rfl [0, 1] rfl rfl rfl (ws' := wd_Md_guessObstacle cI a_t a_t_w a_t_wKept a_t_saved a_t_past a_t_input a_t_n a_t_order a_t_numbers a_t_output i_t_pastMany i_t_isSaved q7.2 i_t_inputMany i_t_lastError i_t_lastOffset i_t_error i_t_offset i_t_nextByte i_t_begin i_t_value i_t_token i_t_got i_t_orders i_t_outputMany i_t_w) rfl 0 11 rfl rfl rfl (st := []) rfl (Nat.le_of_ble_eq_true rfl) rd_Md_guessObstacle_19 ?_ ⟨Nat.le_of_ble_eq_true rfl, Nat.le_of_ble_eq_true rfl⟩
    cases hf
    exact jk_iret C rfl rd_Md_guessObstacle_22 rfl
  · refine jk_iconst C rd_Md_guessObstacle_13 ?_
    refine jk_goto (tgt := 22) C rd_Md_guessObstacle_14 (by decide) ?_
    cases hf
    exact jk_iret C rfl rd_Md_guessObstacle_22 rfl
def wd_Md_nibbledCord (cI : ClassId) (a_t a_t_w a_t_wKept a_t_saved a_t_past a_t_input a_t_n a_t_order a_t_numbers a_t_output : Nat) (i_t_pastMany : Int) (i_t_isSaved : Int) (i_t_thrown : Int) (i_t_inputMany : Int) (i_t_lastError : Int) (i_t_lastOffset : Int) (i_t_error : Int) (i_t_offset : Int) (i_t_nextByte : Int) (i_t_begin : Int) (i_t_value : Int) (i_t_token : Int) (i_t_got : Int) (i_t_orders : Int) (i_t_outputMany : Int) (i_t_w : (Int → Int)) : va_W := [(a_t, .inr (11, [.ref a_t_w, .ref a_t_wKept, .ref a_t_saved, .ref a_t_past, jk_V i_t_pastMany, jk_V i_t_isSaved, jk_V i_t_thrown, .ref a_t_input, jk_V i_t_inputMany, jk_V i_t_lastError, jk_V i_t_lastOffset, jk_V i_t_error, jk_V i_t_offset, jk_V i_t_nextByte, jk_V i_t_begin, jk_V i_t_value, jk_V i_t_token, jk_V i_t_got, .ref a_t_n, .ref a_t_order, .ref a_t_numbers, jk_V i_t_orders, .ref a_t_output, jk_V i_t_outputMany])), (a_t_w, jk_W cI 259 i_t_w)]
set_option maxHeartbeats 4000000 in
set_option maxRecDepth 20000 in
theorem ct_Md_nibbledCord (l : Launch) (D : va_G) (Z : (Nat → Prop) → State → Heap → Prop) (sq : Nat → Nat) (hZ : jk_ZK Z sq) (cI cR : ClassId) (a_t a_t_w a_t_wKept a_t_saved a_t_past a_t_input a_t_n a_t_order a_t_numbers a_t_output : Nat) (i_t_pastMany : Int) (i_t_isSaved : Int) (i_t_thrown : Int) (i_t_inputMany : Int) (i_t_lastError : Int) (i_t_lastOffset : Int) (i_t_error : Int) (i_t_offset : Int) (i_t_nextByte : Int) (i_t_begin : Int) (i_t_value : Int) (i_t_token : Int) (i_t_got : Int) (i_t_orders : Int) (i_t_outputMany : Int) (i_t_w : (Int → Int)) (x1 : Int) (q : Int × Int) (hf : fn_Md_nibbledCord i_t_w i_t_thrown x1 = some q) : jk_MI l D jk_cl (jk_ty cI cR) Z mn_Md_nibbledCord (.code mn_Md_nibbledCord mb_Md_nibbledCord 2 (some .int) :: jk_WA) (jk_rm 5 110) [.ref a_t, jk_V x1] (wd_Md_nibbledCord cI a_t a_t_w a_t_wKept a_t_saved a_t_past a_t_input a_t_n a_t_order a_t_numbers a_t_output i_t_pastMany i_t_isSaved i_t_thrown i_t_inputMany i_t_lastError i_t_lastOffset i_t_error i_t_offset i_t_nextByte i_t_begin i_t_value i_t_token i_t_got i_t_orders i_t_outputMany i_t_w) (wd_Md_nibbledCord cI a_t a_t_w a_t_wKept a_t_saved a_t_past a_t_input a_t_n a_t_order a_t_numbers a_t_output i_t_pastMany i_t_isSaved q.2 i_t_inputMany i_t_lastError i_t_lastOffset i_t_error i_t_offset i_t_nextByte i_t_begin i_t_value i_t_token i_t_got i_t_orders i_t_outputMany i_t_w) q.1 := by
  intro sz
  refine jk_body (by decide +kernel) (fun p e s m args below meth c hsz hz hin C => ?_) (Nat.le_of_ble_eq_true rfl)
  subst hsz
  unfold fn_Md_nibbledCord at hf
  refine jk_aload_n C rd_Md_nibbledCord_0 (k := 0) rfl ?_
  refine jk_iconst C rd_Md_nibbledCord_1 ?_
  refine jk_putf C in_Md ty_Md nm_Md (ci := 11) rfl 6 (by decide) tm_1269 rfl rfl rfl 0 rfl (Nat.le_of_ble_eq_true rfl) rd_Md_nibbledCord_2 (ws' := wd_Md_nibbledCord cI a_t a_t_w a_t_wKept a_t_saved a_t_past a_t_input a_t_n a_t_order a_t_numbers a_t_output i_t_pastMany i_t_isSaved 0 i_t_inputMany i_t_lastError i_t_lastOffset i_t_error i_t_offset i_t_nextByte i_t_begin i_t_value i_t_token i_t_got i_t_orders i_t_outputMany i_t_w) rfl ?_
  refine jk_aload_n C rd_Md_nibbledCord_5 (k := 0) rfl ?_
  refine jk_iload_n C rd_Md_nibbledCord_6 (k := 1) rfl ?_
  obtain ⟨q7, hq7, hf⟩ := jk_bind_h hf
  refine jk_callVi C hZ.1 hz (ct_Md_noCluster l D Z sq hZ cI cR a_t a_t_w a_t_wKept a_t_saved a_t_past a_t_input a_t_n a_t_order a_t_numbers a_t_output i_t_pastMany i_t_isSaved 0 i_t_inputMany i_t_lastError i_t_lastOffset i_t_error i_t_offset i_t_nextByte i_t_begin i_t_value i_t_token i_t_got i_t_orders i_t_outputMany i_t_w x1 q7 hq7) tm_1699 tm_1701 sl_92 tm_15 tm_1702 na_Md_noCluster ⟨Nat.le_of_ble_eq_true rfl, Nat.le_of_ble_eq_true rfl⟩ rfl [0, 1] rfl rfl rfl (ws' := wd_Md_nibbledCord cI a_t a_t_w a_t_wKept a_t_saved a_t_past a_t_input a_t_n a_t_order a_t_numbers a_t_output i_t_pastMany i_t_isSaved q7.2 i_t_inputMany i_t_lastError i_t_lastOffset i_t_error i_t_offset i_t_nextByte i_t_begin i_t_value i_t_token i_t_got i_t_orders i_t_outputMany i_t_w) rfl 0 11 rfl rfl rfl (st := []) rfl (Nat.le_of_ble_eq_true rfl) rd_Md_nibbledCord_7 ?_ ⟨Nat.le_of_ble_eq_true rfl, Nat.le_of_ble_eq_true rfl⟩
  refine jk_if_eq (tgt := 17) C rd_Md_nibbledCord_10 (by decide) hf (fun _ hf => ?_) (fun _ hf => ?_)
  · refine jk_aload_n C rd_Md_nibbledCord_17 (k := 0) rfl ?_
    refine jk_iload_n C rd_Md_nibbledCord_18 (k := 1) rfl ?_
    obtain ⟨q19, hq19, hf⟩ := jk_bind_h hf
    refine jk_callVi C hZ.1 hz (ct_Md_onlyNibbled l D Z sq hZ cI cR a_t a_t_w a_t_wKept a_t_saved a_t_past a_t_input a_t_n a_t_order a_t_numbers a_t_output i_t_pastMany i_t_isSaved q7.2 i_t_inputMany i_t_lastError i_t_lastOffset i_t_error i_t_offset i_t_nextByte i_t_begin i_t_value i_t_token i_t_got i_t_orders i_t_outputMany i_t_w x1 q19 hq19) tm_1603 tm_1605 sl_83 tm_15 tm_1606 na_Md_onlyNibbled ⟨Nat.le_of_ble_eq_true rfl, Nat.le_of_ble_eq_true rfl⟩ rfl [0, 1] rfl rfl rfl (ws' := wd_Md_nibbledCord cI a_t a_t_w a_t_wKept a_t_saved a_t_past a_t_input a_t_n a_t_order a_t_numbers a_t_output i_t_pastMany i_t_isSaved q7.2 i_t_inputMany i_t_lastError i_t_lastOffset i_t_error i_t_offset i_t_nextByte i_t_begin i_t_value i_t_token i_t_got i_t_orders i_t_outputMany i_t_w) rfl 0 11 rfl rfl rfl (st := []) rfl (Nat.le_of_ble_eq_true rfl) rd_Md_nibbledCord_19 ?_ ⟨Nat.le_of_ble_eq_true rfl, Nat.le_of_ble_eq_true rfl⟩
    cases hf
    exact jk_iret C rfl rd_Md_nibbledCord_22 rfl
  · refine jk_iconst C rd_Md_nibbledCord_13 ?_
    refine jk_goto (tgt := 22) C rd_Md_nibbledCord_14 (by decide) ?_
    cases hf
    exact jk_iret C rfl rd_Md_nibbledCord_22 rfl
def wd_Md_knotCount (cI : ClassId) (a_t a_t_w a_t_wKept a_t_saved a_t_past a_t_input a_t_n a_t_order a_t_numbers a_t_output : Nat) (i_t_pastMany : Int) (i_t_isSaved : Int) (i_t_thrown : Int) (i_t_inputMany : Int) (i_t_lastError : Int) (i_t_lastOffset : Int) (i_t_error : Int) (i_t_offset : Int) (i_t_nextByte : Int) (i_t_begin : Int) (i_t_value : Int) (i_t_token : Int) (i_t_got : Int) (i_t_orders : Int) (i_t_outputMany : Int) (i_t_w : (Int → Int)) : va_W := [(a_t, .inr (11, [.ref a_t_w, .ref a_t_wKept, .ref a_t_saved, .ref a_t_past, jk_V i_t_pastMany, jk_V i_t_isSaved, jk_V i_t_thrown, .ref a_t_input, jk_V i_t_inputMany, jk_V i_t_lastError, jk_V i_t_lastOffset, jk_V i_t_error, jk_V i_t_offset, jk_V i_t_nextByte, jk_V i_t_begin, jk_V i_t_value, jk_V i_t_token, jk_V i_t_got, .ref a_t_n, .ref a_t_order, .ref a_t_numbers, jk_V i_t_orders, .ref a_t_output, jk_V i_t_outputMany])), (a_t_w, jk_W cI 259 i_t_w)]
set_option maxHeartbeats 4000000 in
set_option maxRecDepth 20000 in
theorem ct_Md_knotCount (l : Launch) (D : va_G) (Z : (Nat → Prop) → State → Heap → Prop) (sq : Nat → Nat) (hZ : jk_ZK Z sq) (cI cR : ClassId) (a_t a_t_w a_t_wKept a_t_saved a_t_past a_t_input a_t_n a_t_order a_t_numbers a_t_output : Nat) (i_t_pastMany : Int) (i_t_isSaved : Int) (i_t_thrown : Int) (i_t_inputMany : Int) (i_t_lastError : Int) (i_t_lastOffset : Int) (i_t_error : Int) (i_t_offset : Int) (i_t_nextByte : Int) (i_t_begin : Int) (i_t_value : Int) (i_t_token : Int) (i_t_got : Int) (i_t_orders : Int) (i_t_outputMany : Int) (i_t_w : (Int → Int)) (q : Int × Int) (hf : fn_Md_knotCount i_t_w i_t_thrown = some q) : jk_MI l D jk_cl (jk_ty cI cR) Z mn_Md_knotCount (.code mn_Md_knotCount mb_Md_knotCount 3 (some .int) :: jk_WA) (jk_rm 3 67) [.ref a_t] (wd_Md_knotCount cI a_t a_t_w a_t_wKept a_t_saved a_t_past a_t_input a_t_n a_t_order a_t_numbers a_t_output i_t_pastMany i_t_isSaved i_t_thrown i_t_inputMany i_t_lastError i_t_lastOffset i_t_error i_t_offset i_t_nextByte i_t_begin i_t_value i_t_token i_t_got i_t_orders i_t_outputMany i_t_w) (wd_Md_knotCount cI a_t a_t_w a_t_wKept a_t_saved a_t_past a_t_input a_t_n a_t_order a_t_numbers a_t_output i_t_pastMany i_t_isSaved q.2 i_t_inputMany i_t_lastError i_t_lastOffset i_t_error i_t_offset i_t_nextByte i_t_begin i_t_value i_t_token i_t_got i_t_orders i_t_outputMany i_t_w) q.1 := by
  intro sz
  refine jk_body (by decide +kernel) (fun p e s m args below meth c hsz hz hin C => ?_) (Nat.le_of_ble_eq_true rfl)
  subst hsz
  unfold fn_Md_knotCount at hf
  have bk_9 : ∀ (n : Nat) (t_thrown : Int) (v1 : Int) (v2 : Int), fn_Md_knotCount_b9 n i_t_w t_thrown v1 v2 = some q → jk_J p l e (jk_rm 3 67) s m args below meth c 0 0 (jk_QI below D jk_cl (jk_ty cI cR) (wd_Md_knotCount cI a_t a_t_w a_t_wKept a_t_saved a_t_past a_t_input a_t_n a_t_order a_t_numbers a_t_output i_t_pastMany i_t_isSaved i_t_thrown i_t_inputMany i_t_lastError i_t_lastOffset i_t_error i_t_offset i_t_nextByte i_t_begin i_t_value i_t_token i_t_got i_t_orders i_t_outputMany i_t_w) (wd_Md_knotCount cI a_t a_t_w a_t_wKept a_t_saved a_t_past a_t_input a_t_n a_t_order a_t_numbers a_t_output i_t_pastMany i_t_isSaved q.2 i_t_inputMany i_t_lastError i_t_lastOffset i_t_error i_t_offset i_t_nextByte i_t_begin i_t_value i_t_token i_t_got i_t_orders i_t_outputMany i_t_w) args s q.1) D jk_cl (va_A (wd_Md_knotCount cI a_t a_t_w a_t_wKept a_t_saved a_t_past a_t_input a_t_n a_t_order a_t_numbers a_t_output i_t_pastMany i_t_isSaved i_t_thrown i_t_inputMany i_t_lastError i_t_lastOffset i_t_error i_t_offset i_t_nextByte i_t_begin i_t_value i_t_token i_t_got i_t_orders i_t_outputMany i_t_w) s.heap.size) 3 (wd_Md_knotCount cI a_t a_t_w a_t_wKept a_t_saved a_t_past a_t_input a_t_n a_t_order a_t_numbers a_t_output i_t_pastMany i_t_isSaved t_thrown i_t_inputMany i_t_lastError i_t_lastOffset i_t_error i_t_offset i_t_nextByte i_t_begin i_t_value i_t_token i_t_got i_t_orders i_t_outputMany i_t_w) [(0, .ref a_t), (1, jk_V v1), (2, jk_V v2)] 9 [] := by
    intro n
    induction n with
    | zero => intro t_thrown v1 v2 hf; exact nomatch (show none = some q from hf)
    | succ n ih =>
      intro t_thrown v1 v2 hf
      rw [fn_Md_knotCount_b9] at hf
      refine jk_iload_n C rd_Md_knotCount_9 (k := 2) rfl ?_
      refine jk_aload_n C rd_Md_knotCount_10 (k := 0) rfl ?_
      refine jk_get C in_Md (ci := 11) rfl 0 (by decide) tm_1263 0 rfl rfl rd_Md_knotCount_11 ?_
      refine jk_iconst C rd_Md_knotCount_14 ?_
      refine jk_iald C 1 0 rfl rfl (Nat.le_of_ble_eq_true rfl) rd_Md_knotCount_15 hf (fun hf => ?_)
      refine jk_icmp_ge (tgt := 33) C rd_Md_knotCount_16 (by decide) hf (fun _ hf => ?_) (fun _ hf => ?_)
      · refine jk_iload_n C rd_Md_knotCount_33 (k := 1) rfl ?_
        cases hf
        exact jk_iret C rfl rd_Md_knotCount_34 rfl
      · refine jk_iload_n C rd_Md_knotCount_19 (k := 1) rfl ?_
        refine jk_aload_n C rd_Md_knotCount_20 (k := 0) rfl ?_
        refine jk_iload_n C rd_Md_knotCount_21 (k := 2) rfl ?_
        obtain ⟨q22, hq22, hf⟩ := jk_bind_h hf
        refine jk_callVi C hZ.1 hz (ct_Md_knotsOf l D Z sq hZ cI cR a_t a_t_w a_t_wKept a_t_saved a_t_past a_t_input a_t_n a_t_order a_t_numbers a_t_output i_t_pastMany i_t_isSaved t_thrown i_t_inputMany i_t_lastError i_t_lastOffset i_t_error i_t_offset i_t_nextByte i_t_begin i_t_value i_t_token i_t_got i_t_orders i_t_outputMany i_t_w v2 q22 hq22) tm_1248 tm_1250 sl_24 tm_15 tm_1251 na_Md_knotsOf ⟨Nat.le_of_ble_eq_true rfl, Nat.le_of_ble_eq_true rfl⟩ rfl [0, 1] rfl rfl rfl (ws' := wd_Md_knotCount cI a_t a_t_w a_t_wKept a_t_saved a_t_past a_t_input a_t_n a_t_order a_t_numbers a_t_output i_t_pastMany i_t_isSaved t_thrown i_t_inputMany i_t_lastError i_t_lastOffset i_t_error i_t_offset i_t_nextByte i_t_begin i_t_value i_t_token i_t_got i_t_orders i_t_outputMany i_t_w) rfl 0 11 rfl rfl rfl (st := [jk_V v1]) rfl (Nat.le_of_ble_eq_true rfl) rd_Md_knotCount_22 ?_ ⟨Nat.le_of_ble_eq_true rfl, Nat.le_of_ble_eq_true rfl⟩
        refine jk_iadd C rd_Md_knotCount_25 ?_
        refine jk_istore_n C rd_Md_knotCount_26 (by decide) (lv' := [(1, jk_V (v1 + q22)), (0, .ref a_t), (2, jk_V v2)]) rfl ?_
        refine jk_iinc C rd_Md_knotCount_27 (k := 2) rfl (by decide) (lv' := [(2, jk_V (v2 + 1)), (1, jk_V (v1 + q22)), (0, .ref a_t)]) rfl ?_
        refine jk_goto (tgt := 9) C rd_Md_knotCount_30 (by decide) ?_
        refine jk_lv (lv' := [(0, .ref a_t), (1, jk_V (v1 + q22)), (2, jk_V (v2 + 1))]) [2, 1, 0] rfl ?_
        exact ih t_thrown (v1 + q22) (v2 + 1) hf
  refine jk_aload_n C rd_Md_knotCount_0 (k := 0) rfl ?_
  refine jk_iconst C rd_Md_knotCount_1 ?_
  refine jk_putf C in_Md ty_Md nm_Md (ci := 11) rfl 6 (by decide) tm_1269 rfl rfl rfl 0 rfl (Nat.le_of_ble_eq_true rfl) rd_Md_knotCount_2 (ws' := wd_Md_knotCount cI a_t a_t_w a_t_wKept a_t_saved a_t_past a_t_input a_t_n a_t_order a_t_numbers a_t_output i_t_pastMany i_t_isSaved 0 i_t_inputMany i_t_lastError i_t_lastOffset i_t_error i_t_offset i_t_nextByte i_t_begin i_t_value i_t_token i_t_got i_t_orders i_t_outputMany i_t_w) rfl ?_
  refine jk_iconst C rd_Md_knotCount_5 ?_
  refine jk_istore_n C rd_Md_knotCount_6 (by decide) (lv' := [(1, jk_V 0), (0, .ref a_t)]) rfl ?_
  refine jk_iconst C rd_Md_knotCount_7 ?_
  refine jk_istore_n C rd_Md_knotCount_8 (by decide) (lv' := [(2, jk_V 0), (1, jk_V 0), (0, .ref a_t)]) rfl ?_
  refine jk_lv (lv' := [(0, .ref a_t), (1, jk_V 0), (2, jk_V 0)]) [2, 1, 0] rfl ?_
  exact bk_9 jk_F 0 0 0 hf
def wd_Md_nibbled (cI : ClassId) (a_t a_t_w a_t_wKept a_t_saved a_t_past a_t_input a_t_n a_t_order a_t_numbers a_t_output : Nat) (i_t_pastMany : Int) (i_t_isSaved : Int) (i_t_thrown : Int) (i_t_inputMany : Int) (i_t_lastError : Int) (i_t_lastOffset : Int) (i_t_error : Int) (i_t_offset : Int) (i_t_nextByte : Int) (i_t_begin : Int) (i_t_value : Int) (i_t_token : Int) (i_t_got : Int) (i_t_orders : Int) (i_t_outputMany : Int) (i_t_w : (Int → Int)) : va_W := [(a_t, .inr (11, [.ref a_t_w, .ref a_t_wKept, .ref a_t_saved, .ref a_t_past, jk_V i_t_pastMany, jk_V i_t_isSaved, jk_V i_t_thrown, .ref a_t_input, jk_V i_t_inputMany, jk_V i_t_lastError, jk_V i_t_lastOffset, jk_V i_t_error, jk_V i_t_offset, jk_V i_t_nextByte, jk_V i_t_begin, jk_V i_t_value, jk_V i_t_token, jk_V i_t_got, .ref a_t_n, .ref a_t_order, .ref a_t_numbers, jk_V i_t_orders, .ref a_t_output, jk_V i_t_outputMany])), (a_t_w, jk_W cI 259 i_t_w)]
set_option maxHeartbeats 4000000 in
set_option maxRecDepth 20000 in
theorem ct_Md_nibbled (l : Launch) (D : va_G) (Z : (Nat → Prop) → State → Heap → Prop) (sq : Nat → Nat) (hZ : jk_ZK Z sq) (cI cR : ClassId) (a_t a_t_w a_t_wKept a_t_saved a_t_past a_t_input a_t_n a_t_order a_t_numbers a_t_output : Nat) (i_t_pastMany : Int) (i_t_isSaved : Int) (i_t_thrown : Int) (i_t_inputMany : Int) (i_t_lastError : Int) (i_t_lastOffset : Int) (i_t_error : Int) (i_t_offset : Int) (i_t_nextByte : Int) (i_t_begin : Int) (i_t_value : Int) (i_t_token : Int) (i_t_got : Int) (i_t_orders : Int) (i_t_outputMany : Int) (i_t_w : (Int → Int)) (q : Int) (hf : fn_Md_nibbled i_t_w = some q) : jk_MI l D jk_cl (jk_ty cI cR) Z mn_Md_nibbled (.code mn_Md_nibbled mb_Md_nibbled 3 (some .int) :: jk_WA) (jk_rm 2 43) [.ref a_t] (wd_Md_nibbled cI a_t a_t_w a_t_wKept a_t_saved a_t_past a_t_input a_t_n a_t_order a_t_numbers a_t_output i_t_pastMany i_t_isSaved i_t_thrown i_t_inputMany i_t_lastError i_t_lastOffset i_t_error i_t_offset i_t_nextByte i_t_begin i_t_value i_t_token i_t_got i_t_orders i_t_outputMany i_t_w) (wd_Md_nibbled cI a_t a_t_w a_t_wKept a_t_saved a_t_past a_t_input a_t_n a_t_order a_t_numbers a_t_output i_t_pastMany i_t_isSaved i_t_thrown i_t_inputMany i_t_lastError i_t_lastOffset i_t_error i_t_offset i_t_nextByte i_t_begin i_t_value i_t_token i_t_got i_t_orders i_t_outputMany i_t_w) q := by
  intro sz
  refine jk_body (by decide +kernel) (fun p e s m args below meth c hsz hz hin C => ?_) (Nat.le_of_ble_eq_true rfl)
  subst hsz
  unfold fn_Md_nibbled at hf
  have bk_4 : ∀ (n : Nat) (v1 : Int) (v2 : Int), fn_Md_nibbled_b4 n i_t_w v1 v2 = some q → jk_J p l e (jk_rm 2 43) s m args below meth c 0 0 (jk_QI below D jk_cl (jk_ty cI cR) (wd_Md_nibbled cI a_t a_t_w a_t_wKept a_t_saved a_t_past a_t_input a_t_n a_t_order a_t_numbers a_t_output i_t_pastMany i_t_isSaved i_t_thrown i_t_inputMany i_t_lastError i_t_lastOffset i_t_error i_t_offset i_t_nextByte i_t_begin i_t_value i_t_token i_t_got i_t_orders i_t_outputMany i_t_w) (wd_Md_nibbled cI a_t a_t_w a_t_wKept a_t_saved a_t_past a_t_input a_t_n a_t_order a_t_numbers a_t_output i_t_pastMany i_t_isSaved i_t_thrown i_t_inputMany i_t_lastError i_t_lastOffset i_t_error i_t_offset i_t_nextByte i_t_begin i_t_value i_t_token i_t_got i_t_orders i_t_outputMany i_t_w) args s q) D jk_cl (va_A (wd_Md_nibbled cI a_t a_t_w a_t_wKept a_t_saved a_t_past a_t_input a_t_n a_t_order a_t_numbers a_t_output i_t_pastMany i_t_isSaved i_t_thrown i_t_inputMany i_t_lastError i_t_lastOffset i_t_error i_t_offset i_t_nextByte i_t_begin i_t_value i_t_token i_t_got i_t_orders i_t_outputMany i_t_w) s.heap.size) 3 (wd_Md_nibbled cI a_t a_t_w a_t_wKept a_t_saved a_t_past a_t_input a_t_n a_t_order a_t_numbers a_t_output i_t_pastMany i_t_isSaved i_t_thrown i_t_inputMany i_t_lastError i_t_lastOffset i_t_error i_t_offset i_t_nextByte i_t_begin i_t_value i_t_token i_t_got i_t_orders i_t_outputMany i_t_w) [(0, .ref a_t), (1, jk_V v1), (2, jk_V v2)] 4 [] := by
    intro n
    induction n with
    | zero => intro v1 v2 hf; exact nomatch (show none = some q from hf)
    | succ n ih =>
      intro v1 v2 hf
      rw [fn_Md_nibbled_b4] at hf
      refine jk_iload_n C rd_Md_nibbled_4 (k := 2) rfl ?_
      refine jk_aload_n C rd_Md_nibbled_5 (k := 0) rfl ?_
      refine jk_get C in_Md (ci := 11) rfl 0 (by decide) tm_1263 0 rfl rfl rd_Md_nibbled_6 ?_
      refine jk_iconst C rd_Md_nibbled_9 ?_
      refine jk_iald C 1 0 rfl rfl (Nat.le_of_ble_eq_true rfl) rd_Md_nibbled_10 hf (fun hf => ?_)
      refine jk_icmp_ge (tgt := 31) C rd_Md_nibbled_11 (by decide) hf (fun _ hf => ?_) (fun _ hf => ?_)
      · refine jk_iload_n C rd_Md_nibbled_31 (k := 1) rfl ?_
        cases hf
        exact jk_iret C rfl rd_Md_nibbled_32 rfl
      · refine jk_iload_n C rd_Md_nibbled_14 (k := 1) rfl ?_
        refine jk_aload_n C rd_Md_nibbled_15 (k := 0) rfl ?_
        refine jk_iload_n C rd_Md_nibbled_16 (k := 2) rfl ?_
        obtain ⟨q17, hq17, hf⟩ := jk_bind_h hf
        refine jk_callVi C hZ.1 hz (ct_Md_isNibbled l D Z sq hZ cI cR a_t a_t_w a_t_wKept a_t_saved a_t_past a_t_input a_t_n a_t_order a_t_numbers a_t_output i_t_pastMany i_t_isSaved i_t_thrown i_t_inputMany i_t_lastError i_t_lastOffset i_t_error i_t_offset i_t_nextByte i_t_begin i_t_value i_t_token i_t_got i_t_orders i_t_outputMany i_t_w v2 q17 hq17) tm_1567 tm_1569 sl_74 tm_15 tm_1570 na_Md_isNibbled ⟨Nat.le_of_ble_eq_true rfl, Nat.le_of_ble_eq_true rfl⟩ rfl [0, 1] rfl rfl rfl (ws' := wd_Md_nibbled cI a_t a_t_w a_t_wKept a_t_saved a_t_past a_t_input a_t_n a_t_order a_t_numbers a_t_output i_t_pastMany i_t_isSaved i_t_thrown i_t_inputMany i_t_lastError i_t_lastOffset i_t_error i_t_offset i_t_nextByte i_t_begin i_t_value i_t_token i_t_got i_t_orders i_t_outputMany i_t_w) rfl 0 11 rfl rfl rfl (st := [jk_V v1]) rfl (Nat.le_of_ble_eq_true rfl) rd_Md_nibbled_17 ?_ ⟨Nat.le_of_ble_eq_true rfl, Nat.le_of_ble_eq_true rfl⟩
        obtain ⟨q20, hq20, hf⟩ := jk_bind_h hf
        refine jk_callSi C hZ.1 hz (ct_Md_one l D Z sq hZ cI cR q17 q20 hq20) tm_1560 tm_1561 tm_15 tm_1562 na_Md_one ⟨Nat.le_of_ble_eq_true rfl, Nat.le_of_ble_eq_true rfl⟩ rfl [] rfl rfl rfl (ws' := wd_Md_nibbled cI a_t a_t_w a_t_wKept a_t_saved a_t_past a_t_input a_t_n a_t_order a_t_numbers a_t_output i_t_pastMany i_t_isSaved i_t_thrown i_t_inputMany i_t_lastError i_t_lastOffset i_t_error i_t_offset i_t_nextByte i_t_begin i_t_value i_t_token i_t_got i_t_orders i_t_outputMany i_t_w) rfl (st := [jk_V v1]) rfl (Nat.le_of_ble_eq_true rfl) rd_Md_nibbled_20 ?_ ⟨Nat.le_of_ble_eq_true rfl, Nat.le_of_ble_eq_true rfl⟩
        refine jk_iadd C rd_Md_nibbled_23 ?_
        refine jk_istore_n C rd_Md_nibbled_24 (by decide) (lv' := [(1, jk_V (v1 + q20)), (0, .ref a_t), (2, jk_V v2)]) rfl ?_
        refine jk_iinc C rd_Md_nibbled_25 (k := 2) rfl (by decide) (lv' := [(2, jk_V (v2 + 1)), (1, jk_V (v1 + q20)), (0, .ref a_t)]) rfl ?_
        refine jk_goto (tgt := 4) C rd_Md_nibbled_28 (by decide) ?_
        refine jk_lv (lv' := [(0, .ref a_t), (1, jk_V (v1 + q20)), (2, jk_V (v2 + 1))]) [2, 1, 0] rfl ?_
        exact ih (v1 + q20) (v2 + 1) hf
  refine jk_iconst C rd_Md_nibbled_0 ?_
  refine jk_istore_n C rd_Md_nibbled_1 (by decide) (lv' := [(1, jk_V 0), (0, .ref a_t)]) rfl ?_
  refine jk_iconst C rd_Md_nibbled_2 ?_
  refine jk_istore_n C rd_Md_nibbled_3 (by decide) (lv' := [(2, jk_V 0), (1, jk_V 0), (0, .ref a_t)]) rfl ?_
  refine jk_lv (lv' := [(0, .ref a_t), (1, jk_V 0), (2, jk_V 0)]) [2, 1, 0] rfl ?_
  exact bk_4 jk_F 0 0 hf
def wd_Md_nibbledCount (cI : ClassId) (a_t a_t_w a_t_wKept a_t_saved a_t_past a_t_input a_t_n a_t_order a_t_numbers a_t_output : Nat) (i_t_pastMany : Int) (i_t_isSaved : Int) (i_t_thrown : Int) (i_t_inputMany : Int) (i_t_lastError : Int) (i_t_lastOffset : Int) (i_t_error : Int) (i_t_offset : Int) (i_t_nextByte : Int) (i_t_begin : Int) (i_t_value : Int) (i_t_token : Int) (i_t_got : Int) (i_t_orders : Int) (i_t_outputMany : Int) (i_t_w : (Int → Int)) : va_W := [(a_t, .inr (11, [.ref a_t_w, .ref a_t_wKept, .ref a_t_saved, .ref a_t_past, jk_V i_t_pastMany, jk_V i_t_isSaved, jk_V i_t_thrown, .ref a_t_input, jk_V i_t_inputMany, jk_V i_t_lastError, jk_V i_t_lastOffset, jk_V i_t_error, jk_V i_t_offset, jk_V i_t_nextByte, jk_V i_t_begin, jk_V i_t_value, jk_V i_t_token, jk_V i_t_got, .ref a_t_n, .ref a_t_order, .ref a_t_numbers, jk_V i_t_orders, .ref a_t_output, jk_V i_t_outputMany])), (a_t_w, jk_W cI 259 i_t_w)]
set_option maxHeartbeats 4000000 in
set_option maxRecDepth 20000 in
theorem ct_Md_nibbledCount (l : Launch) (D : va_G) (Z : (Nat → Prop) → State → Heap → Prop) (sq : Nat → Nat) (hZ : jk_ZK Z sq) (cI cR : ClassId) (a_t a_t_w a_t_wKept a_t_saved a_t_past a_t_input a_t_n a_t_order a_t_numbers a_t_output : Nat) (i_t_pastMany : Int) (i_t_isSaved : Int) (i_t_thrown : Int) (i_t_inputMany : Int) (i_t_lastError : Int) (i_t_lastOffset : Int) (i_t_error : Int) (i_t_offset : Int) (i_t_nextByte : Int) (i_t_begin : Int) (i_t_value : Int) (i_t_token : Int) (i_t_got : Int) (i_t_orders : Int) (i_t_outputMany : Int) (i_t_w : (Int → Int)) (q : Int × Int) (hf : fn_Md_nibbledCount i_t_w i_t_thrown = some q) : jk_MI l D jk_cl (jk_ty cI cR) Z mn_Md_nibbledCount (.code mn_Md_nibbledCount mb_Md_nibbledCount 1 (some .int) :: jk_WA) (jk_rm 3 65) [.ref a_t] (wd_Md_nibbledCount cI a_t a_t_w a_t_wKept a_t_saved a_t_past a_t_input a_t_n a_t_order a_t_numbers a_t_output i_t_pastMany i_t_isSaved i_t_thrown i_t_inputMany i_t_lastError i_t_lastOffset i_t_error i_t_offset i_t_nextByte i_t_begin i_t_value i_t_token i_t_got i_t_orders i_t_outputMany i_t_w) (wd_Md_nibbledCount cI a_t a_t_w a_t_wKept a_t_saved a_t_past a_t_input a_t_n a_t_order a_t_numbers a_t_output i_t_pastMany i_t_isSaved q.2 i_t_inputMany i_t_lastError i_t_lastOffset i_t_error i_t_offset i_t_nextByte i_t_begin i_t_value i_t_token i_t_got i_t_orders i_t_outputMany i_t_w) q.1 := by
  intro sz
  refine jk_body (by decide +kernel) (fun p e s m args below meth c hsz hz hin C => ?_) (Nat.le_of_ble_eq_true rfl)
  subst hsz
  unfold fn_Md_nibbledCount at hf
  refine jk_aload_n C rd_Md_nibbledCount_0 (k := 0) rfl ?_
  refine jk_iconst C rd_Md_nibbledCount_1 ?_
  refine jk_putf C in_Md ty_Md nm_Md (ci := 11) rfl 6 (by decide) tm_1269 rfl rfl rfl 0 rfl (Nat.le_of_ble_eq_true rfl) rd_Md_nibbledCount_2 (ws' := wd_Md_nibbledCount cI a_t a_t_w a_t_wKept a_t_saved a_t_past a_t_input a_t_n a_t_order a_t_numbers a_t_output i_t_pastMany i_t_isSaved 0 i_t_inputMany i_t_lastError i_t_lastOffset i_t_error i_t_offset i_t_nextByte i_t_begin i_t_value i_t_token i_t_got i_t_orders i_t_outputMany i_t_w) rfl ?_
  refine jk_aload_n C rd_Md_nibbledCount_5 (k := 0) rfl ?_
  obtain ⟨q6, hq6, hf⟩ := jk_bind_h hf
  refine jk_callVi C hZ.1 hz (ct_Md_nibbled l D Z sq hZ cI cR a_t a_t_w a_t_wKept a_t_saved a_t_past a_t_input a_t_n a_t_order a_t_numbers a_t_output i_t_pastMany i_t_isSaved 0 i_t_inputMany i_t_lastError i_t_lastOffset i_t_error i_t_offset i_t_nextByte i_t_begin i_t_value i_t_token i_t_got i_t_orders i_t_outputMany i_t_w q6 hq6) tm_1739 tm_1741 sl_94 tm_15 tm_1742 na_Md_nibbled ⟨Nat.le_of_ble_eq_true rfl, Nat.le_of_ble_eq_true rfl⟩ rfl [0, 1] rfl rfl rfl (ws' := wd_Md_nibbledCount cI a_t a_t_w a_t_wKept a_t_saved a_t_past a_t_input a_t_n a_t_order a_t_numbers a_t_output i_t_pastMany i_t_isSaved 0 i_t_inputMany i_t_lastError i_t_lastOffset i_t_error i_t_offset i_t_nextByte i_t_begin i_t_value i_t_token i_t_got i_t_orders i_t_outputMany i_t_w) rfl 0 11 rfl rfl rfl (st := []) rfl (Nat.le_of_ble_eq_true rfl) rd_Md_nibbledCount_6 ?_ ⟨Nat.le_of_ble_eq_true rfl, Nat.le_of_ble_eq_true rfl⟩
  cases hf
  exact jk_iret C rfl rd_Md_nibbledCount_9 rfl
def wd_Md_matchingCount (cI : ClassId) (a_t a_t_w a_t_wKept a_t_saved a_t_past a_t_input a_t_n a_t_order a_t_numbers a_t_output : Nat) (i_t_pastMany : Int) (i_t_isSaved : Int) (i_t_thrown : Int) (i_t_inputMany : Int) (i_t_lastError : Int) (i_t_lastOffset : Int) (i_t_error : Int) (i_t_offset : Int) (i_t_nextByte : Int) (i_t_begin : Int) (i_t_value : Int) (i_t_token : Int) (i_t_got : Int) (i_t_orders : Int) (i_t_outputMany : Int) (i_t_w : (Int → Int)) : va_W := [(a_t, .inr (11, [.ref a_t_w, .ref a_t_wKept, .ref a_t_saved, .ref a_t_past, jk_V i_t_pastMany, jk_V i_t_isSaved, jk_V i_t_thrown, .ref a_t_input, jk_V i_t_inputMany, jk_V i_t_lastError, jk_V i_t_lastOffset, jk_V i_t_error, jk_V i_t_offset, jk_V i_t_nextByte, jk_V i_t_begin, jk_V i_t_value, jk_V i_t_token, jk_V i_t_got, .ref a_t_n, .ref a_t_order, .ref a_t_numbers, jk_V i_t_orders, .ref a_t_output, jk_V i_t_outputMany])), (a_t_w, jk_W cI 259 i_t_w)]
set_option maxHeartbeats 4000000 in
set_option maxRecDepth 20000 in
theorem ct_Md_matchingCount (l : Launch) (D : va_G) (Z : (Nat → Prop) → State → Heap → Prop) (sq : Nat → Nat) (hZ : jk_ZK Z sq) (cI cR : ClassId) (a_t a_t_w a_t_wKept a_t_saved a_t_past a_t_input a_t_n a_t_order a_t_numbers a_t_output : Nat) (i_t_pastMany : Int) (i_t_isSaved : Int) (i_t_thrown : Int) (i_t_inputMany : Int) (i_t_lastError : Int) (i_t_lastOffset : Int) (i_t_error : Int) (i_t_offset : Int) (i_t_nextByte : Int) (i_t_begin : Int) (i_t_value : Int) (i_t_token : Int) (i_t_got : Int) (i_t_orders : Int) (i_t_outputMany : Int) (i_t_w : (Int → Int)) (q : Int × Int) (hf : fn_Md_matchingCount i_t_w i_t_thrown = some q) : jk_MI l D jk_cl (jk_ty cI cR) Z mn_Md_matchingCount (.code mn_Md_matchingCount mb_Md_matchingCount 3 (some .int) :: jk_WA) (jk_rm 7 152) [.ref a_t] (wd_Md_matchingCount cI a_t a_t_w a_t_wKept a_t_saved a_t_past a_t_input a_t_n a_t_order a_t_numbers a_t_output i_t_pastMany i_t_isSaved i_t_thrown i_t_inputMany i_t_lastError i_t_lastOffset i_t_error i_t_offset i_t_nextByte i_t_begin i_t_value i_t_token i_t_got i_t_orders i_t_outputMany i_t_w) (wd_Md_matchingCount cI a_t a_t_w a_t_wKept a_t_saved a_t_past a_t_input a_t_n a_t_order a_t_numbers a_t_output i_t_pastMany i_t_isSaved q.2 i_t_inputMany i_t_lastError i_t_lastOffset i_t_error i_t_offset i_t_nextByte i_t_begin i_t_value i_t_token i_t_got i_t_orders i_t_outputMany i_t_w) q.1 := by
  intro sz
  refine jk_body (by decide +kernel) (fun p e s m args below meth c hsz hz hin C => ?_) (Nat.le_of_ble_eq_true rfl)
  subst hsz
  unfold fn_Md_matchingCount at hf
  have bk_9 : ∀ (n : Nat) (t_thrown : Int) (v1 : Int) (v2 : Int), fn_Md_matchingCount_b9 n i_t_w t_thrown v1 v2 = some q → jk_J p l e (jk_rm 7 152) s m args below meth c 0 0 (jk_QI below D jk_cl (jk_ty cI cR) (wd_Md_matchingCount cI a_t a_t_w a_t_wKept a_t_saved a_t_past a_t_input a_t_n a_t_order a_t_numbers a_t_output i_t_pastMany i_t_isSaved i_t_thrown i_t_inputMany i_t_lastError i_t_lastOffset i_t_error i_t_offset i_t_nextByte i_t_begin i_t_value i_t_token i_t_got i_t_orders i_t_outputMany i_t_w) (wd_Md_matchingCount cI a_t a_t_w a_t_wKept a_t_saved a_t_past a_t_input a_t_n a_t_order a_t_numbers a_t_output i_t_pastMany i_t_isSaved q.2 i_t_inputMany i_t_lastError i_t_lastOffset i_t_error i_t_offset i_t_nextByte i_t_begin i_t_value i_t_token i_t_got i_t_orders i_t_outputMany i_t_w) args s q.1) D jk_cl (va_A (wd_Md_matchingCount cI a_t a_t_w a_t_wKept a_t_saved a_t_past a_t_input a_t_n a_t_order a_t_numbers a_t_output i_t_pastMany i_t_isSaved i_t_thrown i_t_inputMany i_t_lastError i_t_lastOffset i_t_error i_t_offset i_t_nextByte i_t_begin i_t_value i_t_token i_t_got i_t_orders i_t_outputMany i_t_w) s.heap.size) 3 (wd_Md_matchingCount cI a_t a_t_w a_t_wKept a_t_saved a_t_past a_t_input a_t_n a_t_order a_t_numbers a_t_output i_t_pastMany i_t_isSaved t_thrown i_t_inputMany i_t_lastError i_t_lastOffset i_t_error i_t_offset i_t_nextByte i_t_begin i_t_value i_t_token i_t_got i_t_orders i_t_outputMany i_t_w) [(0, .ref a_t), (1, jk_V v1), (2, jk_V v2)] 9 [] := by
    intro n
    induction n with
    | zero => intro t_thrown v1 v2 hf; exact nomatch (show none = some q from hf)
    | succ n ih =>
      intro t_thrown v1 v2 hf
      rw [fn_Md_matchingCount_b9] at hf
      refine jk_iload_n C rd_Md_matchingCount_9 (k := 2) rfl ?_
      refine jk_aload_n C rd_Md_matchingCount_10 (k := 0) rfl ?_
      refine jk_get C in_Md (ci := 11) rfl 0 (by decide) tm_1263 0 rfl rfl rd_Md_matchingCount_11 ?_
      refine jk_iconst C rd_Md_matchingCount_14 ?_
      refine jk_iald C 1 0 rfl rfl (Nat.le_of_ble_eq_true rfl) rd_Md_matchingCount_15 hf (fun hf => ?_)
      refine jk_icmp_ge (tgt := 45) C rd_Md_matchingCount_16 (by decide) hf (fun _ hf => ?_) (fun _ hf => ?_)
      · refine jk_iload_n C rd_Md_matchingCount_45 (k := 1) rfl ?_
        cases hf
        exact jk_iret C rfl rd_Md_matchingCount_46 rfl
      · refine jk_iload_n C rd_Md_matchingCount_19 (k := 1) rfl ?_
        refine jk_aload_n C rd_Md_matchingCount_20 (k := 0) rfl ?_
        refine jk_iload_n C rd_Md_matchingCount_21 (k := 2) rfl ?_
        obtain ⟨q22, hq22, hf⟩ := jk_bind_h hf
        refine jk_callVi C hZ.1 hz (ct_Md_state l D Z sq hZ cI cR a_t a_t_w a_t_wKept a_t_saved a_t_past a_t_input a_t_n a_t_order a_t_numbers a_t_output i_t_pastMany i_t_isSaved t_thrown i_t_inputMany i_t_lastError i_t_lastOffset i_t_error i_t_offset i_t_nextByte i_t_begin i_t_value i_t_token i_t_got i_t_orders i_t_outputMany i_t_w v2 q22 hq22) tm_1719 tm_1721 sl_93 tm_15 tm_1722 na_Md_state ⟨Nat.le_of_ble_eq_true rfl, Nat.le_of_ble_eq_true rfl⟩ rfl [0, 1] rfl rfl rfl (ws' := wd_Md_matchingCount cI a_t a_t_w a_t_wKept a_t_saved a_t_past a_t_input a_t_n a_t_order a_t_numbers a_t_output i_t_pastMany i_t_isSaved t_thrown i_t_inputMany i_t_lastError i_t_lastOffset i_t_error i_t_offset i_t_nextByte i_t_begin i_t_value i_t_token i_t_got i_t_orders i_t_outputMany i_t_w) rfl 0 11 rfl rfl rfl (st := [jk_V v1]) rfl (Nat.le_of_ble_eq_true rfl) rd_Md_matchingCount_22 ?_ ⟨Nat.le_of_ble_eq_true rfl, Nat.le_of_ble_eq_true rfl⟩
        refine jk_iconst C rd_Md_matchingCount_25 ?_
        refine jk_icmp_ne (tgt := 33) C rd_Md_matchingCount_26 (by decide) hf (fun _ hf => ?_) (fun _ hf => ?_)
        · refine jk_iconst C rd_Md_matchingCount_33 ?_
          obtain ⟨q34, hq34, hf⟩ := jk_bind_h hf
          refine jk_callSi C hZ.1 hz (ct_Md_one l D Z sq hZ cI cR 0 q34 hq34) tm_1560 tm_1561 tm_15 tm_1562 na_Md_one ⟨Nat.le_of_ble_eq_true rfl, Nat.le_of_ble_eq_true rfl⟩ rfl [] rfl rfl rfl (ws' := wd_Md_matchingCount cI a_t a_t_w a_t_wKept a_t_saved a_t_past a_t_input a_t_n a_t_order a_t_numbers a_t_output i_t_pastMany i_t_isSaved t_thrown i_t_inputMany i_t_lastError i_t_lastOffset i_t_error i_t_offset i_t_nextByte i_t_begin i_t_value i_t_token i_t_got i_t_orders i_t_outputMany i_t_w) rfl (st := [jk_V v1]) rfl (Nat.le_of_ble_eq_true rfl) rd_Md_matchingCount_34 ?_ ⟨Nat.le_of_ble_eq_true rfl, Nat.le_of_ble_eq_true rfl⟩
          refine jk_iadd C rd_Md_matchingCount_37 ?_
          refine jk_istore_n C rd_Md_matchingCount_38 (by decide) (lv' := [(1, jk_V (v1 + q34)), (0, .ref a_t), (2, jk_V v2)]) rfl ?_
          refine jk_iinc C rd_Md_matchingCount_39 (k := 2) rfl (by decide) (lv' := [(2, jk_V (v2 + 1)), (1, jk_V (v1 + q34)), (0, .ref a_t)]) rfl ?_
          refine jk_goto (tgt := 9) C rd_Md_matchingCount_42 (by decide) ?_
          refine jk_lv (lv' := [(0, .ref a_t), (1, jk_V (v1 + q34)), (2, jk_V (v2 + 1))]) [2, 1, 0] rfl ?_
          exact ih t_thrown (v1 + q34) (v2 + 1) hf
        · refine jk_iconst C rd_Md_matchingCount_29 ?_
          refine jk_goto (tgt := 34) C rd_Md_matchingCount_30 (by decide) ?_
          obtain ⟨q34, hq34, hf⟩ := jk_bind_h hf
          refine jk_callSi C hZ.1 hz (ct_Md_one l D Z sq hZ cI cR 1 q34 hq34) tm_1560 tm_1561 tm_15 tm_1562 na_Md_one ⟨Nat.le_of_ble_eq_true rfl, Nat.le_of_ble_eq_true rfl⟩ rfl [] rfl rfl rfl (ws' := wd_Md_matchingCount cI a_t a_t_w a_t_wKept a_t_saved a_t_past a_t_input a_t_n a_t_order a_t_numbers a_t_output i_t_pastMany i_t_isSaved t_thrown i_t_inputMany i_t_lastError i_t_lastOffset i_t_error i_t_offset i_t_nextByte i_t_begin i_t_value i_t_token i_t_got i_t_orders i_t_outputMany i_t_w) rfl (st := [jk_V v1]) rfl (Nat.le_of_ble_eq_true rfl) rd_Md_matchingCount_34 ?_ ⟨Nat.le_of_ble_eq_true rfl, Nat.le_of_ble_eq_true rfl⟩
          refine jk_iadd C rd_Md_matchingCount_37 ?_
          refine jk_istore_n C rd_Md_matchingCount_38 (by decide) (lv' := [(1, jk_V (v1 + q34)), (0, .ref a_t), (2, jk_V v2)]) rfl ?_
          refine jk_iinc C rd_Md_matchingCount_39 (k := 2) rfl (by decide) (lv' := [(2, jk_V (v2 + 1)), (1, jk_V (v1 + q34)), (0, .ref a_t)]) rfl ?_
          refine jk_goto (tgt := 9) C rd_Md_matchingCount_42 (by decide) ?_
          refine jk_lv (lv' := [(0, .ref a_t), (1, jk_V (v1 + q34)), (2, jk_V (v2 + 1))]) [2, 1, 0] rfl ?_
          exact ih t_thrown (v1 + q34) (v2 + 1) hf
  refine jk_aload_n C rd_Md_matchingCount_0 (k := 0) rfl ?_
  refine jk_iconst C rd_Md_matchingCount_1 ?_
  refine jk_putf C in_Md ty_Md nm_Md (ci := 11) rfl 6 (by decide) tm_1269 rfl rfl rfl 0 rfl (Nat.le_of_ble_eq_true rfl) rd_Md_matchingCount_2 (ws' := wd_Md_matchingCount cI a_t a_t_w a_t_wKept a_t_saved a_t_past a_t_input a_t_n a_t_order a_t_numbers a_t_output i_t_pastMany i_t_isSaved 0 i_t_inputMany i_t_lastError i_t_lastOffset i_t_error i_t_offset i_t_nextByte i_t_begin i_t_value i_t_token i_t_got i_t_orders i_t_outputMany i_t_w) rfl ?_
  refine jk_iconst C rd_Md_matchingCount_5 ?_
  refine jk_istore_n C rd_Md_matchingCount_6 (by decide) (lv' := [(1, jk_V 0), (0, .ref a_t)]) rfl ?_
  refine jk_iconst C rd_Md_matchingCount_7 ?_
  refine jk_istore_n C rd_Md_matchingCount_8 (by decide) (lv' := [(2, jk_V 0), (1, jk_V 0), (0, .ref a_t)]) rfl ?_
  refine jk_lv (lv' := [(0, .ref a_t), (1, jk_V 0), (2, jk_V 0)]) [2, 1, 0] rfl ?_
  exact bk_9 jk_F 0 0 0 hf
def wd_Md_topicByte (cI : ClassId) (a_t a_t_w a_t_wKept a_t_saved a_t_past a_t_input a_t_n a_t_order a_t_numbers a_t_output : Nat) (i_t_pastMany : Int) (i_t_isSaved : Int) (i_t_thrown : Int) (i_t_inputMany : Int) (i_t_lastError : Int) (i_t_lastOffset : Int) (i_t_error : Int) (i_t_offset : Int) (i_t_nextByte : Int) (i_t_begin : Int) (i_t_value : Int) (i_t_token : Int) (i_t_got : Int) (i_t_orders : Int) (i_t_outputMany : Int) (i_t_w : (Int → Int)) : va_W := [(a_t, .inr (11, [.ref a_t_w, .ref a_t_wKept, .ref a_t_saved, .ref a_t_past, jk_V i_t_pastMany, jk_V i_t_isSaved, jk_V i_t_thrown, .ref a_t_input, jk_V i_t_inputMany, jk_V i_t_lastError, jk_V i_t_lastOffset, jk_V i_t_error, jk_V i_t_offset, jk_V i_t_nextByte, jk_V i_t_begin, jk_V i_t_value, jk_V i_t_token, jk_V i_t_got, .ref a_t_n, .ref a_t_order, .ref a_t_numbers, jk_V i_t_orders, .ref a_t_output, jk_V i_t_outputMany])), (a_t_w, jk_W cI 259 i_t_w)]
set_option maxHeartbeats 4000000 in
set_option maxRecDepth 20000 in
theorem ct_Md_topicByte (l : Launch) (D : va_G) (Z : (Nat → Prop) → State → Heap → Prop) (sq : Nat → Nat) (hZ : jk_ZK Z sq) (cI cR : ClassId) (a_t a_t_w a_t_wKept a_t_saved a_t_past a_t_input a_t_n a_t_order a_t_numbers a_t_output : Nat) (i_t_pastMany : Int) (i_t_isSaved : Int) (i_t_thrown : Int) (i_t_inputMany : Int) (i_t_lastError : Int) (i_t_lastOffset : Int) (i_t_error : Int) (i_t_offset : Int) (i_t_nextByte : Int) (i_t_begin : Int) (i_t_value : Int) (i_t_token : Int) (i_t_got : Int) (i_t_orders : Int) (i_t_outputMany : Int) (i_t_w : (Int → Int)) (x1 : Int) (x2 : Int) (q : Int × Int) (hf : fn_Md_topicByte i_t_w i_t_thrown x1 x2 = some q) : jk_MI l D jk_cl (jk_ty cI cR) Z mn_Md_topicByte (.code mn_Md_topicByte mb_Md_topicByte 3 (some .int) :: jk_WA) (jk_rm 3 64) [.ref a_t, jk_V x1, jk_V x2] (wd_Md_topicByte cI a_t a_t_w a_t_wKept a_t_saved a_t_past a_t_input a_t_n a_t_order a_t_numbers a_t_output i_t_pastMany i_t_isSaved i_t_thrown i_t_inputMany i_t_lastError i_t_lastOffset i_t_error i_t_offset i_t_nextByte i_t_begin i_t_value i_t_token i_t_got i_t_orders i_t_outputMany i_t_w) (wd_Md_topicByte cI a_t a_t_w a_t_wKept a_t_saved a_t_past a_t_input a_t_n a_t_order a_t_numbers a_t_output i_t_pastMany i_t_isSaved q.2 i_t_inputMany i_t_lastError i_t_lastOffset i_t_error i_t_offset i_t_nextByte i_t_begin i_t_value i_t_token i_t_got i_t_orders i_t_outputMany i_t_w) q.1 := by
  intro sz
  refine jk_body (by decide +kernel) (fun p e s m args below meth c hsz hz hin C => ?_) (Nat.le_of_ble_eq_true rfl)
  subst hsz
  unfold fn_Md_topicByte at hf
  refine jk_aload_n C rd_Md_topicByte_0 (k := 0) rfl ?_
  refine jk_iconst C rd_Md_topicByte_1 ?_
  refine jk_putf C in_Md ty_Md nm_Md (ci := 11) rfl 6 (by decide) tm_1269 rfl rfl rfl 0 rfl (Nat.le_of_ble_eq_true rfl) rd_Md_topicByte_2 (ws' := wd_Md_topicByte cI a_t a_t_w a_t_wKept a_t_saved a_t_past a_t_input a_t_n a_t_order a_t_numbers a_t_output i_t_pastMany i_t_isSaved 0 i_t_inputMany i_t_lastError i_t_lastOffset i_t_error i_t_offset i_t_nextByte i_t_begin i_t_value i_t_token i_t_got i_t_orders i_t_outputMany i_t_w) rfl ?_
  refine jk_aload_n C rd_Md_topicByte_5 (k := 0) rfl ?_
  refine jk_iload_n C rd_Md_topicByte_6 (k := 1) rfl ?_
  obtain ⟨q7, hq7, hf⟩ := jk_bind_h hf
  refine jk_callVi C hZ.1 hz (ct_Md_noTopic l D Z sq hZ cI cR a_t a_t_w a_t_wKept a_t_saved a_t_past a_t_input a_t_n a_t_order a_t_numbers a_t_output i_t_pastMany i_t_isSaved 0 i_t_inputMany i_t_lastError i_t_lastOffset i_t_error i_t_offset i_t_nextByte i_t_begin i_t_value i_t_token i_t_got i_t_orders i_t_outputMany i_t_w x1 q7 hq7) tm_1751 tm_1753 sl_95 tm_15 tm_1754 na_Md_noTopic ⟨Nat.le_of_ble_eq_true rfl, Nat.le_of_ble_eq_true rfl⟩ rfl [0, 1] rfl rfl rfl (ws' := wd_Md_topicByte cI a_t a_t_w a_t_wKept a_t_saved a_t_past a_t_input a_t_n a_t_order a_t_numbers a_t_output i_t_pastMany i_t_isSaved q7.2 i_t_inputMany i_t_lastError i_t_lastOffset i_t_error i_t_offset i_t_nextByte i_t_begin i_t_value i_t_token i_t_got i_t_orders i_t_outputMany i_t_w) rfl 0 11 rfl rfl rfl (st := []) rfl (Nat.le_of_ble_eq_true rfl) rd_Md_topicByte_7 ?_ ⟨Nat.le_of_ble_eq_true rfl, Nat.le_of_ble_eq_true rfl⟩
  refine jk_if_eq (tgt := 15) C rd_Md_topicByte_10 (by decide) hf (fun _ hf => ?_) (fun _ hf => ?_)
  · refine jk_iload_n C rd_Md_topicByte_15 (k := 2) rfl ?_
    refine jk_iconst C rd_Md_topicByte_16 ?_
    refine jk_aload_n C rd_Md_topicByte_17 (k := 0) rfl ?_
    refine jk_iload_n C rd_Md_topicByte_18 (k := 1) rfl ?_
    refine jk_iconst C rd_Md_topicByte_19 ?_
    obtain ⟨q20, hq20, hf⟩ := jk_bind_h hf
    refine jk_callVi C hZ.1 hz (ct_Md_ofTopic l D Z sq hZ cI cR a_t a_t_w a_t_wKept a_t_saved a_t_past a_t_input a_t_n a_t_order a_t_numbers a_t_output i_t_pastMany i_t_isSaved q7.2 i_t_inputMany i_t_lastError i_t_lastOffset i_t_error i_t_offset i_t_nextByte i_t_begin i_t_value i_t_token i_t_got i_t_orders i_t_outputMany i_t_w x1 0 q20 hq20) tm_1759 tm_1761 sl_97 tm_15 tm_1762 na_Md_ofTopic ⟨Nat.le_of_ble_eq_true rfl, Nat.le_of_ble_eq_true rfl⟩ rfl [0, 1] rfl rfl rfl (ws' := wd_Md_topicByte cI a_t a_t_w a_t_wKept a_t_saved a_t_past a_t_input a_t_n a_t_order a_t_numbers a_t_output i_t_pastMany i_t_isSaved q7.2 i_t_inputMany i_t_lastError i_t_lastOffset i_t_error i_t_offset i_t_nextByte i_t_begin i_t_value i_t_token i_t_got i_t_orders i_t_outputMany i_t_w) rfl 0 11 rfl rfl rfl (st := [jk_V 0, jk_V x2]) rfl (Nat.le_of_ble_eq_true rfl) rd_Md_topicByte_20 ?_ ⟨Nat.le_of_ble_eq_true rfl, Nat.le_of_ble_eq_true rfl⟩
    refine jk_iconst C rd_Md_topicByte_23 ?_
    refine jk_isub C rd_Md_topicByte_24 ?_
    obtain ⟨q25, hq25, hf⟩ := jk_bind_h hf
    refine jk_callSi C hZ.1 hz (ct_Md_inRange l D Z sq hZ cI cR x2 0 (q20 - 1) q25 hq25) tm_1352 tm_1353 tm_15 tm_1354 na_Md_inRange ⟨Nat.le_of_ble_eq_true rfl, Nat.le_of_ble_eq_true rfl⟩ rfl [] rfl rfl rfl (ws' := wd_Md_topicByte cI a_t a_t_w a_t_wKept a_t_saved a_t_past a_t_input a_t_n a_t_order a_t_numbers a_t_output i_t_pastMany i_t_isSaved q7.2 i_t_inputMany i_t_lastError i_t_lastOffset i_t_error i_t_offset i_t_nextByte i_t_begin i_t_value i_t_token i_t_got i_t_orders i_t_outputMany i_t_w) rfl (st := []) rfl (Nat.le_of_ble_eq_true rfl) rd_Md_topicByte_25 ?_ ⟨Nat.le_of_ble_eq_true rfl, Nat.le_of_ble_eq_true rfl⟩
    refine jk_if_eq (tgt := 42) C rd_Md_topicByte_28 (by decide) hf (fun _ hf => ?_) (fun _ hf => ?_)
    · refine jk_iconst C rd_Md_topicByte_42 ?_
      cases hf
      exact jk_iret C rfl rd_Md_topicByte_43 rfl
    · refine jk_aload_n C rd_Md_topicByte_31 (k := 0) rfl ?_
      refine jk_iload_n C rd_Md_topicByte_32 (k := 1) rfl ?_
      refine jk_iconst C rd_Md_topicByte_33 ?_
      refine jk_iload_n C rd_Md_topicByte_34 (k := 2) rfl ?_
      refine jk_iadd C rd_Md_topicByte_35 ?_
      obtain ⟨q36, hq36, hf⟩ := jk_bind_h hf
      refine jk_callVi C hZ.1 hz (ct_Md_ofTopic l D Z sq hZ cI cR a_t a_t_w a_t_wKept a_t_saved a_t_past a_t_input a_t_n a_t_order a_t_numbers a_t_output i_t_pastMany i_t_isSaved q7.2 i_t_inputMany i_t_lastError i_t_lastOffset i_t_error i_t_offset i_t_nextByte i_t_begin i_t_value i_t_token i_t_got i_t_orders i_t_outputMany i_t_w x1 (1 + x2) q36 hq36) tm_1759 tm_1761 sl_97 tm_15 tm_1762 na_Md_ofTopic ⟨Nat.le_of_ble_eq_true rfl, Nat.le_of_ble_eq_true rfl⟩ rfl [0, 1] rfl rfl rfl (ws' := wd_Md_topicByte cI a_t a_t_w a_t_wKept a_t_saved a_t_past a_t_input a_t_n a_t_order a_t_numbers a_t_output i_t_pastMany i_t_isSaved q7.2 i_t_inputMany i_t_lastError i_t_lastOffset i_t_error i_t_offset i_t_nextByte i_t_begin i_t_value i_t_token i_t_got i_t_orders i_t_outputMany i_t_w) rfl 0 11 rfl rfl rfl (st := []) rfl (Nat.le_of_ble_eq_true rfl) rd_Md_topicByte_36 ?_ ⟨Nat.le_of_ble_eq_true rfl, Nat.le_of_ble_eq_true rfl⟩
      refine jk_goto (tgt := 43) C rd_Md_topicByte_39 (by decide) ?_
      cases hf
      exact jk_iret C rfl rd_Md_topicByte_43 rfl
  · refine jk_iconst C rd_Md_topicByte_13 ?_
    cases hf
    exact jk_iret C rfl rd_Md_topicByte_14 rfl
def wd_Md_knotsAt (cI : ClassId) (a_t a_t_w a_t_wKept a_t_saved a_t_past a_t_input a_t_n a_t_order a_t_numbers a_t_output : Nat) (i_t_pastMany : Int) (i_t_isSaved : Int) (i_t_thrown : Int) (i_t_inputMany : Int) (i_t_lastError : Int) (i_t_lastOffset : Int) (i_t_error : Int) (i_t_offset : Int) (i_t_nextByte : Int) (i_t_begin : Int) (i_t_value : Int) (i_t_token : Int) (i_t_got : Int) (i_t_orders : Int) (i_t_outputMany : Int) (i_t_w : (Int → Int)) : va_W := [(a_t, .inr (11, [.ref a_t_w, .ref a_t_wKept, .ref a_t_saved, .ref a_t_past, jk_V i_t_pastMany, jk_V i_t_isSaved, jk_V i_t_thrown, .ref a_t_input, jk_V i_t_inputMany, jk_V i_t_lastError, jk_V i_t_lastOffset, jk_V i_t_error, jk_V i_t_offset, jk_V i_t_nextByte, jk_V i_t_begin, jk_V i_t_value, jk_V i_t_token, jk_V i_t_got, .ref a_t_n, .ref a_t_order, .ref a_t_numbers, jk_V i_t_orders, .ref a_t_output, jk_V i_t_outputMany])), (a_t_w, jk_W cI 259 i_t_w)]
set_option maxHeartbeats 4000000 in
set_option maxRecDepth 20000 in
theorem ct_Md_knotsAt (l : Launch) (D : va_G) (Z : (Nat → Prop) → State → Heap → Prop) (sq : Nat → Nat) (hZ : jk_ZK Z sq) (cI cR : ClassId) (a_t a_t_w a_t_wKept a_t_saved a_t_past a_t_input a_t_n a_t_order a_t_numbers a_t_output : Nat) (i_t_pastMany : Int) (i_t_isSaved : Int) (i_t_thrown : Int) (i_t_inputMany : Int) (i_t_lastError : Int) (i_t_lastOffset : Int) (i_t_error : Int) (i_t_offset : Int) (i_t_nextByte : Int) (i_t_begin : Int) (i_t_value : Int) (i_t_token : Int) (i_t_got : Int) (i_t_orders : Int) (i_t_outputMany : Int) (i_t_w : (Int → Int)) (x1 : Int) (x2 : Int) (q : Int × Int) (hf : fn_Md_knotsAt i_t_w i_t_thrown x1 x2 = some q) : jk_MI l D jk_cl (jk_ty cI cR) Z mn_Md_knotsAt (.code mn_Md_knotsAt mb_Md_knotsAt 3 (some .int) :: jk_WA) (jk_rm 3 64) [.ref a_t, jk_V x1, jk_V x2] (wd_Md_knotsAt cI a_t a_t_w a_t_wKept a_t_saved a_t_past a_t_input a_t_n a_t_order a_t_numbers a_t_output i_t_pastMany i_t_isSaved i_t_thrown i_t_inputMany i_t_lastError i_t_lastOffset i_t_error i_t_offset i_t_nextByte i_t_begin i_t_value i_t_token i_t_got i_t_orders i_t_outputMany i_t_w) (wd_Md_knotsAt cI a_t a_t_w a_t_wKept a_t_saved a_t_past a_t_input a_t_n a_t_order a_t_numbers a_t_output i_t_pastMany i_t_isSaved q.2 i_t_inputMany i_t_lastError i_t_lastOffset i_t_error i_t_offset i_t_nextByte i_t_begin i_t_value i_t_token i_t_got i_t_orders i_t_outputMany i_t_w) q.1 := by
  intro sz
  refine jk_body (by decide +kernel) (fun p e s m args below meth c hsz hz hin C => ?_) (Nat.le_of_ble_eq_true rfl)
  subst hsz
  unfold fn_Md_knotsAt at hf
  have bk_28 : ∀ (t_thrown : Int) (v1 : Int) (v2 : Int) (s0 : Int), fn_Md_knotsAt_b28 i_t_w t_thrown v1 v2 s0 = some q → jk_J p l e (jk_rm 3 64) s m args below meth c 0 0 (jk_QI below D jk_cl (jk_ty cI cR) (wd_Md_knotsAt cI a_t a_t_w a_t_wKept a_t_saved a_t_past a_t_input a_t_n a_t_order a_t_numbers a_t_output i_t_pastMany i_t_isSaved i_t_thrown i_t_inputMany i_t_lastError i_t_lastOffset i_t_error i_t_offset i_t_nextByte i_t_begin i_t_value i_t_token i_t_got i_t_orders i_t_outputMany i_t_w) (wd_Md_knotsAt cI a_t a_t_w a_t_wKept a_t_saved a_t_past a_t_input a_t_n a_t_order a_t_numbers a_t_output i_t_pastMany i_t_isSaved q.2 i_t_inputMany i_t_lastError i_t_lastOffset i_t_error i_t_offset i_t_nextByte i_t_begin i_t_value i_t_token i_t_got i_t_orders i_t_outputMany i_t_w) args s q.1) D jk_cl (va_A (wd_Md_knotsAt cI a_t a_t_w a_t_wKept a_t_saved a_t_past a_t_input a_t_n a_t_order a_t_numbers a_t_output i_t_pastMany i_t_isSaved i_t_thrown i_t_inputMany i_t_lastError i_t_lastOffset i_t_error i_t_offset i_t_nextByte i_t_begin i_t_value i_t_token i_t_got i_t_orders i_t_outputMany i_t_w) s.heap.size) 3 (wd_Md_knotsAt cI a_t a_t_w a_t_wKept a_t_saved a_t_past a_t_input a_t_n a_t_order a_t_numbers a_t_output i_t_pastMany i_t_isSaved t_thrown i_t_inputMany i_t_lastError i_t_lastOffset i_t_error i_t_offset i_t_nextByte i_t_begin i_t_value i_t_token i_t_got i_t_orders i_t_outputMany i_t_w) [(0, .ref a_t), (1, jk_V v1), (2, jk_V v2)] 28 [jk_V s0, .ref a_t] := by
    intro t_thrown v1 v2 s0 hf
    unfold fn_Md_knotsAt_b28 at hf
    refine jk_iconst C rd_Md_knotsAt_28 ?_
    obtain ⟨q29, hq29, hf⟩ := jk_bind_h hf
    refine jk_callVi C hZ.1 hz (ct_Md_fails l D Z sq hZ cI cR a_t a_t_w a_t_wKept a_t_saved a_t_past a_t_input a_t_n a_t_order a_t_numbers a_t_output i_t_pastMany i_t_isSaved t_thrown i_t_inputMany i_t_lastError i_t_lastOffset i_t_error i_t_offset i_t_nextByte i_t_begin i_t_value i_t_token i_t_got i_t_orders i_t_outputMany s0 2 q29 hq29) tm_1643 tm_1645 sl_87 tm_15 tm_1646 na_Md_fails ⟨Nat.le_of_ble_eq_true rfl, Nat.le_of_ble_eq_true rfl⟩ rfl [0] rfl rfl rfl (ws' := wd_Md_knotsAt cI a_t a_t_w a_t_wKept a_t_saved a_t_past a_t_input a_t_n a_t_order a_t_numbers a_t_output i_t_pastMany i_t_isSaved q29.2 i_t_inputMany i_t_lastError i_t_lastOffset i_t_error i_t_offset i_t_nextByte i_t_begin i_t_value i_t_token i_t_got i_t_orders i_t_outputMany i_t_w) rfl 0 11 rfl rfl rfl (st := []) rfl (Nat.le_of_ble_eq_true rfl) rd_Md_knotsAt_29 ?_ ⟨Nat.le_of_ble_eq_true rfl, Nat.le_of_ble_eq_true rfl⟩
    refine jk_if_eq (tgt := 37) C rd_Md_knotsAt_32 (by decide) hf (fun _ hf => ?_) (fun _ hf => ?_)
    · refine jk_iload_n C rd_Md_knotsAt_37 (k := 2) rfl ?_
      refine jk_aload_n C rd_Md_knotsAt_38 (k := 0) rfl ?_
      refine jk_iload_n C rd_Md_knotsAt_39 (k := 1) rfl ?_
      refine jk_iconst C rd_Md_knotsAt_40 ?_
      obtain ⟨q41, hq41, hf⟩ := jk_bind_h hf
      refine jk_callVi C hZ.1 hz (ct_Md_of l D Z sq hZ cI cR a_t a_t_w a_t_wKept a_t_saved a_t_past a_t_input a_t_n a_t_order a_t_numbers a_t_output i_t_pastMany i_t_isSaved q29.2 i_t_inputMany i_t_lastError i_t_lastOffset i_t_error i_t_offset i_t_nextByte i_t_begin i_t_value i_t_token i_t_got i_t_orders i_t_outputMany i_t_w v1 4 q41 hq41) tm_1256 tm_1258 sl_26 tm_15 tm_1259 na_Md_of ⟨Nat.le_of_ble_eq_true rfl, Nat.le_of_ble_eq_true rfl⟩ rfl [0, 1] rfl rfl rfl (ws' := wd_Md_knotsAt cI a_t a_t_w a_t_wKept a_t_saved a_t_past a_t_input a_t_n a_t_order a_t_numbers a_t_output i_t_pastMany i_t_isSaved q29.2 i_t_inputMany i_t_lastError i_t_lastOffset i_t_error i_t_offset i_t_nextByte i_t_begin i_t_value i_t_token i_t_got i_t_orders i_t_outputMany i_t_w) rfl 0 11 rfl rfl rfl (st := [jk_V v2]) rfl (Nat.le_of_ble_eq_true rfl) rd_Md_knotsAt_41 ?_ ⟨Nat.le_of_ble_eq_true rfl, Nat.le_of_ble_eq_true rfl⟩
      refine jk_icmp_ge (tgt := 51) C rd_Md_knotsAt_44 (by decide) hf (fun _ hf => ?_) (fun _ hf => ?_)
      · refine jk_aload_n C rd_Md_knotsAt_51 (k := 0) rfl ?_
        refine jk_iload_n C rd_Md_knotsAt_52 (k := 1) rfl ?_
        refine jk_iload_n C rd_Md_knotsAt_53 (k := 2) rfl ?_
        obtain ⟨q54, hq54, hf⟩ := jk_bind_h hf
        refine jk_callVi C hZ.1 hz (ct_Md_knots l D Z sq hZ cI cR a_t a_t_w a_t_wKept a_t_saved a_t_past a_t_input a_t_n a_t_order a_t_numbers a_t_output i_t_pastMany i_t_isSaved q29.2 i_t_inputMany i_t_lastError i_t_lastOffset i_t_error i_t_offset i_t_nextByte i_t_begin i_t_value i_t_token i_t_got i_t_orders i_t_outputMany i_t_w v1 v2 q54 hq54) tm_1252 tm_1254 sl_25 tm_15 tm_1255 na_Md_knots ⟨Nat.le_of_ble_eq_true rfl, Nat.le_of_ble_eq_true rfl⟩ rfl [0, 1] rfl rfl rfl (ws' := wd_Md_knotsAt cI a_t a_t_w a_t_wKept a_t_saved a_t_past a_t_input a_t_n a_t_order a_t_numbers a_t_output i_t_pastMany i_t_isSaved q29.2 i_t_inputMany i_t_lastError i_t_lastOffset i_t_error i_t_offset i_t_nextByte i_t_begin i_t_value i_t_token i_t_got i_t_orders i_t_outputMany i_t_w) rfl 0 11 rfl rfl rfl (st := []) rfl (Nat.le_of_ble_eq_true rfl) rd_Md_knotsAt_54 ?_ ⟨Nat.le_of_ble_eq_true rfl, Nat.le_of_ble_eq_true rfl⟩
        cases hf
        exact jk_iret C rfl rd_Md_knotsAt_57 rfl
      · refine jk_iconst C rd_Md_knotsAt_47 ?_
        refine jk_goto (tgt := 57) C rd_Md_knotsAt_48 (by decide) ?_
        cases hf
        exact jk_iret C rfl rd_Md_knotsAt_57 rfl
    · refine jk_iconst C rd_Md_knotsAt_35 ?_
      cases hf
      exact jk_iret C rfl rd_Md_knotsAt_36 rfl
  refine jk_aload_n C rd_Md_knotsAt_0 (k := 0) rfl ?_
  refine jk_iconst C rd_Md_knotsAt_1 ?_
  refine jk_putf C in_Md ty_Md nm_Md (ci := 11) rfl 6 (by decide) tm_1269 rfl rfl rfl 0 rfl (Nat.le_of_ble_eq_true rfl) rd_Md_knotsAt_2 (ws' := wd_Md_knotsAt cI a_t a_t_w a_t_wKept a_t_saved a_t_past a_t_input a_t_n a_t_order a_t_numbers a_t_output i_t_pastMany i_t_isSaved 0 i_t_inputMany i_t_lastError i_t_lastOffset i_t_error i_t_offset i_t_nextByte i_t_begin i_t_value i_t_token i_t_got i_t_orders i_t_outputMany i_t_w) rfl ?_
  refine jk_aload_n C rd_Md_knotsAt_5 (k := 0) rfl ?_
  refine jk_iload_n C rd_Md_knotsAt_6 (k := 1) rfl ?_
  obtain ⟨q7, hq7, hf⟩ := jk_bind_h hf
  refine jk_callVi C hZ.1 hz (ct_Md_noCord l D Z sq hZ cI cR a_t a_t_w a_t_wKept a_t_saved a_t_past a_t_input a_t_n a_t_order a_t_numbers a_t_output i_t_pastMany i_t_isSaved 0 i_t_inputMany i_t_lastError i_t_lastOffset i_t_error i_t_offset i_t_nextByte i_t_begin i_t_value i_t_token i_t_got i_t_orders i_t_outputMany i_t_w x1 q7 hq7) tm_1639 tm_1641 sl_86 tm_15 tm_1642 na_Md_noCord ⟨Nat.le_of_ble_eq_true rfl, Nat.le_of_ble_eq_true rfl⟩ rfl [0, 1] rfl rfl rfl (ws' := wd_Md_knotsAt cI a_t a_t_w a_t_wKept a_t_saved a_t_past a_t_input a_t_n a_t_order a_t_numbers a_t_output i_t_pastMany i_t_isSaved q7.2 i_t_inputMany i_t_lastError i_t_lastOffset i_t_error i_t_offset i_t_nextByte i_t_begin i_t_value i_t_token i_t_got i_t_orders i_t_outputMany i_t_w) rfl 0 11 rfl rfl rfl (st := []) rfl (Nat.le_of_ble_eq_true rfl) rd_Md_knotsAt_7 ?_ ⟨Nat.le_of_ble_eq_true rfl, Nat.le_of_ble_eq_true rfl⟩
  refine jk_if_ne (tgt := 35) C rd_Md_knotsAt_10 (by decide) hf (fun _ hf => ?_) (fun _ hf => ?_)
  · refine jk_iconst C rd_Md_knotsAt_35 ?_
    cases hf
    exact jk_iret C rfl rd_Md_knotsAt_36 rfl
  · refine jk_aload_n C rd_Md_knotsAt_13 (k := 0) rfl ?_
    refine jk_iload_n C rd_Md_knotsAt_14 (k := 2) rfl ?_
    refine jk_iconst C rd_Md_knotsAt_15 ?_
    refine jk_iconst C rd_Md_knotsAt_16 ?_
    obtain ⟨q17, hq17, hf⟩ := jk_bind_h hf
    refine jk_callSi C hZ.1 hz (ct_Md_inRange l D Z sq hZ cI cR x2 0 3 q17 hq17) tm_1352 tm_1353 tm_15 tm_1354 na_Md_inRange ⟨Nat.le_of_ble_eq_true rfl, Nat.le_of_ble_eq_true rfl⟩ rfl [] rfl rfl rfl (ws' := wd_Md_knotsAt cI a_t a_t_w a_t_wKept a_t_saved a_t_past a_t_input a_t_n a_t_order a_t_numbers a_t_output i_t_pastMany i_t_isSaved q7.2 i_t_inputMany i_t_lastError i_t_lastOffset i_t_error i_t_offset i_t_nextByte i_t_begin i_t_value i_t_token i_t_got i_t_orders i_t_outputMany i_t_w) rfl (st := [.ref a_t]) rfl (Nat.le_of_ble_eq_true rfl) rd_Md_knotsAt_17 ?_ ⟨Nat.le_of_ble_eq_true rfl, Nat.le_of_ble_eq_true rfl⟩
    refine jk_if_ne (tgt := 27) C rd_Md_knotsAt_20 (by decide) hf (fun _ hf => ?_) (fun _ hf => ?_)
    · refine jk_iconst C rd_Md_knotsAt_27 ?_
      refine jk_lv (lv' := [(0, .ref a_t), (1, jk_V x1), (2, jk_V x2)]) [0, 1, 2] rfl ?_
      exact bk_28 q7.2 x1 x2 0 hf
    · refine jk_iconst C rd_Md_knotsAt_23 ?_
      refine jk_goto (tgt := 28) C rd_Md_knotsAt_24 (by decide) ?_
      refine jk_lv (lv' := [(0, .ref a_t), (1, jk_V x1), (2, jk_V x2)]) [0, 1, 2] rfl ?_
      exact bk_28 q7.2 x1 x2 1 hf
def wd_Md_isComplete (cI : ClassId) (a_t a_t_w a_t_wKept a_t_saved a_t_past a_t_input a_t_n a_t_order a_t_numbers a_t_output : Nat) (i_t_pastMany : Int) (i_t_isSaved : Int) (i_t_thrown : Int) (i_t_inputMany : Int) (i_t_lastError : Int) (i_t_lastOffset : Int) (i_t_error : Int) (i_t_offset : Int) (i_t_nextByte : Int) (i_t_begin : Int) (i_t_value : Int) (i_t_token : Int) (i_t_got : Int) (i_t_orders : Int) (i_t_outputMany : Int) (i_t_w : (Int → Int)) : va_W := [(a_t, .inr (11, [.ref a_t_w, .ref a_t_wKept, .ref a_t_saved, .ref a_t_past, jk_V i_t_pastMany, jk_V i_t_isSaved, jk_V i_t_thrown, .ref a_t_input, jk_V i_t_inputMany, jk_V i_t_lastError, jk_V i_t_lastOffset, jk_V i_t_error, jk_V i_t_offset, jk_V i_t_nextByte, jk_V i_t_begin, jk_V i_t_value, jk_V i_t_token, jk_V i_t_got, .ref a_t_n, .ref a_t_order, .ref a_t_numbers, jk_V i_t_orders, .ref a_t_output, jk_V i_t_outputMany])), (a_t_w, jk_W cI 259 i_t_w)]
set_option maxHeartbeats 4000000 in
set_option maxRecDepth 20000 in
theorem ct_Md_isComplete (l : Launch) (D : va_G) (Z : (Nat → Prop) → State → Heap → Prop) (sq : Nat → Nat) (hZ : jk_ZK Z sq) (cI cR : ClassId) (a_t a_t_w a_t_wKept a_t_saved a_t_past a_t_input a_t_n a_t_order a_t_numbers a_t_output : Nat) (i_t_pastMany : Int) (i_t_isSaved : Int) (i_t_thrown : Int) (i_t_inputMany : Int) (i_t_lastError : Int) (i_t_lastOffset : Int) (i_t_error : Int) (i_t_offset : Int) (i_t_nextByte : Int) (i_t_begin : Int) (i_t_value : Int) (i_t_token : Int) (i_t_got : Int) (i_t_orders : Int) (i_t_outputMany : Int) (i_t_w : (Int → Int)) (x1 : Int) (q : Int × Int) (hf : fn_Md_isComplete i_t_w i_t_thrown x1 = some q) : jk_MI l D jk_cl (jk_ty cI cR) Z mn_Md_isComplete (.code mn_Md_isComplete mb_Md_isComplete 2 (some .boolean) :: jk_WA) (jk_rm 4 87) [.ref a_t, jk_V x1] (wd_Md_isComplete cI a_t a_t_w a_t_wKept a_t_saved a_t_past a_t_input a_t_n a_t_order a_t_numbers a_t_output i_t_pastMany i_t_isSaved i_t_thrown i_t_inputMany i_t_lastError i_t_lastOffset i_t_error i_t_offset i_t_nextByte i_t_begin i_t_value i_t_token i_t_got i_t_orders i_t_outputMany i_t_w) (wd_Md_isComplete cI a_t a_t_w a_t_wKept a_t_saved a_t_past a_t_input a_t_n a_t_order a_t_numbers a_t_output i_t_pastMany i_t_isSaved q.2 i_t_inputMany i_t_lastError i_t_lastOffset i_t_error i_t_offset i_t_nextByte i_t_begin i_t_value i_t_token i_t_got i_t_orders i_t_outputMany i_t_w) q.1 := by
  intro sz
  refine jk_body (by decide +kernel) (fun p e s m args below meth c hsz hz hin C => ?_) (Nat.le_of_ble_eq_true rfl)
  subst hsz
  unfold fn_Md_isComplete at hf
  refine jk_aload_n C rd_Md_isComplete_0 (k := 0) rfl ?_
  refine jk_iconst C rd_Md_isComplete_1 ?_
  refine jk_putf C in_Md ty_Md nm_Md (ci := 11) rfl 6 (by decide) tm_1269 rfl rfl rfl 0 rfl (Nat.le_of_ble_eq_true rfl) rd_Md_isComplete_2 (ws' := wd_Md_isComplete cI a_t a_t_w a_t_wKept a_t_saved a_t_past a_t_input a_t_n a_t_order a_t_numbers a_t_output i_t_pastMany i_t_isSaved 0 i_t_inputMany i_t_lastError i_t_lastOffset i_t_error i_t_offset i_t_nextByte i_t_begin i_t_value i_t_token i_t_got i_t_orders i_t_outputMany i_t_w) rfl ?_
  refine jk_aload_n C rd_Md_isComplete_5 (k := 0) rfl ?_
  refine jk_iload_n C rd_Md_isComplete_6 (k := 1) rfl ?_
  obtain ⟨q7, hq7, hf⟩ := jk_bind_h hf
  refine jk_callVi C hZ.1 hz (ct_Md_noCord l D Z sq hZ cI cR a_t a_t_w a_t_wKept a_t_saved a_t_past a_t_input a_t_n a_t_order a_t_numbers a_t_output i_t_pastMany i_t_isSaved 0 i_t_inputMany i_t_lastError i_t_lastOffset i_t_error i_t_offset i_t_nextByte i_t_begin i_t_value i_t_token i_t_got i_t_orders i_t_outputMany i_t_w x1 q7 hq7) tm_1639 tm_1641 sl_86 tm_15 tm_1642 na_Md_noCord ⟨Nat.le_of_ble_eq_true rfl, Nat.le_of_ble_eq_true rfl⟩ rfl [0, 1] rfl rfl rfl (ws' := wd_Md_isComplete cI a_t a_t_w a_t_wKept a_t_saved a_t_past a_t_input a_t_n a_t_order a_t_numbers a_t_output i_t_pastMany i_t_isSaved q7.2 i_t_inputMany i_t_lastError i_t_lastOffset i_t_error i_t_offset i_t_nextByte i_t_begin i_t_value i_t_token i_t_got i_t_orders i_t_outputMany i_t_w) rfl 0 11 rfl rfl rfl (st := []) rfl (Nat.le_of_ble_eq_true rfl) rd_Md_isComplete_7 ?_ ⟨Nat.le_of_ble_eq_true rfl, Nat.le_of_ble_eq_true rfl⟩
  refine jk_if_ne (tgt := 25) C rd_Md_isComplete_10 (by decide) hf (fun _ hf => ?_) (fun _ hf => ?_)
  · refine jk_iconst C rd_Md_isComplete_25 ?_
    cases hf
    exact jk_zret C (Or.inl rfl) rfl rd_Md_isComplete_26 rfl
  · refine jk_aload_n C rd_Md_isComplete_13 (k := 0) rfl ?_
    refine jk_iload_n C rd_Md_isComplete_14 (k := 1) rfl ?_
    obtain ⟨q15, hq15, hf⟩ := jk_bind_h hf
    refine jk_callVi C hZ.1 hz (ct_Md_isWhole l D Z sq hZ cI cR a_t a_t_w a_t_wKept a_t_saved a_t_past a_t_input a_t_n a_t_order a_t_numbers a_t_output i_t_pastMany i_t_isSaved q7.2 i_t_inputMany i_t_lastError i_t_lastOffset i_t_error i_t_offset i_t_nextByte i_t_begin i_t_value i_t_token i_t_got i_t_orders i_t_outputMany i_t_w x1 q15 hq15) tm_1771 tm_1773 sl_98 tm_15 tm_1774 na_Md_isWhole ⟨Nat.le_of_ble_eq_true rfl, Nat.le_of_ble_eq_true rfl⟩ rfl [0, 1] rfl rfl rfl (ws' := wd_Md_isComplete cI a_t a_t_w a_t_wKept a_t_saved a_t_past a_t_input a_t_n a_t_order a_t_numbers a_t_output i_t_pastMany i_t_isSaved q7.2 i_t_inputMany i_t_lastError i_t_lastOffset i_t_error i_t_offset i_t_nextByte i_t_begin i_t_value i_t_token i_t_got i_t_orders i_t_outputMany i_t_w) rfl 0 11 rfl rfl rfl (st := []) rfl (Nat.le_of_ble_eq_true rfl) rd_Md_isComplete_15 ?_ ⟨Nat.le_of_ble_eq_true rfl, Nat.le_of_ble_eq_true rfl⟩
    refine jk_if_eq (tgt := 25) C rd_Md_isComplete_18 (by decide) hf (fun _ hf => ?_) (fun _ hf => ?_)
    · refine jk_iconst C rd_Md_isComplete_25 ?_
      cases hf
      exact jk_zret C (Or.inl rfl) rfl rd_Md_isComplete_26 rfl
    · refine jk_iconst C rd_Md_isComplete_21 ?_
      refine jk_goto (tgt := 26) C rd_Md_isComplete_22 (by decide) ?_
      cases hf
      exact jk_zret C (Or.inr rfl) rfl rd_Md_isComplete_26 rfl
def wd_Md_totalOf (cI : ClassId) (a_t a_t_w a_t_wKept a_t_saved a_t_past a_t_input a_t_n a_t_order a_t_numbers a_t_output : Nat) (i_t_pastMany : Int) (i_t_isSaved : Int) (i_t_thrown : Int) (i_t_inputMany : Int) (i_t_lastError : Int) (i_t_lastOffset : Int) (i_t_error : Int) (i_t_offset : Int) (i_t_nextByte : Int) (i_t_begin : Int) (i_t_value : Int) (i_t_token : Int) (i_t_got : Int) (i_t_orders : Int) (i_t_outputMany : Int) (i_t_w : (Int → Int)) : va_W := [(a_t, .inr (11, [.ref a_t_w, .ref a_t_wKept, .ref a_t_saved, .ref a_t_past, jk_V i_t_pastMany, jk_V i_t_isSaved, jk_V i_t_thrown, .ref a_t_input, jk_V i_t_inputMany, jk_V i_t_lastError, jk_V i_t_lastOffset, jk_V i_t_error, jk_V i_t_offset, jk_V i_t_nextByte, jk_V i_t_begin, jk_V i_t_value, jk_V i_t_token, jk_V i_t_got, .ref a_t_n, .ref a_t_order, .ref a_t_numbers, jk_V i_t_orders, .ref a_t_output, jk_V i_t_outputMany])), (a_t_w, jk_W cI 259 i_t_w)]
set_option maxHeartbeats 4000000 in
set_option maxRecDepth 20000 in
theorem ct_Md_totalOf (l : Launch) (D : va_G) (Z : (Nat → Prop) → State → Heap → Prop) (sq : Nat → Nat) (hZ : jk_ZK Z sq) (cI cR : ClassId) (a_t a_t_w a_t_wKept a_t_saved a_t_past a_t_input a_t_n a_t_order a_t_numbers a_t_output : Nat) (i_t_pastMany : Int) (i_t_isSaved : Int) (i_t_thrown : Int) (i_t_inputMany : Int) (i_t_lastError : Int) (i_t_lastOffset : Int) (i_t_error : Int) (i_t_offset : Int) (i_t_nextByte : Int) (i_t_begin : Int) (i_t_value : Int) (i_t_token : Int) (i_t_got : Int) (i_t_orders : Int) (i_t_outputMany : Int) (i_t_w : (Int → Int)) (x1 : Int) (q : Int × Int) (hf : fn_Md_totalOf i_t_w i_t_thrown x1 = some q) : jk_MI l D jk_cl (jk_ty cI cR) Z mn_Md_totalOf (.code mn_Md_totalOf mb_Md_totalOf 2 (some .int) :: jk_WA) (jk_rm 4 87) [.ref a_t, jk_V x1] (wd_Md_totalOf cI a_t a_t_w a_t_wKept a_t_saved a_t_past a_t_input a_t_n a_t_order a_t_numbers a_t_output i_t_pastMany i_t_isSaved i_t_thrown i_t_inputMany i_t_lastError i_t_lastOffset i_t_error i_t_offset i_t_nextByte i_t_begin i_t_value i_t_token i_t_got i_t_orders i_t_outputMany i_t_w) (wd_Md_totalOf cI a_t a_t_w a_t_wKept a_t_saved a_t_past a_t_input a_t_n a_t_order a_t_numbers a_t_output i_t_pastMany i_t_isSaved q.2 i_t_inputMany i_t_lastError i_t_lastOffset i_t_error i_t_offset i_t_nextByte i_t_begin i_t_value i_t_token i_t_got i_t_orders i_t_outputMany i_t_w) q.1 := by
  intro sz
  refine jk_body (by decide +kernel) (fun p e s m args below meth c hsz hz hin C => ?_) (Nat.le_of_ble_eq_true rfl)
  subst hsz
  unfold fn_Md_totalOf at hf
  refine jk_aload_n C rd_Md_totalOf_0 (k := 0) rfl ?_
  refine jk_iconst C rd_Md_totalOf_1 ?_
  refine jk_putf C in_Md ty_Md nm_Md (ci := 11) rfl 6 (by decide) tm_1269 rfl rfl rfl 0 rfl (Nat.le_of_ble_eq_true rfl) rd_Md_totalOf_2 (ws' := wd_Md_totalOf cI a_t a_t_w a_t_wKept a_t_saved a_t_past a_t_input a_t_n a_t_order a_t_numbers a_t_output i_t_pastMany i_t_isSaved 0 i_t_inputMany i_t_lastError i_t_lastOffset i_t_error i_t_offset i_t_nextByte i_t_begin i_t_value i_t_token i_t_got i_t_orders i_t_outputMany i_t_w) rfl ?_
  refine jk_aload_n C rd_Md_totalOf_5 (k := 0) rfl ?_
  refine jk_iload_n C rd_Md_totalOf_6 (k := 1) rfl ?_
  obtain ⟨q7, hq7, hf⟩ := jk_bind_h hf
  refine jk_callVi C hZ.1 hz (ct_Md_noCord l D Z sq hZ cI cR a_t a_t_w a_t_wKept a_t_saved a_t_past a_t_input a_t_n a_t_order a_t_numbers a_t_output i_t_pastMany i_t_isSaved 0 i_t_inputMany i_t_lastError i_t_lastOffset i_t_error i_t_offset i_t_nextByte i_t_begin i_t_value i_t_token i_t_got i_t_orders i_t_outputMany i_t_w x1 q7 hq7) tm_1639 tm_1641 sl_86 tm_15 tm_1642 na_Md_noCord ⟨Nat.le_of_ble_eq_true rfl, Nat.le_of_ble_eq_true rfl⟩ rfl [0, 1] rfl rfl rfl (ws' := wd_Md_totalOf cI a_t a_t_w a_t_wKept a_t_saved a_t_past a_t_input a_t_n a_t_order a_t_numbers a_t_output i_t_pastMany i_t_isSaved q7.2 i_t_inputMany i_t_lastError i_t_lastOffset i_t_error i_t_offset i_t_nextByte i_t_begin i_t_value i_t_token i_t_got i_t_orders i_t_outputMany i_t_w) rfl 0 11 rfl rfl rfl (st := []) rfl (Nat.le_of_ble_eq_true rfl) rd_Md_totalOf_7 ?_ ⟨Nat.le_of_ble_eq_true rfl, Nat.le_of_ble_eq_true rfl⟩
  refine jk_if_ne (tgt := 34) C rd_Md_totalOf_10 (by decide) hf (fun _ hf => ?_) (fun _ hf => ?_)
  · refine jk_iconst C rd_Md_totalOf_34 ?_
    cases hf
    exact jk_iret C rfl rd_Md_totalOf_35 rfl
  · refine jk_aload_n C rd_Md_totalOf_13 (k := 0) rfl ?_
    refine jk_aload_n C rd_Md_totalOf_14 (k := 0) rfl ?_
    refine jk_iload_n C rd_Md_totalOf_15 (k := 1) rfl ?_
    obtain ⟨q16, hq16, hf⟩ := jk_bind_h hf
    refine jk_callVi C hZ.1 hz (ct_Md_isWhole l D Z sq hZ cI cR a_t a_t_w a_t_wKept a_t_saved a_t_past a_t_input a_t_n a_t_order a_t_numbers a_t_output i_t_pastMany i_t_isSaved q7.2 i_t_inputMany i_t_lastError i_t_lastOffset i_t_error i_t_offset i_t_nextByte i_t_begin i_t_value i_t_token i_t_got i_t_orders i_t_outputMany i_t_w x1 q16 hq16) tm_1771 tm_1773 sl_98 tm_15 tm_1774 na_Md_isWhole ⟨Nat.le_of_ble_eq_true rfl, Nat.le_of_ble_eq_true rfl⟩ rfl [0, 1] rfl rfl rfl (ws' := wd_Md_totalOf cI a_t a_t_w a_t_wKept a_t_saved a_t_past a_t_input a_t_n a_t_order a_t_numbers a_t_output i_t_pastMany i_t_isSaved q7.2 i_t_inputMany i_t_lastError i_t_lastOffset i_t_error i_t_offset i_t_nextByte i_t_begin i_t_value i_t_token i_t_got i_t_orders i_t_outputMany i_t_w) rfl 0 11 rfl rfl rfl (st := [.ref a_t]) rfl (Nat.le_of_ble_eq_true rfl) rd_Md_totalOf_16 ?_ ⟨Nat.le_of_ble_eq_true rfl, Nat.le_of_ble_eq_true rfl⟩
    refine jk_if_ne (tgt := 26) C rd_Md_totalOf_19 (by decide) hf (fun _ hf => ?_) (fun _ hf => ?_)
    · refine jk_iconst C rd_Md_totalOf_26 ?_
      refine jk_iconst C rd_Md_totalOf_27 ?_
      obtain ⟨q28, hq28, hf⟩ := jk_bind_h hf
      refine jk_callVi C hZ.1 hz (ct_Md_fails l D Z sq hZ cI cR a_t a_t_w a_t_wKept a_t_saved a_t_past a_t_input a_t_n a_t_order a_t_numbers a_t_output i_t_pastMany i_t_isSaved q7.2 i_t_inputMany i_t_lastError i_t_lastOffset i_t_error i_t_offset i_t_nextByte i_t_begin i_t_value i_t_token i_t_got i_t_orders i_t_outputMany 0 2 q28 hq28) tm_1643 tm_1645 sl_87 tm_15 tm_1646 na_Md_fails ⟨Nat.le_of_ble_eq_true rfl, Nat.le_of_ble_eq_true rfl⟩ rfl [0] rfl rfl rfl (ws' := wd_Md_totalOf cI a_t a_t_w a_t_wKept a_t_saved a_t_past a_t_input a_t_n a_t_order a_t_numbers a_t_output i_t_pastMany i_t_isSaved q28.2 i_t_inputMany i_t_lastError i_t_lastOffset i_t_error i_t_offset i_t_nextByte i_t_begin i_t_value i_t_token i_t_got i_t_orders i_t_outputMany i_t_w) rfl 0 11 rfl rfl rfl (st := []) rfl (Nat.le_of_ble_eq_true rfl) rd_Md_totalOf_28 ?_ ⟨Nat.le_of_ble_eq_true rfl, Nat.le_of_ble_eq_true rfl⟩
      refine jk_if_eq (tgt := 36) C rd_Md_totalOf_31 (by decide) hf (fun _ hf => ?_) (fun _ hf => ?_)
      · refine jk_aload_n C rd_Md_totalOf_36 (k := 0) rfl ?_
        refine jk_iload_n C rd_Md_totalOf_37 (k := 1) rfl ?_
        obtain ⟨q38, hq38, hf⟩ := jk_bind_h hf
        refine jk_callVi C hZ.1 hz (ct_Md_lowest l D Z sq hZ cI cR a_t a_t_w a_t_wKept a_t_saved a_t_past a_t_input a_t_n a_t_order a_t_numbers a_t_output i_t_pastMany i_t_isSaved q28.2 i_t_inputMany i_t_lastError i_t_lastOffset i_t_error i_t_offset i_t_nextByte i_t_begin i_t_value i_t_token i_t_got i_t_orders i_t_outputMany i_t_w x1 q38 hq38) tm_1683 tm_1685 sl_90 tm_15 tm_1686 na_Md_lowest ⟨Nat.le_of_ble_eq_true rfl, Nat.le_of_ble_eq_true rfl⟩ rfl [0, 1] rfl rfl rfl (ws' := wd_Md_totalOf cI a_t a_t_w a_t_wKept a_t_saved a_t_past a_t_input a_t_n a_t_order a_t_numbers a_t_output i_t_pastMany i_t_isSaved q28.2 i_t_inputMany i_t_lastError i_t_lastOffset i_t_error i_t_offset i_t_nextByte i_t_begin i_t_value i_t_token i_t_got i_t_orders i_t_outputMany i_t_w) rfl 0 11 rfl rfl rfl (st := []) rfl (Nat.le_of_ble_eq_true rfl) rd_Md_totalOf_38 ?_ ⟨Nat.le_of_ble_eq_true rfl, Nat.le_of_ble_eq_true rfl⟩
        cases hf
        exact jk_iret C rfl rd_Md_totalOf_41 rfl
      · refine jk_iconst C rd_Md_totalOf_34 ?_
        cases hf
        exact jk_iret C rfl rd_Md_totalOf_35 rfl
    · refine jk_iconst C rd_Md_totalOf_22 ?_
      refine jk_goto (tgt := 27) C rd_Md_totalOf_23 (by decide) ?_
      refine jk_iconst C rd_Md_totalOf_27 ?_
      obtain ⟨q28, hq28, hf⟩ := jk_bind_h hf
      refine jk_callVi C hZ.1 hz (ct_Md_fails l D Z sq hZ cI cR a_t a_t_w a_t_wKept a_t_saved a_t_past a_t_input a_t_n a_t_order a_t_numbers a_t_output i_t_pastMany i_t_isSaved q7.2 i_t_inputMany i_t_lastError i_t_lastOffset i_t_error i_t_offset i_t_nextByte i_t_begin i_t_value i_t_token i_t_got i_t_orders i_t_outputMany 1 2 q28 hq28) tm_1643 tm_1645 sl_87 tm_15 tm_1646 na_Md_fails ⟨Nat.le_of_ble_eq_true rfl, Nat.le_of_ble_eq_true rfl⟩ rfl [0] rfl rfl rfl (ws' := wd_Md_totalOf cI a_t a_t_w a_t_wKept a_t_saved a_t_past a_t_input a_t_n a_t_order a_t_numbers a_t_output i_t_pastMany i_t_isSaved q28.2 i_t_inputMany i_t_lastError i_t_lastOffset i_t_error i_t_offset i_t_nextByte i_t_begin i_t_value i_t_token i_t_got i_t_orders i_t_outputMany i_t_w) rfl 0 11 rfl rfl rfl (st := []) rfl (Nat.le_of_ble_eq_true rfl) rd_Md_totalOf_28 ?_ ⟨Nat.le_of_ble_eq_true rfl, Nat.le_of_ble_eq_true rfl⟩
      refine jk_if_eq (tgt := 36) C rd_Md_totalOf_31 (by decide) hf (fun _ hf => ?_) (fun _ hf => ?_)
      · refine jk_aload_n C rd_Md_totalOf_36 (k := 0) rfl ?_
        refine jk_iload_n C rd_Md_totalOf_37 (k := 1) rfl ?_
        obtain ⟨q38, hq38, hf⟩ := jk_bind_h hf
        refine jk_callVi C hZ.1 hz (ct_Md_lowest l D Z sq hZ cI cR a_t a_t_w a_t_wKept a_t_saved a_t_past a_t_input a_t_n a_t_order a_t_numbers a_t_output i_t_pastMany i_t_isSaved q28.2 i_t_inputMany i_t_lastError i_t_lastOffset i_t_error i_t_offset i_t_nextByte i_t_begin i_t_value i_t_token i_t_got i_t_orders i_t_outputMany i_t_w x1 q38 hq38) tm_1683 tm_1685 sl_90 tm_15 tm_1686 na_Md_lowest ⟨Nat.le_of_ble_eq_true rfl, Nat.le_of_ble_eq_true rfl⟩ rfl [0, 1] rfl rfl rfl (ws' := wd_Md_totalOf cI a_t a_t_w a_t_wKept a_t_saved a_t_past a_t_input a_t_n a_t_order a_t_numbers a_t_output i_t_pastMany i_t_isSaved q28.2 i_t_inputMany i_t_lastError i_t_lastOffset i_t_error i_t_offset i_t_nextByte i_t_begin i_t_value i_t_token i_t_got i_t_orders i_t_outputMany i_t_w) rfl 0 11 rfl rfl rfl (st := []) rfl (Nat.le_of_ble_eq_true rfl) rd_Md_totalOf_38 ?_ ⟨Nat.le_of_ble_eq_true rfl, Nat.le_of_ble_eq_true rfl⟩
        cases hf
        exact jk_iret C rfl rd_Md_totalOf_41 rfl
      · refine jk_iconst C rd_Md_totalOf_34 ?_
        cases hf
        exact jk_iret C rfl rd_Md_totalOf_35 rfl
