theorem rd_Row_get_0 : decode mb_Row_get 0 = .ok (.iload_n 1, 1) := by decide +kernel
theorem rd_Row_get_1 : decode mb_Row_get 1 = .ok (.ifCond .lt 21, 3) := by decide +kernel
theorem rd_Row_get_4 : decode mb_Row_get 4 = .ok (.iload_n 1, 1) := by decide +kernel
theorem rd_Row_get_5 : decode mb_Row_get 5 = .ok (.aload_n 0, 1) := by decide +kernel
theorem rd_Row_get_6 : decode mb_Row_get 6 = .ok (.getfield 7, 3) := by decide +kernel
theorem rd_Row_get_9 : decode mb_Row_get 9 = .ok (.arraylength, 1) := by decide +kernel
theorem rd_Row_get_10 : decode mb_Row_get 10 = .ok (.if_icmp .ge 12, 3) := by decide +kernel
theorem rd_Row_get_13 : decode mb_Row_get 13 = .ok (.aload_n 0, 1) := by decide +kernel
theorem rd_Row_get_14 : decode mb_Row_get 14 = .ok (.getfield 7, 3) := by decide +kernel
theorem rd_Row_get_17 : decode mb_Row_get 17 = .ok (.iload_n 1, 1) := by decide +kernel
theorem rd_Row_get_18 : decode mb_Row_get 18 = .ok (.iaload, 1) := by decide +kernel
theorem rd_Row_get_19 : decode mb_Row_get 19 = .ok (.goto 4, 3) := by decide +kernel
theorem rd_Row_get_22 : decode mb_Row_get 22 = .ok (.iconst 0, 1) := by decide +kernel
theorem rd_Row_get_23 : decode mb_Row_get 23 = .ok (.ireturn, 1) := by decide +kernel
theorem rd_Cords_clusterAt_0 : decode mb_Cords_clusterAt 0 = .ok (.iconst 0, 1) := by decide +kernel
theorem rd_Cords_clusterAt_1 : decode mb_Cords_clusterAt 1 = .ok (.istore_n 2, 1) := by decide +kernel
theorem rd_Cords_clusterAt_2 : decode mb_Cords_clusterAt 2 = .ok (.iconst 1, 1) := by decide +kernel
theorem rd_Cords_clusterAt_3 : decode mb_Cords_clusterAt 3 = .ok (.istore_n 3, 1) := by decide +kernel
theorem rd_Cords_clusterAt_4 : decode mb_Cords_clusterAt 4 = .ok (.iload_n 3, 1) := by decide +kernel
theorem rd_Cords_clusterAt_5 : decode mb_Cords_clusterAt 5 = .ok (.aload_n 0, 1) := by decide +kernel
theorem rd_Cords_clusterAt_6 : decode mb_Cords_clusterAt 6 = .ok (.getfield 9, 3) := by decide +kernel
theorem rd_Cords_clusterAt_9 : decode mb_Cords_clusterAt 9 = .ok (.if_icmp .ge 23, 3) := by decide +kernel
theorem rd_Cords_clusterAt_12 : decode mb_Cords_clusterAt 12 = .ok (.aload_n 0, 1) := by decide +kernel
theorem rd_Cords_clusterAt_13 : decode mb_Cords_clusterAt 13 = .ok (.getfield 23, 3) := by decide +kernel
theorem rd_Cords_clusterAt_16 : decode mb_Cords_clusterAt 16 = .ok (.iload_n 3, 1) := by decide +kernel
theorem rd_Cords_clusterAt_17 : decode mb_Cords_clusterAt 17 = .ok (.invokevirtual 43, 3) := by decide +kernel
theorem rd_Cords_clusterAt_20 : decode mb_Cords_clusterAt 20 = .ok (.iload_n 1, 1) := by decide +kernel
theorem rd_Cords_clusterAt_21 : decode mb_Cords_clusterAt 21 = .ok (.if_icmp .gt 5, 3) := by decide +kernel
theorem rd_Cords_clusterAt_24 : decode mb_Cords_clusterAt 24 = .ok (.iload_n 3, 1) := by decide +kernel
theorem rd_Cords_clusterAt_25 : decode mb_Cords_clusterAt 25 = .ok (.istore_n 2, 1) := by decide +kernel
theorem rd_Cords_clusterAt_26 : decode mb_Cords_clusterAt 26 = .ok (.iinc 3 1, 3) := by decide +kernel
theorem rd_Cords_clusterAt_29 : decode mb_Cords_clusterAt 29 = .ok (.goto (-25), 3) := by decide +kernel
theorem rd_Cords_clusterAt_32 : decode mb_Cords_clusterAt 32 = .ok (.iload_n 2, 1) := by decide +kernel
theorem rd_Cords_clusterAt_33 : decode mb_Cords_clusterAt 33 = .ok (.ireturn, 1) := by decide +kernel
theorem rd_Cords_end_0 : decode mb_Cords_end 0 = .ok (.aload_n 0, 1) := by decide +kernel
theorem rd_Cords_end_1 : decode mb_Cords_end 1 = .ok (.getfield 23, 3) := by decide +kernel
theorem rd_Cords_end_4 : decode mb_Cords_end 4 = .ok (.iload_n 1, 1) := by decide +kernel
theorem rd_Cords_end_5 : decode mb_Cords_end 5 = .ok (.iconst 1, 1) := by decide +kernel
theorem rd_Cords_end_6 : decode mb_Cords_end 6 = .ok (.iadd, 1) := by decide +kernel
theorem rd_Cords_end_7 : decode mb_Cords_end 7 = .ok (.invokevirtual 43, 3) := by decide +kernel
theorem rd_Cords_end_10 : decode mb_Cords_end 10 = .ok (.ireturn, 1) := by decide +kernel
theorem rd_Cords_start_0 : decode mb_Cords_start 0 = .ok (.aload_n 0, 1) := by decide +kernel
theorem rd_Cords_start_1 : decode mb_Cords_start 1 = .ok (.getfield 23, 3) := by decide +kernel
theorem rd_Cords_start_4 : decode mb_Cords_start 4 = .ok (.iload_n 1, 1) := by decide +kernel
theorem rd_Cords_start_5 : decode mb_Cords_start 5 = .ok (.invokevirtual 43, 3) := by decide +kernel
theorem rd_Cords_start_8 : decode mb_Cords_start 8 = .ok (.ireturn, 1) := by decide +kernel
theorem rd_Check_standsWell_0 : decode mb_Check_standsWell 0 = .ok (.aload_n 0, 1) := by decide +kernel
theorem rd_Check_standsWell_1 : decode mb_Check_standsWell 1 = .ok (.iload_n 1, 1) := by decide +kernel
theorem rd_Check_standsWell_2 : decode mb_Check_standsWell 2 = .ok (.invokevirtual 31, 3) := by decide +kernel
theorem rd_Check_standsWell_5 : decode mb_Check_standsWell 5 = .ok (.istore_n 2, 1) := by decide +kernel
theorem rd_Check_standsWell_6 : decode mb_Check_standsWell 6 = .ok (.iload_n 1, 1) := by decide +kernel
theorem rd_Check_standsWell_7 : decode mb_Check_standsWell 7 = .ok (.aload_n 0, 1) := by decide +kernel
theorem rd_Check_standsWell_8 : decode mb_Check_standsWell 8 = .ok (.iload_n 2, 1) := by decide +kernel
theorem rd_Check_standsWell_9 : decode mb_Check_standsWell 9 = .ok (.invokevirtual 19, 3) := by decide +kernel
theorem rd_Check_standsWell_12 : decode mb_Check_standsWell 12 = .ok (.if_icmp .lt 12, 3) := by decide +kernel
theorem rd_Check_standsWell_15 : decode mb_Check_standsWell 15 = .ok (.iload_n 1, 1) := by decide +kernel
theorem rd_Check_standsWell_16 : decode mb_Check_standsWell 16 = .ok (.aload_n 0, 1) := by decide +kernel
theorem rd_Check_standsWell_17 : decode mb_Check_standsWell 17 = .ok (.iload_n 2, 1) := by decide +kernel
theorem rd_Check_standsWell_18 : decode mb_Check_standsWell 18 = .ok (.invokevirtual 15, 3) := by decide +kernel
theorem rd_Check_standsWell_21 : decode mb_Check_standsWell 21 = .ok (.if_icmp .lt 5, 3) := by decide +kernel
theorem rd_Check_standsWell_24 : decode mb_Check_standsWell 24 = .ok (.iconst 0, 1) := by decide +kernel
theorem rd_Check_standsWell_25 : decode mb_Check_standsWell 25 = .ok (.ireturn, 1) := by decide +kernel
theorem rd_Check_standsWell_26 : decode mb_Check_standsWell 26 = .ok (.aload_n 0, 1) := by decide +kernel
theorem rd_Check_standsWell_27 : decode mb_Check_standsWell 27 = .ok (.getfield 34, 3) := by decide +kernel
theorem rd_Check_standsWell_30 : decode mb_Check_standsWell 30 = .ok (.iload_n 1, 1) := by decide +kernel
theorem rd_Check_standsWell_31 : decode mb_Check_standsWell 31 = .ok (.invokevirtual 38, 3) := by decide +kernel
theorem rd_Check_standsWell_34 : decode mb_Check_standsWell 34 = .ok (.istore_n 3, 1) := by decide +kernel
theorem rd_Check_standsWell_35 : decode mb_Check_standsWell 35 = .ok (.iload_n 1, 1) := by decide +kernel
theorem rd_Check_standsWell_36 : decode mb_Check_standsWell 36 = .ok (.aload_n 0, 1) := by decide +kernel
theorem rd_Check_standsWell_37 : decode mb_Check_standsWell 37 = .ok (.iload_n 2, 1) := by decide +kernel
theorem rd_Check_standsWell_38 : decode mb_Check_standsWell 38 = .ok (.invokevirtual 19, 3) := by decide +kernel
theorem rd_Check_standsWell_41 : decode mb_Check_standsWell 41 = .ok (.if_icmp .ne 18, 3) := by decide +kernel
theorem rd_Check_standsWell_44 : decode mb_Check_standsWell 44 = .ok (.iload_n 3, 1) := by decide +kernel
theorem rd_Check_standsWell_45 : decode mb_Check_standsWell 45 = .ok (.ifCond .eq 8, 3) := by decide +kernel
theorem rd_Check_standsWell_48 : decode mb_Check_standsWell 48 = .ok (.iload_n 3, 1) := by decide +kernel
theorem rd_Check_standsWell_49 : decode mb_Check_standsWell 49 = .ok (.iconst 1, 1) := by decide +kernel
theorem rd_Check_standsWell_50 : decode mb_Check_standsWell 50 = .ok (.if_icmp .ne 7, 3) := by decide +kernel
theorem rd_Check_standsWell_53 : decode mb_Check_standsWell 53 = .ok (.iconst 1, 1) := by decide +kernel
theorem rd_Check_standsWell_54 : decode mb_Check_standsWell 54 = .ok (.goto 4, 3) := by decide +kernel
theorem rd_Check_standsWell_57 : decode mb_Check_standsWell 57 = .ok (.iconst 0, 1) := by decide +kernel
theorem rd_Check_standsWell_58 : decode mb_Check_standsWell 58 = .ok (.ireturn, 1) := by decide +kernel
theorem rd_Check_standsWell_59 : decode mb_Check_standsWell 59 = .ok (.iload_n 3, 1) := by decide +kernel
theorem rd_Check_standsWell_60 : decode mb_Check_standsWell 60 = .ok (.iconst 1, 1) := by decide +kernel
theorem rd_Check_standsWell_61 : decode mb_Check_standsWell 61 = .ok (.if_icmp .lt 28, 3) := by decide +kernel
theorem rd_Check_standsWell_64 : decode mb_Check_standsWell 64 = .ok (.iload_n 3, 1) := by decide +kernel
theorem rd_Check_standsWell_65 : decode mb_Check_standsWell 65 = .ok (.iconst 3, 1) := by decide +kernel
theorem rd_Check_standsWell_66 : decode mb_Check_standsWell 66 = .ok (.if_icmp .gt 23, 3) := by decide +kernel
theorem rd_Check_standsWell_69 : decode mb_Check_standsWell 69 = .ok (.iload_n 3, 1) := by decide +kernel
theorem rd_Check_standsWell_70 : decode mb_Check_standsWell 70 = .ok (.aload_n 0, 1) := by decide +kernel
theorem rd_Check_standsWell_71 : decode mb_Check_standsWell 71 = .ok (.getfield 34, 3) := by decide +kernel
theorem rd_Check_standsWell_74 : decode mb_Check_standsWell 74 = .ok (.iload_n 1, 1) := by decide +kernel
theorem rd_Check_standsWell_75 : decode mb_Check_standsWell 75 = .ok (.iconst 1, 1) := by decide +kernel
theorem rd_Check_standsWell_76 : decode mb_Check_standsWell 76 = .ok (.isub, 1) := by decide +kernel
theorem rd_Check_standsWell_77 : decode mb_Check_standsWell 77 = .ok (.invokevirtual 38, 3) := by decide +kernel
theorem rd_Check_standsWell_80 : decode mb_Check_standsWell 80 = .ok (.iconst 1, 1) := by decide +kernel
theorem rd_Check_standsWell_81 : decode mb_Check_standsWell 81 = .ok (.iadd, 1) := by decide +kernel
theorem rd_Check_standsWell_82 : decode mb_Check_standsWell 82 = .ok (.if_icmp .gt 7, 3) := by decide +kernel
theorem rd_Check_standsWell_85 : decode mb_Check_standsWell 85 = .ok (.iconst 1, 1) := by decide +kernel
theorem rd_Check_standsWell_86 : decode mb_Check_standsWell 86 = .ok (.goto 4, 3) := by decide +kernel
theorem rd_Check_standsWell_89 : decode mb_Check_standsWell 89 = .ok (.iconst 0, 1) := by decide +kernel
theorem rd_Check_standsWell_90 : decode mb_Check_standsWell 90 = .ok (.ireturn, 1) := by decide +kernel
theorem rd_Check_order_0 : decode mb_Check_order 0 = .ok (.iconst 0, 1) := by decide +kernel
theorem rd_Check_order_1 : decode mb_Check_order 1 = .ok (.istore_n 1, 1) := by decide +kernel
theorem rd_Check_order_2 : decode mb_Check_order 2 = .ok (.iconst 0, 1) := by decide +kernel
theorem rd_Check_order_3 : decode mb_Check_order 3 = .ok (.istore_n 2, 1) := by decide +kernel
theorem rd_Check_order_4 : decode mb_Check_order 4 = .ok (.iload_n 2, 1) := by decide +kernel
theorem rd_Check_order_5 : decode mb_Check_order 5 = .ok (.aload_n 0, 1) := by decide +kernel
theorem rd_Check_order_6 : decode mb_Check_order 6 = .ok (.getfield 9, 3) := by decide +kernel
theorem rd_Check_order_9 : decode mb_Check_order 9 = .ok (.if_icmp .ge 23, 3) := by decide +kernel
theorem rd_Check_order_12 : decode mb_Check_order 12 = .ok (.iload_n 1, 1) := by decide +kernel
theorem rd_Check_order_13 : decode mb_Check_order 13 = .ok (.aload_n 0, 1) := by decide +kernel
theorem rd_Check_order_14 : decode mb_Check_order 14 = .ok (.iload_n 2, 1) := by decide +kernel
theorem rd_Check_order_15 : decode mb_Check_order 15 = .ok (.invokevirtual 15, 3) := by decide +kernel
theorem rd_Check_order_18 : decode mb_Check_order 18 = .ok (.aload_n 0, 1) := by decide +kernel
theorem rd_Check_order_19 : decode mb_Check_order 19 = .ok (.iload_n 2, 1) := by decide +kernel
theorem rd_Check_order_20 : decode mb_Check_order 20 = .ok (.invokevirtual 19, 3) := by decide +kernel
theorem rd_Check_order_23 : decode mb_Check_order 23 = .ok (.isub, 1) := by decide +kernel
theorem rd_Check_order_24 : decode mb_Check_order 24 = .ok (.iadd, 1) := by decide +kernel
theorem rd_Check_order_25 : decode mb_Check_order 25 = .ok (.istore_n 1, 1) := by decide +kernel
theorem rd_Check_order_26 : decode mb_Check_order 26 = .ok (.iinc 2 1, 3) := by decide +kernel
theorem rd_Check_order_29 : decode mb_Check_order 29 = .ok (.goto (-25), 3) := by decide +kernel
theorem rd_Check_order_32 : decode mb_Check_order 32 = .ok (.iconst 0, 1) := by decide +kernel
theorem rd_Check_order_33 : decode mb_Check_order 33 = .ok (.istore_n 2, 1) := by decide +kernel
theorem rd_Check_order_34 : decode mb_Check_order 34 = .ok (.iload_n 2, 1) := by decide +kernel
theorem rd_Check_order_35 : decode mb_Check_order 35 = .ok (.aload_n 0, 1) := by decide +kernel
theorem rd_Check_order_36 : decode mb_Check_order 36 = .ok (.getfield 22, 3) := by decide +kernel
theorem rd_Check_order_39 : decode mb_Check_order 39 = .ok (.if_icmp .ge 19, 3) := by decide +kernel
theorem rd_Check_order_42 : decode mb_Check_order 42 = .ok (.aload_n 0, 1) := by decide +kernel
theorem rd_Check_order_43 : decode mb_Check_order 43 = .ok (.iload_n 2, 1) := by decide +kernel
theorem rd_Check_order_44 : decode mb_Check_order 44 = .ok (.invokestatic 25, 3) := by decide +kernel
theorem rd_Check_order_47 : decode mb_Check_order 47 = .ok (.ifCond .ne 5, 3) := by decide +kernel
theorem rd_Check_order_50 : decode mb_Check_order 50 = .ok (.iconst 0, 1) := by decide +kernel
theorem rd_Check_order_51 : decode mb_Check_order 51 = .ok (.ireturn, 1) := by decide +kernel
theorem rd_Check_order_52 : decode mb_Check_order 52 = .ok (.iinc 2 1, 3) := by decide +kernel
theorem rd_Check_order_55 : decode mb_Check_order 55 = .ok (.goto (-21), 3) := by decide +kernel
theorem rd_Check_order_58 : decode mb_Check_order 58 = .ok (.iload_n 1, 1) := by decide +kernel
theorem rd_Check_order_59 : decode mb_Check_order 59 = .ok (.aload_n 0, 1) := by decide +kernel
theorem rd_Check_order_60 : decode mb_Check_order 60 = .ok (.getfield 22, 3) := by decide +kernel
theorem rd_Check_order_63 : decode mb_Check_order 63 = .ok (.if_icmp .ne 7, 3) := by decide +kernel
theorem rd_Check_order_66 : decode mb_Check_order 66 = .ok (.iconst 1, 1) := by decide +kernel
theorem rd_Check_order_67 : decode mb_Check_order 67 = .ok (.goto 4, 3) := by decide +kernel
theorem rd_Check_order_70 : decode mb_Check_order 70 = .ok (.iconst 0, 1) := by decide +kernel
theorem rd_Check_order_71 : decode mb_Check_order 71 = .ok (.ireturn, 1) := by decide +kernel
theorem rd_Cords_branchEnd_0 : decode mb_Cords_branchEnd 0 = .ok (.iload_n 1, 1) := by decide +kernel
theorem rd_Cords_branchEnd_1 : decode mb_Cords_branchEnd 1 = .ok (.iconst 1, 1) := by decide +kernel
theorem rd_Cords_branchEnd_2 : decode mb_Cords_branchEnd 2 = .ok (.iadd, 1) := by decide +kernel
theorem rd_Cords_branchEnd_3 : decode mb_Cords_branchEnd 3 = .ok (.istore_n 2, 1) := by decide +kernel
theorem rd_Cords_branchEnd_4 : decode mb_Cords_branchEnd 4 = .ok (.aload_n 0, 1) := by decide +kernel
theorem rd_Cords_branchEnd_5 : decode mb_Cords_branchEnd 5 = .ok (.getfield 27, 3) := by decide +kernel
theorem rd_Cords_branchEnd_8 : decode mb_Cords_branchEnd 8 = .ok (.iload_n 1, 1) := by decide +kernel
theorem rd_Cords_branchEnd_9 : decode mb_Cords_branchEnd 9 = .ok (.invokevirtual 43, 3) := by decide +kernel
theorem rd_Cords_branchEnd_12 : decode mb_Cords_branchEnd 12 = .ok (.ifCond .ne 5, 3) := by decide +kernel
theorem rd_Cords_branchEnd_15 : decode mb_Cords_branchEnd 15 = .ok (.iload_n 2, 1) := by decide +kernel
theorem rd_Cords_branchEnd_16 : decode mb_Cords_branchEnd 16 = .ok (.ireturn, 1) := by decide +kernel
theorem rd_Cords_branchEnd_17 : decode mb_Cords_branchEnd 17 = .ok (.iload_n 2, 1) := by decide +kernel
theorem rd_Cords_branchEnd_18 : decode mb_Cords_branchEnd 18 = .ok (.aload_n 0, 1) := by decide +kernel
theorem rd_Cords_branchEnd_19 : decode mb_Cords_branchEnd 19 = .ok (.getfield 15, 3) := by decide +kernel
theorem rd_Cords_branchEnd_22 : decode mb_Cords_branchEnd 22 = .ok (.if_icmp .ge 28, 3) := by decide +kernel
theorem rd_Cords_branchEnd_25 : decode mb_Cords_branchEnd 25 = .ok (.aload_n 0, 1) := by decide +kernel
theorem rd_Cords_branchEnd_26 : decode mb_Cords_branchEnd 26 = .ok (.getfield 27, 3) := by decide +kernel
theorem rd_Cords_branchEnd_29 : decode mb_Cords_branchEnd 29 = .ok (.iload_n 2, 1) := by decide +kernel
theorem rd_Cords_branchEnd_30 : decode mb_Cords_branchEnd 30 = .ok (.invokevirtual 43, 3) := by decide +kernel
theorem rd_Cords_branchEnd_33 : decode mb_Cords_branchEnd 33 = .ok (.aload_n 0, 1) := by decide +kernel
theorem rd_Cords_branchEnd_34 : decode mb_Cords_branchEnd 34 = .ok (.getfield 27, 3) := by decide +kernel
theorem rd_Cords_branchEnd_37 : decode mb_Cords_branchEnd 37 = .ok (.iload_n 1, 1) := by decide +kernel
theorem rd_Cords_branchEnd_38 : decode mb_Cords_branchEnd 38 = .ok (.invokevirtual 43, 3) := by decide +kernel
theorem rd_Cords_branchEnd_41 : decode mb_Cords_branchEnd 41 = .ok (.if_icmp .le 9, 3) := by decide +kernel
theorem rd_Cords_branchEnd_44 : decode mb_Cords_branchEnd 44 = .ok (.iinc 2 1, 3) := by decide +kernel
theorem rd_Cords_branchEnd_47 : decode mb_Cords_branchEnd 47 = .ok (.goto (-30), 3) := by decide +kernel
theorem rd_Cords_branchEnd_50 : decode mb_Cords_branchEnd 50 = .ok (.iload_n 2, 1) := by decide +kernel
theorem rd_Cords_branchEnd_51 : decode mb_Cords_branchEnd 51 = .ok (.ireturn, 1) := by decide +kernel
theorem rd_Check_totalByRecursion_0 : decode mb_Check_totalByRecursion 0 = .ok (.aload_n 0, 1) := by decide +kernel
theorem rd_Check_totalByRecursion_1 : decode mb_Check_totalByRecursion 1 = .ok (.getfield 60, 3) := by decide +kernel
theorem rd_Check_totalByRecursion_4 : decode mb_Check_totalByRecursion 4 = .ok (.iload_n 1, 1) := by decide +kernel
theorem rd_Check_totalByRecursion_5 : decode mb_Check_totalByRecursion 5 = .ok (.invokevirtual 38, 3) := by decide +kernel
theorem rd_Check_totalByRecursion_8 : decode mb_Check_totalByRecursion 8 = .ok (.istore_n 3, 1) := by decide +kernel
theorem rd_Check_totalByRecursion_9 : decode mb_Check_totalByRecursion 9 = .ok (.iload_n 2, 1) := by decide +kernel
theorem rd_Check_totalByRecursion_10 : decode mb_Check_totalByRecursion 10 = .ok (.iconst 3, 1) := by decide +kernel
theorem rd_Check_totalByRecursion_11 : decode mb_Check_totalByRecursion 11 = .ok (.if_icmp .lt 5, 3) := by decide +kernel
theorem rd_Check_totalByRecursion_14 : decode mb_Check_totalByRecursion 14 = .ok (.iload_n 3, 1) := by decide +kernel
theorem rd_Check_totalByRecursion_15 : decode mb_Check_totalByRecursion 15 = .ok (.ireturn, 1) := by decide +kernel
theorem rd_Check_totalByRecursion_16 : decode mb_Check_totalByRecursion 16 = .ok (.aload_n 0, 1) := by decide +kernel
theorem rd_Check_totalByRecursion_17 : decode mb_Check_totalByRecursion 17 = .ok (.iload_n 1, 1) := by decide +kernel
theorem rd_Check_totalByRecursion_18 : decode mb_Check_totalByRecursion 18 = .ok (.invokevirtual 43, 3) := by decide +kernel
theorem rd_Check_totalByRecursion_21 : decode mb_Check_totalByRecursion 21 = .ok (.istore 4, 2) := by decide +kernel
theorem rd_Check_totalByRecursion_23 : decode mb_Check_totalByRecursion 23 = .ok (.iload_n 1, 1) := by decide +kernel
theorem rd_Check_totalByRecursion_24 : decode mb_Check_totalByRecursion 24 = .ok (.iconst 1, 1) := by decide +kernel
theorem rd_Check_totalByRecursion_25 : decode mb_Check_totalByRecursion 25 = .ok (.iadd, 1) := by decide +kernel
theorem rd_Check_totalByRecursion_26 : decode mb_Check_totalByRecursion 26 = .ok (.istore 5, 2) := by decide +kernel
theorem rd_Check_totalByRecursion_28 : decode mb_Check_totalByRecursion 28 = .ok (.iload 5, 2) := by decide +kernel
theorem rd_Check_totalByRecursion_30 : decode mb_Check_totalByRecursion 30 = .ok (.iload 4, 2) := by decide +kernel
theorem rd_Check_totalByRecursion_32 : decode mb_Check_totalByRecursion 32 = .ok (.if_icmp .ge 36, 3) := by decide +kernel
theorem rd_Check_totalByRecursion_35 : decode mb_Check_totalByRecursion 35 = .ok (.aload_n 0, 1) := by decide +kernel
theorem rd_Check_totalByRecursion_36 : decode mb_Check_totalByRecursion 36 = .ok (.getfield 34, 3) := by decide +kernel
theorem rd_Check_totalByRecursion_39 : decode mb_Check_totalByRecursion 39 = .ok (.iload 5, 2) := by decide +kernel
theorem rd_Check_totalByRecursion_41 : decode mb_Check_totalByRecursion 41 = .ok (.invokevirtual 38, 3) := by decide +kernel
theorem rd_Check_totalByRecursion_44 : decode mb_Check_totalByRecursion 44 = .ok (.iload_n 2, 1) := by decide +kernel
theorem rd_Check_totalByRecursion_45 : decode mb_Check_totalByRecursion 45 = .ok (.iconst 1, 1) := by decide +kernel
theorem rd_Check_totalByRecursion_46 : decode mb_Check_totalByRecursion 46 = .ok (.iadd, 1) := by decide +kernel
theorem rd_Check_totalByRecursion_47 : decode mb_Check_totalByRecursion 47 = .ok (.if_icmp .ne 15, 3) := by decide +kernel
theorem rd_Check_totalByRecursion_50 : decode mb_Check_totalByRecursion 50 = .ok (.iload_n 3, 1) := by decide +kernel
theorem rd_Check_totalByRecursion_51 : decode mb_Check_totalByRecursion 51 = .ok (.aload_n 0, 1) := by decide +kernel
theorem rd_Check_totalByRecursion_52 : decode mb_Check_totalByRecursion 52 = .ok (.iload 5, 2) := by decide +kernel
theorem rd_Check_totalByRecursion_54 : decode mb_Check_totalByRecursion 54 = .ok (.iload_n 2, 1) := by decide +kernel
theorem rd_Check_totalByRecursion_55 : decode mb_Check_totalByRecursion 55 = .ok (.iconst 1, 1) := by decide +kernel
theorem rd_Check_totalByRecursion_56 : decode mb_Check_totalByRecursion 56 = .ok (.iadd, 1) := by decide +kernel
theorem rd_Check_totalByRecursion_57 : decode mb_Check_totalByRecursion 57 = .ok (.invokestatic 56, 3) := by decide +kernel
theorem rd_Check_totalByRecursion_60 : decode mb_Check_totalByRecursion 60 = .ok (.iadd, 1) := by decide +kernel
theorem rd_Check_totalByRecursion_61 : decode mb_Check_totalByRecursion 61 = .ok (.istore_n 3, 1) := by decide +kernel
theorem rd_Check_totalByRecursion_62 : decode mb_Check_totalByRecursion 62 = .ok (.iinc 5 1, 3) := by decide +kernel
theorem rd_Check_totalByRecursion_65 : decode mb_Check_totalByRecursion 65 = .ok (.goto (-37), 3) := by decide +kernel
theorem rd_Check_totalByRecursion_68 : decode mb_Check_totalByRecursion 68 = .ok (.iload_n 3, 1) := by decide +kernel
theorem rd_Check_totalByRecursion_69 : decode mb_Check_totalByRecursion 69 = .ok (.ireturn, 1) := by decide +kernel
theorem rd_Knots_power_0 : decode mb_Knots_power 0 = .ok (.iload_n 0, 1) := by decide +kernel
theorem rd_Knots_power_1 : decode mb_Knots_power 1 = .ok (.tableswitch 43 0 3 #[31, 33, 36, 39], 31) := by decide +kernel
theorem rd_Knots_power_32 : decode mb_Knots_power 32 = .ok (.iconst 1, 1) := by decide +kernel
theorem rd_Knots_power_33 : decode mb_Knots_power 33 = .ok (.ireturn, 1) := by decide +kernel
theorem rd_Knots_power_34 : decode mb_Knots_power 34 = .ok (.bipush 10, 2) := by decide +kernel
theorem rd_Knots_power_36 : decode mb_Knots_power 36 = .ok (.ireturn, 1) := by decide +kernel
theorem rd_Knots_power_37 : decode mb_Knots_power 37 = .ok (.bipush 100, 2) := by decide +kernel
theorem rd_Knots_power_39 : decode mb_Knots_power 39 = .ok (.ireturn, 1) := by decide +kernel
theorem rd_Knots_power_40 : decode mb_Knots_power 40 = .ok (.sipush 1000, 3) := by decide +kernel
theorem rd_Knots_power_43 : decode mb_Knots_power 43 = .ok (.ireturn, 1) := by decide +kernel
theorem rd_Knots_power_44 : decode mb_Knots_power 44 = .ok (.sipush 10000, 3) := by decide +kernel
theorem rd_Knots_power_47 : decode mb_Knots_power 47 = .ok (.ireturn, 1) := by decide +kernel
theorem rd_Cords_highestSum_0 : decode mb_Cords_highestSum 0 = .ok (.iconst 0, 1) := by decide +kernel
theorem rd_Cords_highestSum_1 : decode mb_Cords_highestSum 1 = .ok (.istore_n 3, 1) := by decide +kernel
theorem rd_Cords_highestSum_2 : decode mb_Cords_highestSum 2 = .ok (.iload_n 1, 1) := by decide +kernel
theorem rd_Cords_highestSum_3 : decode mb_Cords_highestSum 3 = .ok (.istore 4, 2) := by decide +kernel
theorem rd_Cords_highestSum_5 : decode mb_Cords_highestSum 5 = .ok (.iload 4, 2) := by decide +kernel
theorem rd_Cords_highestSum_7 : decode mb_Cords_highestSum 7 = .ok (.iload_n 2, 1) := by decide +kernel
theorem rd_Cords_highestSum_8 : decode mb_Cords_highestSum 8 = .ok (.if_icmp .ge 36, 3) := by decide +kernel
theorem rd_Cords_highestSum_11 : decode mb_Cords_highestSum 11 = .ok (.iload_n 3, 1) := by decide +kernel
theorem rd_Cords_highestSum_12 : decode mb_Cords_highestSum 12 = .ok (.aload_n 0, 1) := by decide +kernel
theorem rd_Cords_highestSum_13 : decode mb_Cords_highestSum 13 = .ok (.getfield 33, 3) := by decide +kernel
theorem rd_Cords_highestSum_16 : decode mb_Cords_highestSum 16 = .ok (.iload 4, 2) := by decide +kernel
theorem rd_Cords_highestSum_18 : decode mb_Cords_highestSum 18 = .ok (.invokevirtual 43, 3) := by decide +kernel
theorem rd_Cords_highestSum_21 : decode mb_Cords_highestSum 21 = .ok (.aload_n 0, 1) := by decide +kernel
theorem rd_Cords_highestSum_22 : decode mb_Cords_highestSum 22 = .ok (.getfield 36, 3) := by decide +kernel
theorem rd_Cords_highestSum_25 : decode mb_Cords_highestSum 25 = .ok (.iload 4, 2) := by decide +kernel
theorem rd_Cords_highestSum_27 : decode mb_Cords_highestSum 27 = .ok (.invokevirtual 43, 3) := by decide +kernel
theorem rd_Cords_highestSum_30 : decode mb_Cords_highestSum 30 = .ok (.invokestatic 54, 3) := by decide +kernel
theorem rd_Cords_highestSum_33 : decode mb_Cords_highestSum 33 = .ok (.iadd, 1) := by decide +kernel
theorem rd_Cords_highestSum_34 : decode mb_Cords_highestSum 34 = .ok (.iconst 1, 1) := by decide +kernel
theorem rd_Cords_highestSum_35 : decode mb_Cords_highestSum 35 = .ok (.isub, 1) := by decide +kernel
theorem rd_Cords_highestSum_36 : decode mb_Cords_highestSum 36 = .ok (.iadd, 1) := by decide +kernel
theorem rd_Cords_highestSum_37 : decode mb_Cords_highestSum 37 = .ok (.istore_n 3, 1) := by decide +kernel
theorem rd_Cords_highestSum_38 : decode mb_Cords_highestSum 38 = .ok (.iinc 4 1, 3) := by decide +kernel
theorem rd_Cords_highestSum_41 : decode mb_Cords_highestSum 41 = .ok (.goto (-36), 3) := by decide +kernel
theorem rd_Cords_highestSum_44 : decode mb_Cords_highestSum 44 = .ok (.iload_n 3, 1) := by decide +kernel
theorem rd_Cords_highestSum_45 : decode mb_Cords_highestSum 45 = .ok (.ireturn, 1) := by decide +kernel
theorem rd_Cords_lowestSum_0 : decode mb_Cords_lowestSum 0 = .ok (.iconst 0, 1) := by decide +kernel
theorem rd_Cords_lowestSum_1 : decode mb_Cords_lowestSum 1 = .ok (.istore_n 3, 1) := by decide +kernel
theorem rd_Cords_lowestSum_2 : decode mb_Cords_lowestSum 2 = .ok (.iload_n 1, 1) := by decide +kernel
theorem rd_Cords_lowestSum_3 : decode mb_Cords_lowestSum 3 = .ok (.istore 4, 2) := by decide +kernel
theorem rd_Cords_lowestSum_5 : decode mb_Cords_lowestSum 5 = .ok (.iload 4, 2) := by decide +kernel
theorem rd_Cords_lowestSum_7 : decode mb_Cords_lowestSum 7 = .ok (.iload_n 2, 1) := by decide +kernel
theorem rd_Cords_lowestSum_8 : decode mb_Cords_lowestSum 8 = .ok (.if_icmp .ge 21, 3) := by decide +kernel
theorem rd_Cords_lowestSum_11 : decode mb_Cords_lowestSum 11 = .ok (.iload_n 3, 1) := by decide +kernel
theorem rd_Cords_lowestSum_12 : decode mb_Cords_lowestSum 12 = .ok (.aload_n 0, 1) := by decide +kernel
theorem rd_Cords_lowestSum_13 : decode mb_Cords_lowestSum 13 = .ok (.getfield 33, 3) := by decide +kernel
theorem rd_Cords_lowestSum_16 : decode mb_Cords_lowestSum 16 = .ok (.iload 4, 2) := by decide +kernel
theorem rd_Cords_lowestSum_18 : decode mb_Cords_lowestSum 18 = .ok (.invokevirtual 43, 3) := by decide +kernel
theorem rd_Cords_lowestSum_21 : decode mb_Cords_lowestSum 21 = .ok (.iadd, 1) := by decide +kernel
theorem rd_Cords_lowestSum_22 : decode mb_Cords_lowestSum 22 = .ok (.istore_n 3, 1) := by decide +kernel
theorem rd_Cords_lowestSum_23 : decode mb_Cords_lowestSum 23 = .ok (.iinc 4 1, 3) := by decide +kernel
theorem rd_Cords_lowestSum_26 : decode mb_Cords_lowestSum 26 = .ok (.goto (-21), 3) := by decide +kernel
theorem rd_Cords_lowestSum_29 : decode mb_Cords_lowestSum 29 = .ok (.iload_n 3, 1) := by decide +kernel
theorem rd_Cords_lowestSum_30 : decode mb_Cords_lowestSum 30 = .ok (.ireturn, 1) := by decide +kernel
theorem rd_Cords_nibbledAmong_0 : decode mb_Cords_nibbledAmong 0 = .ok (.iconst 0, 1) := by decide +kernel
theorem rd_Cords_nibbledAmong_1 : decode mb_Cords_nibbledAmong 1 = .ok (.istore_n 3, 1) := by decide +kernel
theorem rd_Cords_nibbledAmong_2 : decode mb_Cords_nibbledAmong 2 = .ok (.iload_n 1, 1) := by decide +kernel
theorem rd_Cords_nibbledAmong_3 : decode mb_Cords_nibbledAmong 3 = .ok (.istore 4, 2) := by decide +kernel
theorem rd_Cords_nibbledAmong_5 : decode mb_Cords_nibbledAmong 5 = .ok (.iload 4, 2) := by decide +kernel
theorem rd_Cords_nibbledAmong_7 : decode mb_Cords_nibbledAmong 7 = .ok (.iload_n 2, 1) := by decide +kernel
theorem rd_Cords_nibbledAmong_8 : decode mb_Cords_nibbledAmong 8 = .ok (.if_icmp .ge 24, 3) := by decide +kernel
theorem rd_Cords_nibbledAmong_11 : decode mb_Cords_nibbledAmong 11 = .ok (.aload_n 0, 1) := by decide +kernel
theorem rd_Cords_nibbledAmong_12 : decode mb_Cords_nibbledAmong 12 = .ok (.getfield 36, 3) := by decide +kernel
theorem rd_Cords_nibbledAmong_15 : decode mb_Cords_nibbledAmong 15 = .ok (.iload 4, 2) := by decide +kernel
theorem rd_Cords_nibbledAmong_17 : decode mb_Cords_nibbledAmong 17 = .ok (.invokevirtual 43, 3) := by decide +kernel
theorem rd_Cords_nibbledAmong_20 : decode mb_Cords_nibbledAmong 20 = .ok (.ifCond .le 6, 3) := by decide +kernel
theorem rd_Cords_nibbledAmong_23 : decode mb_Cords_nibbledAmong 23 = .ok (.iinc 3 1, 3) := by decide +kernel
theorem rd_Cords_nibbledAmong_26 : decode mb_Cords_nibbledAmong 26 = .ok (.iinc 4 1, 3) := by decide +kernel
theorem rd_Cords_nibbledAmong_29 : decode mb_Cords_nibbledAmong 29 = .ok (.goto (-24), 3) := by decide +kernel
theorem rd_Cords_nibbledAmong_32 : decode mb_Cords_nibbledAmong 32 = .ok (.iload_n 3, 1) := by decide +kernel
theorem rd_Cords_nibbledAmong_33 : decode mb_Cords_nibbledAmong 33 = .ok (.ireturn, 1) := by decide +kernel
theorem rd_Check_branches_0 : decode mb_Check_branches 0 = .ok (.iconst 0, 1) := by decide +kernel
theorem rd_Check_branches_1 : decode mb_Check_branches 1 = .ok (.istore_n 1, 1) := by decide +kernel
theorem rd_Check_branches_2 : decode mb_Check_branches 2 = .ok (.iload_n 1, 1) := by decide +kernel
theorem rd_Check_branches_3 : decode mb_Check_branches 3 = .ok (.aload_n 0, 1) := by decide +kernel
theorem rd_Check_branches_4 : decode mb_Check_branches 4 = .ok (.getfield 22, 3) := by decide +kernel
theorem rd_Check_branches_7 : decode mb_Check_branches 7 = .ok (.if_icmp .ge 79, 3) := by decide +kernel
theorem rd_Check_branches_10 : decode mb_Check_branches 10 = .ok (.aload_n 0, 1) := by decide +kernel
theorem rd_Check_branches_11 : decode mb_Check_branches 11 = .ok (.iload_n 1, 1) := by decide +kernel
theorem rd_Check_branches_12 : decode mb_Check_branches 12 = .ok (.invokevirtual 43, 3) := by decide +kernel
theorem rd_Check_branches_15 : decode mb_Check_branches 15 = .ok (.istore_n 2, 1) := by decide +kernel
theorem rd_Check_branches_16 : decode mb_Check_branches 16 = .ok (.aload_n 0, 1) := by decide +kernel
theorem rd_Check_branches_17 : decode mb_Check_branches 17 = .ok (.iload_n 1, 1) := by decide +kernel
theorem rd_Check_branches_18 : decode mb_Check_branches 18 = .ok (.iload_n 2, 1) := by decide +kernel
theorem rd_Check_branches_19 : decode mb_Check_branches 19 = .ok (.invokevirtual 46, 3) := by decide +kernel
theorem rd_Check_branches_22 : decode mb_Check_branches 22 = .ok (.istore_n 3, 1) := by decide +kernel
theorem rd_Check_branches_23 : decode mb_Check_branches 23 = .ok (.aload_n 0, 1) := by decide +kernel
theorem rd_Check_branches_24 : decode mb_Check_branches 24 = .ok (.iload_n 1, 1) := by decide +kernel
theorem rd_Check_branches_25 : decode mb_Check_branches 25 = .ok (.iload_n 2, 1) := by decide +kernel
theorem rd_Check_branches_26 : decode mb_Check_branches 26 = .ok (.invokevirtual 50, 3) := by decide +kernel
theorem rd_Check_branches_29 : decode mb_Check_branches 29 = .ok (.ifCond .ne 7, 3) := by decide +kernel
theorem rd_Check_branches_32 : decode mb_Check_branches 32 = .ok (.iconst 1, 1) := by decide +kernel
theorem rd_Check_branches_33 : decode mb_Check_branches 33 = .ok (.goto 4, 3) := by decide +kernel
theorem rd_Check_branches_36 : decode mb_Check_branches 36 = .ok (.iconst 0, 1) := by decide +kernel
theorem rd_Check_branches_37 : decode mb_Check_branches 37 = .ok (.istore 4, 2) := by decide +kernel
theorem rd_Check_branches_39 : decode mb_Check_branches 39 = .ok (.iload_n 3, 1) := by decide +kernel
theorem rd_Check_branches_40 : decode mb_Check_branches 40 = .ok (.aload_n 0, 1) := by decide +kernel
theorem rd_Check_branches_41 : decode mb_Check_branches 41 = .ok (.iload_n 1, 1) := by decide +kernel
theorem rd_Check_branches_42 : decode mb_Check_branches 42 = .ok (.iload_n 2, 1) := by decide +kernel
theorem rd_Check_branches_43 : decode mb_Check_branches 43 = .ok (.invokevirtual 53, 3) := by decide +kernel
theorem rd_Check_branches_46 : decode mb_Check_branches 46 = .ok (.if_icmp .ne 7, 3) := by decide +kernel
theorem rd_Check_branches_49 : decode mb_Check_branches 49 = .ok (.iconst 1, 1) := by decide +kernel
theorem rd_Check_branches_50 : decode mb_Check_branches 50 = .ok (.goto 4, 3) := by decide +kernel
theorem rd_Check_branches_53 : decode mb_Check_branches 53 = .ok (.iconst 0, 1) := by decide +kernel
theorem rd_Check_branches_54 : decode mb_Check_branches 54 = .ok (.iload 4, 2) := by decide +kernel
theorem rd_Check_branches_56 : decode mb_Check_branches 56 = .ok (.if_icmp .eq 5, 3) := by decide +kernel
theorem rd_Check_branches_59 : decode mb_Check_branches 59 = .ok (.iconst 0, 1) := by decide +kernel
theorem rd_Check_branches_60 : decode mb_Check_branches 60 = .ok (.ireturn, 1) := by decide +kernel
theorem rd_Check_branches_61 : decode mb_Check_branches 61 = .ok (.iload_n 3, 1) := by decide +kernel
theorem rd_Check_branches_62 : decode mb_Check_branches 62 = .ok (.aload_n 0, 1) := by decide +kernel
theorem rd_Check_branches_63 : decode mb_Check_branches 63 = .ok (.iload_n 1, 1) := by decide +kernel
theorem rd_Check_branches_64 : decode mb_Check_branches 64 = .ok (.aload_n 0, 1) := by decide +kernel
theorem rd_Check_branches_65 : decode mb_Check_branches 65 = .ok (.getfield 34, 3) := by decide +kernel
theorem rd_Check_branches_68 : decode mb_Check_branches 68 = .ok (.iload_n 1, 1) := by decide +kernel
theorem rd_Check_branches_69 : decode mb_Check_branches 69 = .ok (.invokevirtual 38, 3) := by decide +kernel
theorem rd_Check_branches_72 : decode mb_Check_branches 72 = .ok (.invokestatic 56, 3) := by decide +kernel
theorem rd_Check_branches_75 : decode mb_Check_branches 75 = .ok (.if_icmp .eq 5, 3) := by decide +kernel
theorem rd_Check_branches_78 : decode mb_Check_branches 78 = .ok (.iconst 0, 1) := by decide +kernel
theorem rd_Check_branches_79 : decode mb_Check_branches 79 = .ok (.ireturn, 1) := by decide +kernel
theorem rd_Check_branches_80 : decode mb_Check_branches 80 = .ok (.iinc 1 1, 3) := by decide +kernel
theorem rd_Check_branches_83 : decode mb_Check_branches 83 = .ok (.goto (-81), 3) := by decide +kernel
theorem rd_Check_branches_86 : decode mb_Check_branches 86 = .ok (.iconst 1, 1) := by decide +kernel
theorem rd_Check_branches_87 : decode mb_Check_branches 87 = .ok (.ireturn, 1) := by decide +kernel
theorem rd_Check_sumByRecursion_0 : decode mb_Check_sumByRecursion 0 = .ok (.iconst 0, 1) := by decide +kernel
theorem rd_Check_sumByRecursion_1 : decode mb_Check_sumByRecursion 1 = .ok (.istore_n 2, 1) := by decide +kernel
theorem rd_Check_sumByRecursion_2 : decode mb_Check_sumByRecursion 2 = .ok (.aload_n 0, 1) := by decide +kernel
theorem rd_Check_sumByRecursion_3 : decode mb_Check_sumByRecursion 3 = .ok (.iload_n 1, 1) := by decide +kernel
theorem rd_Check_sumByRecursion_4 : decode mb_Check_sumByRecursion 4 = .ok (.invokevirtual 15, 3) := by decide +kernel
theorem rd_Check_sumByRecursion_7 : decode mb_Check_sumByRecursion 7 = .ok (.istore_n 3, 1) := by decide +kernel
theorem rd_Check_sumByRecursion_8 : decode mb_Check_sumByRecursion 8 = .ok (.aload_n 0, 1) := by decide +kernel
theorem rd_Check_sumByRecursion_9 : decode mb_Check_sumByRecursion 9 = .ok (.iload_n 1, 1) := by decide +kernel
theorem rd_Check_sumByRecursion_10 : decode mb_Check_sumByRecursion 10 = .ok (.invokevirtual 19, 3) := by decide +kernel
theorem rd_Check_sumByRecursion_13 : decode mb_Check_sumByRecursion 13 = .ok (.istore 4, 2) := by decide +kernel
theorem rd_Check_sumByRecursion_15 : decode mb_Check_sumByRecursion 15 = .ok (.iload 4, 2) := by decide +kernel
theorem rd_Check_sumByRecursion_17 : decode mb_Check_sumByRecursion 17 = .ok (.iload_n 3, 1) := by decide +kernel
theorem rd_Check_sumByRecursion_18 : decode mb_Check_sumByRecursion 18 = .ok (.if_icmp .ge 32, 3) := by decide +kernel
theorem rd_Check_sumByRecursion_21 : decode mb_Check_sumByRecursion 21 = .ok (.aload_n 0, 1) := by decide +kernel
theorem rd_Check_sumByRecursion_22 : decode mb_Check_sumByRecursion 22 = .ok (.getfield 34, 3) := by decide +kernel
theorem rd_Check_sumByRecursion_25 : decode mb_Check_sumByRecursion 25 = .ok (.iload 4, 2) := by decide +kernel
theorem rd_Check_sumByRecursion_27 : decode mb_Check_sumByRecursion 27 = .ok (.invokevirtual 38, 3) := by decide +kernel
theorem rd_Check_sumByRecursion_30 : decode mb_Check_sumByRecursion 30 = .ok (.iconst 1, 1) := by decide +kernel
theorem rd_Check_sumByRecursion_31 : decode mb_Check_sumByRecursion 31 = .ok (.if_icmp .ne 13, 3) := by decide +kernel
theorem rd_Check_sumByRecursion_34 : decode mb_Check_sumByRecursion 34 = .ok (.iload_n 2, 1) := by decide +kernel
theorem rd_Check_sumByRecursion_35 : decode mb_Check_sumByRecursion 35 = .ok (.aload_n 0, 1) := by decide +kernel
theorem rd_Check_sumByRecursion_36 : decode mb_Check_sumByRecursion 36 = .ok (.iload 4, 2) := by decide +kernel
theorem rd_Check_sumByRecursion_38 : decode mb_Check_sumByRecursion 38 = .ok (.iconst 1, 1) := by decide +kernel
theorem rd_Check_sumByRecursion_39 : decode mb_Check_sumByRecursion 39 = .ok (.invokestatic 56, 3) := by decide +kernel
theorem rd_Check_sumByRecursion_42 : decode mb_Check_sumByRecursion 42 = .ok (.iadd, 1) := by decide +kernel
theorem rd_Check_sumByRecursion_43 : decode mb_Check_sumByRecursion 43 = .ok (.istore_n 2, 1) := by decide +kernel
theorem rd_Check_sumByRecursion_44 : decode mb_Check_sumByRecursion 44 = .ok (.iinc 4 1, 3) := by decide +kernel
theorem rd_Check_sumByRecursion_47 : decode mb_Check_sumByRecursion 47 = .ok (.goto (-32), 3) := by decide +kernel
theorem rd_Check_sumByRecursion_50 : decode mb_Check_sumByRecursion 50 = .ok (.iload_n 2, 1) := by decide +kernel
theorem rd_Check_sumByRecursion_51 : decode mb_Check_sumByRecursion 51 = .ok (.ireturn, 1) := by decide +kernel
theorem rd_Cords_pendantStart_0 : decode mb_Cords_pendantStart 0 = .ok (.aload_n 0, 1) := by decide +kernel
theorem rd_Cords_pendantStart_1 : decode mb_Cords_pendantStart 1 = .ok (.getfield 23, 3) := by decide +kernel
theorem rd_Cords_pendantStart_4 : decode mb_Cords_pendantStart 4 = .ok (.iload_n 1, 1) := by decide +kernel
theorem rd_Cords_pendantStart_5 : decode mb_Cords_pendantStart 5 = .ok (.invokevirtual 43, 3) := by decide +kernel
theorem rd_Cords_pendantStart_8 : decode mb_Cords_pendantStart 8 = .ok (.istore_n 2, 1) := by decide +kernel
theorem rd_Cords_pendantStart_9 : decode mb_Cords_pendantStart 9 = .ok (.iload_n 2, 1) := by decide +kernel
theorem rd_Cords_pendantStart_10 : decode mb_Cords_pendantStart 10 = .ok (.aload_n 0, 1) := by decide +kernel
theorem rd_Cords_pendantStart_11 : decode mb_Cords_pendantStart 11 = .ok (.getfield 23, 3) := by decide +kernel
theorem rd_Cords_pendantStart_14 : decode mb_Cords_pendantStart 14 = .ok (.iload_n 1, 1) := by decide +kernel
theorem rd_Cords_pendantStart_15 : decode mb_Cords_pendantStart 15 = .ok (.iconst 1, 1) := by decide +kernel
theorem rd_Cords_pendantStart_16 : decode mb_Cords_pendantStart 16 = .ok (.iadd, 1) := by decide +kernel
theorem rd_Cords_pendantStart_17 : decode mb_Cords_pendantStart 17 = .ok (.invokevirtual 43, 3) := by decide +kernel
theorem rd_Cords_pendantStart_20 : decode mb_Cords_pendantStart 20 = .ok (.if_icmp .ge 20, 3) := by decide +kernel
theorem rd_Cords_pendantStart_23 : decode mb_Cords_pendantStart 23 = .ok (.aload_n 0, 1) := by decide +kernel
theorem rd_Cords_pendantStart_24 : decode mb_Cords_pendantStart 24 = .ok (.getfield 27, 3) := by decide +kernel
theorem rd_Cords_pendantStart_27 : decode mb_Cords_pendantStart 27 = .ok (.iload_n 2, 1) := by decide +kernel
theorem rd_Cords_pendantStart_28 : decode mb_Cords_pendantStart 28 = .ok (.invokevirtual 43, 3) := by decide +kernel
theorem rd_Cords_pendantStart_31 : decode mb_Cords_pendantStart 31 = .ok (.ifCond .ne 9, 3) := by decide +kernel
theorem rd_Cords_pendantStart_34 : decode mb_Cords_pendantStart 34 = .ok (.iload_n 2, 1) := by decide +kernel
theorem rd_Cords_pendantStart_35 : decode mb_Cords_pendantStart 35 = .ok (.iconst 1, 1) := by decide +kernel
theorem rd_Cords_pendantStart_36 : decode mb_Cords_pendantStart 36 = .ok (.iadd, 1) := by decide +kernel
theorem rd_Cords_pendantStart_37 : decode mb_Cords_pendantStart 37 = .ok (.goto 4, 3) := by decide +kernel
theorem rd_Cords_pendantStart_40 : decode mb_Cords_pendantStart 40 = .ok (.iload_n 2, 1) := by decide +kernel
theorem rd_Cords_pendantStart_41 : decode mb_Cords_pendantStart 41 = .ok (.ireturn, 1) := by decide +kernel
theorem rd_Cords_hasKnownSum_0 : decode mb_Cords_hasKnownSum 0 = .ok (.aload_n 0, 1) := by decide +kernel
theorem rd_Cords_hasKnownSum_1 : decode mb_Cords_hasKnownSum 1 = .ok (.aload_n 0, 1) := by decide +kernel
theorem rd_Cords_hasKnownSum_2 : decode mb_Cords_hasKnownSum 2 = .ok (.iload_n 1, 1) := by decide +kernel
theorem rd_Cords_hasKnownSum_3 : decode mb_Cords_hasKnownSum 3 = .ok (.invokevirtual 47, 3) := by decide +kernel
theorem rd_Cords_hasKnownSum_6 : decode mb_Cords_hasKnownSum 6 = .ok (.aload_n 0, 1) := by decide +kernel
theorem rd_Cords_hasKnownSum_7 : decode mb_Cords_hasKnownSum 7 = .ok (.iload_n 1, 1) := by decide +kernel
theorem rd_Cords_hasKnownSum_8 : decode mb_Cords_hasKnownSum 8 = .ok (.invokevirtual 59, 3) := by decide +kernel
theorem rd_Cords_hasKnownSum_11 : decode mb_Cords_hasKnownSum 11 = .ok (.invokevirtual 62, 3) := by decide +kernel
theorem rd_Cords_hasKnownSum_14 : decode mb_Cords_hasKnownSum 14 = .ok (.ifCond .ne 7, 3) := by decide +kernel
theorem rd_Cords_hasKnownSum_17 : decode mb_Cords_hasKnownSum 17 = .ok (.iconst 1, 1) := by decide +kernel
theorem rd_Cords_hasKnownSum_18 : decode mb_Cords_hasKnownSum 18 = .ok (.goto 4, 3) := by decide +kernel
theorem rd_Cords_hasKnownSum_21 : decode mb_Cords_hasKnownSum 21 = .ok (.iconst 0, 1) := by decide +kernel
theorem rd_Cords_hasKnownSum_22 : decode mb_Cords_hasKnownSum 22 = .ok (.ireturn, 1) := by decide +kernel
theorem rd_Cords_sum_0 : decode mb_Cords_sum 0 = .ok (.aload_n 0, 1) := by decide +kernel
theorem rd_Cords_sum_1 : decode mb_Cords_sum 1 = .ok (.aload_n 0, 1) := by decide +kernel
theorem rd_Cords_sum_2 : decode mb_Cords_sum 2 = .ok (.iload_n 1, 1) := by decide +kernel
theorem rd_Cords_sum_3 : decode mb_Cords_sum 3 = .ok (.invokevirtual 47, 3) := by decide +kernel
theorem rd_Cords_sum_6 : decode mb_Cords_sum 6 = .ok (.aload_n 0, 1) := by decide +kernel
theorem rd_Cords_sum_7 : decode mb_Cords_sum 7 = .ok (.iload_n 1, 1) := by decide +kernel
theorem rd_Cords_sum_8 : decode mb_Cords_sum 8 = .ok (.invokevirtual 59, 3) := by decide +kernel
theorem rd_Cords_sum_11 : decode mb_Cords_sum 11 = .ok (.invokevirtual 66, 3) := by decide +kernel
theorem rd_Cords_sum_14 : decode mb_Cords_sum 14 = .ok (.ireturn, 1) := by decide +kernel
def wd_Row_get (cI : ClassId) (n_t : Nat) (a_t a_t_k : Nat) (i_t_cells : (Int → Int)) : va_W := [(a_t, .inr (0, [.ref a_t_k])), (a_t_k, jk_W cI n_t i_t_cells)]
set_option maxHeartbeats 4000000 in
set_option maxRecDepth 20000 in
theorem ct_Row_get (l : Launch) (D : va_G) (Z : (Nat → Prop) → State → Heap → Prop) (sq : Nat → Nat) (hZ : jk_ZK Z sq) (cI cR : ClassId) {n_t : Nat} (hn_t : n_t < 2147483648) (a_t a_t_k : Nat) (i_t_cells : (Int → Int)) (x1 : Int) (q : Int) (hf : fn_Row_get (n_t : Int) i_t_cells x1 = some q) : jk_MI l D jk_cl (jk_ty cI cR) Z mn_Row_get (.code mn_Row_get mb_Row_get 2 (some .int) :: jk_WA) (jk_rm 0 0) [.ref a_t, jk_V x1] (wd_Row_get cI n_t a_t a_t_k i_t_cells) (wd_Row_get cI n_t a_t a_t_k i_t_cells) q := by
  intro sz
  refine jk_body (by decide +kernel) (fun p e s m args below meth c hsz hz hin C => ?_) (Nat.le_of_ble_eq_true rfl)
  subst hsz
  unfold fn_Row_get at hf
  refine jk_iload_n C rd_Row_get_0 (k := 1) rfl ?_
  refine jk_if_lt (tgt := 22) C rd_Row_get_1 (by decide) hf (fun _ hf => ?_) (fun _ hf => ?_)
  · refine jk_iconst C rd_Row_get_22 ?_
    cases hf
    exact jk_iret C rfl rd_Row_get_23 rfl
  · refine jk_iload_n C rd_Row_get_4 (k := 1) rfl ?_
    refine jk_aload_n C rd_Row_get_5 (k := 0) rfl ?_
    refine jk_get C in_Row (ci := 0) rfl 0 (by decide) tm_60 0 rfl rfl rd_Row_get_6 ?_
    refine jk_alen C 1 0 rfl rfl rd_Row_get_9 ?_
    refine jk_icmp_ge (tgt := 22) C rd_Row_get_10 (by decide) hf (fun _ hf => ?_) (fun _ hf => ?_)
    · refine jk_iconst C rd_Row_get_22 ?_
      cases hf
      exact jk_iret C rfl rd_Row_get_23 rfl
    · refine jk_aload_n C rd_Row_get_13 (k := 0) rfl ?_
      refine jk_get C in_Row (ci := 0) rfl 0 (by decide) tm_60 0 rfl rfl rd_Row_get_14 ?_
      refine jk_iload_n C rd_Row_get_17 (k := 1) rfl ?_
      refine jk_iald C 1 0 rfl rfl hn_t rd_Row_get_18 hf (fun hf => ?_)
      refine jk_goto (tgt := 23) C rd_Row_get_19 (by decide) ?_
      cases hf
      exact jk_iret C rfl rd_Row_get_23 rfl
def wd_Cords_clusterAt (cI : ClassId) (a_t a_t_starts a_t_depth a_t_topic a_t_value a_t_nibbled a_t_starts_k : Nat) (i_t_clusters : Int) (i_t_size : Int) (i_t_starts : (Int → Int)) : va_W := [(a_t, .inr (5, [jk_V i_t_clusters, jk_V i_t_size, .ref a_t_starts, .ref a_t_depth, .ref a_t_topic, .ref a_t_value, .ref a_t_nibbled])), (a_t_starts, .inr (0, [.ref a_t_starts_k])), (a_t_starts_k, jk_W cI 7 i_t_starts)]
set_option maxHeartbeats 4000000 in
set_option maxRecDepth 20000 in
theorem ct_Cords_clusterAt (l : Launch) (D : va_G) (Z : (Nat → Prop) → State → Heap → Prop) (sq : Nat → Nat) (hZ : jk_ZK Z sq) (cI cR : ClassId) (a_t a_t_starts a_t_depth a_t_topic a_t_value a_t_nibbled a_t_starts_k : Nat) (i_t_clusters : Int) (i_t_size : Int) (i_t_starts : (Int → Int)) (x1 : Int) (q : Int) (hf : fn_Cords_clusterAt i_t_clusters i_t_starts x1 = some q) : jk_MI l D jk_cl (jk_ty cI cR) Z mn_Cords_clusterAt (.code mn_Cords_clusterAt mb_Cords_clusterAt 4 (some .int) :: jk_WA) (jk_rm 1 21) [.ref a_t, jk_V x1] (wd_Cords_clusterAt cI a_t a_t_starts a_t_depth a_t_topic a_t_value a_t_nibbled a_t_starts_k i_t_clusters i_t_size i_t_starts) (wd_Cords_clusterAt cI a_t a_t_starts a_t_depth a_t_topic a_t_value a_t_nibbled a_t_starts_k i_t_clusters i_t_size i_t_starts) q := by
  intro sz
  refine jk_body (by decide +kernel) (fun p e s m args below meth c hsz hz hin C => ?_) (Nat.le_of_ble_eq_true rfl)
  subst hsz
  unfold fn_Cords_clusterAt at hf
  have bk_4 : ∀ (n : Nat) (v1 : Int) (v2 : Int) (v3 : Int), fn_Cords_clusterAt_b4 n i_t_clusters i_t_starts v1 v2 v3 = some q → jk_J p l e (jk_rm 1 21) s m args below meth c 0 0 (jk_QI below D jk_cl (jk_ty cI cR) (wd_Cords_clusterAt cI a_t a_t_starts a_t_depth a_t_topic a_t_value a_t_nibbled a_t_starts_k i_t_clusters i_t_size i_t_starts) (wd_Cords_clusterAt cI a_t a_t_starts a_t_depth a_t_topic a_t_value a_t_nibbled a_t_starts_k i_t_clusters i_t_size i_t_starts) args s q) D jk_cl (va_A (wd_Cords_clusterAt cI a_t a_t_starts a_t_depth a_t_topic a_t_value a_t_nibbled a_t_starts_k i_t_clusters i_t_size i_t_starts) s.heap.size) 4 (wd_Cords_clusterAt cI a_t a_t_starts a_t_depth a_t_topic a_t_value a_t_nibbled a_t_starts_k i_t_clusters i_t_size i_t_starts) [(0, .ref a_t), (1, jk_V v1), (2, jk_V v2), (3, jk_V v3)] 4 [] := by
    intro n
    induction n with
    | zero => intro v1 v2 v3 hf; exact nomatch (show none = some q from hf)
    | succ n ih =>
      intro v1 v2 v3 hf
      rw [fn_Cords_clusterAt_b4] at hf
      refine jk_iload_n C rd_Cords_clusterAt_4 (k := 3) rfl ?_
      refine jk_aload_n C rd_Cords_clusterAt_5 (k := 0) rfl ?_
      refine jk_get C in_Cords (ci := 5) rfl 0 (by decide) tm_129 0 rfl rfl rd_Cords_clusterAt_6 ?_
      refine jk_icmp_ge (tgt := 32) C rd_Cords_clusterAt_9 (by decide) hf (fun _ hf => ?_) (fun _ hf => ?_)
      · refine jk_iload_n C rd_Cords_clusterAt_32 (k := 2) rfl ?_
        cases hf
        exact jk_iret C rfl rd_Cords_clusterAt_33 rfl
      · refine jk_aload_n C rd_Cords_clusterAt_12 (k := 0) rfl ?_
        refine jk_get C in_Cords (ci := 5) rfl 2 (by decide) tm_137 0 rfl rfl rd_Cords_clusterAt_13 ?_
        refine jk_iload_n C rd_Cords_clusterAt_16 (k := 3) rfl ?_
        obtain ⟨q17, hq17, hf⟩ := jk_bind_h hf
        refine jk_callVi C hZ.1 hz (ct_Row_get l D Z sq hZ cI cR (n_t := 7) (Nat.le_of_ble_eq_true rfl) a_t_starts a_t_starts_k i_t_starts v3 q17 hq17) tm_363 tm_299 tm_300 tm_3 tm_301 na_Row_get ⟨Nat.le_of_ble_eq_true rfl, Nat.le_of_ble_eq_true rfl⟩ rfl [1, 2] rfl rfl rfl (ws' := wd_Cords_clusterAt cI a_t a_t_starts a_t_depth a_t_topic a_t_value a_t_nibbled a_t_starts_k i_t_clusters i_t_size i_t_starts) rfl 1 0 rfl rfl rfl (st := []) rfl (Nat.le_of_ble_eq_true rfl) rd_Cords_clusterAt_17 ?_ ⟨Nat.le_of_ble_eq_true rfl, Nat.le_of_ble_eq_true rfl⟩
        refine jk_iload_n C rd_Cords_clusterAt_20 (k := 1) rfl ?_
        refine jk_icmp_gt (tgt := 26) C rd_Cords_clusterAt_21 (by decide) hf (fun _ hf => ?_) (fun _ hf => ?_)
        · refine jk_iinc C rd_Cords_clusterAt_26 (k := 3) rfl (by decide) (lv' := [(3, jk_V (v3 + 1)), (0, .ref a_t), (1, jk_V v1), (2, jk_V v2)]) rfl ?_
          refine jk_goto (tgt := 4) C rd_Cords_clusterAt_29 (by decide) ?_
          refine jk_lv (lv' := [(0, .ref a_t), (1, jk_V v1), (2, jk_V v2), (3, jk_V (v3 + 1))]) [1, 2, 3, 0] rfl ?_
          exact ih v1 v2 (v3 + 1) hf
        · refine jk_iload_n C rd_Cords_clusterAt_24 (k := 3) rfl ?_
          refine jk_istore_n C rd_Cords_clusterAt_25 (by decide) (lv' := [(2, jk_V v3), (0, .ref a_t), (1, jk_V v1), (3, jk_V v3)]) rfl ?_
          refine jk_iinc C rd_Cords_clusterAt_26 (k := 3) rfl (by decide) (lv' := [(3, jk_V (v3 + 1)), (2, jk_V v3), (0, .ref a_t), (1, jk_V v1)]) rfl ?_
          refine jk_goto (tgt := 4) C rd_Cords_clusterAt_29 (by decide) ?_
          refine jk_lv (lv' := [(0, .ref a_t), (1, jk_V v1), (2, jk_V v3), (3, jk_V (v3 + 1))]) [2, 3, 1, 0] rfl ?_
          exact ih v1 v3 (v3 + 1) hf
  refine jk_iconst C rd_Cords_clusterAt_0 ?_
  refine jk_istore_n C rd_Cords_clusterAt_1 (by decide) (lv' := [(2, jk_V 0), (0, .ref a_t), (1, jk_V x1)]) rfl ?_
  refine jk_iconst C rd_Cords_clusterAt_2 ?_
  refine jk_istore_n C rd_Cords_clusterAt_3 (by decide) (lv' := [(3, jk_V 1), (2, jk_V 0), (0, .ref a_t), (1, jk_V x1)]) rfl ?_
  refine jk_lv (lv' := [(0, .ref a_t), (1, jk_V x1), (2, jk_V 0), (3, jk_V 1)]) [2, 3, 1, 0] rfl ?_
  exact bk_4 jk_F x1 0 1 hf
def wd_Cords_end (cI : ClassId) (a_t a_t_starts a_t_depth a_t_topic a_t_value a_t_nibbled a_t_starts_k : Nat) (i_t_clusters : Int) (i_t_size : Int) (i_t_starts : (Int → Int)) : va_W := [(a_t, .inr (5, [jk_V i_t_clusters, jk_V i_t_size, .ref a_t_starts, .ref a_t_depth, .ref a_t_topic, .ref a_t_value, .ref a_t_nibbled])), (a_t_starts, .inr (0, [.ref a_t_starts_k])), (a_t_starts_k, jk_W cI 7 i_t_starts)]
set_option maxHeartbeats 4000000 in
set_option maxRecDepth 20000 in
theorem ct_Cords_end (l : Launch) (D : va_G) (Z : (Nat → Prop) → State → Heap → Prop) (sq : Nat → Nat) (hZ : jk_ZK Z sq) (cI cR : ClassId) (a_t a_t_starts a_t_depth a_t_topic a_t_value a_t_nibbled a_t_starts_k : Nat) (i_t_clusters : Int) (i_t_size : Int) (i_t_starts : (Int → Int)) (x1 : Int) (q : Int) (hf : fn_Cords_end i_t_starts x1 = some q) : jk_MI l D jk_cl (jk_ty cI cR) Z mn_Cords_end (.code mn_Cords_end mb_Cords_end 2 (some .int) :: jk_WA) (jk_rm 1 21) [.ref a_t, jk_V x1] (wd_Cords_end cI a_t a_t_starts a_t_depth a_t_topic a_t_value a_t_nibbled a_t_starts_k i_t_clusters i_t_size i_t_starts) (wd_Cords_end cI a_t a_t_starts a_t_depth a_t_topic a_t_value a_t_nibbled a_t_starts_k i_t_clusters i_t_size i_t_starts) q := by
  intro sz
  refine jk_body (by decide +kernel) (fun p e s m args below meth c hsz hz hin C => ?_) (Nat.le_of_ble_eq_true rfl)
  subst hsz
  unfold fn_Cords_end at hf
  refine jk_aload_n C rd_Cords_end_0 (k := 0) rfl ?_
  refine jk_get C in_Cords (ci := 5) rfl 2 (by decide) tm_137 0 rfl rfl rd_Cords_end_1 ?_
  refine jk_iload_n C rd_Cords_end_4 (k := 1) rfl ?_
  refine jk_iconst C rd_Cords_end_5 ?_
  refine jk_iadd C rd_Cords_end_6 ?_
  obtain ⟨q7, hq7, hf⟩ := jk_bind_h hf
  refine jk_callVi C hZ.1 hz (ct_Row_get l D Z sq hZ cI cR (n_t := 7) (Nat.le_of_ble_eq_true rfl) a_t_starts a_t_starts_k i_t_starts (x1 + 1) q7 hq7) tm_363 tm_299 tm_300 tm_3 tm_301 na_Row_get ⟨Nat.le_of_ble_eq_true rfl, Nat.le_of_ble_eq_true rfl⟩ rfl [1, 2] rfl rfl rfl (ws' := wd_Cords_end cI a_t a_t_starts a_t_depth a_t_topic a_t_value a_t_nibbled a_t_starts_k i_t_clusters i_t_size i_t_starts) rfl 1 0 rfl rfl rfl (st := []) rfl (Nat.le_of_ble_eq_true rfl) rd_Cords_end_7 ?_ ⟨Nat.le_of_ble_eq_true rfl, Nat.le_of_ble_eq_true rfl⟩
  cases hf
  exact jk_iret C rfl rd_Cords_end_10 rfl
def wd_Cords_start (cI : ClassId) (a_t a_t_starts a_t_depth a_t_topic a_t_value a_t_nibbled a_t_starts_k : Nat) (i_t_clusters : Int) (i_t_size : Int) (i_t_starts : (Int → Int)) : va_W := [(a_t, .inr (5, [jk_V i_t_clusters, jk_V i_t_size, .ref a_t_starts, .ref a_t_depth, .ref a_t_topic, .ref a_t_value, .ref a_t_nibbled])), (a_t_starts, .inr (0, [.ref a_t_starts_k])), (a_t_starts_k, jk_W cI 7 i_t_starts)]
set_option maxHeartbeats 4000000 in
set_option maxRecDepth 20000 in
theorem ct_Cords_start (l : Launch) (D : va_G) (Z : (Nat → Prop) → State → Heap → Prop) (sq : Nat → Nat) (hZ : jk_ZK Z sq) (cI cR : ClassId) (a_t a_t_starts a_t_depth a_t_topic a_t_value a_t_nibbled a_t_starts_k : Nat) (i_t_clusters : Int) (i_t_size : Int) (i_t_starts : (Int → Int)) (x1 : Int) (q : Int) (hf : fn_Cords_start i_t_starts x1 = some q) : jk_MI l D jk_cl (jk_ty cI cR) Z mn_Cords_start (.code mn_Cords_start mb_Cords_start 2 (some .int) :: jk_WA) (jk_rm 1 21) [.ref a_t, jk_V x1] (wd_Cords_start cI a_t a_t_starts a_t_depth a_t_topic a_t_value a_t_nibbled a_t_starts_k i_t_clusters i_t_size i_t_starts) (wd_Cords_start cI a_t a_t_starts a_t_depth a_t_topic a_t_value a_t_nibbled a_t_starts_k i_t_clusters i_t_size i_t_starts) q := by
  intro sz
  refine jk_body (by decide +kernel) (fun p e s m args below meth c hsz hz hin C => ?_) (Nat.le_of_ble_eq_true rfl)
  subst hsz
  unfold fn_Cords_start at hf
  refine jk_aload_n C rd_Cords_start_0 (k := 0) rfl ?_
  refine jk_get C in_Cords (ci := 5) rfl 2 (by decide) tm_137 0 rfl rfl rd_Cords_start_1 ?_
  refine jk_iload_n C rd_Cords_start_4 (k := 1) rfl ?_
  obtain ⟨q5, hq5, hf⟩ := jk_bind_h hf
  refine jk_callVi C hZ.1 hz (ct_Row_get l D Z sq hZ cI cR (n_t := 7) (Nat.le_of_ble_eq_true rfl) a_t_starts a_t_starts_k i_t_starts x1 q5 hq5) tm_363 tm_299 tm_300 tm_3 tm_301 na_Row_get ⟨Nat.le_of_ble_eq_true rfl, Nat.le_of_ble_eq_true rfl⟩ rfl [1, 2] rfl rfl rfl (ws' := wd_Cords_start cI a_t a_t_starts a_t_depth a_t_topic a_t_value a_t_nibbled a_t_starts_k i_t_clusters i_t_size i_t_starts) rfl 1 0 rfl rfl rfl (st := []) rfl (Nat.le_of_ble_eq_true rfl) rd_Cords_start_5 ?_ ⟨Nat.le_of_ble_eq_true rfl, Nat.le_of_ble_eq_true rfl⟩
  cases hf
  exact jk_iret C rfl rd_Cords_start_8 rfl
def wd_Check_standsWell (cI : ClassId) (a_a a_a_starts a_a_depth a_a_topic a_a_value a_a_nibbled a_a_starts_k a_a_depth_k : Nat) (i_a_clusters : Int) (i_a_size : Int) (i_a_starts : (Int → Int)) (i_a_depth : (Int → Int)) : va_W := [(a_a, .inr (5, [jk_V i_a_clusters, jk_V i_a_size, .ref a_a_starts, .ref a_a_depth, .ref a_a_topic, .ref a_a_value, .ref a_a_nibbled])), (a_a_starts, .inr (0, [.ref a_a_starts_k])), (a_a_starts_k, jk_W cI 7 i_a_starts), (a_a_depth, .inr (0, [.ref a_a_depth_k])), (a_a_depth_k, jk_W cI 40 i_a_depth)]
set_option maxHeartbeats 4000000 in
set_option maxRecDepth 20000 in
theorem ct_Check_standsWell (l : Launch) (D : va_G) (Z : (Nat → Prop) → State → Heap → Prop) (sq : Nat → Nat) (hZ : jk_ZK Z sq) (cI cR : ClassId) (a_a a_a_starts a_a_depth a_a_topic a_a_value a_a_nibbled a_a_starts_k a_a_depth_k : Nat) (i_a_clusters : Int) (i_a_size : Int) (i_a_starts : (Int → Int)) (i_a_depth : (Int → Int)) (x1 : Int) (q : Int) (hf : fn_Check_standsWell i_a_clusters i_a_starts i_a_depth x1 = some q) : jk_MI l D jk_cl (jk_ty cI cR) Z mn_Check_standsWell (.code mn_Check_standsWell mb_Check_standsWell 4 (some .boolean) :: jk_WA) (jk_rm 2 44) [.ref a_a, jk_V x1] (wd_Check_standsWell cI a_a a_a_starts a_a_depth a_a_topic a_a_value a_a_nibbled a_a_starts_k a_a_depth_k i_a_clusters i_a_size i_a_starts i_a_depth) (wd_Check_standsWell cI a_a a_a_starts a_a_depth a_a_topic a_a_value a_a_nibbled a_a_starts_k a_a_depth_k i_a_clusters i_a_size i_a_starts i_a_depth) q := by
  intro sz
  refine jk_body (by decide +kernel) (fun p e s m args below meth c hsz hz hin C => ?_) (Nat.le_of_ble_eq_true rfl)
  subst hsz
  unfold fn_Check_standsWell at hf
  refine jk_aload_n C rd_Check_standsWell_0 (k := 0) rfl ?_
  refine jk_iload_n C rd_Check_standsWell_1 (k := 1) rfl ?_
  obtain ⟨q2, hq2, hf⟩ := jk_bind_h hf
  refine jk_callVi C hZ.1 hz (ct_Cords_clusterAt l D Z sq hZ cI cR a_a a_a_starts a_a_depth a_a_topic a_a_value a_a_nibbled a_a_starts_k i_a_clusters i_a_size i_a_starts x1 q2 hq2) tm_509 tm_510 tm_511 tm_6 tm_512 na_Cords_clusterAt ⟨Nat.le_of_ble_eq_true rfl, Nat.le_of_ble_eq_true rfl⟩ rfl [0, 1, 2] rfl rfl rfl (ws' := wd_Check_standsWell cI a_a a_a_starts a_a_depth a_a_topic a_a_value a_a_nibbled a_a_starts_k a_a_depth_k i_a_clusters i_a_size i_a_starts i_a_depth) rfl 0 5 rfl rfl rfl (st := []) rfl (Nat.le_of_ble_eq_true rfl) rd_Check_standsWell_2 ?_ ⟨Nat.le_of_ble_eq_true rfl, Nat.le_of_ble_eq_true rfl⟩
  refine jk_istore_n C rd_Check_standsWell_5 (by decide) (lv' := [(2, jk_V q2), (0, .ref a_a), (1, jk_V x1)]) rfl ?_
  refine jk_iload_n C rd_Check_standsWell_6 (k := 2) rfl ?_
  refine jk_aload_n C rd_Check_standsWell_7 (k := 1) rfl ?_
  refine jk_iload_n C rd_Check_standsWell_8 (k := 0) rfl ?_
  obtain ⟨q9, hq9, hf⟩ := jk_bind_h hf
  refine jk_callVi C hZ.1 hz (ct_Cords_start l D Z sq hZ cI cR a_a a_a_starts a_a_depth a_a_topic a_a_value a_a_nibbled a_a_starts_k i_a_clusters i_a_size i_a_starts q2 q9 hq9) tm_505 tm_372 tm_373 tm_6 tm_374 na_Cords_start ⟨Nat.le_of_ble_eq_true rfl, Nat.le_of_ble_eq_true rfl⟩ rfl [0, 1, 2] rfl rfl rfl (ws' := wd_Check_standsWell cI a_a a_a_starts a_a_depth a_a_topic a_a_value a_a_nibbled a_a_starts_k a_a_depth_k i_a_clusters i_a_size i_a_starts i_a_depth) rfl 0 5 rfl rfl rfl (st := [jk_V x1]) rfl (Nat.le_of_ble_eq_true rfl) rd_Check_standsWell_9 ?_ ⟨Nat.le_of_ble_eq_true rfl, Nat.le_of_ble_eq_true rfl⟩
  refine jk_icmp_lt (tgt := 24) C rd_Check_standsWell_12 (by decide) hf (fun _ hf => ?_) (fun _ hf => ?_)
  · refine jk_iconst C rd_Check_standsWell_24 ?_
    cases hf
    exact jk_zret C (Or.inl rfl) rfl rd_Check_standsWell_25 rfl
  · refine jk_iload_n C rd_Check_standsWell_15 (k := 2) rfl ?_
    refine jk_aload_n C rd_Check_standsWell_16 (k := 1) rfl ?_
    refine jk_iload_n C rd_Check_standsWell_17 (k := 0) rfl ?_
    obtain ⟨q18, hq18, hf⟩ := jk_bind_h hf
    refine jk_callVi C hZ.1 hz (ct_Cords_end l D Z sq hZ cI cR a_a a_a_starts a_a_depth a_a_topic a_a_value a_a_nibbled a_a_starts_k i_a_clusters i_a_size i_a_starts q2 q18 hq18) tm_501 tm_502 tm_503 tm_6 tm_504 na_Cords_end ⟨Nat.le_of_ble_eq_true rfl, Nat.le_of_ble_eq_true rfl⟩ rfl [0, 1, 2] rfl rfl rfl (ws' := wd_Check_standsWell cI a_a a_a_starts a_a_depth a_a_topic a_a_value a_a_nibbled a_a_starts_k a_a_depth_k i_a_clusters i_a_size i_a_starts i_a_depth) rfl 0 5 rfl rfl rfl (st := [jk_V x1]) rfl (Nat.le_of_ble_eq_true rfl) rd_Check_standsWell_18 ?_ ⟨Nat.le_of_ble_eq_true rfl, Nat.le_of_ble_eq_true rfl⟩
    refine jk_icmp_lt (tgt := 26) C rd_Check_standsWell_21 (by decide) hf (fun _ hf => ?_) (fun _ hf => ?_)
    · refine jk_aload_n C rd_Check_standsWell_26 (k := 1) rfl ?_
      refine jk_getN C in_Cords (ci := 5) rfl 3 (by decide) (jk_nw hZ hz tn_14) 0 rfl rfl rd_Check_standsWell_27 ?_
      refine jk_iload_n C rd_Check_standsWell_30 (k := 2) rfl ?_
      obtain ⟨q31, hq31, hf⟩ := jk_bind_h hf
      refine jk_callVi C hZ.1 hz (ct_Row_get l D Z sq hZ cI cR (n_t := 40) (Nat.le_of_ble_eq_true rfl) a_a_depth a_a_depth_k i_a_depth x1 q31 hq31) tm_513 tm_299 tm_300 tm_3 tm_301 na_Row_get ⟨Nat.le_of_ble_eq_true rfl, Nat.le_of_ble_eq_true rfl⟩ rfl [3, 4] rfl rfl rfl (ws' := wd_Check_standsWell cI a_a a_a_starts a_a_depth a_a_topic a_a_value a_a_nibbled a_a_starts_k a_a_depth_k i_a_clusters i_a_size i_a_starts i_a_depth) rfl 3 0 rfl rfl rfl (st := []) rfl (Nat.le_of_ble_eq_true rfl) rd_Check_standsWell_31 ?_ ⟨Nat.le_of_ble_eq_true rfl, Nat.le_of_ble_eq_true rfl⟩
      refine jk_istore_n C rd_Check_standsWell_34 (by decide) (lv' := [(3, jk_V q31), (2, jk_V q2), (0, .ref a_a), (1, jk_V x1)]) rfl ?_
      refine jk_iload_n C rd_Check_standsWell_35 (k := 3) rfl ?_
      refine jk_aload_n C rd_Check_standsWell_36 (k := 2) rfl ?_
      refine jk_iload_n C rd_Check_standsWell_37 (k := 1) rfl ?_
      obtain ⟨q38, hq38, hf⟩ := jk_bind_h hf
      refine jk_callVi C hZ.1 hz (ct_Cords_start l D Z sq hZ cI cR a_a a_a_starts a_a_depth a_a_topic a_a_value a_a_nibbled a_a_starts_k i_a_clusters i_a_size i_a_starts q2 q38 hq38) tm_505 tm_372 tm_373 tm_6 tm_374 na_Cords_start ⟨Nat.le_of_ble_eq_true rfl, Nat.le_of_ble_eq_true rfl⟩ rfl [0, 1, 2] rfl rfl rfl (ws' := wd_Check_standsWell cI a_a a_a_starts a_a_depth a_a_topic a_a_value a_a_nibbled a_a_starts_k a_a_depth_k i_a_clusters i_a_size i_a_starts i_a_depth) rfl 0 5 rfl rfl rfl (st := [jk_V x1]) rfl (Nat.le_of_ble_eq_true rfl) rd_Check_standsWell_38 ?_ ⟨Nat.le_of_ble_eq_true rfl, Nat.le_of_ble_eq_true rfl⟩
      refine jk_icmp_ne (tgt := 59) C rd_Check_standsWell_41 (by decide) hf (fun _ hf => ?_) (fun _ hf => ?_)
      · refine jk_iload_n C rd_Check_standsWell_59 (k := 0) rfl ?_
        refine jk_iconst C rd_Check_standsWell_60 ?_
        refine jk_icmp_lt (tgt := 89) C rd_Check_standsWell_61 (by decide) hf (fun _ hf => ?_) (fun _ hf => ?_)
        · refine jk_iconst C rd_Check_standsWell_89 ?_
          cases hf
          exact jk_zret C (Or.inl rfl) rfl rd_Check_standsWell_90 rfl
        · refine jk_iload_n C rd_Check_standsWell_64 (k := 0) rfl ?_
          refine jk_iconst C rd_Check_standsWell_65 ?_
          refine jk_icmp_gt (tgt := 89) C rd_Check_standsWell_66 (by decide) hf (fun _ hf => ?_) (fun _ hf => ?_)
          · refine jk_iconst C rd_Check_standsWell_89 ?_
            cases hf
            exact jk_zret C (Or.inl rfl) rfl rd_Check_standsWell_90 rfl
          · refine jk_iload_n C rd_Check_standsWell_69 (k := 0) rfl ?_
            refine jk_aload_n C rd_Check_standsWell_70 (k := 2) rfl ?_
            refine jk_getN C in_Cords (ci := 5) rfl 3 (by decide) (jk_nw hZ hz tn_14) 0 rfl rfl rd_Check_standsWell_71 ?_
            refine jk_iload_n C rd_Check_standsWell_74 (k := 3) rfl ?_
            refine jk_iconst C rd_Check_standsWell_75 ?_
            refine jk_isub C rd_Check_standsWell_76 ?_
            obtain ⟨q77, hq77, hf⟩ := jk_bind_h hf
            refine jk_callVi C hZ.1 hz (ct_Row_get l D Z sq hZ cI cR (n_t := 40) (Nat.le_of_ble_eq_true rfl) a_a_depth a_a_depth_k i_a_depth (x1 - 1) q77 hq77) tm_513 tm_299 tm_300 tm_3 tm_301 na_Row_get ⟨Nat.le_of_ble_eq_true rfl, Nat.le_of_ble_eq_true rfl⟩ rfl [3, 4] rfl rfl rfl (ws' := wd_Check_standsWell cI a_a a_a_starts a_a_depth a_a_topic a_a_value a_a_nibbled a_a_starts_k a_a_depth_k i_a_clusters i_a_size i_a_starts i_a_depth) rfl 3 0 rfl rfl rfl (st := [jk_V q31]) rfl (Nat.le_of_ble_eq_true rfl) rd_Check_standsWell_77 ?_ ⟨Nat.le_of_ble_eq_true rfl, Nat.le_of_ble_eq_true rfl⟩
            refine jk_iconst C rd_Check_standsWell_80 ?_
            refine jk_iadd C rd_Check_standsWell_81 ?_
            refine jk_icmp_gt (tgt := 89) C rd_Check_standsWell_82 (by decide) hf (fun _ hf => ?_) (fun _ hf => ?_)
            · refine jk_iconst C rd_Check_standsWell_89 ?_
              cases hf
              exact jk_zret C (Or.inl rfl) rfl rd_Check_standsWell_90 rfl
            · refine jk_iconst C rd_Check_standsWell_85 ?_
              refine jk_goto (tgt := 90) C rd_Check_standsWell_86 (by decide) ?_
              cases hf
              exact jk_zret C (Or.inr rfl) rfl rd_Check_standsWell_90 rfl
      · refine jk_iload_n C rd_Check_standsWell_44 (k := 0) rfl ?_
        refine jk_if_eq (tgt := 53) C rd_Check_standsWell_45 (by decide) hf (fun _ hf => ?_) (fun _ hf => ?_)
        · refine jk_iconst C rd_Check_standsWell_53 ?_
          refine jk_goto (tgt := 58) C rd_Check_standsWell_54 (by decide) ?_
          cases hf
          exact jk_zret C (Or.inr rfl) rfl rd_Check_standsWell_58 rfl
        · refine jk_iload_n C rd_Check_standsWell_48 (k := 0) rfl ?_
          refine jk_iconst C rd_Check_standsWell_49 ?_
          refine jk_icmp_ne (tgt := 57) C rd_Check_standsWell_50 (by decide) hf (fun _ hf => ?_) (fun _ hf => ?_)
          · refine jk_iconst C rd_Check_standsWell_57 ?_
            cases hf
            exact jk_zret C (Or.inl rfl) rfl rd_Check_standsWell_58 rfl
          · refine jk_iconst C rd_Check_standsWell_53 ?_
            refine jk_goto (tgt := 58) C rd_Check_standsWell_54 (by decide) ?_
            cases hf
            exact jk_zret C (Or.inr rfl) rfl rd_Check_standsWell_58 rfl
    · refine jk_iconst C rd_Check_standsWell_24 ?_
      cases hf
      exact jk_zret C (Or.inl rfl) rfl rd_Check_standsWell_25 rfl
def wd_Check_order (cI : ClassId) (a_a a_a_starts a_a_depth a_a_topic a_a_value a_a_nibbled a_a_starts_k a_a_depth_k : Nat) (i_a_clusters : Int) (i_a_size : Int) (i_a_starts : (Int → Int)) (i_a_depth : (Int → Int)) : va_W := [(a_a, .inr (5, [jk_V i_a_clusters, jk_V i_a_size, .ref a_a_starts, .ref a_a_depth, .ref a_a_topic, .ref a_a_value, .ref a_a_nibbled])), (a_a_starts, .inr (0, [.ref a_a_starts_k])), (a_a_starts_k, jk_W cI 7 i_a_starts), (a_a_depth, .inr (0, [.ref a_a_depth_k])), (a_a_depth_k, jk_W cI 40 i_a_depth)]
set_option maxHeartbeats 4000000 in
set_option maxRecDepth 20000 in
theorem ct_Check_order (l : Launch) (D : va_G) (Z : (Nat → Prop) → State → Heap → Prop) (sq : Nat → Nat) (hZ : jk_ZK Z sq) (cI cR : ClassId) (a_a a_a_starts a_a_depth a_a_topic a_a_value a_a_nibbled a_a_starts_k a_a_depth_k : Nat) (i_a_clusters : Int) (i_a_size : Int) (i_a_starts : (Int → Int)) (i_a_depth : (Int → Int)) (q : Int) (hf : fn_Check_order i_a_clusters i_a_size i_a_starts i_a_depth = some q) : jk_MI l D jk_cl (jk_ty cI cR) Z mn_Check_order (.code mn_Check_order mb_Check_order 3 (some .boolean) :: jk_WA) (jk_rm 3 67) [.ref a_a] (wd_Check_order cI a_a a_a_starts a_a_depth a_a_topic a_a_value a_a_nibbled a_a_starts_k a_a_depth_k i_a_clusters i_a_size i_a_starts i_a_depth) (wd_Check_order cI a_a a_a_starts a_a_depth a_a_topic a_a_value a_a_nibbled a_a_starts_k a_a_depth_k i_a_clusters i_a_size i_a_starts i_a_depth) q := by
  intro sz
  refine jk_body (by decide +kernel) (fun p e s m args below meth c hsz hz hin C => ?_) (Nat.le_of_ble_eq_true rfl)
  subst hsz
  unfold fn_Check_order at hf
  have bk_34 : ∀ (n : Nat) (v1 : Int) (v2 : Int), fn_Check_order_b34 n i_a_clusters i_a_size i_a_starts i_a_depth v1 v2 = some q → jk_J p l e (jk_rm 3 67) s m args below meth c 0 0 (jk_QI below D jk_cl (jk_ty cI cR) (wd_Check_order cI a_a a_a_starts a_a_depth a_a_topic a_a_value a_a_nibbled a_a_starts_k a_a_depth_k i_a_clusters i_a_size i_a_starts i_a_depth) (wd_Check_order cI a_a a_a_starts a_a_depth a_a_topic a_a_value a_a_nibbled a_a_starts_k a_a_depth_k i_a_clusters i_a_size i_a_starts i_a_depth) args s q) D jk_cl (va_A (wd_Check_order cI a_a a_a_starts a_a_depth a_a_topic a_a_value a_a_nibbled a_a_starts_k a_a_depth_k i_a_clusters i_a_size i_a_starts i_a_depth) s.heap.size) 3 (wd_Check_order cI a_a a_a_starts a_a_depth a_a_topic a_a_value a_a_nibbled a_a_starts_k a_a_depth_k i_a_clusters i_a_size i_a_starts i_a_depth) [(0, .ref a_a), (1, jk_V v1), (2, jk_V v2)] 34 [] := by
    intro n
    induction n with
    | zero => intro v1 v2 hf; exact nomatch (show none = some q from hf)
    | succ n ih =>
      intro v1 v2 hf
      rw [fn_Check_order_b34] at hf
      refine jk_iload_n C rd_Check_order_34 (k := 2) rfl ?_
      refine jk_aload_n C rd_Check_order_35 (k := 0) rfl ?_
      refine jk_getN C in_Cords (ci := 5) rfl 1 (by decide) (jk_nw hZ hz tn_11) 0 rfl rfl rd_Check_order_36 ?_
      refine jk_icmp_ge (tgt := 58) C rd_Check_order_39 (by decide) hf (fun _ hf => ?_) (fun _ hf => ?_)
      · refine jk_iload_n C rd_Check_order_58 (k := 1) rfl ?_
        refine jk_aload_n C rd_Check_order_59 (k := 0) rfl ?_
        refine jk_getN C in_Cords (ci := 5) rfl 1 (by decide) (jk_nw hZ hz tn_11) 0 rfl rfl rd_Check_order_60 ?_
        refine jk_icmp_ne (tgt := 70) C rd_Check_order_63 (by decide) hf (fun _ hf => ?_) (fun _ hf => ?_)
        · refine jk_iconst C rd_Check_order_70 ?_
          cases hf
          exact jk_zret C (Or.inl rfl) rfl rd_Check_order_71 rfl
        · refine jk_iconst C rd_Check_order_66 ?_
          refine jk_goto (tgt := 71) C rd_Check_order_67 (by decide) ?_
          cases hf
          exact jk_zret C (Or.inr rfl) rfl rd_Check_order_71 rfl
      · refine jk_aload_n C rd_Check_order_42 (k := 0) rfl ?_
        refine jk_iload_n C rd_Check_order_43 (k := 2) rfl ?_
        obtain ⟨q44, hq44, hf⟩ := jk_bind_h hf
        refine jk_callSi C hZ.1 hz (ct_Check_standsWell l D Z sq hZ cI cR a_a a_a_starts a_a_depth a_a_topic a_a_value a_a_nibbled a_a_starts_k a_a_depth_k i_a_clusters i_a_size i_a_starts i_a_depth v2 q44 hq44) tm_506 tm_507 tm_39 tm_508 na_Check_standsWell ⟨Nat.le_of_ble_eq_true rfl, Nat.le_of_ble_eq_true rfl⟩ rfl [0, 1, 2, 3, 4] rfl rfl rfl (ws' := wd_Check_order cI a_a a_a_starts a_a_depth a_a_topic a_a_value a_a_nibbled a_a_starts_k a_a_depth_k i_a_clusters i_a_size i_a_starts i_a_depth) rfl (st := []) rfl (Nat.le_of_ble_eq_true rfl) rd_Check_order_44 ?_ ⟨Nat.le_of_ble_eq_true rfl, Nat.le_of_ble_eq_true rfl⟩
        refine jk_if_ne (tgt := 52) C rd_Check_order_47 (by decide) hf (fun _ hf => ?_) (fun _ hf => ?_)
        · refine jk_iinc C rd_Check_order_52 (k := 2) rfl (by decide) (lv' := [(2, jk_V (v2 + 1)), (0, .ref a_a), (1, jk_V v1)]) rfl ?_
          refine jk_goto (tgt := 34) C rd_Check_order_55 (by decide) ?_
          refine jk_lv (lv' := [(0, .ref a_a), (1, jk_V v1), (2, jk_V (v2 + 1))]) [1, 2, 0] rfl ?_
          exact ih v1 (v2 + 1) hf
        · refine jk_iconst C rd_Check_order_50 ?_
          cases hf
          exact jk_zret C (Or.inl rfl) rfl rd_Check_order_51 rfl
  have bk_4 : ∀ (n : Nat) (v1 : Int) (v2 : Int), fn_Check_order_b4 n i_a_clusters i_a_size i_a_starts i_a_depth v1 v2 = some q → jk_J p l e (jk_rm 3 67) s m args below meth c 0 0 (jk_QI below D jk_cl (jk_ty cI cR) (wd_Check_order cI a_a a_a_starts a_a_depth a_a_topic a_a_value a_a_nibbled a_a_starts_k a_a_depth_k i_a_clusters i_a_size i_a_starts i_a_depth) (wd_Check_order cI a_a a_a_starts a_a_depth a_a_topic a_a_value a_a_nibbled a_a_starts_k a_a_depth_k i_a_clusters i_a_size i_a_starts i_a_depth) args s q) D jk_cl (va_A (wd_Check_order cI a_a a_a_starts a_a_depth a_a_topic a_a_value a_a_nibbled a_a_starts_k a_a_depth_k i_a_clusters i_a_size i_a_starts i_a_depth) s.heap.size) 3 (wd_Check_order cI a_a a_a_starts a_a_depth a_a_topic a_a_value a_a_nibbled a_a_starts_k a_a_depth_k i_a_clusters i_a_size i_a_starts i_a_depth) [(0, .ref a_a), (1, jk_V v1), (2, jk_V v2)] 4 [] := by
    intro n
    induction n with
    | zero => intro v1 v2 hf; exact nomatch (show none = some q from hf)
    | succ n ih =>
      intro v1 v2 hf
      rw [fn_Check_order_b4] at hf
      refine jk_iload_n C rd_Check_order_4 (k := 2) rfl ?_
      refine jk_aload_n C rd_Check_order_5 (k := 0) rfl ?_
      refine jk_getN C in_Cords (ci := 5) rfl 0 (by decide) (jk_nw hZ hz tn_8) 0 rfl rfl rd_Check_order_6 ?_
      refine jk_icmp_ge (tgt := 32) C rd_Check_order_9 (by decide) hf (fun _ hf => ?_) (fun _ hf => ?_)
      · refine jk_iconst C rd_Check_order_32 ?_
        refine jk_istore_n C rd_Check_order_33 (by decide) (lv' := [(2, jk_V 0), (0, .ref a_a), (1, jk_V v1)]) rfl ?_
        refine jk_lv (lv' := [(0, .ref a_a), (1, jk_V v1), (2, jk_V 0)]) [1, 2, 0] rfl ?_
        exact bk_34 jk_F v1 0 hf
      · refine jk_iload_n C rd_Check_order_12 (k := 1) rfl ?_
        refine jk_aload_n C rd_Check_order_13 (k := 0) rfl ?_
        refine jk_iload_n C rd_Check_order_14 (k := 2) rfl ?_
        obtain ⟨q15, hq15, hf⟩ := jk_bind_h hf
        refine jk_callVi C hZ.1 hz (ct_Cords_end l D Z sq hZ cI cR a_a a_a_starts a_a_depth a_a_topic a_a_value a_a_nibbled a_a_starts_k i_a_clusters i_a_size i_a_starts v2 q15 hq15) tm_501 tm_502 tm_503 tm_6 tm_504 na_Cords_end ⟨Nat.le_of_ble_eq_true rfl, Nat.le_of_ble_eq_true rfl⟩ rfl [0, 1, 2] rfl rfl rfl (ws' := wd_Check_order cI a_a a_a_starts a_a_depth a_a_topic a_a_value a_a_nibbled a_a_starts_k a_a_depth_k i_a_clusters i_a_size i_a_starts i_a_depth) rfl 0 5 rfl rfl rfl (st := [jk_V v1]) rfl (Nat.le_of_ble_eq_true rfl) rd_Check_order_15 ?_ ⟨Nat.le_of_ble_eq_true rfl, Nat.le_of_ble_eq_true rfl⟩
        refine jk_aload_n C rd_Check_order_18 (k := 0) rfl ?_
        refine jk_iload_n C rd_Check_order_19 (k := 2) rfl ?_
        obtain ⟨q20, hq20, hf⟩ := jk_bind_h hf
        refine jk_callVi C hZ.1 hz (ct_Cords_start l D Z sq hZ cI cR a_a a_a_starts a_a_depth a_a_topic a_a_value a_a_nibbled a_a_starts_k i_a_clusters i_a_size i_a_starts v2 q20 hq20) tm_505 tm_372 tm_373 tm_6 tm_374 na_Cords_start ⟨Nat.le_of_ble_eq_true rfl, Nat.le_of_ble_eq_true rfl⟩ rfl [0, 1, 2] rfl rfl rfl (ws' := wd_Check_order cI a_a a_a_starts a_a_depth a_a_topic a_a_value a_a_nibbled a_a_starts_k a_a_depth_k i_a_clusters i_a_size i_a_starts i_a_depth) rfl 0 5 rfl rfl rfl (st := [jk_V q15, jk_V v1]) rfl (Nat.le_of_ble_eq_true rfl) rd_Check_order_20 ?_ ⟨Nat.le_of_ble_eq_true rfl, Nat.le_of_ble_eq_true rfl⟩
        refine jk_isub C rd_Check_order_23 ?_
        refine jk_iadd C rd_Check_order_24 ?_
        refine jk_istore_n C rd_Check_order_25 (by decide) (lv' := [(1, jk_V (v1 + (q15 - q20))), (0, .ref a_a), (2, jk_V v2)]) rfl ?_
        refine jk_iinc C rd_Check_order_26 (k := 2) rfl (by decide) (lv' := [(2, jk_V (v2 + 1)), (1, jk_V (v1 + (q15 - q20))), (0, .ref a_a)]) rfl ?_
        refine jk_goto (tgt := 4) C rd_Check_order_29 (by decide) ?_
        refine jk_lv (lv' := [(0, .ref a_a), (1, jk_V (v1 + (q15 - q20))), (2, jk_V (v2 + 1))]) [2, 1, 0] rfl ?_
        exact ih (v1 + (q15 - q20)) (v2 + 1) hf
  refine jk_iconst C rd_Check_order_0 ?_
  refine jk_istore_n C rd_Check_order_1 (by decide) (lv' := [(1, jk_V 0), (0, .ref a_a)]) rfl ?_
  refine jk_iconst C rd_Check_order_2 ?_
  refine jk_istore_n C rd_Check_order_3 (by decide) (lv' := [(2, jk_V 0), (1, jk_V 0), (0, .ref a_a)]) rfl ?_
  refine jk_lv (lv' := [(0, .ref a_a), (1, jk_V 0), (2, jk_V 0)]) [2, 1, 0] rfl ?_
  exact bk_4 jk_F 0 0 hf
def wd_Cords_branchEnd (cI : ClassId) (a_t a_t_starts a_t_depth a_t_topic a_t_value a_t_nibbled a_t_depth_k : Nat) (i_t_clusters : Int) (i_t_size : Int) (i_t_depth : (Int → Int)) : va_W := [(a_t, .inr (5, [jk_V i_t_clusters, jk_V i_t_size, .ref a_t_starts, .ref a_t_depth, .ref a_t_topic, .ref a_t_value, .ref a_t_nibbled])), (a_t_depth, .inr (0, [.ref a_t_depth_k])), (a_t_depth_k, jk_W cI 40 i_t_depth)]
set_option maxHeartbeats 4000000 in
set_option maxRecDepth 20000 in
theorem ct_Cords_branchEnd (l : Launch) (D : va_G) (Z : (Nat → Prop) → State → Heap → Prop) (sq : Nat → Nat) (hZ : jk_ZK Z sq) (cI cR : ClassId) (a_t a_t_starts a_t_depth a_t_topic a_t_value a_t_nibbled a_t_depth_k : Nat) (i_t_clusters : Int) (i_t_size : Int) (i_t_depth : (Int → Int)) (x1 : Int) (q : Int) (hf : fn_Cords_branchEnd i_t_size i_t_depth x1 = some q) : jk_MI l D jk_cl (jk_ty cI cR) Z mn_Cords_branchEnd (.code mn_Cords_branchEnd mb_Cords_branchEnd 3 (some .int) :: jk_WA) (jk_rm 1 21) [.ref a_t, jk_V x1] (wd_Cords_branchEnd cI a_t a_t_starts a_t_depth a_t_topic a_t_value a_t_nibbled a_t_depth_k i_t_clusters i_t_size i_t_depth) (wd_Cords_branchEnd cI a_t a_t_starts a_t_depth a_t_topic a_t_value a_t_nibbled a_t_depth_k i_t_clusters i_t_size i_t_depth) q := by
  intro sz
  refine jk_body (by decide +kernel) (fun p e s m args below meth c hsz hz hin C => ?_) (Nat.le_of_ble_eq_true rfl)
  subst hsz
  unfold fn_Cords_branchEnd at hf
  have bk_17 : ∀ (n : Nat) (v1 : Int) (v2 : Int), fn_Cords_branchEnd_b17 n i_t_size i_t_depth v1 v2 = some q → jk_J p l e (jk_rm 1 21) s m args below meth c 0 0 (jk_QI below D jk_cl (jk_ty cI cR) (wd_Cords_branchEnd cI a_t a_t_starts a_t_depth a_t_topic a_t_value a_t_nibbled a_t_depth_k i_t_clusters i_t_size i_t_depth) (wd_Cords_branchEnd cI a_t a_t_starts a_t_depth a_t_topic a_t_value a_t_nibbled a_t_depth_k i_t_clusters i_t_size i_t_depth) args s q) D jk_cl (va_A (wd_Cords_branchEnd cI a_t a_t_starts a_t_depth a_t_topic a_t_value a_t_nibbled a_t_depth_k i_t_clusters i_t_size i_t_depth) s.heap.size) 3 (wd_Cords_branchEnd cI a_t a_t_starts a_t_depth a_t_topic a_t_value a_t_nibbled a_t_depth_k i_t_clusters i_t_size i_t_depth) [(0, .ref a_t), (1, jk_V v1), (2, jk_V v2)] 17 [] := by
    intro n
    induction n with
    | zero => intro v1 v2 hf; exact nomatch (show none = some q from hf)
    | succ n ih =>
      intro v1 v2 hf
      rw [fn_Cords_branchEnd_b17] at hf
      refine jk_iload_n C rd_Cords_branchEnd_17 (k := 2) rfl ?_
      refine jk_aload_n C rd_Cords_branchEnd_18 (k := 0) rfl ?_
      refine jk_get C in_Cords (ci := 5) rfl 1 (by decide) tm_133 0 rfl rfl rd_Cords_branchEnd_19 ?_
      refine jk_icmp_ge (tgt := 50) C rd_Cords_branchEnd_22 (by decide) hf (fun _ hf => ?_) (fun _ hf => ?_)
      · refine jk_iload_n C rd_Cords_branchEnd_50 (k := 2) rfl ?_
        cases hf
        exact jk_iret C rfl rd_Cords_branchEnd_51 rfl
      · refine jk_aload_n C rd_Cords_branchEnd_25 (k := 0) rfl ?_
        refine jk_get C in_Cords (ci := 5) rfl 3 (by decide) tm_138 0 rfl rfl rd_Cords_branchEnd_26 ?_
        refine jk_iload_n C rd_Cords_branchEnd_29 (k := 2) rfl ?_
        obtain ⟨q30, hq30, hf⟩ := jk_bind_h hf
        refine jk_callVi C hZ.1 hz (ct_Row_get l D Z sq hZ cI cR (n_t := 40) (Nat.le_of_ble_eq_true rfl) a_t_depth a_t_depth_k i_t_depth v2 q30 hq30) tm_363 tm_299 tm_300 tm_3 tm_301 na_Row_get ⟨Nat.le_of_ble_eq_true rfl, Nat.le_of_ble_eq_true rfl⟩ rfl [1, 2] rfl rfl rfl (ws' := wd_Cords_branchEnd cI a_t a_t_starts a_t_depth a_t_topic a_t_value a_t_nibbled a_t_depth_k i_t_clusters i_t_size i_t_depth) rfl 1 0 rfl rfl rfl (st := []) rfl (Nat.le_of_ble_eq_true rfl) rd_Cords_branchEnd_30 ?_ ⟨Nat.le_of_ble_eq_true rfl, Nat.le_of_ble_eq_true rfl⟩
        refine jk_aload_n C rd_Cords_branchEnd_33 (k := 0) rfl ?_
        refine jk_get C in_Cords (ci := 5) rfl 3 (by decide) tm_138 0 rfl rfl rd_Cords_branchEnd_34 ?_
        refine jk_iload_n C rd_Cords_branchEnd_37 (k := 1) rfl ?_
        obtain ⟨q38, hq38, hf⟩ := jk_bind_h hf
        refine jk_callVi C hZ.1 hz (ct_Row_get l D Z sq hZ cI cR (n_t := 40) (Nat.le_of_ble_eq_true rfl) a_t_depth a_t_depth_k i_t_depth v1 q38 hq38) tm_363 tm_299 tm_300 tm_3 tm_301 na_Row_get ⟨Nat.le_of_ble_eq_true rfl, Nat.le_of_ble_eq_true rfl⟩ rfl [1, 2] rfl rfl rfl (ws' := wd_Cords_branchEnd cI a_t a_t_starts a_t_depth a_t_topic a_t_value a_t_nibbled a_t_depth_k i_t_clusters i_t_size i_t_depth) rfl 1 0 rfl rfl rfl (st := [jk_V q30]) rfl (Nat.le_of_ble_eq_true rfl) rd_Cords_branchEnd_38 ?_ ⟨Nat.le_of_ble_eq_true rfl, Nat.le_of_ble_eq_true rfl⟩
        refine jk_icmp_le (tgt := 50) C rd_Cords_branchEnd_41 (by decide) hf (fun _ hf => ?_) (fun _ hf => ?_)
        · refine jk_iload_n C rd_Cords_branchEnd_50 (k := 2) rfl ?_
          cases hf
          exact jk_iret C rfl rd_Cords_branchEnd_51 rfl
        · refine jk_iinc C rd_Cords_branchEnd_44 (k := 2) rfl (by decide) (lv' := [(2, jk_V (v2 + 1)), (0, .ref a_t), (1, jk_V v1)]) rfl ?_
          refine jk_goto (tgt := 17) C rd_Cords_branchEnd_47 (by decide) ?_
          refine jk_lv (lv' := [(0, .ref a_t), (1, jk_V v1), (2, jk_V (v2 + 1))]) [1, 2, 0] rfl ?_
          exact ih v1 (v2 + 1) hf
  refine jk_iload_n C rd_Cords_branchEnd_0 (k := 1) rfl ?_
  refine jk_iconst C rd_Cords_branchEnd_1 ?_
  refine jk_iadd C rd_Cords_branchEnd_2 ?_
  refine jk_istore_n C rd_Cords_branchEnd_3 (by decide) (lv' := [(2, jk_V (x1 + 1)), (0, .ref a_t), (1, jk_V x1)]) rfl ?_
  refine jk_aload_n C rd_Cords_branchEnd_4 (k := 1) rfl ?_
  refine jk_get C in_Cords (ci := 5) rfl 3 (by decide) tm_138 0 rfl rfl rd_Cords_branchEnd_5 ?_
  refine jk_iload_n C rd_Cords_branchEnd_8 (k := 2) rfl ?_
  obtain ⟨q9, hq9, hf⟩ := jk_bind_h hf
  refine jk_callVi C hZ.1 hz (ct_Row_get l D Z sq hZ cI cR (n_t := 40) (Nat.le_of_ble_eq_true rfl) a_t_depth a_t_depth_k i_t_depth x1 q9 hq9) tm_363 tm_299 tm_300 tm_3 tm_301 na_Row_get ⟨Nat.le_of_ble_eq_true rfl, Nat.le_of_ble_eq_true rfl⟩ rfl [1, 2] rfl rfl rfl (ws' := wd_Cords_branchEnd cI a_t a_t_starts a_t_depth a_t_topic a_t_value a_t_nibbled a_t_depth_k i_t_clusters i_t_size i_t_depth) rfl 1 0 rfl rfl rfl (st := []) rfl (Nat.le_of_ble_eq_true rfl) rd_Cords_branchEnd_9 ?_ ⟨Nat.le_of_ble_eq_true rfl, Nat.le_of_ble_eq_true rfl⟩
  refine jk_if_ne (tgt := 17) C rd_Cords_branchEnd_12 (by decide) hf (fun _ hf => ?_) (fun _ hf => ?_)
  · refine jk_lv (lv' := [(0, .ref a_t), (1, jk_V x1), (2, jk_V (x1 + 1))]) [1, 2, 0] rfl ?_
    exact bk_17 jk_F x1 (x1 + 1) hf
  · refine jk_iload_n C rd_Cords_branchEnd_15 (k := 0) rfl ?_
    cases hf
    exact jk_iret C rfl rd_Cords_branchEnd_16 rfl
def wd_Check_totalByRecursion (cI : ClassId) (a_a a_a_starts a_a_depth a_a_topic a_a_value a_a_nibbled a_a_depth_k a_a_value_k : Nat) (i_a_clusters : Int) (i_a_size : Int) (i_a_depth : (Int → Int)) (i_a_value : (Int → Int)) : va_W := [(a_a, .inr (5, [jk_V i_a_clusters, jk_V i_a_size, .ref a_a_starts, .ref a_a_depth, .ref a_a_topic, .ref a_a_value, .ref a_a_nibbled])), (a_a_depth, .inr (0, [.ref a_a_depth_k])), (a_a_depth_k, jk_W cI 40 i_a_depth), (a_a_value, .inr (0, [.ref a_a_value_k])), (a_a_value_k, jk_W cI 40 i_a_value)]
set_option maxHeartbeats 4000000 in
set_option maxRecDepth 20000 in
theorem ct_Check_totalByRecursion (l : Launch) (D : va_G) (Z : (Nat → Prop) → State → Heap → Prop) (sq : Nat → Nat) (hZ : jk_ZK Z sq) (cI cR : ClassId) (a_a a_a_starts a_a_depth a_a_topic a_a_value a_a_nibbled a_a_depth_k a_a_value_k : Nat) : ∀ (d : Nat) (i_a_clusters : Int) (i_a_size : Int) (i_a_depth : (Int → Int)) (i_a_value : (Int → Int)) (x1 : Int) (x2 : Int) (q : Int), fn_Check_totalByRecursion d i_a_size i_a_depth i_a_value x1 x2 = some q → jk_MI l D jk_cl (jk_ty cI cR) Z mn_Check_totalByRecursion (.code mn_Check_totalByRecursion mb_Check_totalByRecursion 6 (some .int) :: jk_WA) (jk_rm (2 + d) (43 + d * 25)) [.ref a_a, jk_V x1, jk_V x2] (wd_Check_totalByRecursion cI a_a a_a_starts a_a_depth a_a_topic a_a_value a_a_nibbled a_a_depth_k a_a_value_k i_a_clusters i_a_size i_a_depth i_a_value) (wd_Check_totalByRecursion cI a_a a_a_starts a_a_depth a_a_topic a_a_value a_a_nibbled a_a_depth_k a_a_value_k i_a_clusters i_a_size i_a_depth i_a_value) q := by
  intro d
  induction d with
  | zero => intro i_a_clusters i_a_size i_a_depth i_a_value x1 x2 q hf; exact nomatch (show none = some q from hf)
  | succ d ihd =>
  intro i_a_clusters i_a_size i_a_depth i_a_value x1 x2 q hf
  intro sz
  refine jk_body (by decide +kernel) (fun p e s m args below meth c hsz hz hin C => ?_) (Nat.le_of_ble_eq_true rfl)
  subst hsz
  rw [fn_Check_totalByRecursion] at hf
  have bk_28 : ∀ (n : Nat) (v2 : Int) (v3 : Int) (v4 : Int) (v5 : Int), fn_Check_totalByRecursion_b28 (fn_Check_totalByRecursion d) n i_a_size i_a_depth i_a_value v2 v3 v4 v5 = some q → jk_J p l e (jk_rm (2 + (d + 1)) (43 + (d + 1) * 25)) s m args below meth c 0 0 (jk_QI below D jk_cl (jk_ty cI cR) (wd_Check_totalByRecursion cI a_a a_a_starts a_a_depth a_a_topic a_a_value a_a_nibbled a_a_depth_k a_a_value_k i_a_clusters i_a_size i_a_depth i_a_value) (wd_Check_totalByRecursion cI a_a a_a_starts a_a_depth a_a_topic a_a_value a_a_nibbled a_a_depth_k a_a_value_k i_a_clusters i_a_size i_a_depth i_a_value) args s q) D jk_cl (va_A (wd_Check_totalByRecursion cI a_a a_a_starts a_a_depth a_a_topic a_a_value a_a_nibbled a_a_depth_k a_a_value_k i_a_clusters i_a_size i_a_depth i_a_value) s.heap.size) 6 (wd_Check_totalByRecursion cI a_a a_a_starts a_a_depth a_a_topic a_a_value a_a_nibbled a_a_depth_k a_a_value_k i_a_clusters i_a_size i_a_depth i_a_value) [(0, .ref a_a), (2, jk_V v2), (3, jk_V v3), (4, jk_V v4), (5, jk_V v5)] 28 [] := by
    intro n
    induction n with
    | zero => intro v2 v3 v4 v5 hf; exact nomatch (show none = some q from hf)
    | succ n ih =>
      intro v2 v3 v4 v5 hf
      rw [fn_Check_totalByRecursion_b28] at hf
      refine jk_iload C rd_Check_totalByRecursion_28 (k := 4) rfl ?_
      refine jk_iload C rd_Check_totalByRecursion_30 (k := 3) rfl ?_
      refine jk_icmp_ge (tgt := 68) C rd_Check_totalByRecursion_32 (by decide) hf (fun _ hf => ?_) (fun _ hf => ?_)
      · refine jk_iload_n C rd_Check_totalByRecursion_68 (k := 2) rfl ?_
        cases hf
        exact jk_iret C rfl rd_Check_totalByRecursion_69 rfl
      · refine jk_aload_n C rd_Check_totalByRecursion_35 (k := 0) rfl ?_
        refine jk_getN C in_Cords (ci := 5) rfl 3 (by decide) (jk_nw hZ hz tn_14) 0 rfl rfl rd_Check_totalByRecursion_36 ?_
        refine jk_iload C rd_Check_totalByRecursion_39 (k := 4) rfl ?_
        obtain ⟨q41, hq41, hf⟩ := jk_bind_h hf
        refine jk_callVi C hZ.1 hz (ct_Row_get l D Z sq hZ cI cR (n_t := 40) (Nat.le_of_ble_eq_true rfl) a_a_depth a_a_depth_k i_a_depth v5 q41 hq41) tm_513 tm_299 tm_300 tm_3 tm_301 na_Row_get ⟨by dsimp only [jk_rm]; omega, by dsimp only [jk_rm]; omega⟩ rfl [1, 2] rfl rfl rfl (ws' := wd_Check_totalByRecursion cI a_a a_a_starts a_a_depth a_a_topic a_a_value a_a_nibbled a_a_depth_k a_a_value_k i_a_clusters i_a_size i_a_depth i_a_value) rfl 1 0 rfl rfl rfl (st := []) rfl (Nat.le_of_ble_eq_true rfl) rd_Check_totalByRecursion_41 ?_ ⟨Nat.le_of_ble_eq_true rfl, Nat.le_of_ble_eq_true rfl⟩
        refine jk_iload_n C rd_Check_totalByRecursion_44 (k := 1) rfl ?_
        refine jk_iconst C rd_Check_totalByRecursion_45 ?_
        refine jk_iadd C rd_Check_totalByRecursion_46 ?_
        refine jk_icmp_ne (tgt := 62) C rd_Check_totalByRecursion_47 (by decide) hf (fun _ hf => ?_) (fun _ hf => ?_)
        · refine jk_iinc C rd_Check_totalByRecursion_62 (k := 4) rfl (by decide) (lv' := [(5, jk_V (v5 + 1)), (0, .ref a_a), (2, jk_V v2), (3, jk_V v3), (4, jk_V v4)]) rfl ?_
          refine jk_goto (tgt := 28) C rd_Check_totalByRecursion_65 (by decide) ?_
          refine jk_lv (lv' := [(0, .ref a_a), (2, jk_V v2), (3, jk_V v3), (4, jk_V v4), (5, jk_V (v5 + 1))]) [1, 2, 3, 4, 0] rfl ?_
          exact ih v2 v3 v4 (v5 + 1) hf
        · refine jk_iload_n C rd_Check_totalByRecursion_50 (k := 2) rfl ?_
          refine jk_aload_n C rd_Check_totalByRecursion_51 (k := 0) rfl ?_
          refine jk_iload C rd_Check_totalByRecursion_52 (k := 4) rfl ?_
          refine jk_iload_n C rd_Check_totalByRecursion_54 (k := 1) rfl ?_
          refine jk_iconst C rd_Check_totalByRecursion_55 ?_
          refine jk_iadd C rd_Check_totalByRecursion_56 ?_
          obtain ⟨q57, hq57, hf⟩ := jk_bind_h hf
          refine jk_callSi C hZ.1 hz (ihd i_a_clusters i_a_size i_a_depth i_a_value v5 (v2 + 1) q57 hq57) tm_531 tm_532 tm_39 tm_533 na_Check_totalByRecursion ⟨by dsimp only [jk_rm]; omega, by dsimp only [jk_rm]; omega⟩ rfl [0, 1, 2, 3, 4] rfl rfl rfl (ws' := wd_Check_totalByRecursion cI a_a a_a_starts a_a_depth a_a_topic a_a_value a_a_nibbled a_a_depth_k a_a_value_k i_a_clusters i_a_size i_a_depth i_a_value) rfl (st := [jk_V v3]) rfl (Nat.le_of_ble_eq_true rfl) rd_Check_totalByRecursion_57 ?_ ⟨Nat.le_of_ble_eq_true rfl, Nat.le_of_ble_eq_true rfl⟩
          refine jk_iadd C rd_Check_totalByRecursion_60 ?_
          refine jk_istore_n C rd_Check_totalByRecursion_61 (by decide) (lv' := [(3, jk_V (v3 + q57)), (0, .ref a_a), (2, jk_V v2), (4, jk_V v4), (5, jk_V v5)]) rfl ?_
          refine jk_iinc C rd_Check_totalByRecursion_62 (k := 4) rfl (by decide) (lv' := [(5, jk_V (v5 + 1)), (3, jk_V (v3 + q57)), (0, .ref a_a), (2, jk_V v2), (4, jk_V v4)]) rfl ?_
          refine jk_goto (tgt := 28) C rd_Check_totalByRecursion_65 (by decide) ?_
          refine jk_lv (lv' := [(0, .ref a_a), (2, jk_V v2), (3, jk_V (v3 + q57)), (4, jk_V v4), (5, jk_V (v5 + 1))]) [2, 3, 1, 4, 0] rfl ?_
          exact ih v2 (v3 + q57) v4 (v5 + 1) hf
  refine jk_aload_n C rd_Check_totalByRecursion_0 (k := 0) rfl ?_
  refine jk_getN C in_Cords (ci := 5) rfl 5 (by decide) (jk_nw hZ hz tn_17) 0 rfl rfl rd_Check_totalByRecursion_1 ?_
  refine jk_iload_n C rd_Check_totalByRecursion_4 (k := 1) rfl ?_
  obtain ⟨q5, hq5, hf⟩ := jk_bind_h hf
  refine jk_callVi C hZ.1 hz (ct_Row_get l D Z sq hZ cI cR (n_t := 40) (Nat.le_of_ble_eq_true rfl) a_a_value a_a_value_k i_a_value x1 q5 hq5) tm_513 tm_299 tm_300 tm_3 tm_301 na_Row_get ⟨by dsimp only [jk_rm]; omega, by dsimp only [jk_rm]; omega⟩ rfl [3, 4] rfl rfl rfl (ws' := wd_Check_totalByRecursion cI a_a a_a_starts a_a_depth a_a_topic a_a_value a_a_nibbled a_a_depth_k a_a_value_k i_a_clusters i_a_size i_a_depth i_a_value) rfl 3 0 rfl rfl rfl (st := []) rfl (Nat.le_of_ble_eq_true rfl) rd_Check_totalByRecursion_5 ?_ ⟨Nat.le_of_ble_eq_true rfl, Nat.le_of_ble_eq_true rfl⟩
  refine jk_istore_n C rd_Check_totalByRecursion_8 (by decide) (lv' := [(3, jk_V q5), (0, .ref a_a), (1, jk_V x1), (2, jk_V x2)]) rfl ?_
  refine jk_iload_n C rd_Check_totalByRecursion_9 (k := 3) rfl ?_
  refine jk_iconst C rd_Check_totalByRecursion_10 ?_
  refine jk_icmp_lt (tgt := 16) C rd_Check_totalByRecursion_11 (by decide) hf (fun _ hf => ?_) (fun _ hf => ?_)
  · refine jk_aload_n C rd_Check_totalByRecursion_16 (k := 1) rfl ?_
    refine jk_iload_n C rd_Check_totalByRecursion_17 (k := 2) rfl ?_
    obtain ⟨q18, hq18, hf⟩ := jk_bind_h hf
    refine jk_callVi C hZ.1 hz (ct_Cords_branchEnd l D Z sq hZ cI cR a_a a_a_starts a_a_depth a_a_topic a_a_value a_a_nibbled a_a_depth_k i_a_clusters i_a_size i_a_depth x1 q18 hq18) tm_517 tm_380 tm_381 tm_6 tm_382 na_Cords_branchEnd ⟨by dsimp only [jk_rm]; omega, by dsimp only [jk_rm]; omega⟩ rfl [0, 1, 2] rfl rfl rfl (ws' := wd_Check_totalByRecursion cI a_a a_a_starts a_a_depth a_a_topic a_a_value a_a_nibbled a_a_depth_k a_a_value_k i_a_clusters i_a_size i_a_depth i_a_value) rfl 0 5 rfl rfl rfl (st := []) rfl (Nat.le_of_ble_eq_true rfl) rd_Check_totalByRecursion_18 ?_ ⟨Nat.le_of_ble_eq_true rfl, Nat.le_of_ble_eq_true rfl⟩
    refine jk_istore C rd_Check_totalByRecursion_21 (by decide) (lv' := [(4, jk_V q18), (3, jk_V q5), (0, .ref a_a), (1, jk_V x1), (2, jk_V x2)]) rfl ?_
    refine jk_iload_n C rd_Check_totalByRecursion_23 (k := 3) rfl ?_
    refine jk_iconst C rd_Check_totalByRecursion_24 ?_
    refine jk_iadd C rd_Check_totalByRecursion_25 ?_
    refine jk_istore C rd_Check_totalByRecursion_26 (by decide) (lv' := [(5, jk_V (x1 + 1)), (4, jk_V q18), (3, jk_V q5), (0, .ref a_a), (1, jk_V x1), (2, jk_V x2)]) rfl ?_
    refine jk_lv (lv' := [(0, .ref a_a), (2, jk_V x2), (3, jk_V q5), (4, jk_V q18), (5, jk_V (x1 + 1))]) [3, 5, 2, 1, 0] rfl ?_
    exact bk_28 jk_F x2 q5 q18 (x1 + 1) hf
  · refine jk_iload_n C rd_Check_totalByRecursion_14 (k := 0) rfl ?_
    cases hf
    exact jk_iret C rfl rd_Check_totalByRecursion_15 rfl
def wd_Knots_power (cI : ClassId)  : va_W := []
set_option maxHeartbeats 4000000 in
set_option maxRecDepth 20000 in
theorem ct_Knots_power (l : Launch) (D : va_G) (Z : (Nat → Prop) → State → Heap → Prop) (sq : Nat → Nat) (hZ : jk_ZK Z sq) (cI cR : ClassId) (x0 : Int) (q : Int) (hf : fn_Knots_power x0 = some q) : jk_MI l D jk_cl (jk_ty cI cR) Z mn_Knots_power (.code mn_Knots_power mb_Knots_power 1 (some .int) :: jk_WA) (jk_rm 0 0) [jk_V x0] (wd_Knots_power cI) (wd_Knots_power cI) q := by
  intro sz
  refine jk_body (by decide +kernel) (fun p e s m args below meth c hsz hz hin C => ?_) (Nat.le_of_ble_eq_true rfl)
  subst hsz
  unfold fn_Knots_power at hf
  refine jk_iload_n C rd_Knots_power_0 (k := 0) rfl ?_
  refine jk_eqs_c hf (fun hx hf => ?_) (fun hx0 hf => ?_)
  · refine jk_tabIn (off := 31) (tgt := 32) C rd_Knots_power_1 (k := 0) hx (by decide +kernel) (by decide) ?_
    refine jk_iconst C rd_Knots_power_32 ?_
    cases hf
    exact jk_iret C rfl rd_Knots_power_33 rfl
  refine jk_eqs_c hf (fun hx hf => ?_) (fun hx1 hf => ?_)
  · refine jk_tabIn (off := 33) (tgt := 34) C rd_Knots_power_1 (k := 1) hx (by decide +kernel) (by decide) ?_
    refine jk_bipush C rd_Knots_power_34 (by decide +kernel) ?_
    cases hf
    exact jk_iret C rfl rd_Knots_power_36 rfl
  refine jk_eqs_c hf (fun hx hf => ?_) (fun hx2 hf => ?_)
  · refine jk_tabIn (off := 36) (tgt := 37) C rd_Knots_power_1 (k := 2) hx (by decide +kernel) (by decide) ?_
    refine jk_bipush C rd_Knots_power_37 (by decide +kernel) ?_
    cases hf
    exact jk_iret C rfl rd_Knots_power_39 rfl
  refine jk_eqs_c hf (fun hx hf => ?_) (fun hx3 hf => ?_)
  · refine jk_tabIn (off := 39) (tgt := 40) C rd_Knots_power_1 (k := 3) hx (by decide +kernel) (by decide) ?_
    refine jk_sipush C rd_Knots_power_40 (by decide +kernel) ?_
    cases hf
    exact jk_iret C rfl rd_Knots_power_43 rfl
  refine jk_tabOut (tgt := 44) C rd_Knots_power_1 (jk_rg_h hf).1 (by omega) (by decide) ?_
  replace hf := (jk_rg_h hf).2
  refine jk_sipush C rd_Knots_power_44 (by decide +kernel) ?_
  cases hf
  exact jk_iret C rfl rd_Knots_power_47 rfl
def wd_Cords_highestSum (cI : ClassId) (a_t a_t_starts a_t_depth a_t_topic a_t_value a_t_nibbled a_t_value_k a_t_nibbled_k : Nat) (i_t_clusters : Int) (i_t_size : Int) (i_t_value : (Int → Int)) (i_t_nibbled : (Int → Int)) : va_W := [(a_t, .inr (5, [jk_V i_t_clusters, jk_V i_t_size, .ref a_t_starts, .ref a_t_depth, .ref a_t_topic, .ref a_t_value, .ref a_t_nibbled])), (a_t_value, .inr (0, [.ref a_t_value_k])), (a_t_value_k, jk_W cI 40 i_t_value), (a_t_nibbled, .inr (0, [.ref a_t_nibbled_k])), (a_t_nibbled_k, jk_W cI 40 i_t_nibbled)]
set_option maxHeartbeats 4000000 in
set_option maxRecDepth 20000 in
theorem ct_Cords_highestSum (l : Launch) (D : va_G) (Z : (Nat → Prop) → State → Heap → Prop) (sq : Nat → Nat) (hZ : jk_ZK Z sq) (cI cR : ClassId) (a_t a_t_starts a_t_depth a_t_topic a_t_value a_t_nibbled a_t_value_k a_t_nibbled_k : Nat) (i_t_clusters : Int) (i_t_size : Int) (i_t_value : (Int → Int)) (i_t_nibbled : (Int → Int)) (x1 : Int) (x2 : Int) (q : Int) (hf : fn_Cords_highestSum i_t_value i_t_nibbled x1 x2 = some q) : jk_MI l D jk_cl (jk_ty cI cR) Z mn_Cords_highestSum (.code mn_Cords_highestSum mb_Cords_highestSum 5 (some .int) :: jk_WA) (jk_rm 1 21) [.ref a_t, jk_V x1, jk_V x2] (wd_Cords_highestSum cI a_t a_t_starts a_t_depth a_t_topic a_t_value a_t_nibbled a_t_value_k a_t_nibbled_k i_t_clusters i_t_size i_t_value i_t_nibbled) (wd_Cords_highestSum cI a_t a_t_starts a_t_depth a_t_topic a_t_value a_t_nibbled a_t_value_k a_t_nibbled_k i_t_clusters i_t_size i_t_value i_t_nibbled) q := by
  intro sz
  refine jk_body (by decide +kernel) (fun p e s m args below meth c hsz hz hin C => ?_) (Nat.le_of_ble_eq_true rfl)
  subst hsz
  unfold fn_Cords_highestSum at hf
  have bk_5 : ∀ (n : Nat) (v2 : Int) (v3 : Int) (v4 : Int), fn_Cords_highestSum_b5 n i_t_value i_t_nibbled v2 v3 v4 = some q → jk_J p l e (jk_rm 1 21) s m args below meth c 0 0 (jk_QI below D jk_cl (jk_ty cI cR) (wd_Cords_highestSum cI a_t a_t_starts a_t_depth a_t_topic a_t_value a_t_nibbled a_t_value_k a_t_nibbled_k i_t_clusters i_t_size i_t_value i_t_nibbled) (wd_Cords_highestSum cI a_t a_t_starts a_t_depth a_t_topic a_t_value a_t_nibbled a_t_value_k a_t_nibbled_k i_t_clusters i_t_size i_t_value i_t_nibbled) args s q) D jk_cl (va_A (wd_Cords_highestSum cI a_t a_t_starts a_t_depth a_t_topic a_t_value a_t_nibbled a_t_value_k a_t_nibbled_k i_t_clusters i_t_size i_t_value i_t_nibbled) s.heap.size) 5 (wd_Cords_highestSum cI a_t a_t_starts a_t_depth a_t_topic a_t_value a_t_nibbled a_t_value_k a_t_nibbled_k i_t_clusters i_t_size i_t_value i_t_nibbled) [(0, .ref a_t), (2, jk_V v2), (3, jk_V v3), (4, jk_V v4)] 5 [] := by
    intro n
    induction n with
    | zero => intro v2 v3 v4 hf; exact nomatch (show none = some q from hf)
    | succ n ih =>
      intro v2 v3 v4 hf
      rw [fn_Cords_highestSum_b5] at hf
      refine jk_iload C rd_Cords_highestSum_5 (k := 3) rfl ?_
      refine jk_iload_n C rd_Cords_highestSum_7 (k := 1) rfl ?_
      refine jk_icmp_ge (tgt := 44) C rd_Cords_highestSum_8 (by decide) hf (fun _ hf => ?_) (fun _ hf => ?_)
      · refine jk_iload_n C rd_Cords_highestSum_44 (k := 2) rfl ?_
        cases hf
        exact jk_iret C rfl rd_Cords_highestSum_45 rfl
      · refine jk_iload_n C rd_Cords_highestSum_11 (k := 2) rfl ?_
        refine jk_aload_n C rd_Cords_highestSum_12 (k := 0) rfl ?_
        refine jk_get C in_Cords (ci := 5) rfl 5 (by decide) tm_143 0 rfl rfl rd_Cords_highestSum_13 ?_
        refine jk_iload C rd_Cords_highestSum_16 (k := 3) rfl ?_
        obtain ⟨q18, hq18, hf⟩ := jk_bind_h hf
        refine jk_callVi C hZ.1 hz (ct_Row_get l D Z sq hZ cI cR (n_t := 40) (Nat.le_of_ble_eq_true rfl) a_t_value a_t_value_k i_t_value v4 q18 hq18) tm_363 tm_299 tm_300 tm_3 tm_301 na_Row_get ⟨Nat.le_of_ble_eq_true rfl, Nat.le_of_ble_eq_true rfl⟩ rfl [1, 2] rfl rfl rfl (ws' := wd_Cords_highestSum cI a_t a_t_starts a_t_depth a_t_topic a_t_value a_t_nibbled a_t_value_k a_t_nibbled_k i_t_clusters i_t_size i_t_value i_t_nibbled) rfl 1 0 rfl rfl rfl (st := [jk_V v3]) rfl (Nat.le_of_ble_eq_true rfl) rd_Cords_highestSum_18 ?_ ⟨Nat.le_of_ble_eq_true rfl, Nat.le_of_ble_eq_true rfl⟩
        refine jk_aload_n C rd_Cords_highestSum_21 (k := 0) rfl ?_
        refine jk_get C in_Cords (ci := 5) rfl 6 (by decide) tm_146 0 rfl rfl rd_Cords_highestSum_22 ?_
        refine jk_iload C rd_Cords_highestSum_25 (k := 3) rfl ?_
        obtain ⟨q27, hq27, hf⟩ := jk_bind_h hf
        refine jk_callVi C hZ.1 hz (ct_Row_get l D Z sq hZ cI cR (n_t := 40) (Nat.le_of_ble_eq_true rfl) a_t_nibbled a_t_nibbled_k i_t_nibbled v4 q27 hq27) tm_363 tm_299 tm_300 tm_3 tm_301 na_Row_get ⟨Nat.le_of_ble_eq_true rfl, Nat.le_of_ble_eq_true rfl⟩ rfl [3, 4] rfl rfl rfl (ws' := wd_Cords_highestSum cI a_t a_t_starts a_t_depth a_t_topic a_t_value a_t_nibbled a_t_value_k a_t_nibbled_k i_t_clusters i_t_size i_t_value i_t_nibbled) rfl 3 0 rfl rfl rfl (st := [jk_V q18, jk_V v3]) rfl (Nat.le_of_ble_eq_true rfl) rd_Cords_highestSum_27 ?_ ⟨Nat.le_of_ble_eq_true rfl, Nat.le_of_ble_eq_true rfl⟩
        obtain ⟨q30, hq30, hf⟩ := jk_bind_h hf
        refine jk_callSi C hZ.1 hz (ct_Knots_power l D Z sq hZ cI cR q27 q30 hq30) tm_530 tm_425 tm_14 tm_426 na_Knots_power ⟨Nat.le_of_ble_eq_true rfl, Nat.le_of_ble_eq_true rfl⟩ rfl [] rfl rfl rfl (ws' := wd_Cords_highestSum cI a_t a_t_starts a_t_depth a_t_topic a_t_value a_t_nibbled a_t_value_k a_t_nibbled_k i_t_clusters i_t_size i_t_value i_t_nibbled) rfl (st := [jk_V q18, jk_V v3]) rfl (Nat.le_of_ble_eq_true rfl) rd_Cords_highestSum_30 ?_ ⟨Nat.le_of_ble_eq_true rfl, Nat.le_of_ble_eq_true rfl⟩
        refine jk_iadd C rd_Cords_highestSum_33 ?_
        refine jk_iconst C rd_Cords_highestSum_34 ?_
        refine jk_isub C rd_Cords_highestSum_35 ?_
        refine jk_iadd C rd_Cords_highestSum_36 ?_
        refine jk_istore_n C rd_Cords_highestSum_37 (by decide) (lv' := [(3, jk_V (v3 + ((q18 + q30) - 1))), (0, .ref a_t), (2, jk_V v2), (4, jk_V v4)]) rfl ?_
        refine jk_iinc C rd_Cords_highestSum_38 (k := 3) rfl (by decide) (lv' := [(4, jk_V (v4 + 1)), (3, jk_V (v3 + ((q18 + q30) - 1))), (0, .ref a_t), (2, jk_V v2)]) rfl ?_
        refine jk_goto (tgt := 5) C rd_Cords_highestSum_41 (by decide) ?_
        refine jk_lv (lv' := [(0, .ref a_t), (2, jk_V v2), (3, jk_V (v3 + ((q18 + q30) - 1))), (4, jk_V (v4 + 1))]) [2, 3, 1, 0] rfl ?_
        exact ih v2 (v3 + ((q18 + q30) - 1)) (v4 + 1) hf
  refine jk_iconst C rd_Cords_highestSum_0 ?_
  refine jk_istore_n C rd_Cords_highestSum_1 (by decide) (lv' := [(3, jk_V 0), (0, .ref a_t), (1, jk_V x1), (2, jk_V x2)]) rfl ?_
  refine jk_iload_n C rd_Cords_highestSum_2 (k := 2) rfl ?_
  refine jk_istore C rd_Cords_highestSum_3 (by decide) (lv' := [(4, jk_V x1), (3, jk_V 0), (0, .ref a_t), (1, jk_V x1), (2, jk_V x2)]) rfl ?_
  refine jk_lv (lv' := [(0, .ref a_t), (2, jk_V x2), (3, jk_V 0), (4, jk_V x1)]) [2, 4, 1, 0] rfl ?_
  exact bk_5 jk_F x2 0 x1 hf
def wd_Cords_lowestSum (cI : ClassId) (a_t a_t_starts a_t_depth a_t_topic a_t_value a_t_nibbled a_t_value_k : Nat) (i_t_clusters : Int) (i_t_size : Int) (i_t_value : (Int → Int)) : va_W := [(a_t, .inr (5, [jk_V i_t_clusters, jk_V i_t_size, .ref a_t_starts, .ref a_t_depth, .ref a_t_topic, .ref a_t_value, .ref a_t_nibbled])), (a_t_value, .inr (0, [.ref a_t_value_k])), (a_t_value_k, jk_W cI 40 i_t_value)]
set_option maxHeartbeats 4000000 in
set_option maxRecDepth 20000 in
theorem ct_Cords_lowestSum (l : Launch) (D : va_G) (Z : (Nat → Prop) → State → Heap → Prop) (sq : Nat → Nat) (hZ : jk_ZK Z sq) (cI cR : ClassId) (a_t a_t_starts a_t_depth a_t_topic a_t_value a_t_nibbled a_t_value_k : Nat) (i_t_clusters : Int) (i_t_size : Int) (i_t_value : (Int → Int)) (x1 : Int) (x2 : Int) (q : Int) (hf : fn_Cords_lowestSum i_t_value x1 x2 = some q) : jk_MI l D jk_cl (jk_ty cI cR) Z mn_Cords_lowestSum (.code mn_Cords_lowestSum mb_Cords_lowestSum 5 (some .int) :: jk_WA) (jk_rm 1 21) [.ref a_t, jk_V x1, jk_V x2] (wd_Cords_lowestSum cI a_t a_t_starts a_t_depth a_t_topic a_t_value a_t_nibbled a_t_value_k i_t_clusters i_t_size i_t_value) (wd_Cords_lowestSum cI a_t a_t_starts a_t_depth a_t_topic a_t_value a_t_nibbled a_t_value_k i_t_clusters i_t_size i_t_value) q := by
  intro sz
  refine jk_body (by decide +kernel) (fun p e s m args below meth c hsz hz hin C => ?_) (Nat.le_of_ble_eq_true rfl)
  subst hsz
  unfold fn_Cords_lowestSum at hf
  have bk_5 : ∀ (n : Nat) (v2 : Int) (v3 : Int) (v4 : Int), fn_Cords_lowestSum_b5 n i_t_value v2 v3 v4 = some q → jk_J p l e (jk_rm 1 21) s m args below meth c 0 0 (jk_QI below D jk_cl (jk_ty cI cR) (wd_Cords_lowestSum cI a_t a_t_starts a_t_depth a_t_topic a_t_value a_t_nibbled a_t_value_k i_t_clusters i_t_size i_t_value) (wd_Cords_lowestSum cI a_t a_t_starts a_t_depth a_t_topic a_t_value a_t_nibbled a_t_value_k i_t_clusters i_t_size i_t_value) args s q) D jk_cl (va_A (wd_Cords_lowestSum cI a_t a_t_starts a_t_depth a_t_topic a_t_value a_t_nibbled a_t_value_k i_t_clusters i_t_size i_t_value) s.heap.size) 5 (wd_Cords_lowestSum cI a_t a_t_starts a_t_depth a_t_topic a_t_value a_t_nibbled a_t_value_k i_t_clusters i_t_size i_t_value) [(0, .ref a_t), (2, jk_V v2), (3, jk_V v3), (4, jk_V v4)] 5 [] := by
    intro n
    induction n with
    | zero => intro v2 v3 v4 hf; exact nomatch (show none = some q from hf)
    | succ n ih =>
      intro v2 v3 v4 hf
      rw [fn_Cords_lowestSum_b5] at hf
      refine jk_iload C rd_Cords_lowestSum_5 (k := 3) rfl ?_
      refine jk_iload_n C rd_Cords_lowestSum_7 (k := 1) rfl ?_
      refine jk_icmp_ge (tgt := 29) C rd_Cords_lowestSum_8 (by decide) hf (fun _ hf => ?_) (fun _ hf => ?_)
      · refine jk_iload_n C rd_Cords_lowestSum_29 (k := 2) rfl ?_
        cases hf
        exact jk_iret C rfl rd_Cords_lowestSum_30 rfl
      · refine jk_iload_n C rd_Cords_lowestSum_11 (k := 2) rfl ?_
        refine jk_aload_n C rd_Cords_lowestSum_12 (k := 0) rfl ?_
        refine jk_get C in_Cords (ci := 5) rfl 5 (by decide) tm_143 0 rfl rfl rd_Cords_lowestSum_13 ?_
        refine jk_iload C rd_Cords_lowestSum_16 (k := 3) rfl ?_
        obtain ⟨q18, hq18, hf⟩ := jk_bind_h hf
        refine jk_callVi C hZ.1 hz (ct_Row_get l D Z sq hZ cI cR (n_t := 40) (Nat.le_of_ble_eq_true rfl) a_t_value a_t_value_k i_t_value v4 q18 hq18) tm_363 tm_299 tm_300 tm_3 tm_301 na_Row_get ⟨Nat.le_of_ble_eq_true rfl, Nat.le_of_ble_eq_true rfl⟩ rfl [1, 2] rfl rfl rfl (ws' := wd_Cords_lowestSum cI a_t a_t_starts a_t_depth a_t_topic a_t_value a_t_nibbled a_t_value_k i_t_clusters i_t_size i_t_value) rfl 1 0 rfl rfl rfl (st := [jk_V v3]) rfl (Nat.le_of_ble_eq_true rfl) rd_Cords_lowestSum_18 ?_ ⟨Nat.le_of_ble_eq_true rfl, Nat.le_of_ble_eq_true rfl⟩
        refine jk_iadd C rd_Cords_lowestSum_21 ?_
        refine jk_istore_n C rd_Cords_lowestSum_22 (by decide) (lv' := [(3, jk_V (v3 + q18)), (0, .ref a_t), (2, jk_V v2), (4, jk_V v4)]) rfl ?_
        refine jk_iinc C rd_Cords_lowestSum_23 (k := 3) rfl (by decide) (lv' := [(4, jk_V (v4 + 1)), (3, jk_V (v3 + q18)), (0, .ref a_t), (2, jk_V v2)]) rfl ?_
        refine jk_goto (tgt := 5) C rd_Cords_lowestSum_26 (by decide) ?_
        refine jk_lv (lv' := [(0, .ref a_t), (2, jk_V v2), (3, jk_V (v3 + q18)), (4, jk_V (v4 + 1))]) [2, 3, 1, 0] rfl ?_
        exact ih v2 (v3 + q18) (v4 + 1) hf
  refine jk_iconst C rd_Cords_lowestSum_0 ?_
  refine jk_istore_n C rd_Cords_lowestSum_1 (by decide) (lv' := [(3, jk_V 0), (0, .ref a_t), (1, jk_V x1), (2, jk_V x2)]) rfl ?_
  refine jk_iload_n C rd_Cords_lowestSum_2 (k := 2) rfl ?_
  refine jk_istore C rd_Cords_lowestSum_3 (by decide) (lv' := [(4, jk_V x1), (3, jk_V 0), (0, .ref a_t), (1, jk_V x1), (2, jk_V x2)]) rfl ?_
  refine jk_lv (lv' := [(0, .ref a_t), (2, jk_V x2), (3, jk_V 0), (4, jk_V x1)]) [2, 4, 1, 0] rfl ?_
  exact bk_5 jk_F x2 0 x1 hf
def wd_Cords_nibbledAmong (cI : ClassId) (a_t a_t_starts a_t_depth a_t_topic a_t_value a_t_nibbled a_t_nibbled_k : Nat) (i_t_clusters : Int) (i_t_size : Int) (i_t_nibbled : (Int → Int)) : va_W := [(a_t, .inr (5, [jk_V i_t_clusters, jk_V i_t_size, .ref a_t_starts, .ref a_t_depth, .ref a_t_topic, .ref a_t_value, .ref a_t_nibbled])), (a_t_nibbled, .inr (0, [.ref a_t_nibbled_k])), (a_t_nibbled_k, jk_W cI 40 i_t_nibbled)]
set_option maxHeartbeats 4000000 in
set_option maxRecDepth 20000 in
theorem ct_Cords_nibbledAmong (l : Launch) (D : va_G) (Z : (Nat → Prop) → State → Heap → Prop) (sq : Nat → Nat) (hZ : jk_ZK Z sq) (cI cR : ClassId) (a_t a_t_starts a_t_depth a_t_topic a_t_value a_t_nibbled a_t_nibbled_k : Nat) (i_t_clusters : Int) (i_t_size : Int) (i_t_nibbled : (Int → Int)) (x1 : Int) (x2 : Int) (q : Int) (hf : fn_Cords_nibbledAmong i_t_nibbled x1 x2 = some q) : jk_MI l D jk_cl (jk_ty cI cR) Z mn_Cords_nibbledAmong (.code mn_Cords_nibbledAmong mb_Cords_nibbledAmong 5 (some .int) :: jk_WA) (jk_rm 1 21) [.ref a_t, jk_V x1, jk_V x2] (wd_Cords_nibbledAmong cI a_t a_t_starts a_t_depth a_t_topic a_t_value a_t_nibbled a_t_nibbled_k i_t_clusters i_t_size i_t_nibbled) (wd_Cords_nibbledAmong cI a_t a_t_starts a_t_depth a_t_topic a_t_value a_t_nibbled a_t_nibbled_k i_t_clusters i_t_size i_t_nibbled) q := by
  intro sz
  refine jk_body (by decide +kernel) (fun p e s m args below meth c hsz hz hin C => ?_) (Nat.le_of_ble_eq_true rfl)
  subst hsz
  unfold fn_Cords_nibbledAmong at hf
  have bk_5 : ∀ (n : Nat) (v2 : Int) (v3 : Int) (v4 : Int), fn_Cords_nibbledAmong_b5 n i_t_nibbled v2 v3 v4 = some q → jk_J p l e (jk_rm 1 21) s m args below meth c 0 0 (jk_QI below D jk_cl (jk_ty cI cR) (wd_Cords_nibbledAmong cI a_t a_t_starts a_t_depth a_t_topic a_t_value a_t_nibbled a_t_nibbled_k i_t_clusters i_t_size i_t_nibbled) (wd_Cords_nibbledAmong cI a_t a_t_starts a_t_depth a_t_topic a_t_value a_t_nibbled a_t_nibbled_k i_t_clusters i_t_size i_t_nibbled) args s q) D jk_cl (va_A (wd_Cords_nibbledAmong cI a_t a_t_starts a_t_depth a_t_topic a_t_value a_t_nibbled a_t_nibbled_k i_t_clusters i_t_size i_t_nibbled) s.heap.size) 5 (wd_Cords_nibbledAmong cI a_t a_t_starts a_t_depth a_t_topic a_t_value a_t_nibbled a_t_nibbled_k i_t_clusters i_t_size i_t_nibbled) [(0, .ref a_t), (2, jk_V v2), (3, jk_V v3), (4, jk_V v4)] 5 [] := by
    intro n
    induction n with
    | zero => intro v2 v3 v4 hf; exact nomatch (show none = some q from hf)
    | succ n ih =>
      intro v2 v3 v4 hf
      rw [fn_Cords_nibbledAmong_b5] at hf
      refine jk_iload C rd_Cords_nibbledAmong_5 (k := 3) rfl ?_
      refine jk_iload_n C rd_Cords_nibbledAmong_7 (k := 1) rfl ?_
      refine jk_icmp_ge (tgt := 32) C rd_Cords_nibbledAmong_8 (by decide) hf (fun _ hf => ?_) (fun _ hf => ?_)
      · refine jk_iload_n C rd_Cords_nibbledAmong_32 (k := 2) rfl ?_
        cases hf
        exact jk_iret C rfl rd_Cords_nibbledAmong_33 rfl
      · refine jk_aload_n C rd_Cords_nibbledAmong_11 (k := 0) rfl ?_
        refine jk_get C in_Cords (ci := 5) rfl 6 (by decide) tm_146 0 rfl rfl rd_Cords_nibbledAmong_12 ?_
        refine jk_iload C rd_Cords_nibbledAmong_15 (k := 3) rfl ?_
        obtain ⟨q17, hq17, hf⟩ := jk_bind_h hf
        refine jk_callVi C hZ.1 hz (ct_Row_get l D Z sq hZ cI cR (n_t := 40) (Nat.le_of_ble_eq_true rfl) a_t_nibbled a_t_nibbled_k i_t_nibbled v4 q17 hq17) tm_363 tm_299 tm_300 tm_3 tm_301 na_Row_get ⟨Nat.le_of_ble_eq_true rfl, Nat.le_of_ble_eq_true rfl⟩ rfl [1, 2] rfl rfl rfl (ws' := wd_Cords_nibbledAmong cI a_t a_t_starts a_t_depth a_t_topic a_t_value a_t_nibbled a_t_nibbled_k i_t_clusters i_t_size i_t_nibbled) rfl 1 0 rfl rfl rfl (st := []) rfl (Nat.le_of_ble_eq_true rfl) rd_Cords_nibbledAmong_17 ?_ ⟨Nat.le_of_ble_eq_true rfl, Nat.le_of_ble_eq_true rfl⟩
        refine jk_if_le (tgt := 26) C rd_Cords_nibbledAmong_20 (by decide) hf (fun _ hf => ?_) (fun _ hf => ?_)
        · refine jk_iinc C rd_Cords_nibbledAmong_26 (k := 3) rfl (by decide) (lv' := [(4, jk_V (v4 + 1)), (0, .ref a_t), (2, jk_V v2), (3, jk_V v3)]) rfl ?_
          refine jk_goto (tgt := 5) C rd_Cords_nibbledAmong_29 (by decide) ?_
          refine jk_lv (lv' := [(0, .ref a_t), (2, jk_V v2), (3, jk_V v3), (4, jk_V (v4 + 1))]) [1, 2, 3, 0] rfl ?_
          exact ih v2 v3 (v4 + 1) hf
        · refine jk_iinc C rd_Cords_nibbledAmong_23 (k := 2) rfl (by decide) (lv' := [(3, jk_V (v3 + 1)), (0, .ref a_t), (2, jk_V v2), (4, jk_V v4)]) rfl ?_
          refine jk_iinc C rd_Cords_nibbledAmong_26 (k := 3) rfl (by decide) (lv' := [(4, jk_V (v4 + 1)), (3, jk_V (v3 + 1)), (0, .ref a_t), (2, jk_V v2)]) rfl ?_
          refine jk_goto (tgt := 5) C rd_Cords_nibbledAmong_29 (by decide) ?_
          refine jk_lv (lv' := [(0, .ref a_t), (2, jk_V v2), (3, jk_V (v3 + 1)), (4, jk_V (v4 + 1))]) [2, 3, 1, 0] rfl ?_
          exact ih v2 (v3 + 1) (v4 + 1) hf
  refine jk_iconst C rd_Cords_nibbledAmong_0 ?_
  refine jk_istore_n C rd_Cords_nibbledAmong_1 (by decide) (lv' := [(3, jk_V 0), (0, .ref a_t), (1, jk_V x1), (2, jk_V x2)]) rfl ?_
  refine jk_iload_n C rd_Cords_nibbledAmong_2 (k := 2) rfl ?_
  refine jk_istore C rd_Cords_nibbledAmong_3 (by decide) (lv' := [(4, jk_V x1), (3, jk_V 0), (0, .ref a_t), (1, jk_V x1), (2, jk_V x2)]) rfl ?_
  refine jk_lv (lv' := [(0, .ref a_t), (2, jk_V x2), (3, jk_V 0), (4, jk_V x1)]) [2, 4, 1, 0] rfl ?_
  exact bk_5 jk_F x2 0 x1 hf
def wd_Check_branches (cI : ClassId) (a_a a_a_starts a_a_depth a_a_topic a_a_value a_a_nibbled a_a_depth_k a_a_value_k a_a_nibbled_k : Nat) (i_a_clusters : Int) (i_a_size : Int) (i_a_depth : (Int → Int)) (i_a_value : (Int → Int)) (i_a_nibbled : (Int → Int)) : va_W := [(a_a, .inr (5, [jk_V i_a_clusters, jk_V i_a_size, .ref a_a_starts, .ref a_a_depth, .ref a_a_topic, .ref a_a_value, .ref a_a_nibbled])), (a_a_depth, .inr (0, [.ref a_a_depth_k])), (a_a_depth_k, jk_W cI 40 i_a_depth), (a_a_value, .inr (0, [.ref a_a_value_k])), (a_a_value_k, jk_W cI 40 i_a_value), (a_a_nibbled, .inr (0, [.ref a_a_nibbled_k])), (a_a_nibbled_k, jk_W cI 40 i_a_nibbled)]
set_option maxHeartbeats 4000000 in
set_option maxRecDepth 20000 in
theorem ct_Check_branches (l : Launch) (D : va_G) (Z : (Nat → Prop) → State → Heap → Prop) (sq : Nat → Nat) (hZ : jk_ZK Z sq) (cI cR : ClassId) (a_a a_a_starts a_a_depth a_a_topic a_a_value a_a_nibbled a_a_depth_k a_a_value_k a_a_nibbled_k : Nat) (i_a_clusters : Int) (i_a_size : Int) (i_a_depth : (Int → Int)) (i_a_value : (Int → Int)) (i_a_nibbled : (Int → Int)) (q : Int) (hf : fn_Check_branches i_a_size i_a_depth i_a_value i_a_nibbled = some q) : jk_MI l D jk_cl (jk_ty cI cR) Z mn_Check_branches (.code mn_Check_branches mb_Check_branches 5 (some .boolean) :: jk_WA) (jk_rm 11 268) [.ref a_a] (wd_Check_branches cI a_a a_a_starts a_a_depth a_a_topic a_a_value a_a_nibbled a_a_depth_k a_a_value_k a_a_nibbled_k i_a_clusters i_a_size i_a_depth i_a_value i_a_nibbled) (wd_Check_branches cI a_a a_a_starts a_a_depth a_a_topic a_a_value a_a_nibbled a_a_depth_k a_a_value_k a_a_nibbled_k i_a_clusters i_a_size i_a_depth i_a_value i_a_nibbled) q := by
  intro sz
  refine jk_body (by decide +kernel) (fun p e s m args below meth c hsz hz hin C => ?_) (Nat.le_of_ble_eq_true rfl)
  subst hsz
  unfold fn_Check_branches at hf
  have bk_2 : ∀ (n : Nat) (v1 : Int), fn_Check_branches_b2 n i_a_size i_a_depth i_a_value i_a_nibbled v1 = some q → jk_J p l e (jk_rm 11 268) s m args below meth c 0 0 (jk_QI below D jk_cl (jk_ty cI cR) (wd_Check_branches cI a_a a_a_starts a_a_depth a_a_topic a_a_value a_a_nibbled a_a_depth_k a_a_value_k a_a_nibbled_k i_a_clusters i_a_size i_a_depth i_a_value i_a_nibbled) (wd_Check_branches cI a_a a_a_starts a_a_depth a_a_topic a_a_value a_a_nibbled a_a_depth_k a_a_value_k a_a_nibbled_k i_a_clusters i_a_size i_a_depth i_a_value i_a_nibbled) args s q) D jk_cl (va_A (wd_Check_branches cI a_a a_a_starts a_a_depth a_a_topic a_a_value a_a_nibbled a_a_depth_k a_a_value_k a_a_nibbled_k i_a_clusters i_a_size i_a_depth i_a_value i_a_nibbled) s.heap.size) 5 (wd_Check_branches cI a_a a_a_starts a_a_depth a_a_topic a_a_value a_a_nibbled a_a_depth_k a_a_value_k a_a_nibbled_k i_a_clusters i_a_size i_a_depth i_a_value i_a_nibbled) [(0, .ref a_a), (1, jk_V v1)] 2 [] := by
    intro n
    induction n with
    | zero => intro v1 hf; exact nomatch (show none = some q from hf)
    | succ n ih =>
      intro v1 hf
      rw [fn_Check_branches_b2] at hf
      refine jk_iload_n C rd_Check_branches_2 (k := 1) rfl ?_
      refine jk_aload_n C rd_Check_branches_3 (k := 0) rfl ?_
      refine jk_getN C in_Cords (ci := 5) rfl 1 (by decide) (jk_nw hZ hz tn_11) 0 rfl rfl rd_Check_branches_4 ?_
      refine jk_icmp_ge (tgt := 86) C rd_Check_branches_7 (by decide) hf (fun _ hf => ?_) (fun _ hf => ?_)
      · refine jk_iconst C rd_Check_branches_86 ?_
        cases hf
        exact jk_zret C (Or.inr rfl) rfl rd_Check_branches_87 rfl
      · refine jk_aload_n C rd_Check_branches_10 (k := 0) rfl ?_
        refine jk_iload_n C rd_Check_branches_11 (k := 1) rfl ?_
        obtain ⟨q12, hq12, hf⟩ := jk_bind_h hf
        refine jk_callVi C hZ.1 hz (ct_Cords_branchEnd l D Z sq hZ cI cR a_a a_a_starts a_a_depth a_a_topic a_a_value a_a_nibbled a_a_depth_k i_a_clusters i_a_size i_a_depth v1 q12 hq12) tm_517 tm_380 tm_381 tm_6 tm_382 na_Cords_branchEnd ⟨Nat.le_of_ble_eq_true rfl, Nat.le_of_ble_eq_true rfl⟩ rfl [0, 1, 2] rfl rfl rfl (ws' := wd_Check_branches cI a_a a_a_starts a_a_depth a_a_topic a_a_value a_a_nibbled a_a_depth_k a_a_value_k a_a_nibbled_k i_a_clusters i_a_size i_a_depth i_a_value i_a_nibbled) rfl 0 5 rfl rfl rfl (st := []) rfl (Nat.le_of_ble_eq_true rfl) rd_Check_branches_12 ?_ ⟨Nat.le_of_ble_eq_true rfl, Nat.le_of_ble_eq_true rfl⟩
        refine jk_istore_n C rd_Check_branches_15 (by decide) (lv' := [(2, jk_V q12), (0, .ref a_a), (1, jk_V v1)]) rfl ?_
        refine jk_aload_n C rd_Check_branches_16 (k := 1) rfl ?_
        refine jk_iload_n C rd_Check_branches_17 (k := 2) rfl ?_
        refine jk_iload_n C rd_Check_branches_18 (k := 0) rfl ?_
        obtain ⟨q19, hq19, hf⟩ := jk_bind_h hf
        refine jk_callVi C hZ.1 hz (ct_Cords_lowestSum l D Z sq hZ cI cR a_a a_a_starts a_a_depth a_a_topic a_a_value a_a_nibbled a_a_value_k i_a_clusters i_a_size i_a_value v1 q12 q19 hq19) tm_518 tm_519 tm_520 tm_6 tm_521 na_Cords_lowestSum ⟨Nat.le_of_ble_eq_true rfl, Nat.le_of_ble_eq_true rfl⟩ rfl [0, 3, 4] rfl rfl rfl (ws' := wd_Check_branches cI a_a a_a_starts a_a_depth a_a_topic a_a_value a_a_nibbled a_a_depth_k a_a_value_k a_a_nibbled_k i_a_clusters i_a_size i_a_depth i_a_value i_a_nibbled) rfl 0 5 rfl rfl rfl (st := []) rfl (Nat.le_of_ble_eq_true rfl) rd_Check_branches_19 ?_ ⟨Nat.le_of_ble_eq_true rfl, Nat.le_of_ble_eq_true rfl⟩
        refine jk_istore_n C rd_Check_branches_22 (by decide) (lv' := [(3, jk_V q19), (2, jk_V q12), (0, .ref a_a), (1, jk_V v1)]) rfl ?_
        refine jk_aload_n C rd_Check_branches_23 (k := 2) rfl ?_
        refine jk_iload_n C rd_Check_branches_24 (k := 3) rfl ?_
        refine jk_iload_n C rd_Check_branches_25 (k := 1) rfl ?_
        obtain ⟨q26, hq26, hf⟩ := jk_bind_h hf
        refine jk_callVi C hZ.1 hz (ct_Cords_nibbledAmong l D Z sq hZ cI cR a_a a_a_starts a_a_depth a_a_topic a_a_value a_a_nibbled a_a_nibbled_k i_a_clusters i_a_size i_a_nibbled v1 q12 q26 hq26) tm_522 tm_523 tm_524 tm_6 tm_525 na_Cords_nibbledAmong ⟨Nat.le_of_ble_eq_true rfl, Nat.le_of_ble_eq_true rfl⟩ rfl [0, 5, 6] rfl rfl rfl (ws' := wd_Check_branches cI a_a a_a_starts a_a_depth a_a_topic a_a_value a_a_nibbled a_a_depth_k a_a_value_k a_a_nibbled_k i_a_clusters i_a_size i_a_depth i_a_value i_a_nibbled) rfl 0 5 rfl rfl rfl (st := []) rfl (Nat.le_of_ble_eq_true rfl) rd_Check_branches_26 ?_ ⟨Nat.le_of_ble_eq_true rfl, Nat.le_of_ble_eq_true rfl⟩
        refine jk_if_ne (tgt := 36) C rd_Check_branches_29 (by decide) hf (fun _ hf => ?_) (fun _ hf => ?_)
        · refine jk_iconst C rd_Check_branches_36 ?_
          refine jk_istore C rd_Check_branches_37 (by decide) (lv' := [(4, jk_V 0), (3, jk_V q19), (2, jk_V q12), (0, .ref a_a), (1, jk_V v1)]) rfl ?_
          refine jk_iload_n C rd_Check_branches_39 (k := 1) rfl ?_
          refine jk_aload_n C rd_Check_branches_40 (k := 3) rfl ?_
          refine jk_iload_n C rd_Check_branches_41 (k := 4) rfl ?_
          refine jk_iload_n C rd_Check_branches_42 (k := 2) rfl ?_
          obtain ⟨q43, hq43, hf⟩ := jk_bind_h hf
          refine jk_callVi C hZ.1 hz (ct_Cords_highestSum l D Z sq hZ cI cR a_a a_a_starts a_a_depth a_a_topic a_a_value a_a_nibbled a_a_value_k a_a_nibbled_k i_a_clusters i_a_size i_a_value i_a_nibbled v1 q12 q43 hq43) tm_526 tm_527 tm_528 tm_6 tm_529 na_Cords_highestSum ⟨Nat.le_of_ble_eq_true rfl, Nat.le_of_ble_eq_true rfl⟩ rfl [0, 3, 4, 5, 6] rfl rfl rfl (ws' := wd_Check_branches cI a_a a_a_starts a_a_depth a_a_topic a_a_value a_a_nibbled a_a_depth_k a_a_value_k a_a_nibbled_k i_a_clusters i_a_size i_a_depth i_a_value i_a_nibbled) rfl 0 5 rfl rfl rfl (st := [jk_V q19]) rfl (Nat.le_of_ble_eq_true rfl) rd_Check_branches_43 ?_ ⟨Nat.le_of_ble_eq_true rfl, Nat.le_of_ble_eq_true rfl⟩
          refine jk_icmp_ne (tgt := 53) C rd_Check_branches_46 (by decide) hf (fun _ hf => ?_) (fun _ hf => ?_)
          · refine jk_iconst C rd_Check_branches_53 ?_
            refine jk_iload C rd_Check_branches_54 (k := 0) rfl ?_
            refine jk_icmp_eq (tgt := 61) C rd_Check_branches_56 (by decide) hf (fun _ hf => ?_) (fun _ hf => ?_)
            · refine jk_iload_n C rd_Check_branches_61 (k := 1) rfl ?_
              refine jk_aload_n C rd_Check_branches_62 (k := 3) rfl ?_
              refine jk_iload_n C rd_Check_branches_63 (k := 4) rfl ?_
              refine jk_aload_n C rd_Check_branches_64 (k := 3) rfl ?_
              refine jk_getN C in_Cords (ci := 5) rfl 3 (by decide) (jk_nw hZ hz tn_14) 0 rfl rfl rd_Check_branches_65 ?_
              refine jk_iload_n C rd_Check_branches_68 (k := 4) rfl ?_
              obtain ⟨q69, hq69, hf⟩ := jk_bind_h hf
              refine jk_callVi C hZ.1 hz (ct_Row_get l D Z sq hZ cI cR (n_t := 40) (Nat.le_of_ble_eq_true rfl) a_a_depth a_a_depth_k i_a_depth v1 q69 hq69) tm_513 tm_299 tm_300 tm_3 tm_301 na_Row_get ⟨Nat.le_of_ble_eq_true rfl, Nat.le_of_ble_eq_true rfl⟩ rfl [1, 2] rfl rfl rfl (ws' := wd_Check_branches cI a_a a_a_starts a_a_depth a_a_topic a_a_value a_a_nibbled a_a_depth_k a_a_value_k a_a_nibbled_k i_a_clusters i_a_size i_a_depth i_a_value i_a_nibbled) rfl 1 0 rfl rfl rfl (st := [jk_V v1, .ref a_a, jk_V q19]) rfl (Nat.le_of_ble_eq_true rfl) rd_Check_branches_69 ?_ ⟨Nat.le_of_ble_eq_true rfl, Nat.le_of_ble_eq_true rfl⟩
              obtain ⟨q72, hq72, hf⟩ := jk_bind_h hf
              refine jk_callSi C hZ.1 hz (ct_Check_totalByRecursion l D Z sq hZ cI cR a_a a_a_starts a_a_depth a_a_topic a_a_value a_a_nibbled a_a_depth_k a_a_value_k 8 i_a_clusters i_a_size i_a_depth i_a_value v1 q69 q72 hq72) tm_531 tm_532 tm_39 tm_533 na_Check_totalByRecursion ⟨Nat.le_of_ble_eq_true rfl, Nat.le_of_ble_eq_true rfl⟩ rfl [0, 1, 2, 3, 4] rfl rfl rfl (ws' := wd_Check_branches cI a_a a_a_starts a_a_depth a_a_topic a_a_value a_a_nibbled a_a_depth_k a_a_value_k a_a_nibbled_k i_a_clusters i_a_size i_a_depth i_a_value i_a_nibbled) rfl (st := [jk_V q19]) rfl (Nat.le_of_ble_eq_true rfl) rd_Check_branches_72 ?_ ⟨Nat.le_of_ble_eq_true rfl, Nat.le_of_ble_eq_true rfl⟩
              refine jk_icmp_eq (tgt := 80) C rd_Check_branches_75 (by decide) hf (fun _ hf => ?_) (fun _ hf => ?_)
              · refine jk_iinc C rd_Check_branches_80 (k := 4) rfl (by decide) (lv' := [(1, jk_V (v1 + 1)), (4, jk_V 0), (3, jk_V q19), (2, jk_V q12), (0, .ref a_a)]) rfl ?_
                refine jk_goto (tgt := 2) C rd_Check_branches_83 (by decide) ?_
                refine jk_lv (lv' := [(0, .ref a_a), (1, jk_V (v1 + 1))]) [4, 0] rfl ?_
                exact ih (v1 + 1) hf
              · refine jk_iconst C rd_Check_branches_78 ?_
                cases hf
                exact jk_zret C (Or.inl rfl) rfl rd_Check_branches_79 rfl
            · refine jk_iconst C rd_Check_branches_59 ?_
              cases hf
              exact jk_zret C (Or.inl rfl) rfl rd_Check_branches_60 rfl
          · refine jk_iconst C rd_Check_branches_49 ?_
            refine jk_goto (tgt := 54) C rd_Check_branches_50 (by decide) ?_
            refine jk_iload C rd_Check_branches_54 (k := 0) rfl ?_
            refine jk_icmp_eq (tgt := 61) C rd_Check_branches_56 (by decide) hf (fun _ hf => ?_) (fun _ hf => ?_)
            · refine jk_iload_n C rd_Check_branches_61 (k := 1) rfl ?_
              refine jk_aload_n C rd_Check_branches_62 (k := 3) rfl ?_
              refine jk_iload_n C rd_Check_branches_63 (k := 4) rfl ?_
              refine jk_aload_n C rd_Check_branches_64 (k := 3) rfl ?_
              refine jk_getN C in_Cords (ci := 5) rfl 3 (by decide) (jk_nw hZ hz tn_14) 0 rfl rfl rd_Check_branches_65 ?_
              refine jk_iload_n C rd_Check_branches_68 (k := 4) rfl ?_
              obtain ⟨q69, hq69, hf⟩ := jk_bind_h hf
              refine jk_callVi C hZ.1 hz (ct_Row_get l D Z sq hZ cI cR (n_t := 40) (Nat.le_of_ble_eq_true rfl) a_a_depth a_a_depth_k i_a_depth v1 q69 hq69) tm_513 tm_299 tm_300 tm_3 tm_301 na_Row_get ⟨Nat.le_of_ble_eq_true rfl, Nat.le_of_ble_eq_true rfl⟩ rfl [1, 2] rfl rfl rfl (ws' := wd_Check_branches cI a_a a_a_starts a_a_depth a_a_topic a_a_value a_a_nibbled a_a_depth_k a_a_value_k a_a_nibbled_k i_a_clusters i_a_size i_a_depth i_a_value i_a_nibbled) rfl 1 0 rfl rfl rfl (st := [jk_V v1, .ref a_a, jk_V q19]) rfl (Nat.le_of_ble_eq_true rfl) rd_Check_branches_69 ?_ ⟨Nat.le_of_ble_eq_true rfl, Nat.le_of_ble_eq_true rfl⟩
              obtain ⟨q72, hq72, hf⟩ := jk_bind_h hf
              refine jk_callSi C hZ.1 hz (ct_Check_totalByRecursion l D Z sq hZ cI cR a_a a_a_starts a_a_depth a_a_topic a_a_value a_a_nibbled a_a_depth_k a_a_value_k 8 i_a_clusters i_a_size i_a_depth i_a_value v1 q69 q72 hq72) tm_531 tm_532 tm_39 tm_533 na_Check_totalByRecursion ⟨Nat.le_of_ble_eq_true rfl, Nat.le_of_ble_eq_true rfl⟩ rfl [0, 1, 2, 3, 4] rfl rfl rfl (ws' := wd_Check_branches cI a_a a_a_starts a_a_depth a_a_topic a_a_value a_a_nibbled a_a_depth_k a_a_value_k a_a_nibbled_k i_a_clusters i_a_size i_a_depth i_a_value i_a_nibbled) rfl (st := [jk_V q19]) rfl (Nat.le_of_ble_eq_true rfl) rd_Check_branches_72 ?_ ⟨Nat.le_of_ble_eq_true rfl, Nat.le_of_ble_eq_true rfl⟩
              refine jk_icmp_eq (tgt := 80) C rd_Check_branches_75 (by decide) hf (fun _ hf => ?_) (fun _ hf => ?_)
              · refine jk_iinc C rd_Check_branches_80 (k := 4) rfl (by decide) (lv' := [(1, jk_V (v1 + 1)), (4, jk_V 0), (3, jk_V q19), (2, jk_V q12), (0, .ref a_a)]) rfl ?_
                refine jk_goto (tgt := 2) C rd_Check_branches_83 (by decide) ?_
                refine jk_lv (lv' := [(0, .ref a_a), (1, jk_V (v1 + 1))]) [4, 0] rfl ?_
                exact ih (v1 + 1) hf
              · refine jk_iconst C rd_Check_branches_78 ?_
                cases hf
                exact jk_zret C (Or.inl rfl) rfl rd_Check_branches_79 rfl
            · refine jk_iconst C rd_Check_branches_59 ?_
              cases hf
              exact jk_zret C (Or.inl rfl) rfl rd_Check_branches_60 rfl
        · refine jk_iconst C rd_Check_branches_32 ?_
          refine jk_goto (tgt := 37) C rd_Check_branches_33 (by decide) ?_
          refine jk_istore C rd_Check_branches_37 (by decide) (lv' := [(4, jk_V 1), (3, jk_V q19), (2, jk_V q12), (0, .ref a_a), (1, jk_V v1)]) rfl ?_
          refine jk_iload_n C rd_Check_branches_39 (k := 1) rfl ?_
          refine jk_aload_n C rd_Check_branches_40 (k := 3) rfl ?_
          refine jk_iload_n C rd_Check_branches_41 (k := 4) rfl ?_
          refine jk_iload_n C rd_Check_branches_42 (k := 2) rfl ?_
          obtain ⟨q43, hq43, hf⟩ := jk_bind_h hf
          refine jk_callVi C hZ.1 hz (ct_Cords_highestSum l D Z sq hZ cI cR a_a a_a_starts a_a_depth a_a_topic a_a_value a_a_nibbled a_a_value_k a_a_nibbled_k i_a_clusters i_a_size i_a_value i_a_nibbled v1 q12 q43 hq43) tm_526 tm_527 tm_528 tm_6 tm_529 na_Cords_highestSum ⟨Nat.le_of_ble_eq_true rfl, Nat.le_of_ble_eq_true rfl⟩ rfl [0, 3, 4, 5, 6] rfl rfl rfl (ws' := wd_Check_branches cI a_a a_a_starts a_a_depth a_a_topic a_a_value a_a_nibbled a_a_depth_k a_a_value_k a_a_nibbled_k i_a_clusters i_a_size i_a_depth i_a_value i_a_nibbled) rfl 0 5 rfl rfl rfl (st := [jk_V q19]) rfl (Nat.le_of_ble_eq_true rfl) rd_Check_branches_43 ?_ ⟨Nat.le_of_ble_eq_true rfl, Nat.le_of_ble_eq_true rfl⟩
          refine jk_icmp_ne (tgt := 53) C rd_Check_branches_46 (by decide) hf (fun _ hf => ?_) (fun _ hf => ?_)
          · refine jk_iconst C rd_Check_branches_53 ?_
            refine jk_iload C rd_Check_branches_54 (k := 0) rfl ?_
            refine jk_icmp_eq (tgt := 61) C rd_Check_branches_56 (by decide) hf (fun _ hf => ?_) (fun _ hf => ?_)
            · refine jk_iload_n C rd_Check_branches_61 (k := 1) rfl ?_
              refine jk_aload_n C rd_Check_branches_62 (k := 3) rfl ?_
              refine jk_iload_n C rd_Check_branches_63 (k := 4) rfl ?_
              refine jk_aload_n C rd_Check_branches_64 (k := 3) rfl ?_
              refine jk_getN C in_Cords (ci := 5) rfl 3 (by decide) (jk_nw hZ hz tn_14) 0 rfl rfl rd_Check_branches_65 ?_
              refine jk_iload_n C rd_Check_branches_68 (k := 4) rfl ?_
              obtain ⟨q69, hq69, hf⟩ := jk_bind_h hf
              refine jk_callVi C hZ.1 hz (ct_Row_get l D Z sq hZ cI cR (n_t := 40) (Nat.le_of_ble_eq_true rfl) a_a_depth a_a_depth_k i_a_depth v1 q69 hq69) tm_513 tm_299 tm_300 tm_3 tm_301 na_Row_get ⟨Nat.le_of_ble_eq_true rfl, Nat.le_of_ble_eq_true rfl⟩ rfl [1, 2] rfl rfl rfl (ws' := wd_Check_branches cI a_a a_a_starts a_a_depth a_a_topic a_a_value a_a_nibbled a_a_depth_k a_a_value_k a_a_nibbled_k i_a_clusters i_a_size i_a_depth i_a_value i_a_nibbled) rfl 1 0 rfl rfl rfl (st := [jk_V v1, .ref a_a, jk_V q19]) rfl (Nat.le_of_ble_eq_true rfl) rd_Check_branches_69 ?_ ⟨Nat.le_of_ble_eq_true rfl, Nat.le_of_ble_eq_true rfl⟩
              obtain ⟨q72, hq72, hf⟩ := jk_bind_h hf
              refine jk_callSi C hZ.1 hz (ct_Check_totalByRecursion l D Z sq hZ cI cR a_a a_a_starts a_a_depth a_a_topic a_a_value a_a_nibbled a_a_depth_k a_a_value_k 8 i_a_clusters i_a_size i_a_depth i_a_value v1 q69 q72 hq72) tm_531 tm_532 tm_39 tm_533 na_Check_totalByRecursion ⟨Nat.le_of_ble_eq_true rfl, Nat.le_of_ble_eq_true rfl⟩ rfl [0, 1, 2, 3, 4] rfl rfl rfl (ws' := wd_Check_branches cI a_a a_a_starts a_a_depth a_a_topic a_a_value a_a_nibbled a_a_depth_k a_a_value_k a_a_nibbled_k i_a_clusters i_a_size i_a_depth i_a_value i_a_nibbled) rfl (st := [jk_V q19]) rfl (Nat.le_of_ble_eq_true rfl) rd_Check_branches_72 ?_ ⟨Nat.le_of_ble_eq_true rfl, Nat.le_of_ble_eq_true rfl⟩
              refine jk_icmp_eq (tgt := 80) C rd_Check_branches_75 (by decide) hf (fun _ hf => ?_) (fun _ hf => ?_)
              · refine jk_iinc C rd_Check_branches_80 (k := 4) rfl (by decide) (lv' := [(1, jk_V (v1 + 1)), (4, jk_V 1), (3, jk_V q19), (2, jk_V q12), (0, .ref a_a)]) rfl ?_
                refine jk_goto (tgt := 2) C rd_Check_branches_83 (by decide) ?_
                refine jk_lv (lv' := [(0, .ref a_a), (1, jk_V (v1 + 1))]) [4, 0] rfl ?_
                exact ih (v1 + 1) hf
              · refine jk_iconst C rd_Check_branches_78 ?_
                cases hf
                exact jk_zret C (Or.inl rfl) rfl rd_Check_branches_79 rfl
            · refine jk_iconst C rd_Check_branches_59 ?_
              cases hf
              exact jk_zret C (Or.inl rfl) rfl rd_Check_branches_60 rfl
          · refine jk_iconst C rd_Check_branches_49 ?_
            refine jk_goto (tgt := 54) C rd_Check_branches_50 (by decide) ?_
            refine jk_iload C rd_Check_branches_54 (k := 0) rfl ?_
            refine jk_icmp_eq (tgt := 61) C rd_Check_branches_56 (by decide) hf (fun _ hf => ?_) (fun _ hf => ?_)
            · refine jk_iload_n C rd_Check_branches_61 (k := 1) rfl ?_
              refine jk_aload_n C rd_Check_branches_62 (k := 3) rfl ?_
              refine jk_iload_n C rd_Check_branches_63 (k := 4) rfl ?_
              refine jk_aload_n C rd_Check_branches_64 (k := 3) rfl ?_
              refine jk_getN C in_Cords (ci := 5) rfl 3 (by decide) (jk_nw hZ hz tn_14) 0 rfl rfl rd_Check_branches_65 ?_
              refine jk_iload_n C rd_Check_branches_68 (k := 4) rfl ?_
              obtain ⟨q69, hq69, hf⟩ := jk_bind_h hf
              refine jk_callVi C hZ.1 hz (ct_Row_get l D Z sq hZ cI cR (n_t := 40) (Nat.le_of_ble_eq_true rfl) a_a_depth a_a_depth_k i_a_depth v1 q69 hq69) tm_513 tm_299 tm_300 tm_3 tm_301 na_Row_get ⟨Nat.le_of_ble_eq_true rfl, Nat.le_of_ble_eq_true rfl⟩ rfl [1, 2] rfl rfl rfl (ws' := wd_Check_branches cI a_a a_a_starts a_a_depth a_a_topic a_a_value a_a_nibbled a_a_depth_k a_a_value_k a_a_nibbled_k i_a_clusters i_a_size i_a_depth i_a_value i_a_nibbled) rfl 1 0 rfl rfl rfl (st := [jk_V v1, .ref a_a, jk_V q19]) rfl (Nat.le_of_ble_eq_true rfl) rd_Check_branches_69 ?_ ⟨Nat.le_of_ble_eq_true rfl, Nat.le_of_ble_eq_true rfl⟩
              obtain ⟨q72, hq72, hf⟩ := jk_bind_h hf
              refine jk_callSi C hZ.1 hz (ct_Check_totalByRecursion l D Z sq hZ cI cR a_a a_a_starts a_a_depth a_a_topic a_a_value a_a_nibbled a_a_depth_k a_a_value_k 8 i_a_clusters i_a_size i_a_depth i_a_value v1 q69 q72 hq72) tm_531 tm_532 tm_39 tm_533 na_Check_totalByRecursion ⟨Nat.le_of_ble_eq_true rfl, Nat.le_of_ble_eq_true rfl⟩ rfl [0, 1, 2, 3, 4] rfl rfl rfl (ws' := wd_Check_branches cI a_a a_a_starts a_a_depth a_a_topic a_a_value a_a_nibbled a_a_depth_k a_a_value_k a_a_nibbled_k i_a_clusters i_a_size i_a_depth i_a_value i_a_nibbled) rfl (st := [jk_V q19]) rfl (Nat.le_of_ble_eq_true rfl) rd_Check_branches_72 ?_ ⟨Nat.le_of_ble_eq_true rfl, Nat.le_of_ble_eq_true rfl⟩
              refine jk_icmp_eq (tgt := 80) C rd_Check_branches_75 (by decide) hf (fun _ hf => ?_) (fun _ hf => ?_)
              · refine jk_iinc C rd_Check_branches_80 (k := 4) rfl (by decide) (lv' := [(1, jk_V (v1 + 1)), (4, jk_V 1), (3, jk_V q19), (2, jk_V q12), (0, .ref a_a)]) rfl ?_
                refine jk_goto (tgt := 2) C rd_Check_branches_83 (by decide) ?_
                refine jk_lv (lv' := [(0, .ref a_a), (1, jk_V (v1 + 1))]) [4, 0] rfl ?_
                exact ih (v1 + 1) hf
              · refine jk_iconst C rd_Check_branches_78 ?_
                cases hf
                exact jk_zret C (Or.inl rfl) rfl rd_Check_branches_79 rfl
            · refine jk_iconst C rd_Check_branches_59 ?_
              cases hf
              exact jk_zret C (Or.inl rfl) rfl rd_Check_branches_60 rfl
  refine jk_iconst C rd_Check_branches_0 ?_
  refine jk_istore_n C rd_Check_branches_1 (by decide) (lv' := [(1, jk_V 0), (0, .ref a_a)]) rfl ?_
  refine jk_lv (lv' := [(0, .ref a_a), (1, jk_V 0)]) [1, 0] rfl ?_
  exact bk_2 jk_F 0 hf
def wd_Check_sumByRecursion (cI : ClassId) (a_a a_a_starts a_a_depth a_a_topic a_a_value a_a_nibbled a_a_starts_k a_a_depth_k a_a_value_k : Nat) (i_a_clusters : Int) (i_a_size : Int) (i_a_starts : (Int → Int)) (i_a_depth : (Int → Int)) (i_a_value : (Int → Int)) : va_W := [(a_a, .inr (5, [jk_V i_a_clusters, jk_V i_a_size, .ref a_a_starts, .ref a_a_depth, .ref a_a_topic, .ref a_a_value, .ref a_a_nibbled])), (a_a_starts, .inr (0, [.ref a_a_starts_k])), (a_a_starts_k, jk_W cI 7 i_a_starts), (a_a_depth, .inr (0, [.ref a_a_depth_k])), (a_a_depth_k, jk_W cI 40 i_a_depth), (a_a_value, .inr (0, [.ref a_a_value_k])), (a_a_value_k, jk_W cI 40 i_a_value)]
set_option maxHeartbeats 4000000 in
set_option maxRecDepth 20000 in
theorem ct_Check_sumByRecursion (l : Launch) (D : va_G) (Z : (Nat → Prop) → State → Heap → Prop) (sq : Nat → Nat) (hZ : jk_ZK Z sq) (cI cR : ClassId) (a_a a_a_starts a_a_depth a_a_topic a_a_value a_a_nibbled a_a_starts_k a_a_depth_k a_a_value_k : Nat) (i_a_clusters : Int) (i_a_size : Int) (i_a_starts : (Int → Int)) (i_a_depth : (Int → Int)) (i_a_value : (Int → Int)) (x1 : Int) (q : Int) (hf : fn_Check_sumByRecursion i_a_size i_a_starts i_a_depth i_a_value x1 = some q) : jk_MI l D jk_cl (jk_ty cI cR) Z mn_Check_sumByRecursion (.code mn_Check_sumByRecursion mb_Check_sumByRecursion 5 (some .int) :: jk_WA) (jk_rm 11 268) [.ref a_a, jk_V x1] (wd_Check_sumByRecursion cI a_a a_a_starts a_a_depth a_a_topic a_a_value a_a_nibbled a_a_starts_k a_a_depth_k a_a_value_k i_a_clusters i_a_size i_a_starts i_a_depth i_a_value) (wd_Check_sumByRecursion cI a_a a_a_starts a_a_depth a_a_topic a_a_value a_a_nibbled a_a_starts_k a_a_depth_k a_a_value_k i_a_clusters i_a_size i_a_starts i_a_depth i_a_value) q := by
  intro sz
  refine jk_body (by decide +kernel) (fun p e s m args below meth c hsz hz hin C => ?_) (Nat.le_of_ble_eq_true rfl)
  subst hsz
  unfold fn_Check_sumByRecursion at hf
  have bk_15 : ∀ (n : Nat) (v2 : Int) (v3 : Int) (v4 : Int), fn_Check_sumByRecursion_b15 n i_a_size i_a_depth i_a_value v2 v3 v4 = some q → jk_J p l e (jk_rm 11 268) s m args below meth c 0 0 (jk_QI below D jk_cl (jk_ty cI cR) (wd_Check_sumByRecursion cI a_a a_a_starts a_a_depth a_a_topic a_a_value a_a_nibbled a_a_starts_k a_a_depth_k a_a_value_k i_a_clusters i_a_size i_a_starts i_a_depth i_a_value) (wd_Check_sumByRecursion cI a_a a_a_starts a_a_depth a_a_topic a_a_value a_a_nibbled a_a_starts_k a_a_depth_k a_a_value_k i_a_clusters i_a_size i_a_starts i_a_depth i_a_value) args s q) D jk_cl (va_A (wd_Check_sumByRecursion cI a_a a_a_starts a_a_depth a_a_topic a_a_value a_a_nibbled a_a_starts_k a_a_depth_k a_a_value_k i_a_clusters i_a_size i_a_starts i_a_depth i_a_value) s.heap.size) 5 (wd_Check_sumByRecursion cI a_a a_a_starts a_a_depth a_a_topic a_a_value a_a_nibbled a_a_starts_k a_a_depth_k a_a_value_k i_a_clusters i_a_size i_a_starts i_a_depth i_a_value) [(0, .ref a_a), (2, jk_V v2), (3, jk_V v3), (4, jk_V v4)] 15 [] := by
    intro n
    induction n with
    | zero => intro v2 v3 v4 hf; exact nomatch (show none = some q from hf)
    | succ n ih =>
      intro v2 v3 v4 hf
      rw [fn_Check_sumByRecursion_b15] at hf
      refine jk_iload C rd_Check_sumByRecursion_15 (k := 3) rfl ?_
      refine jk_iload_n C rd_Check_sumByRecursion_17 (k := 2) rfl ?_
      refine jk_icmp_ge (tgt := 50) C rd_Check_sumByRecursion_18 (by decide) hf (fun _ hf => ?_) (fun _ hf => ?_)
      · refine jk_iload_n C rd_Check_sumByRecursion_50 (k := 1) rfl ?_
        cases hf
        exact jk_iret C rfl rd_Check_sumByRecursion_51 rfl
      · refine jk_aload_n C rd_Check_sumByRecursion_21 (k := 0) rfl ?_
        refine jk_getN C in_Cords (ci := 5) rfl 3 (by decide) (jk_nw hZ hz tn_14) 0 rfl rfl rd_Check_sumByRecursion_22 ?_
        refine jk_iload C rd_Check_sumByRecursion_25 (k := 3) rfl ?_
        obtain ⟨q27, hq27, hf⟩ := jk_bind_h hf
        refine jk_callVi C hZ.1 hz (ct_Row_get l D Z sq hZ cI cR (n_t := 40) (Nat.le_of_ble_eq_true rfl) a_a_depth a_a_depth_k i_a_depth v4 q27 hq27) tm_513 tm_299 tm_300 tm_3 tm_301 na_Row_get ⟨Nat.le_of_ble_eq_true rfl, Nat.le_of_ble_eq_true rfl⟩ rfl [3, 4] rfl rfl rfl (ws' := wd_Check_sumByRecursion cI a_a a_a_starts a_a_depth a_a_topic a_a_value a_a_nibbled a_a_starts_k a_a_depth_k a_a_value_k i_a_clusters i_a_size i_a_starts i_a_depth i_a_value) rfl 3 0 rfl rfl rfl (st := []) rfl (Nat.le_of_ble_eq_true rfl) rd_Check_sumByRecursion_27 ?_ ⟨Nat.le_of_ble_eq_true rfl, Nat.le_of_ble_eq_true rfl⟩
        refine jk_iconst C rd_Check_sumByRecursion_30 ?_
        refine jk_icmp_ne (tgt := 44) C rd_Check_sumByRecursion_31 (by decide) hf (fun _ hf => ?_) (fun _ hf => ?_)
        · refine jk_iinc C rd_Check_sumByRecursion_44 (k := 3) rfl (by decide) (lv' := [(4, jk_V (v4 + 1)), (0, .ref a_a), (2, jk_V v2), (3, jk_V v3)]) rfl ?_
          refine jk_goto (tgt := 15) C rd_Check_sumByRecursion_47 (by decide) ?_
          refine jk_lv (lv' := [(0, .ref a_a), (2, jk_V v2), (3, jk_V v3), (4, jk_V (v4 + 1))]) [1, 2, 3, 0] rfl ?_
          exact ih v2 v3 (v4 + 1) hf
        · refine jk_iload_n C rd_Check_sumByRecursion_34 (k := 1) rfl ?_
          refine jk_aload_n C rd_Check_sumByRecursion_35 (k := 0) rfl ?_
          refine jk_iload C rd_Check_sumByRecursion_36 (k := 3) rfl ?_
          refine jk_iconst C rd_Check_sumByRecursion_38 ?_
          obtain ⟨q39, hq39, hf⟩ := jk_bind_h hf
          refine jk_callSi C hZ.1 hz (ct_Check_totalByRecursion l D Z sq hZ cI cR a_a a_a_starts a_a_depth a_a_topic a_a_value a_a_nibbled a_a_depth_k a_a_value_k 8 i_a_clusters i_a_size i_a_depth i_a_value v4 1 q39 hq39) tm_531 tm_532 tm_39 tm_533 na_Check_totalByRecursion ⟨Nat.le_of_ble_eq_true rfl, Nat.le_of_ble_eq_true rfl⟩ rfl [0, 3, 4, 5, 6] rfl rfl rfl (ws' := wd_Check_sumByRecursion cI a_a a_a_starts a_a_depth a_a_topic a_a_value a_a_nibbled a_a_starts_k a_a_depth_k a_a_value_k i_a_clusters i_a_size i_a_starts i_a_depth i_a_value) rfl (st := [jk_V v2]) rfl (Nat.le_of_ble_eq_true rfl) rd_Check_sumByRecursion_39 ?_ ⟨Nat.le_of_ble_eq_true rfl, Nat.le_of_ble_eq_true rfl⟩
          refine jk_iadd C rd_Check_sumByRecursion_42 ?_
          refine jk_istore_n C rd_Check_sumByRecursion_43 (by decide) (lv' := [(2, jk_V (v2 + q39)), (0, .ref a_a), (3, jk_V v3), (4, jk_V v4)]) rfl ?_
          refine jk_iinc C rd_Check_sumByRecursion_44 (k := 3) rfl (by decide) (lv' := [(4, jk_V (v4 + 1)), (2, jk_V (v2 + q39)), (0, .ref a_a), (3, jk_V v3)]) rfl ?_
          refine jk_goto (tgt := 15) C rd_Check_sumByRecursion_47 (by decide) ?_
          refine jk_lv (lv' := [(0, .ref a_a), (2, jk_V (v2 + q39)), (3, jk_V v3), (4, jk_V (v4 + 1))]) [2, 1, 3, 0] rfl ?_
          exact ih (v2 + q39) v3 (v4 + 1) hf
  refine jk_iconst C rd_Check_sumByRecursion_0 ?_
  refine jk_istore_n C rd_Check_sumByRecursion_1 (by decide) (lv' := [(2, jk_V 0), (0, .ref a_a), (1, jk_V x1)]) rfl ?_
  refine jk_aload_n C rd_Check_sumByRecursion_2 (k := 1) rfl ?_
  refine jk_iload_n C rd_Check_sumByRecursion_3 (k := 2) rfl ?_
  obtain ⟨q4, hq4, hf⟩ := jk_bind_h hf
  refine jk_callVi C hZ.1 hz (ct_Cords_end l D Z sq hZ cI cR a_a a_a_starts a_a_depth a_a_topic a_a_value a_a_nibbled a_a_starts_k i_a_clusters i_a_size i_a_starts x1 q4 hq4) tm_501 tm_502 tm_503 tm_6 tm_504 na_Cords_end ⟨Nat.le_of_ble_eq_true rfl, Nat.le_of_ble_eq_true rfl⟩ rfl [0, 1, 2] rfl rfl rfl (ws' := wd_Check_sumByRecursion cI a_a a_a_starts a_a_depth a_a_topic a_a_value a_a_nibbled a_a_starts_k a_a_depth_k a_a_value_k i_a_clusters i_a_size i_a_starts i_a_depth i_a_value) rfl 0 5 rfl rfl rfl (st := []) rfl (Nat.le_of_ble_eq_true rfl) rd_Check_sumByRecursion_4 ?_ ⟨Nat.le_of_ble_eq_true rfl, Nat.le_of_ble_eq_true rfl⟩
  refine jk_istore_n C rd_Check_sumByRecursion_7 (by decide) (lv' := [(3, jk_V q4), (2, jk_V 0), (0, .ref a_a), (1, jk_V x1)]) rfl ?_
  refine jk_aload_n C rd_Check_sumByRecursion_8 (k := 2) rfl ?_
  refine jk_iload_n C rd_Check_sumByRecursion_9 (k := 3) rfl ?_
  obtain ⟨q10, hq10, hf⟩ := jk_bind_h hf
  refine jk_callVi C hZ.1 hz (ct_Cords_start l D Z sq hZ cI cR a_a a_a_starts a_a_depth a_a_topic a_a_value a_a_nibbled a_a_starts_k i_a_clusters i_a_size i_a_starts x1 q10 hq10) tm_505 tm_372 tm_373 tm_6 tm_374 na_Cords_start ⟨Nat.le_of_ble_eq_true rfl, Nat.le_of_ble_eq_true rfl⟩ rfl [0, 1, 2] rfl rfl rfl (ws' := wd_Check_sumByRecursion cI a_a a_a_starts a_a_depth a_a_topic a_a_value a_a_nibbled a_a_starts_k a_a_depth_k a_a_value_k i_a_clusters i_a_size i_a_starts i_a_depth i_a_value) rfl 0 5 rfl rfl rfl (st := []) rfl (Nat.le_of_ble_eq_true rfl) rd_Check_sumByRecursion_10 ?_ ⟨Nat.le_of_ble_eq_true rfl, Nat.le_of_ble_eq_true rfl⟩
  refine jk_istore C rd_Check_sumByRecursion_13 (by decide) (lv' := [(4, jk_V q10), (3, jk_V q4), (2, jk_V 0), (0, .ref a_a), (1, jk_V x1)]) rfl ?_
  refine jk_lv (lv' := [(0, .ref a_a), (2, jk_V 0), (3, jk_V q4), (4, jk_V q10)]) [3, 2, 1, 0] rfl ?_
  exact bk_15 jk_F 0 q4 q10 hf
def wd_Cords_pendantStart (cI : ClassId) (a_t a_t_starts a_t_depth a_t_topic a_t_value a_t_nibbled a_t_starts_k a_t_depth_k : Nat) (i_t_clusters : Int) (i_t_size : Int) (i_t_starts : (Int → Int)) (i_t_depth : (Int → Int)) : va_W := [(a_t, .inr (5, [jk_V i_t_clusters, jk_V i_t_size, .ref a_t_starts, .ref a_t_depth, .ref a_t_topic, .ref a_t_value, .ref a_t_nibbled])), (a_t_starts, .inr (0, [.ref a_t_starts_k])), (a_t_starts_k, jk_W cI 7 i_t_starts), (a_t_depth, .inr (0, [.ref a_t_depth_k])), (a_t_depth_k, jk_W cI 40 i_t_depth)]
set_option maxHeartbeats 4000000 in
set_option maxRecDepth 20000 in
theorem ct_Cords_pendantStart (l : Launch) (D : va_G) (Z : (Nat → Prop) → State → Heap → Prop) (sq : Nat → Nat) (hZ : jk_ZK Z sq) (cI cR : ClassId) (a_t a_t_starts a_t_depth a_t_topic a_t_value a_t_nibbled a_t_starts_k a_t_depth_k : Nat) (i_t_clusters : Int) (i_t_size : Int) (i_t_starts : (Int → Int)) (i_t_depth : (Int → Int)) (x1 : Int) (q : Int) (hf : fn_Cords_pendantStart i_t_starts i_t_depth x1 = some q) : jk_MI l D jk_cl (jk_ty cI cR) Z mn_Cords_pendantStart (.code mn_Cords_pendantStart mb_Cords_pendantStart 3 (some .int) :: jk_WA) (jk_rm 1 21) [.ref a_t, jk_V x1] (wd_Cords_pendantStart cI a_t a_t_starts a_t_depth a_t_topic a_t_value a_t_nibbled a_t_starts_k a_t_depth_k i_t_clusters i_t_size i_t_starts i_t_depth) (wd_Cords_pendantStart cI a_t a_t_starts a_t_depth a_t_topic a_t_value a_t_nibbled a_t_starts_k a_t_depth_k i_t_clusters i_t_size i_t_starts i_t_depth) q := by
  intro sz
  refine jk_body (by decide +kernel) (fun p e s m args below meth c hsz hz hin C => ?_) (Nat.le_of_ble_eq_true rfl)
  subst hsz
  unfold fn_Cords_pendantStart at hf
  refine jk_aload_n C rd_Cords_pendantStart_0 (k := 0) rfl ?_
  refine jk_get C in_Cords (ci := 5) rfl 2 (by decide) tm_137 0 rfl rfl rd_Cords_pendantStart_1 ?_
  refine jk_iload_n C rd_Cords_pendantStart_4 (k := 1) rfl ?_
  obtain ⟨q5, hq5, hf⟩ := jk_bind_h hf
  refine jk_callVi C hZ.1 hz (ct_Row_get l D Z sq hZ cI cR (n_t := 7) (Nat.le_of_ble_eq_true rfl) a_t_starts a_t_starts_k i_t_starts x1 q5 hq5) tm_363 tm_299 tm_300 tm_3 tm_301 na_Row_get ⟨Nat.le_of_ble_eq_true rfl, Nat.le_of_ble_eq_true rfl⟩ rfl [1, 2] rfl rfl rfl (ws' := wd_Cords_pendantStart cI a_t a_t_starts a_t_depth a_t_topic a_t_value a_t_nibbled a_t_starts_k a_t_depth_k i_t_clusters i_t_size i_t_starts i_t_depth) rfl 1 0 rfl rfl rfl (st := []) rfl (Nat.le_of_ble_eq_true rfl) rd_Cords_pendantStart_5 ?_ ⟨Nat.le_of_ble_eq_true rfl, Nat.le_of_ble_eq_true rfl⟩
  refine jk_istore_n C rd_Cords_pendantStart_8 (by decide) (lv' := [(2, jk_V q5), (0, .ref a_t), (1, jk_V x1)]) rfl ?_
  refine jk_iload_n C rd_Cords_pendantStart_9 (k := 0) rfl ?_
  refine jk_aload_n C rd_Cords_pendantStart_10 (k := 1) rfl ?_
  refine jk_get C in_Cords (ci := 5) rfl 2 (by decide) tm_137 0 rfl rfl rd_Cords_pendantStart_11 ?_
  refine jk_iload_n C rd_Cords_pendantStart_14 (k := 2) rfl ?_
  refine jk_iconst C rd_Cords_pendantStart_15 ?_
  refine jk_iadd C rd_Cords_pendantStart_16 ?_
  obtain ⟨q17, hq17, hf⟩ := jk_bind_h hf
  refine jk_callVi C hZ.1 hz (ct_Row_get l D Z sq hZ cI cR (n_t := 7) (Nat.le_of_ble_eq_true rfl) a_t_starts a_t_starts_k i_t_starts (x1 + 1) q17 hq17) tm_363 tm_299 tm_300 tm_3 tm_301 na_Row_get ⟨Nat.le_of_ble_eq_true rfl, Nat.le_of_ble_eq_true rfl⟩ rfl [1, 2] rfl rfl rfl (ws' := wd_Cords_pendantStart cI a_t a_t_starts a_t_depth a_t_topic a_t_value a_t_nibbled a_t_starts_k a_t_depth_k i_t_clusters i_t_size i_t_starts i_t_depth) rfl 1 0 rfl rfl rfl (st := [jk_V q5]) rfl (Nat.le_of_ble_eq_true rfl) rd_Cords_pendantStart_17 ?_ ⟨Nat.le_of_ble_eq_true rfl, Nat.le_of_ble_eq_true rfl⟩
  refine jk_icmp_ge (tgt := 40) C rd_Cords_pendantStart_20 (by decide) hf (fun _ hf => ?_) (fun _ hf => ?_)
  · refine jk_iload_n C rd_Cords_pendantStart_40 (k := 0) rfl ?_
    cases hf
    exact jk_iret C rfl rd_Cords_pendantStart_41 rfl
  · refine jk_aload_n C rd_Cords_pendantStart_23 (k := 1) rfl ?_
    refine jk_get C in_Cords (ci := 5) rfl 3 (by decide) tm_138 0 rfl rfl rd_Cords_pendantStart_24 ?_
    refine jk_iload_n C rd_Cords_pendantStart_27 (k := 0) rfl ?_
    obtain ⟨q28, hq28, hf⟩ := jk_bind_h hf
    refine jk_callVi C hZ.1 hz (ct_Row_get l D Z sq hZ cI cR (n_t := 40) (Nat.le_of_ble_eq_true rfl) a_t_depth a_t_depth_k i_t_depth q5 q28 hq28) tm_363 tm_299 tm_300 tm_3 tm_301 na_Row_get ⟨Nat.le_of_ble_eq_true rfl, Nat.le_of_ble_eq_true rfl⟩ rfl [3, 4] rfl rfl rfl (ws' := wd_Cords_pendantStart cI a_t a_t_starts a_t_depth a_t_topic a_t_value a_t_nibbled a_t_starts_k a_t_depth_k i_t_clusters i_t_size i_t_starts i_t_depth) rfl 3 0 rfl rfl rfl (st := []) rfl (Nat.le_of_ble_eq_true rfl) rd_Cords_pendantStart_28 ?_ ⟨Nat.le_of_ble_eq_true rfl, Nat.le_of_ble_eq_true rfl⟩
    refine jk_if_ne (tgt := 40) C rd_Cords_pendantStart_31 (by decide) hf (fun _ hf => ?_) (fun _ hf => ?_)
    · refine jk_iload_n C rd_Cords_pendantStart_40 (k := 0) rfl ?_
      cases hf
      exact jk_iret C rfl rd_Cords_pendantStart_41 rfl
    · refine jk_iload_n C rd_Cords_pendantStart_34 (k := 0) rfl ?_
      refine jk_iconst C rd_Cords_pendantStart_35 ?_
      refine jk_iadd C rd_Cords_pendantStart_36 ?_
      refine jk_goto (tgt := 41) C rd_Cords_pendantStart_37 (by decide) ?_
      cases hf
      exact jk_iret C rfl rd_Cords_pendantStart_41 rfl
def wd_Cords_hasKnownSum (cI : ClassId) (a_t a_t_starts a_t_depth a_t_topic a_t_value a_t_nibbled a_t_starts_k a_t_depth_k a_t_nibbled_k : Nat) (i_t_clusters : Int) (i_t_size : Int) (i_t_starts : (Int → Int)) (i_t_depth : (Int → Int)) (i_t_nibbled : (Int → Int)) : va_W := [(a_t, .inr (5, [jk_V i_t_clusters, jk_V i_t_size, .ref a_t_starts, .ref a_t_depth, .ref a_t_topic, .ref a_t_value, .ref a_t_nibbled])), (a_t_starts, .inr (0, [.ref a_t_starts_k])), (a_t_starts_k, jk_W cI 7 i_t_starts), (a_t_depth, .inr (0, [.ref a_t_depth_k])), (a_t_depth_k, jk_W cI 40 i_t_depth), (a_t_nibbled, .inr (0, [.ref a_t_nibbled_k])), (a_t_nibbled_k, jk_W cI 40 i_t_nibbled)]
set_option maxHeartbeats 4000000 in
set_option maxRecDepth 20000 in
theorem ct_Cords_hasKnownSum (l : Launch) (D : va_G) (Z : (Nat → Prop) → State → Heap → Prop) (sq : Nat → Nat) (hZ : jk_ZK Z sq) (cI cR : ClassId) (a_t a_t_starts a_t_depth a_t_topic a_t_value a_t_nibbled a_t_starts_k a_t_depth_k a_t_nibbled_k : Nat) (i_t_clusters : Int) (i_t_size : Int) (i_t_starts : (Int → Int)) (i_t_depth : (Int → Int)) (i_t_nibbled : (Int → Int)) (x1 : Int) (q : Int) (hf : fn_Cords_hasKnownSum i_t_starts i_t_depth i_t_nibbled x1 = some q) : jk_MI l D jk_cl (jk_ty cI cR) Z mn_Cords_hasKnownSum (.code mn_Cords_hasKnownSum mb_Cords_hasKnownSum 2 (some .boolean) :: jk_WA) (jk_rm 2 45) [.ref a_t, jk_V x1] (wd_Cords_hasKnownSum cI a_t a_t_starts a_t_depth a_t_topic a_t_value a_t_nibbled a_t_starts_k a_t_depth_k a_t_nibbled_k i_t_clusters i_t_size i_t_starts i_t_depth i_t_nibbled) (wd_Cords_hasKnownSum cI a_t a_t_starts a_t_depth a_t_topic a_t_value a_t_nibbled a_t_starts_k a_t_depth_k a_t_nibbled_k i_t_clusters i_t_size i_t_starts i_t_depth i_t_nibbled) q := by
  intro sz
  refine jk_body (by decide +kernel) (fun p e s m args below meth c hsz hz hin C => ?_) (Nat.le_of_ble_eq_true rfl)
  subst hsz
  unfold fn_Cords_hasKnownSum at hf
  refine jk_aload_n C rd_Cords_hasKnownSum_0 (k := 0) rfl ?_
  refine jk_aload_n C rd_Cords_hasKnownSum_1 (k := 0) rfl ?_
  refine jk_iload_n C rd_Cords_hasKnownSum_2 (k := 1) rfl ?_
  obtain ⟨q3, hq3, hf⟩ := jk_bind_h hf
  refine jk_callVi C hZ.1 hz (ct_Cords_pendantStart l D Z sq hZ cI cR a_t a_t_starts a_t_depth a_t_topic a_t_value a_t_nibbled a_t_starts_k a_t_depth_k i_t_clusters i_t_size i_t_starts i_t_depth x1 q3 hq3) tm_359 tm_360 tm_361 tm_6 tm_362 na_Cords_pendantStart ⟨Nat.le_of_ble_eq_true rfl, Nat.le_of_ble_eq_true rfl⟩ rfl [0, 1, 2, 3, 4] rfl rfl rfl (ws' := wd_Cords_hasKnownSum cI a_t a_t_starts a_t_depth a_t_topic a_t_value a_t_nibbled a_t_starts_k a_t_depth_k a_t_nibbled_k i_t_clusters i_t_size i_t_starts i_t_depth i_t_nibbled) rfl 0 5 rfl rfl rfl (st := [.ref a_t]) rfl (Nat.le_of_ble_eq_true rfl) rd_Cords_hasKnownSum_3 ?_ ⟨Nat.le_of_ble_eq_true rfl, Nat.le_of_ble_eq_true rfl⟩
  refine jk_aload_n C rd_Cords_hasKnownSum_6 (k := 0) rfl ?_
  refine jk_iload_n C rd_Cords_hasKnownSum_7 (k := 1) rfl ?_
  obtain ⟨q8, hq8, hf⟩ := jk_bind_h hf
  refine jk_callVi C hZ.1 hz (ct_Cords_end l D Z sq hZ cI cR a_t a_t_starts a_t_depth a_t_topic a_t_value a_t_nibbled a_t_starts_k i_t_clusters i_t_size i_t_starts x1 q8 hq8) tm_541 tm_502 tm_503 tm_6 tm_504 na_Cords_end ⟨Nat.le_of_ble_eq_true rfl, Nat.le_of_ble_eq_true rfl⟩ rfl [0, 1, 2] rfl rfl rfl (ws' := wd_Cords_hasKnownSum cI a_t a_t_starts a_t_depth a_t_topic a_t_value a_t_nibbled a_t_starts_k a_t_depth_k a_t_nibbled_k i_t_clusters i_t_size i_t_starts i_t_depth i_t_nibbled) rfl 0 5 rfl rfl rfl (st := [jk_V q3, .ref a_t]) rfl (Nat.le_of_ble_eq_true rfl) rd_Cords_hasKnownSum_8 ?_ ⟨Nat.le_of_ble_eq_true rfl, Nat.le_of_ble_eq_true rfl⟩
  obtain ⟨q11, hq11, hf⟩ := jk_bind_h hf
  refine jk_callVi C hZ.1 hz (ct_Cords_nibbledAmong l D Z sq hZ cI cR a_t a_t_starts a_t_depth a_t_topic a_t_value a_t_nibbled a_t_nibbled_k i_t_clusters i_t_size i_t_nibbled q3 q8 q11 hq11) tm_542 tm_523 tm_524 tm_6 tm_525 na_Cords_nibbledAmong ⟨Nat.le_of_ble_eq_true rfl, Nat.le_of_ble_eq_true rfl⟩ rfl [0, 5, 6] rfl rfl rfl (ws' := wd_Cords_hasKnownSum cI a_t a_t_starts a_t_depth a_t_topic a_t_value a_t_nibbled a_t_starts_k a_t_depth_k a_t_nibbled_k i_t_clusters i_t_size i_t_starts i_t_depth i_t_nibbled) rfl 0 5 rfl rfl rfl (st := []) rfl (Nat.le_of_ble_eq_true rfl) rd_Cords_hasKnownSum_11 ?_ ⟨Nat.le_of_ble_eq_true rfl, Nat.le_of_ble_eq_true rfl⟩
  refine jk_if_ne (tgt := 21) C rd_Cords_hasKnownSum_14 (by decide) hf (fun _ hf => ?_) (fun _ hf => ?_)
  · refine jk_iconst C rd_Cords_hasKnownSum_21 ?_
    cases hf
    exact jk_zret C (Or.inl rfl) rfl rd_Cords_hasKnownSum_22 rfl
  · refine jk_iconst C rd_Cords_hasKnownSum_17 ?_
    refine jk_goto (tgt := 22) C rd_Cords_hasKnownSum_18 (by decide) ?_
    cases hf
    exact jk_zret C (Or.inr rfl) rfl rd_Cords_hasKnownSum_22 rfl
def wd_Cords_sum (cI : ClassId) (a_t a_t_starts a_t_depth a_t_topic a_t_value a_t_nibbled a_t_starts_k a_t_depth_k a_t_value_k : Nat) (i_t_clusters : Int) (i_t_size : Int) (i_t_starts : (Int → Int)) (i_t_depth : (Int → Int)) (i_t_value : (Int → Int)) : va_W := [(a_t, .inr (5, [jk_V i_t_clusters, jk_V i_t_size, .ref a_t_starts, .ref a_t_depth, .ref a_t_topic, .ref a_t_value, .ref a_t_nibbled])), (a_t_starts, .inr (0, [.ref a_t_starts_k])), (a_t_starts_k, jk_W cI 7 i_t_starts), (a_t_depth, .inr (0, [.ref a_t_depth_k])), (a_t_depth_k, jk_W cI 40 i_t_depth), (a_t_value, .inr (0, [.ref a_t_value_k])), (a_t_value_k, jk_W cI 40 i_t_value)]
set_option maxHeartbeats 4000000 in
set_option maxRecDepth 20000 in
theorem ct_Cords_sum (l : Launch) (D : va_G) (Z : (Nat → Prop) → State → Heap → Prop) (sq : Nat → Nat) (hZ : jk_ZK Z sq) (cI cR : ClassId) (a_t a_t_starts a_t_depth a_t_topic a_t_value a_t_nibbled a_t_starts_k a_t_depth_k a_t_value_k : Nat) (i_t_clusters : Int) (i_t_size : Int) (i_t_starts : (Int → Int)) (i_t_depth : (Int → Int)) (i_t_value : (Int → Int)) (x1 : Int) (q : Int) (hf : fn_Cords_sum i_t_starts i_t_depth i_t_value x1 = some q) : jk_MI l D jk_cl (jk_ty cI cR) Z mn_Cords_sum (.code mn_Cords_sum mb_Cords_sum 2 (some .int) :: jk_WA) (jk_rm 2 45) [.ref a_t, jk_V x1] (wd_Cords_sum cI a_t a_t_starts a_t_depth a_t_topic a_t_value a_t_nibbled a_t_starts_k a_t_depth_k a_t_value_k i_t_clusters i_t_size i_t_starts i_t_depth i_t_value) (wd_Cords_sum cI a_t a_t_starts a_t_depth a_t_topic a_t_value a_t_nibbled a_t_starts_k a_t_depth_k a_t_value_k i_t_clusters i_t_size i_t_starts i_t_depth i_t_value) q := by
  intro sz
  refine jk_body (by decide +kernel) (fun p e s m args below meth c hsz hz hin C => ?_) (Nat.le_of_ble_eq_true rfl)
  subst hsz
  unfold fn_Cords_sum at hf
  refine jk_aload_n C rd_Cords_sum_0 (k := 0) rfl ?_
  refine jk_aload_n C rd_Cords_sum_1 (k := 0) rfl ?_
  refine jk_iload_n C rd_Cords_sum_2 (k := 1) rfl ?_
  obtain ⟨q3, hq3, hf⟩ := jk_bind_h hf
  refine jk_callVi C hZ.1 hz (ct_Cords_pendantStart l D Z sq hZ cI cR a_t a_t_starts a_t_depth a_t_topic a_t_value a_t_nibbled a_t_starts_k a_t_depth_k i_t_clusters i_t_size i_t_starts i_t_depth x1 q3 hq3) tm_359 tm_360 tm_361 tm_6 tm_362 na_Cords_pendantStart ⟨Nat.le_of_ble_eq_true rfl, Nat.le_of_ble_eq_true rfl⟩ rfl [0, 1, 2, 3, 4] rfl rfl rfl (ws' := wd_Cords_sum cI a_t a_t_starts a_t_depth a_t_topic a_t_value a_t_nibbled a_t_starts_k a_t_depth_k a_t_value_k i_t_clusters i_t_size i_t_starts i_t_depth i_t_value) rfl 0 5 rfl rfl rfl (st := [.ref a_t]) rfl (Nat.le_of_ble_eq_true rfl) rd_Cords_sum_3 ?_ ⟨Nat.le_of_ble_eq_true rfl, Nat.le_of_ble_eq_true rfl⟩
  refine jk_aload_n C rd_Cords_sum_6 (k := 0) rfl ?_
  refine jk_iload_n C rd_Cords_sum_7 (k := 1) rfl ?_
  obtain ⟨q8, hq8, hf⟩ := jk_bind_h hf
  refine jk_callVi C hZ.1 hz (ct_Cords_end l D Z sq hZ cI cR a_t a_t_starts a_t_depth a_t_topic a_t_value a_t_nibbled a_t_starts_k i_t_clusters i_t_size i_t_starts x1 q8 hq8) tm_541 tm_502 tm_503 tm_6 tm_504 na_Cords_end ⟨Nat.le_of_ble_eq_true rfl, Nat.le_of_ble_eq_true rfl⟩ rfl [0, 1, 2] rfl rfl rfl (ws' := wd_Cords_sum cI a_t a_t_starts a_t_depth a_t_topic a_t_value a_t_nibbled a_t_starts_k a_t_depth_k a_t_value_k i_t_clusters i_t_size i_t_starts i_t_depth i_t_value) rfl 0 5 rfl rfl rfl (st := [jk_V q3, .ref a_t]) rfl (Nat.le_of_ble_eq_true rfl) rd_Cords_sum_8 ?_ ⟨Nat.le_of_ble_eq_true rfl, Nat.le_of_ble_eq_true rfl⟩
  obtain ⟨q11, hq11, hf⟩ := jk_bind_h hf
  refine jk_callVi C hZ.1 hz (ct_Cords_lowestSum l D Z sq hZ cI cR a_t a_t_starts a_t_depth a_t_topic a_t_value a_t_nibbled a_t_value_k i_t_clusters i_t_size i_t_value q3 q8 q11 hq11) tm_547 tm_519 tm_520 tm_6 tm_521 na_Cords_lowestSum ⟨Nat.le_of_ble_eq_true rfl, Nat.le_of_ble_eq_true rfl⟩ rfl [0, 5, 6] rfl rfl rfl (ws' := wd_Cords_sum cI a_t a_t_starts a_t_depth a_t_topic a_t_value a_t_nibbled a_t_starts_k a_t_depth_k a_t_value_k i_t_clusters i_t_size i_t_starts i_t_depth i_t_value) rfl 0 5 rfl rfl rfl (st := []) rfl (Nat.le_of_ble_eq_true rfl) rd_Cords_sum_11 ?_ ⟨Nat.le_of_ble_eq_true rfl, Nat.le_of_ble_eq_true rfl⟩
  cases hf
  exact jk_iret C rfl rd_Cords_sum_14 rfl
