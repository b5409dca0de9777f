theorem rd_Check_standsWell_0 : decode mb_Check_standsWell 0 = .ok (.aload_n 0, 1) := by decide +kernel
theorem rd_Check_standsWell_1 : decode mb_Check_standsWell 1 = .ok (.iload_n 1, 1) := by decide +kernel
theorem rd_Check_standsWell_2 : decode mb_Check_standsWell 2 = .ok (.invokevirtual 31, 3) := by decide +kernel
theorem rd_Check_standsWell_5 : decode mb_Check_standsWell 5 = .ok (.istore_n 2, 1) := by decide +kernel
theorem rd_Check_standsWell_6 : decode mb_Check_standsWell 6 = .ok (.iload_n 1, 1) := by decide +kernel
theorem rd_Check_standsWell_7 : decode mb_Check_standsWell 7 = .ok (.aload_n 0, 1) := by decide +kernel
theorem rd_Check_standsWell_8 : decode mb_Check_standsWell 8 = .ok (.iload_n 2, 1) := by decide +kernel
theorem rd_Check_standsWell_9 : decode mb_Check_standsWell 9 = .ok (.invokevirtual 19, 3) := by decide +kernel
theorem rd_Check_standsWell_12 : decode mb_Check_standsWell 12 = .ok (.if_icmp .lt 12, 3) := by decide +kernel
theorem rd_Check_standsWell_15 : decode mb_Check_standsWell 15 = .ok (.iload_n 1, 1) := by decide +kernel
theorem rd_Check_standsWell_16 : decode mb_Check_standsWell 16 = .ok (.aload_n 0, 1) := by decide +kernel
theorem rd_Check_standsWell_17 : decode mb_Check_standsWell 17 = .ok (.iload_n 2, 1) := by decide +kernel
theorem rd_Check_standsWell_18 : decode mb_Check_standsWell 18 = .ok (.invokevirtual 15, 3) := by decide +kernel
theorem rd_Check_standsWell_21 : decode mb_Check_standsWell 21 = .ok (.if_icmp .lt 5, 3) := by decide +kernel
theorem rd_Check_standsWell_24 : decode mb_Check_standsWell 24 = .ok (.iconst 0, 1) := by decide +kernel
theorem rd_Check_standsWell_25 : decode mb_Check_standsWell 25 = .ok (.ireturn, 1) := by decide +kernel
theorem rd_Check_standsWell_26 : decode mb_Check_standsWell 26 = .ok (.aload_n 0, 1) := by decide +kernel
theorem rd_Check_standsWell_27 : decode mb_Check_standsWell 27 = .ok (.getfield 34, 3) := by decide +kernel
theorem rd_Check_standsWell_30 : decode mb_Check_standsWell 30 = .ok (.iload_n 1, 1) := by decide +kernel
theorem rd_Check_standsWell_31 : decode mb_Check_standsWell 31 = .ok (.invokevirtual 38, 3) := by decide +kernel
theorem rd_Check_standsWell_34 : decode mb_Check_standsWell 34 = .ok (.istore_n 3, 1) := by decide +kernel
theorem rd_Check_standsWell_35 : decode mb_Check_standsWell 35 = .ok (.iload_n 1, 1) := by decide +kernel
theorem rd_Check_standsWell_36 : decode mb_Check_standsWell 36 = .ok (.aload_n 0, 1) := by decide +kernel
theorem rd_Check_standsWell_37 : decode mb_Check_standsWell 37 = .ok (.iload_n 2, 1) := by decide +kernel
theorem rd_Check_standsWell_38 : decode mb_Check_standsWell 38 = .ok (.invokevirtual 19, 3) := by decide +kernel
theorem rd_Check_standsWell_41 : decode mb_Check_standsWell 41 = .ok (.if_icmp .ne 18, 3) := by decide +kernel
theorem rd_Check_standsWell_44 : decode mb_Check_standsWell 44 = .ok (.iload_n 3, 1) := by decide +kernel
theorem rd_Check_standsWell_45 : decode mb_Check_standsWell 45 = .ok (.ifCond .eq 8, 3) := by decide +kernel
theorem rd_Check_standsWell_48 : decode mb_Check_standsWell 48 = .ok (.iload_n 3, 1) := by decide +kernel
theorem rd_Check_standsWell_49 : decode mb_Check_standsWell 49 = .ok (.iconst 1, 1) := by decide +kernel
theorem rd_Check_standsWell_50 : decode mb_Check_standsWell 50 = .ok (.if_icmp .ne 7, 3) := by decide +kernel
theorem rd_Check_standsWell_53 : decode mb_Check_standsWell 53 = .ok (.iconst 1, 1) := by decide +kernel
theorem rd_Check_standsWell_54 : decode mb_Check_standsWell 54 = .ok (.goto 4, 3) := by decide +kernel
theorem rd_Check_standsWell_57 : decode mb_Check_standsWell 57 = .ok (.iconst 0, 1) := by decide +kernel
theorem rd_Check_standsWell_58 : decode mb_Check_standsWell 58 = .ok (.ireturn, 1) := by decide +kernel
theorem rd_Check_standsWell_59 : decode mb_Check_standsWell 59 = .ok (.iload_n 3, 1) := by decide +kernel
theorem rd_Check_standsWell_60 : decode mb_Check_standsWell 60 = .ok (.iconst 1, 1) := by decide +kernel
theorem rd_Check_standsWell_61 : decode mb_Check_standsWell 61 = .ok (.if_icmp .lt 28, 3) := by decide +kernel
theorem rd_Check_standsWell_64 : decode mb_Check_standsWell 64 = .ok (.iload_n 3, 1) := by decide +kernel
theorem rd_Check_standsWell_65 : decode mb_Check_standsWell 65 = .ok (.iconst 3, 1) := by decide +kernel
theorem rd_Check_standsWell_66 : decode mb_Check_standsWell 66 = .ok (.if_icmp .gt 23, 3) := by decide +kernel
theorem rd_Check_standsWell_69 : decode mb_Check_standsWell 69 = .ok (.iload_n 3, 1) := by decide +kernel
theorem rd_Check_standsWell_70 : decode mb_Check_standsWell 70 = .ok (.aload_n 0, 1) := by decide +kernel
theorem rd_Check_standsWell_71 : decode mb_Check_standsWell 71 = .ok (.getfield 34, 3) := by decide +kernel
theorem rd_Check_standsWell_74 : decode mb_Check_standsWell 74 = .ok (.iload_n 1, 1) := by decide +kernel
theorem rd_Check_standsWell_75 : decode mb_Check_standsWell 75 = .ok (.iconst 1, 1) := by decide +kernel
theorem rd_Check_standsWell_76 : decode mb_Check_standsWell 76 = .ok (.isub, 1) := by decide +kernel
theorem rd_Check_standsWell_77 : decode mb_Check_standsWell 77 = .ok (.invokevirtual 38, 3) := by decide +kernel
theorem rd_Check_standsWell_80 : decode mb_Check_standsWell 80 = .ok (.iconst 1, 1) := by decide +kernel
theorem rd_Check_standsWell_81 : decode mb_Check_standsWell 81 = .ok (.iadd, 1) := by decide +kernel
theorem rd_Check_standsWell_82 : decode mb_Check_standsWell 82 = .ok (.if_icmp .gt 7, 3) := by decide +kernel
theorem rd_Check_standsWell_85 : decode mb_Check_standsWell 85 = .ok (.iconst 1, 1) := by decide +kernel
theorem rd_Check_standsWell_86 : decode mb_Check_standsWell 86 = .ok (.goto 4, 3) := by decide +kernel
theorem rd_Check_standsWell_89 : decode mb_Check_standsWell 89 = .ok (.iconst 0, 1) := by decide +kernel
theorem rd_Check_standsWell_90 : decode mb_Check_standsWell 90 = .ok (.ireturn, 1) := by decide +kernel
theorem rd_Check_order_0 : decode mb_Check_order 0 = .ok (.iconst 0, 1) := by decide +kernel
theorem rd_Check_order_1 : decode mb_Check_order 1 = .ok (.istore_n 1, 1) := by decide +kernel
theorem rd_Check_order_2 : decode mb_Check_order 2 = .ok (.iconst 0, 1) := by decide +kernel
theorem rd_Check_order_3 : decode mb_Check_order 3 = .ok (.istore_n 2, 1) := by decide +kernel
theorem rd_Check_order_4 : decode mb_Check_order 4 = .ok (.iload_n 2, 1) := by decide +kernel
theorem rd_Check_order_5 : decode mb_Check_order 5 = .ok (.aload_n 0, 1) := by decide +kernel
theorem rd_Check_order_6 : decode mb_Check_order 6 = .ok (.getfield 9, 3) := by decide +kernel
theorem rd_Check_order_9 : decode mb_Check_order 9 = .ok (.if_icmp .ge 23, 3) := by decide +kernel
theorem rd_Check_order_12 : decode mb_Check_order 12 = .ok (.iload_n 1, 1) := by decide +kernel
theorem rd_Check_order_13 : decode mb_Check_order 13 = .ok (.aload_n 0, 1) := by decide +kernel
theorem rd_Check_order_14 : decode mb_Check_order 14 = .ok (.iload_n 2, 1) := by decide +kernel
theorem rd_Check_order_15 : decode mb_Check_order 15 = .ok (.invokevirtual 15, 3) := by decide +kernel
theorem rd_Check_order_18 : decode mb_Check_order 18 = .ok (.aload_n 0, 1) := by decide +kernel
theorem rd_Check_order_19 : decode mb_Check_order 19 = .ok (.iload_n 2, 1) := by decide +kernel
theorem rd_Check_order_20 : decode mb_Check_order 20 = .ok (.invokevirtual 19, 3) := by decide +kernel
theorem rd_Check_order_23 : decode mb_Check_order 23 = .ok (.isub, 1) := by decide +kernel
theorem rd_Check_order_24 : decode mb_Check_order 24 = .ok (.iadd, 1) := by decide +kernel
theorem rd_Check_order_25 : decode mb_Check_order 25 = .ok (.istore_n 1, 1) := by decide +kernel
theorem rd_Check_order_26 : decode mb_Check_order 26 = .ok (.iinc 2 1, 3) := by decide +kernel
theorem rd_Check_order_29 : decode mb_Check_order 29 = .ok (.goto (-25), 3) := by decide +kernel
theorem rd_Check_order_32 : decode mb_Check_order 32 = .ok (.iconst 0, 1) := by decide +kernel
theorem rd_Check_order_33 : decode mb_Check_order 33 = .ok (.istore_n 2, 1) := by decide +kernel
theorem rd_Check_order_34 : decode mb_Check_order 34 = .ok (.iload_n 2, 1) := by decide +kernel
theorem rd_Check_order_35 : decode mb_Check_order 35 = .ok (.aload_n 0, 1) := by decide +kernel
theorem rd_Check_order_36 : decode mb_Check_order 36 = .ok (.getfield 22, 3) := by decide +kernel
theorem rd_Check_order_39 : decode mb_Check_order 39 = .ok (.if_icmp .ge 19, 3) := by decide +kernel
theorem rd_Check_order_42 : decode mb_Check_order 42 = .ok (.aload_n 0, 1) := by decide +kernel
theorem rd_Check_order_43 : decode mb_Check_order 43 = .ok (.iload_n 2, 1) := by decide +kernel
theorem rd_Check_order_44 : decode mb_Check_order 44 = .ok (.invokestatic 25, 3) := by decide +kernel
theorem rd_Check_order_47 : decode mb_Check_order 47 = .ok (.ifCond .ne 5, 3) := by decide +kernel
theorem rd_Check_order_50 : decode mb_Check_order 50 = .ok (.iconst 0, 1) := by decide +kernel
theorem rd_Check_order_51 : decode mb_Check_order 51 = .ok (.ireturn, 1) := by decide +kernel
theorem rd_Check_order_52 : decode mb_Check_order 52 = .ok (.iinc 2 1, 3) := by decide +kernel
theorem rd_Check_order_55 : decode mb_Check_order 55 = .ok (.goto (-21), 3) := by decide +kernel
theorem rd_Check_order_58 : decode mb_Check_order 58 = .ok (.iload_n 1, 1) := by decide +kernel
theorem rd_Check_order_59 : decode mb_Check_order 59 = .ok (.aload_n 0, 1) := by decide +kernel
theorem rd_Check_order_60 : decode mb_Check_order 60 = .ok (.getfield 22, 3) := by decide +kernel
theorem rd_Check_order_63 : decode mb_Check_order 63 = .ok (.if_icmp .ne 7, 3) := by decide +kernel
theorem rd_Check_order_66 : decode mb_Check_order 66 = .ok (.iconst 1, 1) := by decide +kernel
theorem rd_Check_order_67 : decode mb_Check_order 67 = .ok (.goto 4, 3) := by decide +kernel
theorem rd_Check_order_70 : decode mb_Check_order 70 = .ok (.iconst 0, 1) := by decide +kernel
theorem rd_Check_order_71 : decode mb_Check_order 71 = .ok (.ireturn, 1) := by decide +kernel
theorem rd_Check_totalByRecursion_0 : decode mb_Check_totalByRecursion 0 = .ok (.aload_n 0, 1) := by decide +kernel
theorem rd_Check_totalByRecursion_1 : decode mb_Check_totalByRecursion 1 = .ok (.getfield 60, 3) := by decide +kernel
theorem rd_Check_totalByRecursion_4 : decode mb_Check_totalByRecursion 4 = .ok (.iload_n 1, 1) := by decide +kernel
theorem rd_Check_totalByRecursion_5 : decode mb_Check_totalByRecursion 5 = .ok (.invokevirtual 38, 3) := by decide +kernel
theorem rd_Check_totalByRecursion_8 : decode mb_Check_totalByRecursion 8 = .ok (.istore_n 3, 1) := by decide +kernel
theorem rd_Check_totalByRecursion_9 : decode mb_Check_totalByRecursion 9 = .ok (.iload_n 2, 1) := by decide +kernel
theorem rd_Check_totalByRecursion_10 : decode mb_Check_totalByRecursion 10 = .ok (.iconst 3, 1) := by decide +kernel
theorem rd_Check_totalByRecursion_11 : decode mb_Check_totalByRecursion 11 = .ok (.if_icmp .lt 5, 3) := by decide +kernel
theorem rd_Check_totalByRecursion_14 : decode mb_Check_totalByRecursion 14 = .ok (.iload_n 3, 1) := by decide +kernel
theorem rd_Check_totalByRecursion_15 : decode mb_Check_totalByRecursion 15 = .ok (.ireturn, 1) := by decide +kernel
theorem rd_Check_totalByRecursion_16 : decode mb_Check_totalByRecursion 16 = .ok (.aload_n 0, 1) := by decide +kernel
theorem rd_Check_totalByRecursion_17 : decode mb_Check_totalByRecursion 17 = .ok (.iload_n 1, 1) := by decide +kernel
theorem rd_Check_totalByRecursion_18 : decode mb_Check_totalByRecursion 18 = .ok (.invokevirtual 43, 3) := by decide +kernel
theorem rd_Check_totalByRecursion_21 : decode mb_Check_totalByRecursion 21 = .ok (.istore 4, 2) := by decide +kernel
theorem rd_Check_totalByRecursion_23 : decode mb_Check_totalByRecursion 23 = .ok (.iload_n 1, 1) := by decide +kernel
theorem rd_Check_totalByRecursion_24 : decode mb_Check_totalByRecursion 24 = .ok (.iconst 1, 1) := by decide +kernel
theorem rd_Check_totalByRecursion_25 : decode mb_Check_totalByRecursion 25 = .ok (.iadd, 1) := by decide +kernel
theorem rd_Check_totalByRecursion_26 : decode mb_Check_totalByRecursion 26 = .ok (.istore 5, 2) := by decide +kernel
theorem rd_Check_totalByRecursion_28 : decode mb_Check_totalByRecursion 28 = .ok (.iload 5, 2) := by decide +kernel
theorem rd_Check_totalByRecursion_30 : decode mb_Check_totalByRecursion 30 = .ok (.iload 4, 2) := by decide +kernel
theorem rd_Check_totalByRecursion_32 : decode mb_Check_totalByRecursion 32 = .ok (.if_icmp .ge 36, 3) := by decide +kernel
theorem rd_Check_totalByRecursion_35 : decode mb_Check_totalByRecursion 35 = .ok (.aload_n 0, 1) := by decide +kernel
theorem rd_Check_totalByRecursion_36 : decode mb_Check_totalByRecursion 36 = .ok (.getfield 34, 3) := by decide +kernel
theorem rd_Check_totalByRecursion_39 : decode mb_Check_totalByRecursion 39 = .ok (.iload 5, 2) := by decide +kernel
theorem rd_Check_totalByRecursion_41 : decode mb_Check_totalByRecursion 41 = .ok (.invokevirtual 38, 3) := by decide +kernel
theorem rd_Check_totalByRecursion_44 : decode mb_Check_totalByRecursion 44 = .ok (.iload_n 2, 1) := by decide +kernel
theorem rd_Check_totalByRecursion_45 : decode mb_Check_totalByRecursion 45 = .ok (.iconst 1, 1) := by decide +kernel
theorem rd_Check_totalByRecursion_46 : decode mb_Check_totalByRecursion 46 = .ok (.iadd, 1) := by decide +kernel
theorem rd_Check_totalByRecursion_47 : decode mb_Check_totalByRecursion 47 = .ok (.if_icmp .ne 15, 3) := by decide +kernel
theorem rd_Check_totalByRecursion_50 : decode mb_Check_totalByRecursion 50 = .ok (.iload_n 3, 1) := by decide +kernel
theorem rd_Check_totalByRecursion_51 : decode mb_Check_totalByRecursion 51 = .ok (.aload_n 0, 1) := by decide +kernel
theorem rd_Check_totalByRecursion_52 : decode mb_Check_totalByRecursion 52 = .ok (.iload 5, 2) := by decide +kernel
theorem rd_Check_totalByRecursion_54 : decode mb_Check_totalByRecursion 54 = .ok (.iload_n 2, 1) := by decide +kernel
theorem rd_Check_totalByRecursion_55 : decode mb_Check_totalByRecursion 55 = .ok (.iconst 1, 1) := by decide +kernel
theorem rd_Check_totalByRecursion_56 : decode mb_Check_totalByRecursion 56 = .ok (.iadd, 1) := by decide +kernel
theorem rd_Check_totalByRecursion_57 : decode mb_Check_totalByRecursion 57 = .ok (.invokestatic 56, 3) := by decide +kernel
theorem rd_Check_totalByRecursion_60 : decode mb_Check_totalByRecursion 60 = .ok (.iadd, 1) := by decide +kernel
theorem rd_Check_totalByRecursion_61 : decode mb_Check_totalByRecursion 61 = .ok (.istore_n 3, 1) := by decide +kernel
theorem rd_Check_totalByRecursion_62 : decode mb_Check_totalByRecursion 62 = .ok (.iinc 5 1, 3) := by decide +kernel
theorem rd_Check_totalByRecursion_65 : decode mb_Check_totalByRecursion 65 = .ok (.goto (-37), 3) := by decide +kernel
theorem rd_Check_totalByRecursion_68 : decode mb_Check_totalByRecursion 68 = .ok (.iload_n 3, 1) := by decide +kernel
theorem rd_Check_totalByRecursion_69 : decode mb_Check_totalByRecursion 69 = .ok (.ireturn, 1) := by decide +kernel
theorem rd_Check_branches_0 : decode mb_Check_branches 0 = .ok (.iconst 0, 1) := by decide +kernel
theorem rd_Check_branches_1 : decode mb_Check_branches 1 = .ok (.istore_n 1, 1) := by decide +kernel
theorem rd_Check_branches_2 : decode mb_Check_branches 2 = .ok (.iload_n 1, 1) := by decide +kernel
theorem rd_Check_branches_3 : decode mb_Check_branches 3 = .ok (.aload_n 0, 1) := by decide +kernel
theorem rd_Check_branches_4 : decode mb_Check_branches 4 = .ok (.getfield 22, 3) := by decide +kernel
theorem rd_Check_branches_7 : decode mb_Check_branches 7 = .ok (.if_icmp .ge 79, 3) := by decide +kernel
theorem rd_Check_branches_10 : decode mb_Check_branches 10 = .ok (.aload_n 0, 1) := by decide +kernel
theorem rd_Check_branches_11 : decode mb_Check_branches 11 = .ok (.iload_n 1, 1) := by decide +kernel
theorem rd_Check_branches_12 : decode mb_Check_branches 12 = .ok (.invokevirtual 43, 3) := by decide +kernel
theorem rd_Check_branches_15 : decode mb_Check_branches 15 = .ok (.istore_n 2, 1) := by decide +kernel
theorem rd_Check_branches_16 : decode mb_Check_branches 16 = .ok (.aload_n 0, 1) := by decide +kernel
theorem rd_Check_branches_17 : decode mb_Check_branches 17 = .ok (.iload_n 1, 1) := by decide +kernel
theorem rd_Check_branches_18 : decode mb_Check_branches 18 = .ok (.iload_n 2, 1) := by decide +kernel
theorem rd_Check_branches_19 : decode mb_Check_branches 19 = .ok (.invokevirtual 46, 3) := by decide +kernel
theorem rd_Check_branches_22 : decode mb_Check_branches 22 = .ok (.istore_n 3, 1) := by decide +kernel
theorem rd_Check_branches_23 : decode mb_Check_branches 23 = .ok (.aload_n 0, 1) := by decide +kernel
theorem rd_Check_branches_24 : decode mb_Check_branches 24 = .ok (.iload_n 1, 1) := by decide +kernel
theorem rd_Check_branches_25 : decode mb_Check_branches 25 = .ok (.iload_n 2, 1) := by decide +kernel
theorem rd_Check_branches_26 : decode mb_Check_branches 26 = .ok (.invokevirtual 50, 3) := by decide +kernel
theorem rd_Check_branches_29 : decode mb_Check_branches 29 = .ok (.ifCond .ne 7, 3) := by decide +kernel
theorem rd_Check_branches_32 : decode mb_Check_branches 32 = .ok (.iconst 1, 1) := by decide +kernel
theorem rd_Check_branches_33 : decode mb_Check_branches 33 = .ok (.goto 4, 3) := by decide +kernel
theorem rd_Check_branches_36 : decode mb_Check_branches 36 = .ok (.iconst 0, 1) := by decide +kernel
theorem rd_Check_branches_37 : decode mb_Check_branches 37 = .ok (.istore 4, 2) := by decide +kernel
theorem rd_Check_branches_39 : decode mb_Check_branches 39 = .ok (.iload_n 3, 1) := by decide +kernel
theorem rd_Check_branches_40 : decode mb_Check_branches 40 = .ok (.aload_n 0, 1) := by decide +kernel
theorem rd_Check_branches_41 : decode mb_Check_branches 41 = .ok (.iload_n 1, 1) := by decide +kernel
theorem rd_Check_branches_42 : decode mb_Check_branches 42 = .ok (.iload_n 2, 1) := by decide +kernel
theorem rd_Check_branches_43 : decode mb_Check_branches 43 = .ok (.invokevirtual 53, 3) := by decide +kernel
theorem rd_Check_branches_46 : decode mb_Check_branches 46 = .ok (.if_icmp .ne 7, 3) := by decide +kernel
theorem rd_Check_branches_49 : decode mb_Check_branches 49 = .ok (.iconst 1, 1) := by decide +kernel
theorem rd_Check_branches_50 : decode mb_Check_branches 50 = .ok (.goto 4, 3) := by decide +kernel
theorem rd_Check_branches_53 : decode mb_Check_branches 53 = .ok (.iconst 0, 1) := by decide +kernel
theorem rd_Check_branches_54 : decode mb_Check_branches 54 = .ok (.iload 4, 2) := by decide +kernel
theorem rd_Check_branches_56 : decode mb_Check_branches 56 = .ok (.if_icmp .eq 5, 3) := by decide +kernel
theorem rd_Check_branches_59 : decode mb_Check_branches 59 = .ok (.iconst 0, 1) := by decide +kernel
theorem rd_Check_branches_60 : decode mb_Check_branches 60 = .ok (.ireturn, 1) := by decide +kernel
theorem rd_Check_branches_61 : decode mb_Check_branches 61 = .ok (.iload_n 3, 1) := by decide +kernel
theorem rd_Check_branches_62 : decode mb_Check_branches 62 = .ok (.aload_n 0, 1) := by decide +kernel
theorem rd_Check_branches_63 : decode mb_Check_branches 63 = .ok (.iload_n 1, 1) := by decide +kernel
theorem rd_Check_branches_64 : decode mb_Check_branches 64 = .ok (.aload_n 0, 1) := by decide +kernel
theorem rd_Check_branches_65 : decode mb_Check_branches 65 = .ok (.getfield 34, 3) := by decide +kernel
theorem rd_Check_branches_68 : decode mb_Check_branches 68 = .ok (.iload_n 1, 1) := by decide +kernel
theorem rd_Check_branches_69 : decode mb_Check_branches 69 = .ok (.invokevirtual 38, 3) := by decide +kernel
theorem rd_Check_branches_72 : decode mb_Check_branches 72 = .ok (.invokestatic 56, 3) := by decide +kernel
theorem rd_Check_branches_75 : decode mb_Check_branches 75 = .ok (.if_icmp .eq 5, 3) := by decide +kernel
theorem rd_Check_branches_78 : decode mb_Check_branches 78 = .ok (.iconst 0, 1) := by decide +kernel
theorem rd_Check_branches_79 : decode mb_Check_branches 79 = .ok (.ireturn, 1) := by decide +kernel
theorem rd_Check_branches_80 : decode mb_Check_branches 80 = .ok (.iinc 1 1, 3) := by decide +kernel
theorem rd_Check_branches_83 : decode mb_Check_branches 83 = .ok (.goto (-81), 3) := by decide +kernel
theorem rd_Check_branches_86 : decode mb_Check_branches 86 = .ok (.iconst 1, 1) := by decide +kernel
theorem rd_Check_branches_87 : decode mb_Check_branches 87 = .ok (.ireturn, 1) := by decide +kernel
theorem rd_Check_sumByRecursion_0 : decode mb_Check_sumByRecursion 0 = .ok (.iconst 0, 1) := by decide +kernel
theorem rd_Check_sumByRecursion_1 : decode mb_Check_sumByRecursion 1 = .ok (.istore_n 2, 1) := by decide +kernel
theorem rd_Check_sumByRecursion_2 : decode mb_Check_sumByRecursion 2 = .ok (.aload_n 0, 1) := by decide +kernel
theorem rd_Check_sumByRecursion_3 : decode mb_Check_sumByRecursion 3 = .ok (.iload_n 1, 1) := by decide +kernel
theorem rd_Check_sumByRecursion_4 : decode mb_Check_sumByRecursion 4 = .ok (.invokevirtual 15, 3) := by decide +kernel
theorem rd_Check_sumByRecursion_7 : decode mb_Check_sumByRecursion 7 = .ok (.istore_n 3, 1) := by decide +kernel
theorem rd_Check_sumByRecursion_8 : decode mb_Check_sumByRecursion 8 = .ok (.aload_n 0, 1) := by decide +kernel
theorem rd_Check_sumByRecursion_9 : decode mb_Check_sumByRecursion 9 = .ok (.iload_n 1, 1) := by decide +kernel
theorem rd_Check_sumByRecursion_10 : decode mb_Check_sumByRecursion 10 = .ok (.invokevirtual 19, 3) := by decide +kernel
theorem rd_Check_sumByRecursion_13 : decode mb_Check_sumByRecursion 13 = .ok (.istore 4, 2) := by decide +kernel
theorem rd_Check_sumByRecursion_15 : decode mb_Check_sumByRecursion 15 = .ok (.iload 4, 2) := by decide +kernel
theorem rd_Check_sumByRecursion_17 : decode mb_Check_sumByRecursion 17 = .ok (.iload_n 3, 1) := by decide +kernel
theorem rd_Check_sumByRecursion_18 : decode mb_Check_sumByRecursion 18 = .ok (.if_icmp .ge 32, 3) := by decide +kernel
theorem rd_Check_sumByRecursion_21 : decode mb_Check_sumByRecursion 21 = .ok (.aload_n 0, 1) := by decide +kernel
theorem rd_Check_sumByRecursion_22 : decode mb_Check_sumByRecursion 22 = .ok (.getfield 34, 3) := by decide +kernel
theorem rd_Check_sumByRecursion_25 : decode mb_Check_sumByRecursion 25 = .ok (.iload 4, 2) := by decide +kernel
theorem rd_Check_sumByRecursion_27 : decode mb_Check_sumByRecursion 27 = .ok (.invokevirtual 38, 3) := by decide +kernel
theorem rd_Check_sumByRecursion_30 : decode mb_Check_sumByRecursion 30 = .ok (.iconst 1, 1) := by decide +kernel
theorem rd_Check_sumByRecursion_31 : decode mb_Check_sumByRecursion 31 = .ok (.if_icmp .ne 13, 3) := by decide +kernel
theorem rd_Check_sumByRecursion_34 : decode mb_Check_sumByRecursion 34 = .ok (.iload_n 2, 1) := by decide +kernel
theorem rd_Check_sumByRecursion_35 : decode mb_Check_sumByRecursion 35 = .ok (.aload_n 0, 1) := by decide +kernel
theorem rd_Check_sumByRecursion_36 : decode mb_Check_sumByRecursion 36 = .ok (.iload 4, 2) := by decide +kernel
theorem rd_Check_sumByRecursion_38 : decode mb_Check_sumByRecursion 38 = .ok (.iconst 1, 1) := by decide +kernel
theorem rd_Check_sumByRecursion_39 : decode mb_Check_sumByRecursion 39 = .ok (.invokestatic 56, 3) := by decide +kernel
theorem rd_Check_sumByRecursion_42 : decode mb_Check_sumByRecursion 42 = .ok (.iadd, 1) := by decide +kernel
theorem rd_Check_sumByRecursion_43 : decode mb_Check_sumByRecursion 43 = .ok (.istore_n 2, 1) := by decide +kernel
theorem rd_Check_sumByRecursion_44 : decode mb_Check_sumByRecursion 44 = .ok (.iinc 4 1, 3) := by decide +kernel
theorem rd_Check_sumByRecursion_47 : decode mb_Check_sumByRecursion 47 = .ok (.goto (-32), 3) := by decide +kernel
theorem rd_Check_sumByRecursion_50 : decode mb_Check_sumByRecursion 50 = .ok (.iload_n 2, 1) := by decide +kernel
theorem rd_Check_sumByRecursion_51 : decode mb_Check_sumByRecursion 51 = .ok (.ireturn, 1) := by decide +kernel
theorem rd_Check_sums_0 : decode mb_Check_sums 0 = .ok (.iconst 0, 1) := by decide +kernel
theorem rd_Check_sums_1 : decode mb_Check_sums 1 = .ok (.istore_n 1, 1) := by decide +kernel
theorem rd_Check_sums_2 : decode mb_Check_sums 2 = .ok (.iload_n 1, 1) := by decide +kernel
theorem rd_Check_sums_3 : decode mb_Check_sums 3 = .ok (.aload_n 0, 1) := by decide +kernel
theorem rd_Check_sums_4 : decode mb_Check_sums 4 = .ok (.getfield 9, 3) := by decide +kernel
theorem rd_Check_sums_7 : decode mb_Check_sums 7 = .ok (.if_icmp .ge 32, 3) := by decide +kernel
theorem rd_Check_sums_10 : decode mb_Check_sums 10 = .ok (.aload_n 0, 1) := by decide +kernel
theorem rd_Check_sums_11 : decode mb_Check_sums 11 = .ok (.iload_n 1, 1) := by decide +kernel
theorem rd_Check_sums_12 : decode mb_Check_sums 12 = .ok (.invokevirtual 63, 3) := by decide +kernel
theorem rd_Check_sums_15 : decode mb_Check_sums 15 = .ok (.ifCond .eq 18, 3) := by decide +kernel
theorem rd_Check_sums_18 : decode mb_Check_sums 18 = .ok (.aload_n 0, 1) := by decide +kernel
theorem rd_Check_sums_19 : decode mb_Check_sums 19 = .ok (.iload_n 1, 1) := by decide +kernel
theorem rd_Check_sums_20 : decode mb_Check_sums 20 = .ok (.invokevirtual 67, 3) := by decide +kernel
theorem rd_Check_sums_23 : decode mb_Check_sums 23 = .ok (.aload_n 0, 1) := by decide +kernel
theorem rd_Check_sums_24 : decode mb_Check_sums 24 = .ok (.iload_n 1, 1) := by decide +kernel
theorem rd_Check_sums_25 : decode mb_Check_sums 25 = .ok (.invokestatic 70, 3) := by decide +kernel
theorem rd_Check_sums_28 : decode mb_Check_sums 28 = .ok (.if_icmp .eq 5, 3) := by decide +kernel
theorem rd_Check_sums_31 : decode mb_Check_sums 31 = .ok (.iconst 0, 1) := by decide +kernel
theorem rd_Check_sums_32 : decode mb_Check_sums 32 = .ok (.ireturn, 1) := by decide +kernel
theorem rd_Check_sums_33 : decode mb_Check_sums 33 = .ok (.iinc 1 1, 3) := by decide +kernel
theorem rd_Check_sums_36 : decode mb_Check_sums 36 = .ok (.goto (-34), 3) := by decide +kernel
theorem rd_Check_sums_39 : decode mb_Check_sums 39 = .ok (.iconst 1, 1) := by decide +kernel
theorem rd_Check_sums_40 : decode mb_Check_sums 40 = .ok (.ireturn, 1) := by decide +kernel
theorem rd_Check_guesses_0 : decode mb_Check_guesses 0 = .ok (.iconst 0, 1) := by decide +kernel
theorem rd_Check_guesses_1 : decode mb_Check_guesses 1 = .ok (.istore_n 2, 1) := by decide +kernel
theorem rd_Check_guesses_2 : decode mb_Check_guesses 2 = .ok (.iload_n 2, 1) := by decide +kernel
theorem rd_Check_guesses_3 : decode mb_Check_guesses 3 = .ok (.aload_n 0, 1) := by decide +kernel
theorem rd_Check_guesses_4 : decode mb_Check_guesses 4 = .ok (.getfield 9, 3) := by decide +kernel
theorem rd_Check_guesses_7 : decode mb_Check_guesses 7 = .ok (.if_icmp .ge 39, 3) := by decide +kernel
theorem rd_Check_guesses_10 : decode mb_Check_guesses 10 = .ok (.aload_n 0, 1) := by decide +kernel
theorem rd_Check_guesses_11 : decode mb_Check_guesses 11 = .ok (.iload_n 2, 1) := by decide +kernel
theorem rd_Check_guesses_12 : decode mb_Check_guesses 12 = .ok (.invokevirtual 74, 3) := by decide +kernel
theorem rd_Check_guesses_15 : decode mb_Check_guesses 15 = .ok (.ifCond .ne 25, 3) := by decide +kernel
theorem rd_Check_guesses_18 : decode mb_Check_guesses 18 = .ok (.aload_n 1, 1) := by decide +kernel
theorem rd_Check_guesses_19 : decode mb_Check_guesses 19 = .ok (.aload_n 0, 1) := by decide +kernel
theorem rd_Check_guesses_20 : decode mb_Check_guesses 20 = .ok (.invokevirtual 77, 3) := by decide +kernel
theorem rd_Check_guesses_23 : decode mb_Check_guesses 23 = .ok (.aload_n 1, 1) := by decide +kernel
theorem rd_Check_guesses_24 : decode mb_Check_guesses 24 = .ok (.iload_n 2, 1) := by decide +kernel
theorem rd_Check_guesses_25 : decode mb_Check_guesses 25 = .ok (.invokevirtual 81, 3) := by decide +kernel
theorem rd_Check_guesses_28 : decode mb_Check_guesses 28 = .ok (.pop, 1) := by decide +kernel
theorem rd_Check_guesses_29 : decode mb_Check_guesses 29 = .ok (.aload_n 1, 1) := by decide +kernel
theorem rd_Check_guesses_30 : decode mb_Check_guesses 30 = .ok (.iload_n 2, 1) := by decide +kernel
theorem rd_Check_guesses_31 : decode mb_Check_guesses 31 = .ok (.invokevirtual 84, 3) := by decide +kernel
theorem rd_Check_guesses_34 : decode mb_Check_guesses 34 = .ok (.iconst 2, 1) := by decide +kernel
theorem rd_Check_guesses_35 : decode mb_Check_guesses 35 = .ok (.if_icmp .eq 5, 3) := by decide +kernel
theorem rd_Check_guesses_38 : decode mb_Check_guesses 38 = .ok (.iconst 0, 1) := by decide +kernel
theorem rd_Check_guesses_39 : decode mb_Check_guesses 39 = .ok (.ireturn, 1) := by decide +kernel
theorem rd_Check_guesses_40 : decode mb_Check_guesses 40 = .ok (.iinc 2 1, 3) := by decide +kernel
theorem rd_Check_guesses_43 : decode mb_Check_guesses 43 = .ok (.goto (-41), 3) := by decide +kernel
theorem rd_Check_guesses_46 : decode mb_Check_guesses 46 = .ok (.iconst 1, 1) := by decide +kernel
theorem rd_Check_guesses_47 : decode mb_Check_guesses 47 = .ok (.ireturn, 1) := by decide +kernel
theorem rd_Script_readFirst_0 : decode mb_Script_readFirst 0 = .ok (.iload_n 1, 1) := by decide +kernel
theorem rd_Script_readFirst_1 : decode mb_Script_readFirst 1 = .ok (.ifCond .ne 5, 3) := by decide +kernel
theorem rd_Script_readFirst_4 : decode mb_Script_readFirst 4 = .ok (.iconst 0, 1) := by decide +kernel
theorem rd_Script_readFirst_5 : decode mb_Script_readFirst 5 = .ok (.ireturn, 1) := by decide +kernel
theorem rd_Script_readFirst_6 : decode mb_Script_readFirst 6 = .ok (.iload_n 1, 1) := by decide +kernel
theorem rd_Script_readFirst_7 : decode mb_Script_readFirst 7 = .ok (.iconst 1, 1) := by decide +kernel
theorem rd_Script_readFirst_8 : decode mb_Script_readFirst 8 = .ok (.if_icmp .eq 14, 3) := by decide +kernel
theorem rd_Script_readFirst_11 : decode mb_Script_readFirst 11 = .ok (.iload_n 1, 1) := by decide +kernel
theorem rd_Script_readFirst_12 : decode mb_Script_readFirst 12 = .ok (.iconst 4, 1) := by decide +kernel
theorem rd_Script_readFirst_13 : decode mb_Script_readFirst 13 = .ok (.if_icmp .eq 9, 3) := by decide +kernel
theorem rd_Script_readFirst_16 : decode mb_Script_readFirst 16 = .ok (.iload_n 1, 1) := by decide +kernel
theorem rd_Script_readFirst_17 : decode mb_Script_readFirst 17 = .ok (.bipush 8, 2) := by decide +kernel
theorem rd_Script_readFirst_19 : decode mb_Script_readFirst 19 = .ok (.if_icmp .ne 10, 3) := by decide +kernel
theorem rd_Script_readFirst_22 : decode mb_Script_readFirst 22 = .ok (.aload_n 0, 1) := by decide +kernel
theorem rd_Script_readFirst_23 : decode mb_Script_readFirst 23 = .ok (.iconst 0, 1) := by decide +kernel
theorem rd_Script_readFirst_24 : decode mb_Script_readFirst 24 = .ok (.iconst 5, 1) := by decide +kernel
theorem rd_Script_readFirst_25 : decode mb_Script_readFirst 25 = .ok (.invokevirtual 92, 3) := by decide +kernel
theorem rd_Script_readFirst_28 : decode mb_Script_readFirst 28 = .ok (.ireturn, 1) := by decide +kernel
theorem rd_Script_readFirst_29 : decode mb_Script_readFirst 29 = .ok (.aload_n 0, 1) := by decide +kernel
theorem rd_Script_readFirst_30 : decode mb_Script_readFirst 30 = .ok (.iconst 0, 1) := by decide +kernel
theorem rd_Script_readFirst_31 : decode mb_Script_readFirst 31 = .ok (.bipush 39, 2) := by decide +kernel
theorem rd_Script_readFirst_33 : decode mb_Script_readFirst 33 = .ok (.invokevirtual 92, 3) := by decide +kernel
theorem rd_Script_readFirst_36 : decode mb_Script_readFirst 36 = .ok (.ireturn, 1) := by decide +kernel
theorem rd_Script_kindOf_0 : decode mb_Script_kindOf 0 = .ok (.aload_n 0, 1) := by decide +kernel
theorem rd_Script_kindOf_1 : decode mb_Script_kindOf 1 = .ok (.ldc 70, 2) := by decide +kernel
theorem rd_Script_kindOf_3 : decode mb_Script_kindOf 3 = .ok (.invokevirtual 72, 3) := by decide +kernel
theorem rd_Script_kindOf_6 : decode mb_Script_kindOf 6 = .ok (.ifCond .eq 5, 3) := by decide +kernel
theorem rd_Script_kindOf_9 : decode mb_Script_kindOf 9 = .ok (.iconst 0, 1) := by decide +kernel
theorem rd_Script_kindOf_10 : decode mb_Script_kindOf 10 = .ok (.ireturn, 1) := by decide +kernel
theorem rd_Script_kindOf_11 : decode mb_Script_kindOf 11 = .ok (.aload_n 0, 1) := by decide +kernel
theorem rd_Script_kindOf_12 : decode mb_Script_kindOf 12 = .ok (.ldc 76, 2) := by decide +kernel
theorem rd_Script_kindOf_14 : decode mb_Script_kindOf 14 = .ok (.invokevirtual 72, 3) := by decide +kernel
theorem rd_Script_kindOf_17 : decode mb_Script_kindOf 17 = .ok (.ifCond .eq 5, 3) := by decide +kernel
theorem rd_Script_kindOf_20 : decode mb_Script_kindOf 20 = .ok (.iconst 1, 1) := by decide +kernel
theorem rd_Script_kindOf_21 : decode mb_Script_kindOf 21 = .ok (.ireturn, 1) := by decide +kernel
theorem rd_Script_kindOf_22 : decode mb_Script_kindOf 22 = .ok (.aload_n 0, 1) := by decide +kernel
theorem rd_Script_kindOf_23 : decode mb_Script_kindOf 23 = .ok (.ldc 78, 2) := by decide +kernel
theorem rd_Script_kindOf_25 : decode mb_Script_kindOf 25 = .ok (.invokevirtual 72, 3) := by decide +kernel
theorem rd_Script_kindOf_28 : decode mb_Script_kindOf 28 = .ok (.ifCond .eq 5, 3) := by decide +kernel
theorem rd_Script_kindOf_31 : decode mb_Script_kindOf 31 = .ok (.iconst 2, 1) := by decide +kernel
theorem rd_Script_kindOf_32 : decode mb_Script_kindOf 32 = .ok (.ireturn, 1) := by decide +kernel
theorem rd_Script_kindOf_33 : decode mb_Script_kindOf 33 = .ok (.aload_n 0, 1) := by decide +kernel
theorem rd_Script_kindOf_34 : decode mb_Script_kindOf 34 = .ok (.ldc 80, 2) := by decide +kernel
theorem rd_Script_kindOf_36 : decode mb_Script_kindOf 36 = .ok (.invokevirtual 72, 3) := by decide +kernel
theorem rd_Script_kindOf_39 : decode mb_Script_kindOf 39 = .ok (.ifCond .eq 5, 3) := by decide +kernel
theorem rd_Script_kindOf_42 : decode mb_Script_kindOf 42 = .ok (.iconst 3, 1) := by decide +kernel
theorem rd_Script_kindOf_43 : decode mb_Script_kindOf 43 = .ok (.ireturn, 1) := by decide +kernel
theorem rd_Script_kindOf_44 : decode mb_Script_kindOf 44 = .ok (.aload_n 0, 1) := by decide +kernel
theorem rd_Script_kindOf_45 : decode mb_Script_kindOf 45 = .ok (.ldc 82, 2) := by decide +kernel
theorem rd_Script_kindOf_47 : decode mb_Script_kindOf 47 = .ok (.invokevirtual 72, 3) := by decide +kernel
theorem rd_Script_kindOf_50 : decode mb_Script_kindOf 50 = .ok (.ifCond .eq 5, 3) := by decide +kernel
theorem rd_Script_kindOf_53 : decode mb_Script_kindOf 53 = .ok (.iconst 4, 1) := by decide +kernel
theorem rd_Script_kindOf_54 : decode mb_Script_kindOf 54 = .ok (.ireturn, 1) := by decide +kernel
theorem rd_Script_kindOf_55 : decode mb_Script_kindOf 55 = .ok (.aload_n 0, 1) := by decide +kernel
theorem rd_Script_kindOf_56 : decode mb_Script_kindOf 56 = .ok (.ldc 84, 2) := by decide +kernel
theorem rd_Script_kindOf_58 : decode mb_Script_kindOf 58 = .ok (.invokevirtual 72, 3) := by decide +kernel
theorem rd_Script_kindOf_61 : decode mb_Script_kindOf 61 = .ok (.ifCond .eq 5, 3) := by decide +kernel
theorem rd_Script_kindOf_64 : decode mb_Script_kindOf 64 = .ok (.iconst 5, 1) := by decide +kernel
theorem rd_Script_kindOf_65 : decode mb_Script_kindOf 65 = .ok (.ireturn, 1) := by decide +kernel
theorem rd_Script_kindOf_66 : decode mb_Script_kindOf 66 = .ok (.aload_n 0, 1) := by decide +kernel
theorem rd_Script_kindOf_67 : decode mb_Script_kindOf 67 = .ok (.ldc 86, 2) := by decide +kernel
theorem rd_Script_kindOf_69 : decode mb_Script_kindOf 69 = .ok (.invokevirtual 72, 3) := by decide +kernel
theorem rd_Script_kindOf_72 : decode mb_Script_kindOf 72 = .ok (.ifCond .eq 6, 3) := by decide +kernel
theorem rd_Script_kindOf_75 : decode mb_Script_kindOf 75 = .ok (.bipush 6, 2) := by decide +kernel
theorem rd_Script_kindOf_77 : decode mb_Script_kindOf 77 = .ok (.ireturn, 1) := by decide +kernel
theorem rd_Script_kindOf_78 : decode mb_Script_kindOf 78 = .ok (.aload_n 0, 1) := by decide +kernel
theorem rd_Script_kindOf_79 : decode mb_Script_kindOf 79 = .ok (.ldc 88, 2) := by decide +kernel
theorem rd_Script_kindOf_81 : decode mb_Script_kindOf 81 = .ok (.invokevirtual 72, 3) := by decide +kernel
theorem rd_Script_kindOf_84 : decode mb_Script_kindOf 84 = .ok (.ifCond .eq 6, 3) := by decide +kernel
theorem rd_Script_kindOf_87 : decode mb_Script_kindOf 87 = .ok (.bipush 7, 2) := by decide +kernel
theorem rd_Script_kindOf_89 : decode mb_Script_kindOf 89 = .ok (.ireturn, 1) := by decide +kernel
theorem rd_Script_kindOf_90 : decode mb_Script_kindOf 90 = .ok (.aload_n 0, 1) := by decide +kernel
theorem rd_Script_kindOf_91 : decode mb_Script_kindOf 91 = .ok (.ldc 90, 2) := by decide +kernel
theorem rd_Script_kindOf_93 : decode mb_Script_kindOf 93 = .ok (.invokevirtual 72, 3) := by decide +kernel
theorem rd_Script_kindOf_96 : decode mb_Script_kindOf 96 = .ok (.ifCond .eq 8, 3) := by decide +kernel
theorem rd_Script_kindOf_99 : decode mb_Script_kindOf 99 = .ok (.bipush 8, 2) := by decide +kernel
theorem rd_Script_kindOf_101 : decode mb_Script_kindOf 101 = .ok (.goto 4, 3) := by decide +kernel
theorem rd_Script_kindOf_104 : decode mb_Script_kindOf 104 = .ok (.iconst (-1), 1) := by decide +kernel
theorem rd_Script_kindOf_105 : decode mb_Script_kindOf 105 = .ok (.ireturn, 1) := by decide +kernel
theorem rd_Script_readKind_0 : decode mb_Script_readKind 0 = .ok (.aload_n 1, 1) := by decide +kernel
theorem rd_Script_readKind_1 : decode mb_Script_readKind 1 = .ok (.invokestatic 64, 3) := by decide +kernel
theorem rd_Script_readKind_4 : decode mb_Script_readKind 4 = .ok (.istore_n 2, 1) := by decide +kernel
theorem rd_Script_readKind_5 : decode mb_Script_readKind 5 = .ok (.iload_n 2, 1) := by decide +kernel
theorem rd_Script_readKind_6 : decode mb_Script_readKind 6 = .ok (.iconst (-1), 1) := by decide +kernel
theorem rd_Script_readKind_7 : decode mb_Script_readKind 7 = .ok (.if_icmp .ne 8, 3) := by decide +kernel
theorem rd_Script_readKind_10 : decode mb_Script_readKind 10 = .ok (.aload_n 1, 1) := by decide +kernel
theorem rd_Script_readKind_11 : decode mb_Script_readKind 11 = .ok (.iconst 1, 1) := by decide +kernel
theorem rd_Script_readKind_12 : decode mb_Script_readKind 12 = .ok (.invokevirtual 67, 3) := by decide +kernel
theorem rd_Script_readKind_15 : decode mb_Script_readKind 15 = .ok (.aload_n 0, 1) := by decide +kernel
theorem rd_Script_readKind_16 : decode mb_Script_readKind 16 = .ok (.getfield 9, 3) := by decide +kernel
theorem rd_Script_readKind_19 : decode mb_Script_readKind 19 = .ok (.bipush 30, 2) := by decide +kernel
theorem rd_Script_readKind_21 : decode mb_Script_readKind 21 = .ok (.if_icmp .lt 9, 3) := by decide +kernel
theorem rd_Script_readKind_24 : decode mb_Script_readKind 24 = .ok (.aload_n 1, 1) := by decide +kernel
theorem rd_Script_readKind_25 : decode mb_Script_readKind 25 = .ok (.bipush 6, 2) := by decide +kernel
theorem rd_Script_readKind_27 : decode mb_Script_readKind 27 = .ok (.invokevirtual 67, 3) := by decide +kernel
theorem rd_Script_readKind_30 : decode mb_Script_readKind 30 = .ok (.iload_n 2, 1) := by decide +kernel
theorem rd_Script_readKind_31 : decode mb_Script_readKind 31 = .ok (.ireturn, 1) := by decide +kernel
theorem rd_Script_readSecond_0 : decode mb_Script_readSecond 0 = .ok (.iload_n 2, 1) := by decide +kernel
theorem rd_Script_readSecond_1 : decode mb_Script_readSecond 1 = .ok (.tableswitch 63 1 7 #[43, 43, 63, 43, 49, 56, 43], 43) := by decide +kernel
theorem rd_Script_readSecond_44 : decode mb_Script_readSecond 44 = .ok (.aload_n 0, 1) := by decide +kernel
theorem rd_Script_readSecond_45 : decode mb_Script_readSecond 45 = .ok (.aload_n 1, 1) := by decide +kernel
theorem rd_Script_readSecond_46 : decode mb_Script_readSecond 46 = .ok (.invokevirtual 96, 3) := by decide +kernel
theorem rd_Script_readSecond_49 : decode mb_Script_readSecond 49 = .ok (.ireturn, 1) := by decide +kernel
theorem rd_Script_readSecond_50 : decode mb_Script_readSecond 50 = .ok (.aload_n 0, 1) := by decide +kernel
theorem rd_Script_readSecond_51 : decode mb_Script_readSecond 51 = .ok (.iconst 0, 1) := by decide +kernel
theorem rd_Script_readSecond_52 : decode mb_Script_readSecond 52 = .ok (.iconst 3, 1) := by decide +kernel
theorem rd_Script_readSecond_53 : decode mb_Script_readSecond 53 = .ok (.invokevirtual 92, 3) := by decide +kernel
theorem rd_Script_readSecond_56 : decode mb_Script_readSecond 56 = .ok (.ireturn, 1) := by decide +kernel
theorem rd_Script_readSecond_57 : decode mb_Script_readSecond 57 = .ok (.aload_n 0, 1) := by decide +kernel
theorem rd_Script_readSecond_58 : decode mb_Script_readSecond 58 = .ok (.iconst 1, 1) := by decide +kernel
theorem rd_Script_readSecond_59 : decode mb_Script_readSecond 59 = .ok (.iconst 4, 1) := by decide +kernel
theorem rd_Script_readSecond_60 : decode mb_Script_readSecond 60 = .ok (.invokevirtual 92, 3) := by decide +kernel
theorem rd_Script_readSecond_63 : decode mb_Script_readSecond 63 = .ok (.ireturn, 1) := by decide +kernel
theorem rd_Script_readSecond_64 : decode mb_Script_readSecond 64 = .ok (.iconst 0, 1) := by decide +kernel
theorem rd_Script_readSecond_65 : decode mb_Script_readSecond 65 = .ok (.ireturn, 1) := by decide +kernel
theorem rd_Script_readThird_0 : decode mb_Script_readThird 0 = .ok (.iload_n 1, 1) := by decide +kernel
theorem rd_Script_readThird_1 : decode mb_Script_readThird 1 = .ok (.iconst 1, 1) := by decide +kernel
theorem rd_Script_readThird_2 : decode mb_Script_readThird 2 = .ok (.if_icmp .eq 8, 3) := by decide +kernel
theorem rd_Script_readThird_5 : decode mb_Script_readThird 5 = .ok (.iload_n 1, 1) := by decide +kernel
theorem rd_Script_readThird_6 : decode mb_Script_readThird 6 = .ok (.iconst 2, 1) := by decide +kernel
theorem rd_Script_readThird_7 : decode mb_Script_readThird 7 = .ok (.if_icmp .ne 12, 3) := by decide +kernel
theorem rd_Script_readThird_10 : decode mb_Script_readThird 10 = .ok (.aload_n 0, 1) := by decide +kernel
theorem rd_Script_readThird_11 : decode mb_Script_readThird 11 = .ok (.iconst 0, 1) := by decide +kernel
theorem rd_Script_readThird_12 : decode mb_Script_readThird 12 = .ok (.sipush 9999, 3) := by decide +kernel
theorem rd_Script_readThird_15 : decode mb_Script_readThird 15 = .ok (.invokevirtual 92, 3) := by decide +kernel
theorem rd_Script_readThird_18 : decode mb_Script_readThird 18 = .ok (.ireturn, 1) := by decide +kernel
theorem rd_Script_readThird_19 : decode mb_Script_readThird 19 = .ok (.iload_n 1, 1) := by decide +kernel
theorem rd_Script_readThird_20 : decode mb_Script_readThird 20 = .ok (.iconst 5, 1) := by decide +kernel
theorem rd_Script_readThird_21 : decode mb_Script_readThird 21 = .ok (.if_icmp .ne 13, 3) := by decide +kernel
theorem rd_Script_readThird_24 : decode mb_Script_readThird 24 = .ok (.aload_n 0, 1) := by decide +kernel
theorem rd_Script_readThird_25 : decode mb_Script_readThird 25 = .ok (.iconst 0, 1) := by decide +kernel
theorem rd_Script_readThird_26 : decode mb_Script_readThird 26 = .ok (.bipush 9, 2) := by decide +kernel
theorem rd_Script_readThird_28 : decode mb_Script_readThird 28 = .ok (.invokevirtual 92, 3) := by decide +kernel
theorem rd_Script_readThird_31 : decode mb_Script_readThird 31 = .ok (.goto 4, 3) := by decide +kernel
theorem rd_Script_readThird_34 : decode mb_Script_readThird 34 = .ok (.iconst 0, 1) := by decide +kernel
theorem rd_Script_readThird_35 : decode mb_Script_readThird 35 = .ok (.ireturn, 1) := by decide +kernel
theorem rd_Script_parse_0 : decode mb_Script_parse 0 = .ok (.aload_n 1, 1) := by decide +kernel
theorem rd_Script_parse_1 : decode mb_Script_parse 1 = .ok (.invokevirtual 33, 3) := by decide +kernel
theorem rd_Script_parse_4 : decode mb_Script_parse 4 = .ok (.aload_n 0, 1) := by decide +kernel
theorem rd_Script_parse_5 : decode mb_Script_parse 5 = .ok (.iconst 0, 1) := by decide +kernel
theorem rd_Script_parse_6 : decode mb_Script_parse 6 = .ok (.putfield 9, 3) := by decide +kernel
theorem rd_Script_parse_9 : decode mb_Script_parse 9 = .ok (.iconst 0, 1) := by decide +kernel
theorem rd_Script_parse_10 : decode mb_Script_parse 10 = .ok (.istore_n 3, 1) := by decide +kernel
theorem rd_Script_parse_11 : decode mb_Script_parse 11 = .ok (.iload_n 3, 1) := by decide +kernel
theorem rd_Script_parse_12 : decode mb_Script_parse 12 = .ok (.bipush 30, 2) := by decide +kernel
theorem rd_Script_parse_14 : decode mb_Script_parse 14 = .ok (.if_icmp .gt 87, 3) := by decide +kernel
theorem rd_Script_parse_17 : decode mb_Script_parse 17 = .ok (.aload_n 1, 1) := by decide +kernel
theorem rd_Script_parse_18 : decode mb_Script_parse 18 = .ok (.invokevirtual 38, 3) := by decide +kernel
theorem rd_Script_parse_21 : decode mb_Script_parse 21 = .ok (.ifCond .eq 80, 3) := by decide +kernel
theorem rd_Script_parse_24 : decode mb_Script_parse 24 = .ok (.aload_n 0, 1) := by decide +kernel
theorem rd_Script_parse_25 : decode mb_Script_parse 25 = .ok (.aload_n 1, 1) := by decide +kernel
theorem rd_Script_parse_26 : decode mb_Script_parse 26 = .ok (.invokevirtual 42, 3) := by decide +kernel
theorem rd_Script_parse_29 : decode mb_Script_parse 29 = .ok (.istore 4, 2) := by decide +kernel
theorem rd_Script_parse_31 : decode mb_Script_parse 31 = .ok (.aload_n 0, 1) := by decide +kernel
theorem rd_Script_parse_32 : decode mb_Script_parse 32 = .ok (.getfield 20, 3) := by decide +kernel
theorem rd_Script_parse_35 : decode mb_Script_parse 35 = .ok (.iload_n 3, 1) := by decide +kernel
theorem rd_Script_parse_36 : decode mb_Script_parse 36 = .ok (.iload 4, 2) := by decide +kernel
theorem rd_Script_parse_38 : decode mb_Script_parse 38 = .ok (.invokevirtual 46, 3) := by decide +kernel
theorem rd_Script_parse_41 : decode mb_Script_parse 41 = .ok (.aload_n 0, 1) := by decide +kernel
theorem rd_Script_parse_42 : decode mb_Script_parse 42 = .ok (.getfield 24, 3) := by decide +kernel
theorem rd_Script_parse_45 : decode mb_Script_parse 45 = .ok (.iload_n 3, 1) := by decide +kernel
theorem rd_Script_parse_46 : decode mb_Script_parse 46 = .ok (.aload_n 1, 1) := by decide +kernel
theorem rd_Script_parse_47 : decode mb_Script_parse 47 = .ok (.iload 4, 2) := by decide +kernel
theorem rd_Script_parse_49 : decode mb_Script_parse 49 = .ok (.invokestatic 50, 3) := by decide +kernel
theorem rd_Script_parse_52 : decode mb_Script_parse 52 = .ok (.invokevirtual 46, 3) := by decide +kernel
theorem rd_Script_parse_55 : decode mb_Script_parse 55 = .ok (.aload_n 0, 1) := by decide +kernel
theorem rd_Script_parse_56 : decode mb_Script_parse 56 = .ok (.getfield 27, 3) := by decide +kernel
theorem rd_Script_parse_59 : decode mb_Script_parse 59 = .ok (.iload_n 3, 1) := by decide +kernel
theorem rd_Script_parse_60 : decode mb_Script_parse 60 = .ok (.aload_n 1, 1) := by decide +kernel
theorem rd_Script_parse_61 : decode mb_Script_parse 61 = .ok (.aload_n 2, 1) := by decide +kernel
theorem rd_Script_parse_62 : decode mb_Script_parse 62 = .ok (.iload 4, 2) := by decide +kernel
theorem rd_Script_parse_64 : decode mb_Script_parse 64 = .ok (.invokestatic 54, 3) := by decide +kernel
theorem rd_Script_parse_67 : decode mb_Script_parse 67 = .ok (.invokevirtual 46, 3) := by decide +kernel
theorem rd_Script_parse_70 : decode mb_Script_parse 70 = .ok (.aload_n 0, 1) := by decide +kernel
theorem rd_Script_parse_71 : decode mb_Script_parse 71 = .ok (.getfield 30, 3) := by decide +kernel
theorem rd_Script_parse_74 : decode mb_Script_parse 74 = .ok (.iload_n 3, 1) := by decide +kernel
theorem rd_Script_parse_75 : decode mb_Script_parse 75 = .ok (.aload_n 1, 1) := by decide +kernel
theorem rd_Script_parse_76 : decode mb_Script_parse 76 = .ok (.iload 4, 2) := by decide +kernel
theorem rd_Script_parse_78 : decode mb_Script_parse 78 = .ok (.invokestatic 58, 3) := by decide +kernel
theorem rd_Script_parse_81 : decode mb_Script_parse 81 = .ok (.invokevirtual 46, 3) := by decide +kernel
theorem rd_Script_parse_84 : decode mb_Script_parse 84 = .ok (.aload_n 1, 1) := by decide +kernel
theorem rd_Script_parse_85 : decode mb_Script_parse 85 = .ok (.invokevirtual 61, 3) := by decide +kernel
theorem rd_Script_parse_88 : decode mb_Script_parse 88 = .ok (.aload_n 0, 1) := by decide +kernel
theorem rd_Script_parse_89 : decode mb_Script_parse 89 = .ok (.iload_n 3, 1) := by decide +kernel
theorem rd_Script_parse_90 : decode mb_Script_parse 90 = .ok (.iconst 1, 1) := by decide +kernel
theorem rd_Script_parse_91 : decode mb_Script_parse 91 = .ok (.iadd, 1) := by decide +kernel
theorem rd_Script_parse_92 : decode mb_Script_parse 92 = .ok (.putfield 9, 3) := by decide +kernel
theorem rd_Script_parse_95 : decode mb_Script_parse 95 = .ok (.iinc 3 1, 3) := by decide +kernel
theorem rd_Script_parse_98 : decode mb_Script_parse 98 = .ok (.goto (-87), 3) := by decide +kernel
theorem rd_Script_parse_101 : decode mb_Script_parse 101 = .ok (.return_, 1) := by decide +kernel
theorem rd_Setup_readCluster_0 : decode mb_Setup_readCluster 0 = .ok (.aload_n 1, 1) := by decide +kernel
theorem rd_Setup_readCluster_1 : decode mb_Setup_readCluster 1 = .ok (.getfield 63, 3) := by decide +kernel
theorem rd_Setup_readCluster_4 : decode mb_Setup_readCluster 4 = .ok (.bipush 6, 2) := by decide +kernel
theorem rd_Setup_readCluster_6 : decode mb_Setup_readCluster 6 = .ok (.if_icmp .lt 9, 3) := by decide +kernel
theorem rd_Setup_readCluster_9 : decode mb_Setup_readCluster 9 = .ok (.aload_n 0, 1) := by decide +kernel
theorem rd_Setup_readCluster_10 : decode mb_Setup_readCluster 10 = .ok (.bipush 6, 2) := by decide +kernel
theorem rd_Setup_readCluster_12 : decode mb_Setup_readCluster 12 = .ok (.invokevirtual 52, 3) := by decide +kernel
theorem rd_Setup_readCluster_15 : decode mb_Setup_readCluster 15 = .ok (.aload_n 1, 1) := by decide +kernel
theorem rd_Setup_readCluster_16 : decode mb_Setup_readCluster 16 = .ok (.invokevirtual 66, 3) := by decide +kernel
theorem rd_Setup_readCluster_19 : decode mb_Setup_readCluster 19 = .ok (.pop, 1) := by decide +kernel
theorem rd_Setup_readCluster_20 : decode mb_Setup_readCluster 20 = .ok (.aload_n 0, 1) := by decide +kernel
theorem rd_Setup_readCluster_21 : decode mb_Setup_readCluster 21 = .ok (.invokevirtual 60, 3) := by decide +kernel
theorem rd_Setup_readCluster_24 : decode mb_Setup_readCluster 24 = .ok (.return_, 1) := by decide +kernel
theorem rd_Setup_checkFirstWord_0 : decode mb_Setup_checkFirstWord 0 = .ok (.aload_n 0, 1) := by decide +kernel
theorem rd_Setup_checkFirstWord_1 : decode mb_Setup_checkFirstWord 1 = .ok (.ldc 73, 2) := by decide +kernel
theorem rd_Setup_checkFirstWord_3 : decode mb_Setup_checkFirstWord 3 = .ok (.invokevirtual 28, 3) := by decide +kernel
theorem rd_Setup_checkFirstWord_6 : decode mb_Setup_checkFirstWord 6 = .ok (.istore_n 2, 1) := by decide +kernel
theorem rd_Setup_checkFirstWord_7 : decode mb_Setup_checkFirstWord 7 = .ok (.iload_n 2, 1) := by decide +kernel
theorem rd_Setup_checkFirstWord_8 : decode mb_Setup_checkFirstWord 8 = .ok (.ifCond .ne 26, 3) := by decide +kernel
theorem rd_Setup_checkFirstWord_11 : decode mb_Setup_checkFirstWord 11 = .ok (.aload_n 0, 1) := by decide +kernel
theorem rd_Setup_checkFirstWord_12 : decode mb_Setup_checkFirstWord 12 = .ok (.ldc 75, 2) := by decide +kernel
theorem rd_Setup_checkFirstWord_14 : decode mb_Setup_checkFirstWord 14 = .ok (.invokevirtual 28, 3) := by decide +kernel
theorem rd_Setup_checkFirstWord_17 : decode mb_Setup_checkFirstWord 17 = .ok (.ifCond .ne 17, 3) := by decide +kernel
theorem rd_Setup_checkFirstWord_20 : decode mb_Setup_checkFirstWord 20 = .ok (.aload_n 0, 1) := by decide +kernel
theorem rd_Setup_checkFirstWord_21 : decode mb_Setup_checkFirstWord 21 = .ok (.ldc 103, 2) := by decide +kernel
theorem rd_Setup_checkFirstWord_23 : decode mb_Setup_checkFirstWord 23 = .ok (.invokevirtual 28, 3) := by decide +kernel
theorem rd_Setup_checkFirstWord_26 : decode mb_Setup_checkFirstWord 26 = .ok (.ifCond .ne 8, 3) := by decide +kernel
theorem rd_Setup_checkFirstWord_29 : decode mb_Setup_checkFirstWord 29 = .ok (.aload_n 0, 1) := by decide +kernel
theorem rd_Setup_checkFirstWord_30 : decode mb_Setup_checkFirstWord 30 = .ok (.iconst 1, 1) := by decide +kernel
theorem rd_Setup_checkFirstWord_31 : decode mb_Setup_checkFirstWord 31 = .ok (.invokevirtual 52, 3) := by decide +kernel
theorem rd_Setup_checkFirstWord_34 : decode mb_Setup_checkFirstWord 34 = .ok (.aload_n 1, 1) := by decide +kernel
theorem rd_Setup_checkFirstWord_35 : decode mb_Setup_checkFirstWord 35 = .ok (.getfield 63, 3) := by decide +kernel
theorem rd_Setup_checkFirstWord_38 : decode mb_Setup_checkFirstWord 38 = .ok (.ifCond .eq 20, 3) := by decide +kernel
theorem rd_Setup_checkFirstWord_41 : decode mb_Setup_checkFirstWord 41 = .ok (.iload_n 2, 1) := by decide +kernel
theorem rd_Setup_checkFirstWord_42 : decode mb_Setup_checkFirstWord 42 = .ok (.ifCond .eq 21, 3) := by decide +kernel
theorem rd_Setup_checkFirstWord_45 : decode mb_Setup_checkFirstWord 45 = .ok (.aload_n 1, 1) := by decide +kernel
theorem rd_Setup_checkFirstWord_46 : decode mb_Setup_checkFirstWord 46 = .ok (.aload_n 1, 1) := by decide +kernel
theorem rd_Setup_checkFirstWord_47 : decode mb_Setup_checkFirstWord 47 = .ok (.getfield 63, 3) := by decide +kernel
theorem rd_Setup_checkFirstWord_50 : decode mb_Setup_checkFirstWord 50 = .ok (.iconst 1, 1) := by decide +kernel
theorem rd_Setup_checkFirstWord_51 : decode mb_Setup_checkFirstWord 51 = .ok (.isub, 1) := by decide +kernel
theorem rd_Setup_checkFirstWord_52 : decode mb_Setup_checkFirstWord 52 = .ok (.invokevirtual 105, 3) := by decide +kernel
theorem rd_Setup_checkFirstWord_55 : decode mb_Setup_checkFirstWord 55 = .ok (.ifCond .eq 8, 3) := by decide +kernel
theorem rd_Setup_checkFirstWord_58 : decode mb_Setup_checkFirstWord 58 = .ok (.aload_n 0, 1) := by decide +kernel
theorem rd_Setup_checkFirstWord_59 : decode mb_Setup_checkFirstWord 59 = .ok (.iconst 5, 1) := by decide +kernel
theorem rd_Setup_checkFirstWord_60 : decode mb_Setup_checkFirstWord 60 = .ok (.invokevirtual 52, 3) := by decide +kernel
theorem rd_Setup_checkFirstWord_63 : decode mb_Setup_checkFirstWord 63 = .ok (.aload_n 1, 1) := by decide +kernel
theorem rd_Setup_checkFirstWord_64 : decode mb_Setup_checkFirstWord 64 = .ok (.getfield 109, 3) := by decide +kernel
theorem rd_Setup_checkFirstWord_67 : decode mb_Setup_checkFirstWord 67 = .ok (.bipush 40, 2) := by decide +kernel
theorem rd_Setup_checkFirstWord_69 : decode mb_Setup_checkFirstWord 69 = .ok (.if_icmp .lt 9, 3) := by decide +kernel
theorem rd_Setup_checkFirstWord_72 : decode mb_Setup_checkFirstWord 72 = .ok (.aload_n 0, 1) := by decide +kernel
theorem rd_Setup_checkFirstWord_73 : decode mb_Setup_checkFirstWord 73 = .ok (.bipush 6, 2) := by decide +kernel
theorem rd_Setup_checkFirstWord_75 : decode mb_Setup_checkFirstWord 75 = .ok (.invokevirtual 52, 3) := by decide +kernel
theorem rd_Setup_checkFirstWord_78 : decode mb_Setup_checkFirstWord 78 = .ok (.return_, 1) := by decide +kernel
theorem rd_Setup_placeFor_0 : decode mb_Setup_placeFor 0 = .ok (.aload_n 0, 1) := by decide +kernel
theorem rd_Setup_placeFor_1 : decode mb_Setup_placeFor 1 = .ok (.aload_n 0, 1) := by decide +kernel
theorem rd_Setup_placeFor_2 : decode mb_Setup_placeFor 2 = .ok (.getfield 63, 3) := by decide +kernel
theorem rd_Setup_placeFor_5 : decode mb_Setup_placeFor 5 = .ok (.iconst 1, 1) := by decide +kernel
theorem rd_Setup_placeFor_6 : decode mb_Setup_placeFor 6 = .ok (.isub, 1) := by decide +kernel
theorem rd_Setup_placeFor_7 : decode mb_Setup_placeFor 7 = .ok (.invokevirtual 110, 3) := by decide +kernel
theorem rd_Setup_placeFor_10 : decode mb_Setup_placeFor 10 = .ok (.istore_n 2, 1) := by decide +kernel
theorem rd_Setup_placeFor_11 : decode mb_Setup_placeFor 11 = .ok (.iload_n 1, 1) := by decide +kernel
theorem rd_Setup_placeFor_12 : decode mb_Setup_placeFor 12 = .ok (.ifCond .ne 5, 3) := by decide +kernel
theorem rd_Setup_placeFor_15 : decode mb_Setup_placeFor 15 = .ok (.iload_n 2, 1) := by decide +kernel
theorem rd_Setup_placeFor_16 : decode mb_Setup_placeFor 16 = .ok (.ireturn, 1) := by decide +kernel
theorem rd_Setup_placeFor_17 : decode mb_Setup_placeFor 17 = .ok (.iload_n 1, 1) := by decide +kernel
theorem rd_Setup_placeFor_18 : decode mb_Setup_placeFor 18 = .ok (.iconst 1, 1) := by decide +kernel
theorem rd_Setup_placeFor_19 : decode mb_Setup_placeFor 19 = .ok (.if_icmp .ne 8, 3) := by decide +kernel
theorem rd_Setup_placeFor_22 : decode mb_Setup_placeFor 22 = .ok (.aload_n 0, 1) := by decide +kernel
theorem rd_Setup_placeFor_23 : decode mb_Setup_placeFor 23 = .ok (.getfield 109, 3) := by decide +kernel
theorem rd_Setup_placeFor_26 : decode mb_Setup_placeFor 26 = .ok (.ireturn, 1) := by decide +kernel
theorem rd_Setup_placeFor_27 : decode mb_Setup_placeFor 27 = .ok (.aload_n 0, 1) := by decide +kernel
theorem rd_Setup_placeFor_28 : decode mb_Setup_placeFor 28 = .ok (.iload_n 2, 1) := by decide +kernel
theorem rd_Setup_placeFor_29 : decode mb_Setup_placeFor 29 = .ok (.aload_n 0, 1) := by decide +kernel
theorem rd_Setup_placeFor_30 : decode mb_Setup_placeFor 30 = .ok (.getfield 109, 3) := by decide +kernel
theorem rd_Setup_placeFor_33 : decode mb_Setup_placeFor 33 = .ok (.iload_n 1, 1) := by decide +kernel
theorem rd_Setup_placeFor_34 : decode mb_Setup_placeFor 34 = .ok (.iconst 1, 1) := by decide +kernel
theorem rd_Setup_placeFor_35 : decode mb_Setup_placeFor 35 = .ok (.isub, 1) := by decide +kernel
theorem rd_Setup_placeFor_36 : decode mb_Setup_placeFor 36 = .ok (.invokevirtual 114, 3) := by decide +kernel
theorem rd_Setup_placeFor_39 : decode mb_Setup_placeFor 39 = .ok (.istore_n 3, 1) := by decide +kernel
theorem rd_Setup_placeFor_40 : decode mb_Setup_placeFor 40 = .ok (.iload_n 3, 1) := by decide +kernel
theorem rd_Setup_placeFor_41 : decode mb_Setup_placeFor 41 = .ok (.iconst (-1), 1) := by decide +kernel
theorem rd_Setup_placeFor_42 : decode mb_Setup_placeFor 42 = .ok (.if_icmp .ne 7, 3) := by decide +kernel
theorem rd_Setup_placeFor_45 : decode mb_Setup_placeFor 45 = .ok (.iconst (-1), 1) := by decide +kernel
theorem rd_Setup_placeFor_46 : decode mb_Setup_placeFor 46 = .ok (.goto 8, 3) := by decide +kernel
theorem rd_Setup_placeFor_49 : decode mb_Setup_placeFor 49 = .ok (.aload_n 0, 1) := by decide +kernel
theorem rd_Setup_placeFor_50 : decode mb_Setup_placeFor 50 = .ok (.iload_n 3, 1) := by decide +kernel
theorem rd_Setup_placeFor_51 : decode mb_Setup_placeFor 51 = .ok (.invokevirtual 118, 3) := by decide +kernel
theorem rd_Setup_placeFor_54 : decode mb_Setup_placeFor 54 = .ok (.ireturn, 1) := by decide +kernel
theorem rd_Setup_readCord_0 : decode mb_Setup_readCord 0 = .ok (.aload_n 0, 1) := by decide +kernel
theorem rd_Setup_readCord_1 : decode mb_Setup_readCord 1 = .ok (.aload_n 2, 1) := by decide +kernel
theorem rd_Setup_readCord_2 : decode mb_Setup_readCord 2 = .ok (.invokestatic 70, 3) := by decide +kernel
theorem rd_Setup_readCord_5 : decode mb_Setup_readCord 5 = .ok (.aload_n 0, 1) := by decide +kernel
theorem rd_Setup_readCord_6 : decode mb_Setup_readCord 6 = .ok (.ldc 73, 2) := by decide +kernel
theorem rd_Setup_readCord_8 : decode mb_Setup_readCord 8 = .ok (.invokevirtual 28, 3) := by decide +kernel
theorem rd_Setup_readCord_11 : decode mb_Setup_readCord 11 = .ok (.ifCond .eq 7, 3) := by decide +kernel
theorem rd_Setup_readCord_14 : decode mb_Setup_readCord 14 = .ok (.iconst 0, 1) := by decide +kernel
theorem rd_Setup_readCord_15 : decode mb_Setup_readCord 15 = .ok (.goto 22, 3) := by decide +kernel
theorem rd_Setup_readCord_18 : decode mb_Setup_readCord 18 = .ok (.aload_n 0, 1) := by decide +kernel
theorem rd_Setup_readCord_19 : decode mb_Setup_readCord 19 = .ok (.ldc 75, 2) := by decide +kernel
theorem rd_Setup_readCord_21 : decode mb_Setup_readCord 21 = .ok (.invokevirtual 28, 3) := by decide +kernel
theorem rd_Setup_readCord_24 : decode mb_Setup_readCord 24 = .ok (.ifCond .eq 7, 3) := by decide +kernel
theorem rd_Setup_readCord_27 : decode mb_Setup_readCord 27 = .ok (.iconst 1, 1) := by decide +kernel
theorem rd_Setup_readCord_28 : decode mb_Setup_readCord 28 = .ok (.goto 9, 3) := by decide +kernel
theorem rd_Setup_readCord_31 : decode mb_Setup_readCord 31 = .ok (.aload_n 0, 1) := by decide +kernel
theorem rd_Setup_readCord_32 : decode mb_Setup_readCord 32 = .ok (.iconst 2, 1) := by decide +kernel
theorem rd_Setup_readCord_33 : decode mb_Setup_readCord 33 = .ok (.iconst 3, 1) := by decide +kernel
theorem rd_Setup_readCord_34 : decode mb_Setup_readCord 34 = .ok (.invokevirtual 77, 3) := by decide +kernel
theorem rd_Setup_readCord_37 : decode mb_Setup_readCord 37 = .ok (.istore_n 3, 1) := by decide +kernel
theorem rd_Setup_readCord_38 : decode mb_Setup_readCord 38 = .ok (.aload_n 2, 1) := by decide +kernel
theorem rd_Setup_readCord_39 : decode mb_Setup_readCord 39 = .ok (.iload_n 3, 1) := by decide +kernel
theorem rd_Setup_readCord_40 : decode mb_Setup_readCord 40 = .ok (.invokestatic 81, 3) := by decide +kernel
theorem rd_Setup_readCord_43 : decode mb_Setup_readCord 43 = .ok (.istore 4, 2) := by decide +kernel
theorem rd_Setup_readCord_45 : decode mb_Setup_readCord 45 = .ok (.iload 4, 2) := by decide +kernel
theorem rd_Setup_readCord_47 : decode mb_Setup_readCord 47 = .ok (.iconst (-1), 1) := by decide +kernel
theorem rd_Setup_readCord_48 : decode mb_Setup_readCord 48 = .ok (.if_icmp .ne 8, 3) := by decide +kernel
theorem rd_Setup_readCord_51 : decode mb_Setup_readCord 51 = .ok (.aload_n 0, 1) := by decide +kernel
theorem rd_Setup_readCord_52 : decode mb_Setup_readCord 52 = .ok (.iconst 5, 1) := by decide +kernel
theorem rd_Setup_readCord_53 : decode mb_Setup_readCord 53 = .ok (.invokevirtual 52, 3) := by decide +kernel
theorem rd_Setup_readCord_56 : decode mb_Setup_readCord 56 = .ok (.aload_n 0, 1) := by decide +kernel
theorem rd_Setup_readCord_57 : decode mb_Setup_readCord 57 = .ok (.aload_n 1, 1) := by decide +kernel
theorem rd_Setup_readCord_58 : decode mb_Setup_readCord 58 = .ok (.invokevirtual 85, 3) := by decide +kernel
theorem rd_Setup_readCord_61 : decode mb_Setup_readCord 61 = .ok (.istore 5, 2) := by decide +kernel
theorem rd_Setup_readCord_63 : decode mb_Setup_readCord 63 = .ok (.aload_n 0, 1) := by decide +kernel
theorem rd_Setup_readCord_64 : decode mb_Setup_readCord 64 = .ok (.iconst 0, 1) := by decide +kernel
theorem rd_Setup_readCord_65 : decode mb_Setup_readCord 65 = .ok (.sipush 9999, 3) := by decide +kernel
theorem rd_Setup_readCord_68 : decode mb_Setup_readCord 68 = .ok (.invokevirtual 77, 3) := by decide +kernel
theorem rd_Setup_readCord_71 : decode mb_Setup_readCord 71 = .ok (.istore 6, 2) := by decide +kernel
theorem rd_Setup_readCord_73 : decode mb_Setup_readCord 73 = .ok (.aload_n 0, 1) := by decide +kernel
theorem rd_Setup_readCord_74 : decode mb_Setup_readCord 74 = .ok (.ldc 88, 2) := by decide +kernel
theorem rd_Setup_readCord_76 : decode mb_Setup_readCord 76 = .ok (.invokevirtual 90, 3) := by decide +kernel
theorem rd_Setup_readCord_79 : decode mb_Setup_readCord 79 = .ok (.ifCond .eq 12, 3) := by decide +kernel
theorem rd_Setup_readCord_82 : decode mb_Setup_readCord 82 = .ok (.aload_n 0, 1) := by decide +kernel
theorem rd_Setup_readCord_83 : decode mb_Setup_readCord 83 = .ok (.iconst 1, 1) := by decide +kernel
theorem rd_Setup_readCord_84 : decode mb_Setup_readCord 84 = .ok (.iconst 4, 1) := by decide +kernel
theorem rd_Setup_readCord_85 : decode mb_Setup_readCord 85 = .ok (.invokevirtual 77, 3) := by decide +kernel
theorem rd_Setup_readCord_88 : decode mb_Setup_readCord 88 = .ok (.goto 4, 3) := by decide +kernel
theorem rd_Setup_readCord_91 : decode mb_Setup_readCord 91 = .ok (.iconst 0, 1) := by decide +kernel
theorem rd_Setup_readCord_92 : decode mb_Setup_readCord 92 = .ok (.istore 7, 2) := by decide +kernel
theorem rd_Setup_readCord_94 : decode mb_Setup_readCord 94 = .ok (.aload_n 0, 1) := by decide +kernel
theorem rd_Setup_readCord_95 : decode mb_Setup_readCord 95 = .ok (.invokevirtual 60, 3) := by decide +kernel
theorem rd_Setup_readCord_98 : decode mb_Setup_readCord 98 = .ok (.aload_n 0, 1) := by decide +kernel
theorem rd_Setup_readCord_99 : decode mb_Setup_readCord 99 = .ok (.invokevirtual 93, 3) := by decide +kernel
theorem rd_Setup_readCord_102 : decode mb_Setup_readCord 102 = .ok (.ifCond .ne 30, 3) := by decide +kernel
theorem rd_Setup_readCord_105 : decode mb_Setup_readCord 105 = .ok (.aload_n 2, 1) := by decide +kernel
theorem rd_Setup_readCord_106 : decode mb_Setup_readCord 106 = .ok (.iload 4, 2) := by decide +kernel
theorem rd_Setup_readCord_108 : decode mb_Setup_readCord 108 = .ok (.aload_n 2, 1) := by decide +kernel
theorem rd_Setup_readCord_109 : decode mb_Setup_readCord 109 = .ok (.getfield 63, 3) := by decide +kernel
theorem rd_Setup_readCord_112 : decode mb_Setup_readCord 112 = .ok (.iconst 1, 1) := by decide +kernel
theorem rd_Setup_readCord_113 : decode mb_Setup_readCord 113 = .ok (.isub, 1) := by decide +kernel
theorem rd_Setup_readCord_114 : decode mb_Setup_readCord 114 = .ok (.iload_n 3, 1) := by decide +kernel
theorem rd_Setup_readCord_115 : decode mb_Setup_readCord 115 = .ok (.iload 5, 2) := by decide +kernel
theorem rd_Setup_readCord_117 : decode mb_Setup_readCord 117 = .ok (.iload 6, 2) := by decide +kernel
theorem rd_Setup_readCord_119 : decode mb_Setup_readCord 119 = .ok (.invokevirtual 96, 3) := by decide +kernel
theorem rd_Setup_readCord_122 : decode mb_Setup_readCord 122 = .ok (.pop, 1) := by decide +kernel
theorem rd_Setup_readCord_123 : decode mb_Setup_readCord 123 = .ok (.aload_n 2, 1) := by decide +kernel
theorem rd_Setup_readCord_124 : decode mb_Setup_readCord 124 = .ok (.iload 4, 2) := by decide +kernel
theorem rd_Setup_readCord_126 : decode mb_Setup_readCord 126 = .ok (.iload 7, 2) := by decide +kernel
theorem rd_Setup_readCord_128 : decode mb_Setup_readCord 128 = .ok (.invokevirtual 100, 3) := by decide +kernel
theorem rd_Setup_readCord_131 : decode mb_Setup_readCord 131 = .ok (.pop, 1) := by decide +kernel
theorem rd_Setup_readCord_132 : decode mb_Setup_readCord 132 = .ok (.return_, 1) := by decide +kernel
theorem rd_Setup_readTopic_0 : decode mb_Setup_readTopic 0 = .ok (.aload_n 1, 1) := by decide +kernel
theorem rd_Setup_readTopic_1 : decode mb_Setup_readTopic 1 = .ok (.getfield 48, 3) := by decide +kernel
theorem rd_Setup_readTopic_4 : decode mb_Setup_readTopic 4 = .ok (.bipush 8, 2) := by decide +kernel
theorem rd_Setup_readTopic_6 : decode mb_Setup_readTopic 6 = .ok (.if_icmp .lt 9, 3) := by decide +kernel
theorem rd_Setup_readTopic_9 : decode mb_Setup_readTopic 9 = .ok (.aload_n 0, 1) := by decide +kernel
theorem rd_Setup_readTopic_10 : decode mb_Setup_readTopic 10 = .ok (.bipush 6, 2) := by decide +kernel
theorem rd_Setup_readTopic_12 : decode mb_Setup_readTopic 12 = .ok (.invokevirtual 52, 3) := by decide +kernel
theorem rd_Setup_readTopic_15 : decode mb_Setup_readTopic 15 = .ok (.aload_n 0, 1) := by decide +kernel
theorem rd_Setup_readTopic_16 : decode mb_Setup_readTopic 16 = .ok (.aload_n 1, 1) := by decide +kernel
theorem rd_Setup_readTopic_17 : decode mb_Setup_readTopic 17 = .ok (.invokevirtual 56, 3) := by decide +kernel
theorem rd_Setup_readTopic_20 : decode mb_Setup_readTopic 20 = .ok (.aload_n 0, 1) := by decide +kernel
theorem rd_Setup_readTopic_21 : decode mb_Setup_readTopic 21 = .ok (.invokevirtual 60, 3) := by decide +kernel
theorem rd_Setup_readTopic_24 : decode mb_Setup_readTopic 24 = .ok (.return_, 1) := by decide +kernel
theorem rd_Setup_parse_0 : decode mb_Setup_parse 0 = .ok (.aload_n 0, 1) := by decide +kernel
theorem rd_Setup_parse_1 : decode mb_Setup_parse 1 = .ok (.invokevirtual 9, 3) := by decide +kernel
theorem rd_Setup_parse_4 : decode mb_Setup_parse 4 = .ok (.aload_n 1, 1) := by decide +kernel
theorem rd_Setup_parse_5 : decode mb_Setup_parse 5 = .ok (.invokevirtual 14, 3) := by decide +kernel
theorem rd_Setup_parse_8 : decode mb_Setup_parse 8 = .ok (.aload_n 2, 1) := by decide +kernel
theorem rd_Setup_parse_9 : decode mb_Setup_parse 9 = .ok (.invokevirtual 19, 3) := by decide +kernel
theorem rd_Setup_parse_12 : decode mb_Setup_parse 12 = .ok (.iconst 0, 1) := by decide +kernel
theorem rd_Setup_parse_13 : decode mb_Setup_parse 13 = .ok (.istore_n 3, 1) := by decide +kernel
theorem rd_Setup_parse_14 : decode mb_Setup_parse 14 = .ok (.iload_n 3, 1) := by decide +kernel
theorem rd_Setup_parse_15 : decode mb_Setup_parse 15 = .ok (.sipush 700, 3) := by decide +kernel
theorem rd_Setup_parse_18 : decode mb_Setup_parse 18 = .ok (.if_icmp .gt 56, 3) := by decide +kernel
theorem rd_Setup_parse_21 : decode mb_Setup_parse 21 = .ok (.aload_n 0, 1) := by decide +kernel
theorem rd_Setup_parse_22 : decode mb_Setup_parse 22 = .ok (.invokevirtual 22, 3) := by decide +kernel
theorem rd_Setup_parse_25 : decode mb_Setup_parse 25 = .ok (.ifCond .eq 49, 3) := by decide +kernel
theorem rd_Setup_parse_28 : decode mb_Setup_parse 28 = .ok (.aload_n 0, 1) := by decide +kernel
theorem rd_Setup_parse_29 : decode mb_Setup_parse 29 = .ok (.ldc 26, 2) := by decide +kernel
theorem rd_Setup_parse_31 : decode mb_Setup_parse 31 = .ok (.invokevirtual 28, 3) := by decide +kernel
theorem rd_Setup_parse_34 : decode mb_Setup_parse 34 = .ok (.ifCond .eq 11, 3) := by decide +kernel
theorem rd_Setup_parse_37 : decode mb_Setup_parse 37 = .ok (.aload_n 0, 1) := by decide +kernel
theorem rd_Setup_parse_38 : decode mb_Setup_parse 38 = .ok (.aload_n 1, 1) := by decide +kernel
theorem rd_Setup_parse_39 : decode mb_Setup_parse 39 = .ok (.invokestatic 32, 3) := by decide +kernel
theorem rd_Setup_parse_42 : decode mb_Setup_parse 42 = .ok (.goto 26, 3) := by decide +kernel
theorem rd_Setup_parse_45 : decode mb_Setup_parse 45 = .ok (.aload_n 0, 1) := by decide +kernel
theorem rd_Setup_parse_46 : decode mb_Setup_parse 46 = .ok (.ldc 38, 2) := by decide +kernel
theorem rd_Setup_parse_48 : decode mb_Setup_parse 48 = .ok (.invokevirtual 28, 3) := by decide +kernel
theorem rd_Setup_parse_51 : decode mb_Setup_parse 51 = .ok (.ifCond .eq 11, 3) := by decide +kernel
theorem rd_Setup_parse_54 : decode mb_Setup_parse 54 = .ok (.aload_n 0, 1) := by decide +kernel
theorem rd_Setup_parse_55 : decode mb_Setup_parse 55 = .ok (.aload_n 2, 1) := by decide +kernel
theorem rd_Setup_parse_56 : decode mb_Setup_parse 56 = .ok (.invokestatic 40, 3) := by decide +kernel
theorem rd_Setup_parse_59 : decode mb_Setup_parse 59 = .ok (.goto 9, 3) := by decide +kernel
theorem rd_Setup_parse_62 : decode mb_Setup_parse 62 = .ok (.aload_n 0, 1) := by decide +kernel
theorem rd_Setup_parse_63 : decode mb_Setup_parse 63 = .ok (.aload_n 1, 1) := by decide +kernel
theorem rd_Setup_parse_64 : decode mb_Setup_parse 64 = .ok (.aload_n 2, 1) := by decide +kernel
theorem rd_Setup_parse_65 : decode mb_Setup_parse 65 = .ok (.invokestatic 44, 3) := by decide +kernel
theorem rd_Setup_parse_68 : decode mb_Setup_parse 68 = .ok (.iinc 3 1, 3) := by decide +kernel
theorem rd_Setup_parse_71 : decode mb_Setup_parse 71 = .ok (.goto (-57), 3) := by decide +kernel
theorem rd_Setup_parse_74 : decode mb_Setup_parse 74 = .ok (.aload_n 1, 1) := by decide +kernel
theorem rd_Setup_parse_75 : decode mb_Setup_parse 75 = .ok (.getfield 48, 3) := by decide +kernel
theorem rd_Setup_parse_78 : decode mb_Setup_parse 78 = .ok (.ifCond .ne 9, 3) := by decide +kernel
theorem rd_Setup_parse_81 : decode mb_Setup_parse 81 = .ok (.aload_n 0, 1) := by decide +kernel
theorem rd_Setup_parse_82 : decode mb_Setup_parse 82 = .ok (.bipush 7, 2) := by decide +kernel
theorem rd_Setup_parse_84 : decode mb_Setup_parse 84 = .ok (.invokevirtual 52, 3) := by decide +kernel
theorem rd_Setup_parse_87 : decode mb_Setup_parse 87 = .ok (.return_, 1) := by decide +kernel
def wd_Check_standsWell (cI : ClassId) (a_a a_a_starts a_a_depth a_a_topic a_a_value a_a_nibbled a_a_starts_k a_a_depth_k : Nat) (i_a_clusters : Int) (i_a_size : Int) (i_a_starts : (Int → Int)) (i_a_depth : (Int → Int)) : va_W := [(a_a, .inr (5, [jk_V i_a_clusters, jk_V i_a_size, .ref a_a_starts, .ref a_a_depth, .ref a_a_topic, .ref a_a_value, .ref a_a_nibbled])), (a_a_starts, .inr (0, [.ref a_a_starts_k])), (a_a_starts_k, jk_W cI 7 i_a_starts), (a_a_depth, .inr (0, [.ref a_a_depth_k])), (a_a_depth_k, jk_W cI 40 i_a_depth)]
set_option maxHeartbeats 4000000 in
set_option maxRecDepth 20000 in
theorem ct_Check_standsWell (l : Launch) (D : va_G) (Z : (Nat → Prop) → State → Heap → Prop) (sq : Nat → Nat) (hZ : jk_ZK Z sq) (cI cR : ClassId) (a_a a_a_starts a_a_depth a_a_topic a_a_value a_a_nibbled a_a_starts_k a_a_depth_k : Nat) (i_a_clusters : Int) (i_a_size : Int) (i_a_starts : (Int → Int)) (i_a_depth : (Int → Int)) (x1 : Int) (q : Int) (hf : fn_Check_standsWell i_a_clusters i_a_starts i_a_depth x1 = some q) : jk_MI l D jk_cl (jk_ty cI cR) Z mn_Check_standsWell (.code mn_Check_standsWell mb_Check_standsWell 4 (some .boolean) :: jk_WA) (jk_rm 2 44) [.ref a_a, jk_V x1] (wd_Check_standsWell cI a_a a_a_starts a_a_depth a_a_topic a_a_value a_a_nibbled a_a_starts_k a_a_depth_k i_a_clusters i_a_size i_a_starts i_a_depth) (wd_Check_standsWell cI a_a a_a_starts a_a_depth a_a_topic a_a_value a_a_nibbled a_a_starts_k a_a_depth_k i_a_clusters i_a_size i_a_starts i_a_depth) q := by
  intro sz
  refine jk_body (by decide +kernel) (fun p e s m args below meth c hsz hz hin C => ?_) (Nat.le_of_ble_eq_true rfl)
  subst hsz
  unfold fn_Check_standsWell at hf
  refine jk_aload_n C rd_Check_standsWell_0 (k := 0) rfl ?_
  refine jk_iload_n C rd_Check_standsWell_1 (k := 1) rfl ?_
  obtain ⟨q2, hq2, hf⟩ := jk_bind_h hf
  refine jk_callVi C hZ.1 hz (ct_Cords_clusterAt l D Z sq hZ cI cR a_a a_a_starts a_a_depth a_a_topic a_a_value a_a_nibbled a_a_starts_k i_a_clusters i_a_size i_a_starts x1 q2 hq2) tm_746 tm_642 tm_643 tm_6 tm_644 na_Cords_clusterAt ⟨Nat.le_of_ble_eq_true rfl, Nat.le_of_ble_eq_true rfl⟩ rfl [0, 1, 2] rfl rfl rfl (ws' := wd_Check_standsWell cI a_a a_a_starts a_a_depth a_a_topic a_a_value a_a_nibbled a_a_starts_k a_a_depth_k i_a_clusters i_a_size i_a_starts i_a_depth) rfl 0 5 rfl rfl rfl (st := []) rfl (Nat.le_of_ble_eq_true rfl) rd_Check_standsWell_2 ?_ ⟨Nat.le_refl _, Nat.le_refl _⟩
  refine jk_istore_n C rd_Check_standsWell_5 (by decide) (lv' := [(2, jk_V q2), (0, .ref a_a), (1, jk_V x1)]) rfl ?_
  refine jk_iload_n C rd_Check_standsWell_6 (k := 2) rfl ?_
  refine jk_aload_n C rd_Check_standsWell_7 (k := 1) rfl ?_
  refine jk_iload_n C rd_Check_standsWell_8 (k := 0) rfl ?_
  obtain ⟨q9, hq9, hf⟩ := jk_bind_h hf
  refine jk_callVi C hZ.1 hz (ct_Cords_start l D Z sq hZ cI cR a_a a_a_starts a_a_depth a_a_topic a_a_value a_a_nibbled a_a_starts_k i_a_clusters i_a_size i_a_starts q2 q9 hq9) tm_742 tm_365 tm_366 tm_6 tm_367 na_Cords_start ⟨Nat.le_of_ble_eq_true rfl, Nat.le_of_ble_eq_true rfl⟩ rfl [0, 1, 2] rfl rfl rfl (ws' := wd_Check_standsWell cI a_a a_a_starts a_a_depth a_a_topic a_a_value a_a_nibbled a_a_starts_k a_a_depth_k i_a_clusters i_a_size i_a_starts i_a_depth) rfl 0 5 rfl rfl rfl (st := [jk_V x1]) rfl (Nat.le_of_ble_eq_true rfl) rd_Check_standsWell_9 ?_ ⟨Nat.le_refl _, Nat.le_refl _⟩
  refine jk_icmp_lt (tgt := 24) C rd_Check_standsWell_12 (by decide) hf (fun _ hf => ?_) (fun _ hf => ?_)
  · refine jk_iconst C rd_Check_standsWell_24 ?_
    cases hf
    exact jk_zret C (Or.inl rfl) rfl rd_Check_standsWell_25 rfl
  · refine jk_iload_n C rd_Check_standsWell_15 (k := 2) rfl ?_
    refine jk_aload_n C rd_Check_standsWell_16 (k := 1) rfl ?_
    refine jk_iload_n C rd_Check_standsWell_17 (k := 0) rfl ?_
    obtain ⟨q18, hq18, hf⟩ := jk_bind_h hf
    refine jk_callVi C hZ.1 hz (ct_Cords_end l D Z sq hZ cI cR a_a a_a_starts a_a_depth a_a_topic a_a_value a_a_nibbled a_a_starts_k i_a_clusters i_a_size i_a_starts q2 q18 hq18) tm_741 tm_584 tm_585 tm_6 tm_586 na_Cords_end ⟨Nat.le_of_ble_eq_true rfl, Nat.le_of_ble_eq_true rfl⟩ rfl [0, 1, 2] rfl rfl rfl (ws' := wd_Check_standsWell cI a_a a_a_starts a_a_depth a_a_topic a_a_value a_a_nibbled a_a_starts_k a_a_depth_k i_a_clusters i_a_size i_a_starts i_a_depth) rfl 0 5 rfl rfl rfl (st := [jk_V x1]) rfl (Nat.le_of_ble_eq_true rfl) rd_Check_standsWell_18 ?_ ⟨Nat.le_refl _, Nat.le_refl _⟩
    refine jk_icmp_lt (tgt := 26) C rd_Check_standsWell_21 (by decide) hf (fun _ hf => ?_) (fun _ hf => ?_)
    · refine jk_aload_n C rd_Check_standsWell_26 (k := 1) rfl ?_
      refine jk_getN C in_Cords (ci := 5) rfl 3 (by decide) (jk_nw hZ hz tn_17) 0 rfl rfl rd_Check_standsWell_27 ?_
      refine jk_iload_n C rd_Check_standsWell_30 (k := 2) rfl ?_
      obtain ⟨q31, hq31, hf⟩ := jk_bind_h hf
      refine jk_callVi C hZ.1 hz (ct_Row_get l D Z sq hZ cI cR (n_t := 40) (Nat.le_of_ble_eq_true rfl) a_a_depth a_a_depth_k i_a_depth x1 q31 hq31) tm_747 tm_292 tm_293 tm_3 tm_294 na_Row_get ⟨Nat.le_of_ble_eq_true rfl, Nat.le_of_ble_eq_true rfl⟩ rfl [3, 4] rfl rfl rfl (ws' := wd_Check_standsWell cI a_a a_a_starts a_a_depth a_a_topic a_a_value a_a_nibbled a_a_starts_k a_a_depth_k i_a_clusters i_a_size i_a_starts i_a_depth) rfl 3 0 rfl rfl rfl (st := []) rfl (Nat.le_of_ble_eq_true rfl) rd_Check_standsWell_31 ?_ ⟨Nat.le_refl _, Nat.le_refl _⟩
      refine jk_istore_n C rd_Check_standsWell_34 (by decide) (lv' := [(3, jk_V q31), (2, jk_V q2), (0, .ref a_a), (1, jk_V x1)]) rfl ?_
      refine jk_iload_n C rd_Check_standsWell_35 (k := 3) rfl ?_
      refine jk_aload_n C rd_Check_standsWell_36 (k := 2) rfl ?_
      refine jk_iload_n C rd_Check_standsWell_37 (k := 1) rfl ?_
      obtain ⟨q38, hq38, hf⟩ := jk_bind_h hf
      refine jk_callVi C hZ.1 hz (ct_Cords_start l D Z sq hZ cI cR a_a a_a_starts a_a_depth a_a_topic a_a_value a_a_nibbled a_a_starts_k i_a_clusters i_a_size i_a_starts q2 q38 hq38) tm_742 tm_365 tm_366 tm_6 tm_367 na_Cords_start ⟨Nat.le_of_ble_eq_true rfl, Nat.le_of_ble_eq_true rfl⟩ rfl [0, 1, 2] rfl rfl rfl (ws' := wd_Check_standsWell cI a_a a_a_starts a_a_depth a_a_topic a_a_value a_a_nibbled a_a_starts_k a_a_depth_k i_a_clusters i_a_size i_a_starts i_a_depth) rfl 0 5 rfl rfl rfl (st := [jk_V x1]) rfl (Nat.le_of_ble_eq_true rfl) rd_Check_standsWell_38 ?_ ⟨Nat.le_refl _, Nat.le_refl _⟩
      refine jk_icmp_ne (tgt := 59) C rd_Check_standsWell_41 (by decide) hf (fun _ hf => ?_) (fun _ hf => ?_)
      · refine jk_iload_n C rd_Check_standsWell_59 (k := 0) rfl ?_
        refine jk_iconst C rd_Check_standsWell_60 ?_
        refine jk_icmp_lt (tgt := 89) C rd_Check_standsWell_61 (by decide) hf (fun _ hf => ?_) (fun _ hf => ?_)
        · refine jk_iconst C rd_Check_standsWell_89 ?_
          cases hf
          exact jk_zret C (Or.inl rfl) rfl rd_Check_standsWell_90 rfl
        · refine jk_iload_n C rd_Check_standsWell_64 (k := 0) rfl ?_
          refine jk_iconst C rd_Check_standsWell_65 ?_
          refine jk_icmp_gt (tgt := 89) C rd_Check_standsWell_66 (by decide) hf (fun _ hf => ?_) (fun _ hf => ?_)
          · refine jk_iconst C rd_Check_standsWell_89 ?_
            cases hf
            exact jk_zret C (Or.inl rfl) rfl rd_Check_standsWell_90 rfl
          · refine jk_iload_n C rd_Check_standsWell_69 (k := 0) rfl ?_
            refine jk_aload_n C rd_Check_standsWell_70 (k := 2) rfl ?_
            refine jk_getN C in_Cords (ci := 5) rfl 3 (by decide) (jk_nw hZ hz tn_17) 0 rfl rfl rd_Check_standsWell_71 ?_
            refine jk_iload_n C rd_Check_standsWell_74 (k := 3) rfl ?_
            refine jk_iconst C rd_Check_standsWell_75 ?_
            refine jk_isub C rd_Check_standsWell_76 ?_
            obtain ⟨q77, hq77, hf⟩ := jk_bind_h hf
            refine jk_callVi C hZ.1 hz (ct_Row_get l D Z sq hZ cI cR (n_t := 40) (Nat.le_of_ble_eq_true rfl) a_a_depth a_a_depth_k i_a_depth (x1 - 1) q77 hq77) tm_747 tm_292 tm_293 tm_3 tm_294 na_Row_get ⟨Nat.le_of_ble_eq_true rfl, Nat.le_of_ble_eq_true rfl⟩ rfl [3, 4] rfl rfl rfl (ws' := wd_Check_standsWell cI a_a a_a_starts a_a_depth a_a_topic a_a_value a_a_nibbled a_a_starts_k a_a_depth_k i_a_clusters i_a_size i_a_starts i_a_depth) rfl 3 0 rfl rfl rfl (st := [jk_V q31]) rfl (Nat.le_of_ble_eq_true rfl) rd_Check_standsWell_77 ?_ ⟨Nat.le_refl _, Nat.le_refl _⟩
            refine jk_iconst C rd_Check_standsWell_80 ?_
            refine jk_iadd C rd_Check_standsWell_81 ?_
            refine jk_icmp_gt (tgt := 89) C rd_Check_standsWell_82 (by decide) hf (fun _ hf => ?_) (fun _ hf => ?_)
            · refine jk_iconst C rd_Check_standsWell_89 ?_
              cases hf
              exact jk_zret C (Or.inl rfl) rfl rd_Check_standsWell_90 rfl
            · refine jk_iconst C rd_Check_standsWell_85 ?_
              refine jk_goto (tgt := 90) C rd_Check_standsWell_86 (by decide) ?_
              cases hf
              exact jk_zret C (Or.inr rfl) rfl rd_Check_standsWell_90 rfl
      · refine jk_iload_n C rd_Check_standsWell_44 (k := 0) rfl ?_
        refine jk_if_eq (tgt := 53) C rd_Check_standsWell_45 (by decide) hf (fun _ hf => ?_) (fun _ hf => ?_)
        · refine jk_iconst C rd_Check_standsWell_53 ?_
          refine jk_goto (tgt := 58) C rd_Check_standsWell_54 (by decide) ?_
          cases hf
          exact jk_zret C (Or.inr rfl) rfl rd_Check_standsWell_58 rfl
        · refine jk_iload_n C rd_Check_standsWell_48 (k := 0) rfl ?_
          refine jk_iconst C rd_Check_standsWell_49 ?_
          refine jk_icmp_ne (tgt := 57) C rd_Check_standsWell_50 (by decide) hf (fun _ hf => ?_) (fun _ hf => ?_)
          · refine jk_iconst C rd_Check_standsWell_57 ?_
            cases hf
            exact jk_zret C (Or.inl rfl) rfl rd_Check_standsWell_58 rfl
          · refine jk_iconst C rd_Check_standsWell_53 ?_
            refine jk_goto (tgt := 58) C rd_Check_standsWell_54 (by decide) ?_
            cases hf
            exact jk_zret C (Or.inr rfl) rfl rd_Check_standsWell_58 rfl
    · refine jk_iconst C rd_Check_standsWell_24 ?_
      cases hf
      exact jk_zret C (Or.inl rfl) rfl rd_Check_standsWell_25 rfl
def wd_Check_order (cI : ClassId) (a_a a_a_starts a_a_depth a_a_topic a_a_value a_a_nibbled a_a_starts_k a_a_depth_k : Nat) (i_a_clusters : Int) (i_a_size : Int) (i_a_starts : (Int → Int)) (i_a_depth : (Int → Int)) : va_W := [(a_a, .inr (5, [jk_V i_a_clusters, jk_V i_a_size, .ref a_a_starts, .ref a_a_depth, .ref a_a_topic, .ref a_a_value, .ref a_a_nibbled])), (a_a_starts, .inr (0, [.ref a_a_starts_k])), (a_a_starts_k, jk_W cI 7 i_a_starts), (a_a_depth, .inr (0, [.ref a_a_depth_k])), (a_a_depth_k, jk_W cI 40 i_a_depth)]
set_option maxHeartbeats 4000000 in
set_option maxRecDepth 20000 in
theorem ct_Check_order (l : Launch) (D : va_G) (Z : (Nat → Prop) → State → Heap → Prop) (sq : Nat → Nat) (hZ : jk_ZK Z sq) (cI cR : ClassId) (a_a a_a_starts a_a_depth a_a_topic a_a_value a_a_nibbled a_a_starts_k a_a_depth_k : Nat) (i_a_clusters : Int) (i_a_size : Int) (i_a_starts : (Int → Int)) (i_a_depth : (Int → Int)) (q : Int) (hf : fn_Check_order i_a_clusters i_a_size i_a_starts i_a_depth = some q) : jk_MI l D jk_cl (jk_ty cI cR) Z mn_Check_order (.code mn_Check_order mb_Check_order 3 (some .boolean) :: jk_WA) (jk_rm 3 67) [.ref a_a] (wd_Check_order cI a_a a_a_starts a_a_depth a_a_topic a_a_value a_a_nibbled a_a_starts_k a_a_depth_k i_a_clusters i_a_size i_a_starts i_a_depth) (wd_Check_order cI a_a a_a_starts a_a_depth a_a_topic a_a_value a_a_nibbled a_a_starts_k a_a_depth_k i_a_clusters i_a_size i_a_starts i_a_depth) q := by
  intro sz
  refine jk_body (by decide +kernel) (fun p e s m args below meth c hsz hz hin C => ?_) (Nat.le_of_ble_eq_true rfl)
  subst hsz
  unfold fn_Check_order at hf
  have bk_34 : ∀ (n : Nat) (v1 : Int) (v2 : Int), fn_Check_order_b34 n i_a_clusters i_a_size i_a_starts i_a_depth v1 v2 = some q → jk_J p l e (jk_rm 3 67) s m args below meth c 0 0 (jk_QI below D jk_cl (jk_ty cI cR) (wd_Check_order cI a_a a_a_starts a_a_depth a_a_topic a_a_value a_a_nibbled a_a_starts_k a_a_depth_k i_a_clusters i_a_size i_a_starts i_a_depth) (wd_Check_order cI a_a a_a_starts a_a_depth a_a_topic a_a_value a_a_nibbled a_a_starts_k a_a_depth_k i_a_clusters i_a_size i_a_starts i_a_depth) args s q) D jk_cl (va_A (wd_Check_order cI a_a a_a_starts a_a_depth a_a_topic a_a_value a_a_nibbled a_a_starts_k a_a_depth_k i_a_clusters i_a_size i_a_starts i_a_depth) s.heap.size) 3 (wd_Check_order cI a_a a_a_starts a_a_depth a_a_topic a_a_value a_a_nibbled a_a_starts_k a_a_depth_k i_a_clusters i_a_size i_a_starts i_a_depth) [(0, .ref a_a), (1, jk_V v1), (2, jk_V v2)] 34 [] := by
    intro n
    induction n with
    | zero => intro v1 v2 hf; exact nomatch (show none = some q from hf)
    | succ n ih =>
      intro v1 v2 hf
      rw [fn_Check_order_b34] at hf
      refine jk_iload_n C rd_Check_order_34 (k := 2) rfl ?_
      refine jk_aload_n C rd_Check_order_35 (k := 0) rfl ?_
      refine jk_getN C in_Cords (ci := 5) rfl 1 (by decide) (jk_nw hZ hz tn_14) 0 rfl rfl rd_Check_order_36 ?_
      refine jk_icmp_ge (tgt := 58) C rd_Check_order_39 (by decide) hf (fun _ hf => ?_) (fun _ hf => ?_)
      · refine jk_iload_n C rd_Check_order_58 (k := 1) rfl ?_
        refine jk_aload_n C rd_Check_order_59 (k := 0) rfl ?_
        refine jk_getN C in_Cords (ci := 5) rfl 1 (by decide) (jk_nw hZ hz tn_14) 0 rfl rfl rd_Check_order_60 ?_
        refine jk_icmp_ne (tgt := 70) C rd_Check_order_63 (by decide) hf (fun _ hf => ?_) (fun _ hf => ?_)
        · refine jk_iconst C rd_Check_order_70 ?_
          cases hf
          exact jk_zret C (Or.inl rfl) rfl rd_Check_order_71 rfl
        · refine jk_iconst C rd_Check_order_66 ?_
          refine jk_goto (tgt := 71) C rd_Check_order_67 (by decide) ?_
          cases hf
          exact jk_zret C (Or.inr rfl) rfl rd_Check_order_71 rfl
      · refine jk_aload_n C rd_Check_order_42 (k := 0) rfl ?_
        refine jk_iload_n C rd_Check_order_43 (k := 2) rfl ?_
        obtain ⟨q44, hq44, hf⟩ := jk_bind_h hf
        refine jk_callSi C hZ.1 hz (ct_Check_standsWell l D Z sq hZ cI cR a_a a_a_starts a_a_depth a_a_topic a_a_value a_a_nibbled a_a_starts_k a_a_depth_k i_a_clusters i_a_size i_a_starts i_a_depth v2 q44 hq44) tm_743 tm_744 tm_22 tm_745 na_Check_standsWell ⟨Nat.le_of_ble_eq_true rfl, Nat.le_of_ble_eq_true rfl⟩ rfl [0, 1, 2, 3, 4] rfl rfl rfl (ws' := wd_Check_order cI a_a a_a_starts a_a_depth a_a_topic a_a_value a_a_nibbled a_a_starts_k a_a_depth_k i_a_clusters i_a_size i_a_starts i_a_depth) rfl (st := []) rfl (Nat.le_of_ble_eq_true rfl) rd_Check_order_44 ?_ ⟨Nat.le_refl _, Nat.le_refl _⟩
        refine jk_if_ne (tgt := 52) C rd_Check_order_47 (by decide) hf (fun _ hf => ?_) (fun _ hf => ?_)
        · refine jk_iinc C rd_Check_order_52 (k := 2) rfl (by decide) (lv' := [(2, jk_V (v2 + 1)), (0, .ref a_a), (1, jk_V v1)]) rfl ?_
          refine jk_goto (tgt := 34) C rd_Check_order_55 (by decide) ?_
          refine jk_lv (lv' := [(0, .ref a_a), (1, jk_V v1), (2, jk_V (v2 + 1))]) [1, 2, 0] rfl ?_
          exact ih v1 (v2 + 1) hf
        · refine jk_iconst C rd_Check_order_50 ?_
          cases hf
          exact jk_zret C (Or.inl rfl) rfl rd_Check_order_51 rfl
  have bk_4 : ∀ (n : Nat) (v1 : Int) (v2 : Int), fn_Check_order_b4 n i_a_clusters i_a_size i_a_starts i_a_depth v1 v2 = some q → jk_J p l e (jk_rm 3 67) s m args below meth c 0 0 (jk_QI below D jk_cl (jk_ty cI cR) (wd_Check_order cI a_a a_a_starts a_a_depth a_a_topic a_a_value a_a_nibbled a_a_starts_k a_a_depth_k i_a_clusters i_a_size i_a_starts i_a_depth) (wd_Check_order cI a_a a_a_starts a_a_depth a_a_topic a_a_value a_a_nibbled a_a_starts_k a_a_depth_k i_a_clusters i_a_size i_a_starts i_a_depth) args s q) D jk_cl (va_A (wd_Check_order cI a_a a_a_starts a_a_depth a_a_topic a_a_value a_a_nibbled a_a_starts_k a_a_depth_k i_a_clusters i_a_size i_a_starts i_a_depth) s.heap.size) 3 (wd_Check_order cI a_a a_a_starts a_a_depth a_a_topic a_a_value a_a_nibbled a_a_starts_k a_a_depth_k i_a_clusters i_a_size i_a_starts i_a_depth) [(0, .ref a_a), (1, jk_V v1), (2, jk_V v2)] 4 [] := by
    intro n
    induction n with
    | zero => intro v1 v2 hf; exact nomatch (show none = some q from hf)
    | succ n ih =>
      intro v1 v2 hf
      rw [fn_Check_order_b4] at hf
      refine jk_iload_n C rd_Check_order_4 (k := 2) rfl ?_
      refine jk_aload_n C rd_Check_order_5 (k := 0) rfl ?_
      refine jk_getN C in_Cords (ci := 5) rfl 0 (by decide) (jk_nw hZ hz tn_11) 0 rfl rfl rd_Check_order_6 ?_
      refine jk_icmp_ge (tgt := 32) C rd_Check_order_9 (by decide) hf (fun _ hf => ?_) (fun _ hf => ?_)
      · refine jk_iconst C rd_Check_order_32 ?_
        refine jk_istore_n C rd_Check_order_33 (by decide) (lv' := [(2, jk_V 0), (0, .ref a_a), (1, jk_V v1)]) rfl ?_
        refine jk_lv (lv' := [(0, .ref a_a), (1, jk_V v1), (2, jk_V 0)]) [1, 2, 0] rfl ?_
        exact bk_34 jk_F v1 0 hf
      · refine jk_iload_n C rd_Check_order_12 (k := 1) rfl ?_
        refine jk_aload_n C rd_Check_order_13 (k := 0) rfl ?_
        refine jk_iload_n C rd_Check_order_14 (k := 2) rfl ?_
        obtain ⟨q15, hq15, hf⟩ := jk_bind_h hf
        refine jk_callVi C hZ.1 hz (ct_Cords_end l D Z sq hZ cI cR a_a a_a_starts a_a_depth a_a_topic a_a_value a_a_nibbled a_a_starts_k i_a_clusters i_a_size i_a_starts v2 q15 hq15) tm_741 tm_584 tm_585 tm_6 tm_586 na_Cords_end ⟨Nat.le_of_ble_eq_true rfl, Nat.le_of_ble_eq_true rfl⟩ rfl [0, 1, 2] rfl rfl rfl (ws' := wd_Check_order cI a_a a_a_starts a_a_depth a_a_topic a_a_value a_a_nibbled a_a_starts_k a_a_depth_k i_a_clusters i_a_size i_a_starts i_a_depth) rfl 0 5 rfl rfl rfl (st := [jk_V v1]) rfl (Nat.le_of_ble_eq_true rfl) rd_Check_order_15 ?_ ⟨Nat.le_refl _, Nat.le_refl _⟩
        refine jk_aload_n C rd_Check_order_18 (k := 0) rfl ?_
        refine jk_iload_n C rd_Check_order_19 (k := 2) rfl ?_
        obtain ⟨q20, hq20, hf⟩ := jk_bind_h hf
        refine jk_callVi C hZ.1 hz (ct_Cords_start l D Z sq hZ cI cR a_a a_a_starts a_a_depth a_a_topic a_a_value a_a_nibbled a_a_starts_k i_a_clusters i_a_size i_a_starts v2 q20 hq20) tm_742 tm_365 tm_366 tm_6 tm_367 na_Cords_start ⟨Nat.le_of_ble_eq_true rfl, Nat.le_of_ble_eq_true rfl⟩ rfl [0, 1, 2] rfl rfl rfl (ws' := wd_Check_order cI a_a a_a_starts a_a_depth a_a_topic a_a_value a_a_nibbled a_a_starts_k a_a_depth_k i_a_clusters i_a_size i_a_starts i_a_depth) rfl 0 5 rfl rfl rfl (st := [jk_V q15, jk_V v1]) rfl (Nat.le_of_ble_eq_true rfl) rd_Check_order_20 ?_ ⟨Nat.le_refl _, Nat.le_refl _⟩
        refine jk_isub C rd_Check_order_23 ?_
        refine jk_iadd C rd_Check_order_24 ?_
        refine jk_istore_n C rd_Check_order_25 (by decide) (lv' := [(1, jk_V (v1 + (q15 - q20))), (0, .ref a_a), (2, jk_V v2)]) rfl ?_
        refine jk_iinc C rd_Check_order_26 (k := 2) rfl (by decide) (lv' := [(2, jk_V (v2 + 1)), (1, jk_V (v1 + (q15 - q20))), (0, .ref a_a)]) rfl ?_
        refine jk_goto (tgt := 4) C rd_Check_order_29 (by decide) ?_
        refine jk_lv (lv' := [(0, .ref a_a), (1, jk_V (v1 + (q15 - q20))), (2, jk_V (v2 + 1))]) [2, 1, 0] rfl ?_
        exact ih (v1 + (q15 - q20)) (v2 + 1) hf
  refine jk_iconst C rd_Check_order_0 ?_
  refine jk_istore_n C rd_Check_order_1 (by decide) (lv' := [(1, jk_V 0), (0, .ref a_a)]) rfl ?_
  refine jk_iconst C rd_Check_order_2 ?_
  refine jk_istore_n C rd_Check_order_3 (by decide) (lv' := [(2, jk_V 0), (1, jk_V 0), (0, .ref a_a)]) rfl ?_
  refine jk_lv (lv' := [(0, .ref a_a), (1, jk_V 0), (2, jk_V 0)]) [2, 1, 0] rfl ?_
  exact bk_4 jk_F 0 0 hf
def wd_Check_totalByRecursion (cI : ClassId) (a_a a_a_starts a_a_depth a_a_topic a_a_value a_a_nibbled a_a_depth_k a_a_value_k : Nat) (i_a_clusters : Int) (i_a_size : Int) (i_a_depth : (Int → Int)) (i_a_value : (Int → Int)) : va_W := [(a_a, .inr (5, [jk_V i_a_clusters, jk_V i_a_size, .ref a_a_starts, .ref a_a_depth, .ref a_a_topic, .ref a_a_value, .ref a_a_nibbled])), (a_a_depth, .inr (0, [.ref a_a_depth_k])), (a_a_depth_k, jk_W cI 40 i_a_depth), (a_a_value, .inr (0, [.ref a_a_value_k])), (a_a_value_k, jk_W cI 40 i_a_value)]
set_option maxHeartbeats 4000000 in
set_option maxRecDepth 20000 in
theorem ct_Check_totalByRecursion (l : Launch) (D : va_G) (Z : (Nat → Prop) → State → Heap → Prop) (sq : Nat → Nat) (hZ : jk_ZK Z sq) (cI cR : ClassId) (a_a a_a_starts a_a_depth a_a_topic a_a_value a_a_nibbled a_a_depth_k a_a_value_k : Nat) : ∀ (d : Nat) (i_a_clusters : Int) (i_a_size : Int) (i_a_depth : (Int → Int)) (i_a_value : (Int → Int)) (x1 : Int) (x2 : Int) (q : Int), fn_Check_totalByRecursion d i_a_size i_a_depth i_a_value x1 x2 = some q → jk_MI l D jk_cl (jk_ty cI cR) Z mn_Check_totalByRecursion (.code mn_Check_totalByRecursion mb_Check_totalByRecursion 6 (some .int) :: jk_WA) (jk_rm (2 + d) (43 + d * 25)) [.ref a_a, jk_V x1, jk_V x2] (wd_Check_totalByRecursion cI a_a a_a_starts a_a_depth a_a_topic a_a_value a_a_nibbled a_a_depth_k a_a_value_k i_a_clusters i_a_size i_a_depth i_a_value) (wd_Check_totalByRecursion cI a_a a_a_starts a_a_depth a_a_topic a_a_value a_a_nibbled a_a_depth_k a_a_value_k i_a_clusters i_a_size i_a_depth i_a_value) q := by
  intro d
  induction d with
  | zero => intro i_a_clusters i_a_size i_a_depth i_a_value x1 x2 q hf; exact nomatch (show none = some q from hf)
  | succ d ihd =>
  intro i_a_clusters i_a_size i_a_depth i_a_value x1 x2 q hf
  intro sz
  refine jk_body (by decide +kernel) (fun p e s m args below meth c hsz hz hin C => ?_) (Nat.le_of_ble_eq_true rfl)
  subst hsz
  rw [fn_Check_totalByRecursion] at hf
  have bk_28 : ∀ (n : Nat) (v2 : Int) (v3 : Int) (v4 : Int) (v5 : Int), fn_Check_totalByRecursion_b28 (fn_Check_totalByRecursion d) n i_a_size i_a_depth i_a_value v2 v3 v4 v5 = some q → jk_J p l e (jk_rm (2 + (d + 1)) (43 + (d + 1) * 25)) s m args below meth c 0 0 (jk_QI below D jk_cl (jk_ty cI cR) (wd_Check_totalByRecursion cI a_a a_a_starts a_a_depth a_a_topic a_a_value a_a_nibbled a_a_depth_k a_a_value_k i_a_clusters i_a_size i_a_depth i_a_value) (wd_Check_totalByRecursion cI a_a a_a_starts a_a_depth a_a_topic a_a_value a_a_nibbled a_a_depth_k a_a_value_k i_a_clusters i_a_size i_a_depth i_a_value) args s q) D jk_cl (va_A (wd_Check_totalByRecursion cI a_a a_a_starts a_a_depth a_a_topic a_a_value a_a_nibbled a_a_depth_k a_a_value_k i_a_clusters i_a_size i_a_depth i_a_value) s.heap.size) 6 (wd_Check_totalByRecursion cI a_a a_a_starts a_a_depth a_a_topic a_a_value a_a_nibbled a_a_depth_k a_a_value_k i_a_clusters i_a_size i_a_depth i_a_value) [(0, .ref a_a), (2, jk_V v2), (3, jk_V v3), (4, jk_V v4), (5, jk_V v5)] 28 [] := by
    intro n
    induction n with
    | zero => intro v2 v3 v4 v5 hf; exact nomatch (show none = some q from hf)
    | succ n ih =>
      intro v2 v3 v4 v5 hf
      rw [fn_Check_totalByRecursion_b28] at hf
      refine jk_iload C rd_Check_totalByRecursion_28 (k := 4) rfl ?_
      refine jk_iload C rd_Check_totalByRecursion_30 (k := 3) rfl ?_
      refine jk_icmp_ge (tgt := 68) C rd_Check_totalByRecursion_32 (by decide) hf (fun _ hf => ?_) (fun _ hf => ?_)
      · refine jk_iload_n C rd_Check_totalByRecursion_68 (k := 2) rfl ?_
        cases hf
        exact jk_iret C rfl rd_Check_totalByRecursion_69 rfl
      · refine jk_aload_n C rd_Check_totalByRecursion_35 (k := 0) rfl ?_
        refine jk_getN C in_Cords (ci := 5) rfl 3 (by decide) (jk_nw hZ hz tn_17) 0 rfl rfl rd_Check_totalByRecursion_36 ?_
        refine jk_iload C rd_Check_totalByRecursion_39 (k := 4) rfl ?_
        obtain ⟨q41, hq41, hf⟩ := jk_bind_h hf
        refine jk_callVi C hZ.1 hz (ct_Row_get l D Z sq hZ cI cR (n_t := 40) (Nat.le_of_ble_eq_true rfl) a_a_depth a_a_depth_k i_a_depth v5 q41 hq41) tm_747 tm_292 tm_293 tm_3 tm_294 na_Row_get ⟨by dsimp only [jk_rm]; omega, by dsimp only [jk_rm]; omega⟩ rfl [1, 2] rfl rfl rfl (ws' := wd_Check_totalByRecursion cI a_a a_a_starts a_a_depth a_a_topic a_a_value a_a_nibbled a_a_depth_k a_a_value_k i_a_clusters i_a_size i_a_depth i_a_value) rfl 1 0 rfl rfl rfl (st := []) rfl (Nat.le_of_ble_eq_true rfl) rd_Check_totalByRecursion_41 ?_ ⟨Nat.le_refl _, Nat.le_refl _⟩
        refine jk_iload_n C rd_Check_totalByRecursion_44 (k := 1) rfl ?_
        refine jk_iconst C rd_Check_totalByRecursion_45 ?_
        refine jk_iadd C rd_Check_totalByRecursion_46 ?_
        refine jk_icmp_ne (tgt := 62) C rd_Check_totalByRecursion_47 (by decide) hf (fun _ hf => ?_) (fun _ hf => ?_)
        · refine jk_iinc C rd_Check_totalByRecursion_62 (k := 4) rfl (by decide) (lv' := [(5, jk_V (v5 + 1)), (0, .ref a_a), (2, jk_V v2), (3, jk_V v3), (4, jk_V v4)]) rfl ?_
          refine jk_goto (tgt := 28) C rd_Check_totalByRecursion_65 (by decide) ?_
          refine jk_lv (lv' := [(0, .ref a_a), (2, jk_V v2), (3, jk_V v3), (4, jk_V v4), (5, jk_V (v5 + 1))]) [1, 2, 3, 4, 0] rfl ?_
          exact ih v2 v3 v4 (v5 + 1) hf
        · refine jk_iload_n C rd_Check_totalByRecursion_50 (k := 2) rfl ?_
          refine jk_aload_n C rd_Check_totalByRecursion_51 (k := 0) rfl ?_
          refine jk_iload C rd_Check_totalByRecursion_52 (k := 4) rfl ?_
          refine jk_iload_n C rd_Check_totalByRecursion_54 (k := 1) rfl ?_
          refine jk_iconst C rd_Check_totalByRecursion_55 ?_
          refine jk_iadd C rd_Check_totalByRecursion_56 ?_
          obtain ⟨q57, hq57, hf⟩ := jk_bind_h hf
          refine jk_callSi C hZ.1 hz (ihd i_a_clusters i_a_size i_a_depth i_a_value v5 (v2 + 1) q57 hq57) tm_758 tm_759 tm_22 tm_760 na_Check_totalByRecursion ⟨by dsimp only [jk_rm]; omega, by dsimp only [jk_rm]; omega⟩ rfl [0, 1, 2, 3, 4] rfl rfl rfl (ws' := wd_Check_totalByRecursion cI a_a a_a_starts a_a_depth a_a_topic a_a_value a_a_nibbled a_a_depth_k a_a_value_k i_a_clusters i_a_size i_a_depth i_a_value) rfl (st := [jk_V v3]) rfl (Nat.le_of_ble_eq_true rfl) rd_Check_totalByRecursion_57 ?_ ⟨Nat.le_refl _, Nat.le_refl _⟩
          refine jk_iadd C rd_Check_totalByRecursion_60 ?_
          refine jk_istore_n C rd_Check_totalByRecursion_61 (by decide) (lv' := [(3, jk_V (v3 + q57)), (0, .ref a_a), (2, jk_V v2), (4, jk_V v4), (5, jk_V v5)]) rfl ?_
          refine jk_iinc C rd_Check_totalByRecursion_62 (k := 4) rfl (by decide) (lv' := [(5, jk_V (v5 + 1)), (3, jk_V (v3 + q57)), (0, .ref a_a), (2, jk_V v2), (4, jk_V v4)]) rfl ?_
          refine jk_goto (tgt := 28) C rd_Check_totalByRecursion_65 (by decide) ?_
          refine jk_lv (lv' := [(0, .ref a_a), (2, jk_V v2), (3, jk_V (v3 + q57)), (4, jk_V v4), (5, jk_V (v5 + 1))]) [2, 3, 1, 4, 0] rfl ?_
          exact ih v2 (v3 + q57) v4 (v5 + 1) hf
  refine jk_aload_n C rd_Check_totalByRecursion_0 (k := 0) rfl ?_
  refine jk_getN C in_Cords (ci := 5) rfl 5 (by decide) (jk_nw hZ hz tn_20) 0 rfl rfl rd_Check_totalByRecursion_1 ?_
  refine jk_iload_n C rd_Check_totalByRecursion_4 (k := 1) rfl ?_
  obtain ⟨q5, hq5, hf⟩ := jk_bind_h hf
  refine jk_callVi C hZ.1 hz (ct_Row_get l D Z sq hZ cI cR (n_t := 40) (Nat.le_of_ble_eq_true rfl) a_a_value a_a_value_k i_a_value x1 q5 hq5) tm_747 tm_292 tm_293 tm_3 tm_294 na_Row_get ⟨by dsimp only [jk_rm]; omega, by dsimp only [jk_rm]; omega⟩ rfl [3, 4] rfl rfl rfl (ws' := wd_Check_totalByRecursion cI a_a a_a_starts a_a_depth a_a_topic a_a_value a_a_nibbled a_a_depth_k a_a_value_k i_a_clusters i_a_size i_a_depth i_a_value) rfl 3 0 rfl rfl rfl (st := []) rfl (Nat.le_of_ble_eq_true rfl) rd_Check_totalByRecursion_5 ?_ ⟨Nat.le_refl _, Nat.le_refl _⟩
  refine jk_istore_n C rd_Check_totalByRecursion_8 (by decide) (lv' := [(3, jk_V q5), (0, .ref a_a), (1, jk_V x1), (2, jk_V x2)]) rfl ?_
  refine jk_iload_n C rd_Check_totalByRecursion_9 (k := 3) rfl ?_
  refine jk_iconst C rd_Check_totalByRecursion_10 ?_
  refine jk_icmp_lt (tgt := 16) C rd_Check_totalByRecursion_11 (by decide) hf (fun _ hf => ?_) (fun _ hf => ?_)
  · refine jk_aload_n C rd_Check_totalByRecursion_16 (k := 1) rfl ?_
    refine jk_iload_n C rd_Check_totalByRecursion_17 (k := 2) rfl ?_
    obtain ⟨q18, hq18, hf⟩ := jk_bind_h hf
    refine jk_callVi C hZ.1 hz (ct_Cords_branchEnd l D Z sq hZ cI cR a_a a_a_starts a_a_depth a_a_topic a_a_value a_a_nibbled a_a_depth_k i_a_clusters i_a_size i_a_depth x1 q18 hq18) tm_751 tm_373 tm_374 tm_6 tm_375 na_Cords_branchEnd ⟨by dsimp only [jk_rm]; omega, by dsimp only [jk_rm]; omega⟩ rfl [0, 1, 2] rfl rfl rfl (ws' := wd_Check_totalByRecursion cI a_a a_a_starts a_a_depth a_a_topic a_a_value a_a_nibbled a_a_depth_k a_a_value_k i_a_clusters i_a_size i_a_depth i_a_value) rfl 0 5 rfl rfl rfl (st := []) rfl (Nat.le_of_ble_eq_true rfl) rd_Check_totalByRecursion_18 ?_ ⟨Nat.le_refl _, Nat.le_refl _⟩
    refine jk_istore C rd_Check_totalByRecursion_21 (by decide) (lv' := [(4, jk_V q18), (3, jk_V q5), (0, .ref a_a), (1, jk_V x1), (2, jk_V x2)]) rfl ?_
    refine jk_iload_n C rd_Check_totalByRecursion_23 (k := 3) rfl ?_
    refine jk_iconst C rd_Check_totalByRecursion_24 ?_
    refine jk_iadd C rd_Check_totalByRecursion_25 ?_
    refine jk_istore C rd_Check_totalByRecursion_26 (by decide) (lv' := [(5, jk_V (x1 + 1)), (4, jk_V q18), (3, jk_V q5), (0, .ref a_a), (1, jk_V x1), (2, jk_V x2)]) rfl ?_
    refine jk_lv (lv' := [(0, .ref a_a), (2, jk_V x2), (3, jk_V q5), (4, jk_V q18), (5, jk_V (x1 + 1))]) [3, 5, 2, 1, 0] rfl ?_
    exact bk_28 jk_F x2 q5 q18 (x1 + 1) hf
  · refine jk_iload_n C rd_Check_totalByRecursion_14 (k := 0) rfl ?_
    cases hf
    exact jk_iret C rfl rd_Check_totalByRecursion_15 rfl
def wd_Check_branches (cI : ClassId) (a_a a_a_starts a_a_depth a_a_topic a_a_value a_a_nibbled a_a_depth_k a_a_value_k a_a_nibbled_k : Nat) (i_a_clusters : Int) (i_a_size : Int) (i_a_depth : (Int → Int)) (i_a_value : (Int → Int)) (i_a_nibbled : (Int → Int)) : va_W := [(a_a, .inr (5, [jk_V i_a_clusters, jk_V i_a_size, .ref a_a_starts, .ref a_a_depth, .ref a_a_topic, .ref a_a_value, .ref a_a_nibbled])), (a_a_depth, .inr (0, [.ref a_a_depth_k])), (a_a_depth_k, jk_W cI 40 i_a_depth), (a_a_value, .inr (0, [.ref a_a_value_k])), (a_a_value_k, jk_W cI 40 i_a_value), (a_a_nibbled, .inr (0, [.ref a_a_nibbled_k])), (a_a_nibbled_k, jk_W cI 40 i_a_nibbled)]
set_option maxHeartbeats 4000000 in
set_option maxRecDepth 20000 in
theorem ct_Check_branches (l : Launch) (D : va_G) (Z : (Nat → Prop) → State → Heap → Prop) (sq : Nat → Nat) (hZ : jk_ZK Z sq) (cI cR : ClassId) (a_a a_a_starts a_a_depth a_a_topic a_a_value a_a_nibbled a_a_depth_k a_a_value_k a_a_nibbled_k : Nat) (i_a_clusters : Int) (i_a_size : Int) (i_a_depth : (Int → Int)) (i_a_value : (Int → Int)) (i_a_nibbled : (Int → Int)) (q : Int) (hf : fn_Check_branches i_a_size i_a_depth i_a_value i_a_nibbled = some q) : jk_MI l D jk_cl (jk_ty cI cR) Z mn_Check_branches (.code mn_Check_branches mb_Check_branches 5 (some .boolean) :: jk_WA) (jk_rm 11 268) [.ref a_a] (wd_Check_branches cI a_a a_a_starts a_a_depth a_a_topic a_a_value a_a_nibbled a_a_depth_k a_a_value_k a_a_nibbled_k i_a_clusters i_a_size i_a_depth i_a_value i_a_nibbled) (wd_Check_branches cI a_a a_a_starts a_a_depth a_a_topic a_a_value a_a_nibbled a_a_depth_k a_a_value_k a_a_nibbled_k i_a_clusters i_a_size i_a_depth i_a_value i_a_nibbled) q := by
  intro sz
  refine jk_body (by decide +kernel) (fun p e s m args below meth c hsz hz hin C => ?_) (Nat.le_of_ble_eq_true rfl)
  subst hsz
  unfold fn_Check_branches at hf
  have bk_2 : ∀ (n : Nat) (v1 : Int), fn_Check_branches_b2 n i_a_size i_a_depth i_a_value i_a_nibbled v1 = some q → jk_J p l e (jk_rm 11 268) s m args below meth c 0 0 (jk_QI below D jk_cl (jk_ty cI cR) (wd_Check_branches cI a_a a_a_starts a_a_depth a_a_topic a_a_value a_a_nibbled a_a_depth_k a_a_value_k a_a_nibbled_k i_a_clusters i_a_size i_a_depth i_a_value i_a_nibbled) (wd_Check_branches cI a_a a_a_starts a_a_depth a_a_topic a_a_value a_a_nibbled a_a_depth_k a_a_value_k a_a_nibbled_k i_a_clusters i_a_size i_a_depth i_a_value i_a_nibbled) args s q) D jk_cl (va_A (wd_Check_branches cI a_a a_a_starts a_a_depth a_a_topic a_a_value a_a_nibbled a_a_depth_k a_a_value_k a_a_nibbled_k i_a_clusters i_a_size i_a_depth i_a_value i_a_nibbled) s.heap.size) 5 (wd_Check_branches cI a_a a_a_starts a_a_depth a_a_topic a_a_value a_a_nibbled a_a_depth_k a_a_value_k a_a_nibbled_k i_a_clusters i_a_size i_a_depth i_a_value i_a_nibbled) [(0, .ref a_a), (1, jk_V v1)] 2 [] := by
    intro n
    induction n with
    | zero => intro v1 hf; exact nomatch (show none = some q from hf)
    | succ n ih =>
      intro v1 hf
      rw [fn_Check_branches_b2] at hf
      refine jk_iload_n C rd_Check_branches_2 (k := 1) rfl ?_
      refine jk_aload_n C rd_Check_branches_3 (k := 0) rfl ?_
      refine jk_getN C in_Cords (ci := 5) rfl 1 (by decide) (jk_nw hZ hz tn_14) 0 rfl rfl rd_Check_branches_4 ?_
      refine jk_icmp_ge (tgt := 86) C rd_Check_branches_7 (by decide) hf (fun _ hf => ?_) (fun _ hf => ?_)
      · refine jk_iconst C rd_Check_branches_86 ?_
        cases hf
        exact jk_zret C (Or.inr rfl) rfl rd_Check_branches_87 rfl
      · refine jk_aload_n C rd_Check_branches_10 (k := 0) rfl ?_
        refine jk_iload_n C rd_Check_branches_11 (k := 1) rfl ?_
        obtain ⟨q12, hq12, hf⟩ := jk_bind_h hf
        refine jk_callVi C hZ.1 hz (ct_Cords_branchEnd l D Z sq hZ cI cR a_a a_a_starts a_a_depth a_a_topic a_a_value a_a_nibbled a_a_depth_k i_a_clusters i_a_size i_a_depth v1 q12 hq12) tm_751 tm_373 tm_374 tm_6 tm_375 na_Cords_branchEnd ⟨Nat.le_of_ble_eq_true rfl, Nat.le_of_ble_eq_true rfl⟩ rfl [0, 1, 2] rfl rfl rfl (ws' := wd_Check_branches cI a_a a_a_starts a_a_depth a_a_topic a_a_value a_a_nibbled a_a_depth_k a_a_value_k a_a_nibbled_k i_a_clusters i_a_size i_a_depth i_a_value i_a_nibbled) rfl 0 5 rfl rfl rfl (st := []) rfl (Nat.le_of_ble_eq_true rfl) rd_Check_branches_12 ?_ ⟨Nat.le_refl _, Nat.le_refl _⟩
        refine jk_istore_n C rd_Check_branches_15 (by decide) (lv' := [(2, jk_V q12), (0, .ref a_a), (1, jk_V v1)]) rfl ?_
        refine jk_aload_n C rd_Check_branches_16 (k := 1) rfl ?_
        refine jk_iload_n C rd_Check_branches_17 (k := 2) rfl ?_
        refine jk_iload_n C rd_Check_branches_18 (k := 0) rfl ?_
        obtain ⟨q19, hq19, hf⟩ := jk_bind_h hf
        refine jk_callVi C hZ.1 hz (ct_Cords_lowestSum l D Z sq hZ cI cR a_a a_a_starts a_a_depth a_a_topic a_a_value a_a_nibbled a_a_value_k i_a_clusters i_a_size i_a_value v1 q12 q19 hq19) tm_752 tm_601 tm_602 tm_6 tm_603 na_Cords_lowestSum ⟨Nat.le_of_ble_eq_true rfl, Nat.le_of_ble_eq_true rfl⟩ rfl [0, 3, 4] rfl rfl rfl (ws' := wd_Check_branches cI a_a a_a_starts a_a_depth a_a_topic a_a_value a_a_nibbled a_a_depth_k a_a_value_k a_a_nibbled_k i_a_clusters i_a_size i_a_depth i_a_value i_a_nibbled) rfl 0 5 rfl rfl rfl (st := []) rfl (Nat.le_of_ble_eq_true rfl) rd_Check_branches_19 ?_ ⟨Nat.le_refl _, Nat.le_refl _⟩
        refine jk_istore_n C rd_Check_branches_22 (by decide) (lv' := [(3, jk_V q19), (2, jk_V q12), (0, .ref a_a), (1, jk_V v1)]) rfl ?_
        refine jk_aload_n C rd_Check_branches_23 (k := 2) rfl ?_
        refine jk_iload_n C rd_Check_branches_24 (k := 3) rfl ?_
        refine jk_iload_n C rd_Check_branches_25 (k := 1) rfl ?_
        obtain ⟨q26, hq26, hf⟩ := jk_bind_h hf
        refine jk_callVi C hZ.1 hz (ct_Cords_nibbledAmong l D Z sq hZ cI cR a_a a_a_starts a_a_depth a_a_topic a_a_value a_a_nibbled a_a_nibbled_k i_a_clusters i_a_size i_a_nibbled v1 q12 q26 hq26) tm_753 tm_593 tm_594 tm_6 tm_595 na_Cords_nibbledAmong ⟨Nat.le_of_ble_eq_true rfl, Nat.le_of_ble_eq_true rfl⟩ rfl [0, 5, 6] rfl rfl rfl (ws' := wd_Check_branches cI a_a a_a_starts a_a_depth a_a_topic a_a_value a_a_nibbled a_a_depth_k a_a_value_k a_a_nibbled_k i_a_clusters i_a_size i_a_depth i_a_value i_a_nibbled) rfl 0 5 rfl rfl rfl (st := []) rfl (Nat.le_of_ble_eq_true rfl) rd_Check_branches_26 ?_ ⟨Nat.le_refl _, Nat.le_refl _⟩
        refine jk_if_ne (tgt := 36) C rd_Check_branches_29 (by decide) hf (fun _ hf => ?_) (fun _ hf => ?_)
        · refine jk_iconst C rd_Check_branches_36 ?_
          refine jk_istore C rd_Check_branches_37 (by decide) (lv' := [(4, jk_V 0), (3, jk_V q19), (2, jk_V q12), (0, .ref a_a), (1, jk_V v1)]) rfl ?_
          refine jk_iload_n C rd_Check_branches_39 (k := 1) rfl ?_
          refine jk_aload_n C rd_Check_branches_40 (k := 3) rfl ?_
          refine jk_iload_n C rd_Check_branches_41 (k := 4) rfl ?_
          refine jk_iload_n C rd_Check_branches_42 (k := 2) rfl ?_
          obtain ⟨q43, hq43, hf⟩ := jk_bind_h hf
          refine jk_callVi C hZ.1 hz (ct_Cords_highestSum l D Z sq hZ cI cR a_a a_a_starts a_a_depth a_a_topic a_a_value a_a_nibbled a_a_value_k a_a_nibbled_k i_a_clusters i_a_size i_a_value i_a_nibbled v1 q12 q43 hq43) tm_754 tm_755 tm_756 tm_6 tm_757 na_Cords_highestSum ⟨Nat.le_of_ble_eq_true rfl, Nat.le_of_ble_eq_true rfl⟩ rfl [0, 3, 4, 5, 6] rfl rfl rfl (ws' := wd_Check_branches cI a_a a_a_starts a_a_depth a_a_topic a_a_value a_a_nibbled a_a_depth_k a_a_value_k a_a_nibbled_k i_a_clusters i_a_size i_a_depth i_a_value i_a_nibbled) rfl 0 5 rfl rfl rfl (st := [jk_V q19]) rfl (Nat.le_of_ble_eq_true rfl) rd_Check_branches_43 ?_ ⟨Nat.le_refl _, Nat.le_refl _⟩
          refine jk_icmp_ne (tgt := 53) C rd_Check_branches_46 (by decide) hf (fun _ hf => ?_) (fun _ hf => ?_)
          · refine jk_iconst C rd_Check_branches_53 ?_
            refine jk_iload C rd_Check_branches_54 (k := 0) rfl ?_
            refine jk_icmp_eq (tgt := 61) C rd_Check_branches_56 (by decide) hf (fun _ hf => ?_) (fun _ hf => ?_)
            · refine jk_iload_n C rd_Check_branches_61 (k := 1) rfl ?_
              refine jk_aload_n C rd_Check_branches_62 (k := 3) rfl ?_
              refine jk_iload_n C rd_Check_branches_63 (k := 4) rfl ?_
              refine jk_aload_n C rd_Check_branches_64 (k := 3) rfl ?_
              refine jk_getN C in_Cords (ci := 5) rfl 3 (by decide) (jk_nw hZ hz tn_17) 0 rfl rfl rd_Check_branches_65 ?_
              refine jk_iload_n C rd_Check_branches_68 (k := 4) rfl ?_
              obtain ⟨q69, hq69, hf⟩ := jk_bind_h hf
              refine jk_callVi C hZ.1 hz (ct_Row_get l D Z sq hZ cI cR (n_t := 40) (Nat.le_of_ble_eq_true rfl) a_a_depth a_a_depth_k i_a_depth v1 q69 hq69) tm_747 tm_292 tm_293 tm_3 tm_294 na_Row_get ⟨Nat.le_of_ble_eq_true rfl, Nat.le_of_ble_eq_true rfl⟩ rfl [1, 2] rfl rfl rfl (ws' := wd_Check_branches cI a_a a_a_starts a_a_depth a_a_topic a_a_value a_a_nibbled a_a_depth_k a_a_value_k a_a_nibbled_k i_a_clusters i_a_size i_a_depth i_a_value i_a_nibbled) rfl 1 0 rfl rfl rfl (st := [jk_V v1, .ref a_a, jk_V q19]) rfl (Nat.le_of_ble_eq_true rfl) rd_Check_branches_69 ?_ ⟨Nat.le_refl _, Nat.le_refl _⟩
              obtain ⟨q72, hq72, hf⟩ := jk_bind_h hf
              refine jk_callSi C hZ.1 hz (ct_Check_totalByRecursion l D Z sq hZ cI cR a_a a_a_starts a_a_depth a_a_topic a_a_value a_a_nibbled a_a_depth_k a_a_value_k 8 i_a_clusters i_a_size i_a_depth i_a_value v1 q69 q72 hq72) tm_758 tm_759 tm_22 tm_760 na_Check_totalByRecursion ⟨Nat.le_of_ble_eq_true rfl, Nat.le_of_ble_eq_true rfl⟩ rfl [0, 1, 2, 3, 4] rfl rfl rfl (ws' := wd_Check_branches cI a_a a_a_starts a_a_depth a_a_topic a_a_value a_a_nibbled a_a_depth_k a_a_value_k a_a_nibbled_k i_a_clusters i_a_size i_a_depth i_a_value i_a_nibbled) rfl (st := [jk_V q19]) rfl (Nat.le_of_ble_eq_true rfl) rd_Check_branches_72 ?_ ⟨Nat.le_refl _, Nat.le_refl _⟩
              refine jk_icmp_eq (tgt := 80) C rd_Check_branches_75 (by decide) hf (fun _ hf => ?_) (fun _ hf => ?_)
              · refine jk_iinc C rd_Check_branches_80 (k := 4) rfl (by decide) (lv' := [(1, jk_V (v1 + 1)), (4, jk_V 0), (3, jk_V q19), (2, jk_V q12), (0, .ref a_a)]) rfl ?_
                refine jk_goto (tgt := 2) C rd_Check_branches_83 (by decide) ?_
                refine jk_lv (lv' := [(0, .ref a_a), (1, jk_V (v1 + 1))]) [4, 0] rfl ?_
                exact ih (v1 + 1) hf
              · refine jk_iconst C rd_Check_branches_78 ?_
                cases hf
                exact jk_zret C (Or.inl rfl) rfl rd_Check_branches_79 rfl
            · refine jk_iconst C rd_Check_branches_59 ?_
              cases hf
              exact jk_zret C (Or.inl rfl) rfl rd_Check_branches_60 rfl
          · refine jk_iconst C rd_Check_branches_49 ?_
            refine jk_goto (tgt := 54) C rd_Check_branches_50 (by decide) ?_
            refine jk_iload C rd_Check_branches_54 (k := 0) rfl ?_
            refine jk_icmp_eq (tgt := 61) C rd_Check_branches_56 (by decide) hf (fun _ hf => ?_) (fun _ hf => ?_)
            · refine jk_iload_n C rd_Check_branches_61 (k := 1) rfl ?_
              refine jk_aload_n C rd_Check_branches_62 (k := 3) rfl ?_
              refine jk_iload_n C rd_Check_branches_63 (k := 4) rfl ?_
              refine jk_aload_n C rd_Check_branches_64 (k := 3) rfl ?_
              refine jk_getN C in_Cords (ci := 5) rfl 3 (by decide) (jk_nw hZ hz tn_17) 0 rfl rfl rd_Check_branches_65 ?_
              refine jk_iload_n C rd_Check_branches_68 (k := 4) rfl ?_
              obtain ⟨q69, hq69, hf⟩ := jk_bind_h hf
              refine jk_callVi C hZ.1 hz (ct_Row_get l D Z sq hZ cI cR (n_t := 40) (Nat.le_of_ble_eq_true rfl) a_a_depth a_a_depth_k i_a_depth v1 q69 hq69) tm_747 tm_292 tm_293 tm_3 tm_294 na_Row_get ⟨Nat.le_of_ble_eq_true rfl, Nat.le_of_ble_eq_true rfl⟩ rfl [1, 2] rfl rfl rfl (ws' := wd_Check_branches cI a_a a_a_starts a_a_depth a_a_topic a_a_value a_a_nibbled a_a_depth_k a_a_value_k a_a_nibbled_k i_a_clusters i_a_size i_a_depth i_a_value i_a_nibbled) rfl 1 0 rfl rfl rfl (st := [jk_V v1, .ref a_a, jk_V q19]) rfl (Nat.le_of_ble_eq_true rfl) rd_Check_branches_69 ?_ ⟨Nat.le_refl _, Nat.le_refl _⟩
              obtain ⟨q72, hq72, hf⟩ := jk_bind_h hf
              refine jk_callSi C hZ.1 hz (ct_Check_totalByRecursion l D Z sq hZ cI cR a_a a_a_starts a_a_depth a_a_topic a_a_value a_a_nibbled a_a_depth_k a_a_value_k 8 i_a_clusters i_a_size i_a_depth i_a_value v1 q69 q72 hq72) tm_758 tm_759 tm_22 tm_760 na_Check_totalByRecursion ⟨Nat.le_of_ble_eq_true rfl, Nat.le_of_ble_eq_true rfl⟩ rfl [0, 1, 2, 3, 4] rfl rfl rfl (ws' := wd_Check_branches cI a_a a_a_starts a_a_depth a_a_topic a_a_value a_a_nibbled a_a_depth_k a_a_value_k a_a_nibbled_k i_a_clusters i_a_size i_a_depth i_a_value i_a_nibbled) rfl (st := [jk_V q19]) rfl (Nat.le_of_ble_eq_true rfl) rd_Check_branches_72 ?_ ⟨Nat.le_refl _, Nat.le_refl _⟩
              refine jk_icmp_eq (tgt := 80) C rd_Check_branches_75 (by decide) hf (fun _ hf => ?_) (fun _ hf => ?_)
              · refine jk_iinc C rd_Check_branches_80 (k := 4) rfl (by decide) (lv' := [(1, jk_V (v1 + 1)), (4, jk_V 0), (3, jk_V q19), (2, jk_V q12), (0, .ref a_a)]) rfl ?_
                refine jk_goto (tgt := 2) C rd_Check_branches_83 (by decide) ?_
                refine jk_lv (lv' := [(0, .ref a_a), (1, jk_V (v1 + 1))]) [4, 0] rfl ?_
                exact ih (v1 + 1) hf
              · refine jk_iconst C rd_Check_branches_78 ?_
                cases hf
                exact jk_zret C (Or.inl rfl) rfl rd_Check_branches_79 rfl
            · refine jk_iconst C rd_Check_branches_59 ?_
              cases hf
              exact jk_zret C (Or.inl rfl) rfl rd_Check_branches_60 rfl
        · refine jk_iconst C rd_Check_branches_32 ?_
          refine jk_goto (tgt := 37) C rd_Check_branches_33 (by decide) ?_
          refine jk_istore C rd_Check_branches_37 (by decide) (lv' := [(4, jk_V 1), (3, jk_V q19), (2, jk_V q12), (0, .ref a_a), (1, jk_V v1)]) rfl ?_
          refine jk_iload_n C rd_Check_branches_39 (k := 1) rfl ?_
          refine jk_aload_n C rd_Check_branches_40 (k := 3) rfl ?_
          refine jk_iload_n C rd_Check_branches_41 (k := 4) rfl ?_
          refine jk_iload_n C rd_Check_branches_42 (k := 2) rfl ?_
          obtain ⟨q43, hq43, hf⟩ := jk_bind_h hf
          refine jk_callVi C hZ.1 hz (ct_Cords_highestSum l D Z sq hZ cI cR a_a a_a_starts a_a_depth a_a_topic a_a_value a_a_nibbled a_a_value_k a_a_nibbled_k i_a_clusters i_a_size i_a_value i_a_nibbled v1 q12 q43 hq43) tm_754 tm_755 tm_756 tm_6 tm_757 na_Cords_highestSum ⟨Nat.le_of_ble_eq_true rfl, Nat.le_of_ble_eq_true rfl⟩ rfl [0, 3, 4, 5, 6] rfl rfl rfl (ws' := wd_Check_branches cI a_a a_a_starts a_a_depth a_a_topic a_a_value a_a_nibbled a_a_depth_k a_a_value_k a_a_nibbled_k i_a_clusters i_a_size i_a_depth i_a_value i_a_nibbled) rfl 0 5 rfl rfl rfl (st := [jk_V q19]) rfl (Nat.le_of_ble_eq_true rfl) rd_Check_branches_43 ?_ ⟨Nat.le_refl _, Nat.le_refl _⟩
          refine jk_icmp_ne (tgt := 53) C rd_Check_branches_46 (by decide) hf (fun _ hf => ?_) (fun _ hf => ?_)
          · refine jk_iconst C rd_Check_branches_53 ?_
            refine jk_iload C rd_Check_branches_54 (k := 0) rfl ?_
            refine jk_icmp_eq (tgt := 61) C rd_Check_branches_56 (by decide) hf (fun _ hf => ?_) (fun _ hf => ?_)
            · refine jk_iload_n C rd_Check_branches_61 (k := 1) rfl ?_
              refine jk_aload_n C rd_Check_branches_62 (k := 3) rfl ?_
              refine jk_iload_n C rd_Check_branches_63 (k := 4) rfl ?_
              refine jk_aload_n C rd_Check_branches_64 (k := 3) rfl ?_
              refine jk_getN C in_Cords (ci := 5) rfl 3 (by decide) (jk_nw hZ hz tn_17) 0 rfl rfl rd_Check_branches_65 ?_
              refine jk_iload_n C rd_Check_branches_68 (k := 4) rfl ?_
              obtain ⟨q69, hq69, hf⟩ := jk_bind_h hf
              refine jk_callVi C hZ.1 hz (ct_Row_get l D Z sq hZ cI cR (n_t := 40) (Nat.le_of_ble_eq_true rfl) a_a_depth a_a_depth_k i_a_depth v1 q69 hq69) tm_747 tm_292 tm_293 tm_3 tm_294 na_Row_get ⟨Nat.le_of_ble_eq_true rfl, Nat.le_of_ble_eq_true rfl⟩ rfl [1, 2] rfl rfl rfl (ws' := wd_Check_branches cI a_a a_a_starts a_a_depth a_a_topic a_a_value a_a_nibbled a_a_depth_k a_a_value_k a_a_nibbled_k i_a_clusters i_a_size i_a_depth i_a_value i_a_nibbled) rfl 1 0 rfl rfl rfl (st := [jk_V v1, .ref a_a, jk_V q19]) rfl (Nat.le_of_ble_eq_true rfl) rd_Check_branches_69 ?_ ⟨Nat.le_refl _, Nat.le_refl _⟩
              obtain ⟨q72, hq72, hf⟩ := jk_bind_h hf
              refine jk_callSi C hZ.1 hz (ct_Check_totalByRecursion l D Z sq hZ cI cR a_a a_a_starts a_a_depth a_a_topic a_a_value a_a_nibbled a_a_depth_k a_a_value_k 8 i_a_clusters i_a_size i_a_depth i_a_value v1 q69 q72 hq72) tm_758 tm_759 tm_22 tm_760 na_Check_totalByRecursion ⟨Nat.le_of_ble_eq_true rfl, Nat.le_of_ble_eq_true rfl⟩ rfl [0, 1, 2, 3, 4] rfl rfl rfl (ws' := wd_Check_branches cI a_a a_a_starts a_a_depth a_a_topic a_a_value a_a_nibbled a_a_depth_k a_a_value_k a_a_nibbled_k i_a_clusters i_a_size i_a_depth i_a_value i_a_nibbled) rfl (st := [jk_V q19]) rfl (Nat.le_of_ble_eq_true rfl) rd_Check_branches_72 ?_ ⟨Nat.le_refl _, Nat.le_refl _⟩
              refine jk_icmp_eq (tgt := 80) C rd_Check_branches_75 (by decide) hf (fun _ hf => ?_) (fun _ hf => ?_)
              · refine jk_iinc C rd_Check_branches_80 (k := 4) rfl (by decide) (lv' := [(1, jk_V (v1 + 1)), (4, jk_V 1), (3, jk_V q19), (2, jk_V q12), (0, .ref a_a)]) rfl ?_
                refine jk_goto (tgt := 2) C rd_Check_branches_83 (by decide) ?_
                refine jk_lv (lv' := [(0, .ref a_a), (1, jk_V (v1 + 1))]) [4, 0] rfl ?_
                exact ih (v1 + 1) hf
              · refine jk_iconst C rd_Check_branches_78 ?_
                cases hf
                exact jk_zret C (Or.inl rfl) rfl rd_Check_branches_79 rfl
            · refine jk_iconst C rd_Check_branches_59 ?_
              cases hf
              exact jk_zret C (Or.inl rfl) rfl rd_Check_branches_60 rfl
          · refine jk_iconst C rd_Check_branches_49 ?_
            refine jk_goto (tgt := 54) C rd_Check_branches_50 (by decide) ?_
            refine jk_iload C rd_Check_branches_54 (k := 0) rfl ?_
            refine jk_icmp_eq (tgt := 61) C rd_Check_branches_56 (by decide) hf (fun _ hf => ?_) (fun _ hf => ?_)
            · refine jk_iload_n C rd_Check_branches_61 (k := 1) rfl ?_
              refine jk_aload_n C rd_Check_branches_62 (k := 3) rfl ?_
              refine jk_iload_n C rd_Check_branches_63 (k := 4) rfl ?_
              refine jk_aload_n C rd_Check_branches_64 (k := 3) rfl ?_
              refine jk_getN C in_Cords (ci := 5) rfl 3 (by decide) (jk_nw hZ hz tn_17) 0 rfl rfl rd_Check_branches_65 ?_
              refine jk_iload_n C rd_Check_branches_68 (k := 4) rfl ?_
              obtain ⟨q69, hq69, hf⟩ := jk_bind_h hf
              refine jk_callVi C hZ.1 hz (ct_Row_get l D Z sq hZ cI cR (n_t := 40) (Nat.le_of_ble_eq_true rfl) a_a_depth a_a_depth_k i_a_depth v1 q69 hq69) tm_747 tm_292 tm_293 tm_3 tm_294 na_Row_get ⟨Nat.le_of_ble_eq_true rfl, Nat.le_of_ble_eq_true rfl⟩ rfl [1, 2] rfl rfl rfl (ws' := wd_Check_branches cI a_a a_a_starts a_a_depth a_a_topic a_a_value a_a_nibbled a_a_depth_k a_a_value_k a_a_nibbled_k i_a_clusters i_a_size i_a_depth i_a_value i_a_nibbled) rfl 1 0 rfl rfl rfl (st := [jk_V v1, .ref a_a, jk_V q19]) rfl (Nat.le_of_ble_eq_true rfl) rd_Check_branches_69 ?_ ⟨Nat.le_refl _, Nat.le_refl _⟩
              obtain ⟨q72, hq72, hf⟩ := jk_bind_h hf
              refine jk_callSi C hZ.1 hz (ct_Check_totalByRecursion l D Z sq hZ cI cR a_a a_a_starts a_a_depth a_a_topic a_a_value a_a_nibbled a_a_depth_k a_a_value_k 8 i_a_clusters i_a_size i_a_depth i_a_value v1 q69 q72 hq72) tm_758 tm_759 tm_22 tm_760 na_Check_totalByRecursion ⟨Nat.le_of_ble_eq_true rfl, Nat.le_of_ble_eq_true rfl⟩ rfl [0, 1, 2, 3, 4] rfl rfl rfl (ws' := wd_Check_branches cI a_a a_a_starts a_a_depth a_a_topic a_a_value a_a_nibbled a_a_depth_k a_a_value_k a_a_nibbled_k i_a_clusters i_a_size i_a_depth i_a_value i_a_nibbled) rfl (st := [jk_V q19]) rfl (Nat.le_of_ble_eq_true rfl) rd_Check_branches_72 ?_ ⟨Nat.le_refl _, Nat.le_refl _⟩
              refine jk_icmp_eq (tgt := 80) C rd_Check_branches_75 (by decide) hf (fun _ hf => ?_) (fun _ hf => ?_)
              · refine jk_iinc C rd_Check_branches_80 (k := 4) rfl (by decide) (lv' := [(1, jk_V (v1 + 1)), (4, jk_V 1), (3, jk_V q19), (2, jk_V q12), (0, .ref a_a)]) rfl ?_
                refine jk_goto (tgt := 2) C rd_Check_branches_83 (by decide) ?_
                refine jk_lv (lv' := [(0, .ref a_a), (1, jk_V (v1 + 1))]) [4, 0] rfl ?_
                exact ih (v1 + 1) hf
              · refine jk_iconst C rd_Check_branches_78 ?_
                cases hf
                exact jk_zret C (Or.inl rfl) rfl rd_Check_branches_79 rfl
            · refine jk_iconst C rd_Check_branches_59 ?_
              cases hf
              exact jk_zret C (Or.inl rfl) rfl rd_Check_branches_60 rfl
  refine jk_iconst C rd_Check_branches_0 ?_
  refine jk_istore_n C rd_Check_branches_1 (by decide) (lv' := [(1, jk_V 0), (0, .ref a_a)]) rfl ?_
  refine jk_lv (lv' := [(0, .ref a_a), (1, jk_V 0)]) [1, 0] rfl ?_
  exact bk_2 jk_F 0 hf
def wd_Check_sumByRecursion (cI : ClassId) (a_a a_a_starts a_a_depth a_a_topic a_a_value a_a_nibbled a_a_starts_k a_a_depth_k a_a_value_k : Nat) (i_a_clusters : Int) (i_a_size : Int) (i_a_starts : (Int → Int)) (i_a_depth : (Int → Int)) (i_a_value : (Int → Int)) : va_W := [(a_a, .inr (5, [jk_V i_a_clusters, jk_V i_a_size, .ref a_a_starts, .ref a_a_depth, .ref a_a_topic, .ref a_a_value, .ref a_a_nibbled])), (a_a_starts, .inr (0, [.ref a_a_starts_k])), (a_a_starts_k, jk_W cI 7 i_a_starts), (a_a_depth, .inr (0, [.ref a_a_depth_k])), (a_a_depth_k, jk_W cI 40 i_a_depth), (a_a_value, .inr (0, [.ref a_a_value_k])), (a_a_value_k, jk_W cI 40 i_a_value)]
set_option maxHeartbeats 4000000 in
set_option maxRecDepth 20000 in
theorem ct_Check_sumByRecursion (l : Launch) (D : va_G) (Z : (Nat → Prop) → State → Heap → Prop) (sq : Nat → Nat) (hZ : jk_ZK Z sq) (cI cR : ClassId) (a_a a_a_starts a_a_depth a_a_topic a_a_value a_a_nibbled a_a_starts_k a_a_depth_k a_a_value_k : Nat) (i_a_clusters : Int) (i_a_size : Int) (i_a_starts : (Int → Int)) (i_a_depth : (Int → Int)) (i_a_value : (Int → Int)) (x1 : Int) (q : Int) (hf : fn_Check_sumByRecursion i_a_size i_a_starts i_a_depth i_a_value x1 = some q) : jk_MI l D jk_cl (jk_ty cI cR) Z mn_Check_sumByRecursion (.code mn_Check_sumByRecursion mb_Check_sumByRecursion 5 (some .int) :: jk_WA) (jk_rm 11 268) [.ref a_a, jk_V x1] (wd_Check_sumByRecursion cI a_a a_a_starts a_a_depth a_a_topic a_a_value a_a_nibbled a_a_starts_k a_a_depth_k a_a_value_k i_a_clusters i_a_size i_a_starts i_a_depth i_a_value) (wd_Check_sumByRecursion cI a_a a_a_starts a_a_depth a_a_topic a_a_value a_a_nibbled a_a_starts_k a_a_depth_k a_a_value_k i_a_clusters i_a_size i_a_starts i_a_depth i_a_value) q := by
  intro sz
  refine jk_body (by decide +kernel) (fun p e s m args below meth c hsz hz hin C => ?_) (Nat.le_of_ble_eq_true rfl)
  subst hsz
  unfold fn_Check_sumByRecursion at hf
  have bk_15 : ∀ (n : Nat) (v2 : Int) (v3 : Int) (v4 : Int), fn_Check_sumByRecursion_b15 n i_a_size i_a_depth i_a_value v2 v3 v4 = some q → jk_J p l e (jk_rm 11 268) s m args below meth c 0 0 (jk_QI below D jk_cl (jk_ty cI cR) (wd_Check_sumByRecursion cI a_a a_a_starts a_a_depth a_a_topic a_a_value a_a_nibbled a_a_starts_k a_a_depth_k a_a_value_k i_a_clusters i_a_size i_a_starts i_a_depth i_a_value) (wd_Check_sumByRecursion cI a_a a_a_starts a_a_depth a_a_topic a_a_value a_a_nibbled a_a_starts_k a_a_depth_k a_a_value_k i_a_clusters i_a_size i_a_starts i_a_depth i_a_value) args s q) D jk_cl (va_A (wd_Check_sumByRecursion cI a_a a_a_starts a_a_depth a_a_topic a_a_value a_a_nibbled a_a_starts_k a_a_depth_k a_a_value_k i_a_clusters i_a_size i_a_starts i_a_depth i_a_value) s.heap.size) 5 (wd_Check_sumByRecursion cI a_a a_a_starts a_a_depth a_a_topic a_a_value a_a_nibbled a_a_starts_k a_a_depth_k a_a_value_k i_a_clusters i_a_size i_a_starts i_a_depth i_a_value) [(0, .ref a_a), (2, jk_V v2), (3, jk_V v3), (4, jk_V v4)] 15 [] := by
    intro n
    induction n with
    | zero => intro v2 v3 v4 hf; exact nomatch (show none = some q from hf)
    | succ n ih =>
      intro v2 v3 v4 hf
      rw [fn_Check_sumByRecursion_b15] at hf
      refine jk_iload C rd_Check_sumByRecursion_15 (k := 3) rfl ?_
      refine jk_iload_n C rd_Check_sumByRecursion_17 (k := 2) rfl ?_
      refine jk_icmp_ge (tgt := 50) C rd_Check_sumByRecursion_18 (by decide) hf (fun _ hf => ?_) (fun _ hf => ?_)
      · refine jk_iload_n C rd_Check_sumByRecursion_50 (k := 1) rfl ?_
        cases hf
        exact jk_iret C rfl rd_Check_sumByRecursion_51 rfl
      · refine jk_aload_n C rd_Check_sumByRecursion_21 (k := 0) rfl ?_
        refine jk_getN C in_Cords (ci := 5) rfl 3 (by decide) (jk_nw hZ hz tn_17) 0 rfl rfl rd_Check_sumByRecursion_22 ?_
        refine jk_iload C rd_Check_sumByRecursion_25 (k := 3) rfl ?_
        obtain ⟨q27, hq27, hf⟩ := jk_bind_h hf
        refine jk_callVi C hZ.1 hz (ct_Row_get l D Z sq hZ cI cR (n_t := 40) (Nat.le_of_ble_eq_true rfl) a_a_depth a_a_depth_k i_a_depth v4 q27 hq27) tm_747 tm_292 tm_293 tm_3 tm_294 na_Row_get ⟨Nat.le_of_ble_eq_true rfl, Nat.le_of_ble_eq_true rfl⟩ rfl [3, 4] rfl rfl rfl (ws' := wd_Check_sumByRecursion cI a_a a_a_starts a_a_depth a_a_topic a_a_value a_a_nibbled a_a_starts_k a_a_depth_k a_a_value_k i_a_clusters i_a_size i_a_starts i_a_depth i_a_value) rfl 3 0 rfl rfl rfl (st := []) rfl (Nat.le_of_ble_eq_true rfl) rd_Check_sumByRecursion_27 ?_ ⟨Nat.le_refl _, Nat.le_refl _⟩
        refine jk_iconst C rd_Check_sumByRecursion_30 ?_
        refine jk_icmp_ne (tgt := 44) C rd_Check_sumByRecursion_31 (by decide) hf (fun _ hf => ?_) (fun _ hf => ?_)
        · refine jk_iinc C rd_Check_sumByRecursion_44 (k := 3) rfl (by decide) (lv' := [(4, jk_V (v4 + 1)), (0, .ref a_a), (2, jk_V v2), (3, jk_V v3)]) rfl ?_
          refine jk_goto (tgt := 15) C rd_Check_sumByRecursion_47 (by decide) ?_
          refine jk_lv (lv' := [(0, .ref a_a), (2, jk_V v2), (3, jk_V v3), (4, jk_V (v4 + 1))]) [1, 2, 3, 0] rfl ?_
          exact ih v2 v3 (v4 + 1) hf
        · refine jk_iload_n C rd_Check_sumByRecursion_34 (k := 1) rfl ?_
          refine jk_aload_n C rd_Check_sumByRecursion_35 (k := 0) rfl ?_
          refine jk_iload C rd_Check_sumByRecursion_36 (k := 3) rfl ?_
          refine jk_iconst C rd_Check_sumByRecursion_38 ?_
          obtain ⟨q39, hq39, hf⟩ := jk_bind_h hf
          refine jk_callSi C hZ.1 hz (ct_Check_totalByRecursion l D Z sq hZ cI cR a_a a_a_starts a_a_depth a_a_topic a_a_value a_a_nibbled a_a_depth_k a_a_value_k 8 i_a_clusters i_a_size i_a_depth i_a_value v4 1 q39 hq39) tm_758 tm_759 tm_22 tm_760 na_Check_totalByRecursion ⟨Nat.le_of_ble_eq_true rfl, Nat.le_of_ble_eq_true rfl⟩ rfl [0, 3, 4, 5, 6] rfl rfl rfl (ws' := wd_Check_sumByRecursion cI a_a a_a_starts a_a_depth a_a_topic a_a_value a_a_nibbled a_a_starts_k a_a_depth_k a_a_value_k i_a_clusters i_a_size i_a_starts i_a_depth i_a_value) rfl (st := [jk_V v2]) rfl (Nat.le_of_ble_eq_true rfl) rd_Check_sumByRecursion_39 ?_ ⟨Nat.le_refl _, Nat.le_refl _⟩
          refine jk_iadd C rd_Check_sumByRecursion_42 ?_
          refine jk_istore_n C rd_Check_sumByRecursion_43 (by decide) (lv' := [(2, jk_V (v2 + q39)), (0, .ref a_a), (3, jk_V v3), (4, jk_V v4)]) rfl ?_
          refine jk_iinc C rd_Check_sumByRecursion_44 (k := 3) rfl (by decide) (lv' := [(4, jk_V (v4 + 1)), (2, jk_V (v2 + q39)), (0, .ref a_a), (3, jk_V v3)]) rfl ?_
          refine jk_goto (tgt := 15) C rd_Check_sumByRecursion_47 (by decide) ?_
          refine jk_lv (lv' := [(0, .ref a_a), (2, jk_V (v2 + q39)), (3, jk_V v3), (4, jk_V (v4 + 1))]) [2, 1, 3, 0] rfl ?_
          exact ih (v2 + q39) v3 (v4 + 1) hf
  refine jk_iconst C rd_Check_sumByRecursion_0 ?_
  refine jk_istore_n C rd_Check_sumByRecursion_1 (by decide) (lv' := [(2, jk_V 0), (0, .ref a_a), (1, jk_V x1)]) rfl ?_
  refine jk_aload_n C rd_Check_sumByRecursion_2 (k := 1) rfl ?_
  refine jk_iload_n C rd_Check_sumByRecursion_3 (k := 2) rfl ?_
  obtain ⟨q4, hq4, hf⟩ := jk_bind_h hf
  refine jk_callVi C hZ.1 hz (ct_Cords_end l D Z sq hZ cI cR a_a a_a_starts a_a_depth a_a_topic a_a_value a_a_nibbled a_a_starts_k i_a_clusters i_a_size i_a_starts x1 q4 hq4) tm_741 tm_584 tm_585 tm_6 tm_586 na_Cords_end ⟨Nat.le_of_ble_eq_true rfl, Nat.le_of_ble_eq_true rfl⟩ rfl [0, 1, 2] rfl rfl rfl (ws' := wd_Check_sumByRecursion cI a_a a_a_starts a_a_depth a_a_topic a_a_value a_a_nibbled a_a_starts_k a_a_depth_k a_a_value_k i_a_clusters i_a_size i_a_starts i_a_depth i_a_value) rfl 0 5 rfl rfl rfl (st := []) rfl (Nat.le_of_ble_eq_true rfl) rd_Check_sumByRecursion_4 ?_ ⟨Nat.le_refl _, Nat.le_refl _⟩
  refine jk_istore_n C rd_Check_sumByRecursion_7 (by decide) (lv' := [(3, jk_V q4), (2, jk_V 0), (0, .ref a_a), (1, jk_V x1)]) rfl ?_
  refine jk_aload_n C rd_Check_sumByRecursion_8 (k := 2) rfl ?_
  refine jk_iload_n C rd_Check_sumByRecursion_9 (k := 3) rfl ?_
  obtain ⟨q10, hq10, hf⟩ := jk_bind_h hf
  refine jk_callVi C hZ.1 hz (ct_Cords_start l D Z sq hZ cI cR a_a a_a_starts a_a_depth a_a_topic a_a_value a_a_nibbled a_a_starts_k i_a_clusters i_a_size i_a_starts x1 q10 hq10) tm_742 tm_365 tm_366 tm_6 tm_367 na_Cords_start ⟨Nat.le_of_ble_eq_true rfl, Nat.le_of_ble_eq_true rfl⟩ rfl [0, 1, 2] rfl rfl rfl (ws' := wd_Check_sumByRecursion cI a_a a_a_starts a_a_depth a_a_topic a_a_value a_a_nibbled a_a_starts_k a_a_depth_k a_a_value_k i_a_clusters i_a_size i_a_starts i_a_depth i_a_value) rfl 0 5 rfl rfl rfl (st := []) rfl (Nat.le_of_ble_eq_true rfl) rd_Check_sumByRecursion_10 ?_ ⟨Nat.le_refl _, Nat.le_refl _⟩
  refine jk_istore C rd_Check_sumByRecursion_13 (by decide) (lv' := [(4, jk_V q10), (3, jk_V q4), (2, jk_V 0), (0, .ref a_a), (1, jk_V x1)]) rfl ?_
  refine jk_lv (lv' := [(0, .ref a_a), (2, jk_V 0), (3, jk_V q4), (4, jk_V q10)]) [3, 2, 1, 0] rfl ?_
  exact bk_15 jk_F 0 q4 q10 hf
def wd_Check_sums (cI : ClassId) (a_a a_a_starts a_a_depth a_a_topic a_a_value a_a_nibbled a_a_starts_k a_a_depth_k a_a_value_k a_a_nibbled_k : Nat) (i_a_clusters : Int) (i_a_size : Int) (i_a_starts : (Int → Int)) (i_a_depth : (Int → Int)) (i_a_value : (Int → Int)) (i_a_nibbled : (Int → Int)) : va_W := [(a_a, .inr (5, [jk_V i_a_clusters, jk_V i_a_size, .ref a_a_starts, .ref a_a_depth, .ref a_a_topic, .ref a_a_value, .ref a_a_nibbled])), (a_a_starts, .inr (0, [.ref a_a_starts_k])), (a_a_starts_k, jk_W cI 7 i_a_starts), (a_a_depth, .inr (0, [.ref a_a_depth_k])), (a_a_depth_k, jk_W cI 40 i_a_depth), (a_a_value, .inr (0, [.ref a_a_value_k])), (a_a_value_k, jk_W cI 40 i_a_value), (a_a_nibbled, .inr (0, [.ref a_a_nibbled_k])), (a_a_nibbled_k, jk_W cI 40 i_a_nibbled)]
set_option maxHeartbeats 4000000 in
set_option maxRecDepth 20000 in
theorem ct_Check_sums (l : Launch) (D : va_G) (Z : (Nat → Prop) → State → Heap → Prop) (sq : Nat → Nat) (hZ : jk_ZK Z sq) (cI cR : ClassId) (a_a a_a_starts a_a_depth a_a_topic a_a_value a_a_nibbled a_a_starts_k a_a_depth_k a_a_value_k a_a_nibbled_k : Nat) (i_a_clusters : Int) (i_a_size : Int) (i_a_starts : (Int → Int)) (i_a_depth : (Int → Int)) (i_a_value : (Int → Int)) (i_a_nibbled : (Int → Int)) (q : Int) (hf : fn_Check_sums i_a_clusters i_a_size i_a_starts i_a_depth i_a_value i_a_nibbled = some q) : jk_MI l D jk_cl (jk_ty cI cR) Z mn_Check_sums (.code mn_Check_sums mb_Check_sums 2 (some .boolean) :: jk_WA) (jk_rm 12 292) [.ref a_a] (wd_Check_sums cI a_a a_a_starts a_a_depth a_a_topic a_a_value a_a_nibbled a_a_starts_k a_a_depth_k a_a_value_k a_a_nibbled_k i_a_clusters i_a_size i_a_starts i_a_depth i_a_value i_a_nibbled) (wd_Check_sums cI a_a a_a_starts a_a_depth a_a_topic a_a_value a_a_nibbled a_a_starts_k a_a_depth_k a_a_value_k a_a_nibbled_k i_a_clusters i_a_size i_a_starts i_a_depth i_a_value i_a_nibbled) q := by
  intro sz
  refine jk_body (by decide +kernel) (fun p e s m args below meth c hsz hz hin C => ?_) (Nat.le_of_ble_eq_true rfl)
  subst hsz
  unfold fn_Check_sums at hf
  have bk_2 : ∀ (n : Nat) (v1 : Int), fn_Check_sums_b2 n i_a_clusters i_a_size i_a_starts i_a_depth i_a_value i_a_nibbled v1 = some q → jk_J p l e (jk_rm 12 292) s m args below meth c 0 0 (jk_QI below D jk_cl (jk_ty cI cR) (wd_Check_sums cI a_a a_a_starts a_a_depth a_a_topic a_a_value a_a_nibbled a_a_starts_k a_a_depth_k a_a_value_k a_a_nibbled_k i_a_clusters i_a_size i_a_starts i_a_depth i_a_value i_a_nibbled) (wd_Check_sums cI a_a a_a_starts a_a_depth a_a_topic a_a_value a_a_nibbled a_a_starts_k a_a_depth_k a_a_value_k a_a_nibbled_k i_a_clusters i_a_size i_a_starts i_a_depth i_a_value i_a_nibbled) args s q) D jk_cl (va_A (wd_Check_sums cI a_a a_a_starts a_a_depth a_a_topic a_a_value a_a_nibbled a_a_starts_k a_a_depth_k a_a_value_k a_a_nibbled_k i_a_clusters i_a_size i_a_starts i_a_depth i_a_value i_a_nibbled) s.heap.size) 2 (wd_Check_sums cI a_a a_a_starts a_a_depth a_a_topic a_a_value a_a_nibbled a_a_starts_k a_a_depth_k a_a_value_k a_a_nibbled_k i_a_clusters i_a_size i_a_starts i_a_depth i_a_value i_a_nibbled) [(0, .ref a_a), (1, jk_V v1)] 2 [] := by
    intro n
    induction n with
    | zero => intro v1 hf; exact nomatch (show none = some q from hf)
    | succ n ih =>
      intro v1 hf
      rw [fn_Check_sums_b2] at hf
      refine jk_iload_n C rd_Check_sums_2 (k := 1) rfl ?_
      refine jk_aload_n C rd_Check_sums_3 (k := 0) rfl ?_
      refine jk_getN C in_Cords (ci := 5) rfl 0 (by decide) (jk_nw hZ hz tn_11) 0 rfl rfl rd_Check_sums_4 ?_
      refine jk_icmp_ge (tgt := 39) C rd_Check_sums_7 (by decide) hf (fun _ hf => ?_) (fun _ hf => ?_)
      · refine jk_iconst C rd_Check_sums_39 ?_
        cases hf
        exact jk_zret C (Or.inr rfl) rfl rd_Check_sums_40 rfl
      · refine jk_aload_n C rd_Check_sums_10 (k := 0) rfl ?_
        refine jk_iload_n C rd_Check_sums_11 (k := 1) rfl ?_
        obtain ⟨q12, hq12, hf⟩ := jk_bind_h hf
        refine jk_callVi C hZ.1 hz (ct_Cords_hasKnownSum l D Z sq hZ cI cR a_a a_a_starts a_a_depth a_a_topic a_a_value a_a_nibbled a_a_starts_k a_a_depth_k a_a_nibbled_k i_a_clusters i_a_size i_a_starts i_a_depth i_a_nibbled v1 q12 hq12) tm_764 tm_588 tm_589 tm_6 tm_590 na_Cords_hasKnownSum ⟨Nat.le_of_ble_eq_true rfl, Nat.le_of_ble_eq_true rfl⟩ rfl [0, 1, 2, 3, 4, 7, 8] rfl rfl rfl (ws' := wd_Check_sums cI a_a a_a_starts a_a_depth a_a_topic a_a_value a_a_nibbled a_a_starts_k a_a_depth_k a_a_value_k a_a_nibbled_k i_a_clusters i_a_size i_a_starts i_a_depth i_a_value i_a_nibbled) rfl 0 5 rfl rfl rfl (st := []) rfl (Nat.le_of_ble_eq_true rfl) rd_Check_sums_12 ?_ ⟨Nat.le_refl _, Nat.le_refl _⟩
        refine jk_if_eq (tgt := 33) C rd_Check_sums_15 (by decide) hf (fun _ hf => ?_) (fun _ hf => ?_)
        · refine jk_iinc C rd_Check_sums_33 (k := 1) rfl (by decide) (lv' := [(1, jk_V (v1 + 1)), (0, .ref a_a)]) rfl ?_
          refine jk_goto (tgt := 2) C rd_Check_sums_36 (by decide) ?_
          refine jk_lv (lv' := [(0, .ref a_a), (1, jk_V (v1 + 1))]) [1, 0] rfl ?_
          exact ih (v1 + 1) hf
        · refine jk_aload_n C rd_Check_sums_18 (k := 0) rfl ?_
          refine jk_iload_n C rd_Check_sums_19 (k := 1) rfl ?_
          obtain ⟨q20, hq20, hf⟩ := jk_bind_h hf
          refine jk_callVi C hZ.1 hz (ct_Cords_sum l D Z sq hZ cI cR a_a a_a_starts a_a_depth a_a_topic a_a_value a_a_nibbled a_a_starts_k a_a_depth_k a_a_value_k i_a_clusters i_a_size i_a_starts i_a_depth i_a_value v1 q20 hq20) tm_765 tm_597 tm_598 tm_6 tm_599 na_Cords_sum ⟨Nat.le_of_ble_eq_true rfl, Nat.le_of_ble_eq_true rfl⟩ rfl [0, 1, 2, 3, 4, 5, 6] rfl rfl rfl (ws' := wd_Check_sums cI a_a a_a_starts a_a_depth a_a_topic a_a_value a_a_nibbled a_a_starts_k a_a_depth_k a_a_value_k a_a_nibbled_k i_a_clusters i_a_size i_a_starts i_a_depth i_a_value i_a_nibbled) rfl 0 5 rfl rfl rfl (st := []) rfl (Nat.le_of_ble_eq_true rfl) rd_Check_sums_20 ?_ ⟨Nat.le_refl _, Nat.le_refl _⟩
          refine jk_aload_n C rd_Check_sums_23 (k := 0) rfl ?_
          refine jk_iload_n C rd_Check_sums_24 (k := 1) rfl ?_
          obtain ⟨q25, hq25, hf⟩ := jk_bind_h hf
          refine jk_callSi C hZ.1 hz (ct_Check_sumByRecursion l D Z sq hZ cI cR a_a a_a_starts a_a_depth a_a_topic a_a_value a_a_nibbled a_a_starts_k a_a_depth_k a_a_value_k i_a_clusters i_a_size i_a_starts i_a_depth i_a_value v1 q25 hq25) tm_766 tm_767 tm_22 tm_768 na_Check_sumByRecursion ⟨Nat.le_of_ble_eq_true rfl, Nat.le_of_ble_eq_true rfl⟩ rfl [0, 1, 2, 3, 4, 5, 6] rfl rfl rfl (ws' := wd_Check_sums cI a_a a_a_starts a_a_depth a_a_topic a_a_value a_a_nibbled a_a_starts_k a_a_depth_k a_a_value_k a_a_nibbled_k i_a_clusters i_a_size i_a_starts i_a_depth i_a_value i_a_nibbled) rfl (st := [jk_V q20]) rfl (Nat.le_of_ble_eq_true rfl) rd_Check_sums_25 ?_ ⟨Nat.le_refl _, Nat.le_refl _⟩
          refine jk_icmp_eq (tgt := 33) C rd_Check_sums_28 (by decide) hf (fun _ hf => ?_) (fun _ hf => ?_)
          · refine jk_iinc C rd_Check_sums_33 (k := 1) rfl (by decide) (lv' := [(1, jk_V (v1 + 1)), (0, .ref a_a)]) rfl ?_
            refine jk_goto (tgt := 2) C rd_Check_sums_36 (by decide) ?_
            refine jk_lv (lv' := [(0, .ref a_a), (1, jk_V (v1 + 1))]) [1, 0] rfl ?_
            exact ih (v1 + 1) hf
          · refine jk_iconst C rd_Check_sums_31 ?_
            cases hf
            exact jk_zret C (Or.inl rfl) rfl rd_Check_sums_32 rfl
  refine jk_iconst C rd_Check_sums_0 ?_
  refine jk_istore_n C rd_Check_sums_1 (by decide) (lv' := [(1, jk_V 0), (0, .ref a_a)]) rfl ?_
  refine jk_lv (lv' := [(0, .ref a_a), (1, jk_V 0)]) [1, 0] rfl ?_
  exact bk_2 jk_F 0 hf
def wd_Check_guesses (cI : ClassId) (a_a a_a_starts a_a_depth a_a_topic a_a_value a_a_nibbled a_a_starts_k a_a_depth_k a_a_topic_k a_a_value_k a_a_nibbled_k a_b a_b_starts a_b_depth a_b_topic a_b_value a_b_nibbled a_b_starts_k a_b_depth_k a_b_topic_k a_b_value_k a_b_nibbled_k : Nat) (i_a_clusters : Int) (i_a_size : Int) (i_a_starts : (Int → Int)) (i_a_depth : (Int → Int)) (i_a_topic : (Int → Int)) (i_a_value : (Int → Int)) (i_a_nibbled : (Int → Int)) (i_b_clusters : Int) (i_b_size : Int) (i_b_starts : (Int → Int)) (i_b_depth : (Int → Int)) (i_b_topic : (Int → Int)) (i_b_value : (Int → Int)) (i_b_nibbled : (Int → Int)) : va_W := [(a_a, .inr (5, [jk_V i_a_clusters, jk_V i_a_size, .ref a_a_starts, .ref a_a_depth, .ref a_a_topic, .ref a_a_value, .ref a_a_nibbled])), (a_a_starts, .inr (0, [.ref a_a_starts_k])), (a_a_starts_k, jk_W cI 7 i_a_starts), (a_a_depth, .inr (0, [.ref a_a_depth_k])), (a_a_depth_k, jk_W cI 40 i_a_depth), (a_a_topic, .inr (0, [.ref a_a_topic_k])), (a_a_topic_k, jk_W cI 40 i_a_topic), (a_a_value, .inr (0, [.ref a_a_value_k])), (a_a_value_k, jk_W cI 40 i_a_value), (a_a_nibbled, .inr (0, [.ref a_a_nibbled_k])), (a_a_nibbled_k, jk_W cI 40 i_a_nibbled), (a_b, .inr (5, [jk_V i_b_clusters, jk_V i_b_size, .ref a_b_starts, .ref a_b_depth, .ref a_b_topic, .ref a_b_value, .ref a_b_nibbled])), (a_b_starts, .inr (0, [.ref a_b_starts_k])), (a_b_starts_k, jk_W cI 7 i_b_starts), (a_b_depth, .inr (0, [.ref a_b_depth_k])), (a_b_depth_k, jk_W cI 40 i_b_depth), (a_b_topic, .inr (0, [.ref a_b_topic_k])), (a_b_topic_k, jk_W cI 40 i_b_topic), (a_b_value, .inr (0, [.ref a_b_value_k])), (a_b_value_k, jk_W cI 40 i_b_value), (a_b_nibbled, .inr (0, [.ref a_b_nibbled_k])), (a_b_nibbled_k, jk_W cI 40 i_b_nibbled)]
set_option maxHeartbeats 4000000 in
set_option maxRecDepth 20000 in
theorem ct_Check_guesses (l : Launch) (D : va_G) (Z : (Nat → Prop) → State → Heap → Prop) (sq : Nat → Nat) (hZ : jk_ZK Z sq) (cI cR : ClassId) (a_a a_a_starts a_a_depth a_a_topic a_a_value a_a_nibbled a_a_starts_k a_a_depth_k a_a_topic_k a_a_value_k a_a_nibbled_k a_b a_b_starts a_b_depth a_b_topic a_b_value a_b_nibbled a_b_starts_k a_b_depth_k a_b_topic_k a_b_value_k a_b_nibbled_k : Nat) (i_a_clusters : Int) (i_a_size : Int) (i_a_starts : (Int → Int)) (i_a_depth : (Int → Int)) (i_a_topic : (Int → Int)) (i_a_value : (Int → Int)) (i_a_nibbled : (Int → Int)) (i_b_clusters : Int) (i_b_size : Int) (i_b_starts : (Int → Int)) (i_b_depth : (Int → Int)) (i_b_topic : (Int → Int)) (i_b_value : (Int → Int)) (i_b_nibbled : (Int → Int)) (q : Int × Int × Int × (Int → Int) × (Int → Int) × (Int → Int) × (Int → Int) × (Int → Int)) (hf : fn_Check_guesses i_a_clusters i_a_size i_a_starts i_a_depth i_a_topic i_a_value i_a_nibbled i_b_clusters i_b_size i_b_starts i_b_depth i_b_topic i_b_value i_b_nibbled = some q) : jk_MI l D jk_cl (jk_ty cI cR) Z mn_Check_guesses (.code mn_Check_guesses mb_Check_guesses 3 (some .boolean) :: jk_WA) (jk_rm 4 92) [.ref a_a, .ref a_b] (wd_Check_guesses cI a_a a_a_starts a_a_depth a_a_topic a_a_value a_a_nibbled a_a_starts_k a_a_depth_k a_a_topic_k a_a_value_k a_a_nibbled_k a_b a_b_starts a_b_depth a_b_topic a_b_value a_b_nibbled a_b_starts_k a_b_depth_k a_b_topic_k a_b_value_k a_b_nibbled_k i_a_clusters i_a_size i_a_starts i_a_depth i_a_topic i_a_value i_a_nibbled i_b_clusters i_b_size i_b_starts i_b_depth i_b_topic i_b_value i_b_nibbled) (wd_Check_guesses cI a_a a_a_starts a_a_depth a_a_topic a_a_value a_a_nibbled a_a_starts_k a_a_depth_k a_a_topic_k a_a_value_k a_a_nibbled_k a_b a_b_starts a_b_depth a_b_topic a_b_value a_b_nibbled a_b_starts_k a_b_depth_k a_b_topic_k a_b_value_k a_b_nibbled_k i_a_clusters i_a_size i_a_starts i_a_depth i_a_topic i_a_value i_a_nibbled q.2.1 q.2.2.1 q.2.2.2.1 q.2.2.2.2.1 q.2.2.2.2.2.1 q.2.2.2.2.2.2.1 q.2.2.2.2.2.2.2) q.1 := by
  intro sz
  refine jk_body (by decide +kernel) (fun p e s m args below meth c hsz hz hin C => ?_) (Nat.le_of_ble_eq_true rfl)
  subst hsz
  unfold fn_Check_guesses at hf
  have bk_2 : ∀ (n : Nat) (b_clusters : Int) (b_size : Int) (b_starts : (Int → Int)) (b_depth : (Int → Int)) (b_topic : (Int → Int)) (b_value : (Int → Int)) (b_nibbled : (Int → Int)) (v2 : Int), fn_Check_guesses_b2 n i_a_clusters i_a_size i_a_starts i_a_depth i_a_topic i_a_value i_a_nibbled b_clusters b_size b_starts b_depth b_topic b_value b_nibbled v2 = some q → jk_J p l e (jk_rm 4 92) s m args below meth c 0 0 (jk_QI below D jk_cl (jk_ty cI cR) (wd_Check_guesses cI a_a a_a_starts a_a_depth a_a_topic a_a_value a_a_nibbled a_a_starts_k a_a_depth_k a_a_topic_k a_a_value_k a_a_nibbled_k a_b a_b_starts a_b_depth a_b_topic a_b_value a_b_nibbled a_b_starts_k a_b_depth_k a_b_topic_k a_b_value_k a_b_nibbled_k i_a_clusters i_a_size i_a_starts i_a_depth i_a_topic i_a_value i_a_nibbled i_b_clusters i_b_size i_b_starts i_b_depth i_b_topic i_b_value i_b_nibbled) (wd_Check_guesses cI a_a a_a_starts a_a_depth a_a_topic a_a_value a_a_nibbled a_a_starts_k a_a_depth_k a_a_topic_k a_a_value_k a_a_nibbled_k a_b a_b_starts a_b_depth a_b_topic a_b_value a_b_nibbled a_b_starts_k a_b_depth_k a_b_topic_k a_b_value_k a_b_nibbled_k i_a_clusters i_a_size i_a_starts i_a_depth i_a_topic i_a_value i_a_nibbled q.2.1 q.2.2.1 q.2.2.2.1 q.2.2.2.2.1 q.2.2.2.2.2.1 q.2.2.2.2.2.2.1 q.2.2.2.2.2.2.2) args s q.1) D jk_cl (va_A (wd_Check_guesses cI a_a a_a_starts a_a_depth a_a_topic a_a_value a_a_nibbled a_a_starts_k a_a_depth_k a_a_topic_k a_a_value_k a_a_nibbled_k a_b a_b_starts a_b_depth a_b_topic a_b_value a_b_nibbled a_b_starts_k a_b_depth_k a_b_topic_k a_b_value_k a_b_nibbled_k i_a_clusters i_a_size i_a_starts i_a_depth i_a_topic i_a_value i_a_nibbled i_b_clusters i_b_size i_b_starts i_b_depth i_b_topic i_b_value i_b_nibbled) s.heap.size) 3 (wd_Check_guesses cI a_a a_a_starts a_a_depth a_a_topic a_a_value a_a_nibbled a_a_starts_k a_a_depth_k a_a_topic_k a_a_value_k a_a_nibbled_k a_b a_b_starts a_b_depth a_b_topic a_b_value a_b_nibbled a_b_starts_k a_b_depth_k a_b_topic_k a_b_value_k a_b_nibbled_k i_a_clusters i_a_size i_a_starts i_a_depth i_a_topic i_a_value i_a_nibbled b_clusters b_size b_starts b_depth b_topic b_value b_nibbled) [(0, .ref a_a), (1, .ref a_b), (2, jk_V v2)] 2 [] := by
    intro n
    induction n with
    | zero => intro b_clusters b_size b_starts b_depth b_topic b_value b_nibbled v2 hf; exact nomatch (show none = some q from hf)
    | succ n ih =>
      intro b_clusters b_size b_starts b_depth b_topic b_value b_nibbled v2 hf
      rw [fn_Check_guesses_b2] at hf
      refine jk_iload_n C rd_Check_guesses_2 (k := 2) rfl ?_
      refine jk_aload_n C rd_Check_guesses_3 (k := 0) rfl ?_
      refine jk_getN C in_Cords (ci := 5) rfl 0 (by decide) (jk_nw hZ hz tn_11) 0 rfl rfl rd_Check_guesses_4 ?_
      refine jk_icmp_ge (tgt := 46) C rd_Check_guesses_7 (by decide) hf (fun _ hf => ?_) (fun _ hf => ?_)
      · refine jk_iconst C rd_Check_guesses_46 ?_
        cases hf
        exact jk_zret C (Or.inr rfl) rfl rd_Check_guesses_47 rfl
      · refine jk_aload_n C rd_Check_guesses_10 (k := 0) rfl ?_
        refine jk_iload_n C rd_Check_guesses_11 (k := 2) rfl ?_
        obtain ⟨q12, hq12, hf⟩ := jk_bind_h hf
        refine jk_callVi C hZ.1 hz (ct_Cords_obstacle l D Z sq hZ cI cR a_a a_a_starts a_a_depth a_a_topic a_a_value a_a_nibbled a_a_starts_k a_a_depth_k a_a_value_k a_a_nibbled_k i_a_clusters i_a_size i_a_starts i_a_depth i_a_value i_a_nibbled v2 q12 hq12) tm_772 tm_616 tm_617 tm_6 tm_618 na_Cords_obstacle ⟨Nat.le_of_ble_eq_true rfl, Nat.le_of_ble_eq_true rfl⟩ rfl [0, 1, 2, 3, 4, 7, 8, 9, 10] rfl rfl rfl (ws' := wd_Check_guesses cI a_a a_a_starts a_a_depth a_a_topic a_a_value a_a_nibbled a_a_starts_k a_a_depth_k a_a_topic_k a_a_value_k a_a_nibbled_k a_b a_b_starts a_b_depth a_b_topic a_b_value a_b_nibbled a_b_starts_k a_b_depth_k a_b_topic_k a_b_value_k a_b_nibbled_k i_a_clusters i_a_size i_a_starts i_a_depth i_a_topic i_a_value i_a_nibbled b_clusters b_size b_starts b_depth b_topic b_value b_nibbled) rfl 0 5 rfl rfl rfl (st := []) rfl (Nat.le_of_ble_eq_true rfl) rd_Check_guesses_12 ?_ ⟨Nat.le_refl _, Nat.le_refl _⟩
        refine jk_if_ne (tgt := 40) C rd_Check_guesses_15 (by decide) hf (fun _ hf => ?_) (fun _ hf => ?_)
        · refine jk_iinc C rd_Check_guesses_40 (k := 2) rfl (by decide) (lv' := [(2, jk_V (v2 + 1)), (0, .ref a_a), (1, .ref a_b)]) rfl ?_
          refine jk_goto (tgt := 2) C rd_Check_guesses_43 (by decide) ?_
          refine jk_lv (lv' := [(0, .ref a_a), (1, .ref a_b), (2, jk_V (v2 + 1))]) [1, 2, 0] rfl ?_
          exact ih b_clusters b_size b_starts b_depth b_topic b_value b_nibbled (v2 + 1) hf
        · refine jk_aload_n C rd_Check_guesses_18 (k := 1) rfl ?_
          refine jk_aload_n C rd_Check_guesses_19 (k := 0) rfl ?_
          obtain ⟨q20, hq20, hf⟩ := jk_bind_h hf
          refine jk_callVv C hZ.1 hz (ct_Cords_copyFrom l D Z sq hZ cI cR a_b a_b_starts a_b_depth a_b_topic a_b_value a_b_nibbled a_b_starts_k a_b_depth_k a_b_topic_k a_b_value_k a_b_nibbled_k a_a a_a_starts a_a_depth a_a_topic a_a_value a_a_nibbled a_a_starts_k a_a_depth_k a_a_topic_k a_a_value_k a_a_nibbled_k b_clusters b_size b_starts b_depth b_topic b_value b_nibbled i_a_clusters i_a_size i_a_starts i_a_depth i_a_topic i_a_value i_a_nibbled q20 hq20) tm_773 tm_491 tm_492 tm_6 tm_493 na_Cords_copyFrom ⟨Nat.le_of_ble_eq_true rfl, Nat.le_of_ble_eq_true rfl⟩ rfl [11, 12, 13, 14, 15, 16, 17, 18, 19, 20, 21, 0, 1, 2, 3, 4, 5, 6, 7, 8, 9, 10] rfl rfl rfl (ws' := wd_Check_guesses cI a_a a_a_starts a_a_depth a_a_topic a_a_value a_a_nibbled a_a_starts_k a_a_depth_k a_a_topic_k a_a_value_k a_a_nibbled_k a_b a_b_starts a_b_depth a_b_topic a_b_value a_b_nibbled a_b_starts_k a_b_depth_k a_b_topic_k a_b_value_k a_b_nibbled_k i_a_clusters i_a_size i_a_starts i_a_depth i_a_topic i_a_value i_a_nibbled q20.1 q20.2.1 q20.2.2.1 q20.2.2.2.1 q20.2.2.2.2.1 q20.2.2.2.2.2.1 q20.2.2.2.2.2.2) rfl 11 5 rfl rfl rfl (st := []) rfl (Nat.le_of_ble_eq_true rfl) rd_Check_guesses_20 ?_ ⟨Nat.le_refl _, Nat.le_refl _⟩
          refine jk_aload_n C rd_Check_guesses_23 (k := 1) rfl ?_
          refine jk_iload_n C rd_Check_guesses_24 (k := 2) rfl ?_
          obtain ⟨q25, hq25, hf⟩ := jk_bind_h hf
          refine jk_callVi C hZ.1 hz (ct_Cords_mend l D Z sq hZ cI cR a_b a_b_starts a_b_depth a_b_topic a_b_value a_b_nibbled a_b_starts_k a_b_value_k a_b_nibbled_k q20.1 q20.2.1 q20.2.2.1 q20.2.2.2.2.2.1 q20.2.2.2.2.2.2 v2 q25 hq25) tm_774 tm_672 tm_673 tm_6 tm_674 na_Cords_mend ⟨Nat.le_of_ble_eq_true rfl, Nat.le_of_ble_eq_true rfl⟩ rfl [11, 12, 13, 18, 19, 20, 21] rfl rfl rfl (ws' := wd_Check_guesses cI a_a a_a_starts a_a_depth a_a_topic a_a_value a_a_nibbled a_a_starts_k a_a_depth_k a_a_topic_k a_a_value_k a_a_nibbled_k a_b a_b_starts a_b_depth a_b_topic a_b_value a_b_nibbled a_b_starts_k a_b_depth_k a_b_topic_k a_b_value_k a_b_nibbled_k i_a_clusters i_a_size i_a_starts i_a_depth i_a_topic i_a_value i_a_nibbled q20.1 q20.2.1 q20.2.2.1 q20.2.2.2.1 q20.2.2.2.2.1 q25.2.1 q25.2.2) rfl 11 5 rfl rfl rfl (st := []) rfl (Nat.le_of_ble_eq_true rfl) rd_Check_guesses_25 ?_ ⟨Nat.le_refl _, Nat.le_refl _⟩
          refine jk_pop C rd_Check_guesses_28 rfl ?_
          refine jk_aload_n C rd_Check_guesses_29 (k := 1) rfl ?_
          refine jk_iload_n C rd_Check_guesses_30 (k := 2) rfl ?_
          obtain ⟨q31, hq31, hf⟩ := jk_bind_h hf
          refine jk_callVi C hZ.1 hz (ct_Cords_state l D Z sq hZ cI cR a_b a_b_starts a_b_depth a_b_topic a_b_value a_b_nibbled a_b_starts_k a_b_depth_k a_b_value_k a_b_nibbled_k q20.1 q20.2.1 q20.2.2.1 q20.2.2.2.1 q25.2.1 q25.2.2 v2 q31 hq31) tm_775 tm_710 tm_711 tm_6 tm_712 na_Cords_state ⟨Nat.le_of_ble_eq_true rfl, Nat.le_of_ble_eq_true rfl⟩ rfl [11, 12, 13, 14, 15, 18, 19, 20, 21] rfl rfl rfl (ws' := wd_Check_guesses cI a_a a_a_starts a_a_depth a_a_topic a_a_value a_a_nibbled a_a_starts_k a_a_depth_k a_a_topic_k a_a_value_k a_a_nibbled_k a_b a_b_starts a_b_depth a_b_topic a_b_value a_b_nibbled a_b_starts_k a_b_depth_k a_b_topic_k a_b_value_k a_b_nibbled_k i_a_clusters i_a_size i_a_starts i_a_depth i_a_topic i_a_value i_a_nibbled q20.1 q20.2.1 q20.2.2.1 q20.2.2.2.1 q20.2.2.2.2.1 q25.2.1 q25.2.2) rfl 11 5 rfl rfl rfl (st := []) rfl (Nat.le_of_ble_eq_true rfl) rd_Check_guesses_31 ?_ ⟨Nat.le_refl _, Nat.le_refl _⟩
          refine jk_iconst C rd_Check_guesses_34 ?_
          refine jk_icmp_eq (tgt := 40) C rd_Check_guesses_35 (by decide) hf (fun _ hf => ?_) (fun _ hf => ?_)
          · refine jk_iinc C rd_Check_guesses_40 (k := 2) rfl (by decide) (lv' := [(2, jk_V (v2 + 1)), (0, .ref a_a), (1, .ref a_b)]) rfl ?_
            refine jk_goto (tgt := 2) C rd_Check_guesses_43 (by decide) ?_
            refine jk_lv (lv' := [(0, .ref a_a), (1, .ref a_b), (2, jk_V (v2 + 1))]) [1, 2, 0] rfl ?_
            exact ih q20.1 q20.2.1 q20.2.2.1 q20.2.2.2.1 q20.2.2.2.2.1 q25.2.1 q25.2.2 (v2 + 1) hf
          · refine jk_iconst C rd_Check_guesses_38 ?_
            cases hf
            exact jk_zret C (Or.inl rfl) rfl rd_Check_guesses_39 rfl
  refine jk_iconst C rd_Check_guesses_0 ?_
  refine jk_istore_n C rd_Check_guesses_1 (by decide) (lv' := [(2, jk_V 0), (0, .ref a_a), (1, .ref a_b)]) rfl ?_
  refine jk_lv (lv' := [(0, .ref a_a), (1, .ref a_b), (2, jk_V 0)]) [1, 2, 0] rfl ?_
  exact bk_2 jk_F i_b_clusters i_b_size i_b_starts i_b_depth i_b_topic i_b_value i_b_nibbled 0 hf
def wd_Script_readFirst (cI : ClassId) (a_a a_a_bytes a_a_bytes_k : Nat) (i_a_length : Int) (i_a_kind : Int) (i_a_start : Int) (i_a_end : Int) (i_a_code : Int) (i_a_offset : Int) (i_a_bytes : (Int → Int)) : va_W := [(a_a, .inr (3, [.ref a_a_bytes, jk_V i_a_length, jk_V i_a_kind, jk_V i_a_start, jk_V i_a_end, jk_V i_a_code, jk_V i_a_offset])), (a_a_bytes, .inr (0, [.ref a_a_bytes_k])), (a_a_bytes_k, jk_W cI 700 i_a_bytes)]
set_option maxHeartbeats 4000000 in
set_option maxRecDepth 20000 in
theorem ct_Script_readFirst (l : Launch) (D : va_G) (Z : (Nat → Prop) → State → Heap → Prop) (sq : Nat → Nat) (hZ : jk_ZK Z sq) (cI cR : ClassId) (a_a a_a_bytes a_a_bytes_k : Nat) (i_a_length : Int) (i_a_kind : Int) (i_a_start : Int) (i_a_end : Int) (i_a_code : Int) (i_a_offset : Int) (i_a_bytes : (Int → Int)) (x1 : Int) (q : Int × Int × Int × Int × Int × Int) (hf : fn_Script_readFirst i_a_bytes i_a_length i_a_kind i_a_start i_a_end i_a_code i_a_offset x1 = some q) : jk_MI l D jk_cl (jk_ty cI cR) Z mn_Script_readFirst (.code mn_Script_readFirst mb_Script_readFirst 2 (some .int) :: jk_WA) (jk_rm 4 88) [.ref a_a, jk_V x1] (wd_Script_readFirst cI a_a a_a_bytes a_a_bytes_k i_a_length i_a_kind i_a_start i_a_end i_a_code i_a_offset i_a_bytes) (wd_Script_readFirst cI a_a a_a_bytes a_a_bytes_k i_a_length q.2.1 q.2.2.1 q.2.2.2.1 q.2.2.2.2.1 q.2.2.2.2.2 i_a_bytes) q.1 := by
  intro sz
  refine jk_body (by decide +kernel) (fun p e s m args below meth c hsz hz hin C => ?_) (Nat.le_of_ble_eq_true rfl)
  subst hsz
  unfold fn_Script_readFirst at hf
  refine jk_iload_n C rd_Script_readFirst_0 (k := 1) rfl ?_
  refine jk_if_ne (tgt := 6) C rd_Script_readFirst_1 (by decide) hf (fun _ hf => ?_) (fun _ hf => ?_)
  · refine jk_iload_n C rd_Script_readFirst_6 (k := 1) rfl ?_
    refine jk_iconst C rd_Script_readFirst_7 ?_
    refine jk_icmp_eq (tgt := 22) C rd_Script_readFirst_8 (by decide) hf (fun _ hf => ?_) (fun _ hf => ?_)
    · refine jk_aload_n C rd_Script_readFirst_22 (k := 0) rfl ?_
      refine jk_iconst C rd_Script_readFirst_23 ?_
      refine jk_iconst C rd_Script_readFirst_24 ?_
      obtain ⟨q25, hq25, hf⟩ := jk_bind_h hf
      refine jk_callVi C hZ.1 hz (ct_Text_readNumber l D Z sq hZ cI cR a_a a_a_bytes a_a_bytes_k i_a_length i_a_kind i_a_start i_a_end i_a_code i_a_offset i_a_bytes 0 5 q25 hq25) tm_531 tm_358 tm_359 tm_2 tm_360 na_Text_readNumber ⟨Nat.le_of_ble_eq_true rfl, Nat.le_of_ble_eq_true rfl⟩ rfl [0, 1, 2] rfl rfl rfl (ws' := wd_Script_readFirst cI a_a a_a_bytes a_a_bytes_k i_a_length q25.2.1 q25.2.2.1 q25.2.2.2.1 q25.2.2.2.2.1 q25.2.2.2.2.2 i_a_bytes) rfl 0 3 rfl rfl rfl (st := []) rfl (Nat.le_of_ble_eq_true rfl) rd_Script_readFirst_25 ?_ ⟨Nat.le_refl _, Nat.le_refl _⟩
      cases hf
      exact jk_iret C rfl rd_Script_readFirst_28 rfl
    · refine jk_iload_n C rd_Script_readFirst_11 (k := 1) rfl ?_
      refine jk_iconst C rd_Script_readFirst_12 ?_
      refine jk_icmp_eq (tgt := 22) C rd_Script_readFirst_13 (by decide) hf (fun _ hf => ?_) (fun _ hf => ?_)
      · refine jk_aload_n C rd_Script_readFirst_22 (k := 0) rfl ?_
        refine jk_iconst C rd_Script_readFirst_23 ?_
        refine jk_iconst C rd_Script_readFirst_24 ?_
        obtain ⟨q25, hq25, hf⟩ := jk_bind_h hf
        refine jk_callVi C hZ.1 hz (ct_Text_readNumber l D Z sq hZ cI cR a_a a_a_bytes a_a_bytes_k i_a_length i_a_kind i_a_start i_a_end i_a_code i_a_offset i_a_bytes 0 5 q25 hq25) tm_531 tm_358 tm_359 tm_2 tm_360 na_Text_readNumber ⟨Nat.le_of_ble_eq_true rfl, Nat.le_of_ble_eq_true rfl⟩ rfl [0, 1, 2] rfl rfl rfl (ws' := wd_Script_readFirst cI a_a a_a_bytes a_a_bytes_k i_a_length q25.2.1 q25.2.2.1 q25.2.2.2.1 q25.2.2.2.2.1 q25.2.2.2.2.2 i_a_bytes) rfl 0 3 rfl rfl rfl (st := []) rfl (Nat.le_of_ble_eq_true rfl) rd_Script_readFirst_25 ?_ ⟨Nat.le_refl _, Nat.le_refl _⟩
        cases hf
        exact jk_iret C rfl rd_Script_readFirst_28 rfl
      · refine jk_iload_n C rd_Script_readFirst_16 (k := 1) rfl ?_
        refine jk_bipush C rd_Script_readFirst_17 (by decide +kernel) ?_
        refine jk_icmp_ne (tgt := 29) C rd_Script_readFirst_19 (by decide) hf (fun _ hf => ?_) (fun _ hf => ?_)
        · refine jk_aload_n C rd_Script_readFirst_29 (k := 0) rfl ?_
          refine jk_iconst C rd_Script_readFirst_30 ?_
          refine jk_bipush C rd_Script_readFirst_31 (by decide +kernel) ?_
          obtain ⟨q33, hq33, hf⟩ := jk_bind_h hf
          refine jk_callVi C hZ.1 hz (ct_Text_readNumber l D Z sq hZ cI cR a_a a_a_bytes a_a_bytes_k i_a_length i_a_kind i_a_start i_a_end i_a_code i_a_offset i_a_bytes 0 39 q33 hq33) tm_531 tm_358 tm_359 tm_2 tm_360 na_Text_readNumber ⟨Nat.le_of_ble_eq_true rfl, Nat.le_of_ble_eq_true rfl⟩ rfl [0, 1, 2] rfl rfl rfl (ws' := wd_Script_readFirst cI a_a a_a_bytes a_a_bytes_k i_a_length q33.2.1 q33.2.2.1 q33.2.2.2.1 q33.2.2.2.2.1 q33.2.2.2.2.2 i_a_bytes) rfl 0 3 rfl rfl rfl (st := []) rfl (Nat.le_of_ble_eq_true rfl) rd_Script_readFirst_33 ?_ ⟨Nat.le_refl _, Nat.le_refl _⟩
          cases hf
          exact jk_iret C rfl rd_Script_readFirst_36 rfl
        · refine jk_aload_n C rd_Script_readFirst_22 (k := 0) rfl ?_
          refine jk_iconst C rd_Script_readFirst_23 ?_
          refine jk_iconst C rd_Script_readFirst_24 ?_
          obtain ⟨q25, hq25, hf⟩ := jk_bind_h hf
          refine jk_callVi C hZ.1 hz (ct_Text_readNumber l D Z sq hZ cI cR a_a a_a_bytes a_a_bytes_k i_a_length i_a_kind i_a_start i_a_end i_a_code i_a_offset i_a_bytes 0 5 q25 hq25) tm_531 tm_358 tm_359 tm_2 tm_360 na_Text_readNumber ⟨Nat.le_of_ble_eq_true rfl, Nat.le_of_ble_eq_true rfl⟩ rfl [0, 1, 2] rfl rfl rfl (ws' := wd_Script_readFirst cI a_a a_a_bytes a_a_bytes_k i_a_length q25.2.1 q25.2.2.1 q25.2.2.2.1 q25.2.2.2.2.1 q25.2.2.2.2.2 i_a_bytes) rfl 0 3 rfl rfl rfl (st := []) rfl (Nat.le_of_ble_eq_true rfl) rd_Script_readFirst_25 ?_ ⟨Nat.le_refl _, Nat.le_refl _⟩
          cases hf
          exact jk_iret C rfl rd_Script_readFirst_28 rfl
  · refine jk_iconst C rd_Script_readFirst_4 ?_
    cases hf
    exact jk_iret C rfl rd_Script_readFirst_5 rfl
def wd_Script_kindOf (cI : ClassId) (a_a a_a_bytes a_a_bytes_k : Nat) (i_a_length : Int) (i_a_kind : Int) (i_a_start : Int) (i_a_end : Int) (i_a_code : Int) (i_a_offset : Int) (i_a_bytes : (Int → Int)) : va_W := [(a_a, .inr (3, [.ref a_a_bytes, jk_V i_a_length, jk_V i_a_kind, jk_V i_a_start, jk_V i_a_end, jk_V i_a_code, jk_V i_a_offset])), (a_a_bytes, .inr (0, [.ref a_a_bytes_k])), (a_a_bytes_k, jk_W cI 700 i_a_bytes)]
set_option maxHeartbeats 4000000 in
set_option maxRecDepth 20000 in
theorem ct_Script_kindOf (l : Launch) (D : va_G) (Z : (Nat → Prop) → State → Heap → Prop) (sq : Nat → Nat) (hZ : jk_ZK Z sq) (cI cR : ClassId) (a_a a_a_bytes a_a_bytes_k : Nat) (i_a_length : Int) (i_a_kind : Int) (i_a_start : Int) (i_a_end : Int) (i_a_code : Int) (i_a_offset : Int) (i_a_bytes : (Int → Int)) (q : Int) (hf : fn_Script_kindOf i_a_bytes i_a_kind i_a_start i_a_end = some q) : jk_MI l D jk_cl (jk_ty cI cR) Z mn_Script_kindOf (.code mn_Script_kindOf mb_Script_kindOf 1 (some .int) :: jk_WA) (jk_rm 7 322) [.ref a_a] (wd_Script_kindOf cI a_a a_a_bytes a_a_bytes_k i_a_length i_a_kind i_a_start i_a_end i_a_code i_a_offset i_a_bytes) (wd_Script_kindOf cI a_a a_a_bytes a_a_bytes_k i_a_length i_a_kind i_a_start i_a_end i_a_code i_a_offset i_a_bytes) q := by
  intro sz
  refine jk_body (by decide +kernel) (fun p e s m args below meth c hsz hz hin C => ?_) (Nat.le_of_ble_eq_true rfl)
  subst hsz
  unfold fn_Script_kindOf at hf
  refine jk_aload_n C rd_Script_kindOf_0 (k := 0) rfl ?_
  refine jk_ldcs C hZ hz rd_Script_kindOf_1 (k := 7) rfl ?_
  obtain ⟨q3, hq3, hf⟩ := jk_bind_h hf
  refine jk_callVi C hZ.1 hz (ct_Text_isWord l D Z sq hZ cI cR a_a a_a_bytes a_a_bytes_k i_a_length i_a_kind i_a_start i_a_end i_a_code i_a_offset i_a_bytes ([99, 108, 117, 115, 116, 101, 114]) ((sq 7)) ((jk_zs hZ (k := 7) rfl)) q3 hq3) tm_517 tm_297 tm_298 tm_2 tm_299 na_Text_isWord ⟨Nat.le_of_ble_eq_true rfl, Nat.le_of_ble_eq_true rfl⟩ rfl [0, 1, 2] rfl rfl rfl (ws' := wd_Script_kindOf cI a_a a_a_bytes a_a_bytes_k i_a_length i_a_kind i_a_start i_a_end i_a_code i_a_offset i_a_bytes) rfl 0 3 rfl rfl rfl (st := []) rfl (Nat.le_of_ble_eq_true rfl) rd_Script_kindOf_3 ?_ ⟨Nat.le_refl _, Nat.le_refl _⟩
  refine jk_if_eq (tgt := 11) C rd_Script_kindOf_6 (by decide) hf (fun _ hf => ?_) (fun _ hf => ?_)
  · refine jk_aload_n C rd_Script_kindOf_11 (k := 0) rfl ?_
    refine jk_ldcs C hZ hz rd_Script_kindOf_12 (k := 8) rfl ?_
    obtain ⟨q14, hq14, hf⟩ := jk_bind_h hf
    refine jk_callVi C hZ.1 hz (ct_Text_isWord l D Z sq hZ cI cR a_a a_a_bytes a_a_bytes_k i_a_length i_a_kind i_a_start i_a_end i_a_code i_a_offset i_a_bytes ([112, 101, 110, 100, 97, 110, 116]) ((sq 8)) ((jk_zs hZ (k := 8) rfl)) q14 hq14) tm_517 tm_297 tm_298 tm_2 tm_299 na_Text_isWord ⟨Nat.le_of_ble_eq_true rfl, Nat.le_of_ble_eq_true rfl⟩ rfl [0, 1, 2] rfl rfl rfl (ws' := wd_Script_kindOf cI a_a a_a_bytes a_a_bytes_k i_a_length i_a_kind i_a_start i_a_end i_a_code i_a_offset i_a_bytes) rfl 0 3 rfl rfl rfl (st := []) rfl (Nat.le_of_ble_eq_true rfl) rd_Script_kindOf_14 ?_ ⟨Nat.le_refl _, Nat.le_refl _⟩
    refine jk_if_eq (tgt := 22) C rd_Script_kindOf_17 (by decide) hf (fun _ hf => ?_) (fun _ hf => ?_)
    · refine jk_aload_n C rd_Script_kindOf_22 (k := 0) rfl ?_
      refine jk_ldcs C hZ hz rd_Script_kindOf_23 (k := 9) rfl ?_
      obtain ⟨q25, hq25, hf⟩ := jk_bind_h hf
      refine jk_callVi C hZ.1 hz (ct_Text_isWord l D Z sq hZ cI cR a_a a_a_bytes a_a_bytes_k i_a_length i_a_kind i_a_start i_a_end i_a_code i_a_offset i_a_bytes ([115, 117, 98]) ((sq 9)) ((jk_zs hZ (k := 9) rfl)) q25 hq25) tm_517 tm_297 tm_298 tm_2 tm_299 na_Text_isWord ⟨Nat.le_of_ble_eq_true rfl, Nat.le_of_ble_eq_true rfl⟩ rfl [0, 1, 2] rfl rfl rfl (ws' := wd_Script_kindOf cI a_a a_a_bytes a_a_bytes_k i_a_length i_a_kind i_a_start i_a_end i_a_code i_a_offset i_a_bytes) rfl 0 3 rfl rfl rfl (st := []) rfl (Nat.le_of_ble_eq_true rfl) rd_Script_kindOf_25 ?_ ⟨Nat.le_refl _, Nat.le_refl _⟩
      refine jk_if_eq (tgt := 33) C rd_Script_kindOf_28 (by decide) hf (fun _ hf => ?_) (fun _ hf => ?_)
      · refine jk_aload_n C rd_Script_kindOf_33 (k := 0) rfl ?_
        refine jk_ldcs C hZ hz rd_Script_kindOf_34 (k := 10) rfl ?_
        obtain ⟨q36, hq36, hf⟩ := jk_bind_h hf
        refine jk_callVi C hZ.1 hz (ct_Text_isWord l D Z sq hZ cI cR a_a a_a_bytes a_a_bytes_k i_a_length i_a_kind i_a_start i_a_end i_a_code i_a_offset i_a_bytes ([99, 117, 116]) ((sq 10)) ((jk_zs hZ (k := 10) rfl)) q36 hq36) tm_517 tm_297 tm_298 tm_2 tm_299 na_Text_isWord ⟨Nat.le_of_ble_eq_true rfl, Nat.le_of_ble_eq_true rfl⟩ rfl [0, 1, 2] rfl rfl rfl (ws' := wd_Script_kindOf cI a_a a_a_bytes a_a_bytes_k i_a_length i_a_kind i_a_start i_a_end i_a_code i_a_offset i_a_bytes) rfl 0 3 rfl rfl rfl (st := []) rfl (Nat.le_of_ble_eq_true rfl) rd_Script_kindOf_36 ?_ ⟨Nat.le_refl _, Nat.le_refl _⟩
        refine jk_if_eq (tgt := 44) C rd_Script_kindOf_39 (by decide) hf (fun _ hf => ?_) (fun _ hf => ?_)
        · refine jk_aload_n C rd_Script_kindOf_44 (k := 0) rfl ?_
          refine jk_ldcs C hZ hz rd_Script_kindOf_45 (k := 11) rfl ?_
          obtain ⟨q47, hq47, hf⟩ := jk_bind_h hf
          refine jk_callVi C hZ.1 hz (ct_Text_isWord l D Z sq hZ cI cR a_a a_a_bytes a_a_bytes_k i_a_length i_a_kind i_a_start i_a_end i_a_code i_a_offset i_a_bytes ([116, 105, 101]) ((sq 11)) ((jk_zs hZ (k := 11) rfl)) q47 hq47) tm_517 tm_297 tm_298 tm_2 tm_299 na_Text_isWord ⟨Nat.le_of_ble_eq_true rfl, Nat.le_of_ble_eq_true rfl⟩ rfl [0, 1, 2] rfl rfl rfl (ws' := wd_Script_kindOf cI a_a a_a_bytes a_a_bytes_k i_a_length i_a_kind i_a_start i_a_end i_a_code i_a_offset i_a_bytes) rfl 0 3 rfl rfl rfl (st := []) rfl (Nat.le_of_ble_eq_true rfl) rd_Script_kindOf_47 ?_ ⟨Nat.le_refl _, Nat.le_refl _⟩
          refine jk_if_eq (tgt := 55) C rd_Script_kindOf_50 (by decide) hf (fun _ hf => ?_) (fun _ hf => ?_)
          · refine jk_aload_n C rd_Script_kindOf_55 (k := 0) rfl ?_
            refine jk_ldcs C hZ hz rd_Script_kindOf_56 (k := 12) rfl ?_
            obtain ⟨q58, hq58, hf⟩ := jk_bind_h hf
            refine jk_callVi C hZ.1 hz (ct_Text_isWord l D Z sq hZ cI cR a_a a_a_bytes a_a_bytes_k i_a_length i_a_kind i_a_start i_a_end i_a_code i_a_offset i_a_bytes ([107, 110, 111, 116]) ((sq 12)) ((jk_zs hZ (k := 12) rfl)) q58 hq58) tm_517 tm_297 tm_298 tm_2 tm_299 na_Text_isWord ⟨Nat.le_of_ble_eq_true rfl, Nat.le_of_ble_eq_true rfl⟩ rfl [0, 1, 2] rfl rfl rfl (ws' := wd_Script_kindOf cI a_a a_a_bytes a_a_bytes_k i_a_length i_a_kind i_a_start i_a_end i_a_code i_a_offset i_a_bytes) rfl 0 3 rfl rfl rfl (st := []) rfl (Nat.le_of_ble_eq_true rfl) rd_Script_kindOf_58 ?_ ⟨Nat.le_refl _, Nat.le_refl _⟩
            refine jk_if_eq (tgt := 66) C rd_Script_kindOf_61 (by decide) hf (fun _ hf => ?_) (fun _ hf => ?_)
            · refine jk_aload_n C rd_Script_kindOf_66 (k := 0) rfl ?_
              refine jk_ldcs C hZ hz rd_Script_kindOf_67 (k := 13) rfl ?_
              obtain ⟨q69, hq69, hf⟩ := jk_bind_h hf
              refine jk_callVi C hZ.1 hz (ct_Text_isWord l D Z sq hZ cI cR a_a a_a_bytes a_a_bytes_k i_a_length i_a_kind i_a_start i_a_end i_a_code i_a_offset i_a_bytes ([110, 105, 98, 98, 108, 101]) ((sq 13)) ((jk_zs hZ (k := 13) rfl)) q69 hq69) tm_517 tm_297 tm_298 tm_2 tm_299 na_Text_isWord ⟨Nat.le_of_ble_eq_true rfl, Nat.le_of_ble_eq_true rfl⟩ rfl [0, 1, 2] rfl rfl rfl (ws' := wd_Script_kindOf cI a_a a_a_bytes a_a_bytes_k i_a_length i_a_kind i_a_start i_a_end i_a_code i_a_offset i_a_bytes) rfl 0 3 rfl rfl rfl (st := []) rfl (Nat.le_of_ble_eq_true rfl) rd_Script_kindOf_69 ?_ ⟨Nat.le_refl _, Nat.le_refl _⟩
              refine jk_if_eq (tgt := 78) C rd_Script_kindOf_72 (by decide) hf (fun _ hf => ?_) (fun _ hf => ?_)
              · refine jk_aload_n C rd_Script_kindOf_78 (k := 0) rfl ?_
                refine jk_ldcs C hZ hz rd_Script_kindOf_79 (k := 14) rfl ?_
                obtain ⟨q81, hq81, hf⟩ := jk_bind_h hf
                refine jk_callVi C hZ.1 hz (ct_Text_isWord l D Z sq hZ cI cR a_a a_a_bytes a_a_bytes_k i_a_length i_a_kind i_a_start i_a_end i_a_code i_a_offset i_a_bytes ([100, 121, 101]) ((sq 14)) ((jk_zs hZ (k := 14) rfl)) q81 hq81) tm_517 tm_297 tm_298 tm_2 tm_299 na_Text_isWord ⟨Nat.le_of_ble_eq_true rfl, Nat.le_of_ble_eq_true rfl⟩ rfl [0, 1, 2] rfl rfl rfl (ws' := wd_Script_kindOf cI a_a a_a_bytes a_a_bytes_k i_a_length i_a_kind i_a_start i_a_end i_a_code i_a_offset i_a_bytes) rfl 0 3 rfl rfl rfl (st := []) rfl (Nat.le_of_ble_eq_true rfl) rd_Script_kindOf_81 ?_ ⟨Nat.le_refl _, Nat.le_refl _⟩
                refine jk_if_eq (tgt := 90) C rd_Script_kindOf_84 (by decide) hf (fun _ hf => ?_) (fun _ hf => ?_)
                · refine jk_aload_n C rd_Script_kindOf_90 (k := 0) rfl ?_
                  refine jk_ldcs C hZ hz rd_Script_kindOf_91 (k := 15) rfl ?_
                  obtain ⟨q93, hq93, hf⟩ := jk_bind_h hf
                  refine jk_callVi C hZ.1 hz (ct_Text_isWord l D Z sq hZ cI cR a_a a_a_bytes a_a_bytes_k i_a_length i_a_kind i_a_start i_a_end i_a_code i_a_offset i_a_bytes ([114, 101, 112, 97, 105, 114]) ((sq 15)) ((jk_zs hZ (k := 15) rfl)) q93 hq93) tm_517 tm_297 tm_298 tm_2 tm_299 na_Text_isWord ⟨Nat.le_of_ble_eq_true rfl, Nat.le_of_ble_eq_true rfl⟩ rfl [0, 1, 2] rfl rfl rfl (ws' := wd_Script_kindOf cI a_a a_a_bytes a_a_bytes_k i_a_length i_a_kind i_a_start i_a_end i_a_code i_a_offset i_a_bytes) rfl 0 3 rfl rfl rfl (st := []) rfl (Nat.le_of_ble_eq_true rfl) rd_Script_kindOf_93 ?_ ⟨Nat.le_refl _, Nat.le_refl _⟩
                  refine jk_if_eq (tgt := 104) C rd_Script_kindOf_96 (by decide) hf (fun _ hf => ?_) (fun _ hf => ?_)
                  · refine jk_iconst C rd_Script_kindOf_104 ?_
                    cases hf
                    exact jk_iret C rfl rd_Script_kindOf_105 rfl
                  · refine jk_bipush C rd_Script_kindOf_99 (by decide +kernel) ?_
                    refine jk_goto (tgt := 105) C rd_Script_kindOf_101 (by decide) ?_
                    cases hf
                    exact jk_iret C rfl rd_Script_kindOf_105 rfl
                · refine jk_bipush C rd_Script_kindOf_87 (by decide +kernel) ?_
                  cases hf
                  exact jk_iret C rfl rd_Script_kindOf_89 rfl
              · refine jk_bipush C rd_Script_kindOf_75 (by decide +kernel) ?_
                cases hf
                exact jk_iret C rfl rd_Script_kindOf_77 rfl
            · refine jk_iconst C rd_Script_kindOf_64 ?_
              cases hf
              exact jk_iret C rfl rd_Script_kindOf_65 rfl
          · refine jk_iconst C rd_Script_kindOf_53 ?_
            cases hf
            exact jk_iret C rfl rd_Script_kindOf_54 rfl
        · refine jk_iconst C rd_Script_kindOf_42 ?_
          cases hf
          exact jk_iret C rfl rd_Script_kindOf_43 rfl
      · refine jk_iconst C rd_Script_kindOf_31 ?_
        cases hf
        exact jk_iret C rfl rd_Script_kindOf_32 rfl
    · refine jk_iconst C rd_Script_kindOf_20 ?_
      cases hf
      exact jk_iret C rfl rd_Script_kindOf_21 rfl
  · refine jk_iconst C rd_Script_kindOf_9 ?_
    cases hf
    exact jk_iret C rfl rd_Script_kindOf_10 rfl
def wd_Script_readKind (cI : ClassId) (a_t a_t_kinds a_t_firsts a_t_seconds a_t_thirds a_a a_a_bytes a_a_bytes_k : Nat) (i_t_size : Int) (i_a_length : Int) (i_a_kind : Int) (i_a_start : Int) (i_a_end : Int) (i_a_code : Int) (i_a_offset : Int) (i_a_bytes : (Int → Int)) : va_W := [(a_t, .inr (7, [jk_V i_t_size, .ref a_t_kinds, .ref a_t_firsts, .ref a_t_seconds, .ref a_t_thirds])), (a_a, .inr (3, [.ref a_a_bytes, jk_V i_a_length, jk_V i_a_kind, jk_V i_a_start, jk_V i_a_end, jk_V i_a_code, jk_V i_a_offset])), (a_a_bytes, .inr (0, [.ref a_a_bytes_k])), (a_a_bytes_k, jk_W cI 700 i_a_bytes)]
set_option maxHeartbeats 4000000 in
set_option maxRecDepth 20000 in
theorem ct_Script_readKind (l : Launch) (D : va_G) (Z : (Nat → Prop) → State → Heap → Prop) (sq : Nat → Nat) (hZ : jk_ZK Z sq) (cI cR : ClassId) (a_t a_t_kinds a_t_firsts a_t_seconds a_t_thirds a_a a_a_bytes a_a_bytes_k : Nat) (i_t_size : Int) (i_a_length : Int) (i_a_kind : Int) (i_a_start : Int) (i_a_end : Int) (i_a_code : Int) (i_a_offset : Int) (i_a_bytes : (Int → Int)) (q : Int × Int × Int) (hf : fn_Script_readKind i_t_size i_a_bytes i_a_kind i_a_start i_a_end i_a_code i_a_offset = some q) : jk_MI l D jk_cl (jk_ty cI cR) Z mn_Script_readKind (.code mn_Script_readKind mb_Script_readKind 3 (some .int) :: jk_WA) (jk_rm 8 342) [.ref a_t, .ref a_a] (wd_Script_readKind cI a_t a_t_kinds a_t_firsts a_t_seconds a_t_thirds a_a a_a_bytes a_a_bytes_k i_t_size i_a_length i_a_kind i_a_start i_a_end i_a_code i_a_offset i_a_bytes) (wd_Script_readKind cI a_t a_t_kinds a_t_firsts a_t_seconds a_t_thirds a_a a_a_bytes a_a_bytes_k i_t_size i_a_length i_a_kind i_a_start i_a_end q.2.1 q.2.2 i_a_bytes) q.1 := by
  intro sz
  refine jk_body (by decide +kernel) (fun p e s m args below meth c hsz hz hin C => ?_) (Nat.le_of_ble_eq_true rfl)
  subst hsz
  unfold fn_Script_readKind at hf
  have bk_15 : ∀ (a_code : Int) (a_offset : Int) (v2 : Int), fn_Script_readKind_b15 i_t_size i_a_start a_code a_offset v2 = some q → jk_J p l e (jk_rm 8 342) s m args below meth c 0 0 (jk_QI below D jk_cl (jk_ty cI cR) (wd_Script_readKind cI a_t a_t_kinds a_t_firsts a_t_seconds a_t_thirds a_a a_a_bytes a_a_bytes_k i_t_size i_a_length i_a_kind i_a_start i_a_end i_a_code i_a_offset i_a_bytes) (wd_Script_readKind cI a_t a_t_kinds a_t_firsts a_t_seconds a_t_thirds a_a a_a_bytes a_a_bytes_k i_t_size i_a_length i_a_kind i_a_start i_a_end q.2.1 q.2.2 i_a_bytes) args s q.1) D jk_cl (va_A (wd_Script_readKind cI a_t a_t_kinds a_t_firsts a_t_seconds a_t_thirds a_a a_a_bytes a_a_bytes_k i_t_size i_a_length i_a_kind i_a_start i_a_end i_a_code i_a_offset i_a_bytes) s.heap.size) 3 (wd_Script_readKind cI a_t a_t_kinds a_t_firsts a_t_seconds a_t_thirds a_a a_a_bytes a_a_bytes_k i_t_size i_a_length i_a_kind i_a_start i_a_end a_code a_offset i_a_bytes) [(0, .ref a_t), (1, .ref a_a), (2, jk_V v2)] 15 [] := by
    intro a_code a_offset v2 hf
    unfold fn_Script_readKind_b15 at hf
    refine jk_aload_n C rd_Script_readKind_15 (k := 0) rfl ?_
    refine jk_get C in_Script (ci := 7) rfl 0 (by decide) tm_178 0 rfl rfl rd_Script_readKind_16 ?_
    refine jk_bipush C rd_Script_readKind_19 (by decide +kernel) ?_
    refine jk_icmp_lt (tgt := 30) C rd_Script_readKind_21 (by decide) hf (fun _ hf => ?_) (fun _ hf => ?_)
    · refine jk_iload_n C rd_Script_readKind_30 (k := 2) rfl ?_
      cases hf
      exact jk_iret C rfl rd_Script_readKind_31 rfl
    · refine jk_aload_n C rd_Script_readKind_24 (k := 1) rfl ?_
      refine jk_bipush C rd_Script_readKind_25 (by decide +kernel) ?_
      obtain ⟨q27, hq27, hf⟩ := jk_bind_h hf
      refine jk_callVv C hZ.1 hz (ct_Text_fail l D Z sq hZ cI cR a_a a_a_bytes i_a_length i_a_kind i_a_start i_a_end a_code a_offset 6 q27 hq27) tm_526 tm_304 tm_305 tm_2 tm_306 na_Text_fail ⟨Nat.le_of_ble_eq_true rfl, Nat.le_of_ble_eq_true rfl⟩ rfl [1] rfl rfl rfl (ws' := wd_Script_readKind cI a_t a_t_kinds a_t_firsts a_t_seconds a_t_thirds a_a a_a_bytes a_a_bytes_k i_t_size i_a_length i_a_kind i_a_start i_a_end q27.1 q27.2 i_a_bytes) rfl 1 3 rfl rfl rfl (st := []) rfl (Nat.le_of_ble_eq_true rfl) rd_Script_readKind_27 ?_ ⟨Nat.le_refl _, Nat.le_refl _⟩
      refine jk_iload_n C rd_Script_readKind_30 (k := 2) rfl ?_
      cases hf
      exact jk_iret C rfl rd_Script_readKind_31 rfl
  refine jk_aload_n C rd_Script_readKind_0 (k := 1) rfl ?_
  obtain ⟨q1, hq1, hf⟩ := jk_bind_h hf
  refine jk_callSi C hZ.1 hz (ct_Script_kindOf l D Z sq hZ cI cR a_a a_a_bytes a_a_bytes_k i_a_length i_a_kind i_a_start i_a_end i_a_code i_a_offset i_a_bytes q1 hq1) tm_513 tm_514 tm_8 tm_515 na_Script_kindOf ⟨Nat.le_of_ble_eq_true rfl, Nat.le_of_ble_eq_true rfl⟩ rfl [1, 2, 3] rfl rfl rfl (ws' := wd_Script_readKind cI a_t a_t_kinds a_t_firsts a_t_seconds a_t_thirds a_a a_a_bytes a_a_bytes_k i_t_size i_a_length i_a_kind i_a_start i_a_end i_a_code i_a_offset i_a_bytes) rfl (st := []) rfl (Nat.le_of_ble_eq_true rfl) rd_Script_readKind_1 ?_ ⟨Nat.le_refl _, Nat.le_refl _⟩
  refine jk_istore_n C rd_Script_readKind_4 (by decide) (lv' := [(2, jk_V q1), (0, .ref a_t), (1, .ref a_a)]) rfl ?_
  refine jk_iload_n C rd_Script_readKind_5 (k := 0) rfl ?_
  refine jk_iconst C rd_Script_readKind_6 ?_
  refine jk_icmp_ne (tgt := 15) C rd_Script_readKind_7 (by decide) hf (fun _ hf => ?_) (fun _ hf => ?_)
  · refine jk_lv (lv' := [(0, .ref a_t), (1, .ref a_a), (2, jk_V q1)]) [1, 2, 0] rfl ?_
    exact bk_15 i_a_code i_a_offset q1 hf
  · refine jk_aload_n C rd_Script_readKind_10 (k := 2) rfl ?_
    refine jk_iconst C rd_Script_readKind_11 ?_
    obtain ⟨q12, hq12, hf⟩ := jk_bind_h hf
    refine jk_callVv C hZ.1 hz (ct_Text_fail l D Z sq hZ cI cR a_a a_a_bytes i_a_length i_a_kind i_a_start i_a_end i_a_code i_a_offset 1 q12 hq12) tm_526 tm_304 tm_305 tm_2 tm_306 na_Text_fail ⟨Nat.le_of_ble_eq_true rfl, Nat.le_of_ble_eq_true rfl⟩ rfl [1] rfl rfl rfl (ws' := wd_Script_readKind cI a_t a_t_kinds a_t_firsts a_t_seconds a_t_thirds a_a a_a_bytes a_a_bytes_k i_t_size i_a_length i_a_kind i_a_start i_a_end q12.1 q12.2 i_a_bytes) rfl 1 3 rfl rfl rfl (st := []) rfl (Nat.le_of_ble_eq_true rfl) rd_Script_readKind_12 ?_ ⟨Nat.le_refl _, Nat.le_refl _⟩
    refine jk_lv (lv' := [(0, .ref a_t), (1, .ref a_a), (2, jk_V q1)]) [1, 2, 0] rfl ?_
    exact bk_15 q12.1 q12.2 q1 hf
def wd_Script_readSecond (cI : ClassId) (a_a a_a_bytes a_a_bytes_k a_b a_b_names a_b_names_k : Nat) (i_a_length : Int) (i_a_kind : Int) (i_a_start : Int) (i_a_end : Int) (i_a_code : Int) (i_a_offset : Int) (i_a_bytes : (Int → Int)) (i_b_size : Int) (i_b_names : (Int → Int)) : va_W := [(a_a, .inr (3, [.ref a_a_bytes, jk_V i_a_length, jk_V i_a_kind, jk_V i_a_start, jk_V i_a_end, jk_V i_a_code, jk_V i_a_offset])), (a_a_bytes, .inr (0, [.ref a_a_bytes_k])), (a_a_bytes_k, jk_W cI 700 i_a_bytes), (a_b, .inr (2, [jk_V i_b_size, .ref a_b_names])), (a_b_names, .inr (0, [.ref a_b_names_k])), (a_b_names_k, jk_W cI 8 i_b_names)]
set_option maxHeartbeats 4000000 in
set_option maxRecDepth 20000 in
theorem ct_Script_readSecond (l : Launch) (D : va_G) (Z : (Nat → Prop) → State → Heap → Prop) (sq : Nat → Nat) (hZ : jk_ZK Z sq) (cI cR : ClassId) (a_a a_a_bytes a_a_bytes_k a_b a_b_names a_b_names_k : Nat) (i_a_length : Int) (i_a_kind : Int) (i_a_start : Int) (i_a_end : Int) (i_a_code : Int) (i_a_offset : Int) (i_a_bytes : (Int → Int)) (i_b_size : Int) (i_b_names : (Int → Int)) (x2 : Int) (q : Int × Int × Int × Int × Int × Int) (hf : fn_Script_readSecond i_a_bytes i_a_length i_a_kind i_a_start i_a_end i_a_code i_a_offset i_b_size i_b_names x2 = some q) : jk_MI l D jk_cl (jk_ty cI cR) Z mn_Script_readSecond (.code mn_Script_readSecond mb_Script_readSecond 3 (some .int) :: jk_WA) (jk_rm 4 88) [.ref a_a, .ref a_b, jk_V x2] (wd_Script_readSecond cI a_a a_a_bytes a_a_bytes_k a_b a_b_names a_b_names_k i_a_length i_a_kind i_a_start i_a_end i_a_code i_a_offset i_a_bytes i_b_size i_b_names) (wd_Script_readSecond cI a_a a_a_bytes a_a_bytes_k a_b a_b_names a_b_names_k i_a_length q.2.1 q.2.2.1 q.2.2.2.1 q.2.2.2.2.1 q.2.2.2.2.2 i_a_bytes i_b_size i_b_names) q.1 := by
  intro sz
  refine jk_body (by decide +kernel) (fun p e s m args below meth c hsz hz hin C => ?_) (Nat.le_of_ble_eq_true rfl)
  subst hsz
  unfold fn_Script_readSecond at hf
  refine jk_iload_n C rd_Script_readSecond_0 (k := 2) rfl ?_
  refine jk_eqs_c hf (fun hx hf => ?_) (fun hx1 hf => ?_)
  · refine jk_tabIn (off := 43) (tgt := 44) C rd_Script_readSecond_1 (k := 1) hx (by decide +kernel) (by decide) ?_
    refine jk_aload_n C rd_Script_readSecond_44 (k := 0) rfl ?_
    refine jk_aload_n C rd_Script_readSecond_45 (k := 1) rfl ?_
    obtain ⟨q46, hq46, hf⟩ := jk_bind_h hf
    refine jk_callVi C hZ.1 hz (ct_Text_readTopic l D Z sq hZ cI cR a_a a_a_bytes a_a_bytes_k a_b a_b_names a_b_names_k i_a_length i_a_kind i_a_start i_a_end i_a_code i_a_offset i_a_bytes i_b_size i_b_names q46 hq46) tm_535 tm_377 tm_378 tm_2 tm_379 na_Text_readTopic ⟨Nat.le_of_ble_eq_true rfl, Nat.le_of_ble_eq_true rfl⟩ rfl [0, 1, 2, 3, 4, 5] rfl rfl rfl (ws' := wd_Script_readSecond cI a_a a_a_bytes a_a_bytes_k a_b a_b_names a_b_names_k i_a_length q46.2.1 q46.2.2.1 q46.2.2.2.1 q46.2.2.2.2.1 q46.2.2.2.2.2 i_a_bytes i_b_size i_b_names) rfl 0 3 rfl rfl rfl (st := []) rfl (Nat.le_of_ble_eq_true rfl) rd_Script_readSecond_46 ?_ ⟨Nat.le_refl _, Nat.le_refl _⟩
    cases hf
    exact jk_iret C rfl rd_Script_readSecond_49 rfl
  refine jk_eqs_c hf (fun hx hf => ?_) (fun hx2 hf => ?_)
  · refine jk_tabIn (off := 43) (tgt := 44) C rd_Script_readSecond_1 (k := 2) hx (by decide +kernel) (by decide) ?_
    refine jk_aload_n C rd_Script_readSecond_44 (k := 0) rfl ?_
    refine jk_aload_n C rd_Script_readSecond_45 (k := 1) rfl ?_
    obtain ⟨q46, hq46, hf⟩ := jk_bind_h hf
    refine jk_callVi C hZ.1 hz (ct_Text_readTopic l D Z sq hZ cI cR a_a a_a_bytes a_a_bytes_k a_b a_b_names a_b_names_k i_a_length i_a_kind i_a_start i_a_end i_a_code i_a_offset i_a_bytes i_b_size i_b_names q46 hq46) tm_535 tm_377 tm_378 tm_2 tm_379 na_Text_readTopic ⟨Nat.le_of_ble_eq_true rfl, Nat.le_of_ble_eq_true rfl⟩ rfl [0, 1, 2, 3, 4, 5] rfl rfl rfl (ws' := wd_Script_readSecond cI a_a a_a_bytes a_a_bytes_k a_b a_b_names a_b_names_k i_a_length q46.2.1 q46.2.2.1 q46.2.2.2.1 q46.2.2.2.2.1 q46.2.2.2.2.2 i_a_bytes i_b_size i_b_names) rfl 0 3 rfl rfl rfl (st := []) rfl (Nat.le_of_ble_eq_true rfl) rd_Script_readSecond_46 ?_ ⟨Nat.le_refl _, Nat.le_refl _⟩
    cases hf
    exact jk_iret C rfl rd_Script_readSecond_49 rfl
  refine jk_eqs_c hf (fun hx hf => ?_) (fun hx3 hf => ?_)
  · refine jk_tabIn (off := 63) (tgt := 64) C rd_Script_readSecond_1 (k := 3) hx (by decide +kernel) (by decide) ?_
    refine jk_iconst C rd_Script_readSecond_64 ?_
    cases hf
    exact jk_iret C rfl rd_Script_readSecond_65 rfl
  refine jk_eqs_c hf (fun hx hf => ?_) (fun hx4 hf => ?_)
  · refine jk_tabIn (off := 43) (tgt := 44) C rd_Script_readSecond_1 (k := 4) hx (by decide +kernel) (by decide) ?_
    refine jk_aload_n C rd_Script_readSecond_44 (k := 0) rfl ?_
    refine jk_aload_n C rd_Script_readSecond_45 (k := 1) rfl ?_
    obtain ⟨q46, hq46, hf⟩ := jk_bind_h hf
    refine jk_callVi C hZ.1 hz (ct_Text_readTopic l D Z sq hZ cI cR a_a a_a_bytes a_a_bytes_k a_b a_b_names a_b_names_k i_a_length i_a_kind i_a_start i_a_end i_a_code i_a_offset i_a_bytes i_b_size i_b_names q46 hq46) tm_535 tm_377 tm_378 tm_2 tm_379 na_Text_readTopic ⟨Nat.le_of_ble_eq_true rfl, Nat.le_of_ble_eq_true rfl⟩ rfl [0, 1, 2, 3, 4, 5] rfl rfl rfl (ws' := wd_Script_readSecond cI a_a a_a_bytes a_a_bytes_k a_b a_b_names a_b_names_k i_a_length q46.2.1 q46.2.2.1 q46.2.2.2.1 q46.2.2.2.2.1 q46.2.2.2.2.2 i_a_bytes i_b_size i_b_names) rfl 0 3 rfl rfl rfl (st := []) rfl (Nat.le_of_ble_eq_true rfl) rd_Script_readSecond_46 ?_ ⟨Nat.le_refl _, Nat.le_refl _⟩
    cases hf
    exact jk_iret C rfl rd_Script_readSecond_49 rfl
  refine jk_eqs_c hf (fun hx hf => ?_) (fun hx5 hf => ?_)
  · refine jk_tabIn (off := 49) (tgt := 50) C rd_Script_readSecond_1 (k := 5) hx (by decide +kernel) (by decide) ?_
    refine jk_aload_n C rd_Script_readSecond_50 (k := 0) rfl ?_
    refine jk_iconst C rd_Script_readSecond_51 ?_
    refine jk_iconst C rd_Script_readSecond_52 ?_
    obtain ⟨q53, hq53, hf⟩ := jk_bind_h hf
    refine jk_callVi C hZ.1 hz (ct_Text_readNumber l D Z sq hZ cI cR a_a a_a_bytes a_a_bytes_k i_a_length i_a_kind i_a_start i_a_end i_a_code i_a_offset i_a_bytes 0 3 q53 hq53) tm_531 tm_358 tm_359 tm_2 tm_360 na_Text_readNumber ⟨Nat.le_of_ble_eq_true rfl, Nat.le_of_ble_eq_true rfl⟩ rfl [0, 1, 2] rfl rfl rfl (ws' := wd_Script_readSecond cI a_a a_a_bytes a_a_bytes_k a_b a_b_names a_b_names_k i_a_length q53.2.1 q53.2.2.1 q53.2.2.2.1 q53.2.2.2.2.1 q53.2.2.2.2.2 i_a_bytes i_b_size i_b_names) rfl 0 3 rfl rfl rfl (st := []) rfl (Nat.le_of_ble_eq_true rfl) rd_Script_readSecond_53 ?_ ⟨Nat.le_refl _, Nat.le_refl _⟩
    cases hf
    exact jk_iret C rfl rd_Script_readSecond_56 rfl
  refine jk_eqs_c hf (fun hx hf => ?_) (fun hx6 hf => ?_)
  · refine jk_tabIn (off := 56) (tgt := 57) C rd_Script_readSecond_1 (k := 6) hx (by decide +kernel) (by decide) ?_
    refine jk_aload_n C rd_Script_readSecond_57 (k := 0) rfl ?_
    refine jk_iconst C rd_Script_readSecond_58 ?_
    refine jk_iconst C rd_Script_readSecond_59 ?_
    obtain ⟨q60, hq60, hf⟩ := jk_bind_h hf
    refine jk_callVi C hZ.1 hz (ct_Text_readNumber l D Z sq hZ cI cR a_a a_a_bytes a_a_bytes_k i_a_length i_a_kind i_a_start i_a_end i_a_code i_a_offset i_a_bytes 1 4 q60 hq60) tm_531 tm_358 tm_359 tm_2 tm_360 na_Text_readNumber ⟨Nat.le_of_ble_eq_true rfl, Nat.le_of_ble_eq_true rfl⟩ rfl [0, 1, 2] rfl rfl rfl (ws' := wd_Script_readSecond cI a_a a_a_bytes a_a_bytes_k a_b a_b_names a_b_names_k i_a_length q60.2.1 q60.2.2.1 q60.2.2.2.1 q60.2.2.2.2.1 q60.2.2.2.2.2 i_a_bytes i_b_size i_b_names) rfl 0 3 rfl rfl rfl (st := []) rfl (Nat.le_of_ble_eq_true rfl) rd_Script_readSecond_60 ?_ ⟨Nat.le_refl _, Nat.le_refl _⟩
    cases hf
    exact jk_iret C rfl rd_Script_readSecond_63 rfl
  refine jk_eqs_c hf (fun hx hf => ?_) (fun hx7 hf => ?_)
  · refine jk_tabIn (off := 43) (tgt := 44) C rd_Script_readSecond_1 (k := 7) hx (by decide +kernel) (by decide) ?_
    refine jk_aload_n C rd_Script_readSecond_44 (k := 0) rfl ?_
    refine jk_aload_n C rd_Script_readSecond_45 (k := 1) rfl ?_
    obtain ⟨q46, hq46, hf⟩ := jk_bind_h hf
    refine jk_callVi C hZ.1 hz (ct_Text_readTopic l D Z sq hZ cI cR a_a a_a_bytes a_a_bytes_k a_b a_b_names a_b_names_k i_a_length i_a_kind i_a_start i_a_end i_a_code i_a_offset i_a_bytes i_b_size i_b_names q46 hq46) tm_535 tm_377 tm_378 tm_2 tm_379 na_Text_readTopic ⟨Nat.le_of_ble_eq_true rfl, Nat.le_of_ble_eq_true rfl⟩ rfl [0, 1, 2, 3, 4, 5] rfl rfl rfl (ws' := wd_Script_readSecond cI a_a a_a_bytes a_a_bytes_k a_b a_b_names a_b_names_k i_a_length q46.2.1 q46.2.2.1 q46.2.2.2.1 q46.2.2.2.2.1 q46.2.2.2.2.2 i_a_bytes i_b_size i_b_names) rfl 0 3 rfl rfl rfl (st := []) rfl (Nat.le_of_ble_eq_true rfl) rd_Script_readSecond_46 ?_ ⟨Nat.le_refl _, Nat.le_refl _⟩
    cases hf
    exact jk_iret C rfl rd_Script_readSecond_49 rfl
  refine jk_tabOut (tgt := 64) C rd_Script_readSecond_1 (jk_rg_h hf).1 (by omega) (by decide) ?_
  replace hf := (jk_rg_h hf).2
  refine jk_iconst C rd_Script_readSecond_64 ?_
  cases hf
  exact jk_iret C rfl rd_Script_readSecond_65 rfl
def wd_Script_readThird (cI : ClassId) (a_a a_a_bytes a_a_bytes_k : Nat) (i_a_length : Int) (i_a_kind : Int) (i_a_start : Int) (i_a_end : Int) (i_a_code : Int) (i_a_offset : Int) (i_a_bytes : (Int → Int)) : va_W := [(a_a, .inr (3, [.ref a_a_bytes, jk_V i_a_length, jk_V i_a_kind, jk_V i_a_start, jk_V i_a_end, jk_V i_a_code, jk_V i_a_offset])), (a_a_bytes, .inr (0, [.ref a_a_bytes_k])), (a_a_bytes_k, jk_W cI 700 i_a_bytes)]
set_option maxHeartbeats 4000000 in
set_option maxRecDepth 20000 in
theorem ct_Script_readThird (l : Launch) (D : va_G) (Z : (Nat → Prop) → State → Heap → Prop) (sq : Nat → Nat) (hZ : jk_ZK Z sq) (cI cR : ClassId) (a_a a_a_bytes a_a_bytes_k : Nat) (i_a_length : Int) (i_a_kind : Int) (i_a_start : Int) (i_a_end : Int) (i_a_code : Int) (i_a_offset : Int) (i_a_bytes : (Int → Int)) (x1 : Int) (q : Int × Int × Int × Int × Int × Int) (hf : fn_Script_readThird i_a_bytes i_a_length i_a_kind i_a_start i_a_end i_a_code i_a_offset x1 = some q) : jk_MI l D jk_cl (jk_ty cI cR) Z mn_Script_readThird (.code mn_Script_readThird mb_Script_readThird 2 (some .int) :: jk_WA) (jk_rm 4 88) [.ref a_a, jk_V x1] (wd_Script_readThird cI a_a a_a_bytes a_a_bytes_k i_a_length i_a_kind i_a_start i_a_end i_a_code i_a_offset i_a_bytes) (wd_Script_readThird cI a_a a_a_bytes a_a_bytes_k i_a_length q.2.1 q.2.2.1 q.2.2.2.1 q.2.2.2.2.1 q.2.2.2.2.2 i_a_bytes) q.1 := by
  intro sz
  refine jk_body (by decide +kernel) (fun p e s m args below meth c hsz hz hin C => ?_) (Nat.le_of_ble_eq_true rfl)
  subst hsz
  unfold fn_Script_readThird at hf
  refine jk_iload_n C rd_Script_readThird_0 (k := 1) rfl ?_
  refine jk_iconst C rd_Script_readThird_1 ?_
  refine jk_icmp_eq (tgt := 10) C rd_Script_readThird_2 (by decide) hf (fun _ hf => ?_) (fun _ hf => ?_)
  · refine jk_aload_n C rd_Script_readThird_10 (k := 0) rfl ?_
    refine jk_iconst C rd_Script_readThird_11 ?_
    refine jk_sipush C rd_Script_readThird_12 (by decide +kernel) ?_
    obtain ⟨q15, hq15, hf⟩ := jk_bind_h hf
    refine jk_callVi C hZ.1 hz (ct_Text_readNumber l D Z sq hZ cI cR a_a a_a_bytes a_a_bytes_k i_a_length i_a_kind i_a_start i_a_end i_a_code i_a_offset i_a_bytes 0 9999 q15 hq15) tm_531 tm_358 tm_359 tm_2 tm_360 na_Text_readNumber ⟨Nat.le_of_ble_eq_true rfl, Nat.le_of_ble_eq_true rfl⟩ rfl [0, 1, 2] rfl rfl rfl (ws' := wd_Script_readThird cI a_a a_a_bytes a_a_bytes_k i_a_length q15.2.1 q15.2.2.1 q15.2.2.2.1 q15.2.2.2.2.1 q15.2.2.2.2.2 i_a_bytes) rfl 0 3 rfl rfl rfl (st := []) rfl (Nat.le_of_ble_eq_true rfl) rd_Script_readThird_15 ?_ ⟨Nat.le_refl _, Nat.le_refl _⟩
    cases hf
    exact jk_iret C rfl rd_Script_readThird_18 rfl
  · refine jk_iload_n C rd_Script_readThird_5 (k := 1) rfl ?_
    refine jk_iconst C rd_Script_readThird_6 ?_
    refine jk_icmp_ne (tgt := 19) C rd_Script_readThird_7 (by decide) hf (fun _ hf => ?_) (fun _ hf => ?_)
    · refine jk_iload_n C rd_Script_readThird_19 (k := 1) rfl ?_
      refine jk_iconst C rd_Script_readThird_20 ?_
      refine jk_icmp_ne (tgt := 34) C rd_Script_readThird_21 (by decide) hf (fun _ hf => ?_) (fun _ hf => ?_)
      · refine jk_iconst C rd_Script_readThird_34 ?_
        cases hf
        exact jk_iret C rfl rd_Script_readThird_35 rfl
      · refine jk_aload_n C rd_Script_readThird_24 (k := 0) rfl ?_
        refine jk_iconst C rd_Script_readThird_25 ?_
        refine jk_bipush C rd_Script_readThird_26 (by decide +kernel) ?_
        obtain ⟨q28, hq28, hf⟩ := jk_bind_h hf
        refine jk_callVi C hZ.1 hz (ct_Text_readNumber l D Z sq hZ cI cR a_a a_a_bytes a_a_bytes_k i_a_length i_a_kind i_a_start i_a_end i_a_code i_a_offset i_a_bytes 0 9 q28 hq28) tm_531 tm_358 tm_359 tm_2 tm_360 na_Text_readNumber ⟨Nat.le_of_ble_eq_true rfl, Nat.le_of_ble_eq_true rfl⟩ rfl [0, 1, 2] rfl rfl rfl (ws' := wd_Script_readThird cI a_a a_a_bytes a_a_bytes_k i_a_length q28.2.1 q28.2.2.1 q28.2.2.2.1 q28.2.2.2.2.1 q28.2.2.2.2.2 i_a_bytes) rfl 0 3 rfl rfl rfl (st := []) rfl (Nat.le_of_ble_eq_true rfl) rd_Script_readThird_28 ?_ ⟨Nat.le_refl _, Nat.le_refl _⟩
        refine jk_goto (tgt := 35) C rd_Script_readThird_31 (by decide) ?_
        cases hf
        exact jk_iret C rfl rd_Script_readThird_35 rfl
    · refine jk_aload_n C rd_Script_readThird_10 (k := 0) rfl ?_
      refine jk_iconst C rd_Script_readThird_11 ?_
      refine jk_sipush C rd_Script_readThird_12 (by decide +kernel) ?_
      obtain ⟨q15, hq15, hf⟩ := jk_bind_h hf
      refine jk_callVi C hZ.1 hz (ct_Text_readNumber l D Z sq hZ cI cR a_a a_a_bytes a_a_bytes_k i_a_length i_a_kind i_a_start i_a_end i_a_code i_a_offset i_a_bytes 0 9999 q15 hq15) tm_531 tm_358 tm_359 tm_2 tm_360 na_Text_readNumber ⟨Nat.le_of_ble_eq_true rfl, Nat.le_of_ble_eq_true rfl⟩ rfl [0, 1, 2] rfl rfl rfl (ws' := wd_Script_readThird cI a_a a_a_bytes a_a_bytes_k i_a_length q15.2.1 q15.2.2.1 q15.2.2.2.1 q15.2.2.2.2.1 q15.2.2.2.2.2 i_a_bytes) rfl 0 3 rfl rfl rfl (st := []) rfl (Nat.le_of_ble_eq_true rfl) rd_Script_readThird_15 ?_ ⟨Nat.le_refl _, Nat.le_refl _⟩
      cases hf
      exact jk_iret C rfl rd_Script_readThird_18 rfl
def wd_Script_parse (cI : ClassId) (a_t a_t_kinds a_t_firsts a_t_seconds a_t_thirds a_t_kinds_k a_t_firsts_k a_t_seconds_k a_t_thirds_k a_a a_a_bytes a_a_bytes_k a_b a_b_names a_b_names_k : Nat) (i_t_size : Int) (i_t_kinds : (Int → Int)) (i_t_firsts : (Int → Int)) (i_t_seconds : (Int → Int)) (i_t_thirds : (Int → Int)) (i_a_length : Int) (i_a_kind : Int) (i_a_start : Int) (i_a_end : Int) (i_a_code : Int) (i_a_offset : Int) (i_a_bytes : (Int → Int)) (i_b_size : Int) (i_b_names : (Int → Int)) : va_W := [(a_t, .inr (7, [jk_V i_t_size, .ref a_t_kinds, .ref a_t_firsts, .ref a_t_seconds, .ref a_t_thirds])), (a_t_kinds, .inr (0, [.ref a_t_kinds_k])), (a_t_kinds_k, jk_W cI 30 i_t_kinds), (a_t_firsts, .inr (0, [.ref a_t_firsts_k])), (a_t_firsts_k, jk_W cI 30 i_t_firsts), (a_t_seconds, .inr (0, [.ref a_t_seconds_k])), (a_t_seconds_k, jk_W cI 30 i_t_seconds), (a_t_thirds, .inr (0, [.ref a_t_thirds_k])), (a_t_thirds_k, jk_W cI 30 i_t_thirds), (a_a, .inr (3, [.ref a_a_bytes, jk_V i_a_length, jk_V i_a_kind, jk_V i_a_start, jk_V i_a_end, jk_V i_a_code, jk_V i_a_offset])), (a_a_bytes, .inr (0, [.ref a_a_bytes_k])), (a_a_bytes_k, jk_W cI 700 i_a_bytes), (a_b, .inr (2, [jk_V i_b_size, .ref a_b_names])), (a_b_names, .inr (0, [.ref a_b_names_k])), (a_b_names_k, jk_W cI 8 i_b_names)]
set_option maxHeartbeats 4000000 in
set_option maxRecDepth 20000 in
theorem ct_Script_parse (l : Launch) (D : va_G) (Z : (Nat → Prop) → State → Heap → Prop) (sq : Nat → Nat) (hZ : jk_ZK Z sq) (cI cR : ClassId) (a_t a_t_kinds a_t_firsts a_t_seconds a_t_thirds a_t_kinds_k a_t_firsts_k a_t_seconds_k a_t_thirds_k a_a a_a_bytes a_a_bytes_k a_b a_b_names a_b_names_k : Nat) (i_t_size : Int) (i_t_kinds : (Int → Int)) (i_t_firsts : (Int → Int)) (i_t_seconds : (Int → Int)) (i_t_thirds : (Int → Int)) (i_a_length : Int) (i_a_kind : Int) (i_a_start : Int) (i_a_end : Int) (i_a_code : Int) (i_a_offset : Int) (i_a_bytes : (Int → Int)) (i_b_size : Int) (i_b_names : (Int → Int)) (q : Int × (Int → Int) × (Int → Int) × (Int → Int) × (Int → Int) × Int × Int × Int × Int × Int) (hf : fn_Script_parse i_t_size i_t_kinds i_t_firsts i_t_seconds i_t_thirds i_a_bytes i_a_length i_a_kind i_a_start i_a_end i_a_code i_a_offset i_b_size i_b_names = some q) : jk_MV l D jk_cl (jk_ty cI cR) Z mn_Script_parse (.code mn_Script_parse mb_Script_parse 5 none :: jk_WA) (jk_rm 9 364) [.ref a_t, .ref a_a, .ref a_b] (wd_Script_parse cI a_t a_t_kinds a_t_firsts a_t_seconds a_t_thirds a_t_kinds_k a_t_firsts_k a_t_seconds_k a_t_thirds_k a_a a_a_bytes a_a_bytes_k a_b a_b_names a_b_names_k i_t_size i_t_kinds i_t_firsts i_t_seconds i_t_thirds i_a_length i_a_kind i_a_start i_a_end i_a_code i_a_offset i_a_bytes i_b_size i_b_names) (wd_Script_parse cI a_t a_t_kinds a_t_firsts a_t_seconds a_t_thirds a_t_kinds_k a_t_firsts_k a_t_seconds_k a_t_thirds_k a_a a_a_bytes a_a_bytes_k a_b a_b_names a_b_names_k q.1 q.2.1 q.2.2.1 q.2.2.2.1 q.2.2.2.2.1 i_a_length q.2.2.2.2.2.1 q.2.2.2.2.2.2.1 q.2.2.2.2.2.2.2.1 q.2.2.2.2.2.2.2.2.1 q.2.2.2.2.2.2.2.2.2 i_a_bytes i_b_size i_b_names) := by
  intro sz
  refine jk_body (by decide +kernel) (fun p e s m args below meth c hsz hz hin C => ?_) (Nat.le_of_ble_eq_true rfl)
  subst hsz
  unfold fn_Script_parse at hf
  have bk_11 : ∀ (n : Nat) (t_size : Int) (t_kinds : (Int → Int)) (t_firsts : (Int → Int)) (t_seconds : (Int → Int)) (t_thirds : (Int → Int)) (a_kind : Int) (a_start : Int) (a_end : Int) (a_code : Int) (a_offset : Int) (v3 : Int), fn_Script_parse_b11 n t_size t_kinds t_firsts t_seconds t_thirds i_a_bytes i_a_length a_kind a_start a_end a_code a_offset i_b_size i_b_names v3 = some q → jk_J p l e (jk_rm 9 364) s m args below meth c 0 0 (jk_QV below D jk_cl (jk_ty cI cR) (wd_Script_parse cI a_t a_t_kinds a_t_firsts a_t_seconds a_t_thirds a_t_kinds_k a_t_firsts_k a_t_seconds_k a_t_thirds_k a_a a_a_bytes a_a_bytes_k a_b a_b_names a_b_names_k i_t_size i_t_kinds i_t_firsts i_t_seconds i_t_thirds i_a_length i_a_kind i_a_start i_a_end i_a_code i_a_offset i_a_bytes i_b_size i_b_names) (wd_Script_parse cI a_t a_t_kinds a_t_firsts a_t_seconds a_t_thirds a_t_kinds_k a_t_firsts_k a_t_seconds_k a_t_thirds_k a_a a_a_bytes a_a_bytes_k a_b a_b_names a_b_names_k q.1 q.2.1 q.2.2.1 q.2.2.2.1 q.2.2.2.2.1 i_a_length q.2.2.2.2.2.1 q.2.2.2.2.2.2.1 q.2.2.2.2.2.2.2.1 q.2.2.2.2.2.2.2.2.1 q.2.2.2.2.2.2.2.2.2 i_a_bytes i_b_size i_b_names) args s) D jk_cl (va_A (wd_Script_parse cI a_t a_t_kinds a_t_firsts a_t_seconds a_t_thirds a_t_kinds_k a_t_firsts_k a_t_seconds_k a_t_thirds_k a_a a_a_bytes a_a_bytes_k a_b a_b_names a_b_names_k i_t_size i_t_kinds i_t_firsts i_t_seconds i_t_thirds i_a_length i_a_kind i_a_start i_a_end i_a_code i_a_offset i_a_bytes i_b_size i_b_names) s.heap.size) 5 (wd_Script_parse cI a_t a_t_kinds a_t_firsts a_t_seconds a_t_thirds a_t_kinds_k a_t_firsts_k a_t_seconds_k a_t_thirds_k a_a a_a_bytes a_a_bytes_k a_b a_b_names a_b_names_k t_size t_kinds t_firsts t_seconds t_thirds i_a_length a_kind a_start a_end a_code a_offset i_a_bytes i_b_size i_b_names) [(0, .ref a_t), (1, .ref a_a), (2, .ref a_b), (3, jk_V v3)] 11 [] := by
    intro n
    induction n with
    | zero => intro t_size t_kinds t_firsts t_seconds t_thirds a_kind a_start a_end a_code a_offset v3 hf; exact nomatch (show none = some q from hf)
    | succ n ih =>
      intro t_size t_kinds t_firsts t_seconds t_thirds a_kind a_start a_end a_code a_offset v3 hf
      rw [fn_Script_parse_b11] at hf
      refine jk_iload_n C rd_Script_parse_11 (k := 3) rfl ?_
      refine jk_bipush C rd_Script_parse_12 (by decide +kernel) ?_
      refine jk_icmp_gt (tgt := 101) C rd_Script_parse_14 (by decide) hf (fun _ hf => ?_) (fun _ hf => ?_)
      · cases hf
        exact jk_vret C rfl rd_Script_parse_101 rfl
      · refine jk_aload_n C rd_Script_parse_17 (k := 1) rfl ?_
        obtain ⟨q18, hq18, hf⟩ := jk_bind_h hf
        refine jk_callVi C hZ.1 hz (ct_Text_nextStatement l D Z sq hZ cI cR a_a a_a_bytes a_a_bytes_k i_a_length a_kind a_start a_end a_code a_offset i_a_bytes q18 hq18) tm_508 tm_276 tm_277 tm_2 tm_278 na_Text_nextStatement ⟨Nat.le_of_ble_eq_true rfl, Nat.le_of_ble_eq_true rfl⟩ rfl [9, 10, 11] rfl rfl rfl (ws' := wd_Script_parse cI a_t a_t_kinds a_t_firsts a_t_seconds a_t_thirds a_t_kinds_k a_t_firsts_k a_t_seconds_k a_t_thirds_k a_a a_a_bytes a_a_bytes_k a_b a_b_names a_b_names_k t_size t_kinds t_firsts t_seconds t_thirds i_a_length q18.2.1 q18.2.2.1 q18.2.2.2 a_code a_offset i_a_bytes i_b_size i_b_names) rfl 9 3 rfl rfl rfl (st := []) rfl (Nat.le_of_ble_eq_true rfl) rd_Script_parse_18 ?_ ⟨Nat.le_refl _, Nat.le_refl _⟩
        refine jk_if_eq (tgt := 101) C rd_Script_parse_21 (by decide) hf (fun _ hf => ?_) (fun _ hf => ?_)
        · cases hf
          exact jk_vret C rfl rd_Script_parse_101 rfl
        · refine jk_aload_n C rd_Script_parse_24 (k := 0) rfl ?_
          refine jk_aload_n C rd_Script_parse_25 (k := 1) rfl ?_
          obtain ⟨q26, hq26, hf⟩ := jk_bind_h hf
          refine jk_callVi C hZ.1 hz (ct_Script_readKind l D Z sq hZ cI cR a_t a_t_kinds a_t_firsts a_t_seconds a_t_thirds a_a a_a_bytes a_a_bytes_k t_size i_a_length q18.2.1 q18.2.2.1 q18.2.2.2 a_code a_offset i_a_bytes q26 hq26) tm_509 tm_511 sl_5 tm_8 tm_512 na_Script_readKind ⟨Nat.le_of_ble_eq_true rfl, Nat.le_of_ble_eq_true rfl⟩ rfl [0, 9, 10, 11] rfl rfl rfl (ws' := wd_Script_parse cI a_t a_t_kinds a_t_firsts a_t_seconds a_t_thirds a_t_kinds_k a_t_firsts_k a_t_seconds_k a_t_thirds_k a_a a_a_bytes a_a_bytes_k a_b a_b_names a_b_names_k t_size t_kinds t_firsts t_seconds t_thirds i_a_length q18.2.1 q18.2.2.1 q18.2.2.2 q26.2.1 q26.2.2 i_a_bytes i_b_size i_b_names) rfl 0 7 rfl rfl rfl (st := []) rfl (Nat.le_of_ble_eq_true rfl) rd_Script_parse_26 ?_ ⟨Nat.le_refl _, Nat.le_refl _⟩
          refine jk_istore C rd_Script_parse_29 (by decide) (lv' := [(4, jk_V q26.1), (0, .ref a_t), (1, .ref a_a), (2, .ref a_b), (3, jk_V v3)]) rfl ?_
          refine jk_aload_n C rd_Script_parse_31 (k := 1) rfl ?_
          refine jk_get C in_Script (ci := 7) rfl 1 (by decide) tm_180 0 rfl rfl rd_Script_parse_32 ?_
          refine jk_iload_n C rd_Script_parse_35 (k := 4) rfl ?_
          refine jk_iload C rd_Script_parse_36 (k := 0) rfl ?_
          obtain ⟨q38, hq38, hf⟩ := jk_bind_h hf
          refine jk_callVv C hZ.1 hz (ct_Row_set l D Z sq hZ cI cR (n_t := 30) (Nat.le_of_ble_eq_true rfl) a_t_kinds a_t_kinds_k t_kinds v3 q26.1 q38 hq38) tm_527 tm_257 tm_258 tm_3 tm_259 na_Row_set ⟨Nat.le_of_ble_eq_true rfl, Nat.le_of_ble_eq_true rfl⟩ rfl [1, 2] rfl rfl rfl (ws' := wd_Script_parse cI a_t a_t_kinds a_t_firsts a_t_seconds a_t_thirds a_t_kinds_k a_t_firsts_k a_t_seconds_k a_t_thirds_k a_a a_a_bytes a_a_bytes_k a_b a_b_names a_b_names_k t_size q38 t_firsts t_seconds t_thirds i_a_length q18.2.1 q18.2.2.1 q18.2.2.2 q26.2.1 q26.2.2 i_a_bytes i_b_size i_b_names) rfl 1 0 rfl rfl rfl (st := []) rfl (Nat.le_of_ble_eq_true rfl) rd_Script_parse_38 ?_ ⟨Nat.le_refl _, Nat.le_refl _⟩
          refine jk_aload_n C rd_Script_parse_41 (k := 1) rfl ?_
          refine jk_get C in_Script (ci := 7) rfl 2 (by decide) tm_182 0 rfl rfl rd_Script_parse_42 ?_
          refine jk_iload_n C rd_Script_parse_45 (k := 4) rfl ?_
          refine jk_aload_n C rd_Script_parse_46 (k := 2) rfl ?_
          refine jk_iload C rd_Script_parse_47 (k := 0) rfl ?_
          obtain ⟨q49, hq49, hf⟩ := jk_bind_h hf
          refine jk_callSi C hZ.1 hz (ct_Script_readFirst l D Z sq hZ cI cR a_a a_a_bytes a_a_bytes_k i_a_length q18.2.1 q18.2.2.1 q18.2.2.2 q26.2.1 q26.2.2 i_a_bytes q26.1 q49 hq49) tm_528 tm_529 tm_8 tm_530 na_Script_readFirst ⟨Nat.le_of_ble_eq_true rfl, Nat.le_of_ble_eq_true rfl⟩ rfl [9, 10, 11] rfl rfl rfl (ws' := wd_Script_parse cI a_t a_t_kinds a_t_firsts a_t_seconds a_t_thirds a_t_kinds_k a_t_firsts_k a_t_seconds_k a_t_thirds_k a_a a_a_bytes a_a_bytes_k a_b a_b_names a_b_names_k t_size q38 t_firsts t_seconds t_thirds i_a_length q49.2.1 q49.2.2.1 q49.2.2.2.1 q49.2.2.2.2.1 q49.2.2.2.2.2 i_a_bytes i_b_size i_b_names) rfl (st := [jk_V v3, .ref a_t_firsts]) rfl (Nat.le_of_ble_eq_true rfl) rd_Script_parse_49 ?_ ⟨Nat.le_refl _, Nat.le_refl _⟩
          obtain ⟨q52, hq52, hf⟩ := jk_bind_h hf
          refine jk_callVv C hZ.1 hz (ct_Row_set l D Z sq hZ cI cR (n_t := 30) (Nat.le_of_ble_eq_true rfl) a_t_firsts a_t_firsts_k t_firsts v3 q49.1 q52 hq52) tm_527 tm_257 tm_258 tm_3 tm_259 na_Row_set ⟨Nat.le_of_ble_eq_true rfl, Nat.le_of_ble_eq_true rfl⟩ rfl [3, 4] rfl rfl rfl (ws' := wd_Script_parse cI a_t a_t_kinds a_t_firsts a_t_seconds a_t_thirds a_t_kinds_k a_t_firsts_k a_t_seconds_k a_t_thirds_k a_a a_a_bytes a_a_bytes_k a_b a_b_names a_b_names_k t_size q38 q52 t_seconds t_thirds i_a_length q49.2.1 q49.2.2.1 q49.2.2.2.1 q49.2.2.2.2.1 q49.2.2.2.2.2 i_a_bytes i_b_size i_b_names) rfl 3 0 rfl rfl rfl (st := []) rfl (Nat.le_of_ble_eq_true rfl) rd_Script_parse_52 ?_ ⟨Nat.le_refl _, Nat.le_refl _⟩
          refine jk_aload_n C rd_Script_parse_55 (k := 1) rfl ?_
          refine jk_get C in_Script (ci := 7) rfl 3 (by decide) tm_184 0 rfl rfl rd_Script_parse_56 ?_
          refine jk_iload_n C rd_Script_parse_59 (k := 4) rfl ?_
          refine jk_aload_n C rd_Script_parse_60 (k := 2) rfl ?_
          refine jk_aload_n C rd_Script_parse_61 (k := 3) rfl ?_
          refine jk_iload C rd_Script_parse_62 (k := 0) rfl ?_
          obtain ⟨q64, hq64, hf⟩ := jk_bind_h hf
          refine jk_callSi C hZ.1 hz (ct_Script_readSecond l D Z sq hZ cI cR a_a a_a_bytes a_a_bytes_k a_b a_b_names a_b_names_k i_a_length q49.2.1 q49.2.2.1 q49.2.2.2.1 q49.2.2.2.2.1 q49.2.2.2.2.2 i_a_bytes i_b_size i_b_names q26.1 q64 hq64) tm_532 tm_533 tm_8 tm_534 na_Script_readSecond ⟨Nat.le_of_ble_eq_true rfl, Nat.le_of_ble_eq_true rfl⟩ rfl [9, 10, 11, 12, 13, 14] rfl rfl rfl (ws' := wd_Script_parse cI a_t a_t_kinds a_t_firsts a_t_seconds a_t_thirds a_t_kinds_k a_t_firsts_k a_t_seconds_k a_t_thirds_k a_a a_a_bytes a_a_bytes_k a_b a_b_names a_b_names_k t_size q38 q52 t_seconds t_thirds i_a_length q64.2.1 q64.2.2.1 q64.2.2.2.1 q64.2.2.2.2.1 q64.2.2.2.2.2 i_a_bytes i_b_size i_b_names) rfl (st := [jk_V v3, .ref a_t_seconds]) rfl (Nat.le_of_ble_eq_true rfl) rd_Script_parse_64 ?_ ⟨Nat.le_refl _, Nat.le_refl _⟩
          obtain ⟨q67, hq67, hf⟩ := jk_bind_h hf
          refine jk_callVv C hZ.1 hz (ct_Row_set l D Z sq hZ cI cR (n_t := 30) (Nat.le_of_ble_eq_true rfl) a_t_seconds a_t_seconds_k t_seconds v3 q64.1 q67 hq67) tm_527 tm_257 tm_258 tm_3 tm_259 na_Row_set ⟨Nat.le_of_ble_eq_true rfl, Nat.le_of_ble_eq_true rfl⟩ rfl [5, 6] rfl rfl rfl (ws' := wd_Script_parse cI a_t a_t_kinds a_t_firsts a_t_seconds a_t_thirds a_t_kinds_k a_t_firsts_k a_t_seconds_k a_t_thirds_k a_a a_a_bytes a_a_bytes_k a_b a_b_names a_b_names_k t_size q38 q52 q67 t_thirds i_a_length q64.2.1 q64.2.2.1 q64.2.2.2.1 q64.2.2.2.2.1 q64.2.2.2.2.2 i_a_bytes i_b_size i_b_names) rfl 5 0 rfl rfl rfl (st := []) rfl (Nat.le_of_ble_eq_true rfl) rd_Script_parse_67 ?_ ⟨Nat.le_refl _, Nat.le_refl _⟩
          refine jk_aload_n C rd_Script_parse_70 (k := 1) rfl ?_
          refine jk_get C in_Script (ci := 7) rfl 4 (by decide) tm_186 0 rfl rfl rd_Script_parse_71 ?_
          refine jk_iload_n C rd_Script_parse_74 (k := 4) rfl ?_
          refine jk_aload_n C rd_Script_parse_75 (k := 2) rfl ?_
          refine jk_iload C rd_Script_parse_76 (k := 0) rfl ?_
          obtain ⟨q78, hq78, hf⟩ := jk_bind_h hf
          refine jk_callSi C hZ.1 hz (ct_Script_readThird l D Z sq hZ cI cR a_a a_a_bytes a_a_bytes_k i_a_length q64.2.1 q64.2.2.1 q64.2.2.2.1 q64.2.2.2.2.1 q64.2.2.2.2.2 i_a_bytes q26.1 q78 hq78) tm_536 tm_537 tm_8 tm_538 na_Script_readThird ⟨Nat.le_of_ble_eq_true rfl, Nat.le_of_ble_eq_true rfl⟩ rfl [9, 10, 11] rfl rfl rfl (ws' := wd_Script_parse cI a_t a_t_kinds a_t_firsts a_t_seconds a_t_thirds a_t_kinds_k a_t_firsts_k a_t_seconds_k a_t_thirds_k a_a a_a_bytes a_a_bytes_k a_b a_b_names a_b_names_k t_size q38 q52 q67 t_thirds i_a_length q78.2.1 q78.2.2.1 q78.2.2.2.1 q78.2.2.2.2.1 q78.2.2.2.2.2 i_a_bytes i_b_size i_b_names) rfl (st := [jk_V v3, .ref a_t_thirds]) rfl (Nat.le_of_ble_eq_true rfl) rd_Script_parse_78 ?_ ⟨Nat.le_refl _, Nat.le_refl _⟩
          obtain ⟨q81, hq81, hf⟩ := jk_bind_h hf
          refine jk_callVv C hZ.1 hz (ct_Row_set l D Z sq hZ cI cR (n_t := 30) (Nat.le_of_ble_eq_true rfl) a_t_thirds a_t_thirds_k t_thirds v3 q78.1 q81 hq81) tm_527 tm_257 tm_258 tm_3 tm_259 na_Row_set ⟨Nat.le_of_ble_eq_true rfl, Nat.le_of_ble_eq_true rfl⟩ rfl [7, 8] rfl rfl rfl (ws' := wd_Script_parse cI a_t a_t_kinds a_t_firsts a_t_seconds a_t_thirds a_t_kinds_k a_t_firsts_k a_t_seconds_k a_t_thirds_k a_a a_a_bytes a_a_bytes_k a_b a_b_names a_b_names_k t_size q38 q52 q67 q81 i_a_length q78.2.1 q78.2.2.1 q78.2.2.2.1 q78.2.2.2.2.1 q78.2.2.2.2.2 i_a_bytes i_b_size i_b_names) rfl 7 0 rfl rfl rfl (st := []) rfl (Nat.le_of_ble_eq_true rfl) rd_Script_parse_81 ?_ ⟨Nat.le_refl _, Nat.le_refl _⟩
          refine jk_aload_n C rd_Script_parse_84 (k := 2) rfl ?_
          obtain ⟨q85, hq85, hf⟩ := jk_bind_h hf
          refine jk_callVv C hZ.1 hz (ct_Text_readSemicolon l D Z sq hZ cI cR a_a a_a_bytes a_a_bytes_k i_a_length q78.2.1 q78.2.2.1 q78.2.2.2.1 q78.2.2.2.2.1 q78.2.2.2.2.2 i_a_bytes q85 hq85) tm_539 tm_327 tm_328 tm_2 tm_329 na_Text_readSemicolon ⟨Nat.le_of_ble_eq_true rfl, Nat.le_of_ble_eq_true rfl⟩ rfl [9, 10, 11] rfl rfl rfl (ws' := wd_Script_parse cI a_t a_t_kinds a_t_firsts a_t_seconds a_t_thirds a_t_kinds_k a_t_firsts_k a_t_seconds_k a_t_thirds_k a_a a_a_bytes a_a_bytes_k a_b a_b_names a_b_names_k t_size q38 q52 q67 q81 i_a_length q85.1 q85.2.1 q85.2.2.1 q85.2.2.2.1 q85.2.2.2.2 i_a_bytes i_b_size i_b_names) rfl 9 3 rfl rfl rfl (st := []) rfl (Nat.le_of_ble_eq_true rfl) rd_Script_parse_85 ?_ ⟨Nat.le_refl _, Nat.le_refl _⟩
          refine jk_aload_n C rd_Script_parse_88 (k := 1) rfl ?_
          refine jk_iload_n C rd_Script_parse_89 (k := 4) rfl ?_
          refine jk_iconst C rd_Script_parse_90 ?_
          refine jk_iadd C rd_Script_parse_91 ?_
          refine jk_putf C in_Script ty_Script nm_Script (ci := 7) rfl 0 (by decide) tm_178 rfl rfl rfl 0 rfl (Nat.le_of_ble_eq_true rfl) rd_Script_parse_92 (ws' := wd_Script_parse cI a_t a_t_kinds a_t_firsts a_t_seconds a_t_thirds a_t_kinds_k a_t_firsts_k a_t_seconds_k a_t_thirds_k a_a a_a_bytes a_a_bytes_k a_b a_b_names a_b_names_k (v3 + 1) q38 q52 q67 q81 i_a_length q85.1 q85.2.1 q85.2.2.1 q85.2.2.2.1 q85.2.2.2.2 i_a_bytes i_b_size i_b_names) rfl ?_
          refine jk_iinc C rd_Script_parse_95 (k := 4) rfl (by decide) (lv' := [(3, jk_V (v3 + 1)), (4, jk_V q26.1), (0, .ref a_t), (1, .ref a_a), (2, .ref a_b)]) rfl ?_
          refine jk_goto (tgt := 11) C rd_Script_parse_98 (by decide) ?_
          refine jk_lv (lv' := [(0, .ref a_t), (1, .ref a_a), (2, .ref a_b), (3, jk_V (v3 + 1))]) [2, 3, 4, 0] rfl ?_
          exact ih (v3 + 1) q38 q52 q67 q81 q85.1 q85.2.1 q85.2.2.1 q85.2.2.2.1 q85.2.2.2.2 (v3 + 1) hf
  refine jk_aload_n C rd_Script_parse_0 (k := 1) rfl ?_
  obtain ⟨q1, hq1, hf⟩ := jk_bind_h hf
  refine jk_callVv C hZ.1 hz (ct_Text_begin l D Z sq hZ cI cR a_a a_a_bytes i_a_length i_a_kind i_a_start i_a_end i_a_code i_a_offset q1 hq1) tm_507 tm_264 tm_265 tm_2 tm_266 na_Text_begin ⟨Nat.le_of_ble_eq_true rfl, Nat.le_of_ble_eq_true rfl⟩ rfl [9] rfl rfl rfl (ws' := wd_Script_parse cI a_t a_t_kinds a_t_firsts a_t_seconds a_t_thirds a_t_kinds_k a_t_firsts_k a_t_seconds_k a_t_thirds_k a_a a_a_bytes a_a_bytes_k a_b a_b_names a_b_names_k i_t_size i_t_kinds i_t_firsts i_t_seconds i_t_thirds i_a_length i_a_kind i_a_start q1.1 q1.2.1 q1.2.2 i_a_bytes i_b_size i_b_names) rfl 9 3 rfl rfl rfl (st := []) rfl (Nat.le_of_ble_eq_true rfl) rd_Script_parse_1 ?_ ⟨Nat.le_refl _, Nat.le_refl _⟩
  refine jk_aload_n C rd_Script_parse_4 (k := 0) rfl ?_
  refine jk_iconst C rd_Script_parse_5 ?_
  refine jk_putf C in_Script ty_Script nm_Script (ci := 7) rfl 0 (by decide) tm_178 rfl rfl rfl 0 rfl (Nat.le_of_ble_eq_true rfl) rd_Script_parse_6 (ws' := wd_Script_parse cI a_t a_t_kinds a_t_firsts a_t_seconds a_t_thirds a_t_kinds_k a_t_firsts_k a_t_seconds_k a_t_thirds_k a_a a_a_bytes a_a_bytes_k a_b a_b_names a_b_names_k 0 i_t_kinds i_t_firsts i_t_seconds i_t_thirds i_a_length i_a_kind i_a_start q1.1 q1.2.1 q1.2.2 i_a_bytes i_b_size i_b_names) rfl ?_
  refine jk_iconst C rd_Script_parse_9 ?_
  refine jk_istore_n C rd_Script_parse_10 (by decide) (lv' := [(3, jk_V 0), (0, .ref a_t), (1, .ref a_a), (2, .ref a_b)]) rfl ?_
  refine jk_lv (lv' := [(0, .ref a_t), (1, .ref a_a), (2, .ref a_b), (3, jk_V 0)]) [1, 2, 3, 0] rfl ?_
  exact bk_11 jk_F 0 i_t_kinds i_t_firsts i_t_seconds i_t_thirds i_a_kind i_a_start q1.1 q1.2.1 q1.2.2 0 hf
def wd_Setup_readCluster (cI : ClassId) (a_a a_a_bytes a_a_bytes_k a_b a_b_starts a_b_depth a_b_topic a_b_value a_b_nibbled a_b_starts_k : Nat) (i_a_length : Int) (i_a_kind : Int) (i_a_start : Int) (i_a_end : Int) (i_a_code : Int) (i_a_offset : Int) (i_a_bytes : (Int → Int)) (i_b_clusters : Int) (i_b_size : Int) (i_b_starts : (Int → Int)) : va_W := [(a_a, .inr (3, [.ref a_a_bytes, jk_V i_a_length, jk_V i_a_kind, jk_V i_a_start, jk_V i_a_end, jk_V i_a_code, jk_V i_a_offset])), (a_a_bytes, .inr (0, [.ref a_a_bytes_k])), (a_a_bytes_k, jk_W cI 700 i_a_bytes), (a_b, .inr (5, [jk_V i_b_clusters, jk_V i_b_size, .ref a_b_starts, .ref a_b_depth, .ref a_b_topic, .ref a_b_value, .ref a_b_nibbled])), (a_b_starts, .inr (0, [.ref a_b_starts_k])), (a_b_starts_k, jk_W cI 7 i_b_starts)]
set_option maxHeartbeats 4000000 in
set_option maxRecDepth 20000 in
theorem ct_Setup_readCluster (l : Launch) (D : va_G) (Z : (Nat → Prop) → State → Heap → Prop) (sq : Nat → Nat) (hZ : jk_ZK Z sq) (cI cR : ClassId) (a_a a_a_bytes a_a_bytes_k a_b a_b_starts a_b_depth a_b_topic a_b_value a_b_nibbled a_b_starts_k : Nat) (i_a_length : Int) (i_a_kind : Int) (i_a_start : Int) (i_a_end : Int) (i_a_code : Int) (i_a_offset : Int) (i_a_bytes : (Int → Int)) (i_b_clusters : Int) (i_b_size : Int) (i_b_starts : (Int → Int)) (q : Int × Int × Int × Int × Int × Int × (Int → Int)) (hf : fn_Setup_readCluster i_a_bytes i_a_length i_a_kind i_a_start i_a_end i_a_code i_a_offset i_b_clusters i_b_size i_b_starts = some q) : jk_MV l D jk_cl (jk_ty cI cR) Z mn_Setup_readCluster (.code mn_Setup_readCluster mb_Setup_readCluster 2 none :: jk_WA) (jk_rm 4 84) [.ref a_a, .ref a_b] (wd_Setup_readCluster cI a_a a_a_bytes a_a_bytes_k a_b a_b_starts a_b_depth a_b_topic a_b_value a_b_nibbled a_b_starts_k i_a_length i_a_kind i_a_start i_a_end i_a_code i_a_offset i_a_bytes i_b_clusters i_b_size i_b_starts) (wd_Setup_readCluster cI a_a a_a_bytes a_a_bytes_k a_b a_b_starts a_b_depth a_b_topic a_b_value a_b_nibbled a_b_starts_k i_a_length q.1 q.2.1 q.2.2.1 q.2.2.2.1 q.2.2.2.2.1 i_a_bytes q.2.2.2.2.2.1 i_b_size q.2.2.2.2.2.2) := by
  intro sz
  refine jk_body (by decide +kernel) (fun p e s m args below meth c hsz hz hin C => ?_) (Nat.le_of_ble_eq_true rfl)
  subst hsz
  unfold fn_Setup_readCluster at hf
  refine jk_aload_n C rd_Setup_readCluster_0 (k := 1) rfl ?_
  refine jk_getN C in_Cords (ci := 5) rfl 0 (by decide) (jk_nw hZ hz tn_12) 3 rfl rfl rd_Setup_readCluster_1 ?_
  refine jk_bipush C rd_Setup_readCluster_4 (by decide +kernel) ?_
  refine jk_icmp_lt (tgt := 15) C rd_Setup_readCluster_6 (by decide) hf (fun _ hf => ?_) (fun _ hf => ?_)
  · refine jk_aload_n C rd_Setup_readCluster_15 (k := 1) rfl ?_
    obtain ⟨q16, hq16, hf⟩ := jk_bind_h hf
    refine jk_callVi C hZ.1 hz (ct_Cords_openCluster l D Z sq hZ cI cR a_b a_b_starts a_b_depth a_b_topic a_b_value a_b_nibbled a_b_starts_k i_b_clusters i_b_size i_b_starts q16 hq16) tm_334 tm_335 tm_336 tm_6 tm_337 na_Cords_openCluster ⟨Nat.le_of_ble_eq_true rfl, Nat.le_of_ble_eq_true rfl⟩ rfl [3, 4, 5] rfl rfl rfl (ws' := wd_Setup_readCluster cI a_a a_a_bytes a_a_bytes_k a_b a_b_starts a_b_depth a_b_topic a_b_value a_b_nibbled a_b_starts_k i_a_length i_a_kind i_a_start i_a_end i_a_code i_a_offset i_a_bytes q16.2.1 i_b_size q16.2.2) rfl 3 5 rfl rfl rfl (st := []) rfl (Nat.le_of_ble_eq_true rfl) rd_Setup_readCluster_16 ?_ ⟨Nat.le_refl _, Nat.le_refl _⟩
    refine jk_pop C rd_Setup_readCluster_19 rfl ?_
    refine jk_aload_n C rd_Setup_readCluster_20 (k := 0) rfl ?_
    obtain ⟨q21, hq21, hf⟩ := jk_bind_h hf
    refine jk_callVv C hZ.1 hz (ct_Text_readSemicolon l D Z sq hZ cI cR a_a a_a_bytes a_a_bytes_k i_a_length i_a_kind i_a_start i_a_end i_a_code i_a_offset i_a_bytes q21 hq21) tm_326 tm_327 tm_328 tm_2 tm_329 na_Text_readSemicolon ⟨Nat.le_of_ble_eq_true rfl, Nat.le_of_ble_eq_true rfl⟩ rfl [0, 1, 2] rfl rfl rfl (ws' := wd_Setup_readCluster cI a_a a_a_bytes a_a_bytes_k a_b a_b_starts a_b_depth a_b_topic a_b_value a_b_nibbled a_b_starts_k i_a_length q21.1 q21.2.1 q21.2.2.1 q21.2.2.2.1 q21.2.2.2.2 i_a_bytes q16.2.1 i_b_size q16.2.2) rfl 0 3 rfl rfl rfl (st := []) rfl (Nat.le_of_ble_eq_true rfl) rd_Setup_readCluster_21 ?_ ⟨Nat.le_refl _, Nat.le_refl _⟩
    cases hf
    exact jk_vret C rfl rd_Setup_readCluster_24 rfl
  · refine jk_aload_n C rd_Setup_readCluster_9 (k := 0) rfl ?_
    refine jk_bipush C rd_Setup_readCluster_10 (by decide +kernel) ?_
    obtain ⟨q12, hq12, hf⟩ := jk_bind_h hf
    refine jk_callVv C hZ.1 hz (ct_Text_fail l D Z sq hZ cI cR a_a a_a_bytes i_a_length i_a_kind i_a_start i_a_end i_a_code i_a_offset 6 q12 hq12) tm_303 tm_304 tm_305 tm_2 tm_306 na_Text_fail ⟨Nat.le_of_ble_eq_true rfl, Nat.le_of_ble_eq_true rfl⟩ rfl [0] rfl rfl rfl (ws' := wd_Setup_readCluster cI a_a a_a_bytes a_a_bytes_k a_b a_b_starts a_b_depth a_b_topic a_b_value a_b_nibbled a_b_starts_k i_a_length i_a_kind i_a_start i_a_end q12.1 q12.2 i_a_bytes i_b_clusters i_b_size i_b_starts) rfl 0 3 rfl rfl rfl (st := []) rfl (Nat.le_of_ble_eq_true rfl) rd_Setup_readCluster_12 ?_ ⟨Nat.le_refl _, Nat.le_refl _⟩
    refine jk_aload_n C rd_Setup_readCluster_15 (k := 1) rfl ?_
    obtain ⟨q16, hq16, hf⟩ := jk_bind_h hf
    refine jk_callVi C hZ.1 hz (ct_Cords_openCluster l D Z sq hZ cI cR a_b a_b_starts a_b_depth a_b_topic a_b_value a_b_nibbled a_b_starts_k i_b_clusters i_b_size i_b_starts q16 hq16) tm_334 tm_335 tm_336 tm_6 tm_337 na_Cords_openCluster ⟨Nat.le_of_ble_eq_true rfl, Nat.le_of_ble_eq_true rfl⟩ rfl [3, 4, 5] rfl rfl rfl (ws' := wd_Setup_readCluster cI a_a a_a_bytes a_a_bytes_k a_b a_b_starts a_b_depth a_b_topic a_b_value a_b_nibbled a_b_starts_k i_a_length i_a_kind i_a_start i_a_end q12.1 q12.2 i_a_bytes q16.2.1 i_b_size q16.2.2) rfl 3 5 rfl rfl rfl (st := []) rfl (Nat.le_of_ble_eq_true rfl) rd_Setup_readCluster_16 ?_ ⟨Nat.le_refl _, Nat.le_refl _⟩
    refine jk_pop C rd_Setup_readCluster_19 rfl ?_
    refine jk_aload_n C rd_Setup_readCluster_20 (k := 0) rfl ?_
    obtain ⟨q21, hq21, hf⟩ := jk_bind_h hf
    refine jk_callVv C hZ.1 hz (ct_Text_readSemicolon l D Z sq hZ cI cR a_a a_a_bytes a_a_bytes_k i_a_length i_a_kind i_a_start i_a_end q12.1 q12.2 i_a_bytes q21 hq21) tm_326 tm_327 tm_328 tm_2 tm_329 na_Text_readSemicolon ⟨Nat.le_of_ble_eq_true rfl, Nat.le_of_ble_eq_true rfl⟩ rfl [0, 1, 2] rfl rfl rfl (ws' := wd_Setup_readCluster cI a_a a_a_bytes a_a_bytes_k a_b a_b_starts a_b_depth a_b_topic a_b_value a_b_nibbled a_b_starts_k i_a_length q21.1 q21.2.1 q21.2.2.1 q21.2.2.2.1 q21.2.2.2.2 i_a_bytes q16.2.1 i_b_size q16.2.2) rfl 0 3 rfl rfl rfl (st := []) rfl (Nat.le_of_ble_eq_true rfl) rd_Setup_readCluster_21 ?_ ⟨Nat.le_refl _, Nat.le_refl _⟩
    cases hf
    exact jk_vret C rfl rd_Setup_readCluster_24 rfl
def wd_Setup_checkFirstWord (cI : ClassId) (a_a a_a_bytes a_a_bytes_k a_b a_b_starts a_b_depth a_b_topic a_b_value a_b_nibbled a_b_starts_k a_b_depth_k : Nat) (i_a_length : Int) (i_a_kind : Int) (i_a_start : Int) (i_a_end : Int) (i_a_code : Int) (i_a_offset : Int) (i_a_bytes : (Int → Int)) (i_b_clusters : Int) (i_b_size : Int) (i_b_starts : (Int → Int)) (i_b_depth : (Int → Int)) : va_W := [(a_a, .inr (3, [.ref a_a_bytes, jk_V i_a_length, jk_V i_a_kind, jk_V i_a_start, jk_V i_a_end, jk_V i_a_code, jk_V i_a_offset])), (a_a_bytes, .inr (0, [.ref a_a_bytes_k])), (a_a_bytes_k, jk_W cI 700 i_a_bytes), (a_b, .inr (5, [jk_V i_b_clusters, jk_V i_b_size, .ref a_b_starts, .ref a_b_depth, .ref a_b_topic, .ref a_b_value, .ref a_b_nibbled])), (a_b_starts, .inr (0, [.ref a_b_starts_k])), (a_b_starts_k, jk_W cI 7 i_b_starts), (a_b_depth, .inr (0, [.ref a_b_depth_k])), (a_b_depth_k, jk_W cI 40 i_b_depth)]
set_option maxHeartbeats 4000000 in
set_option maxRecDepth 20000 in
theorem ct_Setup_checkFirstWord (l : Launch) (D : va_G) (Z : (Nat → Prop) → State → Heap → Prop) (sq : Nat → Nat) (hZ : jk_ZK Z sq) (cI cR : ClassId) (a_a a_a_bytes a_a_bytes_k a_b a_b_starts a_b_depth a_b_topic a_b_value a_b_nibbled a_b_starts_k a_b_depth_k : Nat) (i_a_length : Int) (i_a_kind : Int) (i_a_start : Int) (i_a_end : Int) (i_a_code : Int) (i_a_offset : Int) (i_a_bytes : (Int → Int)) (i_b_clusters : Int) (i_b_size : Int) (i_b_starts : (Int → Int)) (i_b_depth : (Int → Int)) (q : Int × Int) (hf : fn_Setup_checkFirstWord i_a_bytes i_a_kind i_a_start i_a_end i_a_code i_a_offset i_b_clusters i_b_size i_b_starts i_b_depth = some q) : jk_MV l D jk_cl (jk_ty cI cR) Z mn_Setup_checkFirstWord (.code mn_Setup_checkFirstWord mb_Setup_checkFirstWord 3 none :: jk_WA) (jk_rm 7 322) [.ref a_a, .ref a_b] (wd_Setup_checkFirstWord cI a_a a_a_bytes a_a_bytes_k a_b a_b_starts a_b_depth a_b_topic a_b_value a_b_nibbled a_b_starts_k a_b_depth_k i_a_length i_a_kind i_a_start i_a_end i_a_code i_a_offset i_a_bytes i_b_clusters i_b_size i_b_starts i_b_depth) (wd_Setup_checkFirstWord cI a_a a_a_bytes a_a_bytes_k a_b a_b_starts a_b_depth a_b_topic a_b_value a_b_nibbled a_b_starts_k a_b_depth_k i_a_length i_a_kind i_a_start i_a_end q.1 q.2 i_a_bytes i_b_clusters i_b_size i_b_starts i_b_depth) := by
  intro sz
  refine jk_body (by decide +kernel) (fun p e s m args below meth c hsz hz hin C => ?_) (Nat.le_of_ble_eq_true rfl)
  subst hsz
  unfold fn_Setup_checkFirstWord at hf
  have bk_58 : ∀ (a_code : Int) (a_offset : Int), fn_Setup_checkFirstWord_b58 i_a_start a_code a_offset i_b_size = some q → jk_J p l e (jk_rm 7 322) s m args below meth c 0 0 (jk_QV below D jk_cl (jk_ty cI cR) (wd_Setup_checkFirstWord cI a_a a_a_bytes a_a_bytes_k a_b a_b_starts a_b_depth a_b_topic a_b_value a_b_nibbled a_b_starts_k a_b_depth_k i_a_length i_a_kind i_a_start i_a_end i_a_code i_a_offset i_a_bytes i_b_clusters i_b_size i_b_starts i_b_depth) (wd_Setup_checkFirstWord cI a_a a_a_bytes a_a_bytes_k a_b a_b_starts a_b_depth a_b_topic a_b_value a_b_nibbled a_b_starts_k a_b_depth_k i_a_length i_a_kind i_a_start i_a_end q.1 q.2 i_a_bytes i_b_clusters i_b_size i_b_starts i_b_depth) args s) D jk_cl (va_A (wd_Setup_checkFirstWord cI a_a a_a_bytes a_a_bytes_k a_b a_b_starts a_b_depth a_b_topic a_b_value a_b_nibbled a_b_starts_k a_b_depth_k i_a_length i_a_kind i_a_start i_a_end i_a_code i_a_offset i_a_bytes i_b_clusters i_b_size i_b_starts i_b_depth) s.heap.size) 3 (wd_Setup_checkFirstWord cI a_a a_a_bytes a_a_bytes_k a_b a_b_starts a_b_depth a_b_topic a_b_value a_b_nibbled a_b_starts_k a_b_depth_k i_a_length i_a_kind i_a_start i_a_end a_code a_offset i_a_bytes i_b_clusters i_b_size i_b_starts i_b_depth) [(0, .ref a_a), (1, .ref a_b)] 58 [] := by
    intro a_code a_offset hf
    unfold fn_Setup_checkFirstWord_b58 at hf
    refine jk_aload_n C rd_Setup_checkFirstWord_58 (k := 0) rfl ?_
    refine jk_iconst C rd_Setup_checkFirstWord_59 ?_
    obtain ⟨q60, hq60, hf⟩ := jk_bind_h hf
    refine jk_callVv C hZ.1 hz (ct_Text_fail l D Z sq hZ cI cR a_a a_a_bytes i_a_length i_a_kind i_a_start i_a_end a_code a_offset 5 q60 hq60) tm_303 tm_304 tm_305 tm_2 tm_306 na_Text_fail ⟨Nat.le_of_ble_eq_true rfl, Nat.le_of_ble_eq_true rfl⟩ rfl [0] rfl rfl rfl (ws' := wd_Setup_checkFirstWord cI a_a a_a_bytes a_a_bytes_k a_b a_b_starts a_b_depth a_b_topic a_b_value a_b_nibbled a_b_starts_k a_b_depth_k i_a_length i_a_kind i_a_start i_a_end q60.1 q60.2 i_a_bytes i_b_clusters i_b_size i_b_starts i_b_depth) rfl 0 3 rfl rfl rfl (st := []) rfl (Nat.le_of_ble_eq_true rfl) rd_Setup_checkFirstWord_60 ?_ ⟨Nat.le_refl _, Nat.le_refl _⟩
    refine jk_aload_n C rd_Setup_checkFirstWord_63 (k := 1) rfl ?_
    refine jk_getN C in_Cords (ci := 5) rfl 1 (by decide) (jk_nw hZ hz tn_16) 3 rfl rfl rd_Setup_checkFirstWord_64 ?_
    refine jk_bipush C rd_Setup_checkFirstWord_67 (by decide +kernel) ?_
    refine jk_icmp_lt (tgt := 78) C rd_Setup_checkFirstWord_69 (by decide) hf (fun _ hf => ?_) (fun _ hf => ?_)
    · cases hf
      exact jk_vret C rfl rd_Setup_checkFirstWord_78 rfl
    · refine jk_aload_n C rd_Setup_checkFirstWord_72 (k := 0) rfl ?_
      refine jk_bipush C rd_Setup_checkFirstWord_73 (by decide +kernel) ?_
      obtain ⟨q75, hq75, hf⟩ := jk_bind_h hf
      refine jk_callVv C hZ.1 hz (ct_Text_fail l D Z sq hZ cI cR a_a a_a_bytes i_a_length i_a_kind i_a_start i_a_end q60.1 q60.2 6 q75 hq75) tm_303 tm_304 tm_305 tm_2 tm_306 na_Text_fail ⟨Nat.le_of_ble_eq_true rfl, Nat.le_of_ble_eq_true rfl⟩ rfl [0] rfl rfl rfl (ws' := wd_Setup_checkFirstWord cI a_a a_a_bytes a_a_bytes_k a_b a_b_starts a_b_depth a_b_topic a_b_value a_b_nibbled a_b_starts_k a_b_depth_k i_a_length i_a_kind i_a_start i_a_end q75.1 q75.2 i_a_bytes i_b_clusters i_b_size i_b_starts i_b_depth) rfl 0 3 rfl rfl rfl (st := []) rfl (Nat.le_of_ble_eq_true rfl) rd_Setup_checkFirstWord_75 ?_ ⟨Nat.le_refl _, Nat.le_refl _⟩
      cases hf
      exact jk_vret C rfl rd_Setup_checkFirstWord_78 rfl
  have bk_34 : ∀ (a_code : Int) (a_offset : Int) (v2 : Int), fn_Setup_checkFirstWord_b34 i_a_start a_code a_offset i_b_clusters i_b_size i_b_starts i_b_depth v2 = some q → jk_J p l e (jk_rm 7 322) s m args below meth c 0 0 (jk_QV below D jk_cl (jk_ty cI cR) (wd_Setup_checkFirstWord cI a_a a_a_bytes a_a_bytes_k a_b a_b_starts a_b_depth a_b_topic a_b_value a_b_nibbled a_b_starts_k a_b_depth_k i_a_length i_a_kind i_a_start i_a_end i_a_code i_a_offset i_a_bytes i_b_clusters i_b_size i_b_starts i_b_depth) (wd_Setup_checkFirstWord cI a_a a_a_bytes a_a_bytes_k a_b a_b_starts a_b_depth a_b_topic a_b_value a_b_nibbled a_b_starts_k a_b_depth_k i_a_length i_a_kind i_a_start i_a_end q.1 q.2 i_a_bytes i_b_clusters i_b_size i_b_starts i_b_depth) args s) D jk_cl (va_A (wd_Setup_checkFirstWord cI a_a a_a_bytes a_a_bytes_k a_b a_b_starts a_b_depth a_b_topic a_b_value a_b_nibbled a_b_starts_k a_b_depth_k i_a_length i_a_kind i_a_start i_a_end i_a_code i_a_offset i_a_bytes i_b_clusters i_b_size i_b_starts i_b_depth) s.heap.size) 3 (wd_Setup_checkFirstWord cI a_a a_a_bytes a_a_bytes_k a_b a_b_starts a_b_depth a_b_topic a_b_value a_b_nibbled a_b_starts_k a_b_depth_k i_a_length i_a_kind i_a_start i_a_end a_code a_offset i_a_bytes i_b_clusters i_b_size i_b_starts i_b_depth) [(0, .ref a_a), (1, .ref a_b), (2, jk_V v2)] 34 [] := by
    intro a_code a_offset v2 hf
    unfold fn_Setup_checkFirstWord_b34 at hf
    refine jk_aload_n C rd_Setup_checkFirstWord_34 (k := 1) rfl ?_
    refine jk_getN C in_Cords (ci := 5) rfl 0 (by decide) (jk_nw hZ hz tn_12) 3 rfl rfl rd_Setup_checkFirstWord_35 ?_
    refine jk_if_eq (tgt := 58) C rd_Setup_checkFirstWord_38 (by decide) hf (fun _ hf => ?_) (fun _ hf => ?_)
    · refine jk_lv (lv' := [(0, .ref a_a), (1, .ref a_b)]) [0, 1] rfl ?_
      exact bk_58 a_code a_offset hf
    · refine jk_iload_n C rd_Setup_checkFirstWord_41 (k := 2) rfl ?_
      refine jk_if_eq (tgt := 63) C rd_Setup_checkFirstWord_42 (by decide) hf (fun _ hf => ?_) (fun _ hf => ?_)
      · refine jk_aload_n C rd_Setup_checkFirstWord_63 (k := 1) rfl ?_
        refine jk_getN C in_Cords (ci := 5) rfl 1 (by decide) (jk_nw hZ hz tn_16) 3 rfl rfl rd_Setup_checkFirstWord_64 ?_
        refine jk_bipush C rd_Setup_checkFirstWord_67 (by decide +kernel) ?_
        refine jk_icmp_lt (tgt := 78) C rd_Setup_checkFirstWord_69 (by decide) hf (fun _ hf => ?_) (fun _ hf => ?_)
        · cases hf
          exact jk_vret C rfl rd_Setup_checkFirstWord_78 rfl
        · refine jk_aload_n C rd_Setup_checkFirstWord_72 (k := 0) rfl ?_
          refine jk_bipush C rd_Setup_checkFirstWord_73 (by decide +kernel) ?_
          obtain ⟨q75, hq75, hf⟩ := jk_bind_h hf
          refine jk_callVv C hZ.1 hz (ct_Text_fail l D Z sq hZ cI cR a_a a_a_bytes i_a_length i_a_kind i_a_start i_a_end a_code a_offset 6 q75 hq75) tm_303 tm_304 tm_305 tm_2 tm_306 na_Text_fail ⟨Nat.le_of_ble_eq_true rfl, Nat.le_of_ble_eq_true rfl⟩ rfl [0] rfl rfl rfl (ws' := wd_Setup_checkFirstWord cI a_a a_a_bytes a_a_bytes_k a_b a_b_starts a_b_depth a_b_topic a_b_value a_b_nibbled a_b_starts_k a_b_depth_k i_a_length i_a_kind i_a_start i_a_end q75.1 q75.2 i_a_bytes i_b_clusters i_b_size i_b_starts i_b_depth) rfl 0 3 rfl rfl rfl (st := []) rfl (Nat.le_of_ble_eq_true rfl) rd_Setup_checkFirstWord_75 ?_ ⟨Nat.le_refl _, Nat.le_refl _⟩
          cases hf
          exact jk_vret C rfl rd_Setup_checkFirstWord_78 rfl
      · refine jk_aload_n C rd_Setup_checkFirstWord_45 (k := 1) rfl ?_
        refine jk_aload_n C rd_Setup_checkFirstWord_46 (k := 1) rfl ?_
        refine jk_getN C in_Cords (ci := 5) rfl 0 (by decide) (jk_nw hZ hz tn_12) 3 rfl rfl rd_Setup_checkFirstWord_47 ?_
        refine jk_iconst C rd_Setup_checkFirstWord_50 ?_
        refine jk_isub C rd_Setup_checkFirstWord_51 ?_
        obtain ⟨q52, hq52, hf⟩ := jk_bind_h hf
        refine jk_callVi C hZ.1 hz (ct_Cords_hasTop l D Z sq hZ cI cR a_b a_b_starts a_b_depth a_b_topic a_b_value a_b_nibbled a_b_starts_k a_b_depth_k i_b_clusters i_b_size i_b_starts i_b_depth (i_b_clusters - 1) q52 hq52) tm_348 tm_349 tm_350 tm_6 tm_351 na_Cords_hasTop ⟨Nat.le_of_ble_eq_true rfl, Nat.le_of_ble_eq_true rfl⟩ rfl [3, 4, 5, 6, 7] rfl rfl rfl (ws' := wd_Setup_checkFirstWord cI a_a a_a_bytes a_a_bytes_k a_b a_b_starts a_b_depth a_b_topic a_b_value a_b_nibbled a_b_starts_k a_b_depth_k i_a_length i_a_kind i_a_start i_a_end a_code a_offset i_a_bytes i_b_clusters i_b_size i_b_starts i_b_depth) rfl 3 5 rfl rfl rfl (st := []) rfl (Nat.le_of_ble_eq_true rfl) rd_Setup_checkFirstWord_52 ?_ ⟨Nat.le_refl _, Nat.le_refl _⟩
        refine jk_if_eq (tgt := 63) C rd_Setup_checkFirstWord_55 (by decide) hf (fun _ hf => ?_) (fun _ hf => ?_)
        · refine jk_aload_n C rd_Setup_checkFirstWord_63 (k := 1) rfl ?_
          refine jk_getN C in_Cords (ci := 5) rfl 1 (by decide) (jk_nw hZ hz tn_16) 3 rfl rfl rd_Setup_checkFirstWord_64 ?_
          refine jk_bipush C rd_Setup_checkFirstWord_67 (by decide +kernel) ?_
          refine jk_icmp_lt (tgt := 78) C rd_Setup_checkFirstWord_69 (by decide) hf (fun _ hf => ?_) (fun _ hf => ?_)
          · cases hf
            exact jk_vret C rfl rd_Setup_checkFirstWord_78 rfl
          · refine jk_aload_n C rd_Setup_checkFirstWord_72 (k := 0) rfl ?_
            refine jk_bipush C rd_Setup_checkFirstWord_73 (by decide +kernel) ?_
            obtain ⟨q75, hq75, hf⟩ := jk_bind_h hf
            refine jk_callVv C hZ.1 hz (ct_Text_fail l D Z sq hZ cI cR a_a a_a_bytes i_a_length i_a_kind i_a_start i_a_end a_code a_offset 6 q75 hq75) tm_303 tm_304 tm_305 tm_2 tm_306 na_Text_fail ⟨Nat.le_of_ble_eq_true rfl, Nat.le_of_ble_eq_true rfl⟩ rfl [0] rfl rfl rfl (ws' := wd_Setup_checkFirstWord cI a_a a_a_bytes a_a_bytes_k a_b a_b_starts a_b_depth a_b_topic a_b_value a_b_nibbled a_b_starts_k a_b_depth_k i_a_length i_a_kind i_a_start i_a_end q75.1 q75.2 i_a_bytes i_b_clusters i_b_size i_b_starts i_b_depth) rfl 0 3 rfl rfl rfl (st := []) rfl (Nat.le_of_ble_eq_true rfl) rd_Setup_checkFirstWord_75 ?_ ⟨Nat.le_refl _, Nat.le_refl _⟩
            cases hf
            exact jk_vret C rfl rd_Setup_checkFirstWord_78 rfl
        · refine jk_lv (lv' := [(0, .ref a_a), (1, .ref a_b)]) [0, 1] rfl ?_
          exact bk_58 a_code a_offset hf
  refine jk_aload_n C rd_Setup_checkFirstWord_0 (k := 0) rfl ?_
  refine jk_ldcs C hZ hz rd_Setup_checkFirstWord_1 (k := 3) rfl ?_
  obtain ⟨q3, hq3, hf⟩ := jk_bind_h hf
  refine jk_callVi C hZ.1 hz (ct_Text_isWord l D Z sq hZ cI cR a_a a_a_bytes a_a_bytes_k i_a_length i_a_kind i_a_start i_a_end i_a_code i_a_offset i_a_bytes ([116, 111, 112]) ((sq 3)) ((jk_zs hZ (k := 3) rfl)) q3 hq3) tm_296 tm_297 tm_298 tm_2 tm_299 na_Text_isWord ⟨Nat.le_of_ble_eq_true rfl, Nat.le_of_ble_eq_true rfl⟩ rfl [0, 1, 2] rfl rfl rfl (ws' := wd_Setup_checkFirstWord cI a_a a_a_bytes a_a_bytes_k a_b a_b_starts a_b_depth a_b_topic a_b_value a_b_nibbled a_b_starts_k a_b_depth_k i_a_length i_a_kind i_a_start i_a_end i_a_code i_a_offset i_a_bytes i_b_clusters i_b_size i_b_starts i_b_depth) rfl 0 3 rfl rfl rfl (st := []) rfl (Nat.le_of_ble_eq_true rfl) rd_Setup_checkFirstWord_3 ?_ ⟨Nat.le_refl _, Nat.le_refl _⟩
  refine jk_istore_n C rd_Setup_checkFirstWord_6 (by decide) (lv' := [(2, jk_V q3), (0, .ref a_a), (1, .ref a_b)]) rfl ?_
  refine jk_iload_n C rd_Setup_checkFirstWord_7 (k := 0) rfl ?_
  refine jk_if_ne (tgt := 34) C rd_Setup_checkFirstWord_8 (by decide) hf (fun _ hf => ?_) (fun _ hf => ?_)
  · refine jk_lv (lv' := [(0, .ref a_a), (1, .ref a_b), (2, jk_V q3)]) [1, 2, 0] rfl ?_
    exact bk_34 i_a_code i_a_offset q3 hf
  · refine jk_aload_n C rd_Setup_checkFirstWord_11 (k := 1) rfl ?_
    refine jk_ldcs C hZ hz rd_Setup_checkFirstWord_12 (k := 4) rfl ?_
    obtain ⟨q14, hq14, hf⟩ := jk_bind_h hf
    refine jk_callVi C hZ.1 hz (ct_Text_isWord l D Z sq hZ cI cR a_a a_a_bytes a_a_bytes_k i_a_length i_a_kind i_a_start i_a_end i_a_code i_a_offset i_a_bytes ([112, 101, 110, 100, 97, 110, 116]) ((sq 4)) ((jk_zs hZ (k := 4) rfl)) q14 hq14) tm_296 tm_297 tm_298 tm_2 tm_299 na_Text_isWord ⟨Nat.le_of_ble_eq_true rfl, Nat.le_of_ble_eq_true rfl⟩ rfl [0, 1, 2] rfl rfl rfl (ws' := wd_Setup_checkFirstWord cI a_a a_a_bytes a_a_bytes_k a_b a_b_starts a_b_depth a_b_topic a_b_value a_b_nibbled a_b_starts_k a_b_depth_k i_a_length i_a_kind i_a_start i_a_end i_a_code i_a_offset i_a_bytes i_b_clusters i_b_size i_b_starts i_b_depth) rfl 0 3 rfl rfl rfl (st := []) rfl (Nat.le_of_ble_eq_true rfl) rd_Setup_checkFirstWord_14 ?_ ⟨Nat.le_refl _, Nat.le_refl _⟩
    refine jk_if_ne (tgt := 34) C rd_Setup_checkFirstWord_17 (by decide) hf (fun _ hf => ?_) (fun _ hf => ?_)
    · refine jk_lv (lv' := [(0, .ref a_a), (1, .ref a_b), (2, jk_V q3)]) [1, 2, 0] rfl ?_
      exact bk_34 i_a_code i_a_offset q3 hf
    · refine jk_aload_n C rd_Setup_checkFirstWord_20 (k := 1) rfl ?_
      refine jk_ldcs C hZ hz rd_Setup_checkFirstWord_21 (k := 5) rfl ?_
      obtain ⟨q23, hq23, hf⟩ := jk_bind_h hf
      refine jk_callVi C hZ.1 hz (ct_Text_isWord l D Z sq hZ cI cR a_a a_a_bytes a_a_bytes_k i_a_length i_a_kind i_a_start i_a_end i_a_code i_a_offset i_a_bytes ([115, 117, 98]) ((sq 5)) ((jk_zs hZ (k := 5) rfl)) q23 hq23) tm_296 tm_297 tm_298 tm_2 tm_299 na_Text_isWord ⟨Nat.le_of_ble_eq_true rfl, Nat.le_of_ble_eq_true rfl⟩ rfl [0, 1, 2] rfl rfl rfl (ws' := wd_Setup_checkFirstWord cI a_a a_a_bytes a_a_bytes_k a_b a_b_starts a_b_depth a_b_topic a_b_value a_b_nibbled a_b_starts_k a_b_depth_k i_a_length i_a_kind i_a_start i_a_end i_a_code i_a_offset i_a_bytes i_b_clusters i_b_size i_b_starts i_b_depth) rfl 0 3 rfl rfl rfl (st := []) rfl (Nat.le_of_ble_eq_true rfl) rd_Setup_checkFirstWord_23 ?_ ⟨Nat.le_refl _, Nat.le_refl _⟩
      refine jk_if_ne (tgt := 34) C rd_Setup_checkFirstWord_26 (by decide) hf (fun _ hf => ?_) (fun _ hf => ?_)
      · refine jk_lv (lv' := [(0, .ref a_a), (1, .ref a_b), (2, jk_V q3)]) [1, 2, 0] rfl ?_
        exact bk_34 i_a_code i_a_offset q3 hf
      · refine jk_aload_n C rd_Setup_checkFirstWord_29 (k := 1) rfl ?_
        refine jk_iconst C rd_Setup_checkFirstWord_30 ?_
        obtain ⟨q31, hq31, hf⟩ := jk_bind_h hf
        refine jk_callVv C hZ.1 hz (ct_Text_fail l D Z sq hZ cI cR a_a a_a_bytes i_a_length i_a_kind i_a_start i_a_end i_a_code i_a_offset 1 q31 hq31) tm_303 tm_304 tm_305 tm_2 tm_306 na_Text_fail ⟨Nat.le_of_ble_eq_true rfl, Nat.le_of_ble_eq_true rfl⟩ rfl [0] rfl rfl rfl (ws' := wd_Setup_checkFirstWord cI a_a a_a_bytes a_a_bytes_k a_b a_b_starts a_b_depth a_b_topic a_b_value a_b_nibbled a_b_starts_k a_b_depth_k i_a_length i_a_kind i_a_start i_a_end q31.1 q31.2 i_a_bytes i_b_clusters i_b_size i_b_starts i_b_depth) rfl 0 3 rfl rfl rfl (st := []) rfl (Nat.le_of_ble_eq_true rfl) rd_Setup_checkFirstWord_31 ?_ ⟨Nat.le_refl _, Nat.le_refl _⟩
        refine jk_lv (lv' := [(0, .ref a_a), (1, .ref a_b), (2, jk_V q3)]) [1, 2, 0] rfl ?_
        exact bk_34 q31.1 q31.2 q3 hf
def wd_Setup_placeFor (cI : ClassId) (a_a a_a_starts a_a_depth a_a_topic a_a_value a_a_nibbled a_a_starts_k a_a_depth_k : Nat) (i_a_clusters : Int) (i_a_size : Int) (i_a_starts : (Int → Int)) (i_a_depth : (Int → Int)) : va_W := [(a_a, .inr (5, [jk_V i_a_clusters, jk_V i_a_size, .ref a_a_starts, .ref a_a_depth, .ref a_a_topic, .ref a_a_value, .ref a_a_nibbled])), (a_a_starts, .inr (0, [.ref a_a_starts_k])), (a_a_starts_k, jk_W cI 7 i_a_starts), (a_a_depth, .inr (0, [.ref a_a_depth_k])), (a_a_depth_k, jk_W cI 40 i_a_depth)]
set_option maxHeartbeats 4000000 in
set_option maxRecDepth 20000 in
theorem ct_Setup_placeFor (l : Launch) (D : va_G) (Z : (Nat → Prop) → State → Heap → Prop) (sq : Nat → Nat) (hZ : jk_ZK Z sq) (cI cR : ClassId) (a_a a_a_starts a_a_depth a_a_topic a_a_value a_a_nibbled a_a_starts_k a_a_depth_k : Nat) (i_a_clusters : Int) (i_a_size : Int) (i_a_starts : (Int → Int)) (i_a_depth : (Int → Int)) (x1 : Int) (q : Int) (hf : fn_Setup_placeFor i_a_clusters i_a_size i_a_starts i_a_depth x1 = some q) : jk_MI l D jk_cl (jk_ty cI cR) Z mn_Setup_placeFor (.code mn_Setup_placeFor mb_Setup_placeFor 4 (some .int) :: jk_WA) (jk_rm 2 45) [.ref a_a, jk_V x1] (wd_Setup_placeFor cI a_a a_a_starts a_a_depth a_a_topic a_a_value a_a_nibbled a_a_starts_k a_a_depth_k i_a_clusters i_a_size i_a_starts i_a_depth) (wd_Setup_placeFor cI a_a a_a_starts a_a_depth a_a_topic a_a_value a_a_nibbled a_a_starts_k a_a_depth_k i_a_clusters i_a_size i_a_starts i_a_depth) q := by
  intro sz
  refine jk_body (by decide +kernel) (fun p e s m args below meth c hsz hz hin C => ?_) (Nat.le_of_ble_eq_true rfl)
  subst hsz
  unfold fn_Setup_placeFor at hf
  refine jk_aload_n C rd_Setup_placeFor_0 (k := 0) rfl ?_
  refine jk_aload_n C rd_Setup_placeFor_1 (k := 0) rfl ?_
  refine jk_getN C in_Cords (ci := 5) rfl 0 (by decide) (jk_nw hZ hz tn_12) 0 rfl rfl rd_Setup_placeFor_2 ?_
  refine jk_iconst C rd_Setup_placeFor_5 ?_
  refine jk_isub C rd_Setup_placeFor_6 ?_
  obtain ⟨q7, hq7, hf⟩ := jk_bind_h hf
  refine jk_callVi C hZ.1 hz (ct_Cords_start l D Z sq hZ cI cR a_a a_a_starts a_a_depth a_a_topic a_a_value a_a_nibbled a_a_starts_k i_a_clusters i_a_size i_a_starts (i_a_clusters - 1) q7 hq7) tm_364 tm_365 tm_366 tm_6 tm_367 na_Cords_start ⟨Nat.le_of_ble_eq_true rfl, Nat.le_of_ble_eq_true rfl⟩ rfl [0, 1, 2] rfl rfl rfl (ws' := wd_Setup_placeFor cI a_a a_a_starts a_a_depth a_a_topic a_a_value a_a_nibbled a_a_starts_k a_a_depth_k i_a_clusters i_a_size i_a_starts i_a_depth) rfl 0 5 rfl rfl rfl (st := []) rfl (Nat.le_of_ble_eq_true rfl) rd_Setup_placeFor_7 ?_ ⟨Nat.le_refl _, Nat.le_refl _⟩
  refine jk_istore_n C rd_Setup_placeFor_10 (by decide) (lv' := [(2, jk_V q7), (0, .ref a_a), (1, jk_V x1)]) rfl ?_
  refine jk_iload_n C rd_Setup_placeFor_11 (k := 2) rfl ?_
  refine jk_if_ne (tgt := 17) C rd_Setup_placeFor_12 (by decide) hf (fun _ hf => ?_) (fun _ hf => ?_)
  · refine jk_iload_n C rd_Setup_placeFor_17 (k := 2) rfl ?_
    refine jk_iconst C rd_Setup_placeFor_18 ?_
    refine jk_icmp_ne (tgt := 27) C rd_Setup_placeFor_19 (by decide) hf (fun _ hf => ?_) (fun _ hf => ?_)
    · refine jk_aload_n C rd_Setup_placeFor_27 (k := 1) rfl ?_
      refine jk_iload_n C rd_Setup_placeFor_28 (k := 0) rfl ?_
      refine jk_aload_n C rd_Setup_placeFor_29 (k := 1) rfl ?_
      refine jk_getN C in_Cords (ci := 5) rfl 1 (by decide) (jk_nw hZ hz tn_16) 0 rfl rfl rd_Setup_placeFor_30 ?_
      refine jk_iload_n C rd_Setup_placeFor_33 (k := 2) rfl ?_
      refine jk_iconst C rd_Setup_placeFor_34 ?_
      refine jk_isub C rd_Setup_placeFor_35 ?_
      obtain ⟨q36, hq36, hf⟩ := jk_bind_h hf
      refine jk_callVi C hZ.1 hz (ct_Cords_latestAtDepth l D Z sq hZ cI cR a_a a_a_starts a_a_depth a_a_topic a_a_value a_a_nibbled a_a_depth_k i_a_clusters i_a_size i_a_depth q7 i_a_size (x1 - 1) q36 hq36) tm_368 tm_369 tm_370 tm_6 tm_371 na_Cords_latestAtDepth ⟨Nat.le_of_ble_eq_true rfl, Nat.le_of_ble_eq_true rfl⟩ rfl [0, 3, 4] rfl rfl rfl (ws' := wd_Setup_placeFor cI a_a a_a_starts a_a_depth a_a_topic a_a_value a_a_nibbled a_a_starts_k a_a_depth_k i_a_clusters i_a_size i_a_starts i_a_depth) rfl 0 5 rfl rfl rfl (st := []) rfl (Nat.le_of_ble_eq_true rfl) rd_Setup_placeFor_36 ?_ ⟨Nat.le_refl _, Nat.le_refl _⟩
      refine jk_istore_n C rd_Setup_placeFor_39 (by decide) (lv' := [(3, jk_V q36), (2, jk_V q7), (0, .ref a_a), (1, jk_V x1)]) rfl ?_
      refine jk_iload_n C rd_Setup_placeFor_40 (k := 0) rfl ?_
      refine jk_iconst C rd_Setup_placeFor_41 ?_
      refine jk_icmp_ne (tgt := 49) C rd_Setup_placeFor_42 (by decide) hf (fun _ hf => ?_) (fun _ hf => ?_)
      · refine jk_aload_n C rd_Setup_placeFor_49 (k := 2) rfl ?_
        refine jk_iload_n C rd_Setup_placeFor_50 (k := 0) rfl ?_
        obtain ⟨q51, hq51, hf⟩ := jk_bind_h hf
        refine jk_callVi C hZ.1 hz (ct_Cords_branchEnd l D Z sq hZ cI cR a_a a_a_starts a_a_depth a_a_topic a_a_value a_a_nibbled a_a_depth_k i_a_clusters i_a_size i_a_depth q36 q51 hq51) tm_372 tm_373 tm_374 tm_6 tm_375 na_Cords_branchEnd ⟨Nat.le_of_ble_eq_true rfl, Nat.le_of_ble_eq_true rfl⟩ rfl [0, 3, 4] rfl rfl rfl (ws' := wd_Setup_placeFor cI a_a a_a_starts a_a_depth a_a_topic a_a_value a_a_nibbled a_a_starts_k a_a_depth_k i_a_clusters i_a_size i_a_starts i_a_depth) rfl 0 5 rfl rfl rfl (st := []) rfl (Nat.le_of_ble_eq_true rfl) rd_Setup_placeFor_51 ?_ ⟨Nat.le_refl _, Nat.le_refl _⟩
        cases hf
        exact jk_iret C rfl rd_Setup_placeFor_54 rfl
      · refine jk_iconst C rd_Setup_placeFor_45 ?_
        refine jk_goto (tgt := 54) C rd_Setup_placeFor_46 (by decide) ?_
        cases hf
        exact jk_iret C rfl rd_Setup_placeFor_54 rfl
    · refine jk_aload_n C rd_Setup_placeFor_22 (k := 1) rfl ?_
      refine jk_getN C in_Cords (ci := 5) rfl 1 (by decide) (jk_nw hZ hz tn_16) 0 rfl rfl rd_Setup_placeFor_23 ?_
      cases hf
      exact jk_iret C rfl rd_Setup_placeFor_26 rfl
  · refine jk_iload_n C rd_Setup_placeFor_15 (k := 0) rfl ?_
    cases hf
    exact jk_iret C rfl rd_Setup_placeFor_16 rfl
def wd_Setup_readCord (cI : ClassId) (a_a a_a_bytes a_a_bytes_k a_b a_b_names a_b_names_k a_c a_c_starts a_c_depth a_c_topic a_c_value a_c_nibbled a_c_starts_k a_c_depth_k a_c_topic_k a_c_value_k a_c_nibbled_k : Nat) (i_a_length : Int) (i_a_kind : Int) (i_a_start : Int) (i_a_end : Int) (i_a_code : Int) (i_a_offset : Int) (i_a_bytes : (Int → Int)) (i_b_size : Int) (i_b_names : (Int → Int)) (i_c_clusters : Int) (i_c_size : Int) (i_c_starts : (Int → Int)) (i_c_depth : (Int → Int)) (i_c_topic : (Int → Int)) (i_c_value : (Int → Int)) (i_c_nibbled : (Int → Int)) : va_W := [(a_a, .inr (3, [.ref a_a_bytes, jk_V i_a_length, jk_V i_a_kind, jk_V i_a_start, jk_V i_a_end, jk_V i_a_code, jk_V i_a_offset])), (a_a_bytes, .inr (0, [.ref a_a_bytes_k])), (a_a_bytes_k, jk_W cI 700 i_a_bytes), (a_b, .inr (2, [jk_V i_b_size, .ref a_b_names])), (a_b_names, .inr (0, [.ref a_b_names_k])), (a_b_names_k, jk_W cI 8 i_b_names), (a_c, .inr (5, [jk_V i_c_clusters, jk_V i_c_size, .ref a_c_starts, .ref a_c_depth, .ref a_c_topic, .ref a_c_value, .ref a_c_nibbled])), (a_c_starts, .inr (0, [.ref a_c_starts_k])), (a_c_starts_k, jk_W cI 7 i_c_starts), (a_c_depth, .inr (0, [.ref a_c_depth_k])), (a_c_depth_k, jk_W cI 40 i_c_depth), (a_c_topic, .inr (0, [.ref a_c_topic_k])), (a_c_topic_k, jk_W cI 40 i_c_topic), (a_c_value, .inr (0, [.ref a_c_value_k])), (a_c_value_k, jk_W cI 40 i_c_value), (a_c_nibbled, .inr (0, [.ref a_c_nibbled_k])), (a_c_nibbled_k, jk_W cI 40 i_c_nibbled)]
set_option maxHeartbeats 4000000 in
set_option maxRecDepth 20000 in
theorem ct_Setup_readCord (l : Launch) (D : va_G) (Z : (Nat → Prop) → State → Heap → Prop) (sq : Nat → Nat) (hZ : jk_ZK Z sq) (cI cR : ClassId) (a_a a_a_bytes a_a_bytes_k a_b a_b_names a_b_names_k a_c a_c_starts a_c_depth a_c_topic a_c_value a_c_nibbled a_c_starts_k a_c_depth_k a_c_topic_k a_c_value_k a_c_nibbled_k : Nat) (i_a_length : Int) (i_a_kind : Int) (i_a_start : Int) (i_a_end : Int) (i_a_code : Int) (i_a_offset : Int) (i_a_bytes : (Int → Int)) (i_b_size : Int) (i_b_names : (Int → Int)) (i_c_clusters : Int) (i_c_size : Int) (i_c_starts : (Int → Int)) (i_c_depth : (Int → Int)) (i_c_topic : (Int → Int)) (i_c_value : (Int → Int)) (i_c_nibbled : (Int → Int)) (q : Int × Int × Int × Int × Int × Int × (Int → Int) × (Int → Int) × (Int → Int) × (Int → Int) × (Int → Int)) (hf : fn_Setup_readCord i_a_bytes i_a_length i_a_kind i_a_start i_a_end i_a_code i_a_offset i_b_size i_b_names i_c_clusters i_c_size i_c_starts i_c_depth i_c_topic i_c_value i_c_nibbled = some q) : jk_MV l D jk_cl (jk_ty cI cR) Z mn_Setup_readCord (.code mn_Setup_readCord mb_Setup_readCord 8 none :: jk_WA) (jk_rm 8 344) [.ref a_a, .ref a_b, .ref a_c] (wd_Setup_readCord cI a_a a_a_bytes a_a_bytes_k a_b a_b_names a_b_names_k a_c a_c_starts a_c_depth a_c_topic a_c_value a_c_nibbled a_c_starts_k a_c_depth_k a_c_topic_k a_c_value_k a_c_nibbled_k i_a_length i_a_kind i_a_start i_a_end i_a_code i_a_offset i_a_bytes i_b_size i_b_names i_c_clusters i_c_size i_c_starts i_c_depth i_c_topic i_c_value i_c_nibbled) (wd_Setup_readCord cI a_a a_a_bytes a_a_bytes_k a_b a_b_names a_b_names_k a_c a_c_starts a_c_depth a_c_topic a_c_value a_c_nibbled a_c_starts_k a_c_depth_k a_c_topic_k a_c_value_k a_c_nibbled_k i_a_length q.1 q.2.1 q.2.2.1 q.2.2.2.1 q.2.2.2.2.1 i_a_bytes i_b_size i_b_names i_c_clusters q.2.2.2.2.2.1 q.2.2.2.2.2.2.1 q.2.2.2.2.2.2.2.1 q.2.2.2.2.2.2.2.2.1 q.2.2.2.2.2.2.2.2.2.1 q.2.2.2.2.2.2.2.2.2.2) := by
  intro sz
  refine jk_body (by decide +kernel) (fun p e s m args below meth c hsz hz hin C => ?_) (Nat.le_of_ble_eq_true rfl)
  subst hsz
  unfold fn_Setup_readCord at hf
  have bk_92 : ∀ (a_kind : Int) (a_start : Int) (a_end : Int) (a_code : Int) (a_offset : Int) (c_size : Int) (c_starts : (Int → Int)) (c_depth : (Int → Int)) (c_topic : (Int → Int)) (c_value : (Int → Int)) (c_nibbled : (Int → Int)) (v3 : Int) (v4 : Int) (v5 : Int) (v6 : Int) (s0 : Int), fn_Setup_readCord_b92 i_a_bytes i_a_length a_kind a_start a_end a_code a_offset i_c_clusters c_size c_starts c_depth c_topic c_value c_nibbled v3 v4 v5 v6 s0 = some q → jk_J p l e (jk_rm 8 344) s m args below meth c 0 0 (jk_QV below D jk_cl (jk_ty cI cR) (wd_Setup_readCord cI a_a a_a_bytes a_a_bytes_k a_b a_b_names a_b_names_k a_c a_c_starts a_c_depth a_c_topic a_c_value a_c_nibbled a_c_starts_k a_c_depth_k a_c_topic_k a_c_value_k a_c_nibbled_k i_a_length i_a_kind i_a_start i_a_end i_a_code i_a_offset i_a_bytes i_b_size i_b_names i_c_clusters i_c_size i_c_starts i_c_depth i_c_topic i_c_value i_c_nibbled) (wd_Setup_readCord cI a_a a_a_bytes a_a_bytes_k a_b a_b_names a_b_names_k a_c a_c_starts a_c_depth a_c_topic a_c_value a_c_nibbled a_c_starts_k a_c_depth_k a_c_topic_k a_c_value_k a_c_nibbled_k i_a_length q.1 q.2.1 q.2.2.1 q.2.2.2.1 q.2.2.2.2.1 i_a_bytes i_b_size i_b_names i_c_clusters q.2.2.2.2.2.1 q.2.2.2.2.2.2.1 q.2.2.2.2.2.2.2.1 q.2.2.2.2.2.2.2.2.1 q.2.2.2.2.2.2.2.2.2.1 q.2.2.2.2.2.2.2.2.2.2) args s) D jk_cl (va_A (wd_Setup_readCord cI a_a a_a_bytes a_a_bytes_k a_b a_b_names a_b_names_k a_c a_c_starts a_c_depth a_c_topic a_c_value a_c_nibbled a_c_starts_k a_c_depth_k a_c_topic_k a_c_value_k a_c_nibbled_k i_a_length i_a_kind i_a_start i_a_end i_a_code i_a_offset i_a_bytes i_b_size i_b_names i_c_clusters i_c_size i_c_starts i_c_depth i_c_topic i_c_value i_c_nibbled) s.heap.size) 8 (wd_Setup_readCord cI a_a a_a_bytes a_a_bytes_k a_b a_b_names a_b_names_k a_c a_c_starts a_c_depth a_c_topic a_c_value a_c_nibbled a_c_starts_k a_c_depth_k a_c_topic_k a_c_value_k a_c_nibbled_k i_a_length a_kind a_start a_end a_code a_offset i_a_bytes i_b_size i_b_names i_c_clusters c_size c_starts c_depth c_topic c_value c_nibbled) [(0, .ref a_a), (2, .ref a_c), (3, jk_V v3), (4, jk_V v4), (5, jk_V v5), (6, jk_V v6)] 92 [jk_V s0] := by
    intro a_kind a_start a_end a_code a_offset c_size c_starts c_depth c_topic c_value c_nibbled v3 v4 v5 v6 s0 hf
    unfold fn_Setup_readCord_b92 at hf
    refine jk_istore C rd_Setup_readCord_92 (by decide) (lv' := [(7, jk_V s0), (0, .ref a_a), (2, .ref a_c), (3, jk_V v3), (4, jk_V v4), (5, jk_V v5), (6, jk_V v6)]) rfl ?_
    refine jk_aload_n C rd_Setup_readCord_94 (k := 1) rfl ?_
    obtain ⟨q95, hq95, hf⟩ := jk_bind_h hf
    refine jk_callVv C hZ.1 hz (ct_Text_readSemicolon l D Z sq hZ cI cR a_a a_a_bytes a_a_bytes_k i_a_length a_kind a_start a_end a_code a_offset i_a_bytes q95 hq95) tm_326 tm_327 tm_328 tm_2 tm_329 na_Text_readSemicolon ⟨Nat.le_of_ble_eq_true rfl, Nat.le_of_ble_eq_true rfl⟩ rfl [0, 1, 2] rfl rfl rfl (ws' := wd_Setup_readCord cI a_a a_a_bytes a_a_bytes_k a_b a_b_names a_b_names_k a_c a_c_starts a_c_depth a_c_topic a_c_value a_c_nibbled a_c_starts_k a_c_depth_k a_c_topic_k a_c_value_k a_c_nibbled_k i_a_length q95.1 q95.2.1 q95.2.2.1 q95.2.2.2.1 q95.2.2.2.2 i_a_bytes i_b_size i_b_names i_c_clusters c_size c_starts c_depth c_topic c_value c_nibbled) rfl 0 3 rfl rfl rfl (st := []) rfl (Nat.le_of_ble_eq_true rfl) rd_Setup_readCord_95 ?_ ⟨Nat.le_refl _, Nat.le_refl _⟩
    refine jk_aload_n C rd_Setup_readCord_98 (k := 1) rfl ?_
    obtain ⟨q99, hq99, hf⟩ := jk_bind_h hf
    refine jk_callVi C hZ.1 hz (ct_Text_hasFailed l D Z sq hZ cI cR a_a a_a_bytes i_a_length q95.1 q95.2.1 q95.2.2.1 q95.2.2.2.1 q95.2.2.2.2 q99 hq99) tm_386 tm_280 tm_281 tm_2 tm_282 na_Text_hasFailed ⟨Nat.le_of_ble_eq_true rfl, Nat.le_of_ble_eq_true rfl⟩ rfl [0] rfl rfl rfl (ws' := wd_Setup_readCord cI a_a a_a_bytes a_a_bytes_k a_b a_b_names a_b_names_k a_c a_c_starts a_c_depth a_c_topic a_c_value a_c_nibbled a_c_starts_k a_c_depth_k a_c_topic_k a_c_value_k a_c_nibbled_k i_a_length q95.1 q95.2.1 q95.2.2.1 q95.2.2.2.1 q95.2.2.2.2 i_a_bytes i_b_size i_b_names i_c_clusters c_size c_starts c_depth c_topic c_value c_nibbled) rfl 0 3 rfl rfl rfl (st := []) rfl (Nat.le_of_ble_eq_true rfl) rd_Setup_readCord_99 ?_ ⟨Nat.le_refl _, Nat.le_refl _⟩
    refine jk_if_ne (tgt := 132) C rd_Setup_readCord_102 (by decide) hf (fun _ hf => ?_) (fun _ hf => ?_)
    · cases hf
      exact jk_vret C rfl rd_Setup_readCord_132 rfl
    · refine jk_aload_n C rd_Setup_readCord_105 (k := 2) rfl ?_
      refine jk_iload C rd_Setup_readCord_106 (k := 4) rfl ?_
      refine jk_aload_n C rd_Setup_readCord_108 (k := 2) rfl ?_
      refine jk_getN C in_Cords (ci := 5) rfl 0 (by decide) (jk_nw hZ hz tn_12) 6 rfl rfl rd_Setup_readCord_109 ?_
      refine jk_iconst C rd_Setup_readCord_112 ?_
      refine jk_isub C rd_Setup_readCord_113 ?_
      refine jk_iload_n C rd_Setup_readCord_114 (k := 3) rfl ?_
      refine jk_iload C rd_Setup_readCord_115 (k := 5) rfl ?_
      refine jk_iload C rd_Setup_readCord_117 (k := 6) rfl ?_
      obtain ⟨q119, hq119, hf⟩ := jk_bind_h hf
      refine jk_callVi C hZ.1 hz (ct_Cords_insert l D Z sq hZ cI cR a_c a_c_starts a_c_depth a_c_topic a_c_value a_c_nibbled a_c_starts_k a_c_depth_k a_c_topic_k a_c_value_k a_c_nibbled_k i_c_clusters c_size c_starts c_depth c_topic c_value c_nibbled v4 (i_c_clusters - 1) v3 v5 v6 q119 hq119) tm_387 tm_388 tm_389 tm_6 tm_390 na_Cords_insert ⟨Nat.le_of_ble_eq_true rfl, Nat.le_of_ble_eq_true rfl⟩ rfl [6, 7, 8, 9, 10, 11, 12, 13, 14, 15, 16] rfl rfl rfl (ws' := wd_Setup_readCord cI a_a a_a_bytes a_a_bytes_k a_b a_b_names a_b_names_k a_c a_c_starts a_c_depth a_c_topic a_c_value a_c_nibbled a_c_starts_k a_c_depth_k a_c_topic_k a_c_value_k a_c_nibbled_k i_a_length q95.1 q95.2.1 q95.2.2.1 q95.2.2.2.1 q95.2.2.2.2 i_a_bytes i_b_size i_b_names i_c_clusters q119.2.1 q119.2.2.1 q119.2.2.2.1 q119.2.2.2.2.1 q119.2.2.2.2.2.1 q119.2.2.2.2.2.2) rfl 6 5 rfl rfl rfl (st := []) rfl (Nat.le_of_ble_eq_true rfl) rd_Setup_readCord_119 ?_ ⟨Nat.le_refl _, Nat.le_refl _⟩
      refine jk_pop C rd_Setup_readCord_122 rfl ?_
      refine jk_aload_n C rd_Setup_readCord_123 (k := 2) rfl ?_
      refine jk_iload C rd_Setup_readCord_124 (k := 4) rfl ?_
      refine jk_iload C rd_Setup_readCord_126 (k := 0) rfl ?_
      obtain ⟨q128, hq128, hf⟩ := jk_bind_h hf
      refine jk_callVi C hZ.1 hz (ct_Cords_loseKnots l D Z sq hZ cI cR a_c a_c_starts a_c_depth a_c_topic a_c_value a_c_nibbled a_c_value_k a_c_nibbled_k i_c_clusters q119.2.1 q119.2.2.2.2.2.1 q119.2.2.2.2.2.2 v4 s0 q128 hq128) tm_401 tm_402 tm_403 tm_6 tm_404 na_Cords_loseKnots ⟨Nat.le_of_ble_eq_true rfl, Nat.le_of_ble_eq_true rfl⟩ rfl [6, 13, 14, 15, 16] rfl rfl rfl (ws' := wd_Setup_readCord cI a_a a_a_bytes a_a_bytes_k a_b a_b_names a_b_names_k a_c a_c_starts a_c_depth a_c_topic a_c_value a_c_nibbled a_c_starts_k a_c_depth_k a_c_topic_k a_c_value_k a_c_nibbled_k i_a_length q95.1 q95.2.1 q95.2.2.1 q95.2.2.2.1 q95.2.2.2.2 i_a_bytes i_b_size i_b_names i_c_clusters q119.2.1 q119.2.2.1 q119.2.2.2.1 q119.2.2.2.2.1 q128.2.1 q128.2.2) rfl 6 5 rfl rfl rfl (st := []) rfl (Nat.le_of_ble_eq_true rfl) rd_Setup_readCord_128 ?_ ⟨Nat.le_refl _, Nat.le_refl _⟩
      refine jk_pop C rd_Setup_readCord_131 rfl ?_
      cases hf
      exact jk_vret C rfl rd_Setup_readCord_132 rfl
  have bk_56 : ∀ (a_kind : Int) (a_start : Int) (a_end : Int) (a_code : Int) (a_offset : Int) (c_size : Int) (c_starts : (Int → Int)) (c_depth : (Int → Int)) (c_topic : (Int → Int)) (c_value : (Int → Int)) (c_nibbled : (Int → Int)) (v3 : Int) (v4 : Int), fn_Setup_readCord_b56 i_a_bytes i_a_length a_kind a_start a_end a_code a_offset i_b_size i_b_names i_c_clusters c_size c_starts c_depth c_topic c_value c_nibbled v3 v4 = some q → jk_J p l e (jk_rm 8 344) s m args below meth c 0 0 (jk_QV below D jk_cl (jk_ty cI cR) (wd_Setup_readCord cI a_a a_a_bytes a_a_bytes_k a_b a_b_names a_b_names_k a_c a_c_starts a_c_depth a_c_topic a_c_value a_c_nibbled a_c_starts_k a_c_depth_k a_c_topic_k a_c_value_k a_c_nibbled_k i_a_length i_a_kind i_a_start i_a_end i_a_code i_a_offset i_a_bytes i_b_size i_b_names i_c_clusters i_c_size i_c_starts i_c_depth i_c_topic i_c_value i_c_nibbled) (wd_Setup_readCord cI a_a a_a_bytes a_a_bytes_k a_b a_b_names a_b_names_k a_c a_c_starts a_c_depth a_c_topic a_c_value a_c_nibbled a_c_starts_k a_c_depth_k a_c_topic_k a_c_value_k a_c_nibbled_k i_a_length q.1 q.2.1 q.2.2.1 q.2.2.2.1 q.2.2.2.2.1 i_a_bytes i_b_size i_b_names i_c_clusters q.2.2.2.2.2.1 q.2.2.2.2.2.2.1 q.2.2.2.2.2.2.2.1 q.2.2.2.2.2.2.2.2.1 q.2.2.2.2.2.2.2.2.2.1 q.2.2.2.2.2.2.2.2.2.2) args s) D jk_cl (va_A (wd_Setup_readCord cI a_a a_a_bytes a_a_bytes_k a_b a_b_names a_b_names_k a_c a_c_starts a_c_depth a_c_topic a_c_value a_c_nibbled a_c_starts_k a_c_depth_k a_c_topic_k a_c_value_k a_c_nibbled_k i_a_length i_a_kind i_a_start i_a_end i_a_code i_a_offset i_a_bytes i_b_size i_b_names i_c_clusters i_c_size i_c_starts i_c_depth i_c_topic i_c_value i_c_nibbled) s.heap.size) 8 (wd_Setup_readCord cI a_a a_a_bytes a_a_bytes_k a_b a_b_names a_b_names_k a_c a_c_starts a_c_depth a_c_topic a_c_value a_c_nibbled a_c_starts_k a_c_depth_k a_c_topic_k a_c_value_k a_c_nibbled_k i_a_length a_kind a_start a_end a_code a_offset i_a_bytes i_b_size i_b_names i_c_clusters c_size c_starts c_depth c_topic c_value c_nibbled) [(0, .ref a_a), (1, .ref a_b), (2, .ref a_c), (3, jk_V v3), (4, jk_V v4)] 56 [] := by
    intro a_kind a_start a_end a_code a_offset c_size c_starts c_depth c_topic c_value c_nibbled v3 v4 hf
    unfold fn_Setup_readCord_b56 at hf
    refine jk_aload_n C rd_Setup_readCord_56 (k := 0) rfl ?_
    refine jk_aload_n C rd_Setup_readCord_57 (k := 1) rfl ?_
    obtain ⟨q58, hq58, hf⟩ := jk_bind_h hf
    refine jk_callVi C hZ.1 hz (ct_Text_readTopic l D Z sq hZ cI cR a_a a_a_bytes a_a_bytes_k a_b a_b_names a_b_names_k i_a_length a_kind a_start a_end a_code a_offset i_a_bytes i_b_size i_b_names q58 hq58) tm_376 tm_377 tm_378 tm_2 tm_379 na_Text_readTopic ⟨Nat.le_of_ble_eq_true rfl, Nat.le_of_ble_eq_true rfl⟩ rfl [0, 1, 2, 3, 4, 5] rfl rfl rfl (ws' := wd_Setup_readCord cI a_a a_a_bytes a_a_bytes_k a_b a_b_names a_b_names_k a_c a_c_starts a_c_depth a_c_topic a_c_value a_c_nibbled a_c_starts_k a_c_depth_k a_c_topic_k a_c_value_k a_c_nibbled_k i_a_length q58.2.1 q58.2.2.1 q58.2.2.2.1 q58.2.2.2.2.1 q58.2.2.2.2.2 i_a_bytes i_b_size i_b_names i_c_clusters c_size c_starts c_depth c_topic c_value c_nibbled) rfl 0 3 rfl rfl rfl (st := []) rfl (Nat.le_of_ble_eq_true rfl) rd_Setup_readCord_58 ?_ ⟨Nat.le_refl _, Nat.le_refl _⟩
    refine jk_istore C rd_Setup_readCord_61 (by decide) (lv' := [(5, jk_V q58.1), (0, .ref a_a), (1, .ref a_b), (2, .ref a_c), (3, jk_V v3), (4, jk_V v4)]) rfl ?_
    refine jk_aload_n C rd_Setup_readCord_63 (k := 1) rfl ?_
    refine jk_iconst C rd_Setup_readCord_64 ?_
    refine jk_sipush C rd_Setup_readCord_65 (by decide +kernel) ?_
    obtain ⟨q68, hq68, hf⟩ := jk_bind_h hf
    refine jk_callVi C hZ.1 hz (ct_Text_readNumber l D Z sq hZ cI cR a_a a_a_bytes a_a_bytes_k i_a_length q58.2.1 q58.2.2.1 q58.2.2.2.1 q58.2.2.2.2.1 q58.2.2.2.2.2 i_a_bytes 0 9999 q68 hq68) tm_357 tm_358 tm_359 tm_2 tm_360 na_Text_readNumber ⟨Nat.le_of_ble_eq_true rfl, Nat.le_of_ble_eq_true rfl⟩ rfl [0, 1, 2] rfl rfl rfl (ws' := wd_Setup_readCord cI a_a a_a_bytes a_a_bytes_k a_b a_b_names a_b_names_k a_c a_c_starts a_c_depth a_c_topic a_c_value a_c_nibbled a_c_starts_k a_c_depth_k a_c_topic_k a_c_value_k a_c_nibbled_k i_a_length q68.2.1 q68.2.2.1 q68.2.2.2.1 q68.2.2.2.2.1 q68.2.2.2.2.2 i_a_bytes i_b_size i_b_names i_c_clusters c_size c_starts c_depth c_topic c_value c_nibbled) rfl 0 3 rfl rfl rfl (st := []) rfl (Nat.le_of_ble_eq_true rfl) rd_Setup_readCord_68 ?_ ⟨Nat.le_refl _, Nat.le_refl _⟩
    refine jk_istore C rd_Setup_readCord_71 (by decide) (lv' := [(6, jk_V q68.1), (5, jk_V q58.1), (0, .ref a_a), (1, .ref a_b), (2, .ref a_c), (3, jk_V v3), (4, jk_V v4)]) rfl ?_
    refine jk_aload_n C rd_Setup_readCord_73 (k := 2) rfl ?_
    refine jk_ldcs C hZ hz rd_Setup_readCord_74 (k := 6) rfl ?_
    obtain ⟨q76, hq76, hf⟩ := jk_bind_h hf
    refine jk_callVi C hZ.1 hz (ct_Text_takesWord l D Z sq hZ cI cR a_a a_a_bytes a_a_bytes_k i_a_length q68.2.1 q68.2.2.1 q68.2.2.2.1 q68.2.2.2.2.1 q68.2.2.2.2.2 i_a_bytes ([110, 105, 98, 98, 108, 101, 100]) ((sq 6)) ((jk_zs hZ (k := 6) rfl)) q76 hq76) tm_381 tm_382 tm_383 tm_2 tm_384 na_Text_takesWord ⟨Nat.le_of_ble_eq_true rfl, Nat.le_of_ble_eq_true rfl⟩ rfl [0, 1, 2] rfl rfl rfl (ws' := wd_Setup_readCord cI a_a a_a_bytes a_a_bytes_k a_b a_b_names a_b_names_k a_c a_c_starts a_c_depth a_c_topic a_c_value a_c_nibbled a_c_starts_k a_c_depth_k a_c_topic_k a_c_value_k a_c_nibbled_k i_a_length q76.2.1 q76.2.2.1 q76.2.2.2 q68.2.2.2.2.1 q68.2.2.2.2.2 i_a_bytes i_b_size i_b_names i_c_clusters c_size c_starts c_depth c_topic c_value c_nibbled) rfl 0 3 rfl rfl rfl (st := []) rfl (Nat.le_of_ble_eq_true rfl) rd_Setup_readCord_76 ?_ ⟨Nat.le_refl _, Nat.le_refl _⟩
    refine jk_if_eq (tgt := 91) C rd_Setup_readCord_79 (by decide) hf (fun _ hf => ?_) (fun _ hf => ?_)
    · refine jk_iconst C rd_Setup_readCord_91 ?_
      refine jk_lv (lv' := [(0, .ref a_a), (2, .ref a_c), (3, jk_V v3), (4, jk_V v4), (5, jk_V q58.1), (6, jk_V q68.1)]) [2, 4, 5, 6, 1, 0] rfl ?_
      exact bk_92 q76.2.1 q76.2.2.1 q76.2.2.2 q68.2.2.2.2.1 q68.2.2.2.2.2 c_size c_starts c_depth c_topic c_value c_nibbled v3 v4 q58.1 q68.1 0 hf
    · refine jk_aload_n C rd_Setup_readCord_82 (k := 2) rfl ?_
      refine jk_iconst C rd_Setup_readCord_83 ?_
      refine jk_iconst C rd_Setup_readCord_84 ?_
      obtain ⟨q85, hq85, hf⟩ := jk_bind_h hf
      refine jk_callVi C hZ.1 hz (ct_Text_readNumber l D Z sq hZ cI cR a_a a_a_bytes a_a_bytes_k i_a_length q76.2.1 q76.2.2.1 q76.2.2.2 q68.2.2.2.2.1 q68.2.2.2.2.2 i_a_bytes 1 4 q85 hq85) tm_357 tm_358 tm_359 tm_2 tm_360 na_Text_readNumber ⟨Nat.le_of_ble_eq_true rfl, Nat.le_of_ble_eq_true rfl⟩ rfl [0, 1, 2] rfl rfl rfl (ws' := wd_Setup_readCord cI a_a a_a_bytes a_a_bytes_k a_b a_b_names a_b_names_k a_c a_c_starts a_c_depth a_c_topic a_c_value a_c_nibbled a_c_starts_k a_c_depth_k a_c_topic_k a_c_value_k a_c_nibbled_k i_a_length q85.2.1 q85.2.2.1 q85.2.2.2.1 q85.2.2.2.2.1 q85.2.2.2.2.2 i_a_bytes i_b_size i_b_names i_c_clusters c_size c_starts c_depth c_topic c_value c_nibbled) rfl 0 3 rfl rfl rfl (st := []) rfl (Nat.le_of_ble_eq_true rfl) rd_Setup_readCord_85 ?_ ⟨Nat.le_refl _, Nat.le_refl _⟩
      refine jk_goto (tgt := 92) C rd_Setup_readCord_88 (by decide) ?_
      refine jk_lv (lv' := [(0, .ref a_a), (2, .ref a_c), (3, jk_V v3), (4, jk_V v4), (5, jk_V q58.1), (6, jk_V q68.1)]) [2, 4, 5, 6, 1, 0] rfl ?_
      exact bk_92 q85.2.1 q85.2.2.1 q85.2.2.2.1 q85.2.2.2.2.1 q85.2.2.2.2.2 c_size c_starts c_depth c_topic c_value c_nibbled v3 v4 q58.1 q68.1 q85.1 hf
  have bk_37 : ∀ (a_kind : Int) (a_start : Int) (a_end : Int) (a_code : Int) (a_offset : Int) (c_size : Int) (c_starts : (Int → Int)) (c_depth : (Int → Int)) (c_topic : (Int → Int)) (c_value : (Int → Int)) (c_nibbled : (Int → Int)) (s0 : Int), fn_Setup_readCord_b37 i_a_bytes i_a_length a_kind a_start a_end a_code a_offset i_b_size i_b_names i_c_clusters c_size c_starts c_depth c_topic c_value c_nibbled s0 = some q → jk_J p l e (jk_rm 8 344) s m args below meth c 0 0 (jk_QV below D jk_cl (jk_ty cI cR) (wd_Setup_readCord cI a_a a_a_bytes a_a_bytes_k a_b a_b_names a_b_names_k a_c a_c_starts a_c_depth a_c_topic a_c_value a_c_nibbled a_c_starts_k a_c_depth_k a_c_topic_k a_c_value_k a_c_nibbled_k i_a_length i_a_kind i_a_start i_a_end i_a_code i_a_offset i_a_bytes i_b_size i_b_names i_c_clusters i_c_size i_c_starts i_c_depth i_c_topic i_c_value i_c_nibbled) (wd_Setup_readCord cI a_a a_a_bytes a_a_bytes_k a_b a_b_names a_b_names_k a_c a_c_starts a_c_depth a_c_topic a_c_value a_c_nibbled a_c_starts_k a_c_depth_k a_c_topic_k a_c_value_k a_c_nibbled_k i_a_length q.1 q.2.1 q.2.2.1 q.2.2.2.1 q.2.2.2.2.1 i_a_bytes i_b_size i_b_names i_c_clusters q.2.2.2.2.2.1 q.2.2.2.2.2.2.1 q.2.2.2.2.2.2.2.1 q.2.2.2.2.2.2.2.2.1 q.2.2.2.2.2.2.2.2.2.1 q.2.2.2.2.2.2.2.2.2.2) args s) D jk_cl (va_A (wd_Setup_readCord cI a_a a_a_bytes a_a_bytes_k a_b a_b_names a_b_names_k a_c a_c_starts a_c_depth a_c_topic a_c_value a_c_nibbled a_c_starts_k a_c_depth_k a_c_topic_k a_c_value_k a_c_nibbled_k i_a_length i_a_kind i_a_start i_a_end i_a_code i_a_offset i_a_bytes i_b_size i_b_names i_c_clusters i_c_size i_c_starts i_c_depth i_c_topic i_c_value i_c_nibbled) s.heap.size) 8 (wd_Setup_readCord cI a_a a_a_bytes a_a_bytes_k a_b a_b_names a_b_names_k a_c a_c_starts a_c_depth a_c_topic a_c_value a_c_nibbled a_c_starts_k a_c_depth_k a_c_topic_k a_c_value_k a_c_nibbled_k i_a_length a_kind a_start a_end a_code a_offset i_a_bytes i_b_size i_b_names i_c_clusters c_size c_starts c_depth c_topic c_value c_nibbled) [(0, .ref a_a), (1, .ref a_b), (2, .ref a_c)] 37 [jk_V s0] := by
    intro a_kind a_start a_end a_code a_offset c_size c_starts c_depth c_topic c_value c_nibbled s0 hf
    unfold fn_Setup_readCord_b37 at hf
    refine jk_istore_n C rd_Setup_readCord_37 (by decide) (lv' := [(3, jk_V s0), (0, .ref a_a), (1, .ref a_b), (2, .ref a_c)]) rfl ?_
    refine jk_aload_n C rd_Setup_readCord_38 (k := 3) rfl ?_
    refine jk_iload_n C rd_Setup_readCord_39 (k := 0) rfl ?_
    obtain ⟨q40, hq40, hf⟩ := jk_bind_h hf
    refine jk_callSi C hZ.1 hz (ct_Setup_placeFor l D Z sq hZ cI cR a_c a_c_starts a_c_depth a_c_topic a_c_value a_c_nibbled a_c_starts_k a_c_depth_k i_c_clusters c_size c_starts c_depth s0 q40 hq40) tm_361 tm_362 tm_13 tm_363 na_Setup_placeFor ⟨Nat.le_of_ble_eq_true rfl, Nat.le_of_ble_eq_true rfl⟩ rfl [6, 7, 8, 9, 10] rfl rfl rfl (ws' := wd_Setup_readCord cI a_a a_a_bytes a_a_bytes_k a_b a_b_names a_b_names_k a_c a_c_starts a_c_depth a_c_topic a_c_value a_c_nibbled a_c_starts_k a_c_depth_k a_c_topic_k a_c_value_k a_c_nibbled_k i_a_length a_kind a_start a_end a_code a_offset i_a_bytes i_b_size i_b_names i_c_clusters c_size c_starts c_depth c_topic c_value c_nibbled) rfl (st := []) rfl (Nat.le_of_ble_eq_true rfl) rd_Setup_readCord_40 ?_ ⟨Nat.le_refl _, Nat.le_refl _⟩
    refine jk_istore C rd_Setup_readCord_43 (by decide) (lv' := [(4, jk_V q40), (3, jk_V s0), (0, .ref a_a), (1, .ref a_b), (2, .ref a_c)]) rfl ?_
    refine jk_iload C rd_Setup_readCord_45 (k := 0) rfl ?_
    refine jk_iconst C rd_Setup_readCord_47 ?_
    refine jk_icmp_ne (tgt := 56) C rd_Setup_readCord_48 (by decide) hf (fun _ hf => ?_) (fun _ hf => ?_)
    · refine jk_lv (lv' := [(0, .ref a_a), (1, .ref a_b), (2, .ref a_c), (3, jk_V s0), (4, jk_V q40)]) [2, 3, 4, 1, 0] rfl ?_
      exact bk_56 a_kind a_start a_end a_code a_offset c_size c_starts c_depth c_topic c_value c_nibbled s0 q40 hf
    · refine jk_aload_n C rd_Setup_readCord_51 (k := 2) rfl ?_
      refine jk_iconst C rd_Setup_readCord_52 ?_
      obtain ⟨q53, hq53, hf⟩ := jk_bind_h hf
      refine jk_callVv C hZ.1 hz (ct_Text_fail l D Z sq hZ cI cR a_a a_a_bytes i_a_length a_kind a_start a_end a_code a_offset 5 q53 hq53) tm_303 tm_304 tm_305 tm_2 tm_306 na_Text_fail ⟨Nat.le_of_ble_eq_true rfl, Nat.le_of_ble_eq_true rfl⟩ rfl [0] rfl rfl rfl (ws' := wd_Setup_readCord cI a_a a_a_bytes a_a_bytes_k a_b a_b_names a_b_names_k a_c a_c_starts a_c_depth a_c_topic a_c_value a_c_nibbled a_c_starts_k a_c_depth_k a_c_topic_k a_c_value_k a_c_nibbled_k i_a_length a_kind a_start a_end q53.1 q53.2 i_a_bytes i_b_size i_b_names i_c_clusters c_size c_starts c_depth c_topic c_value c_nibbled) rfl 0 3 rfl rfl rfl (st := []) rfl (Nat.le_of_ble_eq_true rfl) rd_Setup_readCord_53 ?_ ⟨Nat.le_refl _, Nat.le_refl _⟩
      refine jk_lv (lv' := [(0, .ref a_a), (1, .ref a_b), (2, .ref a_c), (3, jk_V s0), (4, jk_V q40)]) [2, 3, 4, 1, 0] rfl ?_
      exact bk_56 a_kind a_start a_end q53.1 q53.2 c_size c_starts c_depth c_topic c_value c_nibbled s0 q40 hf
  refine jk_aload_n C rd_Setup_readCord_0 (k := 0) rfl ?_
  refine jk_aload_n C rd_Setup_readCord_1 (k := 2) rfl ?_
  obtain ⟨q2, hq2, hf⟩ := jk_bind_h hf
  refine jk_callSv C hZ.1 hz (ct_Setup_checkFirstWord l D Z sq hZ cI cR a_a a_a_bytes a_a_bytes_k a_c a_c_starts a_c_depth a_c_topic a_c_value a_c_nibbled a_c_starts_k a_c_depth_k i_a_length i_a_kind i_a_start i_a_end i_a_code i_a_offset i_a_bytes i_c_clusters i_c_size i_c_starts i_c_depth q2 hq2) tm_342 tm_343 tm_13 tm_344 na_Setup_checkFirstWord ⟨Nat.le_of_ble_eq_true rfl, Nat.le_of_ble_eq_true rfl⟩ rfl [0, 1, 2, 6, 7, 8, 9, 10] rfl rfl rfl (ws' := wd_Setup_readCord cI a_a a_a_bytes a_a_bytes_k a_b a_b_names a_b_names_k a_c a_c_starts a_c_depth a_c_topic a_c_value a_c_nibbled a_c_starts_k a_c_depth_k a_c_topic_k a_c_value_k a_c_nibbled_k i_a_length i_a_kind i_a_start i_a_end q2.1 q2.2 i_a_bytes i_b_size i_b_names i_c_clusters i_c_size i_c_starts i_c_depth i_c_topic i_c_value i_c_nibbled) rfl (st := []) rfl (Nat.le_of_ble_eq_true rfl) rd_Setup_readCord_2 ?_ ⟨Nat.le_refl _, Nat.le_refl _⟩
  refine jk_aload_n C rd_Setup_readCord_5 (k := 0) rfl ?_
  refine jk_ldcs C hZ hz rd_Setup_readCord_6 (k := 3) rfl ?_
  obtain ⟨q8, hq8, hf⟩ := jk_bind_h hf
  refine jk_callVi C hZ.1 hz (ct_Text_isWord l D Z sq hZ cI cR a_a a_a_bytes a_a_bytes_k i_a_length i_a_kind i_a_start i_a_end q2.1 q2.2 i_a_bytes ([116, 111, 112]) ((sq 3)) ((jk_zs hZ (k := 3) rfl)) q8 hq8) tm_296 tm_297 tm_298 tm_2 tm_299 na_Text_isWord ⟨Nat.le_of_ble_eq_true rfl, Nat.le_of_ble_eq_true rfl⟩ rfl [0, 1, 2] rfl rfl rfl (ws' := wd_Setup_readCord cI a_a a_a_bytes a_a_bytes_k a_b a_b_names a_b_names_k a_c a_c_starts a_c_depth a_c_topic a_c_value a_c_nibbled a_c_starts_k a_c_depth_k a_c_topic_k a_c_value_k a_c_nibbled_k i_a_length i_a_kind i_a_start i_a_end q2.1 q2.2 i_a_bytes i_b_size i_b_names i_c_clusters i_c_size i_c_starts i_c_depth i_c_topic i_c_value i_c_nibbled) rfl 0 3 rfl rfl rfl (st := []) rfl (Nat.le_of_ble_eq_true rfl) rd_Setup_readCord_8 ?_ ⟨Nat.le_refl _, Nat.le_refl _⟩
  refine jk_if_eq (tgt := 18) C rd_Setup_readCord_11 (by decide) hf (fun _ hf => ?_) (fun _ hf => ?_)
  · refine jk_aload_n C rd_Setup_readCord_18 (k := 0) rfl ?_
    refine jk_ldcs C hZ hz rd_Setup_readCord_19 (k := 4) rfl ?_
    obtain ⟨q21, hq21, hf⟩ := jk_bind_h hf
    refine jk_callVi C hZ.1 hz (ct_Text_isWord l D Z sq hZ cI cR a_a a_a_bytes a_a_bytes_k i_a_length i_a_kind i_a_start i_a_end q2.1 q2.2 i_a_bytes ([112, 101, 110, 100, 97, 110, 116]) ((sq 4)) ((jk_zs hZ (k := 4) rfl)) q21 hq21) tm_296 tm_297 tm_298 tm_2 tm_299 na_Text_isWord ⟨Nat.le_of_ble_eq_true rfl, Nat.le_of_ble_eq_true rfl⟩ rfl [0, 1, 2] rfl rfl rfl (ws' := wd_Setup_readCord cI a_a a_a_bytes a_a_bytes_k a_b a_b_names a_b_names_k a_c a_c_starts a_c_depth a_c_topic a_c_value a_c_nibbled a_c_starts_k a_c_depth_k a_c_topic_k a_c_value_k a_c_nibbled_k i_a_length i_a_kind i_a_start i_a_end q2.1 q2.2 i_a_bytes i_b_size i_b_names i_c_clusters i_c_size i_c_starts i_c_depth i_c_topic i_c_value i_c_nibbled) rfl 0 3 rfl rfl rfl (st := []) rfl (Nat.le_of_ble_eq_true rfl) rd_Setup_readCord_21 ?_ ⟨Nat.le_refl _, Nat.le_refl _⟩
    refine jk_if_eq (tgt := 31) C rd_Setup_readCord_24 (by decide) hf (fun _ hf => ?_) (fun _ hf => ?_)
    · refine jk_aload_n C rd_Setup_readCord_31 (k := 0) rfl ?_
      refine jk_iconst C rd_Setup_readCord_32 ?_
      refine jk_iconst C rd_Setup_readCord_33 ?_
      obtain ⟨q34, hq34, hf⟩ := jk_bind_h hf
      refine jk_callVi C hZ.1 hz (ct_Text_readNumber l D Z sq hZ cI cR a_a a_a_bytes a_a_bytes_k i_a_length i_a_kind i_a_start i_a_end q2.1 q2.2 i_a_bytes 2 3 q34 hq34) tm_357 tm_358 tm_359 tm_2 tm_360 na_Text_readNumber ⟨Nat.le_of_ble_eq_true rfl, Nat.le_of_ble_eq_true rfl⟩ rfl [0, 1, 2] rfl rfl rfl (ws' := wd_Setup_readCord cI a_a a_a_bytes a_a_bytes_k a_b a_b_names a_b_names_k a_c a_c_starts a_c_depth a_c_topic a_c_value a_c_nibbled a_c_starts_k a_c_depth_k a_c_topic_k a_c_value_k a_c_nibbled_k i_a_length q34.2.1 q34.2.2.1 q34.2.2.2.1 q34.2.2.2.2.1 q34.2.2.2.2.2 i_a_bytes i_b_size i_b_names i_c_clusters i_c_size i_c_starts i_c_depth i_c_topic i_c_value i_c_nibbled) rfl 0 3 rfl rfl rfl (st := []) rfl (Nat.le_of_ble_eq_true rfl) rd_Setup_readCord_34 ?_ ⟨Nat.le_refl _, Nat.le_refl _⟩
      refine jk_lv (lv' := [(0, .ref a_a), (1, .ref a_b), (2, .ref a_c)]) [0, 1, 2] rfl ?_
      exact bk_37 q34.2.1 q34.2.2.1 q34.2.2.2.1 q34.2.2.2.2.1 q34.2.2.2.2.2 i_c_size i_c_starts i_c_depth i_c_topic i_c_value i_c_nibbled q34.1 hf
    · refine jk_iconst C rd_Setup_readCord_27 ?_
      refine jk_goto (tgt := 37) C rd_Setup_readCord_28 (by decide) ?_
      refine jk_lv (lv' := [(0, .ref a_a), (1, .ref a_b), (2, .ref a_c)]) [0, 1, 2] rfl ?_
      exact bk_37 i_a_kind i_a_start i_a_end q2.1 q2.2 i_c_size i_c_starts i_c_depth i_c_topic i_c_value i_c_nibbled 1 hf
  · refine jk_iconst C rd_Setup_readCord_14 ?_
    refine jk_goto (tgt := 37) C rd_Setup_readCord_15 (by decide) ?_
    refine jk_lv (lv' := [(0, .ref a_a), (1, .ref a_b), (2, .ref a_c)]) [0, 1, 2] rfl ?_
    exact bk_37 i_a_kind i_a_start i_a_end q2.1 q2.2 i_c_size i_c_starts i_c_depth i_c_topic i_c_value i_c_nibbled 0 hf
def wd_Setup_readTopic (cI : ClassId) (a_a a_a_bytes a_a_bytes_k a_b a_b_names a_b_names_k : Nat) (i_a_length : Int) (i_a_kind : Int) (i_a_start : Int) (i_a_end : Int) (i_a_code : Int) (i_a_offset : Int) (i_a_bytes : (Int → Int)) (i_b_size : Int) (i_b_names : (Int → Int)) : va_W := [(a_a, .inr (3, [.ref a_a_bytes, jk_V i_a_length, jk_V i_a_kind, jk_V i_a_start, jk_V i_a_end, jk_V i_a_code, jk_V i_a_offset])), (a_a_bytes, .inr (0, [.ref a_a_bytes_k])), (a_a_bytes_k, jk_W cI 700 i_a_bytes), (a_b, .inr (2, [jk_V i_b_size, .ref a_b_names])), (a_b_names, .inr (0, [.ref a_b_names_k])), (a_b_names_k, jk_W cI 8 i_b_names)]
set_option maxHeartbeats 4000000 in
set_option maxRecDepth 20000 in
theorem ct_Setup_readTopic (l : Launch) (D : va_G) (Z : (Nat → Prop) → State → Heap → Prop) (sq : Nat → Nat) (hZ : jk_ZK Z sq) (cI cR : ClassId) (a_a a_a_bytes a_a_bytes_k a_b a_b_names a_b_names_k : Nat) (i_a_length : Int) (i_a_kind : Int) (i_a_start : Int) (i_a_end : Int) (i_a_code : Int) (i_a_offset : Int) (i_a_bytes : (Int → Int)) (i_b_size : Int) (i_b_names : (Int → Int)) (q : Int × Int × Int × Int × Int × Int × (Int → Int)) (hf : fn_Setup_readTopic i_a_bytes i_a_length i_a_kind i_a_start i_a_end i_a_code i_a_offset i_b_size i_b_names = some q) : jk_MV l D jk_cl (jk_ty cI cR) Z mn_Setup_readTopic (.code mn_Setup_readTopic mb_Setup_readTopic 2 none :: jk_WA) (jk_rm 4 86) [.ref a_a, .ref a_b] (wd_Setup_readTopic cI a_a a_a_bytes a_a_bytes_k a_b a_b_names a_b_names_k i_a_length i_a_kind i_a_start i_a_end i_a_code i_a_offset i_a_bytes i_b_size i_b_names) (wd_Setup_readTopic cI a_a a_a_bytes a_a_bytes_k a_b a_b_names a_b_names_k i_a_length q.1 q.2.1 q.2.2.1 q.2.2.2.1 q.2.2.2.2.1 i_a_bytes q.2.2.2.2.2.1 q.2.2.2.2.2.2) := by
  intro sz
  refine jk_body (by decide +kernel) (fun p e s m args below meth c hsz hz hin C => ?_) (Nat.le_of_ble_eq_true rfl)
  subst hsz
  unfold fn_Setup_readTopic at hf
  refine jk_aload_n C rd_Setup_readTopic_0 (k := 1) rfl ?_
  refine jk_getN C in_Topics (ci := 2) rfl 0 (by decide) (jk_nw hZ hz tn_8) 3 rfl rfl rd_Setup_readTopic_1 ?_
  refine jk_bipush C rd_Setup_readTopic_4 (by decide +kernel) ?_
  refine jk_icmp_lt (tgt := 15) C rd_Setup_readTopic_6 (by decide) hf (fun _ hf => ?_) (fun _ hf => ?_)
  · refine jk_aload_n C rd_Setup_readTopic_15 (k := 0) rfl ?_
    refine jk_aload_n C rd_Setup_readTopic_16 (k := 1) rfl ?_
    obtain ⟨q17, hq17, hf⟩ := jk_bind_h hf
    refine jk_callVv C hZ.1 hz (ct_Text_readNewTopic l D Z sq hZ cI cR a_a a_a_bytes a_a_bytes_k a_b a_b_names a_b_names_k i_a_length i_a_kind i_a_start i_a_end i_a_code i_a_offset i_a_bytes i_b_size i_b_names q17 hq17) tm_307 tm_308 tm_309 tm_2 tm_310 na_Text_readNewTopic ⟨Nat.le_of_ble_eq_true rfl, Nat.le_of_ble_eq_true rfl⟩ rfl [0, 1, 2, 3, 4, 5] rfl rfl rfl (ws' := wd_Setup_readTopic cI a_a a_a_bytes a_a_bytes_k a_b a_b_names a_b_names_k i_a_length q17.1 q17.2.1 q17.2.2.1 q17.2.2.2.1 q17.2.2.2.2.1 i_a_bytes q17.2.2.2.2.2.1 q17.2.2.2.2.2.2) rfl 0 3 rfl rfl rfl (st := []) rfl (Nat.le_of_ble_eq_true rfl) rd_Setup_readTopic_17 ?_ ⟨Nat.le_refl _, Nat.le_refl _⟩
    refine jk_aload_n C rd_Setup_readTopic_20 (k := 0) rfl ?_
    obtain ⟨q21, hq21, hf⟩ := jk_bind_h hf
    refine jk_callVv C hZ.1 hz (ct_Text_readSemicolon l D Z sq hZ cI cR a_a a_a_bytes a_a_bytes_k i_a_length q17.1 q17.2.1 q17.2.2.1 q17.2.2.2.1 q17.2.2.2.2.1 i_a_bytes q21 hq21) tm_326 tm_327 tm_328 tm_2 tm_329 na_Text_readSemicolon ⟨Nat.le_of_ble_eq_true rfl, Nat.le_of_ble_eq_true rfl⟩ rfl [0, 1, 2] rfl rfl rfl (ws' := wd_Setup_readTopic cI a_a a_a_bytes a_a_bytes_k a_b a_b_names a_b_names_k i_a_length q21.1 q21.2.1 q21.2.2.1 q21.2.2.2.1 q21.2.2.2.2 i_a_bytes q17.2.2.2.2.2.1 q17.2.2.2.2.2.2) rfl 0 3 rfl rfl rfl (st := []) rfl (Nat.le_of_ble_eq_true rfl) rd_Setup_readTopic_21 ?_ ⟨Nat.le_refl _, Nat.le_refl _⟩
    cases hf
    exact jk_vret C rfl rd_Setup_readTopic_24 rfl
  · refine jk_aload_n C rd_Setup_readTopic_9 (k := 0) rfl ?_
    refine jk_bipush C rd_Setup_readTopic_10 (by decide +kernel) ?_
    obtain ⟨q12, hq12, hf⟩ := jk_bind_h hf
    refine jk_callVv C hZ.1 hz (ct_Text_fail l D Z sq hZ cI cR a_a a_a_bytes i_a_length i_a_kind i_a_start i_a_end i_a_code i_a_offset 6 q12 hq12) tm_303 tm_304 tm_305 tm_2 tm_306 na_Text_fail ⟨Nat.le_of_ble_eq_true rfl, Nat.le_of_ble_eq_true rfl⟩ rfl [0] rfl rfl rfl (ws' := wd_Setup_readTopic cI a_a a_a_bytes a_a_bytes_k a_b a_b_names a_b_names_k i_a_length i_a_kind i_a_start i_a_end q12.1 q12.2 i_a_bytes i_b_size i_b_names) rfl 0 3 rfl rfl rfl (st := []) rfl (Nat.le_of_ble_eq_true rfl) rd_Setup_readTopic_12 ?_ ⟨Nat.le_refl _, Nat.le_refl _⟩
    refine jk_aload_n C rd_Setup_readTopic_15 (k := 0) rfl ?_
    refine jk_aload_n C rd_Setup_readTopic_16 (k := 1) rfl ?_
    obtain ⟨q17, hq17, hf⟩ := jk_bind_h hf
    refine jk_callVv C hZ.1 hz (ct_Text_readNewTopic l D Z sq hZ cI cR a_a a_a_bytes a_a_bytes_k a_b a_b_names a_b_names_k i_a_length i_a_kind i_a_start i_a_end q12.1 q12.2 i_a_bytes i_b_size i_b_names q17 hq17) tm_307 tm_308 tm_309 tm_2 tm_310 na_Text_readNewTopic ⟨Nat.le_of_ble_eq_true rfl, Nat.le_of_ble_eq_true rfl⟩ rfl [0, 1, 2, 3, 4, 5] rfl rfl rfl (ws' := wd_Setup_readTopic cI a_a a_a_bytes a_a_bytes_k a_b a_b_names a_b_names_k i_a_length q17.1 q17.2.1 q17.2.2.1 q17.2.2.2.1 q17.2.2.2.2.1 i_a_bytes q17.2.2.2.2.2.1 q17.2.2.2.2.2.2) rfl 0 3 rfl rfl rfl (st := []) rfl (Nat.le_of_ble_eq_true rfl) rd_Setup_readTopic_17 ?_ ⟨Nat.le_refl _, Nat.le_refl _⟩
    refine jk_aload_n C rd_Setup_readTopic_20 (k := 0) rfl ?_
    obtain ⟨q21, hq21, hf⟩ := jk_bind_h hf
    refine jk_callVv C hZ.1 hz (ct_Text_readSemicolon l D Z sq hZ cI cR a_a a_a_bytes a_a_bytes_k i_a_length q17.1 q17.2.1 q17.2.2.1 q17.2.2.2.1 q17.2.2.2.2.1 i_a_bytes q21 hq21) tm_326 tm_327 tm_328 tm_2 tm_329 na_Text_readSemicolon ⟨Nat.le_of_ble_eq_true rfl, Nat.le_of_ble_eq_true rfl⟩ rfl [0, 1, 2] rfl rfl rfl (ws' := wd_Setup_readTopic cI a_a a_a_bytes a_a_bytes_k a_b a_b_names a_b_names_k i_a_length q21.1 q21.2.1 q21.2.2.1 q21.2.2.2.1 q21.2.2.2.2 i_a_bytes q17.2.2.2.2.2.1 q17.2.2.2.2.2.2) rfl 0 3 rfl rfl rfl (st := []) rfl (Nat.le_of_ble_eq_true rfl) rd_Setup_readTopic_21 ?_ ⟨Nat.le_refl _, Nat.le_refl _⟩
    cases hf
    exact jk_vret C rfl rd_Setup_readTopic_24 rfl
def wd_Setup_parse (cI : ClassId) (a_a a_a_bytes a_a_bytes_k a_b a_b_names a_b_names_k a_c a_c_starts a_c_depth a_c_topic a_c_value a_c_nibbled a_c_starts_k a_c_depth_k a_c_topic_k a_c_value_k a_c_nibbled_k : Nat) (i_a_length : Int) (i_a_kind : Int) (i_a_start : Int) (i_a_end : Int) (i_a_code : Int) (i_a_offset : Int) (i_a_bytes : (Int → Int)) (i_b_size : Int) (i_b_names : (Int → Int)) (i_c_clusters : Int) (i_c_size : Int) (i_c_starts : (Int → Int)) (i_c_depth : (Int → Int)) (i_c_topic : (Int → Int)) (i_c_value : (Int → Int)) (i_c_nibbled : (Int → Int)) : va_W := [(a_a, .inr (3, [.ref a_a_bytes, jk_V i_a_length, jk_V i_a_kind, jk_V i_a_start, jk_V i_a_end, jk_V i_a_code, jk_V i_a_offset])), (a_a_bytes, .inr (0, [.ref a_a_bytes_k])), (a_a_bytes_k, jk_W cI 700 i_a_bytes), (a_b, .inr (2, [jk_V i_b_size, .ref a_b_names])), (a_b_names, .inr (0, [.ref a_b_names_k])), (a_b_names_k, jk_W cI 8 i_b_names), (a_c, .inr (5, [jk_V i_c_clusters, jk_V i_c_size, .ref a_c_starts, .ref a_c_depth, .ref a_c_topic, .ref a_c_value, .ref a_c_nibbled])), (a_c_starts, .inr (0, [.ref a_c_starts_k])), (a_c_starts_k, jk_W cI 7 i_c_starts), (a_c_depth, .inr (0, [.ref a_c_depth_k])), (a_c_depth_k, jk_W cI 40 i_c_depth), (a_c_topic, .inr (0, [.ref a_c_topic_k])), (a_c_topic_k, jk_W cI 40 i_c_topic), (a_c_value, .inr (0, [.ref a_c_value_k])), (a_c_value_k, jk_W cI 40 i_c_value), (a_c_nibbled, .inr (0, [.ref a_c_nibbled_k])), (a_c_nibbled_k, jk_W cI 40 i_c_nibbled)]
set_option maxHeartbeats 4000000 in
set_option maxRecDepth 20000 in
theorem ct_Setup_parse (l : Launch) (D : va_G) (Z : (Nat → Prop) → State → Heap → Prop) (sq : Nat → Nat) (hZ : jk_ZK Z sq) (cI cR : ClassId) (a_a a_a_bytes a_a_bytes_k a_b a_b_names a_b_names_k a_c a_c_starts a_c_depth a_c_topic a_c_value a_c_nibbled a_c_starts_k a_c_depth_k a_c_topic_k a_c_value_k a_c_nibbled_k : Nat) (i_a_length : Int) (i_a_kind : Int) (i_a_start : Int) (i_a_end : Int) (i_a_code : Int) (i_a_offset : Int) (i_a_bytes : (Int → Int)) (i_b_size : Int) (i_b_names : (Int → Int)) (i_c_clusters : Int) (i_c_size : Int) (i_c_starts : (Int → Int)) (i_c_depth : (Int → Int)) (i_c_topic : (Int → Int)) (i_c_value : (Int → Int)) (i_c_nibbled : (Int → Int)) (q : Int × Int × Int × Int × Int × Int × (Int → Int) × Int × Int × (Int → Int) × (Int → Int) × (Int → Int) × (Int → Int) × (Int → Int)) (hf : fn_Setup_parse i_a_bytes i_a_length i_a_kind i_a_start i_a_end i_a_code i_a_offset i_b_size i_b_names i_c_clusters i_c_size i_c_starts i_c_depth i_c_topic i_c_value i_c_nibbled = some q) : jk_MV l D jk_cl (jk_ty cI cR) Z mn_Setup_parse (.code mn_Setup_parse mb_Setup_parse 4 none :: jk_WA) (jk_rm 9 371) [.ref a_a, .ref a_b, .ref a_c] (wd_Setup_parse cI a_a a_a_bytes a_a_bytes_k a_b a_b_names a_b_names_k a_c a_c_starts a_c_depth a_c_topic a_c_value a_c_nibbled a_c_starts_k a_c_depth_k a_c_topic_k a_c_value_k a_c_nibbled_k i_a_length i_a_kind i_a_start i_a_end i_a_code i_a_offset i_a_bytes i_b_size i_b_names i_c_clusters i_c_size i_c_starts i_c_depth i_c_topic i_c_value i_c_nibbled) (wd_Setup_parse cI a_a a_a_bytes a_a_bytes_k a_b a_b_names a_b_names_k a_c a_c_starts a_c_depth a_c_topic a_c_value a_c_nibbled a_c_starts_k a_c_depth_k a_c_topic_k a_c_value_k a_c_nibbled_k i_a_length q.1 q.2.1 q.2.2.1 q.2.2.2.1 q.2.2.2.2.1 i_a_bytes q.2.2.2.2.2.1 q.2.2.2.2.2.2.1 q.2.2.2.2.2.2.2.1 q.2.2.2.2.2.2.2.2.1 q.2.2.2.2.2.2.2.2.2.1 q.2.2.2.2.2.2.2.2.2.2.1 q.2.2.2.2.2.2.2.2.2.2.2.1 q.2.2.2.2.2.2.2.2.2.2.2.2.1 q.2.2.2.2.2.2.2.2.2.2.2.2.2) := by
  intro sz
  refine jk_body (by decide +kernel) (fun p e s m args below meth c hsz hz hin C => ?_) (Nat.le_of_ble_eq_true rfl)
  subst hsz
  unfold fn_Setup_parse at hf
  have bk_14 : ∀ (n : Nat) (a_kind : Int) (a_start : Int) (a_end : Int) (a_code : Int) (a_offset : Int) (b_size : Int) (b_names : (Int → Int)) (c_clusters : Int) (c_size : Int) (c_starts : (Int → Int)) (c_depth : (Int → Int)) (c_topic : (Int → Int)) (c_value : (Int → Int)) (c_nibbled : (Int → Int)) (v3 : Int), fn_Setup_parse_b14 n i_a_bytes i_a_length a_kind a_start a_end a_code a_offset b_size b_names c_clusters c_size c_starts c_depth c_topic c_value c_nibbled v3 = some q → jk_J p l e (jk_rm 9 371) s m args below meth c 0 0 (jk_QV below D jk_cl (jk_ty cI cR) (wd_Setup_parse cI a_a a_a_bytes a_a_bytes_k a_b a_b_names a_b_names_k a_c a_c_starts a_c_depth a_c_topic a_c_value a_c_nibbled a_c_starts_k a_c_depth_k a_c_topic_k a_c_value_k a_c_nibbled_k i_a_length i_a_kind i_a_start i_a_end i_a_code i_a_offset i_a_bytes i_b_size i_b_names i_c_clusters i_c_size i_c_starts i_c_depth i_c_topic i_c_value i_c_nibbled) (wd_Setup_parse cI a_a a_a_bytes a_a_bytes_k a_b a_b_names a_b_names_k a_c a_c_starts a_c_depth a_c_topic a_c_value a_c_nibbled a_c_starts_k a_c_depth_k a_c_topic_k a_c_value_k a_c_nibbled_k i_a_length q.1 q.2.1 q.2.2.1 q.2.2.2.1 q.2.2.2.2.1 i_a_bytes q.2.2.2.2.2.1 q.2.2.2.2.2.2.1 q.2.2.2.2.2.2.2.1 q.2.2.2.2.2.2.2.2.1 q.2.2.2.2.2.2.2.2.2.1 q.2.2.2.2.2.2.2.2.2.2.1 q.2.2.2.2.2.2.2.2.2.2.2.1 q.2.2.2.2.2.2.2.2.2.2.2.2.1 q.2.2.2.2.2.2.2.2.2.2.2.2.2) args s) D jk_cl (va_A (wd_Setup_parse cI a_a a_a_bytes a_a_bytes_k a_b a_b_names a_b_names_k a_c a_c_starts a_c_depth a_c_topic a_c_value a_c_nibbled a_c_starts_k a_c_depth_k a_c_topic_k a_c_value_k a_c_nibbled_k i_a_length i_a_kind i_a_start i_a_end i_a_code i_a_offset i_a_bytes i_b_size i_b_names i_c_clusters i_c_size i_c_starts i_c_depth i_c_topic i_c_value i_c_nibbled) s.heap.size) 4 (wd_Setup_parse cI a_a a_a_bytes a_a_bytes_k a_b a_b_names a_b_names_k a_c a_c_starts a_c_depth a_c_topic a_c_value a_c_nibbled a_c_starts_k a_c_depth_k a_c_topic_k a_c_value_k a_c_nibbled_k i_a_length a_kind a_start a_end a_code a_offset i_a_bytes b_size b_names c_clusters c_size c_starts c_depth c_topic c_value c_nibbled) [(0, .ref a_a), (1, .ref a_b), (2, .ref a_c), (3, jk_V v3)] 14 [] := by
    intro n
    induction n with
    | zero => intro a_kind a_start a_end a_code a_offset b_size b_names c_clusters c_size c_starts c_depth c_topic c_value c_nibbled v3 hf; exact nomatch (show none = some q from hf)
    | succ n ih =>
      intro a_kind a_start a_end a_code a_offset b_size b_names c_clusters c_size c_starts c_depth c_topic c_value c_nibbled v3 hf
      rw [fn_Setup_parse_b14] at hf
      refine jk_iload_n C rd_Setup_parse_14 (k := 3) rfl ?_
      refine jk_sipush C rd_Setup_parse_15 (by decide +kernel) ?_
      refine jk_icmp_gt (tgt := 74) C rd_Setup_parse_18 (by decide) hf (fun _ hf => ?_) (fun _ hf => ?_)
      · refine jk_aload_n C rd_Setup_parse_74 (k := 1) rfl ?_
        refine jk_getN C in_Topics (ci := 2) rfl 0 (by decide) (jk_nw hZ hz tn_8) 3 rfl rfl rd_Setup_parse_75 ?_
        refine jk_if_ne (tgt := 87) C rd_Setup_parse_78 (by decide) hf (fun _ hf => ?_) (fun _ hf => ?_)
        · cases hf
          exact jk_vret C rfl rd_Setup_parse_87 rfl
        · refine jk_aload_n C rd_Setup_parse_81 (k := 0) rfl ?_
          refine jk_bipush C rd_Setup_parse_82 (by decide +kernel) ?_
          obtain ⟨q84, hq84, hf⟩ := jk_bind_h hf
          refine jk_callVv C hZ.1 hz (ct_Text_fail l D Z sq hZ cI cR a_a a_a_bytes i_a_length a_kind a_start a_end a_code a_offset 7 q84 hq84) tm_303 tm_304 tm_305 tm_2 tm_306 na_Text_fail ⟨Nat.le_of_ble_eq_true rfl, Nat.le_of_ble_eq_true rfl⟩ rfl [0] rfl rfl rfl (ws' := wd_Setup_parse cI a_a a_a_bytes a_a_bytes_k a_b a_b_names a_b_names_k a_c a_c_starts a_c_depth a_c_topic a_c_value a_c_nibbled a_c_starts_k a_c_depth_k a_c_topic_k a_c_value_k a_c_nibbled_k i_a_length a_kind a_start a_end q84.1 q84.2 i_a_bytes b_size b_names c_clusters c_size c_starts c_depth c_topic c_value c_nibbled) rfl 0 3 rfl rfl rfl (st := []) rfl (Nat.le_of_ble_eq_true rfl) rd_Setup_parse_84 ?_ ⟨Nat.le_refl _, Nat.le_refl _⟩
          cases hf
          exact jk_vret C rfl rd_Setup_parse_87 rfl
      · refine jk_aload_n C rd_Setup_parse_21 (k := 0) rfl ?_
        obtain ⟨q22, hq22, hf⟩ := jk_bind_h hf
        refine jk_callVi C hZ.1 hz (ct_Text_nextStatement l D Z sq hZ cI cR a_a a_a_bytes a_a_bytes_k i_a_length a_kind a_start a_end a_code a_offset i_a_bytes q22 hq22) tm_275 tm_276 tm_277 tm_2 tm_278 na_Text_nextStatement ⟨Nat.le_of_ble_eq_true rfl, Nat.le_of_ble_eq_true rfl⟩ rfl [0, 1, 2] rfl rfl rfl (ws' := wd_Setup_parse cI a_a a_a_bytes a_a_bytes_k a_b a_b_names a_b_names_k a_c a_c_starts a_c_depth a_c_topic a_c_value a_c_nibbled a_c_starts_k a_c_depth_k a_c_topic_k a_c_value_k a_c_nibbled_k i_a_length q22.2.1 q22.2.2.1 q22.2.2.2 a_code a_offset i_a_bytes b_size b_names c_clusters c_size c_starts c_depth c_topic c_value c_nibbled) rfl 0 3 rfl rfl rfl (st := []) rfl (Nat.le_of_ble_eq_true rfl) rd_Setup_parse_22 ?_ ⟨Nat.le_refl _, Nat.le_refl _⟩
        refine jk_if_eq (tgt := 74) C rd_Setup_parse_25 (by decide) hf (fun _ hf => ?_) (fun _ hf => ?_)
        · refine jk_aload_n C rd_Setup_parse_74 (k := 1) rfl ?_
          refine jk_getN C in_Topics (ci := 2) rfl 0 (by decide) (jk_nw hZ hz tn_8) 3 rfl rfl rd_Setup_parse_75 ?_
          refine jk_if_ne (tgt := 87) C rd_Setup_parse_78 (by decide) hf (fun _ hf => ?_) (fun _ hf => ?_)
          · cases hf
            exact jk_vret C rfl rd_Setup_parse_87 rfl
          · refine jk_aload_n C rd_Setup_parse_81 (k := 0) rfl ?_
            refine jk_bipush C rd_Setup_parse_82 (by decide +kernel) ?_
            obtain ⟨q84, hq84, hf⟩ := jk_bind_h hf
            refine jk_callVv C hZ.1 hz (ct_Text_fail l D Z sq hZ cI cR a_a a_a_bytes i_a_length q22.2.1 q22.2.2.1 q22.2.2.2 a_code a_offset 7 q84 hq84) tm_303 tm_304 tm_305 tm_2 tm_306 na_Text_fail ⟨Nat.le_of_ble_eq_true rfl, Nat.le_of_ble_eq_true rfl⟩ rfl [0] rfl rfl rfl (ws' := wd_Setup_parse cI a_a a_a_bytes a_a_bytes_k a_b a_b_names a_b_names_k a_c a_c_starts a_c_depth a_c_topic a_c_value a_c_nibbled a_c_starts_k a_c_depth_k a_c_topic_k a_c_value_k a_c_nibbled_k i_a_length q22.2.1 q22.2.2.1 q22.2.2.2 q84.1 q84.2 i_a_bytes b_size b_names c_clusters c_size c_starts c_depth c_topic c_value c_nibbled) rfl 0 3 rfl rfl rfl (st := []) rfl (Nat.le_of_ble_eq_true rfl) rd_Setup_parse_84 ?_ ⟨Nat.le_refl _, Nat.le_refl _⟩
            cases hf
            exact jk_vret C rfl rd_Setup_parse_87 rfl
        · refine jk_aload_n C rd_Setup_parse_28 (k := 0) rfl ?_
          refine jk_ldcs C hZ hz rd_Setup_parse_29 (k := 1) rfl ?_
          obtain ⟨q31, hq31, hf⟩ := jk_bind_h hf
          refine jk_callVi C hZ.1 hz (ct_Text_isWord l D Z sq hZ cI cR a_a a_a_bytes a_a_bytes_k i_a_length q22.2.1 q22.2.2.1 q22.2.2.2 a_code a_offset i_a_bytes ([116, 111, 112, 105, 99]) ((sq 1)) ((jk_zs hZ (k := 1) rfl)) q31 hq31) tm_296 tm_297 tm_298 tm_2 tm_299 na_Text_isWord ⟨Nat.le_of_ble_eq_true rfl, Nat.le_of_ble_eq_true rfl⟩ rfl [0, 1, 2] rfl rfl rfl (ws' := wd_Setup_parse cI a_a a_a_bytes a_a_bytes_k a_b a_b_names a_b_names_k a_c a_c_starts a_c_depth a_c_topic a_c_value a_c_nibbled a_c_starts_k a_c_depth_k a_c_topic_k a_c_value_k a_c_nibbled_k i_a_length q22.2.1 q22.2.2.1 q22.2.2.2 a_code a_offset i_a_bytes b_size b_names c_clusters c_size c_starts c_depth c_topic c_value c_nibbled) rfl 0 3 rfl rfl rfl (st := []) rfl (Nat.le_of_ble_eq_true rfl) rd_Setup_parse_31 ?_ ⟨Nat.le_refl _, Nat.le_refl _⟩
          refine jk_if_eq (tgt := 45) C rd_Setup_parse_34 (by decide) hf (fun _ hf => ?_) (fun _ hf => ?_)
          · refine jk_aload_n C rd_Setup_parse_45 (k := 0) rfl ?_
            refine jk_ldcs C hZ hz rd_Setup_parse_46 (k := 2) rfl ?_
            obtain ⟨q48, hq48, hf⟩ := jk_bind_h hf
            refine jk_callVi C hZ.1 hz (ct_Text_isWord l D Z sq hZ cI cR a_a a_a_bytes a_a_bytes_k i_a_length q22.2.1 q22.2.2.1 q22.2.2.2 a_code a_offset i_a_bytes ([99, 108, 117, 115, 116, 101, 114]) ((sq 2)) ((jk_zs hZ (k := 2) rfl)) q48 hq48) tm_296 tm_297 tm_298 tm_2 tm_299 na_Text_isWord ⟨Nat.le_of_ble_eq_true rfl, Nat.le_of_ble_eq_true rfl⟩ rfl [0, 1, 2] rfl rfl rfl (ws' := wd_Setup_parse cI a_a a_a_bytes a_a_bytes_k a_b a_b_names a_b_names_k a_c a_c_starts a_c_depth a_c_topic a_c_value a_c_nibbled a_c_starts_k a_c_depth_k a_c_topic_k a_c_value_k a_c_nibbled_k i_a_length q22.2.1 q22.2.2.1 q22.2.2.2 a_code a_offset i_a_bytes b_size b_names c_clusters c_size c_starts c_depth c_topic c_value c_nibbled) rfl 0 3 rfl rfl rfl (st := []) rfl (Nat.le_of_ble_eq_true rfl) rd_Setup_parse_48 ?_ ⟨Nat.le_refl _, Nat.le_refl _⟩
            refine jk_if_eq (tgt := 62) C rd_Setup_parse_51 (by decide) hf (fun _ hf => ?_) (fun _ hf => ?_)
            · refine jk_aload_n C rd_Setup_parse_62 (k := 0) rfl ?_
              refine jk_aload_n C rd_Setup_parse_63 (k := 1) rfl ?_
              refine jk_aload_n C rd_Setup_parse_64 (k := 2) rfl ?_
              obtain ⟨q65, hq65, hf⟩ := jk_bind_h hf
              refine jk_callSv C hZ.1 hz (ct_Setup_readCord l D Z sq hZ cI cR a_a a_a_bytes a_a_bytes_k a_b a_b_names a_b_names_k a_c a_c_starts a_c_depth a_c_topic a_c_value a_c_nibbled a_c_starts_k a_c_depth_k a_c_topic_k a_c_value_k a_c_nibbled_k i_a_length q22.2.1 q22.2.2.1 q22.2.2.2 a_code a_offset i_a_bytes b_size b_names c_clusters c_size c_starts c_depth c_topic c_value c_nibbled q65 hq65) tm_339 tm_340 tm_13 tm_341 na_Setup_readCord ⟨Nat.le_of_ble_eq_true rfl, Nat.le_of_ble_eq_true rfl⟩ rfl [0, 1, 2, 3, 4, 5, 6, 7, 8, 9, 10, 11, 12, 13, 14, 15, 16] rfl rfl rfl (ws' := wd_Setup_parse cI a_a a_a_bytes a_a_bytes_k a_b a_b_names a_b_names_k a_c a_c_starts a_c_depth a_c_topic a_c_value a_c_nibbled a_c_starts_k a_c_depth_k a_c_topic_k a_c_value_k a_c_nibbled_k i_a_length q65.1 q65.2.1 q65.2.2.1 q65.2.2.2.1 q65.2.2.2.2.1 i_a_bytes b_size b_names c_clusters q65.2.2.2.2.2.1 q65.2.2.2.2.2.2.1 q65.2.2.2.2.2.2.2.1 q65.2.2.2.2.2.2.2.2.1 q65.2.2.2.2.2.2.2.2.2.1 q65.2.2.2.2.2.2.2.2.2.2) rfl (st := []) rfl (Nat.le_of_ble_eq_true rfl) rd_Setup_parse_65 ?_ ⟨Nat.le_refl _, Nat.le_refl _⟩
              refine jk_iinc C rd_Setup_parse_68 (k := 3) rfl (by decide) (lv' := [(3, jk_V (v3 + 1)), (0, .ref a_a), (1, .ref a_b), (2, .ref a_c)]) rfl ?_
              refine jk_goto (tgt := 14) C rd_Setup_parse_71 (by decide) ?_
              refine jk_lv (lv' := [(0, .ref a_a), (1, .ref a_b), (2, .ref a_c), (3, jk_V (v3 + 1))]) [1, 2, 3, 0] rfl ?_
              exact ih q65.1 q65.2.1 q65.2.2.1 q65.2.2.2.1 q65.2.2.2.2.1 b_size b_names c_clusters q65.2.2.2.2.2.1 q65.2.2.2.2.2.2.1 q65.2.2.2.2.2.2.2.1 q65.2.2.2.2.2.2.2.2.1 q65.2.2.2.2.2.2.2.2.2.1 q65.2.2.2.2.2.2.2.2.2.2 (v3 + 1) hf
            · refine jk_aload_n C rd_Setup_parse_54 (k := 0) rfl ?_
              refine jk_aload_n C rd_Setup_parse_55 (k := 2) rfl ?_
              obtain ⟨q56, hq56, hf⟩ := jk_bind_h hf
              refine jk_callSv C hZ.1 hz (ct_Setup_readCluster l D Z sq hZ cI cR a_a a_a_bytes a_a_bytes_k a_c a_c_starts a_c_depth a_c_topic a_c_value a_c_nibbled a_c_starts_k i_a_length q22.2.1 q22.2.2.1 q22.2.2.2 a_code a_offset i_a_bytes c_clusters c_size c_starts q56 hq56) tm_331 tm_332 tm_13 tm_333 na_Setup_readCluster ⟨Nat.le_of_ble_eq_true rfl, Nat.le_of_ble_eq_true rfl⟩ rfl [0, 1, 2, 6, 7, 8] rfl rfl rfl (ws' := wd_Setup_parse cI a_a a_a_bytes a_a_bytes_k a_b a_b_names a_b_names_k a_c a_c_starts a_c_depth a_c_topic a_c_value a_c_nibbled a_c_starts_k a_c_depth_k a_c_topic_k a_c_value_k a_c_nibbled_k i_a_length q56.1 q56.2.1 q56.2.2.1 q56.2.2.2.1 q56.2.2.2.2.1 i_a_bytes b_size b_names q56.2.2.2.2.2.1 c_size q56.2.2.2.2.2.2 c_depth c_topic c_value c_nibbled) rfl (st := []) rfl (Nat.le_of_ble_eq_true rfl) rd_Setup_parse_56 ?_ ⟨Nat.le_refl _, Nat.le_refl _⟩
              refine jk_goto (tgt := 68) C rd_Setup_parse_59 (by decide) ?_
              refine jk_iinc C rd_Setup_parse_68 (k := 3) rfl (by decide) (lv' := [(3, jk_V (v3 + 1)), (0, .ref a_a), (1, .ref a_b), (2, .ref a_c)]) rfl ?_
              refine jk_goto (tgt := 14) C rd_Setup_parse_71 (by decide) ?_
              refine jk_lv (lv' := [(0, .ref a_a), (1, .ref a_b), (2, .ref a_c), (3, jk_V (v3 + 1))]) [1, 2, 3, 0] rfl ?_
              exact ih q56.1 q56.2.1 q56.2.2.1 q56.2.2.2.1 q56.2.2.2.2.1 b_size b_names q56.2.2.2.2.2.1 c_size q56.2.2.2.2.2.2 c_depth c_topic c_value c_nibbled (v3 + 1) hf
          · refine jk_aload_n C rd_Setup_parse_37 (k := 0) rfl ?_
            refine jk_aload_n C rd_Setup_parse_38 (k := 1) rfl ?_
            obtain ⟨q39, hq39, hf⟩ := jk_bind_h hf
            refine jk_callSv C hZ.1 hz (ct_Setup_readTopic l D Z sq hZ cI cR a_a a_a_bytes a_a_bytes_k a_b a_b_names a_b_names_k i_a_length q22.2.1 q22.2.2.1 q22.2.2.2 a_code a_offset i_a_bytes b_size b_names q39 hq39) tm_300 tm_301 tm_13 tm_302 na_Setup_readTopic ⟨Nat.le_of_ble_eq_true rfl, Nat.le_of_ble_eq_true rfl⟩ rfl [0, 1, 2, 3, 4, 5] rfl rfl rfl (ws' := wd_Setup_parse cI a_a a_a_bytes a_a_bytes_k a_b a_b_names a_b_names_k a_c a_c_starts a_c_depth a_c_topic a_c_value a_c_nibbled a_c_starts_k a_c_depth_k a_c_topic_k a_c_value_k a_c_nibbled_k i_a_length q39.1 q39.2.1 q39.2.2.1 q39.2.2.2.1 q39.2.2.2.2.1 i_a_bytes q39.2.2.2.2.2.1 q39.2.2.2.2.2.2 c_clusters c_size c_starts c_depth c_topic c_value c_nibbled) rfl (st := []) rfl (Nat.le_of_ble_eq_true rfl) rd_Setup_parse_39 ?_ ⟨Nat.le_refl _, Nat.le_refl _⟩
            refine jk_goto (tgt := 68) C rd_Setup_parse_42 (by decide) ?_
            refine jk_iinc C rd_Setup_parse_68 (k := 3) rfl (by decide) (lv' := [(3, jk_V (v3 + 1)), (0, .ref a_a), (1, .ref a_b), (2, .ref a_c)]) rfl ?_
            refine jk_goto (tgt := 14) C rd_Setup_parse_71 (by decide) ?_
            refine jk_lv (lv' := [(0, .ref a_a), (1, .ref a_b), (2, .ref a_c), (3, jk_V (v3 + 1))]) [1, 2, 3, 0] rfl ?_
            exact ih q39.1 q39.2.1 q39.2.2.1 q39.2.2.2.1 q39.2.2.2.2.1 q39.2.2.2.2.2.1 q39.2.2.2.2.2.2 c_clusters c_size c_starts c_depth c_topic c_value c_nibbled (v3 + 1) hf
  refine jk_aload_n C rd_Setup_parse_0 (k := 0) rfl ?_
  obtain ⟨q1, hq1, hf⟩ := jk_bind_h hf
  refine jk_callVv C hZ.1 hz (ct_Text_begin l D Z sq hZ cI cR a_a a_a_bytes i_a_length i_a_kind i_a_start i_a_end i_a_code i_a_offset q1 hq1) tm_263 tm_264 tm_265 tm_2 tm_266 na_Text_begin ⟨Nat.le_of_ble_eq_true rfl, Nat.le_of_ble_eq_true rfl⟩ rfl [0] rfl rfl rfl (ws' := wd_Setup_parse cI a_a a_a_bytes a_a_bytes_k a_b a_b_names a_b_names_k a_c a_c_starts a_c_depth a_c_topic a_c_value a_c_nibbled a_c_starts_k a_c_depth_k a_c_topic_k a_c_value_k a_c_nibbled_k i_a_length i_a_kind i_a_start q1.1 q1.2.1 q1.2.2 i_a_bytes i_b_size i_b_names i_c_clusters i_c_size i_c_starts i_c_depth i_c_topic i_c_value i_c_nibbled) rfl 0 3 rfl rfl rfl (st := []) rfl (Nat.le_of_ble_eq_true rfl) rd_Setup_parse_1 ?_ ⟨Nat.le_refl _, Nat.le_refl _⟩
  refine jk_aload_n C rd_Setup_parse_4 (k := 1) rfl ?_
  obtain ⟨q5, hq5, hf⟩ := jk_bind_h hf
  refine jk_callVv C hZ.1 hz (ct_Topics_clear l D Z sq hZ cI cR a_b a_b_names i_b_size q5 hq5) tm_267 tm_268 tm_269 tm_5 tm_270 na_Topics_clear ⟨Nat.le_of_ble_eq_true rfl, Nat.le_of_ble_eq_true rfl⟩ rfl [3] rfl rfl rfl (ws' := wd_Setup_parse cI a_a a_a_bytes a_a_bytes_k a_b a_b_names a_b_names_k a_c a_c_starts a_c_depth a_c_topic a_c_value a_c_nibbled a_c_starts_k a_c_depth_k a_c_topic_k a_c_value_k a_c_nibbled_k i_a_length i_a_kind i_a_start q1.1 q1.2.1 q1.2.2 i_a_bytes q5 i_b_names i_c_clusters i_c_size i_c_starts i_c_depth i_c_topic i_c_value i_c_nibbled) rfl 3 2 rfl rfl rfl (st := []) rfl (Nat.le_of_ble_eq_true rfl) rd_Setup_parse_5 ?_ ⟨Nat.le_refl _, Nat.le_refl _⟩
  refine jk_aload_n C rd_Setup_parse_8 (k := 2) rfl ?_
  obtain ⟨q9, hq9, hf⟩ := jk_bind_h hf
  refine jk_callVv C hZ.1 hz (ct_Cords_clear l D Z sq hZ cI cR a_c a_c_starts a_c_depth a_c_topic a_c_value a_c_nibbled i_c_clusters i_c_size q9 hq9) tm_271 tm_272 tm_273 tm_6 tm_274 na_Cords_clear ⟨Nat.le_of_ble_eq_true rfl, Nat.le_of_ble_eq_true rfl⟩ rfl [6] rfl rfl rfl (ws' := wd_Setup_parse cI a_a a_a_bytes a_a_bytes_k a_b a_b_names a_b_names_k a_c a_c_starts a_c_depth a_c_topic a_c_value a_c_nibbled a_c_starts_k a_c_depth_k a_c_topic_k a_c_value_k a_c_nibbled_k i_a_length i_a_kind i_a_start q1.1 q1.2.1 q1.2.2 i_a_bytes q5 i_b_names q9.1 q9.2 i_c_starts i_c_depth i_c_topic i_c_value i_c_nibbled) rfl 6 5 rfl rfl rfl (st := []) rfl (Nat.le_of_ble_eq_true rfl) rd_Setup_parse_9 ?_ ⟨Nat.le_refl _, Nat.le_refl _⟩
  refine jk_iconst C rd_Setup_parse_12 ?_
  refine jk_istore_n C rd_Setup_parse_13 (by decide) (lv' := [(3, jk_V 0), (0, .ref a_a), (1, .ref a_b), (2, .ref a_c)]) rfl ?_
  refine jk_lv (lv' := [(0, .ref a_a), (1, .ref a_b), (2, .ref a_c), (3, jk_V 0)]) [1, 2, 3, 0] rfl ?_
  exact bk_14 jk_F i_a_kind i_a_start q1.1 q1.2.1 q1.2.2 q5 i_b_names q9.1 q9.2 i_c_starts i_c_depth i_c_topic i_c_value i_c_nibbled 0 hf
