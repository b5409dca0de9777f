theorem rd_Md_adds_0 : decode mb_Md_adds 0 = .ok (.aload_n 0, 1) := by decide +kernel
theorem rd_Md_adds_1 : decode mb_Md_adds 1 = .ok (.aload_n 0, 1) := by decide +kernel
theorem rd_Md_adds_2 : decode mb_Md_adds 2 = .ok (.iload_n 1, 1) := by decide +kernel
theorem rd_Md_adds_3 : decode mb_Md_adds 3 = .ok (.invokevirtual 94, 3) := by decide +kernel
theorem rd_Md_adds_6 : decode mb_Md_adds 6 = .ok (.iload_n 1, 1) := by decide +kernel
theorem rd_Md_adds_7 : decode mb_Md_adds 7 = .ok (.iconst 1, 1) := by decide +kernel
theorem rd_Md_adds_8 : decode mb_Md_adds 8 = .ok (.iload_n 2, 1) := by decide +kernel
theorem rd_Md_adds_9 : decode mb_Md_adds 9 = .ok (.iload_n 3, 1) := by decide +kernel
theorem rd_Md_adds_10 : decode mb_Md_adds 10 = .ok (.invokevirtual 48, 3) := by decide +kernel
theorem rd_Md_adds_13 : decode mb_Md_adds 13 = .ok (.ireturn, 1) := by decide +kernel
theorem rd_Md_addsCluster_0 : decode mb_Md_addsCluster 0 = .ok (.aload_n 0, 1) := by decide +kernel
theorem rd_Md_addsCluster_1 : decode mb_Md_addsCluster 1 = .ok (.getfield 7, 3) := by decide +kernel
theorem rd_Md_addsCluster_4 : decode mb_Md_addsCluster 4 = .ok (.iconst 1, 1) := by decide +kernel
theorem rd_Md_addsCluster_5 : decode mb_Md_addsCluster 5 = .ok (.dup2, 1) := by decide +kernel
theorem rd_Md_addsCluster_6 : decode mb_Md_addsCluster 6 = .ok (.iaload, 1) := by decide +kernel
theorem rd_Md_addsCluster_7 : decode mb_Md_addsCluster 7 = .ok (.iconst 1, 1) := by decide +kernel
theorem rd_Md_addsCluster_8 : decode mb_Md_addsCluster 8 = .ok (.iadd, 1) := by decide +kernel
theorem rd_Md_addsCluster_9 : decode mb_Md_addsCluster 9 = .ok (.iastore, 1) := by decide +kernel
theorem rd_Md_addsCluster_10 : decode mb_Md_addsCluster 10 = .ok (.aload_n 0, 1) := by decide +kernel
theorem rd_Md_addsCluster_11 : decode mb_Md_addsCluster 11 = .ok (.getfield 7, 3) := by decide +kernel
theorem rd_Md_addsCluster_14 : decode mb_Md_addsCluster 14 = .ok (.iconst 1, 1) := by decide +kernel
theorem rd_Md_addsCluster_15 : decode mb_Md_addsCluster 15 = .ok (.iaload, 1) := by decide +kernel
theorem rd_Md_addsCluster_16 : decode mb_Md_addsCluster 16 = .ok (.iconst 1, 1) := by decide +kernel
theorem rd_Md_addsCluster_17 : decode mb_Md_addsCluster 17 = .ok (.isub, 1) := by decide +kernel
theorem rd_Md_addsCluster_18 : decode mb_Md_addsCluster 18 = .ok (.ireturn, 1) := by decide +kernel
theorem rd_Md_cuts_0 : decode mb_Md_cuts 0 = .ok (.aload_n 0, 1) := by decide +kernel
theorem rd_Md_cuts_1 : decode mb_Md_cuts 1 = .ok (.iload_n 1, 1) := by decide +kernel
theorem rd_Md_cuts_2 : decode mb_Md_cuts 2 = .ok (.aload_n 0, 1) := by decide +kernel
theorem rd_Md_cuts_3 : decode mb_Md_cuts 3 = .ok (.iload_n 1, 1) := by decide +kernel
theorem rd_Md_cuts_4 : decode mb_Md_cuts 4 = .ok (.invokevirtual 76, 3) := by decide +kernel
theorem rd_Md_cuts_7 : decode mb_Md_cuts 7 = .ok (.iload_n 1, 1) := by decide +kernel
theorem rd_Md_cuts_8 : decode mb_Md_cuts 8 = .ok (.isub, 1) := by decide +kernel
theorem rd_Md_cuts_9 : decode mb_Md_cuts 9 = .ok (.invokevirtual 126, 3) := by decide +kernel
theorem rd_Md_cuts_12 : decode mb_Md_cuts 12 = .ok (.ireturn, 1) := by decide +kernel
theorem rd_Md_mayTie_0 : decode mb_Md_mayTie 0 = .ok (.aload_n 0, 1) := by decide +kernel
theorem rd_Md_mayTie_1 : decode mb_Md_mayTie 1 = .ok (.iload_n 1, 1) := by decide +kernel
theorem rd_Md_mayTie_2 : decode mb_Md_mayTie 2 = .ok (.invokevirtual 97, 3) := by decide +kernel
theorem rd_Md_mayTie_5 : decode mb_Md_mayTie 5 = .ok (.ifCond .ne 28, 3) := by decide +kernel
theorem rd_Md_mayTie_8 : decode mb_Md_mayTie 8 = .ok (.aload_n 0, 1) := by decide +kernel
theorem rd_Md_mayTie_9 : decode mb_Md_mayTie 9 = .ok (.iload_n 1, 1) := by decide +kernel
theorem rd_Md_mayTie_10 : decode mb_Md_mayTie 10 = .ok (.invokevirtual 129, 3) := by decide +kernel
theorem rd_Md_mayTie_13 : decode mb_Md_mayTie 13 = .ok (.ifCond .eq 20, 3) := by decide +kernel
theorem rd_Md_mayTie_16 : decode mb_Md_mayTie 16 = .ok (.aload_n 0, 1) := by decide +kernel
theorem rd_Md_mayTie_17 : decode mb_Md_mayTie 17 = .ok (.aload_n 0, 1) := by decide +kernel
theorem rd_Md_mayTie_18 : decode mb_Md_mayTie 18 = .ok (.iload_n 1, 1) := by decide +kernel
theorem rd_Md_mayTie_19 : decode mb_Md_mayTie 19 = .ok (.invokevirtual 91, 3) := by decide +kernel
theorem rd_Md_mayTie_22 : decode mb_Md_mayTie 22 = .ok (.aload_n 0, 1) := by decide +kernel
theorem rd_Md_mayTie_23 : decode mb_Md_mayTie 23 = .ok (.iload_n 1, 1) := by decide +kernel
theorem rd_Md_mayTie_24 : decode mb_Md_mayTie 24 = .ok (.invokevirtual 94, 3) := by decide +kernel
theorem rd_Md_mayTie_27 : decode mb_Md_mayTie 27 = .ok (.invokevirtual 87, 3) := by decide +kernel
theorem rd_Md_mayTie_30 : decode mb_Md_mayTie 30 = .ok (.ifCond .ne 5, 3) := by decide +kernel
theorem rd_Md_mayTie_33 : decode mb_Md_mayTie 33 = .ok (.iconst 0, 1) := by decide +kernel
theorem rd_Md_mayTie_34 : decode mb_Md_mayTie 34 = .ok (.ireturn, 1) := by decide +kernel
theorem rd_Md_mayTie_35 : decode mb_Md_mayTie 35 = .ok (.aload_n 0, 1) := by decide +kernel
theorem rd_Md_mayTie_36 : decode mb_Md_mayTie 36 = .ok (.iload_n 1, 1) := by decide +kernel
theorem rd_Md_mayTie_37 : decode mb_Md_mayTie 37 = .ok (.invokevirtual 106, 3) := by decide +kernel
theorem rd_Md_mayTie_40 : decode mb_Md_mayTie 40 = .ok (.sipush 9999, 3) := by decide +kernel
theorem rd_Md_mayTie_43 : decode mb_Md_mayTie 43 = .ok (.if_icmp .gt 14, 3) := by decide +kernel
theorem rd_Md_mayTie_46 : decode mb_Md_mayTie 46 = .ok (.aload_n 0, 1) := by decide +kernel
theorem rd_Md_mayTie_47 : decode mb_Md_mayTie 47 = .ok (.invokevirtual 122, 3) := by decide +kernel
theorem rd_Md_mayTie_50 : decode mb_Md_mayTie 50 = .ok (.ifCond .eq 7, 3) := by decide +kernel
theorem rd_Md_mayTie_53 : decode mb_Md_mayTie 53 = .ok (.iconst 1, 1) := by decide +kernel
theorem rd_Md_mayTie_54 : decode mb_Md_mayTie 54 = .ok (.goto 4, 3) := by decide +kernel
theorem rd_Md_mayTie_57 : decode mb_Md_mayTie 57 = .ok (.iconst 0, 1) := by decide +kernel
theorem rd_Md_mayTie_58 : decode mb_Md_mayTie 58 = .ok (.ireturn, 1) := by decide +kernel
theorem rd_Md_ties_0 : decode mb_Md_ties 0 = .ok (.aload_n 0, 1) := by decide +kernel
theorem rd_Md_ties_1 : decode mb_Md_ties 1 = .ok (.iload_n 1, 1) := by decide +kernel
theorem rd_Md_ties_2 : decode mb_Md_ties 2 = .ok (.invokevirtual 106, 3) := by decide +kernel
theorem rd_Md_ties_5 : decode mb_Md_ties 5 = .ok (.istore_n 3, 1) := by decide +kernel
theorem rd_Md_ties_6 : decode mb_Md_ties 6 = .ok (.aload_n 0, 1) := by decide +kernel
theorem rd_Md_ties_7 : decode mb_Md_ties 7 = .ok (.aload_n 0, 1) := by decide +kernel
theorem rd_Md_ties_8 : decode mb_Md_ties 8 = .ok (.iload_n 1, 1) := by decide +kernel
theorem rd_Md_ties_9 : decode mb_Md_ties 9 = .ok (.invokevirtual 91, 3) := by decide +kernel
theorem rd_Md_ties_12 : decode mb_Md_ties 12 = .ok (.iload_n 1, 1) := by decide +kernel
theorem rd_Md_ties_13 : decode mb_Md_ties 13 = .ok (.iconst 0, 1) := by decide +kernel
theorem rd_Md_ties_14 : decode mb_Md_ties 14 = .ok (.iload_n 2, 1) := by decide +kernel
theorem rd_Md_ties_15 : decode mb_Md_ties 15 = .ok (.iload_n 3, 1) := by decide +kernel
theorem rd_Md_ties_16 : decode mb_Md_ties 16 = .ok (.invokevirtual 48, 3) := by decide +kernel
theorem rd_Md_ties_19 : decode mb_Md_ties 19 = .ok (.istore 4, 2) := by decide +kernel
theorem rd_Md_ties_21 : decode mb_Md_ties 21 = .ok (.iload_n 3, 1) := by decide +kernel
theorem rd_Md_ties_22 : decode mb_Md_ties 22 = .ok (.ireturn, 1) := by decide +kernel
theorem rd_Md_sets_0 : decode mb_Md_sets 0 = .ok (.aload_n 0, 1) := by decide +kernel
theorem rd_Md_sets_1 : decode mb_Md_sets 1 = .ok (.iload_n 1, 1) := by decide +kernel
theorem rd_Md_sets_2 : decode mb_Md_sets 2 = .ok (.iload_n 2, 1) := by decide +kernel
theorem rd_Md_sets_3 : decode mb_Md_sets 3 = .ok (.invokevirtual 70, 3) := by decide +kernel
theorem rd_Md_sets_6 : decode mb_Md_sets 6 = .ok (.istore 4, 2) := by decide +kernel
theorem rd_Md_sets_8 : decode mb_Md_sets 8 = .ok (.aload_n 0, 1) := by decide +kernel
theorem rd_Md_sets_9 : decode mb_Md_sets 9 = .ok (.iload_n 1, 1) := by decide +kernel
theorem rd_Md_sets_10 : decode mb_Md_sets 10 = .ok (.iconst 3, 1) := by decide +kernel
theorem rd_Md_sets_11 : decode mb_Md_sets 11 = .ok (.aload_n 0, 1) := by decide +kernel
theorem rd_Md_sets_12 : decode mb_Md_sets 12 = .ok (.iload_n 1, 1) := by decide +kernel
theorem rd_Md_sets_13 : decode mb_Md_sets 13 = .ok (.iconst 3, 1) := by decide +kernel
theorem rd_Md_sets_14 : decode mb_Md_sets 14 = .ok (.invokevirtual 63, 3) := by decide +kernel
theorem rd_Md_sets_17 : decode mb_Md_sets 17 = .ok (.iload_n 3, 1) := by decide +kernel
theorem rd_Md_sets_18 : decode mb_Md_sets 18 = .ok (.iload 4, 2) := by decide +kernel
theorem rd_Md_sets_20 : decode mb_Md_sets 20 = .ok (.isub, 1) := by decide +kernel
theorem rd_Md_sets_21 : decode mb_Md_sets 21 = .ok (.iload_n 2, 1) := by decide +kernel
theorem rd_Md_sets_22 : decode mb_Md_sets 22 = .ok (.invokestatic 66, 3) := by decide +kernel
theorem rd_Md_sets_25 : decode mb_Md_sets 25 = .ok (.imul, 1) := by decide +kernel
theorem rd_Md_sets_26 : decode mb_Md_sets 26 = .ok (.iadd, 1) := by decide +kernel
theorem rd_Md_sets_27 : decode mb_Md_sets 27 = .ok (.invokevirtual 59, 3) := by decide +kernel
theorem rd_Md_sets_30 : decode mb_Md_sets 30 = .ok (.iload 4, 2) := by decide +kernel
theorem rd_Md_sets_32 : decode mb_Md_sets 32 = .ok (.ireturn, 1) := by decide +kernel
theorem rd_Md_dyes_0 : decode mb_Md_dyes 0 = .ok (.aload_n 0, 1) := by decide +kernel
theorem rd_Md_dyes_1 : decode mb_Md_dyes 1 = .ok (.iload_n 1, 1) := by decide +kernel
theorem rd_Md_dyes_2 : decode mb_Md_dyes 2 = .ok (.iconst 2, 1) := by decide +kernel
theorem rd_Md_dyes_3 : decode mb_Md_dyes 3 = .ok (.invokevirtual 63, 3) := by decide +kernel
theorem rd_Md_dyes_6 : decode mb_Md_dyes 6 = .ok (.istore_n 3, 1) := by decide +kernel
theorem rd_Md_dyes_7 : decode mb_Md_dyes 7 = .ok (.aload_n 0, 1) := by decide +kernel
theorem rd_Md_dyes_8 : decode mb_Md_dyes 8 = .ok (.iload_n 1, 1) := by decide +kernel
theorem rd_Md_dyes_9 : decode mb_Md_dyes 9 = .ok (.iconst 2, 1) := by decide +kernel
theorem rd_Md_dyes_10 : decode mb_Md_dyes 10 = .ok (.iload_n 2, 1) := by decide +kernel
theorem rd_Md_dyes_11 : decode mb_Md_dyes 11 = .ok (.invokevirtual 59, 3) := by decide +kernel
theorem rd_Md_dyes_14 : decode mb_Md_dyes 14 = .ok (.iload_n 3, 1) := by decide +kernel
theorem rd_Md_dyes_15 : decode mb_Md_dyes 15 = .ok (.ireturn, 1) := by decide +kernel
theorem rd_Md_remembers_0 : decode mb_Md_remembers 0 = .ok (.aload_n 0, 1) := by decide +kernel
theorem rd_Md_remembers_1 : decode mb_Md_remembers 1 = .ok (.getfield 132, 3) := by decide +kernel
theorem rd_Md_remembers_4 : decode mb_Md_remembers 4 = .ok (.bipush 8, 2) := by decide +kernel
theorem rd_Md_remembers_6 : decode mb_Md_remembers 6 = .ok (.if_icmp .ne 44, 3) := by decide +kernel
theorem rd_Md_remembers_9 : decode mb_Md_remembers 9 = .ok (.iconst 0, 1) := by decide +kernel
theorem rd_Md_remembers_10 : decode mb_Md_remembers 10 = .ok (.istore_n 1, 1) := by decide +kernel
theorem rd_Md_remembers_11 : decode mb_Md_remembers 11 = .ok (.iload_n 1, 1) := by decide +kernel
theorem rd_Md_remembers_12 : decode mb_Md_remembers 12 = .ok (.sipush 1813, 3) := by decide +kernel
theorem rd_Md_remembers_15 : decode mb_Md_remembers 15 = .ok (.if_icmp .ge 25, 3) := by decide +kernel
theorem rd_Md_remembers_18 : decode mb_Md_remembers 18 = .ok (.aload_n 0, 1) := by decide +kernel
theorem rd_Md_remembers_19 : decode mb_Md_remembers 19 = .ok (.getfield 19, 3) := by decide +kernel
theorem rd_Md_remembers_22 : decode mb_Md_remembers 22 = .ok (.iload_n 1, 1) := by decide +kernel
theorem rd_Md_remembers_23 : decode mb_Md_remembers 23 = .ok (.aload_n 0, 1) := by decide +kernel
theorem rd_Md_remembers_24 : decode mb_Md_remembers 24 = .ok (.getfield 19, 3) := by decide +kernel
theorem rd_Md_remembers_27 : decode mb_Md_remembers 27 = .ok (.iload_n 1, 1) := by decide +kernel
theorem rd_Md_remembers_28 : decode mb_Md_remembers 28 = .ok (.sipush 259, 3) := by decide +kernel
theorem rd_Md_remembers_31 : decode mb_Md_remembers 31 = .ok (.iadd, 1) := by decide +kernel
theorem rd_Md_remembers_32 : decode mb_Md_remembers 32 = .ok (.iaload, 1) := by decide +kernel
theorem rd_Md_remembers_33 : decode mb_Md_remembers 33 = .ok (.iastore, 1) := by decide +kernel
theorem rd_Md_remembers_34 : decode mb_Md_remembers 34 = .ok (.iinc 1 1, 3) := by decide +kernel
theorem rd_Md_remembers_37 : decode mb_Md_remembers 37 = .ok (.goto (-26), 3) := by decide +kernel
theorem rd_Md_remembers_40 : decode mb_Md_remembers 40 = .ok (.aload_n 0, 1) := by decide +kernel
theorem rd_Md_remembers_41 : decode mb_Md_remembers 41 = .ok (.dup, 1) := by decide +kernel
theorem rd_Md_remembers_42 : decode mb_Md_remembers 42 = .ok (.getfield 132, 3) := by decide +kernel
theorem rd_Md_remembers_45 : decode mb_Md_remembers 45 = .ok (.iconst 1, 1) := by decide +kernel
theorem rd_Md_remembers_46 : decode mb_Md_remembers 46 = .ok (.isub, 1) := by decide +kernel
theorem rd_Md_remembers_47 : decode mb_Md_remembers 47 = .ok (.putfield 132, 3) := by decide +kernel
theorem rd_Md_remembers_50 : decode mb_Md_remembers 50 = .ok (.aload_n 0, 1) := by decide +kernel
theorem rd_Md_remembers_51 : decode mb_Md_remembers 51 = .ok (.getfield 7, 3) := by decide +kernel
theorem rd_Md_remembers_54 : decode mb_Md_remembers 54 = .ok (.iconst 0, 1) := by decide +kernel
theorem rd_Md_remembers_55 : decode mb_Md_remembers 55 = .ok (.aload_n 0, 1) := by decide +kernel
theorem rd_Md_remembers_56 : decode mb_Md_remembers 56 = .ok (.getfield 19, 3) := by decide +kernel
theorem rd_Md_remembers_59 : decode mb_Md_remembers 59 = .ok (.sipush 259, 3) := by decide +kernel
theorem rd_Md_remembers_62 : decode mb_Md_remembers 62 = .ok (.aload_n 0, 1) := by decide +kernel
theorem rd_Md_remembers_63 : decode mb_Md_remembers 63 = .ok (.getfield 132, 3) := by decide +kernel
theorem rd_Md_remembers_66 : decode mb_Md_remembers 66 = .ok (.imul, 1) := by decide +kernel
theorem rd_Md_remembers_67 : decode mb_Md_remembers 67 = .ok (.invokestatic 135, 3) := by decide +kernel
theorem rd_Md_remembers_70 : decode mb_Md_remembers 70 = .ok (.aload_n 0, 1) := by decide +kernel
theorem rd_Md_remembers_71 : decode mb_Md_remembers 71 = .ok (.dup, 1) := by decide +kernel
theorem rd_Md_remembers_72 : decode mb_Md_remembers 72 = .ok (.getfield 132, 3) := by decide +kernel
theorem rd_Md_remembers_75 : decode mb_Md_remembers 75 = .ok (.iconst 1, 1) := by decide +kernel
theorem rd_Md_remembers_76 : decode mb_Md_remembers 76 = .ok (.iadd, 1) := by decide +kernel
theorem rd_Md_remembers_77 : decode mb_Md_remembers 77 = .ok (.putfield 132, 3) := by decide +kernel
theorem rd_Md_remembers_80 : decode mb_Md_remembers 80 = .ok (.return_, 1) := by decide +kernel
theorem rd_Md_appendWord_0 : decode mb_Md_appendWord 0 = .ok (.bipush 24, 2) := by decide +kernel
theorem rd_Md_appendWord_2 : decode mb_Md_appendWord 2 = .ok (.istore_n 2, 1) := by decide +kernel
theorem rd_Md_appendWord_3 : decode mb_Md_appendWord 3 = .ok (.iload_n 2, 1) := by decide +kernel
theorem rd_Md_appendWord_4 : decode mb_Md_appendWord 4 = .ok (.ifCond .lt 35, 3) := by decide +kernel
theorem rd_Md_appendWord_7 : decode mb_Md_appendWord 7 = .ok (.aload_n 0, 1) := by decide +kernel
theorem rd_Md_appendWord_8 : decode mb_Md_appendWord 8 = .ok (.getfield 22, 3) := by decide +kernel
theorem rd_Md_appendWord_11 : decode mb_Md_appendWord 11 = .ok (.aload_n 0, 1) := by decide +kernel
theorem rd_Md_appendWord_12 : decode mb_Md_appendWord 12 = .ok (.getfield 139, 3) := by decide +kernel
theorem rd_Md_appendWord_15 : decode mb_Md_appendWord 15 = .ok (.iload_n 1, 1) := by decide +kernel
theorem rd_Md_appendWord_16 : decode mb_Md_appendWord 16 = .ok (.iload_n 2, 1) := by decide +kernel
theorem rd_Md_appendWord_17 : decode mb_Md_appendWord 17 = .ok (.ishr, 1) := by decide +kernel
theorem rd_Md_appendWord_18 : decode mb_Md_appendWord 18 = .ok (.sipush 255, 3) := by decide +kernel
theorem rd_Md_appendWord_21 : decode mb_Md_appendWord 21 = .ok (.iand, 1) := by decide +kernel
theorem rd_Md_appendWord_22 : decode mb_Md_appendWord 22 = .ok (.iastore, 1) := by decide +kernel
theorem rd_Md_appendWord_23 : decode mb_Md_appendWord 23 = .ok (.aload_n 0, 1) := by decide +kernel
theorem rd_Md_appendWord_24 : decode mb_Md_appendWord 24 = .ok (.dup, 1) := by decide +kernel
theorem rd_Md_appendWord_25 : decode mb_Md_appendWord 25 = .ok (.getfield 139, 3) := by decide +kernel
theorem rd_Md_appendWord_28 : decode mb_Md_appendWord 28 = .ok (.iconst 1, 1) := by decide +kernel
theorem rd_Md_appendWord_29 : decode mb_Md_appendWord 29 = .ok (.iadd, 1) := by decide +kernel
theorem rd_Md_appendWord_30 : decode mb_Md_appendWord 30 = .ok (.putfield 139, 3) := by decide +kernel
theorem rd_Md_appendWord_33 : decode mb_Md_appendWord 33 = .ok (.iinc 2 (-8), 3) := by decide +kernel
theorem rd_Md_appendWord_36 : decode mb_Md_appendWord 36 = .ok (.goto (-33), 3) := by decide +kernel
theorem rd_Md_appendWord_39 : decode mb_Md_appendWord 39 = .ok (.return_, 1) := by decide +kernel
theorem rd_Md_appendInput_0 : decode mb_Md_appendInput 0 = .ok (.aload_n 0, 1) := by decide +kernel
theorem rd_Md_appendInput_1 : decode mb_Md_appendInput 1 = .ok (.iconst 0, 1) := by decide +kernel
theorem rd_Md_appendInput_2 : decode mb_Md_appendInput 2 = .ok (.putfield 56, 3) := by decide +kernel
theorem rd_Md_appendInput_5 : decode mb_Md_appendInput 5 = .ok (.aload_n 0, 1) := by decide +kernel
theorem rd_Md_appendInput_6 : decode mb_Md_appendInput 6 = .ok (.getfield 139, 3) := by decide +kernel
theorem rd_Md_appendInput_9 : decode mb_Md_appendInput 9 = .ok (.bipush 20, 2) := by decide +kernel
theorem rd_Md_appendInput_11 : decode mb_Md_appendInput 11 = .ok (.iadd, 1) := by decide +kernel
theorem rd_Md_appendInput_12 : decode mb_Md_appendInput 12 = .ok (.sipush 700, 3) := by decide +kernel
theorem rd_Md_appendInput_15 : decode mb_Md_appendInput 15 = .ok (.if_icmp .le 5, 3) := by decide +kernel
theorem rd_Md_appendInput_18 : decode mb_Md_appendInput 18 = .ok (.iconst (-1), 1) := by decide +kernel
theorem rd_Md_appendInput_19 : decode mb_Md_appendInput 19 = .ok (.ireturn, 1) := by decide +kernel
theorem rd_Md_appendInput_20 : decode mb_Md_appendInput 20 = .ok (.aload_n 0, 1) := by decide +kernel
theorem rd_Md_appendInput_21 : decode mb_Md_appendInput 21 = .ok (.iload_n 1, 1) := by decide +kernel
theorem rd_Md_appendInput_22 : decode mb_Md_appendInput 22 = .ok (.invokevirtual 142, 3) := by decide +kernel
theorem rd_Md_appendInput_25 : decode mb_Md_appendInput 25 = .ok (.aload_n 0, 1) := by decide +kernel
theorem rd_Md_appendInput_26 : decode mb_Md_appendInput 26 = .ok (.iload_n 2, 1) := by decide +kernel
theorem rd_Md_appendInput_27 : decode mb_Md_appendInput 27 = .ok (.invokevirtual 142, 3) := by decide +kernel
theorem rd_Md_appendInput_30 : decode mb_Md_appendInput 30 = .ok (.aload_n 0, 1) := by decide +kernel
theorem rd_Md_appendInput_31 : decode mb_Md_appendInput 31 = .ok (.iload_n 3, 1) := by decide +kernel
theorem rd_Md_appendInput_32 : decode mb_Md_appendInput 32 = .ok (.invokevirtual 142, 3) := by decide +kernel
theorem rd_Md_appendInput_35 : decode mb_Md_appendInput 35 = .ok (.aload_n 0, 1) := by decide +kernel
theorem rd_Md_appendInput_36 : decode mb_Md_appendInput 36 = .ok (.iload 4, 2) := by decide +kernel
theorem rd_Md_appendInput_38 : decode mb_Md_appendInput 38 = .ok (.invokevirtual 142, 3) := by decide +kernel
theorem rd_Md_appendInput_41 : decode mb_Md_appendInput 41 = .ok (.aload_n 0, 1) := by decide +kernel
theorem rd_Md_appendInput_42 : decode mb_Md_appendInput 42 = .ok (.iload 5, 2) := by decide +kernel
theorem rd_Md_appendInput_44 : decode mb_Md_appendInput 44 = .ok (.invokevirtual 142, 3) := by decide +kernel
theorem rd_Md_appendInput_47 : decode mb_Md_appendInput 47 = .ok (.aload_n 0, 1) := by decide +kernel
theorem rd_Md_appendInput_48 : decode mb_Md_appendInput 48 = .ok (.getfield 139, 3) := by decide +kernel
theorem rd_Md_appendInput_51 : decode mb_Md_appendInput 51 = .ok (.ireturn, 1) := by decide +kernel
theorem rd_Md_truncateInput_0 : decode mb_Md_truncateInput 0 = .ok (.aload_n 0, 1) := by decide +kernel
theorem rd_Md_truncateInput_1 : decode mb_Md_truncateInput 1 = .ok (.iconst 0, 1) := by decide +kernel
theorem rd_Md_truncateInput_2 : decode mb_Md_truncateInput 2 = .ok (.putfield 56, 3) := by decide +kernel
theorem rd_Md_truncateInput_5 : decode mb_Md_truncateInput 5 = .ok (.iload_n 1, 1) := by decide +kernel
theorem rd_Md_truncateInput_6 : decode mb_Md_truncateInput 6 = .ok (.iconst 0, 1) := by decide +kernel
theorem rd_Md_truncateInput_7 : decode mb_Md_truncateInput 7 = .ok (.aload_n 0, 1) := by decide +kernel
theorem rd_Md_truncateInput_8 : decode mb_Md_truncateInput 8 = .ok (.getfield 139, 3) := by decide +kernel
theorem rd_Md_truncateInput_11 : decode mb_Md_truncateInput 11 = .ok (.invokestatic 115, 3) := by decide +kernel
theorem rd_Md_truncateInput_14 : decode mb_Md_truncateInput 14 = .ok (.ifCond .ne 5, 3) := by decide +kernel
theorem rd_Md_truncateInput_17 : decode mb_Md_truncateInput 17 = .ok (.iconst 0, 1) := by decide +kernel
theorem rd_Md_truncateInput_18 : decode mb_Md_truncateInput 18 = .ok (.ireturn, 1) := by decide +kernel
theorem rd_Md_truncateInput_19 : decode mb_Md_truncateInput 19 = .ok (.aload_n 0, 1) := by decide +kernel
theorem rd_Md_truncateInput_20 : decode mb_Md_truncateInput 20 = .ok (.iload_n 1, 1) := by decide +kernel
theorem rd_Md_truncateInput_21 : decode mb_Md_truncateInput 21 = .ok (.putfield 139, 3) := by decide +kernel
theorem rd_Md_truncateInput_24 : decode mb_Md_truncateInput 24 = .ok (.iconst 1, 1) := by decide +kernel
theorem rd_Md_truncateInput_25 : decode mb_Md_truncateInput 25 = .ok (.ireturn, 1) := by decide +kernel
theorem rd_Md_byteAt_0 : decode mb_Md_byteAt 0 = .ok (.iload_n 1, 1) := by decide +kernel
theorem rd_Md_byteAt_1 : decode mb_Md_byteAt 1 = .ok (.aload_n 0, 1) := by decide +kernel
theorem rd_Md_byteAt_2 : decode mb_Md_byteAt 2 = .ok (.getfield 139, 3) := by decide +kernel
theorem rd_Md_byteAt_5 : decode mb_Md_byteAt 5 = .ok (.if_icmp .ge 12, 3) := by decide +kernel
theorem rd_Md_byteAt_8 : decode mb_Md_byteAt 8 = .ok (.aload_n 0, 1) := by decide +kernel
theorem rd_Md_byteAt_9 : decode mb_Md_byteAt 9 = .ok (.getfield 22, 3) := by decide +kernel
theorem rd_Md_byteAt_12 : decode mb_Md_byteAt 12 = .ok (.iload_n 1, 1) := by decide +kernel
theorem rd_Md_byteAt_13 : decode mb_Md_byteAt 13 = .ok (.iaload, 1) := by decide +kernel
theorem rd_Md_byteAt_14 : decode mb_Md_byteAt 14 = .ok (.goto 4, 3) := by decide +kernel
theorem rd_Md_byteAt_17 : decode mb_Md_byteAt 17 = .ok (.iconst (-1), 1) := by decide +kernel
theorem rd_Md_byteAt_18 : decode mb_Md_byteAt 18 = .ok (.ireturn, 1) := by decide +kernel
theorem rd_Md_isLetter_0 : decode mb_Md_isLetter 0 = .ok (.aload_n 0, 1) := by decide +kernel
theorem rd_Md_isLetter_1 : decode mb_Md_isLetter 1 = .ok (.iload_n 1, 1) := by decide +kernel
theorem rd_Md_isLetter_2 : decode mb_Md_isLetter 2 = .ok (.invokevirtual 146, 3) := by decide +kernel
theorem rd_Md_isLetter_5 : decode mb_Md_isLetter 5 = .ok (.bipush 97, 2) := by decide +kernel
theorem rd_Md_isLetter_7 : decode mb_Md_isLetter 7 = .ok (.bipush 122, 2) := by decide +kernel
theorem rd_Md_isLetter_9 : decode mb_Md_isLetter 9 = .ok (.invokestatic 115, 3) := by decide +kernel
theorem rd_Md_isLetter_12 : decode mb_Md_isLetter 12 = .ok (.ireturn, 1) := by decide +kernel
theorem rd_Md_advanceToken_0 : decode mb_Md_advanceToken 0 = .ok (.aload_n 0, 1) := by decide +kernel
theorem rd_Md_advanceToken_1 : decode mb_Md_advanceToken 1 = .ok (.aload_n 0, 1) := by decide +kernel
theorem rd_Md_advanceToken_2 : decode mb_Md_advanceToken 2 = .ok (.getfield 149, 3) := by decide +kernel
theorem rd_Md_advanceToken_5 : decode mb_Md_advanceToken 5 = .ok (.invokevirtual 146, 3) := by decide +kernel
theorem rd_Md_advanceToken_8 : decode mb_Md_advanceToken 8 = .ok (.bipush 32, 2) := by decide +kernel
theorem rd_Md_advanceToken_10 : decode mb_Md_advanceToken 10 = .ok (.if_icmp .eq 16, 3) := by decide +kernel
theorem rd_Md_advanceToken_13 : decode mb_Md_advanceToken 13 = .ok (.aload_n 0, 1) := by decide +kernel
theorem rd_Md_advanceToken_14 : decode mb_Md_advanceToken 14 = .ok (.aload_n 0, 1) := by decide +kernel
theorem rd_Md_advanceToken_15 : decode mb_Md_advanceToken 15 = .ok (.getfield 149, 3) := by decide +kernel
theorem rd_Md_advanceToken_18 : decode mb_Md_advanceToken 18 = .ok (.invokevirtual 146, 3) := by decide +kernel
theorem rd_Md_advanceToken_21 : decode mb_Md_advanceToken 21 = .ok (.bipush 10, 2) := by decide +kernel
theorem rd_Md_advanceToken_23 : decode mb_Md_advanceToken 23 = .ok (.if_icmp .ne 16, 3) := by decide +kernel
theorem rd_Md_advanceToken_26 : decode mb_Md_advanceToken 26 = .ok (.aload_n 0, 1) := by decide +kernel
theorem rd_Md_advanceToken_27 : decode mb_Md_advanceToken 27 = .ok (.dup, 1) := by decide +kernel
theorem rd_Md_advanceToken_28 : decode mb_Md_advanceToken 28 = .ok (.getfield 149, 3) := by decide +kernel
theorem rd_Md_advanceToken_31 : decode mb_Md_advanceToken 31 = .ok (.iconst 1, 1) := by decide +kernel
theorem rd_Md_advanceToken_32 : decode mb_Md_advanceToken 32 = .ok (.iadd, 1) := by decide +kernel
theorem rd_Md_advanceToken_33 : decode mb_Md_advanceToken 33 = .ok (.putfield 149, 3) := by decide +kernel
theorem rd_Md_advanceToken_36 : decode mb_Md_advanceToken 36 = .ok (.goto (-36), 3) := by decide +kernel
theorem rd_Md_advanceToken_39 : decode mb_Md_advanceToken 39 = .ok (.aload_n 0, 1) := by decide +kernel
theorem rd_Md_advanceToken_40 : decode mb_Md_advanceToken 40 = .ok (.aload_n 0, 1) := by decide +kernel
theorem rd_Md_advanceToken_41 : decode mb_Md_advanceToken 41 = .ok (.getfield 149, 3) := by decide +kernel
theorem rd_Md_advanceToken_44 : decode mb_Md_advanceToken 44 = .ok (.putfield 152, 3) := by decide +kernel
theorem rd_Md_advanceToken_47 : decode mb_Md_advanceToken 47 = .ok (.aload_n 0, 1) := by decide +kernel
theorem rd_Md_advanceToken_48 : decode mb_Md_advanceToken 48 = .ok (.aload_n 0, 1) := by decide +kernel
theorem rd_Md_advanceToken_49 : decode mb_Md_advanceToken 49 = .ok (.getfield 149, 3) := by decide +kernel
theorem rd_Md_advanceToken_52 : decode mb_Md_advanceToken 52 = .ok (.invokevirtual 146, 3) := by decide +kernel
theorem rd_Md_advanceToken_55 : decode mb_Md_advanceToken 55 = .ok (.istore_n 1, 1) := by decide +kernel
theorem rd_Md_advanceToken_56 : decode mb_Md_advanceToken 56 = .ok (.aload_n 0, 1) := by decide +kernel
theorem rd_Md_advanceToken_57 : decode mb_Md_advanceToken 57 = .ok (.iconst 0, 1) := by decide +kernel
theorem rd_Md_advanceToken_58 : decode mb_Md_advanceToken 58 = .ok (.putfield 155, 3) := by decide +kernel
theorem rd_Md_advanceToken_61 : decode mb_Md_advanceToken 61 = .ok (.iload_n 1, 1) := by decide +kernel
theorem rd_Md_advanceToken_62 : decode mb_Md_advanceToken 62 = .ok (.iconst (-1), 1) := by decide +kernel
theorem rd_Md_advanceToken_63 : decode mb_Md_advanceToken 63 = .ok (.if_icmp .ne 11, 3) := by decide +kernel
theorem rd_Md_advanceToken_66 : decode mb_Md_advanceToken 66 = .ok (.aload_n 0, 1) := by decide +kernel
theorem rd_Md_advanceToken_67 : decode mb_Md_advanceToken 67 = .ok (.iconst 0, 1) := by decide +kernel
theorem rd_Md_advanceToken_68 : decode mb_Md_advanceToken 68 = .ok (.putfield 158, 3) := by decide +kernel
theorem rd_Md_advanceToken_71 : decode mb_Md_advanceToken 71 = .ok (.goto 199, 3) := by decide +kernel
theorem rd_Md_advanceToken_74 : decode mb_Md_advanceToken 74 = .ok (.aload_n 0, 1) := by decide +kernel
theorem rd_Md_advanceToken_75 : decode mb_Md_advanceToken 75 = .ok (.aload_n 0, 1) := by decide +kernel
theorem rd_Md_advanceToken_76 : decode mb_Md_advanceToken 76 = .ok (.getfield 149, 3) := by decide +kernel
theorem rd_Md_advanceToken_79 : decode mb_Md_advanceToken 79 = .ok (.invokevirtual 161, 3) := by decide +kernel
theorem rd_Md_advanceToken_82 : decode mb_Md_advanceToken 82 = .ok (.ifCond .eq 53, 3) := by decide +kernel
theorem rd_Md_advanceToken_85 : decode mb_Md_advanceToken 85 = .ok (.aload_n 0, 1) := by decide +kernel
theorem rd_Md_advanceToken_86 : decode mb_Md_advanceToken 86 = .ok (.aload_n 0, 1) := by decide +kernel
theorem rd_Md_advanceToken_87 : decode mb_Md_advanceToken 87 = .ok (.getfield 149, 3) := by decide +kernel
theorem rd_Md_advanceToken_90 : decode mb_Md_advanceToken 90 = .ok (.invokevirtual 161, 3) := by decide +kernel
theorem rd_Md_advanceToken_93 : decode mb_Md_advanceToken 93 = .ok (.ifCond .eq 16, 3) := by decide +kernel
theorem rd_Md_advanceToken_96 : decode mb_Md_advanceToken 96 = .ok (.aload_n 0, 1) := by decide +kernel
theorem rd_Md_advanceToken_97 : decode mb_Md_advanceToken 97 = .ok (.dup, 1) := by decide +kernel
theorem rd_Md_advanceToken_98 : decode mb_Md_advanceToken 98 = .ok (.getfield 149, 3) := by decide +kernel
theorem rd_Md_advanceToken_101 : decode mb_Md_advanceToken 101 = .ok (.iconst 1, 1) := by decide +kernel
theorem rd_Md_advanceToken_102 : decode mb_Md_advanceToken 102 = .ok (.iadd, 1) := by decide +kernel
theorem rd_Md_advanceToken_103 : decode mb_Md_advanceToken 103 = .ok (.putfield 149, 3) := by decide +kernel
theorem rd_Md_advanceToken_106 : decode mb_Md_advanceToken 106 = .ok (.goto (-21), 3) := by decide +kernel
theorem rd_Md_advanceToken_109 : decode mb_Md_advanceToken 109 = .ok (.aload_n 0, 1) := by decide +kernel
theorem rd_Md_advanceToken_110 : decode mb_Md_advanceToken 110 = .ok (.aload_n 0, 1) := by decide +kernel
theorem rd_Md_advanceToken_111 : decode mb_Md_advanceToken 111 = .ok (.getfield 149, 3) := by decide +kernel
theorem rd_Md_advanceToken_114 : decode mb_Md_advanceToken 114 = .ok (.aload_n 0, 1) := by decide +kernel
theorem rd_Md_advanceToken_115 : decode mb_Md_advanceToken 115 = .ok (.getfield 152, 3) := by decide +kernel
theorem rd_Md_advanceToken_118 : decode mb_Md_advanceToken 118 = .ok (.isub, 1) := by decide +kernel
theorem rd_Md_advanceToken_119 : decode mb_Md_advanceToken 119 = .ok (.bipush 8, 2) := by decide +kernel
theorem rd_Md_advanceToken_121 : decode mb_Md_advanceToken 121 = .ok (.if_icmp .le 7, 3) := by decide +kernel
theorem rd_Md_advanceToken_124 : decode mb_Md_advanceToken 124 = .ok (.iconst 4, 1) := by decide +kernel
theorem rd_Md_advanceToken_125 : decode mb_Md_advanceToken 125 = .ok (.goto 4, 3) := by decide +kernel
theorem rd_Md_advanceToken_128 : decode mb_Md_advanceToken 128 = .ok (.iconst 1, 1) := by decide +kernel
theorem rd_Md_advanceToken_129 : decode mb_Md_advanceToken 129 = .ok (.putfield 158, 3) := by decide +kernel
theorem rd_Md_advanceToken_132 : decode mb_Md_advanceToken 132 = .ok (.goto 138, 3) := by decide +kernel
theorem rd_Md_advanceToken_135 : decode mb_Md_advanceToken 135 = .ok (.iload_n 1, 1) := by decide +kernel
theorem rd_Md_advanceToken_136 : decode mb_Md_advanceToken 136 = .ok (.bipush 48, 2) := by decide +kernel
theorem rd_Md_advanceToken_138 : decode mb_Md_advanceToken 138 = .ok (.bipush 57, 2) := by decide +kernel
theorem rd_Md_advanceToken_140 : decode mb_Md_advanceToken 140 = .ok (.invokestatic 115, 3) := by decide +kernel
theorem rd_Md_advanceToken_143 : decode mb_Md_advanceToken 143 = .ok (.ifCond .eq 102, 3) := by decide +kernel
theorem rd_Md_advanceToken_146 : decode mb_Md_advanceToken 146 = .ok (.aload_n 0, 1) := by decide +kernel
theorem rd_Md_advanceToken_147 : decode mb_Md_advanceToken 147 = .ok (.aload_n 0, 1) := by decide +kernel
theorem rd_Md_advanceToken_148 : decode mb_Md_advanceToken 148 = .ok (.getfield 149, 3) := by decide +kernel
theorem rd_Md_advanceToken_151 : decode mb_Md_advanceToken 151 = .ok (.invokevirtual 146, 3) := by decide +kernel
theorem rd_Md_advanceToken_154 : decode mb_Md_advanceToken 154 = .ok (.bipush 48, 2) := by decide +kernel
theorem rd_Md_advanceToken_156 : decode mb_Md_advanceToken 156 = .ok (.bipush 57, 2) := by decide +kernel
theorem rd_Md_advanceToken_158 : decode mb_Md_advanceToken 158 = .ok (.invokestatic 115, 3) := by decide +kernel
theorem rd_Md_advanceToken_161 : decode mb_Md_advanceToken 161 = .ok (.ifCond .eq 59, 3) := by decide +kernel
theorem rd_Md_advanceToken_164 : decode mb_Md_advanceToken 164 = .ok (.aload_n 0, 1) := by decide +kernel
theorem rd_Md_advanceToken_165 : decode mb_Md_advanceToken 165 = .ok (.aload_n 0, 1) := by decide +kernel
theorem rd_Md_advanceToken_166 : decode mb_Md_advanceToken 166 = .ok (.getfield 149, 3) := by decide +kernel
theorem rd_Md_advanceToken_169 : decode mb_Md_advanceToken 169 = .ok (.aload_n 0, 1) := by decide +kernel
theorem rd_Md_advanceToken_170 : decode mb_Md_advanceToken 170 = .ok (.getfield 152, 3) := by decide +kernel
theorem rd_Md_advanceToken_173 : decode mb_Md_advanceToken 173 = .ok (.isub, 1) := by decide +kernel
theorem rd_Md_advanceToken_174 : decode mb_Md_advanceToken 174 = .ok (.iconst 4, 1) := by decide +kernel
theorem rd_Md_advanceToken_175 : decode mb_Md_advanceToken 175 = .ok (.if_icmp .ge 25, 3) := by decide +kernel
theorem rd_Md_advanceToken_178 : decode mb_Md_advanceToken 178 = .ok (.bipush 10, 2) := by decide +kernel
theorem rd_Md_advanceToken_180 : decode mb_Md_advanceToken 180 = .ok (.aload_n 0, 1) := by decide +kernel
theorem rd_Md_advanceToken_181 : decode mb_Md_advanceToken 181 = .ok (.getfield 155, 3) := by decide +kernel
theorem rd_Md_advanceToken_184 : decode mb_Md_advanceToken 184 = .ok (.imul, 1) := by decide +kernel
theorem rd_Md_advanceToken_185 : decode mb_Md_advanceToken 185 = .ok (.aload_n 0, 1) := by decide +kernel
theorem rd_Md_advanceToken_186 : decode mb_Md_advanceToken 186 = .ok (.aload_n 0, 1) := by decide +kernel
theorem rd_Md_advanceToken_187 : decode mb_Md_advanceToken 187 = .ok (.getfield 149, 3) := by decide +kernel
theorem rd_Md_advanceToken_190 : decode mb_Md_advanceToken 190 = .ok (.invokevirtual 146, 3) := by decide +kernel
theorem rd_Md_advanceToken_193 : decode mb_Md_advanceToken 193 = .ok (.iadd, 1) := by decide +kernel
theorem rd_Md_advanceToken_194 : decode mb_Md_advanceToken 194 = .ok (.bipush 48, 2) := by decide +kernel
theorem rd_Md_advanceToken_196 : decode mb_Md_advanceToken 196 = .ok (.isub, 1) := by decide +kernel
theorem rd_Md_advanceToken_197 : decode mb_Md_advanceToken 197 = .ok (.goto 7, 3) := by decide +kernel
theorem rd_Md_advanceToken_200 : decode mb_Md_advanceToken 200 = .ok (.aload_n 0, 1) := by decide +kernel
theorem rd_Md_advanceToken_201 : decode mb_Md_advanceToken 201 = .ok (.getfield 155, 3) := by decide +kernel
theorem rd_Md_advanceToken_204 : decode mb_Md_advanceToken 204 = .ok (.putfield 155, 3) := by decide +kernel
theorem rd_Md_advanceToken_207 : decode mb_Md_advanceToken 207 = .ok (.aload_n 0, 1) := by decide +kernel
theorem rd_Md_advanceToken_208 : decode mb_Md_advanceToken 208 = .ok (.dup, 1) := by decide +kernel
theorem rd_Md_advanceToken_209 : decode mb_Md_advanceToken 209 = .ok (.getfield 149, 3) := by decide +kernel
theorem rd_Md_advanceToken_212 : decode mb_Md_advanceToken 212 = .ok (.iconst 1, 1) := by decide +kernel
theorem rd_Md_advanceToken_213 : decode mb_Md_advanceToken 213 = .ok (.iadd, 1) := by decide +kernel
theorem rd_Md_advanceToken_214 : decode mb_Md_advanceToken 214 = .ok (.putfield 149, 3) := by decide +kernel
theorem rd_Md_advanceToken_217 : decode mb_Md_advanceToken 217 = .ok (.goto (-71), 3) := by decide +kernel
theorem rd_Md_advanceToken_220 : decode mb_Md_advanceToken 220 = .ok (.aload_n 0, 1) := by decide +kernel
theorem rd_Md_advanceToken_221 : decode mb_Md_advanceToken 221 = .ok (.aload_n 0, 1) := by decide +kernel
theorem rd_Md_advanceToken_222 : decode mb_Md_advanceToken 222 = .ok (.getfield 149, 3) := by decide +kernel
theorem rd_Md_advanceToken_225 : decode mb_Md_advanceToken 225 = .ok (.aload_n 0, 1) := by decide +kernel
theorem rd_Md_advanceToken_226 : decode mb_Md_advanceToken 226 = .ok (.getfield 152, 3) := by decide +kernel
theorem rd_Md_advanceToken_229 : decode mb_Md_advanceToken 229 = .ok (.isub, 1) := by decide +kernel
theorem rd_Md_advanceToken_230 : decode mb_Md_advanceToken 230 = .ok (.iconst 4, 1) := by decide +kernel
theorem rd_Md_advanceToken_231 : decode mb_Md_advanceToken 231 = .ok (.if_icmp .le 7, 3) := by decide +kernel
theorem rd_Md_advanceToken_234 : decode mb_Md_advanceToken 234 = .ok (.iconst 4, 1) := by decide +kernel
theorem rd_Md_advanceToken_235 : decode mb_Md_advanceToken 235 = .ok (.goto 4, 3) := by decide +kernel
theorem rd_Md_advanceToken_238 : decode mb_Md_advanceToken 238 = .ok (.iconst 2, 1) := by decide +kernel
theorem rd_Md_advanceToken_239 : decode mb_Md_advanceToken 239 = .ok (.putfield 158, 3) := by decide +kernel
theorem rd_Md_advanceToken_242 : decode mb_Md_advanceToken 242 = .ok (.goto 28, 3) := by decide +kernel
theorem rd_Md_advanceToken_245 : decode mb_Md_advanceToken 245 = .ok (.aload_n 0, 1) := by decide +kernel
theorem rd_Md_advanceToken_246 : decode mb_Md_advanceToken 246 = .ok (.iload_n 1, 1) := by decide +kernel
theorem rd_Md_advanceToken_247 : decode mb_Md_advanceToken 247 = .ok (.bipush 59, 2) := by decide +kernel
theorem rd_Md_advanceToken_249 : decode mb_Md_advanceToken 249 = .ok (.if_icmp .ne 7, 3) := by decide +kernel
theorem rd_Md_advanceToken_252 : decode mb_Md_advanceToken 252 = .ok (.iconst 3, 1) := by decide +kernel
theorem rd_Md_advanceToken_253 : decode mb_Md_advanceToken 253 = .ok (.goto 4, 3) := by decide +kernel
theorem rd_Md_advanceToken_256 : decode mb_Md_advanceToken 256 = .ok (.iconst 4, 1) := by decide +kernel
theorem rd_Md_advanceToken_257 : decode mb_Md_advanceToken 257 = .ok (.putfield 158, 3) := by decide +kernel
theorem rd_Md_advanceToken_260 : decode mb_Md_advanceToken 260 = .ok (.aload_n 0, 1) := by decide +kernel
theorem rd_Md_advanceToken_261 : decode mb_Md_advanceToken 261 = .ok (.dup, 1) := by decide +kernel
theorem rd_Md_advanceToken_262 : decode mb_Md_advanceToken 262 = .ok (.getfield 149, 3) := by decide +kernel
theorem rd_Md_advanceToken_265 : decode mb_Md_advanceToken 265 = .ok (.iconst 1, 1) := by decide +kernel
theorem rd_Md_advanceToken_266 : decode mb_Md_advanceToken 266 = .ok (.iadd, 1) := by decide +kernel
theorem rd_Md_advanceToken_267 : decode mb_Md_advanceToken 267 = .ok (.putfield 149, 3) := by decide +kernel
theorem rd_Md_advanceToken_270 : decode mb_Md_advanceToken 270 = .ok (.return_, 1) := by decide +kernel
theorem rd_Md_failsAt_0 : decode mb_Md_failsAt 0 = .ok (.aload_n 0, 1) := by decide +kernel
theorem rd_Md_failsAt_1 : decode mb_Md_failsAt 1 = .ok (.getfield 164, 3) := by decide +kernel
theorem rd_Md_failsAt_4 : decode mb_Md_failsAt 4 = .ok (.ifCond .ne 16, 3) := by decide +kernel
theorem rd_Md_failsAt_7 : decode mb_Md_failsAt 7 = .ok (.aload_n 0, 1) := by decide +kernel
theorem rd_Md_failsAt_8 : decode mb_Md_failsAt 8 = .ok (.iload_n 1, 1) := by decide +kernel
theorem rd_Md_failsAt_9 : decode mb_Md_failsAt 9 = .ok (.putfield 164, 3) := by decide +kernel
theorem rd_Md_failsAt_12 : decode mb_Md_failsAt 12 = .ok (.aload_n 0, 1) := by decide +kernel
theorem rd_Md_failsAt_13 : decode mb_Md_failsAt 13 = .ok (.aload_n 0, 1) := by decide +kernel
theorem rd_Md_failsAt_14 : decode mb_Md_failsAt 14 = .ok (.getfield 152, 3) := by decide +kernel
theorem rd_Md_failsAt_17 : decode mb_Md_failsAt 17 = .ok (.putfield 167, 3) := by decide +kernel
theorem rd_Md_failsAt_20 : decode mb_Md_failsAt 20 = .ok (.iconst 0, 1) := by decide +kernel
theorem rd_Md_failsAt_21 : decode mb_Md_failsAt 21 = .ok (.ireturn, 1) := by decide +kernel
theorem rd_Md_isWord_0 : decode mb_Md_isWord 0 = .ok (.aload_n 0, 1) := by decide +kernel
theorem rd_Md_isWord_1 : decode mb_Md_isWord 1 = .ok (.getfield 158, 3) := by decide +kernel
theorem rd_Md_isWord_4 : decode mb_Md_isWord 4 = .ok (.iconst 1, 1) := by decide +kernel
theorem rd_Md_isWord_5 : decode mb_Md_isWord 5 = .ok (.if_icmp .ne 19, 3) := by decide +kernel
theorem rd_Md_isWord_8 : decode mb_Md_isWord 8 = .ok (.aload_n 0, 1) := by decide +kernel
theorem rd_Md_isWord_9 : decode mb_Md_isWord 9 = .ok (.getfield 149, 3) := by decide +kernel
theorem rd_Md_isWord_12 : decode mb_Md_isWord 12 = .ok (.aload_n 0, 1) := by decide +kernel
theorem rd_Md_isWord_13 : decode mb_Md_isWord 13 = .ok (.getfield 152, 3) := by decide +kernel
theorem rd_Md_isWord_16 : decode mb_Md_isWord 16 = .ok (.isub, 1) := by decide +kernel
theorem rd_Md_isWord_17 : decode mb_Md_isWord 17 = .ok (.aload_n 1, 1) := by decide +kernel
theorem rd_Md_isWord_18 : decode mb_Md_isWord 18 = .ok (.invokevirtual 170, 3) := by decide +kernel
theorem rd_Md_isWord_21 : decode mb_Md_isWord 21 = .ok (.if_icmp .eq 5, 3) := by decide +kernel
theorem rd_Md_isWord_24 : decode mb_Md_isWord 24 = .ok (.iconst 0, 1) := by decide +kernel
theorem rd_Md_isWord_25 : decode mb_Md_isWord 25 = .ok (.ireturn, 1) := by decide +kernel
theorem rd_Md_isWord_26 : decode mb_Md_isWord 26 = .ok (.iconst 0, 1) := by decide +kernel
theorem rd_Md_isWord_27 : decode mb_Md_isWord 27 = .ok (.istore_n 2, 1) := by decide +kernel
theorem rd_Md_isWord_28 : decode mb_Md_isWord 28 = .ok (.iload_n 2, 1) := by decide +kernel
theorem rd_Md_isWord_29 : decode mb_Md_isWord 29 = .ok (.aload_n 1, 1) := by decide +kernel
theorem rd_Md_isWord_30 : decode mb_Md_isWord 30 = .ok (.invokevirtual 170, 3) := by decide +kernel
theorem rd_Md_isWord_33 : decode mb_Md_isWord 33 = .ok (.if_icmp .ge 30, 3) := by decide +kernel
theorem rd_Md_isWord_36 : decode mb_Md_isWord 36 = .ok (.aload_n 0, 1) := by decide +kernel
theorem rd_Md_isWord_37 : decode mb_Md_isWord 37 = .ok (.getfield 22, 3) := by decide +kernel
theorem rd_Md_isWord_40 : decode mb_Md_isWord 40 = .ok (.aload_n 0, 1) := by decide +kernel
theorem rd_Md_isWord_41 : decode mb_Md_isWord 41 = .ok (.getfield 152, 3) := by decide +kernel
theorem rd_Md_isWord_44 : decode mb_Md_isWord 44 = .ok (.iload_n 2, 1) := by decide +kernel
theorem rd_Md_isWord_45 : decode mb_Md_isWord 45 = .ok (.iadd, 1) := by decide +kernel
theorem rd_Md_isWord_46 : decode mb_Md_isWord 46 = .ok (.iaload, 1) := by decide +kernel
theorem rd_Md_isWord_47 : decode mb_Md_isWord 47 = .ok (.aload_n 1, 1) := by decide +kernel
theorem rd_Md_isWord_48 : decode mb_Md_isWord 48 = .ok (.iload_n 2, 1) := by decide +kernel
theorem rd_Md_isWord_49 : decode mb_Md_isWord 49 = .ok (.invokevirtual 176, 3) := by decide +kernel
theorem rd_Md_isWord_52 : decode mb_Md_isWord 52 = .ok (.if_icmp .eq 5, 3) := by decide +kernel
theorem rd_Md_isWord_55 : decode mb_Md_isWord 55 = .ok (.iconst 0, 1) := by decide +kernel
theorem rd_Md_isWord_56 : decode mb_Md_isWord 56 = .ok (.ireturn, 1) := by decide +kernel
theorem rd_Md_isWord_57 : decode mb_Md_isWord 57 = .ok (.iinc 2 1, 3) := by decide +kernel
theorem rd_Md_isWord_60 : decode mb_Md_isWord 60 = .ok (.goto (-32), 3) := by decide +kernel
theorem rd_Md_isWord_63 : decode mb_Md_isWord 63 = .ok (.iconst 1, 1) := by decide +kernel
theorem rd_Md_isWord_64 : decode mb_Md_isWord 64 = .ok (.ireturn, 1) := by decide +kernel
theorem rd_Md_seesNumber_0 : decode mb_Md_seesNumber 0 = .ok (.aload_n 0, 1) := by decide +kernel
theorem rd_Md_seesNumber_1 : decode mb_Md_seesNumber 1 = .ok (.getfield 158, 3) := by decide +kernel
theorem rd_Md_seesNumber_4 : decode mb_Md_seesNumber 4 = .ok (.iconst 2, 1) := by decide +kernel
theorem rd_Md_seesNumber_5 : decode mb_Md_seesNumber 5 = .ok (.if_icmp .eq 9, 3) := by decide +kernel
theorem rd_Md_seesNumber_8 : decode mb_Md_seesNumber 8 = .ok (.aload_n 0, 1) := by decide +kernel
theorem rd_Md_seesNumber_9 : decode mb_Md_seesNumber 9 = .ok (.iconst 1, 1) := by decide +kernel
theorem rd_Md_seesNumber_10 : decode mb_Md_seesNumber 10 = .ok (.invokevirtual 180, 3) := by decide +kernel
theorem rd_Md_seesNumber_13 : decode mb_Md_seesNumber 13 = .ok (.ireturn, 1) := by decide +kernel
theorem rd_Md_seesNumber_14 : decode mb_Md_seesNumber 14 = .ok (.aload_n 0, 1) := by decide +kernel
theorem rd_Md_seesNumber_15 : decode mb_Md_seesNumber 15 = .ok (.getfield 155, 3) := by decide +kernel
theorem rd_Md_seesNumber_18 : decode mb_Md_seesNumber 18 = .ok (.iload_n 1, 1) := by decide +kernel
theorem rd_Md_seesNumber_19 : decode mb_Md_seesNumber 19 = .ok (.iload_n 2, 1) := by decide +kernel
theorem rd_Md_seesNumber_20 : decode mb_Md_seesNumber 20 = .ok (.invokestatic 115, 3) := by decide +kernel
theorem rd_Md_seesNumber_23 : decode mb_Md_seesNumber 23 = .ok (.ifCond .ne 9, 3) := by decide +kernel
theorem rd_Md_seesNumber_26 : decode mb_Md_seesNumber 26 = .ok (.aload_n 0, 1) := by decide +kernel
theorem rd_Md_seesNumber_27 : decode mb_Md_seesNumber 27 = .ok (.iconst 2, 1) := by decide +kernel
theorem rd_Md_seesNumber_28 : decode mb_Md_seesNumber 28 = .ok (.invokevirtual 180, 3) := by decide +kernel
theorem rd_Md_seesNumber_31 : decode mb_Md_seesNumber 31 = .ok (.ireturn, 1) := by decide +kernel
theorem rd_Md_seesNumber_32 : decode mb_Md_seesNumber 32 = .ok (.aload_n 0, 1) := by decide +kernel
theorem rd_Md_seesNumber_33 : decode mb_Md_seesNumber 33 = .ok (.aload_n 0, 1) := by decide +kernel
theorem rd_Md_seesNumber_34 : decode mb_Md_seesNumber 34 = .ok (.getfield 155, 3) := by decide +kernel
theorem rd_Md_seesNumber_37 : decode mb_Md_seesNumber 37 = .ok (.putfield 183, 3) := by decide +kernel
theorem rd_Md_seesNumber_40 : decode mb_Md_seesNumber 40 = .ok (.iconst 1, 1) := by decide +kernel
theorem rd_Md_seesNumber_41 : decode mb_Md_seesNumber 41 = .ok (.ireturn, 1) := by decide +kernel
theorem rd_Md_takesNumber_0 : decode mb_Md_takesNumber 0 = .ok (.aload_n 0, 1) := by decide +kernel
theorem rd_Md_takesNumber_1 : decode mb_Md_takesNumber 1 = .ok (.iload_n 1, 1) := by decide +kernel
theorem rd_Md_takesNumber_2 : decode mb_Md_takesNumber 2 = .ok (.iload_n 2, 1) := by decide +kernel
theorem rd_Md_takesNumber_3 : decode mb_Md_takesNumber 3 = .ok (.invokevirtual 186, 3) := by decide +kernel
theorem rd_Md_takesNumber_6 : decode mb_Md_takesNumber 6 = .ok (.ifCond .ne 5, 3) := by decide +kernel
theorem rd_Md_takesNumber_9 : decode mb_Md_takesNumber 9 = .ok (.iconst 0, 1) := by decide +kernel
theorem rd_Md_takesNumber_10 : decode mb_Md_takesNumber 10 = .ok (.ireturn, 1) := by decide +kernel
theorem rd_Md_takesNumber_11 : decode mb_Md_takesNumber 11 = .ok (.aload_n 0, 1) := by decide +kernel
theorem rd_Md_takesNumber_12 : decode mb_Md_takesNumber 12 = .ok (.invokevirtual 189, 3) := by decide +kernel
theorem rd_Md_takesNumber_15 : decode mb_Md_takesNumber 15 = .ok (.iconst 1, 1) := by decide +kernel
theorem rd_Md_takesNumber_16 : decode mb_Md_takesNumber 16 = .ok (.ireturn, 1) := by decide +kernel
theorem rd_Md_takesSemicolon_0 : decode mb_Md_takesSemicolon 0 = .ok (.aload_n 0, 1) := by decide +kernel
theorem rd_Md_takesSemicolon_1 : decode mb_Md_takesSemicolon 1 = .ok (.getfield 158, 3) := by decide +kernel
theorem rd_Md_takesSemicolon_4 : decode mb_Md_takesSemicolon 4 = .ok (.iconst 3, 1) := by decide +kernel
theorem rd_Md_takesSemicolon_5 : decode mb_Md_takesSemicolon 5 = .ok (.if_icmp .eq 9, 3) := by decide +kernel
theorem rd_Md_takesSemicolon_8 : decode mb_Md_takesSemicolon 8 = .ok (.aload_n 0, 1) := by decide +kernel
theorem rd_Md_takesSemicolon_9 : decode mb_Md_takesSemicolon 9 = .ok (.iconst 1, 1) := by decide +kernel
theorem rd_Md_takesSemicolon_10 : decode mb_Md_takesSemicolon 10 = .ok (.invokevirtual 180, 3) := by decide +kernel
theorem rd_Md_takesSemicolon_13 : decode mb_Md_takesSemicolon 13 = .ok (.ireturn, 1) := by decide +kernel
theorem rd_Md_takesSemicolon_14 : decode mb_Md_takesSemicolon 14 = .ok (.aload_n 0, 1) := by decide +kernel
theorem rd_Md_takesSemicolon_15 : decode mb_Md_takesSemicolon 15 = .ok (.invokevirtual 189, 3) := by decide +kernel
theorem rd_Md_takesSemicolon_18 : decode mb_Md_takesSemicolon 18 = .ok (.iconst 1, 1) := by decide +kernel
theorem rd_Md_takesSemicolon_19 : decode mb_Md_takesSemicolon 19 = .ok (.ireturn, 1) := by decide +kernel
theorem rd_Md_seesName_0 : decode mb_Md_seesName 0 = .ok (.aload_n 0, 1) := by decide +kernel
theorem rd_Md_seesName_1 : decode mb_Md_seesName 1 = .ok (.getfield 158, 3) := by decide +kernel
theorem rd_Md_seesName_4 : decode mb_Md_seesName 4 = .ok (.iconst 1, 1) := by decide +kernel
theorem rd_Md_seesName_5 : decode mb_Md_seesName 5 = .ok (.if_icmp .ne 17, 3) := by decide +kernel
theorem rd_Md_seesName_8 : decode mb_Md_seesName 8 = .ok (.aload_n 0, 1) := by decide +kernel
theorem rd_Md_seesName_9 : decode mb_Md_seesName 9 = .ok (.getfield 149, 3) := by decide +kernel
theorem rd_Md_seesName_12 : decode mb_Md_seesName 12 = .ok (.aload_n 0, 1) := by decide +kernel
theorem rd_Md_seesName_13 : decode mb_Md_seesName 13 = .ok (.getfield 152, 3) := by decide +kernel
theorem rd_Md_seesName_16 : decode mb_Md_seesName 16 = .ok (.isub, 1) := by decide +kernel
theorem rd_Md_seesName_17 : decode mb_Md_seesName 17 = .ok (.bipush 6, 2) := by decide +kernel
theorem rd_Md_seesName_19 : decode mb_Md_seesName 19 = .ok (.if_icmp .le 11, 3) := by decide +kernel
theorem rd_Md_seesName_22 : decode mb_Md_seesName 22 = .ok (.aload_n 0, 1) := by decide +kernel
theorem rd_Md_seesName_23 : decode mb_Md_seesName 23 = .ok (.iconst 1, 1) := by decide +kernel
theorem rd_Md_seesName_24 : decode mb_Md_seesName 24 = .ok (.invokevirtual 180, 3) := by decide +kernel
theorem rd_Md_seesName_27 : decode mb_Md_seesName 27 = .ok (.ifCond .eq 7, 3) := by decide +kernel
theorem rd_Md_seesName_30 : decode mb_Md_seesName 30 = .ok (.iconst 1, 1) := by decide +kernel
theorem rd_Md_seesName_31 : decode mb_Md_seesName 31 = .ok (.goto 4, 3) := by decide +kernel
theorem rd_Md_seesName_34 : decode mb_Md_seesName 34 = .ok (.iconst 0, 1) := by decide +kernel
theorem rd_Md_seesName_35 : decode mb_Md_seesName 35 = .ok (.ireturn, 1) := by decide +kernel
theorem rd_Md_isNameAt_0 : decode mb_Md_isNameAt 0 = .ok (.aload_n 0, 1) := by decide +kernel
theorem rd_Md_isNameAt_1 : decode mb_Md_isNameAt 1 = .ok (.getfield 7, 3) := by decide +kernel
theorem rd_Md_isNameAt_4 : decode mb_Md_isNameAt 4 = .ok (.iload_n 1, 1) := by decide +kernel
theorem rd_Md_isNameAt_5 : decode mb_Md_isNameAt 5 = .ok (.iconst 0, 1) := by decide +kernel
theorem rd_Md_isNameAt_6 : decode mb_Md_isNameAt 6 = .ok (.iadd, 1) := by decide +kernel
theorem rd_Md_isNameAt_7 : decode mb_Md_isNameAt 7 = .ok (.iaload, 1) := by decide +kernel
theorem rd_Md_isNameAt_8 : decode mb_Md_isNameAt 8 = .ok (.aload_n 0, 1) := by decide +kernel
theorem rd_Md_isNameAt_9 : decode mb_Md_isNameAt 9 = .ok (.getfield 149, 3) := by decide +kernel
theorem rd_Md_isNameAt_12 : decode mb_Md_isNameAt 12 = .ok (.aload_n 0, 1) := by decide +kernel
theorem rd_Md_isNameAt_13 : decode mb_Md_isNameAt 13 = .ok (.getfield 152, 3) := by decide +kernel
theorem rd_Md_isNameAt_16 : decode mb_Md_isNameAt 16 = .ok (.isub, 1) := by decide +kernel
theorem rd_Md_isNameAt_17 : decode mb_Md_isNameAt 17 = .ok (.if_icmp .eq 5, 3) := by decide +kernel
theorem rd_Md_isNameAt_20 : decode mb_Md_isNameAt 20 = .ok (.iconst 0, 1) := by decide +kernel
theorem rd_Md_isNameAt_21 : decode mb_Md_isNameAt 21 = .ok (.ireturn, 1) := by decide +kernel
theorem rd_Md_isNameAt_22 : decode mb_Md_isNameAt 22 = .ok (.iconst 0, 1) := by decide +kernel
theorem rd_Md_isNameAt_23 : decode mb_Md_isNameAt 23 = .ok (.istore_n 2, 1) := by decide +kernel
theorem rd_Md_isNameAt_24 : decode mb_Md_isNameAt 24 = .ok (.iload_n 2, 1) := by decide +kernel
theorem rd_Md_isNameAt_25 : decode mb_Md_isNameAt 25 = .ok (.aload_n 0, 1) := by decide +kernel
theorem rd_Md_isNameAt_26 : decode mb_Md_isNameAt 26 = .ok (.getfield 149, 3) := by decide +kernel
theorem rd_Md_isNameAt_29 : decode mb_Md_isNameAt 29 = .ok (.aload_n 0, 1) := by decide +kernel
theorem rd_Md_isNameAt_30 : decode mb_Md_isNameAt 30 = .ok (.getfield 152, 3) := by decide +kernel
theorem rd_Md_isNameAt_33 : decode mb_Md_isNameAt 33 = .ok (.isub, 1) := by decide +kernel
theorem rd_Md_isNameAt_34 : decode mb_Md_isNameAt 34 = .ok (.if_icmp .ge 35, 3) := by decide +kernel
theorem rd_Md_isNameAt_37 : decode mb_Md_isNameAt 37 = .ok (.aload_n 0, 1) := by decide +kernel
theorem rd_Md_isNameAt_38 : decode mb_Md_isNameAt 38 = .ok (.getfield 7, 3) := by decide +kernel
theorem rd_Md_isNameAt_41 : decode mb_Md_isNameAt 41 = .ok (.iload_n 1, 1) := by decide +kernel
theorem rd_Md_isNameAt_42 : decode mb_Md_isNameAt 42 = .ok (.iconst 1, 1) := by decide +kernel
theorem rd_Md_isNameAt_43 : decode mb_Md_isNameAt 43 = .ok (.iadd, 1) := by decide +kernel
theorem rd_Md_isNameAt_44 : decode mb_Md_isNameAt 44 = .ok (.iload_n 2, 1) := by decide +kernel
theorem rd_Md_isNameAt_45 : decode mb_Md_isNameAt 45 = .ok (.iadd, 1) := by decide +kernel
theorem rd_Md_isNameAt_46 : decode mb_Md_isNameAt 46 = .ok (.iaload, 1) := by decide +kernel
theorem rd_Md_isNameAt_47 : decode mb_Md_isNameAt 47 = .ok (.aload_n 0, 1) := by decide +kernel
theorem rd_Md_isNameAt_48 : decode mb_Md_isNameAt 48 = .ok (.getfield 22, 3) := by decide +kernel
theorem rd_Md_isNameAt_51 : decode mb_Md_isNameAt 51 = .ok (.aload_n 0, 1) := by decide +kernel
theorem rd_Md_isNameAt_52 : decode mb_Md_isNameAt 52 = .ok (.getfield 152, 3) := by decide +kernel
theorem rd_Md_isNameAt_55 : decode mb_Md_isNameAt 55 = .ok (.iload_n 2, 1) := by decide +kernel
theorem rd_Md_isNameAt_56 : decode mb_Md_isNameAt 56 = .ok (.iadd, 1) := by decide +kernel
theorem rd_Md_isNameAt_57 : decode mb_Md_isNameAt 57 = .ok (.iaload, 1) := by decide +kernel
theorem rd_Md_isNameAt_58 : decode mb_Md_isNameAt 58 = .ok (.if_icmp .eq 5, 3) := by decide +kernel
theorem rd_Md_isNameAt_61 : decode mb_Md_isNameAt 61 = .ok (.iconst 0, 1) := by decide +kernel
theorem rd_Md_isNameAt_62 : decode mb_Md_isNameAt 62 = .ok (.ireturn, 1) := by decide +kernel
theorem rd_Md_isNameAt_63 : decode mb_Md_isNameAt 63 = .ok (.iinc 2 1, 3) := by decide +kernel
theorem rd_Md_isNameAt_66 : decode mb_Md_isNameAt 66 = .ok (.goto (-42), 3) := by decide +kernel
theorem rd_Md_isNameAt_69 : decode mb_Md_isNameAt 69 = .ok (.iconst 1, 1) := by decide +kernel
theorem rd_Md_isNameAt_70 : decode mb_Md_isNameAt 70 = .ok (.ireturn, 1) := by decide +kernel
theorem rd_Md_topicHere_0 : decode mb_Md_topicHere 0 = .ok (.iconst 0, 1) := by decide +kernel
theorem rd_Md_topicHere_1 : decode mb_Md_topicHere 1 = .ok (.istore_n 1, 1) := by decide +kernel
theorem rd_Md_topicHere_2 : decode mb_Md_topicHere 2 = .ok (.iload_n 1, 1) := by decide +kernel
theorem rd_Md_topicHere_3 : decode mb_Md_topicHere 3 = .ok (.aload_n 0, 1) := by decide +kernel
theorem rd_Md_topicHere_4 : decode mb_Md_topicHere 4 = .ok (.getfield 7, 3) := by decide +kernel
theorem rd_Md_topicHere_7 : decode mb_Md_topicHere 7 = .ok (.iconst 0, 1) := by decide +kernel
theorem rd_Md_topicHere_8 : decode mb_Md_topicHere 8 = .ok (.iaload, 1) := by decide +kernel
theorem rd_Md_topicHere_9 : decode mb_Md_topicHere 9 = .ok (.if_icmp .ge 24, 3) := by decide +kernel
theorem rd_Md_topicHere_12 : decode mb_Md_topicHere 12 = .ok (.aload_n 0, 1) := by decide +kernel
theorem rd_Md_topicHere_13 : decode mb_Md_topicHere 13 = .ok (.iconst 3, 1) := by decide +kernel
theorem rd_Md_topicHere_14 : decode mb_Md_topicHere 14 = .ok (.bipush 7, 2) := by decide +kernel
theorem rd_Md_topicHere_16 : decode mb_Md_topicHere 16 = .ok (.iload_n 1, 1) := by decide +kernel
theorem rd_Md_topicHere_17 : decode mb_Md_topicHere 17 = .ok (.imul, 1) := by decide +kernel
theorem rd_Md_topicHere_18 : decode mb_Md_topicHere 18 = .ok (.iadd, 1) := by decide +kernel
theorem rd_Md_topicHere_19 : decode mb_Md_topicHere 19 = .ok (.invokevirtual 192, 3) := by decide +kernel
theorem rd_Md_topicHere_22 : decode mb_Md_topicHere 22 = .ok (.ifCond .eq 5, 3) := by decide +kernel
theorem rd_Md_topicHere_25 : decode mb_Md_topicHere 25 = .ok (.iload_n 1, 1) := by decide +kernel
theorem rd_Md_topicHere_26 : decode mb_Md_topicHere 26 = .ok (.ireturn, 1) := by decide +kernel
theorem rd_Md_topicHere_27 : decode mb_Md_topicHere 27 = .ok (.iinc 1 1, 3) := by decide +kernel
theorem rd_Md_topicHere_30 : decode mb_Md_topicHere 30 = .ok (.goto (-28), 3) := by decide +kernel
theorem rd_Md_topicHere_33 : decode mb_Md_topicHere 33 = .ok (.iconst (-1), 1) := by decide +kernel
theorem rd_Md_topicHere_34 : decode mb_Md_topicHere 34 = .ok (.ireturn, 1) := by decide +kernel
theorem rd_Md_takes_0 : decode mb_Md_takes 0 = .ok (.aload_n 0, 1) := by decide +kernel
theorem rd_Md_takes_1 : decode mb_Md_takes 1 = .ok (.iload_n 2, 1) := by decide +kernel
theorem rd_Md_takes_2 : decode mb_Md_takes 2 = .ok (.iload_n 3, 1) := by decide +kernel
theorem rd_Md_takes_3 : decode mb_Md_takes 3 = .ok (.invokevirtual 195, 3) := by decide +kernel
theorem rd_Md_takes_6 : decode mb_Md_takes 6 = .ok (.ifCond .ne 5, 3) := by decide +kernel
theorem rd_Md_takes_9 : decode mb_Md_takes 9 = .ok (.iconst 0, 1) := by decide +kernel
theorem rd_Md_takes_10 : decode mb_Md_takes 10 = .ok (.ireturn, 1) := by decide +kernel
theorem rd_Md_takes_11 : decode mb_Md_takes 11 = .ok (.aload_n 0, 1) := by decide +kernel
theorem rd_Md_takes_12 : decode mb_Md_takes 12 = .ok (.getfield 29, 3) := by decide +kernel
theorem rd_Md_takes_15 : decode mb_Md_takes 15 = .ok (.iload_n 1, 1) := by decide +kernel
theorem rd_Md_takes_16 : decode mb_Md_takes 16 = .ok (.aload_n 0, 1) := by decide +kernel
theorem rd_Md_takes_17 : decode mb_Md_takes 17 = .ok (.getfield 183, 3) := by decide +kernel
theorem rd_Md_takes_20 : decode mb_Md_takes 20 = .ok (.iastore, 1) := by decide +kernel
theorem rd_Md_takes_21 : decode mb_Md_takes 21 = .ok (.iconst 1, 1) := by decide +kernel
theorem rd_Md_takes_22 : decode mb_Md_takes 22 = .ok (.ireturn, 1) := by decide +kernel
theorem rd_Md_takesTopic_0 : decode mb_Md_takesTopic 0 = .ok (.aload_n 0, 1) := by decide +kernel
theorem rd_Md_takesTopic_1 : decode mb_Md_takesTopic 1 = .ok (.invokevirtual 198, 3) := by decide +kernel
theorem rd_Md_takesTopic_4 : decode mb_Md_takesTopic 4 = .ok (.ifCond .ne 5, 3) := by decide +kernel
theorem rd_Md_takesTopic_7 : decode mb_Md_takesTopic 7 = .ok (.iconst 0, 1) := by decide +kernel
theorem rd_Md_takesTopic_8 : decode mb_Md_takesTopic 8 = .ok (.ireturn, 1) := by decide +kernel
theorem rd_Md_takesTopic_9 : decode mb_Md_takesTopic 9 = .ok (.aload_n 0, 1) := by decide +kernel
theorem rd_Md_takesTopic_10 : decode mb_Md_takesTopic 10 = .ok (.getfield 29, 3) := by decide +kernel
theorem rd_Md_takesTopic_13 : decode mb_Md_takesTopic 13 = .ok (.iload_n 1, 1) := by decide +kernel
theorem rd_Md_takesTopic_14 : decode mb_Md_takesTopic 14 = .ok (.aload_n 0, 1) := by decide +kernel
theorem rd_Md_takesTopic_15 : decode mb_Md_takesTopic 15 = .ok (.invokevirtual 201, 3) := by decide +kernel
theorem rd_Md_takesTopic_18 : decode mb_Md_takesTopic 18 = .ok (.iastore, 1) := by decide +kernel
theorem rd_Md_takesTopic_19 : decode mb_Md_takesTopic 19 = .ok (.aload_n 0, 1) := by decide +kernel
theorem rd_Md_takesTopic_20 : decode mb_Md_takesTopic 20 = .ok (.getfield 29, 3) := by decide +kernel
theorem rd_Md_takesTopic_23 : decode mb_Md_takesTopic 23 = .ok (.iload_n 1, 1) := by decide +kernel
theorem rd_Md_takesTopic_24 : decode mb_Md_takesTopic 24 = .ok (.iaload, 1) := by decide +kernel
theorem rd_Md_takesTopic_25 : decode mb_Md_takesTopic 25 = .ok (.iconst (-1), 1) := by decide +kernel
theorem rd_Md_takesTopic_26 : decode mb_Md_takesTopic 26 = .ok (.if_icmp .ne 9, 3) := by decide +kernel
theorem rd_Md_takesTopic_29 : decode mb_Md_takesTopic 29 = .ok (.aload_n 0, 1) := by decide +kernel
theorem rd_Md_takesTopic_30 : decode mb_Md_takesTopic 30 = .ok (.iconst 4, 1) := by decide +kernel
theorem rd_Md_takesTopic_31 : decode mb_Md_takesTopic 31 = .ok (.invokevirtual 180, 3) := by decide +kernel
theorem rd_Md_takesTopic_34 : decode mb_Md_takesTopic 34 = .ok (.ireturn, 1) := by decide +kernel
theorem rd_Md_takesTopic_35 : decode mb_Md_takesTopic 35 = .ok (.aload_n 0, 1) := by decide +kernel
theorem rd_Md_takesTopic_36 : decode mb_Md_takesTopic 36 = .ok (.invokevirtual 189, 3) := by decide +kernel
theorem rd_Md_takesTopic_39 : decode mb_Md_takesTopic 39 = .ok (.iconst 1, 1) := by decide +kernel
theorem rd_Md_takesTopic_40 : decode mb_Md_takesTopic 40 = .ok (.ireturn, 1) := by decide +kernel
theorem rd_Md_readTopic_0 : decode mb_Md_readTopic 0 = .ok (.aload_n 0, 1) := by decide +kernel
theorem rd_Md_readTopic_1 : decode mb_Md_readTopic 1 = .ok (.getfield 7, 3) := by decide +kernel
theorem rd_Md_readTopic_4 : decode mb_Md_readTopic 4 = .ok (.iconst 0, 1) := by decide +kernel
theorem rd_Md_readTopic_5 : decode mb_Md_readTopic 5 = .ok (.iaload, 1) := by decide +kernel
theorem rd_Md_readTopic_6 : decode mb_Md_readTopic 6 = .ok (.bipush 8, 2) := by decide +kernel
theorem rd_Md_readTopic_8 : decode mb_Md_readTopic 8 = .ok (.if_icmp .ne 10, 3) := by decide +kernel
theorem rd_Md_readTopic_11 : decode mb_Md_readTopic 11 = .ok (.aload_n 0, 1) := by decide +kernel
theorem rd_Md_readTopic_12 : decode mb_Md_readTopic 12 = .ok (.bipush 6, 2) := by decide +kernel
theorem rd_Md_readTopic_14 : decode mb_Md_readTopic 14 = .ok (.invokevirtual 180, 3) := by decide +kernel
theorem rd_Md_readTopic_17 : decode mb_Md_readTopic 17 = .ok (.ireturn, 1) := by decide +kernel
theorem rd_Md_readTopic_18 : decode mb_Md_readTopic 18 = .ok (.aload_n 0, 1) := by decide +kernel
theorem rd_Md_readTopic_19 : decode mb_Md_readTopic 19 = .ok (.invokevirtual 189, 3) := by decide +kernel
theorem rd_Md_readTopic_22 : decode mb_Md_readTopic 22 = .ok (.aload_n 0, 1) := by decide +kernel
theorem rd_Md_readTopic_23 : decode mb_Md_readTopic 23 = .ok (.invokevirtual 198, 3) := by decide +kernel
theorem rd_Md_readTopic_26 : decode mb_Md_readTopic 26 = .ok (.ifCond .ne 5, 3) := by decide +kernel
theorem rd_Md_readTopic_29 : decode mb_Md_readTopic 29 = .ok (.iconst 0, 1) := by decide +kernel
theorem rd_Md_readTopic_30 : decode mb_Md_readTopic 30 = .ok (.ireturn, 1) := by decide +kernel
theorem rd_Md_readTopic_31 : decode mb_Md_readTopic 31 = .ok (.aload_n 0, 1) := by decide +kernel
theorem rd_Md_readTopic_32 : decode mb_Md_readTopic 32 = .ok (.invokevirtual 201, 3) := by decide +kernel
theorem rd_Md_readTopic_35 : decode mb_Md_readTopic 35 = .ok (.iconst (-1), 1) := by decide +kernel
theorem rd_Md_readTopic_36 : decode mb_Md_readTopic 36 = .ok (.if_icmp .eq 9, 3) := by decide +kernel
theorem rd_Md_readTopic_39 : decode mb_Md_readTopic 39 = .ok (.aload_n 0, 1) := by decide +kernel
theorem rd_Md_readTopic_40 : decode mb_Md_readTopic 40 = .ok (.iconst 3, 1) := by decide +kernel
theorem rd_Md_readTopic_41 : decode mb_Md_readTopic 41 = .ok (.invokevirtual 180, 3) := by decide +kernel
theorem rd_Md_readTopic_44 : decode mb_Md_readTopic 44 = .ok (.ireturn, 1) := by decide +kernel
theorem rd_Md_readTopic_45 : decode mb_Md_readTopic 45 = .ok (.iconst 3, 1) := by decide +kernel
theorem rd_Md_readTopic_46 : decode mb_Md_readTopic 46 = .ok (.bipush 7, 2) := by decide +kernel
theorem rd_Md_readTopic_48 : decode mb_Md_readTopic 48 = .ok (.aload_n 0, 1) := by decide +kernel
theorem rd_Md_readTopic_49 : decode mb_Md_readTopic 49 = .ok (.getfield 7, 3) := by decide +kernel
theorem rd_Md_readTopic_52 : decode mb_Md_readTopic 52 = .ok (.iconst 0, 1) := by decide +kernel
theorem rd_Md_readTopic_53 : decode mb_Md_readTopic 53 = .ok (.iaload, 1) := by decide +kernel
theorem rd_Md_readTopic_54 : decode mb_Md_readTopic 54 = .ok (.imul, 1) := by decide +kernel
theorem rd_Md_readTopic_55 : decode mb_Md_readTopic 55 = .ok (.iadd, 1) := by decide +kernel
theorem rd_Md_readTopic_56 : decode mb_Md_readTopic 56 = .ok (.istore_n 1, 1) := by decide +kernel
theorem rd_Md_readTopic_57 : decode mb_Md_readTopic 57 = .ok (.aload_n 0, 1) := by decide +kernel
theorem rd_Md_readTopic_58 : decode mb_Md_readTopic 58 = .ok (.getfield 7, 3) := by decide +kernel
theorem rd_Md_readTopic_61 : decode mb_Md_readTopic 61 = .ok (.iload_n 1, 1) := by decide +kernel
theorem rd_Md_readTopic_62 : decode mb_Md_readTopic 62 = .ok (.iconst 0, 1) := by decide +kernel
theorem rd_Md_readTopic_63 : decode mb_Md_readTopic 63 = .ok (.iadd, 1) := by decide +kernel
theorem rd_Md_readTopic_64 : decode mb_Md_readTopic 64 = .ok (.aload_n 0, 1) := by decide +kernel
theorem rd_Md_readTopic_65 : decode mb_Md_readTopic 65 = .ok (.getfield 149, 3) := by decide +kernel
theorem rd_Md_readTopic_68 : decode mb_Md_readTopic 68 = .ok (.aload_n 0, 1) := by decide +kernel
theorem rd_Md_readTopic_69 : decode mb_Md_readTopic 69 = .ok (.getfield 152, 3) := by decide +kernel
theorem rd_Md_readTopic_72 : decode mb_Md_readTopic 72 = .ok (.isub, 1) := by decide +kernel
theorem rd_Md_readTopic_73 : decode mb_Md_readTopic 73 = .ok (.iastore, 1) := by decide +kernel
theorem rd_Md_readTopic_74 : decode mb_Md_readTopic 74 = .ok (.iconst 0, 1) := by decide +kernel
theorem rd_Md_readTopic_75 : decode mb_Md_readTopic 75 = .ok (.istore_n 2, 1) := by decide +kernel
theorem rd_Md_readTopic_76 : decode mb_Md_readTopic 76 = .ok (.iload_n 2, 1) := by decide +kernel
theorem rd_Md_readTopic_77 : decode mb_Md_readTopic 77 = .ok (.bipush 6, 2) := by decide +kernel
theorem rd_Md_readTopic_79 : decode mb_Md_readTopic 79 = .ok (.if_icmp .ge 47, 3) := by decide +kernel
theorem rd_Md_readTopic_82 : decode mb_Md_readTopic 82 = .ok (.aload_n 0, 1) := by decide +kernel
theorem rd_Md_readTopic_83 : decode mb_Md_readTopic 83 = .ok (.getfield 7, 3) := by decide +kernel
theorem rd_Md_readTopic_86 : decode mb_Md_readTopic 86 = .ok (.iload_n 1, 1) := by decide +kernel
theorem rd_Md_readTopic_87 : decode mb_Md_readTopic 87 = .ok (.iconst 1, 1) := by decide +kernel
theorem rd_Md_readTopic_88 : decode mb_Md_readTopic 88 = .ok (.iadd, 1) := by decide +kernel
theorem rd_Md_readTopic_89 : decode mb_Md_readTopic 89 = .ok (.iload_n 2, 1) := by decide +kernel
theorem rd_Md_readTopic_90 : decode mb_Md_readTopic 90 = .ok (.iadd, 1) := by decide +kernel
theorem rd_Md_readTopic_91 : decode mb_Md_readTopic 91 = .ok (.iload_n 2, 1) := by decide +kernel
theorem rd_Md_readTopic_92 : decode mb_Md_readTopic 92 = .ok (.aload_n 0, 1) := by decide +kernel
theorem rd_Md_readTopic_93 : decode mb_Md_readTopic 93 = .ok (.getfield 149, 3) := by decide +kernel
theorem rd_Md_readTopic_96 : decode mb_Md_readTopic 96 = .ok (.aload_n 0, 1) := by decide +kernel
theorem rd_Md_readTopic_97 : decode mb_Md_readTopic 97 = .ok (.getfield 152, 3) := by decide +kernel
theorem rd_Md_readTopic_100 : decode mb_Md_readTopic 100 = .ok (.isub, 1) := by decide +kernel
theorem rd_Md_readTopic_101 : decode mb_Md_readTopic 101 = .ok (.if_icmp .ge 17, 3) := by decide +kernel
theorem rd_Md_readTopic_104 : decode mb_Md_readTopic 104 = .ok (.aload_n 0, 1) := by decide +kernel
theorem rd_Md_readTopic_105 : decode mb_Md_readTopic 105 = .ok (.getfield 22, 3) := by decide +kernel
theorem rd_Md_readTopic_108 : decode mb_Md_readTopic 108 = .ok (.aload_n 0, 1) := by decide +kernel
theorem rd_Md_readTopic_109 : decode mb_Md_readTopic 109 = .ok (.getfield 152, 3) := by decide +kernel
theorem rd_Md_readTopic_112 : decode mb_Md_readTopic 112 = .ok (.iload_n 2, 1) := by decide +kernel
theorem rd_Md_readTopic_113 : decode mb_Md_readTopic 113 = .ok (.iadd, 1) := by decide +kernel
theorem rd_Md_readTopic_114 : decode mb_Md_readTopic 114 = .ok (.iaload, 1) := by decide +kernel
theorem rd_Md_readTopic_115 : decode mb_Md_readTopic 115 = .ok (.goto 4, 3) := by decide +kernel
theorem rd_Md_readTopic_118 : decode mb_Md_readTopic 118 = .ok (.iconst 0, 1) := by decide +kernel
theorem rd_Md_readTopic_119 : decode mb_Md_readTopic 119 = .ok (.iastore, 1) := by decide +kernel
theorem rd_Md_readTopic_120 : decode mb_Md_readTopic 120 = .ok (.iinc 2 1, 3) := by decide +kernel
theorem rd_Md_readTopic_123 : decode mb_Md_readTopic 123 = .ok (.goto (-47), 3) := by decide +kernel
theorem rd_Md_readTopic_126 : decode mb_Md_readTopic 126 = .ok (.aload_n 0, 1) := by decide +kernel
theorem rd_Md_readTopic_127 : decode mb_Md_readTopic 127 = .ok (.getfield 7, 3) := by decide +kernel
theorem rd_Md_readTopic_130 : decode mb_Md_readTopic 130 = .ok (.iconst 0, 1) := by decide +kernel
theorem rd_Md_readTopic_131 : decode mb_Md_readTopic 131 = .ok (.dup2, 1) := by decide +kernel
theorem rd_Md_readTopic_132 : decode mb_Md_readTopic 132 = .ok (.iaload, 1) := by decide +kernel
theorem rd_Md_readTopic_133 : decode mb_Md_readTopic 133 = .ok (.iconst 1, 1) := by decide +kernel
theorem rd_Md_readTopic_134 : decode mb_Md_readTopic 134 = .ok (.iadd, 1) := by decide +kernel
theorem rd_Md_readTopic_135 : decode mb_Md_readTopic 135 = .ok (.iastore, 1) := by decide +kernel
theorem rd_Md_readTopic_136 : decode mb_Md_readTopic 136 = .ok (.aload_n 0, 1) := by decide +kernel
theorem rd_Md_readTopic_137 : decode mb_Md_readTopic 137 = .ok (.invokevirtual 189, 3) := by decide +kernel
theorem rd_Md_readTopic_140 : decode mb_Md_readTopic 140 = .ok (.aload_n 0, 1) := by decide +kernel
theorem rd_Md_readTopic_141 : decode mb_Md_readTopic 141 = .ok (.invokevirtual 204, 3) := by decide +kernel
theorem rd_Md_readTopic_144 : decode mb_Md_readTopic 144 = .ok (.ireturn, 1) := by decide +kernel
theorem rd_Md_readCluster_0 : decode mb_Md_readCluster 0 = .ok (.aload_n 0, 1) := by decide +kernel
theorem rd_Md_readCluster_1 : decode mb_Md_readCluster 1 = .ok (.getfield 7, 3) := by decide +kernel
theorem rd_Md_readCluster_4 : decode mb_Md_readCluster 4 = .ok (.iconst 1, 1) := by decide +kernel
theorem rd_Md_readCluster_5 : decode mb_Md_readCluster 5 = .ok (.iaload, 1) := by decide +kernel
theorem rd_Md_readCluster_6 : decode mb_Md_readCluster 6 = .ok (.bipush 6, 2) := by decide +kernel
theorem rd_Md_readCluster_8 : decode mb_Md_readCluster 8 = .ok (.if_icmp .ne 10, 3) := by decide +kernel
theorem rd_Md_readCluster_11 : decode mb_Md_readCluster 11 = .ok (.aload_n 0, 1) := by decide +kernel
theorem rd_Md_readCluster_12 : decode mb_Md_readCluster 12 = .ok (.bipush 6, 2) := by decide +kernel
theorem rd_Md_readCluster_14 : decode mb_Md_readCluster 14 = .ok (.invokevirtual 180, 3) := by decide +kernel
theorem rd_Md_readCluster_17 : decode mb_Md_readCluster 17 = .ok (.ireturn, 1) := by decide +kernel
theorem rd_Md_readCluster_18 : decode mb_Md_readCluster 18 = .ok (.aload_n 0, 1) := by decide +kernel
theorem rd_Md_readCluster_19 : decode mb_Md_readCluster 19 = .ok (.invokevirtual 189, 3) := by decide +kernel
theorem rd_Md_readCluster_22 : decode mb_Md_readCluster 22 = .ok (.aload_n 0, 1) := by decide +kernel
theorem rd_Md_readCluster_23 : decode mb_Md_readCluster 23 = .ok (.getfield 7, 3) := by decide +kernel
theorem rd_Md_readCluster_26 : decode mb_Md_readCluster 26 = .ok (.iconst 1, 1) := by decide +kernel
theorem rd_Md_readCluster_27 : decode mb_Md_readCluster 27 = .ok (.dup2, 1) := by decide +kernel
theorem rd_Md_readCluster_28 : decode mb_Md_readCluster 28 = .ok (.iaload, 1) := by decide +kernel
theorem rd_Md_readCluster_29 : decode mb_Md_readCluster 29 = .ok (.iconst 1, 1) := by decide +kernel
theorem rd_Md_readCluster_30 : decode mb_Md_readCluster 30 = .ok (.iadd, 1) := by decide +kernel
theorem rd_Md_readCluster_31 : decode mb_Md_readCluster 31 = .ok (.iastore, 1) := by decide +kernel
theorem rd_Md_readCluster_32 : decode mb_Md_readCluster 32 = .ok (.aload_n 0, 1) := by decide +kernel
theorem rd_Md_readCluster_33 : decode mb_Md_readCluster 33 = .ok (.invokevirtual 204, 3) := by decide +kernel
theorem rd_Md_readCluster_36 : decode mb_Md_readCluster 36 = .ok (.ireturn, 1) := by decide +kernel
theorem rd_Md_takesCord_0 : decode mb_Md_takesCord 0 = .ok (.aload_n 0, 1) := by decide +kernel
theorem rd_Md_takesCord_1 : decode mb_Md_takesCord 1 = .ok (.iconst 1, 1) := by decide +kernel
theorem rd_Md_takesCord_2 : decode mb_Md_takesCord 2 = .ok (.invokevirtual 207, 3) := by decide +kernel
theorem rd_Md_takesCord_5 : decode mb_Md_takesCord 5 = .ok (.ifCond .eq 15, 3) := by decide +kernel
theorem rd_Md_takesCord_8 : decode mb_Md_takesCord 8 = .ok (.aload_n 0, 1) := by decide +kernel
theorem rd_Md_takesCord_9 : decode mb_Md_takesCord 9 = .ok (.iconst 2, 1) := by decide +kernel
theorem rd_Md_takesCord_10 : decode mb_Md_takesCord 10 = .ok (.iconst 0, 1) := by decide +kernel
theorem rd_Md_takesCord_11 : decode mb_Md_takesCord 11 = .ok (.sipush 9999, 3) := by decide +kernel
theorem rd_Md_takesCord_14 : decode mb_Md_takesCord 14 = .ok (.invokevirtual 210, 3) := by decide +kernel
theorem rd_Md_takesCord_17 : decode mb_Md_takesCord 17 = .ok (.ifCond .ne 5, 3) := by decide +kernel
theorem rd_Md_takesCord_20 : decode mb_Md_takesCord 20 = .ok (.iconst 0, 1) := by decide +kernel
theorem rd_Md_takesCord_21 : decode mb_Md_takesCord 21 = .ok (.ireturn, 1) := by decide +kernel
theorem rd_Md_takesCord_22 : decode mb_Md_takesCord 22 = .ok (.aload_n 0, 1) := by decide +kernel
theorem rd_Md_takesCord_23 : decode mb_Md_takesCord 23 = .ok (.iload_n 1, 1) := by decide +kernel
theorem rd_Md_takesCord_24 : decode mb_Md_takesCord 24 = .ok (.aload_n 0, 1) := by decide +kernel
theorem rd_Md_takesCord_25 : decode mb_Md_takesCord 25 = .ok (.getfield 7, 3) := by decide +kernel
theorem rd_Md_takesCord_28 : decode mb_Md_takesCord 28 = .ok (.iconst 1, 1) := by decide +kernel
theorem rd_Md_takesCord_29 : decode mb_Md_takesCord 29 = .ok (.iaload, 1) := by decide +kernel
theorem rd_Md_takesCord_30 : decode mb_Md_takesCord 30 = .ok (.iconst 1, 1) := by decide +kernel
theorem rd_Md_takesCord_31 : decode mb_Md_takesCord 31 = .ok (.isub, 1) := by decide +kernel
theorem rd_Md_takesCord_32 : decode mb_Md_takesCord 32 = .ok (.iload_n 2, 1) := by decide +kernel
theorem rd_Md_takesCord_33 : decode mb_Md_takesCord 33 = .ok (.aload_n 0, 1) := by decide +kernel
theorem rd_Md_takesCord_34 : decode mb_Md_takesCord 34 = .ok (.getfield 29, 3) := by decide +kernel
theorem rd_Md_takesCord_37 : decode mb_Md_takesCord 37 = .ok (.iconst 1, 1) := by decide +kernel
theorem rd_Md_takesCord_38 : decode mb_Md_takesCord 38 = .ok (.iaload, 1) := by decide +kernel
theorem rd_Md_takesCord_39 : decode mb_Md_takesCord 39 = .ok (.aload_n 0, 1) := by decide +kernel
theorem rd_Md_takesCord_40 : decode mb_Md_takesCord 40 = .ok (.getfield 29, 3) := by decide +kernel
theorem rd_Md_takesCord_43 : decode mb_Md_takesCord 43 = .ok (.iconst 2, 1) := by decide +kernel
theorem rd_Md_takesCord_44 : decode mb_Md_takesCord 44 = .ok (.iaload, 1) := by decide +kernel
theorem rd_Md_takesCord_45 : decode mb_Md_takesCord 45 = .ok (.invokevirtual 48, 3) := by decide +kernel
theorem rd_Md_takesCord_48 : decode mb_Md_takesCord 48 = .ok (.istore_n 3, 1) := by decide +kernel
theorem rd_Md_takesCord_49 : decode mb_Md_takesCord 49 = .ok (.aload_n 0, 1) := by decide +kernel
theorem rd_Md_takesCord_50 : decode mb_Md_takesCord 50 = .ok (.ldc 213, 2) := by decide +kernel
theorem rd_Md_takesCord_52 : decode mb_Md_takesCord 52 = .ok (.invokevirtual 215, 3) := by decide +kernel
theorem rd_Md_takesCord_55 : decode mb_Md_takesCord 55 = .ok (.ifCond .eq 32, 3) := by decide +kernel
theorem rd_Md_takesCord_58 : decode mb_Md_takesCord 58 = .ok (.aload_n 0, 1) := by decide +kernel
theorem rd_Md_takesCord_59 : decode mb_Md_takesCord 59 = .ok (.invokevirtual 189, 3) := by decide +kernel
theorem rd_Md_takesCord_62 : decode mb_Md_takesCord 62 = .ok (.aload_n 0, 1) := by decide +kernel
theorem rd_Md_takesCord_63 : decode mb_Md_takesCord 63 = .ok (.iconst 0, 1) := by decide +kernel
theorem rd_Md_takesCord_64 : decode mb_Md_takesCord 64 = .ok (.iconst 1, 1) := by decide +kernel
theorem rd_Md_takesCord_65 : decode mb_Md_takesCord 65 = .ok (.iconst 4, 1) := by decide +kernel
theorem rd_Md_takesCord_66 : decode mb_Md_takesCord 66 = .ok (.invokevirtual 210, 3) := by decide +kernel
theorem rd_Md_takesCord_69 : decode mb_Md_takesCord 69 = .ok (.ifCond .ne 5, 3) := by decide +kernel
theorem rd_Md_takesCord_72 : decode mb_Md_takesCord 72 = .ok (.iconst 0, 1) := by decide +kernel
theorem rd_Md_takesCord_73 : decode mb_Md_takesCord 73 = .ok (.ireturn, 1) := by decide +kernel
theorem rd_Md_takesCord_74 : decode mb_Md_takesCord 74 = .ok (.aload_n 0, 1) := by decide +kernel
theorem rd_Md_takesCord_75 : decode mb_Md_takesCord 75 = .ok (.iload_n 3, 1) := by decide +kernel
theorem rd_Md_takesCord_76 : decode mb_Md_takesCord 76 = .ok (.aload_n 0, 1) := by decide +kernel
theorem rd_Md_takesCord_77 : decode mb_Md_takesCord 77 = .ok (.getfield 29, 3) := by decide +kernel
theorem rd_Md_takesCord_80 : decode mb_Md_takesCord 80 = .ok (.iconst 0, 1) := by decide +kernel
theorem rd_Md_takesCord_81 : decode mb_Md_takesCord 81 = .ok (.iaload, 1) := by decide +kernel
theorem rd_Md_takesCord_82 : decode mb_Md_takesCord 82 = .ok (.invokevirtual 52, 3) := by decide +kernel
theorem rd_Md_takesCord_85 : decode mb_Md_takesCord 85 = .ok (.istore 4, 2) := by decide +kernel
theorem rd_Md_takesCord_87 : decode mb_Md_takesCord 87 = .ok (.aload_n 0, 1) := by decide +kernel
theorem rd_Md_takesCord_88 : decode mb_Md_takesCord 88 = .ok (.invokevirtual 204, 3) := by decide +kernel
theorem rd_Md_takesCord_91 : decode mb_Md_takesCord 91 = .ok (.ireturn, 1) := by decide +kernel
theorem rd_Md_latest_0 : decode mb_Md_latest 0 = .ok (.iconst (-1), 1) := by decide +kernel
theorem rd_Md_latest_1 : decode mb_Md_latest 1 = .ok (.istore_n 2, 1) := by decide +kernel
theorem rd_Md_latest_2 : decode mb_Md_latest 2 = .ok (.aload_n 0, 1) := by decide +kernel
theorem rd_Md_latest_3 : decode mb_Md_latest 3 = .ok (.aload_n 0, 1) := by decide +kernel
theorem rd_Md_latest_4 : decode mb_Md_latest 4 = .ok (.getfield 7, 3) := by decide +kernel
theorem rd_Md_latest_7 : decode mb_Md_latest 7 = .ok (.iconst 1, 1) := by decide +kernel
theorem rd_Md_latest_8 : decode mb_Md_latest 8 = .ok (.iaload, 1) := by decide +kernel
theorem rd_Md_latest_9 : decode mb_Md_latest 9 = .ok (.iconst 1, 1) := by decide +kernel
theorem rd_Md_latest_10 : decode mb_Md_latest 10 = .ok (.isub, 1) := by decide +kernel
theorem rd_Md_latest_11 : decode mb_Md_latest 11 = .ok (.invokevirtual 91, 3) := by decide +kernel
theorem rd_Md_latest_14 : decode mb_Md_latest 14 = .ok (.istore_n 3, 1) := by decide +kernel
theorem rd_Md_latest_15 : decode mb_Md_latest 15 = .ok (.iload_n 3, 1) := by decide +kernel
theorem rd_Md_latest_16 : decode mb_Md_latest 16 = .ok (.aload_n 0, 1) := by decide +kernel
theorem rd_Md_latest_17 : decode mb_Md_latest 17 = .ok (.getfield 7, 3) := by decide +kernel
theorem rd_Md_latest_20 : decode mb_Md_latest 20 = .ok (.iconst 2, 1) := by decide +kernel
theorem rd_Md_latest_21 : decode mb_Md_latest 21 = .ok (.iaload, 1) := by decide +kernel
theorem rd_Md_latest_22 : decode mb_Md_latest 22 = .ok (.if_icmp .ge 21, 3) := by decide +kernel
theorem rd_Md_latest_25 : decode mb_Md_latest 25 = .ok (.aload_n 0, 1) := by decide +kernel
theorem rd_Md_latest_26 : decode mb_Md_latest 26 = .ok (.iload_n 3, 1) := by decide +kernel
theorem rd_Md_latest_27 : decode mb_Md_latest 27 = .ok (.iconst 1, 1) := by decide +kernel
theorem rd_Md_latest_28 : decode mb_Md_latest 28 = .ok (.invokevirtual 63, 3) := by decide +kernel
theorem rd_Md_latest_31 : decode mb_Md_latest 31 = .ok (.iload_n 1, 1) := by decide +kernel
theorem rd_Md_latest_32 : decode mb_Md_latest 32 = .ok (.if_icmp .ne 5, 3) := by decide +kernel
theorem rd_Md_latest_35 : decode mb_Md_latest 35 = .ok (.iload_n 3, 1) := by decide +kernel
theorem rd_Md_latest_36 : decode mb_Md_latest 36 = .ok (.istore_n 2, 1) := by decide +kernel
theorem rd_Md_latest_37 : decode mb_Md_latest 37 = .ok (.iinc 3 1, 3) := by decide +kernel
theorem rd_Md_latest_40 : decode mb_Md_latest 40 = .ok (.goto (-25), 3) := by decide +kernel
theorem rd_Md_latest_43 : decode mb_Md_latest 43 = .ok (.iload_n 2, 1) := by decide +kernel
theorem rd_Md_latest_44 : decode mb_Md_latest 44 = .ok (.ireturn, 1) := by decide +kernel
theorem rd_Md_readSub_0 : decode mb_Md_readSub 0 = .ok (.aload_n 0, 1) := by decide +kernel
theorem rd_Md_readSub_1 : decode mb_Md_readSub 1 = .ok (.invokevirtual 189, 3) := by decide +kernel
theorem rd_Md_readSub_4 : decode mb_Md_readSub 4 = .ok (.aload_n 0, 1) := by decide +kernel
theorem rd_Md_readSub_5 : decode mb_Md_readSub 5 = .ok (.iconst 2, 1) := by decide +kernel
theorem rd_Md_readSub_6 : decode mb_Md_readSub 6 = .ok (.iconst 3, 1) := by decide +kernel
theorem rd_Md_readSub_7 : decode mb_Md_readSub 7 = .ok (.invokevirtual 186, 3) := by decide +kernel
theorem rd_Md_readSub_10 : decode mb_Md_readSub 10 = .ok (.ifCond .ne 5, 3) := by decide +kernel
theorem rd_Md_readSub_13 : decode mb_Md_readSub 13 = .ok (.iconst 0, 1) := by decide +kernel
theorem rd_Md_readSub_14 : decode mb_Md_readSub 14 = .ok (.ireturn, 1) := by decide +kernel
theorem rd_Md_readSub_15 : decode mb_Md_readSub 15 = .ok (.aload_n 0, 1) := by decide +kernel
theorem rd_Md_readSub_16 : decode mb_Md_readSub 16 = .ok (.getfield 183, 3) := by decide +kernel
theorem rd_Md_readSub_19 : decode mb_Md_readSub 19 = .ok (.istore_n 1, 1) := by decide +kernel
theorem rd_Md_readSub_20 : decode mb_Md_readSub 20 = .ok (.aload_n 0, 1) := by decide +kernel
theorem rd_Md_readSub_21 : decode mb_Md_readSub 21 = .ok (.iload_n 1, 1) := by decide +kernel
theorem rd_Md_readSub_22 : decode mb_Md_readSub 22 = .ok (.iconst 1, 1) := by decide +kernel
theorem rd_Md_readSub_23 : decode mb_Md_readSub 23 = .ok (.isub, 1) := by decide +kernel
theorem rd_Md_readSub_24 : decode mb_Md_readSub 24 = .ok (.invokevirtual 219, 3) := by decide +kernel
theorem rd_Md_readSub_27 : decode mb_Md_readSub 27 = .ok (.istore_n 2, 1) := by decide +kernel
theorem rd_Md_readSub_28 : decode mb_Md_readSub 28 = .ok (.iload_n 2, 1) := by decide +kernel
theorem rd_Md_readSub_29 : decode mb_Md_readSub 29 = .ok (.iconst (-1), 1) := by decide +kernel
theorem rd_Md_readSub_30 : decode mb_Md_readSub 30 = .ok (.if_icmp .ne 9, 3) := by decide +kernel
theorem rd_Md_readSub_33 : decode mb_Md_readSub 33 = .ok (.aload_n 0, 1) := by decide +kernel
theorem rd_Md_readSub_34 : decode mb_Md_readSub 34 = .ok (.iconst 5, 1) := by decide +kernel
theorem rd_Md_readSub_35 : decode mb_Md_readSub 35 = .ok (.invokevirtual 180, 3) := by decide +kernel
theorem rd_Md_readSub_38 : decode mb_Md_readSub 38 = .ok (.ireturn, 1) := by decide +kernel
theorem rd_Md_readSub_39 : decode mb_Md_readSub 39 = .ok (.aload_n 0, 1) := by decide +kernel
theorem rd_Md_readSub_40 : decode mb_Md_readSub 40 = .ok (.invokevirtual 189, 3) := by decide +kernel
theorem rd_Md_readSub_43 : decode mb_Md_readSub 43 = .ok (.aload_n 0, 1) := by decide +kernel
theorem rd_Md_readSub_44 : decode mb_Md_readSub 44 = .ok (.aload_n 0, 1) := by decide +kernel
theorem rd_Md_readSub_45 : decode mb_Md_readSub 45 = .ok (.iload_n 2, 1) := by decide +kernel
theorem rd_Md_readSub_46 : decode mb_Md_readSub 46 = .ok (.invokevirtual 76, 3) := by decide +kernel
theorem rd_Md_readSub_49 : decode mb_Md_readSub 49 = .ok (.iload_n 1, 1) := by decide +kernel
theorem rd_Md_readSub_50 : decode mb_Md_readSub 50 = .ok (.invokevirtual 222, 3) := by decide +kernel
theorem rd_Md_readSub_53 : decode mb_Md_readSub 53 = .ok (.ireturn, 1) := by decide +kernel
theorem rd_Md_readCord_0 : decode mb_Md_readCord 0 = .ok (.aload_n 0, 1) := by decide +kernel
theorem rd_Md_readCord_1 : decode mb_Md_readCord 1 = .ok (.ldc 225, 2) := by decide +kernel
theorem rd_Md_readCord_3 : decode mb_Md_readCord 3 = .ok (.invokevirtual 215, 3) := by decide +kernel
theorem rd_Md_readCord_6 : decode mb_Md_readCord 6 = .ok (.istore_n 1, 1) := by decide +kernel
theorem rd_Md_readCord_7 : decode mb_Md_readCord 7 = .ok (.aload_n 0, 1) := by decide +kernel
theorem rd_Md_readCord_8 : decode mb_Md_readCord 8 = .ok (.getfield 7, 3) := by decide +kernel
theorem rd_Md_readCord_11 : decode mb_Md_readCord 11 = .ok (.iconst 1, 1) := by decide +kernel
theorem rd_Md_readCord_12 : decode mb_Md_readCord 12 = .ok (.iaload, 1) := by decide +kernel
theorem rd_Md_readCord_13 : decode mb_Md_readCord 13 = .ok (.ifCond .eq 22, 3) := by decide +kernel
theorem rd_Md_readCord_16 : decode mb_Md_readCord 16 = .ok (.iload_n 1, 1) := by decide +kernel
theorem rd_Md_readCord_17 : decode mb_Md_readCord 17 = .ok (.ifCond .eq 24, 3) := by decide +kernel
theorem rd_Md_readCord_20 : decode mb_Md_readCord 20 = .ok (.aload_n 0, 1) := by decide +kernel
theorem rd_Md_readCord_21 : decode mb_Md_readCord 21 = .ok (.aload_n 0, 1) := by decide +kernel
theorem rd_Md_readCord_22 : decode mb_Md_readCord 22 = .ok (.getfield 7, 3) := by decide +kernel
theorem rd_Md_readCord_25 : decode mb_Md_readCord 25 = .ok (.iconst 1, 1) := by decide +kernel
theorem rd_Md_readCord_26 : decode mb_Md_readCord 26 = .ok (.iaload, 1) := by decide +kernel
theorem rd_Md_readCord_27 : decode mb_Md_readCord 27 = .ok (.iconst 1, 1) := by decide +kernel
theorem rd_Md_readCord_28 : decode mb_Md_readCord 28 = .ok (.isub, 1) := by decide +kernel
theorem rd_Md_readCord_29 : decode mb_Md_readCord 29 = .ok (.invokevirtual 97, 3) := by decide +kernel
theorem rd_Md_readCord_32 : decode mb_Md_readCord 32 = .ok (.ifCond .eq 9, 3) := by decide +kernel
theorem rd_Md_readCord_35 : decode mb_Md_readCord 35 = .ok (.aload_n 0, 1) := by decide +kernel
theorem rd_Md_readCord_36 : decode mb_Md_readCord 36 = .ok (.iconst 5, 1) := by decide +kernel
theorem rd_Md_readCord_37 : decode mb_Md_readCord 37 = .ok (.invokevirtual 180, 3) := by decide +kernel
theorem rd_Md_readCord_40 : decode mb_Md_readCord 40 = .ok (.ireturn, 1) := by decide +kernel
theorem rd_Md_readCord_41 : decode mb_Md_readCord 41 = .ok (.aload_n 0, 1) := by decide +kernel
theorem rd_Md_readCord_42 : decode mb_Md_readCord 42 = .ok (.invokevirtual 122, 3) := by decide +kernel
theorem rd_Md_readCord_45 : decode mb_Md_readCord 45 = .ok (.ifCond .ne 10, 3) := by decide +kernel
theorem rd_Md_readCord_48 : decode mb_Md_readCord 48 = .ok (.aload_n 0, 1) := by decide +kernel
theorem rd_Md_readCord_49 : decode mb_Md_readCord 49 = .ok (.bipush 6, 2) := by decide +kernel
theorem rd_Md_readCord_51 : decode mb_Md_readCord 51 = .ok (.invokevirtual 180, 3) := by decide +kernel
theorem rd_Md_readCord_54 : decode mb_Md_readCord 54 = .ok (.ireturn, 1) := by decide +kernel
theorem rd_Md_readCord_55 : decode mb_Md_readCord 55 = .ok (.aload_n 0, 1) := by decide +kernel
theorem rd_Md_readCord_56 : decode mb_Md_readCord 56 = .ok (.ldc 227, 2) := by decide +kernel
theorem rd_Md_readCord_58 : decode mb_Md_readCord 58 = .ok (.invokevirtual 215, 3) := by decide +kernel
theorem rd_Md_readCord_61 : decode mb_Md_readCord 61 = .ok (.ifCond .eq 8, 3) := by decide +kernel
theorem rd_Md_readCord_64 : decode mb_Md_readCord 64 = .ok (.aload_n 0, 1) := by decide +kernel
theorem rd_Md_readCord_65 : decode mb_Md_readCord 65 = .ok (.invokevirtual 229, 3) := by decide +kernel
theorem rd_Md_readCord_68 : decode mb_Md_readCord 68 = .ok (.ireturn, 1) := by decide +kernel
theorem rd_Md_readCord_69 : decode mb_Md_readCord 69 = .ok (.aload_n 0, 1) := by decide +kernel
theorem rd_Md_readCord_70 : decode mb_Md_readCord 70 = .ok (.invokevirtual 189, 3) := by decide +kernel
theorem rd_Md_readCord_73 : decode mb_Md_readCord 73 = .ok (.iload_n 1, 1) := by decide +kernel
theorem rd_Md_readCord_74 : decode mb_Md_readCord 74 = .ok (.ifCond .eq 23, 3) := by decide +kernel
theorem rd_Md_readCord_77 : decode mb_Md_readCord 77 = .ok (.aload_n 0, 1) := by decide +kernel
theorem rd_Md_readCord_78 : decode mb_Md_readCord 78 = .ok (.aload_n 0, 1) := by decide +kernel
theorem rd_Md_readCord_79 : decode mb_Md_readCord 79 = .ok (.aload_n 0, 1) := by decide +kernel
theorem rd_Md_readCord_80 : decode mb_Md_readCord 80 = .ok (.getfield 7, 3) := by decide +kernel
theorem rd_Md_readCord_83 : decode mb_Md_readCord 83 = .ok (.iconst 1, 1) := by decide +kernel
theorem rd_Md_readCord_84 : decode mb_Md_readCord 84 = .ok (.iaload, 1) := by decide +kernel
theorem rd_Md_readCord_85 : decode mb_Md_readCord 85 = .ok (.iconst 1, 1) := by decide +kernel
theorem rd_Md_readCord_86 : decode mb_Md_readCord 86 = .ok (.isub, 1) := by decide +kernel
theorem rd_Md_readCord_87 : decode mb_Md_readCord 87 = .ok (.invokevirtual 91, 3) := by decide +kernel
theorem rd_Md_readCord_90 : decode mb_Md_readCord 90 = .ok (.iconst 0, 1) := by decide +kernel
theorem rd_Md_readCord_91 : decode mb_Md_readCord 91 = .ok (.invokevirtual 222, 3) := by decide +kernel
theorem rd_Md_readCord_94 : decode mb_Md_readCord 94 = .ok (.goto 14, 3) := by decide +kernel
theorem rd_Md_readCord_97 : decode mb_Md_readCord 97 = .ok (.aload_n 0, 1) := by decide +kernel
theorem rd_Md_readCord_98 : decode mb_Md_readCord 98 = .ok (.aload_n 0, 1) := by decide +kernel
theorem rd_Md_readCord_99 : decode mb_Md_readCord 99 = .ok (.getfield 7, 3) := by decide +kernel
theorem rd_Md_readCord_102 : decode mb_Md_readCord 102 = .ok (.iconst 2, 1) := by decide +kernel
theorem rd_Md_readCord_103 : decode mb_Md_readCord 103 = .ok (.iaload, 1) := by decide +kernel
theorem rd_Md_readCord_104 : decode mb_Md_readCord 104 = .ok (.iconst 1, 1) := by decide +kernel
theorem rd_Md_readCord_105 : decode mb_Md_readCord 105 = .ok (.invokevirtual 222, 3) := by decide +kernel
theorem rd_Md_readCord_108 : decode mb_Md_readCord 108 = .ok (.ireturn, 1) := by decide +kernel
theorem rd_Md_readSetupStatement_0 : decode mb_Md_readSetupStatement 0 = .ok (.aload_n 0, 1) := by decide +kernel
theorem rd_Md_readSetupStatement_1 : decode mb_Md_readSetupStatement 1 = .ok (.ldc 232, 2) := by decide +kernel
theorem rd_Md_readSetupStatement_3 : decode mb_Md_readSetupStatement 3 = .ok (.invokevirtual 215, 3) := by decide +kernel
theorem rd_Md_readSetupStatement_6 : decode mb_Md_readSetupStatement 6 = .ok (.ifCond .eq 8, 3) := by decide +kernel
theorem rd_Md_readSetupStatement_9 : decode mb_Md_readSetupStatement 9 = .ok (.aload_n 0, 1) := by decide +kernel
theorem rd_Md_readSetupStatement_10 : decode mb_Md_readSetupStatement 10 = .ok (.invokevirtual 234, 3) := by decide +kernel
theorem rd_Md_readSetupStatement_13 : decode mb_Md_readSetupStatement 13 = .ok (.ireturn, 1) := by decide +kernel
theorem rd_Md_readSetupStatement_14 : decode mb_Md_readSetupStatement 14 = .ok (.aload_n 0, 1) := by decide +kernel
theorem rd_Md_readSetupStatement_15 : decode mb_Md_readSetupStatement 15 = .ok (.ldc 237, 2) := by decide +kernel
theorem rd_Md_readSetupStatement_17 : decode mb_Md_readSetupStatement 17 = .ok (.invokevirtual 215, 3) := by decide +kernel
theorem rd_Md_readSetupStatement_20 : decode mb_Md_readSetupStatement 20 = .ok (.ifCond .eq 8, 3) := by decide +kernel
theorem rd_Md_readSetupStatement_23 : decode mb_Md_readSetupStatement 23 = .ok (.aload_n 0, 1) := by decide +kernel
theorem rd_Md_readSetupStatement_24 : decode mb_Md_readSetupStatement 24 = .ok (.invokevirtual 239, 3) := by decide +kernel
theorem rd_Md_readSetupStatement_27 : decode mb_Md_readSetupStatement 27 = .ok (.ireturn, 1) := by decide +kernel
theorem rd_Md_readSetupStatement_28 : decode mb_Md_readSetupStatement 28 = .ok (.aload_n 0, 1) := by decide +kernel
theorem rd_Md_readSetupStatement_29 : decode mb_Md_readSetupStatement 29 = .ok (.ldc 225, 2) := by decide +kernel
theorem rd_Md_readSetupStatement_31 : decode mb_Md_readSetupStatement 31 = .ok (.invokevirtual 215, 3) := by decide +kernel
theorem rd_Md_readSetupStatement_34 : decode mb_Md_readSetupStatement 34 = .ok (.ifCond .ne 21, 3) := by decide +kernel
theorem rd_Md_readSetupStatement_37 : decode mb_Md_readSetupStatement 37 = .ok (.aload_n 0, 1) := by decide +kernel
theorem rd_Md_readSetupStatement_38 : decode mb_Md_readSetupStatement 38 = .ok (.ldc 242, 2) := by decide +kernel
theorem rd_Md_readSetupStatement_40 : decode mb_Md_readSetupStatement 40 = .ok (.invokevirtual 215, 3) := by decide +kernel
theorem rd_Md_readSetupStatement_43 : decode mb_Md_readSetupStatement 43 = .ok (.ifCond .ne 12, 3) := by decide +kernel
theorem rd_Md_readSetupStatement_46 : decode mb_Md_readSetupStatement 46 = .ok (.aload_n 0, 1) := by decide +kernel
theorem rd_Md_readSetupStatement_47 : decode mb_Md_readSetupStatement 47 = .ok (.ldc 227, 2) := by decide +kernel
theorem rd_Md_readSetupStatement_49 : decode mb_Md_readSetupStatement 49 = .ok (.invokevirtual 215, 3) := by decide +kernel
theorem rd_Md_readSetupStatement_52 : decode mb_Md_readSetupStatement 52 = .ok (.ifCond .eq 10, 3) := by decide +kernel
theorem rd_Md_readSetupStatement_55 : decode mb_Md_readSetupStatement 55 = .ok (.aload_n 0, 1) := by decide +kernel
theorem rd_Md_readSetupStatement_56 : decode mb_Md_readSetupStatement 56 = .ok (.invokevirtual 244, 3) := by decide +kernel
theorem rd_Md_readSetupStatement_59 : decode mb_Md_readSetupStatement 59 = .ok (.goto 8, 3) := by decide +kernel
theorem rd_Md_readSetupStatement_62 : decode mb_Md_readSetupStatement 62 = .ok (.aload_n 0, 1) := by decide +kernel
theorem rd_Md_readSetupStatement_63 : decode mb_Md_readSetupStatement 63 = .ok (.iconst 1, 1) := by decide +kernel
theorem rd_Md_readSetupStatement_64 : decode mb_Md_readSetupStatement 64 = .ok (.invokevirtual 180, 3) := by decide +kernel
theorem rd_Md_readSetupStatement_67 : decode mb_Md_readSetupStatement 67 = .ok (.ireturn, 1) := by decide +kernel
theorem rd_Md_readText_0 : decode mb_Md_readText 0 = .ok (.aload_n 0, 1) := by decide +kernel
theorem rd_Md_readText_1 : decode mb_Md_readText 1 = .ok (.invokevirtual 41, 3) := by decide +kernel
theorem rd_Md_readText_4 : decode mb_Md_readText 4 = .ok (.aload_n 0, 1) := by decide +kernel
theorem rd_Md_readText_5 : decode mb_Md_readText 5 = .ok (.getfield 158, 3) := by decide +kernel
theorem rd_Md_readText_8 : decode mb_Md_readText 8 = .ok (.ifCond .eq 12, 3) := by decide +kernel
theorem rd_Md_readText_11 : decode mb_Md_readText 11 = .ok (.aload_n 0, 1) := by decide +kernel
theorem rd_Md_readText_12 : decode mb_Md_readText 12 = .ok (.invokevirtual 247, 3) := by decide +kernel
theorem rd_Md_readText_15 : decode mb_Md_readText 15 = .ok (.ifCond .ne (-11), 3) := by decide +kernel
theorem rd_Md_readText_18 : decode mb_Md_readText 18 = .ok (.iconst 0, 1) := by decide +kernel
theorem rd_Md_readText_19 : decode mb_Md_readText 19 = .ok (.ireturn, 1) := by decide +kernel
theorem rd_Md_readText_20 : decode mb_Md_readText 20 = .ok (.aload_n 0, 1) := by decide +kernel
theorem rd_Md_readText_21 : decode mb_Md_readText 21 = .ok (.getfield 7, 3) := by decide +kernel
theorem rd_Md_readText_24 : decode mb_Md_readText 24 = .ok (.iconst 0, 1) := by decide +kernel
theorem rd_Md_readText_25 : decode mb_Md_readText 25 = .ok (.iaload, 1) := by decide +kernel
theorem rd_Md_readText_26 : decode mb_Md_readText 26 = .ok (.ifCond .gt 12, 3) := by decide +kernel
theorem rd_Md_readText_29 : decode mb_Md_readText 29 = .ok (.aload_n 0, 1) := by decide +kernel
theorem rd_Md_readText_30 : decode mb_Md_readText 30 = .ok (.bipush 7, 2) := by decide +kernel
theorem rd_Md_readText_32 : decode mb_Md_readText 32 = .ok (.invokevirtual 180, 3) := by decide +kernel
theorem rd_Md_readText_35 : decode mb_Md_readText 35 = .ok (.ifCond .eq 7, 3) := by decide +kernel
theorem rd_Md_readText_38 : decode mb_Md_readText 38 = .ok (.iconst 1, 1) := by decide +kernel
theorem rd_Md_readText_39 : decode mb_Md_readText 39 = .ok (.goto 4, 3) := by decide +kernel
theorem rd_Md_readText_42 : decode mb_Md_readText 42 = .ok (.iconst 0, 1) := by decide +kernel
theorem rd_Md_readText_43 : decode mb_Md_readText 43 = .ok (.ireturn, 1) := by decide +kernel
theorem rd_Md_startsText_0 : decode mb_Md_startsText 0 = .ok (.aload_n 0, 1) := by decide +kernel
theorem rd_Md_startsText_1 : decode mb_Md_startsText 1 = .ok (.iconst 0, 1) := by decide +kernel
theorem rd_Md_startsText_2 : decode mb_Md_startsText 2 = .ok (.putfield 164, 3) := by decide +kernel
theorem rd_Md_startsText_5 : decode mb_Md_startsText 5 = .ok (.aload_n 0, 1) := by decide +kernel
theorem rd_Md_startsText_6 : decode mb_Md_startsText 6 = .ok (.iconst (-1), 1) := by decide +kernel
theorem rd_Md_startsText_7 : decode mb_Md_startsText 7 = .ok (.putfield 167, 3) := by decide +kernel
theorem rd_Md_startsText_10 : decode mb_Md_startsText 10 = .ok (.aload_n 0, 1) := by decide +kernel
theorem rd_Md_startsText_11 : decode mb_Md_startsText 11 = .ok (.iconst 0, 1) := by decide +kernel
theorem rd_Md_startsText_12 : decode mb_Md_startsText 12 = .ok (.putfield 250, 3) := by decide +kernel
theorem rd_Md_startsText_15 : decode mb_Md_startsText 15 = .ok (.aload_n 0, 1) := by decide +kernel
theorem rd_Md_startsText_16 : decode mb_Md_startsText 16 = .ok (.iconst 0, 1) := by decide +kernel
theorem rd_Md_startsText_17 : decode mb_Md_startsText 17 = .ok (.putfield 149, 3) := by decide +kernel
theorem rd_Md_startsText_20 : decode mb_Md_startsText 20 = .ok (.aload_n 0, 1) := by decide +kernel
theorem rd_Md_startsText_21 : decode mb_Md_startsText 21 = .ok (.invokevirtual 189, 3) := by decide +kernel
theorem rd_Md_startsText_24 : decode mb_Md_startsText 24 = .ok (.return_, 1) := by decide +kernel
theorem rd_Md_endsText_0 : decode mb_Md_endsText 0 = .ok (.aload_n 0, 1) := by decide +kernel
theorem rd_Md_endsText_1 : decode mb_Md_endsText 1 = .ok (.iconst 0, 1) := by decide +kernel
theorem rd_Md_endsText_2 : decode mb_Md_endsText 2 = .ok (.putfield 139, 3) := by decide +kernel
theorem rd_Md_endsText_5 : decode mb_Md_endsText 5 = .ok (.aload_n 0, 1) := by decide +kernel
theorem rd_Md_endsText_6 : decode mb_Md_endsText 6 = .ok (.aload_n 0, 1) := by decide +kernel
theorem rd_Md_endsText_7 : decode mb_Md_endsText 7 = .ok (.getfield 164, 3) := by decide +kernel
theorem rd_Md_endsText_10 : decode mb_Md_endsText 10 = .ok (.putfield 253, 3) := by decide +kernel
theorem rd_Md_endsText_13 : decode mb_Md_endsText 13 = .ok (.aload_n 0, 1) := by decide +kernel
theorem rd_Md_endsText_14 : decode mb_Md_endsText 14 = .ok (.aload_n 0, 1) := by decide +kernel
theorem rd_Md_endsText_15 : decode mb_Md_endsText 15 = .ok (.getfield 167, 3) := by decide +kernel
theorem rd_Md_endsText_18 : decode mb_Md_endsText 18 = .ok (.putfield 25, 3) := by decide +kernel
theorem rd_Md_endsText_21 : decode mb_Md_endsText 21 = .ok (.return_, 1) := by decide +kernel
theorem rd_Md_loadCords_0 : decode mb_Md_loadCords 0 = .ok (.aload_n 0, 1) := by decide +kernel
theorem rd_Md_loadCords_1 : decode mb_Md_loadCords 1 = .ok (.iconst 0, 1) := by decide +kernel
theorem rd_Md_loadCords_2 : decode mb_Md_loadCords 2 = .ok (.putfield 56, 3) := by decide +kernel
theorem rd_Md_loadCords_5 : decode mb_Md_loadCords 5 = .ok (.aload_n 0, 1) := by decide +kernel
theorem rd_Md_loadCords_6 : decode mb_Md_loadCords 6 = .ok (.getfield 7, 3) := by decide +kernel
theorem rd_Md_loadCords_9 : decode mb_Md_loadCords 9 = .ok (.iconst 0, 1) := by decide +kernel
theorem rd_Md_loadCords_10 : decode mb_Md_loadCords 10 = .ok (.aload_n 0, 1) := by decide +kernel
theorem rd_Md_loadCords_11 : decode mb_Md_loadCords 11 = .ok (.getfield 13, 3) := by decide +kernel
theorem rd_Md_loadCords_14 : decode mb_Md_loadCords 14 = .ok (.iconst 0, 1) := by decide +kernel
theorem rd_Md_loadCords_15 : decode mb_Md_loadCords 15 = .ok (.invokestatic 135, 3) := by decide +kernel
theorem rd_Md_loadCords_18 : decode mb_Md_loadCords 18 = .ok (.aload_n 0, 1) := by decide +kernel
theorem rd_Md_loadCords_19 : decode mb_Md_loadCords 19 = .ok (.invokevirtual 256, 3) := by decide +kernel
theorem rd_Md_loadCords_22 : decode mb_Md_loadCords 22 = .ok (.aload_n 0, 1) := by decide +kernel
theorem rd_Md_loadCords_23 : decode mb_Md_loadCords 23 = .ok (.invokevirtual 259, 3) := by decide +kernel
theorem rd_Md_loadCords_26 : decode mb_Md_loadCords 26 = .ok (.istore_n 1, 1) := by decide +kernel
theorem rd_Md_loadCords_27 : decode mb_Md_loadCords 27 = .ok (.aload_n 0, 1) := by decide +kernel
theorem rd_Md_loadCords_28 : decode mb_Md_loadCords 28 = .ok (.invokevirtual 262, 3) := by decide +kernel
theorem rd_Md_loadCords_31 : decode mb_Md_loadCords 31 = .ok (.iload_n 1, 1) := by decide +kernel
theorem rd_Md_loadCords_32 : decode mb_Md_loadCords 32 = .ok (.ifCond .ne 18, 3) := by decide +kernel
theorem rd_Md_loadCords_35 : decode mb_Md_loadCords 35 = .ok (.aload_n 0, 1) := by decide +kernel
theorem rd_Md_loadCords_36 : decode mb_Md_loadCords 36 = .ok (.getfield 13, 3) := by decide +kernel
theorem rd_Md_loadCords_39 : decode mb_Md_loadCords 39 = .ok (.iconst 0, 1) := by decide +kernel
theorem rd_Md_loadCords_40 : decode mb_Md_loadCords 40 = .ok (.aload_n 0, 1) := by decide +kernel
theorem rd_Md_loadCords_41 : decode mb_Md_loadCords 41 = .ok (.getfield 7, 3) := by decide +kernel
theorem rd_Md_loadCords_44 : decode mb_Md_loadCords 44 = .ok (.iconst 0, 1) := by decide +kernel
theorem rd_Md_loadCords_45 : decode mb_Md_loadCords 45 = .ok (.invokestatic 135, 3) := by decide +kernel
theorem rd_Md_loadCords_48 : decode mb_Md_loadCords 48 = .ok (.iconst (-1), 1) := by decide +kernel
theorem rd_Md_loadCords_49 : decode mb_Md_loadCords 49 = .ok (.ireturn, 1) := by decide +kernel
theorem rd_Md_loadCords_50 : decode mb_Md_loadCords 50 = .ok (.aload_n 0, 1) := by decide +kernel
theorem rd_Md_loadCords_51 : decode mb_Md_loadCords 51 = .ok (.iconst 0, 1) := by decide +kernel
theorem rd_Md_loadCords_52 : decode mb_Md_loadCords 52 = .ok (.putfield 132, 3) := by decide +kernel
theorem rd_Md_loadCords_55 : decode mb_Md_loadCords 55 = .ok (.aload_n 0, 1) := by decide +kernel
theorem rd_Md_loadCords_56 : decode mb_Md_loadCords 56 = .ok (.iconst 0, 1) := by decide +kernel
theorem rd_Md_loadCords_57 : decode mb_Md_loadCords 57 = .ok (.putfield 265, 3) := by decide +kernel
theorem rd_Md_loadCords_60 : decode mb_Md_loadCords 60 = .ok (.aload_n 0, 1) := by decide +kernel
theorem rd_Md_loadCords_61 : decode mb_Md_loadCords 61 = .ok (.getfield 7, 3) := by decide +kernel
theorem rd_Md_loadCords_64 : decode mb_Md_loadCords 64 = .ok (.iconst 2, 1) := by decide +kernel
theorem rd_Md_loadCords_65 : decode mb_Md_loadCords 65 = .ok (.iaload, 1) := by decide +kernel
theorem rd_Md_loadCords_66 : decode mb_Md_loadCords 66 = .ok (.ireturn, 1) := by decide +kernel
theorem rd_Md_scriptHere_0 : decode mb_Md_scriptHere 0 = .ok (.aload_n 0, 1) := by decide +kernel
theorem rd_Md_scriptHere_1 : decode mb_Md_scriptHere 1 = .ok (.ldc 237, 2) := by decide +kernel
theorem rd_Md_scriptHere_3 : decode mb_Md_scriptHere 3 = .ok (.invokevirtual 215, 3) := by decide +kernel
theorem rd_Md_scriptHere_6 : decode mb_Md_scriptHere 6 = .ok (.ifCond .eq 5, 3) := by decide +kernel
theorem rd_Md_scriptHere_9 : decode mb_Md_scriptHere 9 = .ok (.iconst 1, 1) := by decide +kernel
theorem rd_Md_scriptHere_10 : decode mb_Md_scriptHere 10 = .ok (.ireturn, 1) := by decide +kernel
theorem rd_Md_scriptHere_11 : decode mb_Md_scriptHere 11 = .ok (.aload_n 0, 1) := by decide +kernel
theorem rd_Md_scriptHere_12 : decode mb_Md_scriptHere 12 = .ok (.ldc 242, 2) := by decide +kernel
theorem rd_Md_scriptHere_14 : decode mb_Md_scriptHere 14 = .ok (.invokevirtual 215, 3) := by decide +kernel
theorem rd_Md_scriptHere_17 : decode mb_Md_scriptHere 17 = .ok (.ifCond .eq 5, 3) := by decide +kernel
theorem rd_Md_scriptHere_20 : decode mb_Md_scriptHere 20 = .ok (.iconst 2, 1) := by decide +kernel
theorem rd_Md_scriptHere_21 : decode mb_Md_scriptHere 21 = .ok (.ireturn, 1) := by decide +kernel
theorem rd_Md_scriptHere_22 : decode mb_Md_scriptHere 22 = .ok (.aload_n 0, 1) := by decide +kernel
theorem rd_Md_scriptHere_23 : decode mb_Md_scriptHere 23 = .ok (.ldc 227, 2) := by decide +kernel
theorem rd_Md_scriptHere_25 : decode mb_Md_scriptHere 25 = .ok (.invokevirtual 215, 3) := by decide +kernel
theorem rd_Md_scriptHere_28 : decode mb_Md_scriptHere 28 = .ok (.ifCond .eq 5, 3) := by decide +kernel
theorem rd_Md_scriptHere_31 : decode mb_Md_scriptHere 31 = .ok (.iconst 3, 1) := by decide +kernel
theorem rd_Md_scriptHere_32 : decode mb_Md_scriptHere 32 = .ok (.ireturn, 1) := by decide +kernel
theorem rd_Md_scriptHere_33 : decode mb_Md_scriptHere 33 = .ok (.aload_n 0, 1) := by decide +kernel
theorem rd_Md_scriptHere_34 : decode mb_Md_scriptHere 34 = .ok (.ldc_w 269, 3) := by decide +kernel
theorem rd_Md_scriptHere_37 : decode mb_Md_scriptHere 37 = .ok (.invokevirtual 215, 3) := by decide +kernel
theorem rd_Md_scriptHere_40 : decode mb_Md_scriptHere 40 = .ok (.ifCond .eq 5, 3) := by decide +kernel
theorem rd_Md_scriptHere_43 : decode mb_Md_scriptHere 43 = .ok (.iconst 4, 1) := by decide +kernel
theorem rd_Md_scriptHere_44 : decode mb_Md_scriptHere 44 = .ok (.ireturn, 1) := by decide +kernel
theorem rd_Md_scriptHere_45 : decode mb_Md_scriptHere 45 = .ok (.aload_n 0, 1) := by decide +kernel
theorem rd_Md_scriptHere_46 : decode mb_Md_scriptHere 46 = .ok (.ldc_w 271, 3) := by decide +kernel
theorem rd_Md_scriptHere_49 : decode mb_Md_scriptHere 49 = .ok (.invokevirtual 215, 3) := by decide +kernel
theorem rd_Md_scriptHere_52 : decode mb_Md_scriptHere 52 = .ok (.ifCond .eq 5, 3) := by decide +kernel
theorem rd_Md_scriptHere_55 : decode mb_Md_scriptHere 55 = .ok (.iconst 5, 1) := by decide +kernel
theorem rd_Md_scriptHere_56 : decode mb_Md_scriptHere 56 = .ok (.ireturn, 1) := by decide +kernel
theorem rd_Md_scriptHere_57 : decode mb_Md_scriptHere 57 = .ok (.aload_n 0, 1) := by decide +kernel
theorem rd_Md_scriptHere_58 : decode mb_Md_scriptHere 58 = .ok (.ldc_w 273, 3) := by decide +kernel
theorem rd_Md_scriptHere_61 : decode mb_Md_scriptHere 61 = .ok (.invokevirtual 215, 3) := by decide +kernel
theorem rd_Md_scriptHere_64 : decode mb_Md_scriptHere 64 = .ok (.ifCond .eq 6, 3) := by decide +kernel
theorem rd_Md_scriptHere_67 : decode mb_Md_scriptHere 67 = .ok (.bipush 6, 2) := by decide +kernel
theorem rd_Md_scriptHere_69 : decode mb_Md_scriptHere 69 = .ok (.ireturn, 1) := by decide +kernel
theorem rd_Md_scriptHere_70 : decode mb_Md_scriptHere 70 = .ok (.aload_n 0, 1) := by decide +kernel
theorem rd_Md_scriptHere_71 : decode mb_Md_scriptHere 71 = .ok (.ldc_w 275, 3) := by decide +kernel
theorem rd_Md_scriptHere_74 : decode mb_Md_scriptHere 74 = .ok (.invokevirtual 215, 3) := by decide +kernel
theorem rd_Md_scriptHere_77 : decode mb_Md_scriptHere 77 = .ok (.ifCond .eq 6, 3) := by decide +kernel
theorem rd_Md_scriptHere_80 : decode mb_Md_scriptHere 80 = .ok (.bipush 7, 2) := by decide +kernel
theorem rd_Md_scriptHere_82 : decode mb_Md_scriptHere 82 = .ok (.ireturn, 1) := by decide +kernel
theorem rd_Md_scriptHere_83 : decode mb_Md_scriptHere 83 = .ok (.aload_n 0, 1) := by decide +kernel
theorem rd_Md_scriptHere_84 : decode mb_Md_scriptHere 84 = .ok (.ldc_w 277, 3) := by decide +kernel
theorem rd_Md_scriptHere_87 : decode mb_Md_scriptHere 87 = .ok (.invokevirtual 215, 3) := by decide +kernel
theorem rd_Md_scriptHere_90 : decode mb_Md_scriptHere 90 = .ok (.ifCond .eq 6, 3) := by decide +kernel
theorem rd_Md_scriptHere_93 : decode mb_Md_scriptHere 93 = .ok (.bipush 8, 2) := by decide +kernel
theorem rd_Md_scriptHere_95 : decode mb_Md_scriptHere 95 = .ok (.ireturn, 1) := by decide +kernel
theorem rd_Md_scriptHere_96 : decode mb_Md_scriptHere 96 = .ok (.aload_n 0, 1) := by decide +kernel
theorem rd_Md_scriptHere_97 : decode mb_Md_scriptHere 97 = .ok (.ldc_w 279, 3) := by decide +kernel
theorem rd_Md_scriptHere_100 : decode mb_Md_scriptHere 100 = .ok (.invokevirtual 215, 3) := by decide +kernel
theorem rd_Md_scriptHere_103 : decode mb_Md_scriptHere 103 = .ok (.ifCond .eq 8, 3) := by decide +kernel
theorem rd_Md_scriptHere_106 : decode mb_Md_scriptHere 106 = .ok (.bipush 9, 2) := by decide +kernel
theorem rd_Md_scriptHere_108 : decode mb_Md_scriptHere 108 = .ok (.goto 4, 3) := by decide +kernel
theorem rd_Md_scriptHere_111 : decode mb_Md_scriptHere 111 = .ok (.iconst 0, 1) := by decide +kernel
theorem rd_Md_scriptHere_112 : decode mb_Md_scriptHere 112 = .ok (.ireturn, 1) := by decide +kernel
theorem rd_Md_takesCluster_0 : decode mb_Md_takesCluster 0 = .ok (.aload_n 0, 1) := by decide +kernel
theorem rd_Md_takesCluster_1 : decode mb_Md_takesCluster 1 = .ok (.iconst 0, 1) := by decide +kernel
theorem rd_Md_takesCluster_2 : decode mb_Md_takesCluster 2 = .ok (.iconst 0, 1) := by decide +kernel
theorem rd_Md_takesCluster_3 : decode mb_Md_takesCluster 3 = .ok (.iconst 5, 1) := by decide +kernel
theorem rd_Md_takesCluster_4 : decode mb_Md_takesCluster 4 = .ok (.invokevirtual 210, 3) := by decide +kernel
theorem rd_Md_takesCluster_7 : decode mb_Md_takesCluster 7 = .ok (.ireturn, 1) := by decide +kernel
theorem rd_Md_takesCordNumber_0 : decode mb_Md_takesCordNumber 0 = .ok (.aload_n 0, 1) := by decide +kernel
theorem rd_Md_takesCordNumber_1 : decode mb_Md_takesCordNumber 1 = .ok (.iconst 0, 1) := by decide +kernel
theorem rd_Md_takesCordNumber_2 : decode mb_Md_takesCordNumber 2 = .ok (.iconst 0, 1) := by decide +kernel
theorem rd_Md_takesCordNumber_3 : decode mb_Md_takesCordNumber 3 = .ok (.bipush 39, 2) := by decide +kernel
theorem rd_Md_takesCordNumber_5 : decode mb_Md_takesCordNumber 5 = .ok (.invokevirtual 210, 3) := by decide +kernel
theorem rd_Md_takesCordNumber_8 : decode mb_Md_takesCordNumber 8 = .ok (.ireturn, 1) := by decide +kernel
theorem rd_Md_takesRest_0 : decode mb_Md_takesRest 0 = .ok (.aload_n 0, 1) := by decide +kernel
theorem rd_Md_takesRest_1 : decode mb_Md_takesRest 1 = .ok (.invokevirtual 189, 3) := by decide +kernel
theorem rd_Md_takesRest_4 : decode mb_Md_takesRest 4 = .ok (.iload_n 1, 1) := by decide +kernel
theorem rd_Md_takesRest_5 : decode mb_Md_takesRest 5 = .ok (.tableswitch 219 1 8 #[47, 49, 82, 115, 120, 141, 175, 198], 47) := by decide +kernel
theorem rd_Md_takesRest_52 : decode mb_Md_takesRest 52 = .ok (.iconst 1, 1) := by decide +kernel
theorem rd_Md_takesRest_53 : decode mb_Md_takesRest 53 = .ok (.ireturn, 1) := by decide +kernel
theorem rd_Md_takesRest_54 : decode mb_Md_takesRest 54 = .ok (.aload_n 0, 1) := by decide +kernel
theorem rd_Md_takesRest_55 : decode mb_Md_takesRest 55 = .ok (.invokevirtual 281, 3) := by decide +kernel
theorem rd_Md_takesRest_58 : decode mb_Md_takesRest 58 = .ok (.ifCond .eq 27, 3) := by decide +kernel
theorem rd_Md_takesRest_61 : decode mb_Md_takesRest 61 = .ok (.aload_n 0, 1) := by decide +kernel
theorem rd_Md_takesRest_62 : decode mb_Md_takesRest 62 = .ok (.iconst 1, 1) := by decide +kernel
theorem rd_Md_takesRest_63 : decode mb_Md_takesRest 63 = .ok (.invokevirtual 207, 3) := by decide +kernel
theorem rd_Md_takesRest_66 : decode mb_Md_takesRest 66 = .ok (.ifCond .eq 19, 3) := by decide +kernel
theorem rd_Md_takesRest_69 : decode mb_Md_takesRest 69 = .ok (.aload_n 0, 1) := by decide +kernel
theorem rd_Md_takesRest_70 : decode mb_Md_takesRest 70 = .ok (.iconst 2, 1) := by decide +kernel
theorem rd_Md_takesRest_71 : decode mb_Md_takesRest 71 = .ok (.iconst 0, 1) := by decide +kernel
theorem rd_Md_takesRest_72 : decode mb_Md_takesRest 72 = .ok (.sipush 9999, 3) := by decide +kernel
theorem rd_Md_takesRest_75 : decode mb_Md_takesRest 75 = .ok (.invokevirtual 210, 3) := by decide +kernel
theorem rd_Md_takesRest_78 : decode mb_Md_takesRest 78 = .ok (.ifCond .eq 7, 3) := by decide +kernel
theorem rd_Md_takesRest_81 : decode mb_Md_takesRest 81 = .ok (.iconst 1, 1) := by decide +kernel
theorem rd_Md_takesRest_82 : decode mb_Md_takesRest 82 = .ok (.goto 4, 3) := by decide +kernel
theorem rd_Md_takesRest_85 : decode mb_Md_takesRest 85 = .ok (.iconst 0, 1) := by decide +kernel
theorem rd_Md_takesRest_86 : decode mb_Md_takesRest 86 = .ok (.ireturn, 1) := by decide +kernel
theorem rd_Md_takesRest_87 : decode mb_Md_takesRest 87 = .ok (.aload_n 0, 1) := by decide +kernel
theorem rd_Md_takesRest_88 : decode mb_Md_takesRest 88 = .ok (.invokevirtual 284, 3) := by decide +kernel
theorem rd_Md_takesRest_91 : decode mb_Md_takesRest 91 = .ok (.ifCond .eq 27, 3) := by decide +kernel
theorem rd_Md_takesRest_94 : decode mb_Md_takesRest 94 = .ok (.aload_n 0, 1) := by decide +kernel
theorem rd_Md_takesRest_95 : decode mb_Md_takesRest 95 = .ok (.iconst 1, 1) := by decide +kernel
theorem rd_Md_takesRest_96 : decode mb_Md_takesRest 96 = .ok (.invokevirtual 207, 3) := by decide +kernel
theorem rd_Md_takesRest_99 : decode mb_Md_takesRest 99 = .ok (.ifCond .eq 19, 3) := by decide +kernel
theorem rd_Md_takesRest_102 : decode mb_Md_takesRest 102 = .ok (.aload_n 0, 1) := by decide +kernel
theorem rd_Md_takesRest_103 : decode mb_Md_takesRest 103 = .ok (.iconst 2, 1) := by decide +kernel
theorem rd_Md_takesRest_104 : decode mb_Md_takesRest 104 = .ok (.iconst 0, 1) := by decide +kernel
theorem rd_Md_takesRest_105 : decode mb_Md_takesRest 105 = .ok (.sipush 9999, 3) := by decide +kernel
theorem rd_Md_takesRest_108 : decode mb_Md_takesRest 108 = .ok (.invokevirtual 210, 3) := by decide +kernel
theorem rd_Md_takesRest_111 : decode mb_Md_takesRest 111 = .ok (.ifCond .eq 7, 3) := by decide +kernel
theorem rd_Md_takesRest_114 : decode mb_Md_takesRest 114 = .ok (.iconst 1, 1) := by decide +kernel
theorem rd_Md_takesRest_115 : decode mb_Md_takesRest 115 = .ok (.goto 4, 3) := by decide +kernel
theorem rd_Md_takesRest_118 : decode mb_Md_takesRest 118 = .ok (.iconst 0, 1) := by decide +kernel
theorem rd_Md_takesRest_119 : decode mb_Md_takesRest 119 = .ok (.ireturn, 1) := by decide +kernel
theorem rd_Md_takesRest_120 : decode mb_Md_takesRest 120 = .ok (.aload_n 0, 1) := by decide +kernel
theorem rd_Md_takesRest_121 : decode mb_Md_takesRest 121 = .ok (.invokevirtual 284, 3) := by decide +kernel
theorem rd_Md_takesRest_124 : decode mb_Md_takesRest 124 = .ok (.ireturn, 1) := by decide +kernel
theorem rd_Md_takesRest_125 : decode mb_Md_takesRest 125 = .ok (.aload_n 0, 1) := by decide +kernel
theorem rd_Md_takesRest_126 : decode mb_Md_takesRest 126 = .ok (.invokevirtual 281, 3) := by decide +kernel
theorem rd_Md_takesRest_129 : decode mb_Md_takesRest 129 = .ok (.ifCond .eq 15, 3) := by decide +kernel
theorem rd_Md_takesRest_132 : decode mb_Md_takesRest 132 = .ok (.aload_n 0, 1) := by decide +kernel
theorem rd_Md_takesRest_133 : decode mb_Md_takesRest 133 = .ok (.iconst 1, 1) := by decide +kernel
theorem rd_Md_takesRest_134 : decode mb_Md_takesRest 134 = .ok (.invokevirtual 207, 3) := by decide +kernel
theorem rd_Md_takesRest_137 : decode mb_Md_takesRest 137 = .ok (.ifCond .eq 7, 3) := by decide +kernel
theorem rd_Md_takesRest_140 : decode mb_Md_takesRest 140 = .ok (.iconst 1, 1) := by decide +kernel
theorem rd_Md_takesRest_141 : decode mb_Md_takesRest 141 = .ok (.goto 4, 3) := by decide +kernel
theorem rd_Md_takesRest_144 : decode mb_Md_takesRest 144 = .ok (.iconst 0, 1) := by decide +kernel
theorem rd_Md_takesRest_145 : decode mb_Md_takesRest 145 = .ok (.ireturn, 1) := by decide +kernel
theorem rd_Md_takesRest_146 : decode mb_Md_takesRest 146 = .ok (.aload_n 0, 1) := by decide +kernel
theorem rd_Md_takesRest_147 : decode mb_Md_takesRest 147 = .ok (.invokevirtual 284, 3) := by decide +kernel
theorem rd_Md_takesRest_150 : decode mb_Md_takesRest 150 = .ok (.ifCond .eq 28, 3) := by decide +kernel
theorem rd_Md_takesRest_153 : decode mb_Md_takesRest 153 = .ok (.aload_n 0, 1) := by decide +kernel
theorem rd_Md_takesRest_154 : decode mb_Md_takesRest 154 = .ok (.iconst 1, 1) := by decide +kernel
theorem rd_Md_takesRest_155 : decode mb_Md_takesRest 155 = .ok (.iconst 0, 1) := by decide +kernel
theorem rd_Md_takesRest_156 : decode mb_Md_takesRest 156 = .ok (.iconst 3, 1) := by decide +kernel
theorem rd_Md_takesRest_157 : decode mb_Md_takesRest 157 = .ok (.invokevirtual 210, 3) := by decide +kernel
theorem rd_Md_takesRest_160 : decode mb_Md_takesRest 160 = .ok (.ifCond .eq 18, 3) := by decide +kernel
theorem rd_Md_takesRest_163 : decode mb_Md_takesRest 163 = .ok (.aload_n 0, 1) := by decide +kernel
theorem rd_Md_takesRest_164 : decode mb_Md_takesRest 164 = .ok (.iconst 2, 1) := by decide +kernel
theorem rd_Md_takesRest_165 : decode mb_Md_takesRest 165 = .ok (.iconst 0, 1) := by decide +kernel
theorem rd_Md_takesRest_166 : decode mb_Md_takesRest 166 = .ok (.bipush 9, 2) := by decide +kernel
theorem rd_Md_takesRest_168 : decode mb_Md_takesRest 168 = .ok (.invokevirtual 210, 3) := by decide +kernel
theorem rd_Md_takesRest_171 : decode mb_Md_takesRest 171 = .ok (.ifCond .eq 7, 3) := by decide +kernel
theorem rd_Md_takesRest_174 : decode mb_Md_takesRest 174 = .ok (.iconst 1, 1) := by decide +kernel
theorem rd_Md_takesRest_175 : decode mb_Md_takesRest 175 = .ok (.goto 4, 3) := by decide +kernel
theorem rd_Md_takesRest_178 : decode mb_Md_takesRest 178 = .ok (.iconst 0, 1) := by decide +kernel
theorem rd_Md_takesRest_179 : decode mb_Md_takesRest 179 = .ok (.ireturn, 1) := by decide +kernel
theorem rd_Md_takesRest_180 : decode mb_Md_takesRest 180 = .ok (.aload_n 0, 1) := by decide +kernel
theorem rd_Md_takesRest_181 : decode mb_Md_takesRest 181 = .ok (.invokevirtual 284, 3) := by decide +kernel
theorem rd_Md_takesRest_184 : decode mb_Md_takesRest 184 = .ok (.ifCond .eq 17, 3) := by decide +kernel
theorem rd_Md_takesRest_187 : decode mb_Md_takesRest 187 = .ok (.aload_n 0, 1) := by decide +kernel
theorem rd_Md_takesRest_188 : decode mb_Md_takesRest 188 = .ok (.iconst 1, 1) := by decide +kernel
theorem rd_Md_takesRest_189 : decode mb_Md_takesRest 189 = .ok (.iconst 1, 1) := by decide +kernel
theorem rd_Md_takesRest_190 : decode mb_Md_takesRest 190 = .ok (.iconst 4, 1) := by decide +kernel
theorem rd_Md_takesRest_191 : decode mb_Md_takesRest 191 = .ok (.invokevirtual 210, 3) := by decide +kernel
theorem rd_Md_takesRest_194 : decode mb_Md_takesRest 194 = .ok (.ifCond .eq 7, 3) := by decide +kernel
theorem rd_Md_takesRest_197 : decode mb_Md_takesRest 197 = .ok (.iconst 1, 1) := by decide +kernel
theorem rd_Md_takesRest_198 : decode mb_Md_takesRest 198 = .ok (.goto 4, 3) := by decide +kernel
theorem rd_Md_takesRest_201 : decode mb_Md_takesRest 201 = .ok (.iconst 0, 1) := by decide +kernel
theorem rd_Md_takesRest_202 : decode mb_Md_takesRest 202 = .ok (.ireturn, 1) := by decide +kernel
theorem rd_Md_takesRest_203 : decode mb_Md_takesRest 203 = .ok (.aload_n 0, 1) := by decide +kernel
theorem rd_Md_takesRest_204 : decode mb_Md_takesRest 204 = .ok (.invokevirtual 284, 3) := by decide +kernel
theorem rd_Md_takesRest_207 : decode mb_Md_takesRest 207 = .ok (.ifCond .eq 15, 3) := by decide +kernel
theorem rd_Md_takesRest_210 : decode mb_Md_takesRest 210 = .ok (.aload_n 0, 1) := by decide +kernel
theorem rd_Md_takesRest_211 : decode mb_Md_takesRest 211 = .ok (.iconst 1, 1) := by decide +kernel
theorem rd_Md_takesRest_212 : decode mb_Md_takesRest 212 = .ok (.invokevirtual 207, 3) := by decide +kernel
theorem rd_Md_takesRest_215 : decode mb_Md_takesRest 215 = .ok (.ifCond .eq 7, 3) := by decide +kernel
theorem rd_Md_takesRest_218 : decode mb_Md_takesRest 218 = .ok (.iconst 1, 1) := by decide +kernel
theorem rd_Md_takesRest_219 : decode mb_Md_takesRest 219 = .ok (.goto 4, 3) := by decide +kernel
theorem rd_Md_takesRest_222 : decode mb_Md_takesRest 222 = .ok (.iconst 0, 1) := by decide +kernel
theorem rd_Md_takesRest_223 : decode mb_Md_takesRest 223 = .ok (.ireturn, 1) := by decide +kernel
theorem rd_Md_takesRest_224 : decode mb_Md_takesRest 224 = .ok (.aload_n 0, 1) := by decide +kernel
theorem rd_Md_takesRest_225 : decode mb_Md_takesRest 225 = .ok (.invokevirtual 281, 3) := by decide +kernel
theorem rd_Md_takesRest_228 : decode mb_Md_takesRest 228 = .ok (.ireturn, 1) := by decide +kernel
theorem rd_Md_readScriptStatement_0 : decode mb_Md_readScriptStatement 0 = .ok (.aload_n 0, 1) := by decide +kernel
theorem rd_Md_readScriptStatement_1 : decode mb_Md_readScriptStatement 1 = .ok (.invokevirtual 287, 3) := by decide +kernel
theorem rd_Md_readScriptStatement_4 : decode mb_Md_readScriptStatement 4 = .ok (.istore_n 1, 1) := by decide +kernel
theorem rd_Md_readScriptStatement_5 : decode mb_Md_readScriptStatement 5 = .ok (.iload_n 1, 1) := by decide +kernel
theorem rd_Md_readScriptStatement_6 : decode mb_Md_readScriptStatement 6 = .ok (.ifCond .ne 9, 3) := by decide +kernel
theorem rd_Md_readScriptStatement_9 : decode mb_Md_readScriptStatement 9 = .ok (.aload_n 0, 1) := by decide +kernel
theorem rd_Md_readScriptStatement_10 : decode mb_Md_readScriptStatement 10 = .ok (.iconst 1, 1) := by decide +kernel
theorem rd_Md_readScriptStatement_11 : decode mb_Md_readScriptStatement 11 = .ok (.invokevirtual 180, 3) := by decide +kernel
theorem rd_Md_readScriptStatement_14 : decode mb_Md_readScriptStatement 14 = .ok (.ireturn, 1) := by decide +kernel
theorem rd_Md_readScriptStatement_15 : decode mb_Md_readScriptStatement 15 = .ok (.aload_n 0, 1) := by decide +kernel
theorem rd_Md_readScriptStatement_16 : decode mb_Md_readScriptStatement 16 = .ok (.getfield 250, 3) := by decide +kernel
theorem rd_Md_readScriptStatement_19 : decode mb_Md_readScriptStatement 19 = .ok (.bipush 30, 2) := by decide +kernel
theorem rd_Md_readScriptStatement_21 : decode mb_Md_readScriptStatement 21 = .ok (.if_icmp .ne 10, 3) := by decide +kernel
theorem rd_Md_readScriptStatement_24 : decode mb_Md_readScriptStatement 24 = .ok (.aload_n 0, 1) := by decide +kernel
theorem rd_Md_readScriptStatement_25 : decode mb_Md_readScriptStatement 25 = .ok (.bipush 6, 2) := by decide +kernel
theorem rd_Md_readScriptStatement_27 : decode mb_Md_readScriptStatement 27 = .ok (.invokevirtual 180, 3) := by decide +kernel
theorem rd_Md_readScriptStatement_30 : decode mb_Md_readScriptStatement 30 = .ok (.ireturn, 1) := by decide +kernel
theorem rd_Md_readScriptStatement_31 : decode mb_Md_readScriptStatement 31 = .ok (.aload_n 0, 1) := by decide +kernel
theorem rd_Md_readScriptStatement_32 : decode mb_Md_readScriptStatement 32 = .ok (.iload_n 1, 1) := by decide +kernel
theorem rd_Md_readScriptStatement_33 : decode mb_Md_readScriptStatement 33 = .ok (.invokevirtual 290, 3) := by decide +kernel
theorem rd_Md_readScriptStatement_36 : decode mb_Md_readScriptStatement 36 = .ok (.ifCond .ne 5, 3) := by decide +kernel
theorem rd_Md_readScriptStatement_39 : decode mb_Md_readScriptStatement 39 = .ok (.iconst 0, 1) := by decide +kernel
theorem rd_Md_readScriptStatement_40 : decode mb_Md_readScriptStatement 40 = .ok (.ireturn, 1) := by decide +kernel
theorem rd_Md_readScriptStatement_41 : decode mb_Md_readScriptStatement 41 = .ok (.aload_n 0, 1) := by decide +kernel
theorem rd_Md_readScriptStatement_42 : decode mb_Md_readScriptStatement 42 = .ok (.getfield 32, 3) := by decide +kernel
theorem rd_Md_readScriptStatement_45 : decode mb_Md_readScriptStatement 45 = .ok (.aload_n 0, 1) := by decide +kernel
theorem rd_Md_readScriptStatement_46 : decode mb_Md_readScriptStatement 46 = .ok (.getfield 250, 3) := by decide +kernel
theorem rd_Md_readScriptStatement_49 : decode mb_Md_readScriptStatement 49 = .ok (.iload_n 1, 1) := by decide +kernel
theorem rd_Md_readScriptStatement_50 : decode mb_Md_readScriptStatement 50 = .ok (.iastore, 1) := by decide +kernel
theorem rd_Md_readScriptStatement_51 : decode mb_Md_readScriptStatement 51 = .ok (.iconst 0, 1) := by decide +kernel
theorem rd_Md_readScriptStatement_52 : decode mb_Md_readScriptStatement 52 = .ok (.istore_n 2, 1) := by decide +kernel
theorem rd_Md_readScriptStatement_53 : decode mb_Md_readScriptStatement 53 = .ok (.iload_n 2, 1) := by decide +kernel
theorem rd_Md_readScriptStatement_54 : decode mb_Md_readScriptStatement 54 = .ok (.iconst 3, 1) := by decide +kernel
theorem rd_Md_readScriptStatement_55 : decode mb_Md_readScriptStatement 55 = .ok (.if_icmp .ge 28, 3) := by decide +kernel
theorem rd_Md_readScriptStatement_58 : decode mb_Md_readScriptStatement 58 = .ok (.aload_n 0, 1) := by decide +kernel
theorem rd_Md_readScriptStatement_59 : decode mb_Md_readScriptStatement 59 = .ok (.getfield 35, 3) := by decide +kernel
theorem rd_Md_readScriptStatement_62 : decode mb_Md_readScriptStatement 62 = .ok (.iconst 3, 1) := by decide +kernel
theorem rd_Md_readScriptStatement_63 : decode mb_Md_readScriptStatement 63 = .ok (.aload_n 0, 1) := by decide +kernel
theorem rd_Md_readScriptStatement_64 : decode mb_Md_readScriptStatement 64 = .ok (.getfield 250, 3) := by decide +kernel
theorem rd_Md_readScriptStatement_67 : decode mb_Md_readScriptStatement 67 = .ok (.imul, 1) := by decide +kernel
theorem rd_Md_readScriptStatement_68 : decode mb_Md_readScriptStatement 68 = .ok (.iload_n 2, 1) := by decide +kernel
theorem rd_Md_readScriptStatement_69 : decode mb_Md_readScriptStatement 69 = .ok (.iadd, 1) := by decide +kernel
theorem rd_Md_readScriptStatement_70 : decode mb_Md_readScriptStatement 70 = .ok (.aload_n 0, 1) := by decide +kernel
theorem rd_Md_readScriptStatement_71 : decode mb_Md_readScriptStatement 71 = .ok (.getfield 29, 3) := by decide +kernel
theorem rd_Md_readScriptStatement_74 : decode mb_Md_readScriptStatement 74 = .ok (.iload_n 2, 1) := by decide +kernel
theorem rd_Md_readScriptStatement_75 : decode mb_Md_readScriptStatement 75 = .ok (.iaload, 1) := by decide +kernel
theorem rd_Md_readScriptStatement_76 : decode mb_Md_readScriptStatement 76 = .ok (.iastore, 1) := by decide +kernel
theorem rd_Md_readScriptStatement_77 : decode mb_Md_readScriptStatement 77 = .ok (.iinc 2 1, 3) := by decide +kernel
theorem rd_Md_readScriptStatement_80 : decode mb_Md_readScriptStatement 80 = .ok (.goto (-27), 3) := by decide +kernel
theorem rd_Md_readScriptStatement_83 : decode mb_Md_readScriptStatement 83 = .ok (.aload_n 0, 1) := by decide +kernel
theorem rd_Md_readScriptStatement_84 : decode mb_Md_readScriptStatement 84 = .ok (.dup, 1) := by decide +kernel
theorem rd_Md_readScriptStatement_85 : decode mb_Md_readScriptStatement 85 = .ok (.getfield 250, 3) := by decide +kernel
theorem rd_Md_readScriptStatement_88 : decode mb_Md_readScriptStatement 88 = .ok (.iconst 1, 1) := by decide +kernel
theorem rd_Md_readScriptStatement_89 : decode mb_Md_readScriptStatement 89 = .ok (.iadd, 1) := by decide +kernel
theorem rd_Md_readScriptStatement_90 : decode mb_Md_readScriptStatement 90 = .ok (.putfield 250, 3) := by decide +kernel
theorem rd_Md_readScriptStatement_93 : decode mb_Md_readScriptStatement 93 = .ok (.aload_n 0, 1) := by decide +kernel
theorem rd_Md_readScriptStatement_94 : decode mb_Md_readScriptStatement 94 = .ok (.invokevirtual 204, 3) := by decide +kernel
theorem rd_Md_readScriptStatement_97 : decode mb_Md_readScriptStatement 97 = .ok (.ireturn, 1) := by decide +kernel
def wd_Md_adds (cI : ClassId) (a_t a_t_w a_t_wKept a_t_saved a_t_past a_t_input a_t_n a_t_order a_t_numbers a_t_output : Nat) (i_t_pastMany : Int) (i_t_isSaved : Int) (i_t_thrown : Int) (i_t_inputMany : Int) (i_t_lastError : Int) (i_t_lastOffset : Int) (i_t_error : Int) (i_t_offset : Int) (i_t_nextByte : Int) (i_t_begin : Int) (i_t_value : Int) (i_t_token : Int) (i_t_got : Int) (i_t_orders : Int) (i_t_outputMany : Int) (i_t_w : (Int → Int)) : va_W := [(a_t, .inr (11, [.ref a_t_w, .ref a_t_wKept, .ref a_t_saved, .ref a_t_past, jk_V i_t_pastMany, jk_V i_t_isSaved, jk_V i_t_thrown, .ref a_t_input, jk_V i_t_inputMany, jk_V i_t_lastError, jk_V i_t_lastOffset, jk_V i_t_error, jk_V i_t_offset, jk_V i_t_nextByte, jk_V i_t_begin, jk_V i_t_value, jk_V i_t_token, jk_V i_t_got, .ref a_t_n, .ref a_t_order, .ref a_t_numbers, jk_V i_t_orders, .ref a_t_output, jk_V i_t_outputMany])), (a_t_w, jk_W cI 259 i_t_w)]
set_option maxHeartbeats 4000000 in
set_option maxRecDepth 20000 in
theorem ct_Md_adds (l : Launch) (D : va_G) (Z : (Nat → Prop) → State → Heap → Prop) (sq : Nat → Nat) (hZ : jk_ZK Z sq) (cI cR : ClassId) (a_t a_t_w a_t_wKept a_t_saved a_t_past a_t_input a_t_n a_t_order a_t_numbers a_t_output : Nat) (i_t_pastMany : Int) (i_t_isSaved : Int) (i_t_thrown : Int) (i_t_inputMany : Int) (i_t_lastError : Int) (i_t_lastOffset : Int) (i_t_error : Int) (i_t_offset : Int) (i_t_nextByte : Int) (i_t_begin : Int) (i_t_value : Int) (i_t_token : Int) (i_t_got : Int) (i_t_orders : Int) (i_t_outputMany : Int) (i_t_w : (Int → Int)) (x1 : Int) (x2 : Int) (x3 : Int) (q : Int × (Int → Int)) (hf : fn_Md_adds i_t_w x1 x2 x3 = some q) : jk_MI l D jk_cl (jk_ty cI cR) Z mn_Md_adds (.code mn_Md_adds mb_Md_adds 4 (some .int) :: jk_WA) (jk_rm 3 65) [.ref a_t, jk_V x1, jk_V x2, jk_V x3] (wd_Md_adds cI a_t a_t_w a_t_wKept a_t_saved a_t_past a_t_input a_t_n a_t_order a_t_numbers a_t_output i_t_pastMany i_t_isSaved i_t_thrown i_t_inputMany i_t_lastError i_t_lastOffset i_t_error i_t_offset i_t_nextByte i_t_begin i_t_value i_t_token i_t_got i_t_orders i_t_outputMany i_t_w) (wd_Md_adds cI a_t a_t_w a_t_wKept a_t_saved a_t_past a_t_input a_t_n a_t_order a_t_numbers a_t_output i_t_pastMany i_t_isSaved i_t_thrown i_t_inputMany i_t_lastError i_t_lastOffset i_t_error i_t_offset i_t_nextByte i_t_begin i_t_value i_t_token i_t_got i_t_orders i_t_outputMany q.2) q.1 := by
  intro sz
  refine jk_body (by decide +kernel) (fun p e s m args below meth c hsz hz hin C => ?_) (Nat.le_of_ble_eq_true rfl)
  subst hsz
  unfold fn_Md_adds at hf
  refine jk_aload_n C rd_Md_adds_0 (k := 0) rfl ?_
  refine jk_aload_n C rd_Md_adds_1 (k := 0) rfl ?_
  refine jk_iload_n C rd_Md_adds_2 (k := 1) rfl ?_
  obtain ⟨q3, hq3, hf⟩ := jk_bind_h hf
  refine jk_callVi C hZ.1 hz (ct_Md_end l D Z sq hZ cI cR a_t a_t_w a_t_wKept a_t_saved a_t_past a_t_input a_t_n a_t_order a_t_numbers a_t_output i_t_pastMany i_t_isSaved i_t_thrown i_t_inputMany i_t_lastError i_t_lastOffset i_t_error i_t_offset i_t_nextByte i_t_begin i_t_value i_t_token i_t_got i_t_orders i_t_outputMany i_t_w x1 q3 hq3) tm_1437 tm_1439 sl_45 tm_15 tm_1440 na_Md_end ⟨Nat.le_of_ble_eq_true rfl, Nat.le_of_ble_eq_true rfl⟩ rfl [0, 1] rfl rfl rfl (ws' := wd_Md_adds cI a_t a_t_w a_t_wKept a_t_saved a_t_past a_t_input a_t_n a_t_order a_t_numbers a_t_output i_t_pastMany i_t_isSaved i_t_thrown i_t_inputMany i_t_lastError i_t_lastOffset i_t_error i_t_offset i_t_nextByte i_t_begin i_t_value i_t_token i_t_got i_t_orders i_t_outputMany i_t_w) rfl 0 11 rfl rfl rfl (st := [.ref a_t]) rfl (Nat.le_of_ble_eq_true rfl) rd_Md_adds_3 ?_ ⟨Nat.le_refl _, Nat.le_refl _⟩
  refine jk_iload_n C rd_Md_adds_6 (k := 1) rfl ?_
  refine jk_iconst C rd_Md_adds_7 ?_
  refine jk_iload_n C rd_Md_adds_8 (k := 2) rfl ?_
  refine jk_iload_n C rd_Md_adds_9 (k := 3) rfl ?_
  obtain ⟨q10, hq10, hf⟩ := jk_bind_h hf
  refine jk_callVi C hZ.1 hz (ct_Md_inserts l D Z sq hZ cI cR a_t a_t_w a_t_wKept a_t_saved a_t_past a_t_input a_t_n a_t_order a_t_numbers a_t_output i_t_pastMany i_t_isSaved i_t_thrown i_t_inputMany i_t_lastError i_t_lastOffset i_t_error i_t_offset i_t_nextByte i_t_begin i_t_value i_t_token i_t_got i_t_orders i_t_outputMany i_t_w q3 x1 1 x2 x3 q10 hq10) tm_1236 tm_1238 sl_21 tm_15 tm_1239 na_Md_inserts ⟨Nat.le_of_ble_eq_true rfl, Nat.le_of_ble_eq_true rfl⟩ rfl [0, 1] rfl rfl rfl (ws' := wd_Md_adds cI a_t a_t_w a_t_wKept a_t_saved a_t_past a_t_input a_t_n a_t_order a_t_numbers a_t_output i_t_pastMany i_t_isSaved i_t_thrown i_t_inputMany i_t_lastError i_t_lastOffset i_t_error i_t_offset i_t_nextByte i_t_begin i_t_value i_t_token i_t_got i_t_orders i_t_outputMany q10.2) rfl 0 11 rfl rfl rfl (st := []) rfl (Nat.le_of_ble_eq_true rfl) rd_Md_adds_10 ?_ ⟨Nat.le_refl _, Nat.le_refl _⟩
  cases hf
  exact jk_iret C rfl rd_Md_adds_13 rfl
def wd_Md_addsCluster (cI : ClassId) (a_t a_t_w a_t_wKept a_t_saved a_t_past a_t_input a_t_n a_t_order a_t_numbers a_t_output : Nat) (i_t_pastMany : Int) (i_t_isSaved : Int) (i_t_thrown : Int) (i_t_inputMany : Int) (i_t_lastError : Int) (i_t_lastOffset : Int) (i_t_error : Int) (i_t_offset : Int) (i_t_nextByte : Int) (i_t_begin : Int) (i_t_value : Int) (i_t_token : Int) (i_t_got : Int) (i_t_orders : Int) (i_t_outputMany : Int) (i_t_w : (Int → Int)) : va_W := [(a_t, .inr (11, [.ref a_t_w, .ref a_t_wKept, .ref a_t_saved, .ref a_t_past, jk_V i_t_pastMany, jk_V i_t_isSaved, jk_V i_t_thrown, .ref a_t_input, jk_V i_t_inputMany, jk_V i_t_lastError, jk_V i_t_lastOffset, jk_V i_t_error, jk_V i_t_offset, jk_V i_t_nextByte, jk_V i_t_begin, jk_V i_t_value, jk_V i_t_token, jk_V i_t_got, .ref a_t_n, .ref a_t_order, .ref a_t_numbers, jk_V i_t_orders, .ref a_t_output, jk_V i_t_outputMany])), (a_t_w, jk_W cI 259 i_t_w)]
set_option maxHeartbeats 4000000 in
set_option maxRecDepth 20000 in
theorem ct_Md_addsCluster (l : Launch) (D : va_G) (Z : (Nat → Prop) → State → Heap → Prop) (sq : Nat → Nat) (hZ : jk_ZK Z sq) (cI cR : ClassId) (a_t a_t_w a_t_wKept a_t_saved a_t_past a_t_input a_t_n a_t_order a_t_numbers a_t_output : Nat) (i_t_pastMany : Int) (i_t_isSaved : Int) (i_t_thrown : Int) (i_t_inputMany : Int) (i_t_lastError : Int) (i_t_lastOffset : Int) (i_t_error : Int) (i_t_offset : Int) (i_t_nextByte : Int) (i_t_begin : Int) (i_t_value : Int) (i_t_token : Int) (i_t_got : Int) (i_t_orders : Int) (i_t_outputMany : Int) (i_t_w : (Int → Int)) (q : Int × (Int → Int)) (hf : fn_Md_addsCluster i_t_w = some q) : jk_MI l D jk_cl (jk_ty cI cR) Z mn_Md_addsCluster (.code mn_Md_addsCluster mb_Md_addsCluster 1 (some .int) :: jk_WA) (jk_rm 0 0) [.ref a_t] (wd_Md_addsCluster cI a_t a_t_w a_t_wKept a_t_saved a_t_past a_t_input a_t_n a_t_order a_t_numbers a_t_output i_t_pastMany i_t_isSaved i_t_thrown i_t_inputMany i_t_lastError i_t_lastOffset i_t_error i_t_offset i_t_nextByte i_t_begin i_t_value i_t_token i_t_got i_t_orders i_t_outputMany i_t_w) (wd_Md_addsCluster cI a_t a_t_w a_t_wKept a_t_saved a_t_past a_t_input a_t_n a_t_order a_t_numbers a_t_output i_t_pastMany i_t_isSaved i_t_thrown i_t_inputMany i_t_lastError i_t_lastOffset i_t_error i_t_offset i_t_nextByte i_t_begin i_t_value i_t_token i_t_got i_t_orders i_t_outputMany q.2) q.1 := by
  intro sz
  refine jk_body (by decide +kernel) (fun p e s m args below meth c hsz hz hin C => ?_) (Nat.le_of_ble_eq_true rfl)
  subst hsz
  unfold fn_Md_addsCluster at hf
  refine jk_aload_n C rd_Md_addsCluster_0 (k := 0) rfl ?_
  refine jk_get C in_Md (ci := 11) rfl 0 (by decide) tm_1263 0 rfl rfl rd_Md_addsCluster_1 ?_
  refine jk_iconst C rd_Md_addsCluster_4 ?_
  refine jk_dup2 C rd_Md_addsCluster_5 rfl rfl ?_
  refine jk_iald C 1 0 rfl rfl (Nat.le_of_ble_eq_true rfl) rd_Md_addsCluster_6 hf (fun hf => ?_)
  refine jk_iconst C rd_Md_addsCluster_7 ?_
  refine jk_iadd C rd_Md_addsCluster_8 ?_
  refine jk_iast C 1 0 rfl rfl (Nat.le_of_ble_eq_true rfl) rd_Md_addsCluster_9 hf (ws' := wd_Md_addsCluster cI a_t a_t_w a_t_wKept a_t_saved a_t_past a_t_input a_t_n a_t_order a_t_numbers a_t_output i_t_pastMany i_t_isSaved i_t_thrown i_t_inputMany i_t_lastError i_t_lastOffset i_t_error i_t_offset i_t_nextByte i_t_begin i_t_value i_t_token i_t_got i_t_orders i_t_outputMany (jk_up i_t_w 1 ((i_t_w 1) + 1))) rfl (fun hf => ?_)
  refine jk_aload_n C rd_Md_addsCluster_10 (k := 0) rfl ?_
  refine jk_get C in_Md (ci := 11) rfl 0 (by decide) tm_1263 0 rfl rfl rd_Md_addsCluster_11 ?_
  refine jk_iconst C rd_Md_addsCluster_14 ?_
  refine jk_iald C 1 0 rfl rfl (Nat.le_of_ble_eq_true rfl) rd_Md_addsCluster_15 hf (fun hf => ?_)
  refine jk_iconst C rd_Md_addsCluster_16 ?_
  refine jk_isub C rd_Md_addsCluster_17 ?_
  cases hf
  exact jk_iret C rfl rd_Md_addsCluster_18 rfl
def wd_Md_cuts (cI : ClassId) (a_t a_t_w a_t_wKept a_t_saved a_t_past a_t_input a_t_n a_t_order a_t_numbers a_t_output : Nat) (i_t_pastMany : Int) (i_t_isSaved : Int) (i_t_thrown : Int) (i_t_inputMany : Int) (i_t_lastError : Int) (i_t_lastOffset : Int) (i_t_error : Int) (i_t_offset : Int) (i_t_nextByte : Int) (i_t_begin : Int) (i_t_value : Int) (i_t_token : Int) (i_t_got : Int) (i_t_orders : Int) (i_t_outputMany : Int) (i_t_w : (Int → Int)) : va_W := [(a_t, .inr (11, [.ref a_t_w, .ref a_t_wKept, .ref a_t_saved, .ref a_t_past, jk_V i_t_pastMany, jk_V i_t_isSaved, jk_V i_t_thrown, .ref a_t_input, jk_V i_t_inputMany, jk_V i_t_lastError, jk_V i_t_lastOffset, jk_V i_t_error, jk_V i_t_offset, jk_V i_t_nextByte, jk_V i_t_begin, jk_V i_t_value, jk_V i_t_token, jk_V i_t_got, .ref a_t_n, .ref a_t_order, .ref a_t_numbers, jk_V i_t_orders, .ref a_t_output, jk_V i_t_outputMany])), (a_t_w, jk_W cI 259 i_t_w)]
set_option maxHeartbeats 4000000 in
set_option maxRecDepth 20000 in
theorem ct_Md_cuts (l : Launch) (D : va_G) (Z : (Nat → Prop) → State → Heap → Prop) (sq : Nat → Nat) (hZ : jk_ZK Z sq) (cI cR : ClassId) (a_t a_t_w a_t_wKept a_t_saved a_t_past a_t_input a_t_n a_t_order a_t_numbers a_t_output : Nat) (i_t_pastMany : Int) (i_t_isSaved : Int) (i_t_thrown : Int) (i_t_inputMany : Int) (i_t_lastError : Int) (i_t_lastOffset : Int) (i_t_error : Int) (i_t_offset : Int) (i_t_nextByte : Int) (i_t_begin : Int) (i_t_value : Int) (i_t_token : Int) (i_t_got : Int) (i_t_orders : Int) (i_t_outputMany : Int) (i_t_w : (Int → Int)) (x1 : Int) (q : Int × (Int → Int)) (hf : fn_Md_cuts i_t_w x1 = some q) : jk_MI l D jk_cl (jk_ty cI cR) Z mn_Md_cuts (.code mn_Md_cuts mb_Md_cuts 2 (some .int) :: jk_WA) (jk_rm 2 44) [.ref a_t, jk_V x1] (wd_Md_cuts cI a_t a_t_w a_t_wKept a_t_saved a_t_past a_t_input a_t_n a_t_order a_t_numbers a_t_output i_t_pastMany i_t_isSaved i_t_thrown i_t_inputMany i_t_lastError i_t_lastOffset i_t_error i_t_offset i_t_nextByte i_t_begin i_t_value i_t_token i_t_got i_t_orders i_t_outputMany i_t_w) (wd_Md_cuts cI a_t a_t_w a_t_wKept a_t_saved a_t_past a_t_input a_t_n a_t_order a_t_numbers a_t_output i_t_pastMany i_t_isSaved i_t_thrown i_t_inputMany i_t_lastError i_t_lastOffset i_t_error i_t_offset i_t_nextByte i_t_begin i_t_value i_t_token i_t_got i_t_orders i_t_outputMany q.2) q.1 := by
  intro sz
  refine jk_body (by decide +kernel) (fun p e s m args below meth c hsz hz hin C => ?_) (Nat.le_of_ble_eq_true rfl)
  subst hsz
  unfold fn_Md_cuts at hf
  refine jk_aload_n C rd_Md_cuts_0 (k := 0) rfl ?_
  refine jk_iload_n C rd_Md_cuts_1 (k := 1) rfl ?_
  refine jk_aload_n C rd_Md_cuts_2 (k := 0) rfl ?_
  refine jk_iload_n C rd_Md_cuts_3 (k := 1) rfl ?_
  obtain ⟨q4, hq4, hf⟩ := jk_bind_h hf
  refine jk_callVi C hZ.1 hz (ct_Md_behind l D Z sq hZ cI cR a_t a_t_w a_t_wKept a_t_saved a_t_past a_t_input a_t_n a_t_order a_t_numbers a_t_output i_t_pastMany i_t_isSaved i_t_thrown i_t_inputMany i_t_lastError i_t_lastOffset i_t_error i_t_offset i_t_nextByte i_t_begin i_t_value i_t_token i_t_got i_t_orders i_t_outputMany i_t_w x1 q4 hq4) tm_1457 tm_1459 sl_50 tm_15 tm_1460 na_Md_behind ⟨Nat.le_of_ble_eq_true rfl, Nat.le_of_ble_eq_true rfl⟩ rfl [0, 1] rfl rfl rfl (ws' := wd_Md_cuts cI a_t a_t_w a_t_wKept a_t_saved a_t_past a_t_input a_t_n a_t_order a_t_numbers a_t_output i_t_pastMany i_t_isSaved i_t_thrown i_t_inputMany i_t_lastError i_t_lastOffset i_t_error i_t_offset i_t_nextByte i_t_begin i_t_value i_t_token i_t_got i_t_orders i_t_outputMany i_t_w) rfl 0 11 rfl rfl rfl (st := [jk_V x1, .ref a_t]) rfl (Nat.le_of_ble_eq_true rfl) rd_Md_cuts_4 ?_ ⟨Nat.le_refl _, Nat.le_refl _⟩
  refine jk_iload_n C rd_Md_cuts_7 (k := 1) rfl ?_
  refine jk_isub C rd_Md_cuts_8 ?_
  obtain ⟨q9, hq9, hf⟩ := jk_bind_h hf
  refine jk_callVi C hZ.1 hz (ct_Md_removes l D Z sq hZ cI cR a_t a_t_w a_t_wKept a_t_saved a_t_past a_t_input a_t_n a_t_order a_t_numbers a_t_output i_t_pastMany i_t_isSaved i_t_thrown i_t_inputMany i_t_lastError i_t_lastOffset i_t_error i_t_offset i_t_nextByte i_t_begin i_t_value i_t_token i_t_got i_t_orders i_t_outputMany i_t_w x1 (q4 - x1) q9 hq9) tm_1548 tm_1550 sl_70 tm_15 tm_1551 na_Md_removes ⟨Nat.le_of_ble_eq_true rfl, Nat.le_of_ble_eq_true rfl⟩ rfl [0, 1] rfl rfl rfl (ws' := wd_Md_cuts cI a_t a_t_w a_t_wKept a_t_saved a_t_past a_t_input a_t_n a_t_order a_t_numbers a_t_output i_t_pastMany i_t_isSaved i_t_thrown i_t_inputMany i_t_lastError i_t_lastOffset i_t_error i_t_offset i_t_nextByte i_t_begin i_t_value i_t_token i_t_got i_t_orders i_t_outputMany q9.2) rfl 0 11 rfl rfl rfl (st := []) rfl (Nat.le_of_ble_eq_true rfl) rd_Md_cuts_9 ?_ ⟨Nat.le_refl _, Nat.le_refl _⟩
  cases hf
  exact jk_iret C rfl rd_Md_cuts_12 rfl
def wd_Md_mayTie (cI : ClassId) (a_t a_t_w a_t_wKept a_t_saved a_t_past a_t_input a_t_n a_t_order a_t_numbers a_t_output : Nat) (i_t_pastMany : Int) (i_t_isSaved : Int) (i_t_thrown : Int) (i_t_inputMany : Int) (i_t_lastError : Int) (i_t_lastOffset : Int) (i_t_error : Int) (i_t_offset : Int) (i_t_nextByte : Int) (i_t_begin : Int) (i_t_value : Int) (i_t_token : Int) (i_t_got : Int) (i_t_orders : Int) (i_t_outputMany : Int) (i_t_w : (Int → Int)) : va_W := [(a_t, .inr (11, [.ref a_t_w, .ref a_t_wKept, .ref a_t_saved, .ref a_t_past, jk_V i_t_pastMany, jk_V i_t_isSaved, jk_V i_t_thrown, .ref a_t_input, jk_V i_t_inputMany, jk_V i_t_lastError, jk_V i_t_lastOffset, jk_V i_t_error, jk_V i_t_offset, jk_V i_t_nextByte, jk_V i_t_begin, jk_V i_t_value, jk_V i_t_token, jk_V i_t_got, .ref a_t_n, .ref a_t_order, .ref a_t_numbers, jk_V i_t_orders, .ref a_t_output, jk_V i_t_outputMany])), (a_t_w, jk_W cI 259 i_t_w)]
set_option maxHeartbeats 4000000 in
set_option maxRecDepth 20000 in
theorem ct_Md_mayTie (l : Launch) (D : va_G) (Z : (Nat → Prop) → State → Heap → Prop) (sq : Nat → Nat) (hZ : jk_ZK Z sq) (cI cR : ClassId) (a_t a_t_w a_t_wKept a_t_saved a_t_past a_t_input a_t_n a_t_order a_t_numbers a_t_output : Nat) (i_t_pastMany : Int) (i_t_isSaved : Int) (i_t_thrown : Int) (i_t_inputMany : Int) (i_t_lastError : Int) (i_t_lastOffset : Int) (i_t_error : Int) (i_t_offset : Int) (i_t_nextByte : Int) (i_t_begin : Int) (i_t_value : Int) (i_t_token : Int) (i_t_got : Int) (i_t_orders : Int) (i_t_outputMany : Int) (i_t_w : (Int → Int)) (x1 : Int) (q : Int) (hf : fn_Md_mayTie i_t_w x1 = some q) : jk_MI l D jk_cl (jk_ty cI cR) Z mn_Md_mayTie (.code mn_Md_mayTie mb_Md_mayTie 2 (some .boolean) :: jk_WA) (jk_rm 6 131) [.ref a_t, jk_V x1] (wd_Md_mayTie cI a_t a_t_w a_t_wKept a_t_saved a_t_past a_t_input a_t_n a_t_order a_t_numbers a_t_output i_t_pastMany i_t_isSaved i_t_thrown i_t_inputMany i_t_lastError i_t_lastOffset i_t_error i_t_offset i_t_nextByte i_t_begin i_t_value i_t_token i_t_got i_t_orders i_t_outputMany i_t_w) (wd_Md_mayTie cI a_t a_t_w a_t_wKept a_t_saved a_t_past a_t_input a_t_n a_t_order a_t_numbers a_t_output i_t_pastMany i_t_isSaved i_t_thrown i_t_inputMany i_t_lastError i_t_lastOffset i_t_error i_t_offset i_t_nextByte i_t_begin i_t_value i_t_token i_t_got i_t_orders i_t_outputMany i_t_w) q := by
  intro sz
  refine jk_body (by decide +kernel) (fun p e s m args below meth c hsz hz hin C => ?_) (Nat.le_of_ble_eq_true rfl)
  subst hsz
  unfold fn_Md_mayTie at hf
  refine jk_aload_n C rd_Md_mayTie_0 (k := 0) rfl ?_
  refine jk_iload_n C rd_Md_mayTie_1 (k := 1) rfl ?_
  obtain ⟨q2, hq2, hf⟩ := jk_bind_h hf
  refine jk_callVi C hZ.1 hz (ct_Md_hasTop l D Z sq hZ cI cR a_t a_t_w a_t_wKept a_t_saved a_t_past a_t_input a_t_n a_t_order a_t_numbers a_t_output i_t_pastMany i_t_isSaved i_t_thrown i_t_inputMany i_t_lastError i_t_lastOffset i_t_error i_t_offset i_t_nextByte i_t_begin i_t_value i_t_token i_t_got i_t_orders i_t_outputMany i_t_w x1 q2 hq2) tm_1429 tm_1431 sl_43 tm_15 tm_1432 na_Md_hasTop ⟨Nat.le_of_ble_eq_true rfl, Nat.le_of_ble_eq_true rfl⟩ rfl [0, 1] rfl rfl rfl (ws' := wd_Md_mayTie cI a_t a_t_w a_t_wKept a_t_saved a_t_past a_t_input a_t_n a_t_order a_t_numbers a_t_output i_t_pastMany i_t_isSaved i_t_thrown i_t_inputMany i_t_lastError i_t_lastOffset i_t_error i_t_offset i_t_nextByte i_t_begin i_t_value i_t_token i_t_got i_t_orders i_t_outputMany i_t_w) rfl 0 11 rfl rfl rfl (st := []) rfl (Nat.le_of_ble_eq_true rfl) rd_Md_mayTie_2 ?_ ⟨Nat.le_refl _, Nat.le_refl _⟩
  refine jk_if_ne (tgt := 33) C rd_Md_mayTie_5 (by decide) hf (fun _ hf => ?_) (fun _ hf => ?_)
  · refine jk_iconst C rd_Md_mayTie_33 ?_
    cases hf
    exact jk_zret C (Or.inl rfl) rfl rd_Md_mayTie_34 rfl
  · refine jk_aload_n C rd_Md_mayTie_8 (k := 0) rfl ?_
    refine jk_iload_n C rd_Md_mayTie_9 (k := 1) rfl ?_
    obtain ⟨q10, hq10, hf⟩ := jk_bind_h hf
    refine jk_callVi C hZ.1 hz (ct_Md_pendants l D Z sq hZ cI cR a_t a_t_w a_t_wKept a_t_saved a_t_past a_t_input a_t_n a_t_order a_t_numbers a_t_output i_t_pastMany i_t_isSaved i_t_thrown i_t_inputMany i_t_lastError i_t_lastOffset i_t_error i_t_offset i_t_nextByte i_t_begin i_t_value i_t_token i_t_got i_t_orders i_t_outputMany i_t_w x1 q10 hq10) tm_1556 tm_1558 sl_72 tm_15 tm_1559 na_Md_pendants ⟨Nat.le_of_ble_eq_true rfl, Nat.le_of_ble_eq_true rfl⟩ rfl [0, 1] rfl rfl rfl (ws' := wd_Md_mayTie cI a_t a_t_w a_t_wKept a_t_saved a_t_past a_t_input a_t_n a_t_order a_t_numbers a_t_output i_t_pastMany i_t_isSaved i_t_thrown i_t_inputMany i_t_lastError i_t_lastOffset i_t_error i_t_offset i_t_nextByte i_t_begin i_t_value i_t_token i_t_got i_t_orders i_t_outputMany i_t_w) rfl 0 11 rfl rfl rfl (st := []) rfl (Nat.le_of_ble_eq_true rfl) rd_Md_mayTie_10 ?_ ⟨Nat.le_refl _, Nat.le_refl _⟩
    refine jk_if_eq (tgt := 33) C rd_Md_mayTie_13 (by decide) hf (fun _ hf => ?_) (fun _ hf => ?_)
    · refine jk_iconst C rd_Md_mayTie_33 ?_
      cases hf
      exact jk_zret C (Or.inl rfl) rfl rd_Md_mayTie_34 rfl
    · refine jk_aload_n C rd_Md_mayTie_16 (k := 0) rfl ?_
      refine jk_aload_n C rd_Md_mayTie_17 (k := 0) rfl ?_
      refine jk_iload_n C rd_Md_mayTie_18 (k := 1) rfl ?_
      obtain ⟨q19, hq19, hf⟩ := jk_bind_h hf
      refine jk_callVi C hZ.1 hz (ct_Md_first l D Z sq hZ cI cR a_t a_t_w a_t_wKept a_t_saved a_t_past a_t_input a_t_n a_t_order a_t_numbers a_t_output i_t_pastMany i_t_isSaved i_t_thrown i_t_inputMany i_t_lastError i_t_lastOffset i_t_error i_t_offset i_t_nextByte i_t_begin i_t_value i_t_token i_t_got i_t_orders i_t_outputMany i_t_w x1 q19 hq19) tm_1433 tm_1435 sl_44 tm_15 tm_1436 na_Md_first ⟨Nat.le_of_ble_eq_true rfl, Nat.le_of_ble_eq_true rfl⟩ rfl [0, 1] rfl rfl rfl (ws' := wd_Md_mayTie cI a_t a_t_w a_t_wKept a_t_saved a_t_past a_t_input a_t_n a_t_order a_t_numbers a_t_output i_t_pastMany i_t_isSaved i_t_thrown i_t_inputMany i_t_lastError i_t_lastOffset i_t_error i_t_offset i_t_nextByte i_t_begin i_t_value i_t_token i_t_got i_t_orders i_t_outputMany i_t_w) rfl 0 11 rfl rfl rfl (st := [.ref a_t]) rfl (Nat.le_of_ble_eq_true rfl) rd_Md_mayTie_19 ?_ ⟨Nat.le_refl _, Nat.le_refl _⟩
      refine jk_aload_n C rd_Md_mayTie_22 (k := 0) rfl ?_
      refine jk_iload_n C rd_Md_mayTie_23 (k := 1) rfl ?_
      obtain ⟨q24, hq24, hf⟩ := jk_bind_h hf
      refine jk_callVi C hZ.1 hz (ct_Md_end l D Z sq hZ cI cR a_t a_t_w a_t_wKept a_t_saved a_t_past a_t_input a_t_n a_t_order a_t_numbers a_t_output i_t_pastMany i_t_isSaved i_t_thrown i_t_inputMany i_t_lastError i_t_lastOffset i_t_error i_t_offset i_t_nextByte i_t_begin i_t_value i_t_token i_t_got i_t_orders i_t_outputMany i_t_w x1 q24 hq24) tm_1437 tm_1439 sl_45 tm_15 tm_1440 na_Md_end ⟨Nat.le_of_ble_eq_true rfl, Nat.le_of_ble_eq_true rfl⟩ rfl [0, 1] rfl rfl rfl (ws' := wd_Md_mayTie cI a_t a_t_w a_t_wKept a_t_saved a_t_past a_t_input a_t_n a_t_order a_t_numbers a_t_output i_t_pastMany i_t_isSaved i_t_thrown i_t_inputMany i_t_lastError i_t_lastOffset i_t_error i_t_offset i_t_nextByte i_t_begin i_t_value i_t_token i_t_got i_t_orders i_t_outputMany i_t_w) rfl 0 11 rfl rfl rfl (st := [jk_V q19, .ref a_t]) rfl (Nat.le_of_ble_eq_true rfl) rd_Md_mayTie_24 ?_ ⟨Nat.le_refl _, Nat.le_refl _⟩
      obtain ⟨q27, hq27, hf⟩ := jk_bind_h hf
      refine jk_callVi C hZ.1 hz (ct_Md_isWholeFrom l D Z sq hZ cI cR a_t a_t_w a_t_wKept a_t_saved a_t_past a_t_input a_t_n a_t_order a_t_numbers a_t_output i_t_pastMany i_t_isSaved i_t_thrown i_t_inputMany i_t_lastError i_t_lastOffset i_t_error i_t_offset i_t_nextByte i_t_begin i_t_value i_t_token i_t_got i_t_orders i_t_outputMany i_t_w q19 q24 q27 hq27) tm_1563 tm_1565 sl_73 tm_15 tm_1566 na_Md_isWholeFrom ⟨Nat.le_of_ble_eq_true rfl, Nat.le_of_ble_eq_true rfl⟩ rfl [0, 1] rfl rfl rfl (ws' := wd_Md_mayTie cI a_t a_t_w a_t_wKept a_t_saved a_t_past a_t_input a_t_n a_t_order a_t_numbers a_t_output i_t_pastMany i_t_isSaved i_t_thrown i_t_inputMany i_t_lastError i_t_lastOffset i_t_error i_t_offset i_t_nextByte i_t_begin i_t_value i_t_token i_t_got i_t_orders i_t_outputMany i_t_w) rfl 0 11 rfl rfl rfl (st := []) rfl (Nat.le_of_ble_eq_true rfl) rd_Md_mayTie_27 ?_ ⟨Nat.le_refl _, Nat.le_refl _⟩
      refine jk_if_ne (tgt := 35) C rd_Md_mayTie_30 (by decide) hf (fun _ hf => ?_) (fun _ hf => ?_)
      · refine jk_aload_n C rd_Md_mayTie_35 (k := 0) rfl ?_
        refine jk_iload_n C rd_Md_mayTie_36 (k := 1) rfl ?_
        obtain ⟨q37, hq37, hf⟩ := jk_bind_h hf
        refine jk_callVi C hZ.1 hz (ct_Md_knownSum l D Z sq hZ cI cR a_t a_t_w a_t_wKept a_t_saved a_t_past a_t_input a_t_n a_t_order a_t_numbers a_t_output i_t_pastMany i_t_isSaved i_t_thrown i_t_inputMany i_t_lastError i_t_lastOffset i_t_error i_t_offset i_t_nextByte i_t_begin i_t_value i_t_token i_t_got i_t_orders i_t_outputMany i_t_w x1 q37 hq37) tm_1571 tm_1573 sl_75 tm_15 tm_1574 na_Md_knownSum ⟨Nat.le_of_ble_eq_true rfl, Nat.le_of_ble_eq_true rfl⟩ rfl [0, 1] rfl rfl rfl (ws' := wd_Md_mayTie cI a_t a_t_w a_t_wKept a_t_saved a_t_past a_t_input a_t_n a_t_order a_t_numbers a_t_output i_t_pastMany i_t_isSaved i_t_thrown i_t_inputMany i_t_lastError i_t_lastOffset i_t_error i_t_offset i_t_nextByte i_t_begin i_t_value i_t_token i_t_got i_t_orders i_t_outputMany i_t_w) rfl 0 11 rfl rfl rfl (st := []) rfl (Nat.le_of_ble_eq_true rfl) rd_Md_mayTie_37 ?_ ⟨Nat.le_refl _, Nat.le_refl _⟩
        refine jk_sipush C rd_Md_mayTie_40 (by decide +kernel) ?_
        refine jk_icmp_gt (tgt := 57) C rd_Md_mayTie_43 (by decide) hf (fun _ hf => ?_) (fun _ hf => ?_)
        · refine jk_iconst C rd_Md_mayTie_57 ?_
          cases hf
          exact jk_zret C (Or.inl rfl) rfl rd_Md_mayTie_58 rfl
        · refine jk_aload_n C rd_Md_mayTie_46 (k := 0) rfl ?_
          obtain ⟨q47, hq47, hf⟩ := jk_bind_h hf
          refine jk_callVi C hZ.1 hz (ct_Md_mayAdd l D Z sq hZ cI cR a_t a_t_w a_t_wKept a_t_saved a_t_past a_t_input a_t_n a_t_order a_t_numbers a_t_output i_t_pastMany i_t_isSaved i_t_thrown i_t_inputMany i_t_lastError i_t_lastOffset i_t_error i_t_offset i_t_nextByte i_t_begin i_t_value i_t_token i_t_got i_t_orders i_t_outputMany i_t_w q47 hq47) tm_1441 tm_1443 sl_46 tm_15 tm_1444 na_Md_mayAdd ⟨Nat.le_of_ble_eq_true rfl, Nat.le_of_ble_eq_true rfl⟩ rfl [0, 1] rfl rfl rfl (ws' := wd_Md_mayTie cI a_t a_t_w a_t_wKept a_t_saved a_t_past a_t_input a_t_n a_t_order a_t_numbers a_t_output i_t_pastMany i_t_isSaved i_t_thrown i_t_inputMany i_t_lastError i_t_lastOffset i_t_error i_t_offset i_t_nextByte i_t_begin i_t_value i_t_token i_t_got i_t_orders i_t_outputMany i_t_w) rfl 0 11 rfl rfl rfl (st := []) rfl (Nat.le_of_ble_eq_true rfl) rd_Md_mayTie_47 ?_ ⟨Nat.le_refl _, Nat.le_refl _⟩
          refine jk_if_eq (tgt := 57) C rd_Md_mayTie_50 (by decide) hf (fun _ hf => ?_) (fun _ hf => ?_)
          · refine jk_iconst C rd_Md_mayTie_57 ?_
            cases hf
            exact jk_zret C (Or.inl rfl) rfl rd_Md_mayTie_58 rfl
          · refine jk_iconst C rd_Md_mayTie_53 ?_
            refine jk_goto (tgt := 58) C rd_Md_mayTie_54 (by decide) ?_
            cases hf
            exact jk_zret C (Or.inr rfl) rfl rd_Md_mayTie_58 rfl
      · refine jk_iconst C rd_Md_mayTie_33 ?_
        cases hf
        exact jk_zret C (Or.inl rfl) rfl rd_Md_mayTie_34 rfl
def wd_Md_ties (cI : ClassId) (a_t a_t_w a_t_wKept a_t_saved a_t_past a_t_input a_t_n a_t_order a_t_numbers a_t_output : Nat) (i_t_pastMany : Int) (i_t_isSaved : Int) (i_t_thrown : Int) (i_t_inputMany : Int) (i_t_lastError : Int) (i_t_lastOffset : Int) (i_t_error : Int) (i_t_offset : Int) (i_t_nextByte : Int) (i_t_begin : Int) (i_t_value : Int) (i_t_token : Int) (i_t_got : Int) (i_t_orders : Int) (i_t_outputMany : Int) (i_t_w : (Int → Int)) : va_W := [(a_t, .inr (11, [.ref a_t_w, .ref a_t_wKept, .ref a_t_saved, .ref a_t_past, jk_V i_t_pastMany, jk_V i_t_isSaved, jk_V i_t_thrown, .ref a_t_input, jk_V i_t_inputMany, jk_V i_t_lastError, jk_V i_t_lastOffset, jk_V i_t_error, jk_V i_t_offset, jk_V i_t_nextByte, jk_V i_t_begin, jk_V i_t_value, jk_V i_t_token, jk_V i_t_got, .ref a_t_n, .ref a_t_order, .ref a_t_numbers, jk_V i_t_orders, .ref a_t_output, jk_V i_t_outputMany])), (a_t_w, jk_W cI 259 i_t_w)]
set_option maxHeartbeats 4000000 in
set_option maxRecDepth 20000 in
theorem ct_Md_ties (l : Launch) (D : va_G) (Z : (Nat → Prop) → State → Heap → Prop) (sq : Nat → Nat) (hZ : jk_ZK Z sq) (cI cR : ClassId) (a_t a_t_w a_t_wKept a_t_saved a_t_past a_t_input a_t_n a_t_order a_t_numbers a_t_output : Nat) (i_t_pastMany : Int) (i_t_isSaved : Int) (i_t_thrown : Int) (i_t_inputMany : Int) (i_t_lastError : Int) (i_t_lastOffset : Int) (i_t_error : Int) (i_t_offset : Int) (i_t_nextByte : Int) (i_t_begin : Int) (i_t_value : Int) (i_t_token : Int) (i_t_got : Int) (i_t_orders : Int) (i_t_outputMany : Int) (i_t_w : (Int → Int)) (x1 : Int) (x2 : Int) (q : Int × (Int → Int)) (hf : fn_Md_ties i_t_w x1 x2 = some q) : jk_MI l D jk_cl (jk_ty cI cR) Z mn_Md_ties (.code mn_Md_ties mb_Md_ties 5 (some .int) :: jk_WA) (jk_rm 6 131) [.ref a_t, jk_V x1, jk_V x2] (wd_Md_ties cI a_t a_t_w a_t_wKept a_t_saved a_t_past a_t_input a_t_n a_t_order a_t_numbers a_t_output i_t_pastMany i_t_isSaved i_t_thrown i_t_inputMany i_t_lastError i_t_lastOffset i_t_error i_t_offset i_t_nextByte i_t_begin i_t_value i_t_token i_t_got i_t_orders i_t_outputMany i_t_w) (wd_Md_ties cI a_t a_t_w a_t_wKept a_t_saved a_t_past a_t_input a_t_n a_t_order a_t_numbers a_t_output i_t_pastMany i_t_isSaved i_t_thrown i_t_inputMany i_t_lastError i_t_lastOffset i_t_error i_t_offset i_t_nextByte i_t_begin i_t_value i_t_token i_t_got i_t_orders i_t_outputMany q.2) q.1 := by
  intro sz
  refine jk_body (by decide +kernel) (fun p e s m args below meth c hsz hz hin C => ?_) (Nat.le_of_ble_eq_true rfl)
  subst hsz
  unfold fn_Md_ties at hf
  refine jk_aload_n C rd_Md_ties_0 (k := 0) rfl ?_
  refine jk_iload_n C rd_Md_ties_1 (k := 1) rfl ?_
  obtain ⟨q2, hq2, hf⟩ := jk_bind_h hf
  refine jk_callVi C hZ.1 hz (ct_Md_knownSum l D Z sq hZ cI cR a_t a_t_w a_t_wKept a_t_saved a_t_past a_t_input a_t_n a_t_order a_t_numbers a_t_output i_t_pastMany i_t_isSaved i_t_thrown i_t_inputMany i_t_lastError i_t_lastOffset i_t_error i_t_offset i_t_nextByte i_t_begin i_t_value i_t_token i_t_got i_t_orders i_t_outputMany i_t_w x1 q2 hq2) tm_1571 tm_1573 sl_75 tm_15 tm_1574 na_Md_knownSum ⟨Nat.le_of_ble_eq_true rfl, Nat.le_of_ble_eq_true rfl⟩ rfl [0, 1] rfl rfl rfl (ws' := wd_Md_ties cI a_t a_t_w a_t_wKept a_t_saved a_t_past a_t_input a_t_n a_t_order a_t_numbers a_t_output i_t_pastMany i_t_isSaved i_t_thrown i_t_inputMany i_t_lastError i_t_lastOffset i_t_error i_t_offset i_t_nextByte i_t_begin i_t_value i_t_token i_t_got i_t_orders i_t_outputMany i_t_w) rfl 0 11 rfl rfl rfl (st := []) rfl (Nat.le_of_ble_eq_true rfl) rd_Md_ties_2 ?_ ⟨Nat.le_refl _, Nat.le_refl _⟩
  refine jk_istore_n C rd_Md_ties_5 (by decide) (lv' := [(3, jk_V q2), (0, .ref a_t), (1, jk_V x1), (2, jk_V x2)]) rfl ?_
  refine jk_aload_n C rd_Md_ties_6 (k := 1) rfl ?_
  refine jk_aload_n C rd_Md_ties_7 (k := 1) rfl ?_
  refine jk_iload_n C rd_Md_ties_8 (k := 2) rfl ?_
  obtain ⟨q9, hq9, hf⟩ := jk_bind_h hf
  refine jk_callVi C hZ.1 hz (ct_Md_first l D Z sq hZ cI cR a_t a_t_w a_t_wKept a_t_saved a_t_past a_t_input a_t_n a_t_order a_t_numbers a_t_output i_t_pastMany i_t_isSaved i_t_thrown i_t_inputMany i_t_lastError i_t_lastOffset i_t_error i_t_offset i_t_nextByte i_t_begin i_t_value i_t_token i_t_got i_t_orders i_t_outputMany i_t_w x1 q9 hq9) tm_1433 tm_1435 sl_44 tm_15 tm_1436 na_Md_first ⟨Nat.le_of_ble_eq_true rfl, Nat.le_of_ble_eq_true rfl⟩ rfl [0, 1] rfl rfl rfl (ws' := wd_Md_ties cI a_t a_t_w a_t_wKept a_t_saved a_t_past a_t_input a_t_n a_t_order a_t_numbers a_t_output i_t_pastMany i_t_isSaved i_t_thrown i_t_inputMany i_t_lastError i_t_lastOffset i_t_error i_t_offset i_t_nextByte i_t_begin i_t_value i_t_token i_t_got i_t_orders i_t_outputMany i_t_w) rfl 0 11 rfl rfl rfl (st := [.ref a_t]) rfl (Nat.le_of_ble_eq_true rfl) rd_Md_ties_9 ?_ ⟨Nat.le_refl _, Nat.le_refl _⟩
  refine jk_iload_n C rd_Md_ties_12 (k := 2) rfl ?_
  refine jk_iconst C rd_Md_ties_13 ?_
  refine jk_iload_n C rd_Md_ties_14 (k := 3) rfl ?_
  refine jk_iload_n C rd_Md_ties_15 (k := 0) rfl ?_
  obtain ⟨q16, hq16, hf⟩ := jk_bind_h hf
  refine jk_callVi C hZ.1 hz (ct_Md_inserts l D Z sq hZ cI cR a_t a_t_w a_t_wKept a_t_saved a_t_past a_t_input a_t_n a_t_order a_t_numbers a_t_output i_t_pastMany i_t_isSaved i_t_thrown i_t_inputMany i_t_lastError i_t_lastOffset i_t_error i_t_offset i_t_nextByte i_t_begin i_t_value i_t_token i_t_got i_t_orders i_t_outputMany i_t_w q9 x1 0 x2 q2 q16 hq16) tm_1236 tm_1238 sl_21 tm_15 tm_1239 na_Md_inserts ⟨Nat.le_of_ble_eq_true rfl, Nat.le_of_ble_eq_true rfl⟩ rfl [0, 1] rfl rfl rfl (ws' := wd_Md_ties cI a_t a_t_w a_t_wKept a_t_saved a_t_past a_t_input a_t_n a_t_order a_t_numbers a_t_output i_t_pastMany i_t_isSaved i_t_thrown i_t_inputMany i_t_lastError i_t_lastOffset i_t_error i_t_offset i_t_nextByte i_t_begin i_t_value i_t_token i_t_got i_t_orders i_t_outputMany q16.2) rfl 0 11 rfl rfl rfl (st := []) rfl (Nat.le_of_ble_eq_true rfl) rd_Md_ties_16 ?_ ⟨Nat.le_refl _, Nat.le_refl _⟩
  refine jk_istore C rd_Md_ties_19 (by decide) (lv' := [(4, jk_V q16.1), (3, jk_V q2), (0, .ref a_t), (1, jk_V x1), (2, jk_V x2)]) rfl ?_
  refine jk_iload_n C rd_Md_ties_21 (k := 1) rfl ?_
  cases hf
  exact jk_iret C rfl rd_Md_ties_22 rfl
def wd_Md_sets (cI : ClassId) (a_t a_t_w a_t_wKept a_t_saved a_t_past a_t_input a_t_n a_t_order a_t_numbers a_t_output : Nat) (i_t_pastMany : Int) (i_t_isSaved : Int) (i_t_thrown : Int) (i_t_inputMany : Int) (i_t_lastError : Int) (i_t_lastOffset : Int) (i_t_error : Int) (i_t_offset : Int) (i_t_nextByte : Int) (i_t_begin : Int) (i_t_value : Int) (i_t_token : Int) (i_t_got : Int) (i_t_orders : Int) (i_t_outputMany : Int) (i_t_w : (Int → Int)) : va_W := [(a_t, .inr (11, [.ref a_t_w, .ref a_t_wKept, .ref a_t_saved, .ref a_t_past, jk_V i_t_pastMany, jk_V i_t_isSaved, jk_V i_t_thrown, .ref a_t_input, jk_V i_t_inputMany, jk_V i_t_lastError, jk_V i_t_lastOffset, jk_V i_t_error, jk_V i_t_offset, jk_V i_t_nextByte, jk_V i_t_begin, jk_V i_t_value, jk_V i_t_token, jk_V i_t_got, .ref a_t_n, .ref a_t_order, .ref a_t_numbers, jk_V i_t_orders, .ref a_t_output, jk_V i_t_outputMany])), (a_t_w, jk_W cI 259 i_t_w)]
set_option maxHeartbeats 4000000 in
set_option maxRecDepth 20000 in
theorem ct_Md_sets (l : Launch) (D : va_G) (Z : (Nat → Prop) → State → Heap → Prop) (sq : Nat → Nat) (hZ : jk_ZK Z sq) (cI cR : ClassId) (a_t a_t_w a_t_wKept a_t_saved a_t_past a_t_input a_t_n a_t_order a_t_numbers a_t_output : Nat) (i_t_pastMany : Int) (i_t_isSaved : Int) (i_t_thrown : Int) (i_t_inputMany : Int) (i_t_lastError : Int) (i_t_lastOffset : Int) (i_t_error : Int) (i_t_offset : Int) (i_t_nextByte : Int) (i_t_begin : Int) (i_t_value : Int) (i_t_token : Int) (i_t_got : Int) (i_t_orders : Int) (i_t_outputMany : Int) (i_t_w : (Int → Int)) (x1 : Int) (x2 : Int) (x3 : Int) (q : Int × (Int → Int)) (hf : fn_Md_sets i_t_w x1 x2 x3 = some q) : jk_MI l D jk_cl (jk_ty cI cR) Z mn_Md_sets (.code mn_Md_sets mb_Md_sets 5 (some .int) :: jk_WA) (jk_rm 2 44) [.ref a_t, jk_V x1, jk_V x2, jk_V x3] (wd_Md_sets cI a_t a_t_w a_t_wKept a_t_saved a_t_past a_t_input a_t_n a_t_order a_t_numbers a_t_output i_t_pastMany i_t_isSaved i_t_thrown i_t_inputMany i_t_lastError i_t_lastOffset i_t_error i_t_offset i_t_nextByte i_t_begin i_t_value i_t_token i_t_got i_t_orders i_t_outputMany i_t_w) (wd_Md_sets cI a_t a_t_w a_t_wKept a_t_saved a_t_past a_t_input a_t_n a_t_order a_t_numbers a_t_output i_t_pastMany i_t_isSaved i_t_thrown i_t_inputMany i_t_lastError i_t_lastOffset i_t_error i_t_offset i_t_nextByte i_t_begin i_t_value i_t_token i_t_got i_t_orders i_t_outputMany q.2) q.1 := by
  intro sz
  refine jk_body (by decide +kernel) (fun p e s m args below meth c hsz hz hin C => ?_) (Nat.le_of_ble_eq_true rfl)
  subst hsz
  unfold fn_Md_sets at hf
  refine jk_aload_n C rd_Md_sets_0 (k := 0) rfl ?_
  refine jk_iload_n C rd_Md_sets_1 (k := 1) rfl ?_
  refine jk_iload_n C rd_Md_sets_2 (k := 2) rfl ?_
  obtain ⟨q3, hq3, hf⟩ := jk_bind_h hf
  refine jk_callVi C hZ.1 hz (ct_Md_knots l D Z sq hZ cI cR a_t a_t_w a_t_wKept a_t_saved a_t_past a_t_input a_t_n a_t_order a_t_numbers a_t_output i_t_pastMany i_t_isSaved i_t_thrown i_t_inputMany i_t_lastError i_t_lastOffset i_t_error i_t_offset i_t_nextByte i_t_begin i_t_value i_t_token i_t_got i_t_orders i_t_outputMany i_t_w x1 x2 q3 hq3) tm_1252 tm_1254 sl_25 tm_15 tm_1255 na_Md_knots ⟨Nat.le_of_ble_eq_true rfl, Nat.le_of_ble_eq_true rfl⟩ rfl [0, 1] rfl rfl rfl (ws' := wd_Md_sets cI a_t a_t_w a_t_wKept a_t_saved a_t_past a_t_input a_t_n a_t_order a_t_numbers a_t_output i_t_pastMany i_t_isSaved i_t_thrown i_t_inputMany i_t_lastError i_t_lastOffset i_t_error i_t_offset i_t_nextByte i_t_begin i_t_value i_t_token i_t_got i_t_orders i_t_outputMany i_t_w) rfl 0 11 rfl rfl rfl (st := []) rfl (Nat.le_of_ble_eq_true rfl) rd_Md_sets_3 ?_ ⟨Nat.le_refl _, Nat.le_refl _⟩
  refine jk_istore C rd_Md_sets_6 (by decide) (lv' := [(4, jk_V q3), (0, .ref a_t), (1, jk_V x1), (2, jk_V x2), (3, jk_V x3)]) rfl ?_
  refine jk_aload_n C rd_Md_sets_8 (k := 1) rfl ?_
  refine jk_iload_n C rd_Md_sets_9 (k := 2) rfl ?_
  refine jk_iconst C rd_Md_sets_10 ?_
  refine jk_aload_n C rd_Md_sets_11 (k := 1) rfl ?_
  refine jk_iload_n C rd_Md_sets_12 (k := 2) rfl ?_
  refine jk_iconst C rd_Md_sets_13 ?_
  obtain ⟨q14, hq14, hf⟩ := jk_bind_h hf
  refine jk_callVi C hZ.1 hz (ct_Md_of l D Z sq hZ cI cR a_t a_t_w a_t_wKept a_t_saved a_t_past a_t_input a_t_n a_t_order a_t_numbers a_t_output i_t_pastMany i_t_isSaved i_t_thrown i_t_inputMany i_t_lastError i_t_lastOffset i_t_error i_t_offset i_t_nextByte i_t_begin i_t_value i_t_token i_t_got i_t_orders i_t_outputMany i_t_w x1 3 q14 hq14) tm_1256 tm_1258 sl_26 tm_15 tm_1259 na_Md_of ⟨Nat.le_of_ble_eq_true rfl, Nat.le_of_ble_eq_true rfl⟩ rfl [0, 1] rfl rfl rfl (ws' := wd_Md_sets cI a_t a_t_w a_t_wKept a_t_saved a_t_past a_t_input a_t_n a_t_order a_t_numbers a_t_output i_t_pastMany i_t_isSaved i_t_thrown i_t_inputMany i_t_lastError i_t_lastOffset i_t_error i_t_offset i_t_nextByte i_t_begin i_t_value i_t_token i_t_got i_t_orders i_t_outputMany i_t_w) rfl 0 11 rfl rfl rfl (st := [jk_V 3, jk_V x1, .ref a_t]) rfl (Nat.le_of_ble_eq_true rfl) rd_Md_sets_14 ?_ ⟨Nat.le_refl _, Nat.le_refl _⟩
  refine jk_iload_n C rd_Md_sets_17 (k := 4) rfl ?_
  refine jk_iload C rd_Md_sets_18 (k := 0) rfl ?_
  refine jk_isub C rd_Md_sets_20 ?_
  refine jk_iload_n C rd_Md_sets_21 (k := 3) rfl ?_
  obtain ⟨q22, hq22, hf⟩ := jk_bind_h hf
  refine jk_callSi C hZ.1 hz (ct_Md_power l D Z sq hZ cI cR x2 q22 hq22) tm_1260 tm_1261 tm_15 tm_1262 na_Md_power ⟨Nat.le_of_ble_eq_true rfl, Nat.le_of_ble_eq_true rfl⟩ rfl [] rfl rfl rfl (ws' := wd_Md_sets cI a_t a_t_w a_t_wKept a_t_saved a_t_past a_t_input a_t_n a_t_order a_t_numbers a_t_output i_t_pastMany i_t_isSaved i_t_thrown i_t_inputMany i_t_lastError i_t_lastOffset i_t_error i_t_offset i_t_nextByte i_t_begin i_t_value i_t_token i_t_got i_t_orders i_t_outputMany i_t_w) rfl (st := [jk_V (x3 - q3), jk_V q14, jk_V 3, jk_V x1, .ref a_t]) rfl (Nat.le_of_ble_eq_true rfl) rd_Md_sets_22 ?_ ⟨Nat.le_refl _, Nat.le_refl _⟩
  refine jk_imul C rd_Md_sets_25 ?_
  refine jk_iadd C rd_Md_sets_26 ?_
  obtain ⟨q27, hq27, hf⟩ := jk_bind_h hf
  refine jk_callVv C hZ.1 hz (ct_Md_puts l D Z sq hZ cI cR a_t a_t_w a_t_wKept a_t_saved a_t_past a_t_input a_t_n a_t_order a_t_numbers a_t_output i_t_pastMany i_t_isSaved i_t_thrown i_t_inputMany i_t_lastError i_t_lastOffset i_t_error i_t_offset i_t_nextByte i_t_begin i_t_value i_t_token i_t_got i_t_orders i_t_outputMany i_t_w x1 3 (q14 + ((x3 - q3) * q22)) q27 hq27) tm_1240 tm_1242 sl_22 tm_15 tm_1243 na_Md_puts ⟨Nat.le_of_ble_eq_true rfl, Nat.le_of_ble_eq_true rfl⟩ rfl [0, 1] rfl rfl rfl (ws' := wd_Md_sets cI a_t a_t_w a_t_wKept a_t_saved a_t_past a_t_input a_t_n a_t_order a_t_numbers a_t_output i_t_pastMany i_t_isSaved i_t_thrown i_t_inputMany i_t_lastError i_t_lastOffset i_t_error i_t_offset i_t_nextByte i_t_begin i_t_value i_t_token i_t_got i_t_orders i_t_outputMany q27) rfl 0 11 rfl rfl rfl (st := []) rfl (Nat.le_of_ble_eq_true rfl) rd_Md_sets_27 ?_ ⟨Nat.le_refl _, Nat.le_refl _⟩
  refine jk_iload C rd_Md_sets_30 (k := 0) rfl ?_
  cases hf
  exact jk_iret C rfl rd_Md_sets_32 rfl
def wd_Md_dyes (cI : ClassId) (a_t a_t_w a_t_wKept a_t_saved a_t_past a_t_input a_t_n a_t_order a_t_numbers a_t_output : Nat) (i_t_pastMany : Int) (i_t_isSaved : Int) (i_t_thrown : Int) (i_t_inputMany : Int) (i_t_lastError : Int) (i_t_lastOffset : Int) (i_t_error : Int) (i_t_offset : Int) (i_t_nextByte : Int) (i_t_begin : Int) (i_t_value : Int) (i_t_token : Int) (i_t_got : Int) (i_t_orders : Int) (i_t_outputMany : Int) (i_t_w : (Int → Int)) : va_W := [(a_t, .inr (11, [.ref a_t_w, .ref a_t_wKept, .ref a_t_saved, .ref a_t_past, jk_V i_t_pastMany, jk_V i_t_isSaved, jk_V i_t_thrown, .ref a_t_input, jk_V i_t_inputMany, jk_V i_t_lastError, jk_V i_t_lastOffset, jk_V i_t_error, jk_V i_t_offset, jk_V i_t_nextByte, jk_V i_t_begin, jk_V i_t_value, jk_V i_t_token, jk_V i_t_got, .ref a_t_n, .ref a_t_order, .ref a_t_numbers, jk_V i_t_orders, .ref a_t_output, jk_V i_t_outputMany])), (a_t_w, jk_W cI 259 i_t_w)]
set_option maxHeartbeats 4000000 in
set_option maxRecDepth 20000 in
theorem ct_Md_dyes (l : Launch) (D : va_G) (Z : (Nat → Prop) → State → Heap → Prop) (sq : Nat → Nat) (hZ : jk_ZK Z sq) (cI cR : ClassId) (a_t a_t_w a_t_wKept a_t_saved a_t_past a_t_input a_t_n a_t_order a_t_numbers a_t_output : Nat) (i_t_pastMany : Int) (i_t_isSaved : Int) (i_t_thrown : Int) (i_t_inputMany : Int) (i_t_lastError : Int) (i_t_lastOffset : Int) (i_t_error : Int) (i_t_offset : Int) (i_t_nextByte : Int) (i_t_begin : Int) (i_t_value : Int) (i_t_token : Int) (i_t_got : Int) (i_t_orders : Int) (i_t_outputMany : Int) (i_t_w : (Int → Int)) (x1 : Int) (x2 : Int) (q : Int × (Int → Int)) (hf : fn_Md_dyes i_t_w x1 x2 = some q) : jk_MI l D jk_cl (jk_ty cI cR) Z mn_Md_dyes (.code mn_Md_dyes mb_Md_dyes 4 (some .int) :: jk_WA) (jk_rm 1 23) [.ref a_t, jk_V x1, jk_V x2] (wd_Md_dyes cI a_t a_t_w a_t_wKept a_t_saved a_t_past a_t_input a_t_n a_t_order a_t_numbers a_t_output i_t_pastMany i_t_isSaved i_t_thrown i_t_inputMany i_t_lastError i_t_lastOffset i_t_error i_t_offset i_t_nextByte i_t_begin i_t_value i_t_token i_t_got i_t_orders i_t_outputMany i_t_w) (wd_Md_dyes cI a_t a_t_w a_t_wKept a_t_saved a_t_past a_t_input a_t_n a_t_order a_t_numbers a_t_output i_t_pastMany i_t_isSaved i_t_thrown i_t_inputMany i_t_lastError i_t_lastOffset i_t_error i_t_offset i_t_nextByte i_t_begin i_t_value i_t_token i_t_got i_t_orders i_t_outputMany q.2) q.1 := by
  intro sz
  refine jk_body (by decide +kernel) (fun p e s m args below meth c hsz hz hin C => ?_) (Nat.le_of_ble_eq_true rfl)
  subst hsz
  unfold fn_Md_dyes at hf
  refine jk_aload_n C rd_Md_dyes_0 (k := 0) rfl ?_
  refine jk_iload_n C rd_Md_dyes_1 (k := 1) rfl ?_
  refine jk_iconst C rd_Md_dyes_2 ?_
  obtain ⟨q3, hq3, hf⟩ := jk_bind_h hf
  refine jk_callVi C hZ.1 hz (ct_Md_of l D Z sq hZ cI cR a_t a_t_w a_t_wKept a_t_saved a_t_past a_t_input a_t_n a_t_order a_t_numbers a_t_output i_t_pastMany i_t_isSaved i_t_thrown i_t_inputMany i_t_lastError i_t_lastOffset i_t_error i_t_offset i_t_nextByte i_t_begin i_t_value i_t_token i_t_got i_t_orders i_t_outputMany i_t_w x1 2 q3 hq3) tm_1256 tm_1258 sl_26 tm_15 tm_1259 na_Md_of ⟨Nat.le_of_ble_eq_true rfl, Nat.le_of_ble_eq_true rfl⟩ rfl [0, 1] rfl rfl rfl (ws' := wd_Md_dyes cI a_t a_t_w a_t_wKept a_t_saved a_t_past a_t_input a_t_n a_t_order a_t_numbers a_t_output i_t_pastMany i_t_isSaved i_t_thrown i_t_inputMany i_t_lastError i_t_lastOffset i_t_error i_t_offset i_t_nextByte i_t_begin i_t_value i_t_token i_t_got i_t_orders i_t_outputMany i_t_w) rfl 0 11 rfl rfl rfl (st := []) rfl (Nat.le_of_ble_eq_true rfl) rd_Md_dyes_3 ?_ ⟨Nat.le_refl _, Nat.le_refl _⟩
  refine jk_istore_n C rd_Md_dyes_6 (by decide) (lv' := [(3, jk_V q3), (0, .ref a_t), (1, jk_V x1), (2, jk_V x2)]) rfl ?_
  refine jk_aload_n C rd_Md_dyes_7 (k := 1) rfl ?_
  refine jk_iload_n C rd_Md_dyes_8 (k := 2) rfl ?_
  refine jk_iconst C rd_Md_dyes_9 ?_
  refine jk_iload_n C rd_Md_dyes_10 (k := 3) rfl ?_
  obtain ⟨q11, hq11, hf⟩ := jk_bind_h hf
  refine jk_callVv C hZ.1 hz (ct_Md_puts l D Z sq hZ cI cR a_t a_t_w a_t_wKept a_t_saved a_t_past a_t_input a_t_n a_t_order a_t_numbers a_t_output i_t_pastMany i_t_isSaved i_t_thrown i_t_inputMany i_t_lastError i_t_lastOffset i_t_error i_t_offset i_t_nextByte i_t_begin i_t_value i_t_token i_t_got i_t_orders i_t_outputMany i_t_w x1 2 x2 q11 hq11) tm_1240 tm_1242 sl_22 tm_15 tm_1243 na_Md_puts ⟨Nat.le_of_ble_eq_true rfl, Nat.le_of_ble_eq_true rfl⟩ rfl [0, 1] rfl rfl rfl (ws' := wd_Md_dyes cI a_t a_t_w a_t_wKept a_t_saved a_t_past a_t_input a_t_n a_t_order a_t_numbers a_t_output i_t_pastMany i_t_isSaved i_t_thrown i_t_inputMany i_t_lastError i_t_lastOffset i_t_error i_t_offset i_t_nextByte i_t_begin i_t_value i_t_token i_t_got i_t_orders i_t_outputMany q11) rfl 0 11 rfl rfl rfl (st := []) rfl (Nat.le_of_ble_eq_true rfl) rd_Md_dyes_11 ?_ ⟨Nat.le_refl _, Nat.le_refl _⟩
  refine jk_iload_n C rd_Md_dyes_14 (k := 0) rfl ?_
  cases hf
  exact jk_iret C rfl rd_Md_dyes_15 rfl
def wd_Md_remembers (cI : ClassId) (a_t a_t_w a_t_wKept a_t_saved a_t_past a_t_input a_t_n a_t_order a_t_numbers a_t_output : Nat) (i_t_pastMany : Int) (i_t_isSaved : Int) (i_t_thrown : Int) (i_t_inputMany : Int) (i_t_lastError : Int) (i_t_lastOffset : Int) (i_t_error : Int) (i_t_offset : Int) (i_t_nextByte : Int) (i_t_begin : Int) (i_t_value : Int) (i_t_token : Int) (i_t_got : Int) (i_t_orders : Int) (i_t_outputMany : Int) (i_t_w : (Int → Int)) (i_t_past : (Int → Int)) : va_W := [(a_t, .inr (11, [.ref a_t_w, .ref a_t_wKept, .ref a_t_saved, .ref a_t_past, jk_V i_t_pastMany, jk_V i_t_isSaved, jk_V i_t_thrown, .ref a_t_input, jk_V i_t_inputMany, jk_V i_t_lastError, jk_V i_t_lastOffset, jk_V i_t_error, jk_V i_t_offset, jk_V i_t_nextByte, jk_V i_t_begin, jk_V i_t_value, jk_V i_t_token, jk_V i_t_got, .ref a_t_n, .ref a_t_order, .ref a_t_numbers, jk_V i_t_orders, .ref a_t_output, jk_V i_t_outputMany])), (a_t_w, jk_W cI 259 i_t_w), (a_t_past, jk_W cI 2072 i_t_past)]
set_option maxHeartbeats 4000000 in
set_option maxRecDepth 20000 in
theorem ct_Md_remembers (l : Launch) (D : va_G) (Z : (Nat → Prop) → State → Heap → Prop) (sq : Nat → Nat) (hZ : jk_ZK Z sq) (cI cR : ClassId) (a_t a_t_w a_t_wKept a_t_saved a_t_past a_t_input a_t_n a_t_order a_t_numbers a_t_output : Nat) (i_t_pastMany : Int) (i_t_isSaved : Int) (i_t_thrown : Int) (i_t_inputMany : Int) (i_t_lastError : Int) (i_t_lastOffset : Int) (i_t_error : Int) (i_t_offset : Int) (i_t_nextByte : Int) (i_t_begin : Int) (i_t_value : Int) (i_t_token : Int) (i_t_got : Int) (i_t_orders : Int) (i_t_outputMany : Int) (i_t_w : (Int → Int)) (i_t_past : (Int → Int)) (q : (Int → Int) × Int) (hf : fn_Md_remembers i_t_w i_t_past i_t_pastMany = some q) : jk_MV l D jk_cl (jk_ty cI cR) Z mn_Md_remembers (.code mn_Md_remembers mb_Md_remembers 2 none :: jk_WA) (jk_rm 1 24) [.ref a_t] (wd_Md_remembers cI a_t a_t_w a_t_wKept a_t_saved a_t_past a_t_input a_t_n a_t_order a_t_numbers a_t_output i_t_pastMany i_t_isSaved i_t_thrown i_t_inputMany i_t_lastError i_t_lastOffset i_t_error i_t_offset i_t_nextByte i_t_begin i_t_value i_t_token i_t_got i_t_orders i_t_outputMany i_t_w i_t_past) (wd_Md_remembers cI a_t a_t_w a_t_wKept a_t_saved a_t_past a_t_input a_t_n a_t_order a_t_numbers a_t_output q.2 i_t_isSaved i_t_thrown i_t_inputMany i_t_lastError i_t_lastOffset i_t_error i_t_offset i_t_nextByte i_t_begin i_t_value i_t_token i_t_got i_t_orders i_t_outputMany i_t_w q.1) := by
  intro sz
  refine jk_body (by decide +kernel) (fun p e s m args below meth c hsz hz hin C => ?_) (Nat.le_of_ble_eq_true rfl)
  subst hsz
  unfold fn_Md_remembers at hf
  have bk_50 : ∀ (t_past : (Int → Int)) (t_pastMany : Int), fn_Md_remembers_b50 i_t_w t_past t_pastMany = some q → jk_J p l e (jk_rm 1 24) s m args below meth c 0 0 (jk_QV below D jk_cl (jk_ty cI cR) (wd_Md_remembers cI a_t a_t_w a_t_wKept a_t_saved a_t_past a_t_input a_t_n a_t_order a_t_numbers a_t_output i_t_pastMany i_t_isSaved i_t_thrown i_t_inputMany i_t_lastError i_t_lastOffset i_t_error i_t_offset i_t_nextByte i_t_begin i_t_value i_t_token i_t_got i_t_orders i_t_outputMany i_t_w i_t_past) (wd_Md_remembers cI a_t a_t_w a_t_wKept a_t_saved a_t_past a_t_input a_t_n a_t_order a_t_numbers a_t_output q.2 i_t_isSaved i_t_thrown i_t_inputMany i_t_lastError i_t_lastOffset i_t_error i_t_offset i_t_nextByte i_t_begin i_t_value i_t_token i_t_got i_t_orders i_t_outputMany i_t_w q.1) args s) D jk_cl (va_A (wd_Md_remembers cI a_t a_t_w a_t_wKept a_t_saved a_t_past a_t_input a_t_n a_t_order a_t_numbers a_t_output i_t_pastMany i_t_isSaved i_t_thrown i_t_inputMany i_t_lastError i_t_lastOffset i_t_error i_t_offset i_t_nextByte i_t_begin i_t_value i_t_token i_t_got i_t_orders i_t_outputMany i_t_w i_t_past) s.heap.size) 2 (wd_Md_remembers cI a_t a_t_w a_t_wKept a_t_saved a_t_past a_t_input a_t_n a_t_order a_t_numbers a_t_output t_pastMany i_t_isSaved i_t_thrown i_t_inputMany i_t_lastError i_t_lastOffset i_t_error i_t_offset i_t_nextByte i_t_begin i_t_value i_t_token i_t_got i_t_orders i_t_outputMany i_t_w t_past) [(0, .ref a_t)] 50 [] := by
    intro t_past t_pastMany hf
    unfold fn_Md_remembers_b50 at hf
    refine jk_aload_n C rd_Md_remembers_50 (k := 0) rfl ?_
    refine jk_get C in_Md (ci := 11) rfl 0 (by decide) tm_1263 0 rfl rfl rd_Md_remembers_51 ?_
    refine jk_iconst C rd_Md_remembers_54 ?_
    refine jk_aload_n C rd_Md_remembers_55 (k := 0) rfl ?_
    refine jk_get C in_Md (ci := 11) rfl 3 (by decide) tm_1266 0 rfl rfl rd_Md_remembers_56 ?_
    refine jk_sipush C rd_Md_remembers_59 (by decide +kernel) ?_
    refine jk_aload_n C rd_Md_remembers_62 (k := 0) rfl ?_
    refine jk_get C in_Md (ci := 11) rfl 4 (by decide) tm_1267 0 rfl rfl rd_Md_remembers_63 ?_
    refine jk_imul C rd_Md_remembers_66 ?_
    obtain ⟨q67, hq67, hf⟩ := jk_bind_h hf
    refine jk_callSv C hZ.1 hz (ct_Md_copies l D Z sq hZ cI cR (n_a := 259) (n_b := 2072) (Nat.le_of_ble_eq_true rfl) (Nat.le_of_ble_eq_true rfl) a_t_w a_t_past i_t_w t_past 0 (259 * t_pastMany) q67 hq67) tm_1359 tm_1360 tm_15 tm_1361 na_Md_copies ⟨Nat.le_of_ble_eq_true rfl, Nat.le_of_ble_eq_true rfl⟩ rfl [1, 2] rfl rfl rfl (ws' := wd_Md_remembers cI a_t a_t_w a_t_wKept a_t_saved a_t_past a_t_input a_t_n a_t_order a_t_numbers a_t_output t_pastMany i_t_isSaved i_t_thrown i_t_inputMany i_t_lastError i_t_lastOffset i_t_error i_t_offset i_t_nextByte i_t_begin i_t_value i_t_token i_t_got i_t_orders i_t_outputMany i_t_w q67) rfl (st := []) rfl (Nat.le_of_ble_eq_true rfl) rd_Md_remembers_67 ?_ ⟨Nat.le_refl _, Nat.le_refl _⟩
    refine jk_aload_n C rd_Md_remembers_70 (k := 0) rfl ?_
    refine jk_dup C rd_Md_remembers_71 rfl ?_
    refine jk_get C in_Md (ci := 11) rfl 4 (by decide) tm_1267 0 rfl rfl rd_Md_remembers_72 ?_
    refine jk_iconst C rd_Md_remembers_75 ?_
    refine jk_iadd C rd_Md_remembers_76 ?_
    refine jk_putf C in_Md ty_Md nm_Md (ci := 11) rfl 4 (by decide) tm_1267 rfl rfl rfl 0 rfl (Nat.le_of_ble_eq_true rfl) rd_Md_remembers_77 (ws' := wd_Md_remembers cI a_t a_t_w a_t_wKept a_t_saved a_t_past a_t_input a_t_n a_t_order a_t_numbers a_t_output (t_pastMany + 1) i_t_isSaved i_t_thrown i_t_inputMany i_t_lastError i_t_lastOffset i_t_error i_t_offset i_t_nextByte i_t_begin i_t_value i_t_token i_t_got i_t_orders i_t_outputMany i_t_w q67) rfl ?_
    cases hf
    exact jk_vret C rfl rd_Md_remembers_80 rfl
  have bk_11 : ∀ (n : Nat) (t_past : (Int → Int)) (t_pastMany : Int) (v1 : Int), fn_Md_remembers_b11 n i_t_w t_past t_pastMany v1 = some q → jk_J p l e (jk_rm 1 24) s m args below meth c 0 0 (jk_QV below D jk_cl (jk_ty cI cR) (wd_Md_remembers cI a_t a_t_w a_t_wKept a_t_saved a_t_past a_t_input a_t_n a_t_order a_t_numbers a_t_output i_t_pastMany i_t_isSaved i_t_thrown i_t_inputMany i_t_lastError i_t_lastOffset i_t_error i_t_offset i_t_nextByte i_t_begin i_t_value i_t_token i_t_got i_t_orders i_t_outputMany i_t_w i_t_past) (wd_Md_remembers cI a_t a_t_w a_t_wKept a_t_saved a_t_past a_t_input a_t_n a_t_order a_t_numbers a_t_output q.2 i_t_isSaved i_t_thrown i_t_inputMany i_t_lastError i_t_lastOffset i_t_error i_t_offset i_t_nextByte i_t_begin i_t_value i_t_token i_t_got i_t_orders i_t_outputMany i_t_w q.1) args s) D jk_cl (va_A (wd_Md_remembers cI a_t a_t_w a_t_wKept a_t_saved a_t_past a_t_input a_t_n a_t_order a_t_numbers a_t_output i_t_pastMany i_t_isSaved i_t_thrown i_t_inputMany i_t_lastError i_t_lastOffset i_t_error i_t_offset i_t_nextByte i_t_begin i_t_value i_t_token i_t_got i_t_orders i_t_outputMany i_t_w i_t_past) s.heap.size) 2 (wd_Md_remembers cI a_t a_t_w a_t_wKept a_t_saved a_t_past a_t_input a_t_n a_t_order a_t_numbers a_t_output t_pastMany i_t_isSaved i_t_thrown i_t_inputMany i_t_lastError i_t_lastOffset i_t_error i_t_offset i_t_nextByte i_t_begin i_t_value i_t_token i_t_got i_t_orders i_t_outputMany i_t_w t_past) [(0, .ref a_t), (1, jk_V v1)] 11 [] := by
    intro n
    induction n with
    | zero => intro t_past t_pastMany v1 hf; exact nomatch (show none = some q from hf)
    | succ n ih =>
      intro t_past t_pastMany v1 hf
      rw [fn_Md_remembers_b11] at hf
      refine jk_iload_n C rd_Md_remembers_11 (k := 1) rfl ?_
      refine jk_sipush C rd_Md_remembers_12 (by decide +kernel) ?_
      refine jk_icmp_ge (tgt := 40) C rd_Md_remembers_15 (by decide) hf (fun _ hf => ?_) (fun _ hf => ?_)
      · refine jk_aload_n C rd_Md_remembers_40 (k := 0) rfl ?_
        refine jk_dup C rd_Md_remembers_41 rfl ?_
        refine jk_get C in_Md (ci := 11) rfl 4 (by decide) tm_1267 0 rfl rfl rd_Md_remembers_42 ?_
        refine jk_iconst C rd_Md_remembers_45 ?_
        refine jk_isub C rd_Md_remembers_46 ?_
        refine jk_putf C in_Md ty_Md nm_Md (ci := 11) rfl 4 (by decide) tm_1267 rfl rfl rfl 0 rfl (Nat.le_of_ble_eq_true rfl) rd_Md_remembers_47 (ws' := wd_Md_remembers cI a_t a_t_w a_t_wKept a_t_saved a_t_past a_t_input a_t_n a_t_order a_t_numbers a_t_output (t_pastMany - 1) i_t_isSaved i_t_thrown i_t_inputMany i_t_lastError i_t_lastOffset i_t_error i_t_offset i_t_nextByte i_t_begin i_t_value i_t_token i_t_got i_t_orders i_t_outputMany i_t_w t_past) rfl ?_
        refine jk_lv (lv' := [(0, .ref a_t)]) [0] rfl ?_
        exact bk_50 t_past (t_pastMany - 1) hf
      · refine jk_aload_n C rd_Md_remembers_18 (k := 0) rfl ?_
        refine jk_get C in_Md (ci := 11) rfl 3 (by decide) tm_1266 0 rfl rfl rd_Md_remembers_19 ?_
        refine jk_iload_n C rd_Md_remembers_22 (k := 1) rfl ?_
        refine jk_aload_n C rd_Md_remembers_23 (k := 0) rfl ?_
        refine jk_get C in_Md (ci := 11) rfl 3 (by decide) tm_1266 0 rfl rfl rd_Md_remembers_24 ?_
        refine jk_iload_n C rd_Md_remembers_27 (k := 1) rfl ?_
        refine jk_sipush C rd_Md_remembers_28 (by decide +kernel) ?_
        refine jk_iadd C rd_Md_remembers_31 ?_
        refine jk_iald C 2 0 rfl rfl (Nat.le_of_ble_eq_true rfl) rd_Md_remembers_32 hf (fun hf => ?_)
        refine jk_iast C 2 0 rfl rfl (Nat.le_of_ble_eq_true rfl) rd_Md_remembers_33 hf (ws' := wd_Md_remembers cI a_t a_t_w a_t_wKept a_t_saved a_t_past a_t_input a_t_n a_t_order a_t_numbers a_t_output t_pastMany i_t_isSaved i_t_thrown i_t_inputMany i_t_lastError i_t_lastOffset i_t_error i_t_offset i_t_nextByte i_t_begin i_t_value i_t_token i_t_got i_t_orders i_t_outputMany i_t_w (jk_up t_past v1 (t_past (v1 + 259)))) rfl (fun hf => ?_)
        refine jk_iinc C rd_Md_remembers_34 (k := 1) rfl (by decide) (lv' := [(1, jk_V (v1 + 1)), (0, .ref a_t)]) rfl ?_
        refine jk_goto (tgt := 11) C rd_Md_remembers_37 (by decide) ?_
        refine jk_lv (lv' := [(0, .ref a_t), (1, jk_V (v1 + 1))]) [1, 0] rfl ?_
        exact ih (jk_up t_past v1 (t_past (v1 + 259))) t_pastMany (v1 + 1) hf
  refine jk_aload_n C rd_Md_remembers_0 (k := 0) rfl ?_
  refine jk_get C in_Md (ci := 11) rfl 4 (by decide) tm_1267 0 rfl rfl rd_Md_remembers_1 ?_
  refine jk_bipush C rd_Md_remembers_4 (by decide +kernel) ?_
  refine jk_icmp_ne (tgt := 50) C rd_Md_remembers_6 (by decide) hf (fun _ hf => ?_) (fun _ hf => ?_)
  · refine jk_lv (lv' := [(0, .ref a_t)]) [0] rfl ?_
    exact bk_50 i_t_past i_t_pastMany hf
  · refine jk_iconst C rd_Md_remembers_9 ?_
    refine jk_istore_n C rd_Md_remembers_10 (by decide) (lv' := [(1, jk_V 0), (0, .ref a_t)]) rfl ?_
    refine jk_lv (lv' := [(0, .ref a_t), (1, jk_V 0)]) [1, 0] rfl ?_
    exact bk_11 jk_F i_t_past i_t_pastMany 0 hf
def wd_Md_appendWord (cI : ClassId) (a_t a_t_w a_t_wKept a_t_saved a_t_past a_t_input a_t_n a_t_order a_t_numbers a_t_output : Nat) (i_t_pastMany : Int) (i_t_isSaved : Int) (i_t_thrown : Int) (i_t_inputMany : Int) (i_t_lastError : Int) (i_t_lastOffset : Int) (i_t_error : Int) (i_t_offset : Int) (i_t_nextByte : Int) (i_t_begin : Int) (i_t_value : Int) (i_t_token : Int) (i_t_got : Int) (i_t_orders : Int) (i_t_outputMany : Int) (i_t_input : (Int → Int)) : va_W := [(a_t, .inr (11, [.ref a_t_w, .ref a_t_wKept, .ref a_t_saved, .ref a_t_past, jk_V i_t_pastMany, jk_V i_t_isSaved, jk_V i_t_thrown, .ref a_t_input, jk_V i_t_inputMany, jk_V i_t_lastError, jk_V i_t_lastOffset, jk_V i_t_error, jk_V i_t_offset, jk_V i_t_nextByte, jk_V i_t_begin, jk_V i_t_value, jk_V i_t_token, jk_V i_t_got, .ref a_t_n, .ref a_t_order, .ref a_t_numbers, jk_V i_t_orders, .ref a_t_output, jk_V i_t_outputMany])), (a_t_input, jk_W cI 700 i_t_input)]
set_option maxHeartbeats 4000000 in
set_option maxRecDepth 20000 in
theorem ct_Md_appendWord (l : Launch) (D : va_G) (Z : (Nat → Prop) → State → Heap → Prop) (sq : Nat → Nat) (hZ : jk_ZK Z sq) (cI cR : ClassId) (a_t a_t_w a_t_wKept a_t_saved a_t_past a_t_input a_t_n a_t_order a_t_numbers a_t_output : Nat) (i_t_pastMany : Int) (i_t_isSaved : Int) (i_t_thrown : Int) (i_t_inputMany : Int) (i_t_lastError : Int) (i_t_lastOffset : Int) (i_t_error : Int) (i_t_offset : Int) (i_t_nextByte : Int) (i_t_begin : Int) (i_t_value : Int) (i_t_token : Int) (i_t_got : Int) (i_t_orders : Int) (i_t_outputMany : Int) (i_t_input : (Int → Int)) (x1 : Int) (q : (Int → Int) × Int) (hf : fn_Md_appendWord i_t_input i_t_inputMany x1 = some q) : jk_MV l D jk_cl (jk_ty cI cR) Z mn_Md_appendWord (.code mn_Md_appendWord mb_Md_appendWord 3 none :: jk_WA) (jk_rm 0 0) [.ref a_t, jk_V x1] (wd_Md_appendWord cI a_t a_t_w a_t_wKept a_t_saved a_t_past a_t_input a_t_n a_t_order a_t_numbers a_t_output i_t_pastMany i_t_isSaved i_t_thrown i_t_inputMany i_t_lastError i_t_lastOffset i_t_error i_t_offset i_t_nextByte i_t_begin i_t_value i_t_token i_t_got i_t_orders i_t_outputMany i_t_input) (wd_Md_appendWord cI a_t a_t_w a_t_wKept a_t_saved a_t_past a_t_input a_t_n a_t_order a_t_numbers a_t_output i_t_pastMany i_t_isSaved i_t_thrown q.2 i_t_lastError i_t_lastOffset i_t_error i_t_offset i_t_nextByte i_t_begin i_t_value i_t_token i_t_got i_t_orders i_t_outputMany q.1) := by
  intro sz
  refine jk_body (by decide +kernel) (fun p e s m args below meth c hsz hz hin C => ?_) (Nat.le_of_ble_eq_true rfl)
  subst hsz
  unfold fn_Md_appendWord at hf
  have bk_3 : ∀ (n : Nat) (t_input : (Int → Int)) (t_inputMany : Int) (v1 : Int) (v2 : Int), fn_Md_appendWord_b3 n t_input t_inputMany v1 v2 = some q → jk_J p l e (jk_rm 0 0) s m args below meth c 0 0 (jk_QV below D jk_cl (jk_ty cI cR) (wd_Md_appendWord cI a_t a_t_w a_t_wKept a_t_saved a_t_past a_t_input a_t_n a_t_order a_t_numbers a_t_output i_t_pastMany i_t_isSaved i_t_thrown i_t_inputMany i_t_lastError i_t_lastOffset i_t_error i_t_offset i_t_nextByte i_t_begin i_t_value i_t_token i_t_got i_t_orders i_t_outputMany i_t_input) (wd_Md_appendWord cI a_t a_t_w a_t_wKept a_t_saved a_t_past a_t_input a_t_n a_t_order a_t_numbers a_t_output i_t_pastMany i_t_isSaved i_t_thrown q.2 i_t_lastError i_t_lastOffset i_t_error i_t_offset i_t_nextByte i_t_begin i_t_value i_t_token i_t_got i_t_orders i_t_outputMany q.1) args s) D jk_cl (va_A (wd_Md_appendWord cI a_t a_t_w a_t_wKept a_t_saved a_t_past a_t_input a_t_n a_t_order a_t_numbers a_t_output i_t_pastMany i_t_isSaved i_t_thrown i_t_inputMany i_t_lastError i_t_lastOffset i_t_error i_t_offset i_t_nextByte i_t_begin i_t_value i_t_token i_t_got i_t_orders i_t_outputMany i_t_input) s.heap.size) 3 (wd_Md_appendWord cI a_t a_t_w a_t_wKept a_t_saved a_t_past a_t_input a_t_n a_t_order a_t_numbers a_t_output i_t_pastMany i_t_isSaved i_t_thrown t_inputMany i_t_lastError i_t_lastOffset i_t_error i_t_offset i_t_nextByte i_t_begin i_t_value i_t_token i_t_got i_t_orders i_t_outputMany t_input) [(0, .ref a_t), (1, jk_V v1), (2, jk_V v2)] 3 [] := by
    intro n
    induction n with
    | zero => intro t_input t_inputMany v1 v2 hf; exact nomatch (show none = some q from hf)
    | succ n ih =>
      intro t_input t_inputMany v1 v2 hf
      rw [fn_Md_appendWord_b3] at hf
      refine jk_iload_n C rd_Md_appendWord_3 (k := 2) rfl ?_
      refine jk_if_lt (tgt := 39) C rd_Md_appendWord_4 (by decide) hf (fun _ hf => ?_) (fun _ hf => ?_)
      · cases hf
        exact jk_vret C rfl rd_Md_appendWord_39 rfl
      · refine jk_aload_n C rd_Md_appendWord_7 (k := 0) rfl ?_
        refine jk_get C in_Md (ci := 11) rfl 7 (by decide) tm_1270 0 rfl rfl rd_Md_appendWord_8 ?_
        refine jk_aload_n C rd_Md_appendWord_11 (k := 0) rfl ?_
        refine jk_get C in_Md (ci := 11) rfl 8 (by decide) tm_1271 0 rfl rfl rd_Md_appendWord_12 ?_
        refine jk_iload_n C rd_Md_appendWord_15 (k := 1) rfl ?_
        refine jk_iload_n C rd_Md_appendWord_16 (k := 2) rfl ?_
        refine jk_ishr C rd_Md_appendWord_17 ?_
        refine jk_sipush C rd_Md_appendWord_18 (by decide +kernel) ?_
        refine jk_iand C rd_Md_appendWord_21 ?_
        refine jk_iast C 1 0 rfl rfl (Nat.le_of_ble_eq_true rfl) rd_Md_appendWord_22 hf (ws' := wd_Md_appendWord cI a_t a_t_w a_t_wKept a_t_saved a_t_past a_t_input a_t_n a_t_order a_t_numbers a_t_output i_t_pastMany i_t_isSaved i_t_thrown t_inputMany i_t_lastError i_t_lastOffset i_t_error i_t_offset i_t_nextByte i_t_begin i_t_value i_t_token i_t_got i_t_orders i_t_outputMany (jk_up t_input t_inputMany (jk_and (jk_shr v1 v2) 255))) rfl (fun hf => ?_)
        refine jk_aload_n C rd_Md_appendWord_23 (k := 0) rfl ?_
        refine jk_dup C rd_Md_appendWord_24 rfl ?_
        refine jk_get C in_Md (ci := 11) rfl 8 (by decide) tm_1271 0 rfl rfl rd_Md_appendWord_25 ?_
        refine jk_iconst C rd_Md_appendWord_28 ?_
        refine jk_iadd C rd_Md_appendWord_29 ?_
        refine jk_putf C in_Md ty_Md nm_Md (ci := 11) rfl 8 (by decide) tm_1271 rfl rfl rfl 0 rfl (Nat.le_of_ble_eq_true rfl) rd_Md_appendWord_30 (ws' := wd_Md_appendWord cI a_t a_t_w a_t_wKept a_t_saved a_t_past a_t_input a_t_n a_t_order a_t_numbers a_t_output i_t_pastMany i_t_isSaved i_t_thrown (t_inputMany + 1) i_t_lastError i_t_lastOffset i_t_error i_t_offset i_t_nextByte i_t_begin i_t_value i_t_token i_t_got i_t_orders i_t_outputMany (jk_up t_input t_inputMany (jk_and (jk_shr v1 v2) 255))) rfl ?_
        refine jk_iinc C rd_Md_appendWord_33 (k := 2) rfl (by decide) (lv' := [(2, jk_V (v2 + (-8))), (0, .ref a_t), (1, jk_V v1)]) rfl ?_
        refine jk_goto (tgt := 3) C rd_Md_appendWord_36 (by decide) ?_
        refine jk_lv (lv' := [(0, .ref a_t), (1, jk_V v1), (2, jk_V (v2 + (-8)))]) [1, 2, 0] rfl ?_
        exact ih (jk_up t_input t_inputMany (jk_and (jk_shr v1 v2) 255)) (t_inputMany + 1) v1 (v2 + (-8)) hf
  refine jk_bipush C rd_Md_appendWord_0 (by decide +kernel) ?_
  refine jk_istore_n C rd_Md_appendWord_2 (by decide) (lv' := [(2, jk_V 24), (0, .ref a_t), (1, jk_V x1)]) rfl ?_
  refine jk_lv (lv' := [(0, .ref a_t), (1, jk_V x1), (2, jk_V 24)]) [1, 2, 0] rfl ?_
  exact bk_3 jk_F i_t_input i_t_inputMany x1 24 hf
def wd_Md_appendInput (cI : ClassId) (a_t a_t_w a_t_wKept a_t_saved a_t_past a_t_input a_t_n a_t_order a_t_numbers a_t_output : Nat) (i_t_pastMany : Int) (i_t_isSaved : Int) (i_t_thrown : Int) (i_t_inputMany : Int) (i_t_lastError : Int) (i_t_lastOffset : Int) (i_t_error : Int) (i_t_offset : Int) (i_t_nextByte : Int) (i_t_begin : Int) (i_t_value : Int) (i_t_token : Int) (i_t_got : Int) (i_t_orders : Int) (i_t_outputMany : Int) (i_t_input : (Int → Int)) : va_W := [(a_t, .inr (11, [.ref a_t_w, .ref a_t_wKept, .ref a_t_saved, .ref a_t_past, jk_V i_t_pastMany, jk_V i_t_isSaved, jk_V i_t_thrown, .ref a_t_input, jk_V i_t_inputMany, jk_V i_t_lastError, jk_V i_t_lastOffset, jk_V i_t_error, jk_V i_t_offset, jk_V i_t_nextByte, jk_V i_t_begin, jk_V i_t_value, jk_V i_t_token, jk_V i_t_got, .ref a_t_n, .ref a_t_order, .ref a_t_numbers, jk_V i_t_orders, .ref a_t_output, jk_V i_t_outputMany])), (a_t_input, jk_W cI 700 i_t_input)]
set_option maxHeartbeats 4000000 in
set_option maxRecDepth 20000 in
theorem ct_Md_appendInput (l : Launch) (D : va_G) (Z : (Nat → Prop) → State → Heap → Prop) (sq : Nat → Nat) (hZ : jk_ZK Z sq) (cI cR : ClassId) (a_t a_t_w a_t_wKept a_t_saved a_t_past a_t_input a_t_n a_t_order a_t_numbers a_t_output : Nat) (i_t_pastMany : Int) (i_t_isSaved : Int) (i_t_thrown : Int) (i_t_inputMany : Int) (i_t_lastError : Int) (i_t_lastOffset : Int) (i_t_error : Int) (i_t_offset : Int) (i_t_nextByte : Int) (i_t_begin : Int) (i_t_value : Int) (i_t_token : Int) (i_t_got : Int) (i_t_orders : Int) (i_t_outputMany : Int) (i_t_input : (Int → Int)) (x1 : Int) (x2 : Int) (x3 : Int) (x4 : Int) (x5 : Int) (q : Int × Int × (Int → Int) × Int) (hf : fn_Md_appendInput i_t_thrown i_t_input i_t_inputMany x1 x2 x3 x4 x5 = some q) : jk_MI l D jk_cl (jk_ty cI cR) Z mn_Md_appendInput (.code mn_Md_appendInput mb_Md_appendInput 6 (some .int) :: jk_WA) (jk_rm 1 22) [.ref a_t, jk_V x1, jk_V x2, jk_V x3, jk_V x4, jk_V x5] (wd_Md_appendInput cI a_t a_t_w a_t_wKept a_t_saved a_t_past a_t_input a_t_n a_t_order a_t_numbers a_t_output i_t_pastMany i_t_isSaved i_t_thrown i_t_inputMany i_t_lastError i_t_lastOffset i_t_error i_t_offset i_t_nextByte i_t_begin i_t_value i_t_token i_t_got i_t_orders i_t_outputMany i_t_input) (wd_Md_appendInput cI a_t a_t_w a_t_wKept a_t_saved a_t_past a_t_input a_t_n a_t_order a_t_numbers a_t_output i_t_pastMany i_t_isSaved q.2.1 q.2.2.2 i_t_lastError i_t_lastOffset i_t_error i_t_offset i_t_nextByte i_t_begin i_t_value i_t_token i_t_got i_t_orders i_t_outputMany q.2.2.1) q.1 := by
  intro sz
  refine jk_body (by decide +kernel) (fun p e s m args below meth c hsz hz hin C => ?_) (Nat.le_of_ble_eq_true rfl)
  subst hsz
  unfold fn_Md_appendInput at hf
  refine jk_aload_n C rd_Md_appendInput_0 (k := 0) rfl ?_
  refine jk_iconst C rd_Md_appendInput_1 ?_
  refine jk_putf C in_Md ty_Md nm_Md (ci := 11) rfl 6 (by decide) tm_1269 rfl rfl rfl 0 rfl (Nat.le_of_ble_eq_true rfl) rd_Md_appendInput_2 (ws' := wd_Md_appendInput cI a_t a_t_w a_t_wKept a_t_saved a_t_past a_t_input a_t_n a_t_order a_t_numbers a_t_output i_t_pastMany i_t_isSaved 0 i_t_inputMany i_t_lastError i_t_lastOffset i_t_error i_t_offset i_t_nextByte i_t_begin i_t_value i_t_token i_t_got i_t_orders i_t_outputMany i_t_input) rfl ?_
  refine jk_aload_n C rd_Md_appendInput_5 (k := 0) rfl ?_
  refine jk_get C in_Md (ci := 11) rfl 8 (by decide) tm_1271 0 rfl rfl rd_Md_appendInput_6 ?_
  refine jk_bipush C rd_Md_appendInput_9 (by decide +kernel) ?_
  refine jk_iadd C rd_Md_appendInput_11 ?_
  refine jk_sipush C rd_Md_appendInput_12 (by decide +kernel) ?_
  refine jk_icmp_le (tgt := 20) C rd_Md_appendInput_15 (by decide) hf (fun _ hf => ?_) (fun _ hf => ?_)
  · refine jk_aload_n C rd_Md_appendInput_20 (k := 0) rfl ?_
    refine jk_iload_n C rd_Md_appendInput_21 (k := 1) rfl ?_
    obtain ⟨q22, hq22, hf⟩ := jk_bind_h hf
    refine jk_callVv C hZ.1 hz (ct_Md_appendWord l D Z sq hZ cI cR a_t a_t_w a_t_wKept a_t_saved a_t_past a_t_input a_t_n a_t_order a_t_numbers a_t_output i_t_pastMany i_t_isSaved 0 i_t_inputMany i_t_lastError i_t_lastOffset i_t_error i_t_offset i_t_nextByte i_t_begin i_t_value i_t_token i_t_got i_t_orders i_t_outputMany i_t_input x1 q22 hq22) tm_1344 tm_1346 sl_27 tm_15 tm_1347 na_Md_appendWord ⟨Nat.le_of_ble_eq_true rfl, Nat.le_of_ble_eq_true rfl⟩ rfl [0, 1] rfl rfl rfl (ws' := wd_Md_appendInput cI a_t a_t_w a_t_wKept a_t_saved a_t_past a_t_input a_t_n a_t_order a_t_numbers a_t_output i_t_pastMany i_t_isSaved 0 q22.2 i_t_lastError i_t_lastOffset i_t_error i_t_offset i_t_nextByte i_t_begin i_t_value i_t_token i_t_got i_t_orders i_t_outputMany q22.1) rfl 0 11 rfl rfl rfl (st := []) rfl (Nat.le_of_ble_eq_true rfl) rd_Md_appendInput_22 ?_ ⟨Nat.le_refl _, Nat.le_refl _⟩
    refine jk_aload_n C rd_Md_appendInput_25 (k := 0) rfl ?_
    refine jk_iload_n C rd_Md_appendInput_26 (k := 2) rfl ?_
    obtain ⟨q27, hq27, hf⟩ := jk_bind_h hf
    refine jk_callVv C hZ.1 hz (ct_Md_appendWord l D Z sq hZ cI cR a_t a_t_w a_t_wKept a_t_saved a_t_past a_t_input a_t_n a_t_order a_t_numbers a_t_output i_t_pastMany i_t_isSaved 0 q22.2 i_t_lastError i_t_lastOffset i_t_error i_t_offset i_t_nextByte i_t_begin i_t_value i_t_token i_t_got i_t_orders i_t_outputMany q22.1 x2 q27 hq27) tm_1344 tm_1346 sl_27 tm_15 tm_1347 na_Md_appendWord ⟨Nat.le_of_ble_eq_true rfl, Nat.le_of_ble_eq_true rfl⟩ rfl [0, 1] rfl rfl rfl (ws' := wd_Md_appendInput cI a_t a_t_w a_t_wKept a_t_saved a_t_past a_t_input a_t_n a_t_order a_t_numbers a_t_output i_t_pastMany i_t_isSaved 0 q27.2 i_t_lastError i_t_lastOffset i_t_error i_t_offset i_t_nextByte i_t_begin i_t_value i_t_token i_t_got i_t_orders i_t_outputMany q27.1) rfl 0 11 rfl rfl rfl (st := []) rfl (Nat.le_of_ble_eq_true rfl) rd_Md_appendInput_27 ?_ ⟨Nat.le_refl _, Nat.le_refl _⟩
    refine jk_aload_n C rd_Md_appendInput_30 (k := 0) rfl ?_
    refine jk_iload_n C rd_Md_appendInput_31 (k := 3) rfl ?_
    obtain ⟨q32, hq32, hf⟩ := jk_bind_h hf
    refine jk_callVv C hZ.1 hz (ct_Md_appendWord l D Z sq hZ cI cR a_t a_t_w a_t_wKept a_t_saved a_t_past a_t_input a_t_n a_t_order a_t_numbers a_t_output i_t_pastMany i_t_isSaved 0 q27.2 i_t_lastError i_t_lastOffset i_t_error i_t_offset i_t_nextByte i_t_begin i_t_value i_t_token i_t_got i_t_orders i_t_outputMany q27.1 x3 q32 hq32) tm_1344 tm_1346 sl_27 tm_15 tm_1347 na_Md_appendWord ⟨Nat.le_of_ble_eq_true rfl, Nat.le_of_ble_eq_true rfl⟩ rfl [0, 1] rfl rfl rfl (ws' := wd_Md_appendInput cI a_t a_t_w a_t_wKept a_t_saved a_t_past a_t_input a_t_n a_t_order a_t_numbers a_t_output i_t_pastMany i_t_isSaved 0 q32.2 i_t_lastError i_t_lastOffset i_t_error i_t_offset i_t_nextByte i_t_begin i_t_value i_t_token i_t_got i_t_orders i_t_outputMany q32.1) rfl 0 11 rfl rfl rfl (st := []) rfl (Nat.le_of_ble_eq_true rfl) rd_Md_appendInput_32 ?_ ⟨Nat.le_refl _, Nat.le_refl _⟩
    refine jk_aload_n C rd_Md_appendInput_35 (k := 0) rfl ?_
    refine jk_iload C rd_Md_appendInput_36 (k := 4) rfl ?_
    obtain ⟨q38, hq38, hf⟩ := jk_bind_h hf
    refine jk_callVv C hZ.1 hz (ct_Md_appendWord l D Z sq hZ cI cR a_t a_t_w a_t_wKept a_t_saved a_t_past a_t_input a_t_n a_t_order a_t_numbers a_t_output i_t_pastMany i_t_isSaved 0 q32.2 i_t_lastError i_t_lastOffset i_t_error i_t_offset i_t_nextByte i_t_begin i_t_value i_t_token i_t_got i_t_orders i_t_outputMany q32.1 x4 q38 hq38) tm_1344 tm_1346 sl_27 tm_15 tm_1347 na_Md_appendWord ⟨Nat.le_of_ble_eq_true rfl, Nat.le_of_ble_eq_true rfl⟩ rfl [0, 1] rfl rfl rfl (ws' := wd_Md_appendInput cI a_t a_t_w a_t_wKept a_t_saved a_t_past a_t_input a_t_n a_t_order a_t_numbers a_t_output i_t_pastMany i_t_isSaved 0 q38.2 i_t_lastError i_t_lastOffset i_t_error i_t_offset i_t_nextByte i_t_begin i_t_value i_t_token i_t_got i_t_orders i_t_outputMany q38.1) rfl 0 11 rfl rfl rfl (st := []) rfl (Nat.le_of_ble_eq_true rfl) rd_Md_appendInput_38 ?_ ⟨Nat.le_refl _, Nat.le_refl _⟩
    refine jk_aload_n C rd_Md_appendInput_41 (k := 0) rfl ?_
    refine jk_iload C rd_Md_appendInput_42 (k := 5) rfl ?_
    obtain ⟨q44, hq44, hf⟩ := jk_bind_h hf
    refine jk_callVv C hZ.1 hz (ct_Md_appendWord l D Z sq hZ cI cR a_t a_t_w a_t_wKept a_t_saved a_t_past a_t_input a_t_n a_t_order a_t_numbers a_t_output i_t_pastMany i_t_isSaved 0 q38.2 i_t_lastError i_t_lastOffset i_t_error i_t_offset i_t_nextByte i_t_begin i_t_value i_t_token i_t_got i_t_orders i_t_outputMany q38.1 x5 q44 hq44) tm_1344 tm_1346 sl_27 tm_15 tm_1347 na_Md_appendWord ⟨Nat.le_of_ble_eq_true rfl, Nat.le_of_ble_eq_true rfl⟩ rfl [0, 1] rfl rfl rfl (ws' := wd_Md_appendInput cI a_t a_t_w a_t_wKept a_t_saved a_t_past a_t_input a_t_n a_t_order a_t_numbers a_t_output i_t_pastMany i_t_isSaved 0 q44.2 i_t_lastError i_t_lastOffset i_t_error i_t_offset i_t_nextByte i_t_begin i_t_value i_t_token i_t_got i_t_orders i_t_outputMany q44.1) rfl 0 11 rfl rfl rfl (st := []) rfl (Nat.le_of_ble_eq_true rfl) rd_Md_appendInput_44 ?_ ⟨Nat.le_refl _, Nat.le_refl _⟩
    refine jk_aload_n C rd_Md_appendInput_47 (k := 0) rfl ?_
    refine jk_get C in_Md (ci := 11) rfl 8 (by decide) tm_1271 0 rfl rfl rd_Md_appendInput_48 ?_
    cases hf
    exact jk_iret C rfl rd_Md_appendInput_51 rfl
  · refine jk_iconst C rd_Md_appendInput_18 ?_
    cases hf
    exact jk_iret C rfl rd_Md_appendInput_19 rfl
def wd_Md_truncateInput (cI : ClassId) (a_t a_t_w a_t_wKept a_t_saved a_t_past a_t_input a_t_n a_t_order a_t_numbers a_t_output : Nat) (i_t_pastMany : Int) (i_t_isSaved : Int) (i_t_thrown : Int) (i_t_inputMany : Int) (i_t_lastError : Int) (i_t_lastOffset : Int) (i_t_error : Int) (i_t_offset : Int) (i_t_nextByte : Int) (i_t_begin : Int) (i_t_value : Int) (i_t_token : Int) (i_t_got : Int) (i_t_orders : Int) (i_t_outputMany : Int) : va_W := [(a_t, .inr (11, [.ref a_t_w, .ref a_t_wKept, .ref a_t_saved, .ref a_t_past, jk_V i_t_pastMany, jk_V i_t_isSaved, jk_V i_t_thrown, .ref a_t_input, jk_V i_t_inputMany, jk_V i_t_lastError, jk_V i_t_lastOffset, jk_V i_t_error, jk_V i_t_offset, jk_V i_t_nextByte, jk_V i_t_begin, jk_V i_t_value, jk_V i_t_token, jk_V i_t_got, .ref a_t_n, .ref a_t_order, .ref a_t_numbers, jk_V i_t_orders, .ref a_t_output, jk_V i_t_outputMany]))]
set_option maxHeartbeats 4000000 in
set_option maxRecDepth 20000 in
theorem ct_Md_truncateInput (l : Launch) (D : va_G) (Z : (Nat → Prop) → State → Heap → Prop) (sq : Nat → Nat) (hZ : jk_ZK Z sq) (cI cR : ClassId) (a_t a_t_w a_t_wKept a_t_saved a_t_past a_t_input a_t_n a_t_order a_t_numbers a_t_output : Nat) (i_t_pastMany : Int) (i_t_isSaved : Int) (i_t_thrown : Int) (i_t_inputMany : Int) (i_t_lastError : Int) (i_t_lastOffset : Int) (i_t_error : Int) (i_t_offset : Int) (i_t_nextByte : Int) (i_t_begin : Int) (i_t_value : Int) (i_t_token : Int) (i_t_got : Int) (i_t_orders : Int) (i_t_outputMany : Int) (x1 : Int) (q : Int × Int × Int) (hf : fn_Md_truncateInput i_t_thrown i_t_inputMany x1 = some q) : jk_MI l D jk_cl (jk_ty cI cR) Z mn_Md_truncateInput (.code mn_Md_truncateInput mb_Md_truncateInput 2 (some .boolean) :: jk_WA) (jk_rm 1 22) [.ref a_t, jk_V x1] (wd_Md_truncateInput cI a_t a_t_w a_t_wKept a_t_saved a_t_past a_t_input a_t_n a_t_order a_t_numbers a_t_output i_t_pastMany i_t_isSaved i_t_thrown i_t_inputMany i_t_lastError i_t_lastOffset i_t_error i_t_offset i_t_nextByte i_t_begin i_t_value i_t_token i_t_got i_t_orders i_t_outputMany) (wd_Md_truncateInput cI a_t a_t_w a_t_wKept a_t_saved a_t_past a_t_input a_t_n a_t_order a_t_numbers a_t_output i_t_pastMany i_t_isSaved q.2.1 q.2.2 i_t_lastError i_t_lastOffset i_t_error i_t_offset i_t_nextByte i_t_begin i_t_value i_t_token i_t_got i_t_orders i_t_outputMany) q.1 := by
  intro sz
  refine jk_body (by decide +kernel) (fun p e s m args below meth c hsz hz hin C => ?_) (Nat.le_of_ble_eq_true rfl)
  subst hsz
  unfold fn_Md_truncateInput at hf
  refine jk_aload_n C rd_Md_truncateInput_0 (k := 0) rfl ?_
  refine jk_iconst C rd_Md_truncateInput_1 ?_
  refine jk_putf C in_Md ty_Md nm_Md (ci := 11) rfl 6 (by decide) tm_1269 rfl rfl rfl 0 rfl (Nat.le_of_ble_eq_true rfl) rd_Md_truncateInput_2 (ws' := wd_Md_truncateInput cI a_t a_t_w a_t_wKept a_t_saved a_t_past a_t_input a_t_n a_t_order a_t_numbers a_t_output i_t_pastMany i_t_isSaved 0 i_t_inputMany i_t_lastError i_t_lastOffset i_t_error i_t_offset i_t_nextByte i_t_begin i_t_value i_t_token i_t_got i_t_orders i_t_outputMany) rfl ?_
  refine jk_iload_n C rd_Md_truncateInput_5 (k := 1) rfl ?_
  refine jk_iconst C rd_Md_truncateInput_6 ?_
  refine jk_aload_n C rd_Md_truncateInput_7 (k := 0) rfl ?_
  refine jk_get C in_Md (ci := 11) rfl 8 (by decide) tm_1271 0 rfl rfl rd_Md_truncateInput_8 ?_
  obtain ⟨q11, hq11, hf⟩ := jk_bind_h hf
  refine jk_callSi C hZ.1 hz (ct_Md_inRange l D Z sq hZ cI cR x1 0 i_t_inputMany q11 hq11) tm_1352 tm_1353 tm_15 tm_1354 na_Md_inRange ⟨Nat.le_of_ble_eq_true rfl, Nat.le_of_ble_eq_true rfl⟩ rfl [] rfl rfl rfl (ws' := wd_Md_truncateInput cI a_t a_t_w a_t_wKept a_t_saved a_t_past a_t_input a_t_n a_t_order a_t_numbers a_t_output i_t_pastMany i_t_isSaved 0 i_t_inputMany i_t_lastError i_t_lastOffset i_t_error i_t_offset i_t_nextByte i_t_begin i_t_value i_t_token i_t_got i_t_orders i_t_outputMany) rfl (st := []) rfl (Nat.le_of_ble_eq_true rfl) rd_Md_truncateInput_11 ?_ ⟨Nat.le_refl _, Nat.le_refl _⟩
  refine jk_if_ne (tgt := 19) C rd_Md_truncateInput_14 (by decide) hf (fun _ hf => ?_) (fun _ hf => ?_)
  · refine jk_aload_n C rd_Md_truncateInput_19 (k := 0) rfl ?_
    refine jk_iload_n C rd_Md_truncateInput_20 (k := 1) rfl ?_
    refine jk_putf C in_Md ty_Md nm_Md (ci := 11) rfl 8 (by decide) tm_1271 rfl rfl rfl 0 rfl (Nat.le_of_ble_eq_true rfl) rd_Md_truncateInput_21 (ws' := wd_Md_truncateInput cI a_t a_t_w a_t_wKept a_t_saved a_t_past a_t_input a_t_n a_t_order a_t_numbers a_t_output i_t_pastMany i_t_isSaved 0 x1 i_t_lastError i_t_lastOffset i_t_error i_t_offset i_t_nextByte i_t_begin i_t_value i_t_token i_t_got i_t_orders i_t_outputMany) rfl ?_
    refine jk_iconst C rd_Md_truncateInput_24 ?_
    cases hf
    exact jk_zret C (Or.inr rfl) rfl rd_Md_truncateInput_25 rfl
  · refine jk_iconst C rd_Md_truncateInput_17 ?_
    cases hf
    exact jk_zret C (Or.inl rfl) rfl rd_Md_truncateInput_18 rfl
def wd_Md_byteAt (cI : ClassId) (a_t a_t_w a_t_wKept a_t_saved a_t_past a_t_input a_t_n a_t_order a_t_numbers a_t_output : Nat) (i_t_pastMany : Int) (i_t_isSaved : Int) (i_t_thrown : Int) (i_t_inputMany : Int) (i_t_lastError : Int) (i_t_lastOffset : Int) (i_t_error : Int) (i_t_offset : Int) (i_t_nextByte : Int) (i_t_begin : Int) (i_t_value : Int) (i_t_token : Int) (i_t_got : Int) (i_t_orders : Int) (i_t_outputMany : Int) (i_t_input : (Int → Int)) : va_W := [(a_t, .inr (11, [.ref a_t_w, .ref a_t_wKept, .ref a_t_saved, .ref a_t_past, jk_V i_t_pastMany, jk_V i_t_isSaved, jk_V i_t_thrown, .ref a_t_input, jk_V i_t_inputMany, jk_V i_t_lastError, jk_V i_t_lastOffset, jk_V i_t_error, jk_V i_t_offset, jk_V i_t_nextByte, jk_V i_t_begin, jk_V i_t_value, jk_V i_t_token, jk_V i_t_got, .ref a_t_n, .ref a_t_order, .ref a_t_numbers, jk_V i_t_orders, .ref a_t_output, jk_V i_t_outputMany])), (a_t_input, jk_W cI 700 i_t_input)]
set_option maxHeartbeats 4000000 in
set_option maxRecDepth 20000 in
theorem ct_Md_byteAt (l : Launch) (D : va_G) (Z : (Nat → Prop) → State → Heap → Prop) (sq : Nat → Nat) (hZ : jk_ZK Z sq) (cI cR : ClassId) (a_t a_t_w a_t_wKept a_t_saved a_t_past a_t_input a_t_n a_t_order a_t_numbers a_t_output : Nat) (i_t_pastMany : Int) (i_t_isSaved : Int) (i_t_thrown : Int) (i_t_inputMany : Int) (i_t_lastError : Int) (i_t_lastOffset : Int) (i_t_error : Int) (i_t_offset : Int) (i_t_nextByte : Int) (i_t_begin : Int) (i_t_value : Int) (i_t_token : Int) (i_t_got : Int) (i_t_orders : Int) (i_t_outputMany : Int) (i_t_input : (Int → Int)) (x1 : Int) (q : Int) (hf : fn_Md_byteAt i_t_input i_t_inputMany x1 = some q) : jk_MI l D jk_cl (jk_ty cI cR) Z mn_Md_byteAt (.code mn_Md_byteAt mb_Md_byteAt 2 (some .int) :: jk_WA) (jk_rm 0 0) [.ref a_t, jk_V x1] (wd_Md_byteAt cI a_t a_t_w a_t_wKept a_t_saved a_t_past a_t_input a_t_n a_t_order a_t_numbers a_t_output i_t_pastMany i_t_isSaved i_t_thrown i_t_inputMany i_t_lastError i_t_lastOffset i_t_error i_t_offset i_t_nextByte i_t_begin i_t_value i_t_token i_t_got i_t_orders i_t_outputMany i_t_input) (wd_Md_byteAt cI a_t a_t_w a_t_wKept a_t_saved a_t_past a_t_input a_t_n a_t_order a_t_numbers a_t_output i_t_pastMany i_t_isSaved i_t_thrown i_t_inputMany i_t_lastError i_t_lastOffset i_t_error i_t_offset i_t_nextByte i_t_begin i_t_value i_t_token i_t_got i_t_orders i_t_outputMany i_t_input) q := by
  intro sz
  refine jk_body (by decide +kernel) (fun p e s m args below meth c hsz hz hin C => ?_) (Nat.le_of_ble_eq_true rfl)
  subst hsz
  unfold fn_Md_byteAt at hf
  refine jk_iload_n C rd_Md_byteAt_0 (k := 1) rfl ?_
  refine jk_aload_n C rd_Md_byteAt_1 (k := 0) rfl ?_
  refine jk_get C in_Md (ci := 11) rfl 8 (by decide) tm_1271 0 rfl rfl rd_Md_byteAt_2 ?_
  refine jk_icmp_ge (tgt := 17) C rd_Md_byteAt_5 (by decide) hf (fun _ hf => ?_) (fun _ hf => ?_)
  · refine jk_iconst C rd_Md_byteAt_17 ?_
    cases hf
    exact jk_iret C rfl rd_Md_byteAt_18 rfl
  · refine jk_aload_n C rd_Md_byteAt_8 (k := 0) rfl ?_
    refine jk_get C in_Md (ci := 11) rfl 7 (by decide) tm_1270 0 rfl rfl rd_Md_byteAt_9 ?_
    refine jk_iload_n C rd_Md_byteAt_12 (k := 1) rfl ?_
    refine jk_iald C 1 0 rfl rfl (Nat.le_of_ble_eq_true rfl) rd_Md_byteAt_13 hf (fun hf => ?_)
    refine jk_goto (tgt := 18) C rd_Md_byteAt_14 (by decide) ?_
    cases hf
    exact jk_iret C rfl rd_Md_byteAt_18 rfl
def wd_Md_isLetter (cI : ClassId) (a_t a_t_w a_t_wKept a_t_saved a_t_past a_t_input a_t_n a_t_order a_t_numbers a_t_output : Nat) (i_t_pastMany : Int) (i_t_isSaved : Int) (i_t_thrown : Int) (i_t_inputMany : Int) (i_t_lastError : Int) (i_t_lastOffset : Int) (i_t_error : Int) (i_t_offset : Int) (i_t_nextByte : Int) (i_t_begin : Int) (i_t_value : Int) (i_t_token : Int) (i_t_got : Int) (i_t_orders : Int) (i_t_outputMany : Int) (i_t_input : (Int → Int)) : va_W := [(a_t, .inr (11, [.ref a_t_w, .ref a_t_wKept, .ref a_t_saved, .ref a_t_past, jk_V i_t_pastMany, jk_V i_t_isSaved, jk_V i_t_thrown, .ref a_t_input, jk_V i_t_inputMany, jk_V i_t_lastError, jk_V i_t_lastOffset, jk_V i_t_error, jk_V i_t_offset, jk_V i_t_nextByte, jk_V i_t_begin, jk_V i_t_value, jk_V i_t_token, jk_V i_t_got, .ref a_t_n, .ref a_t_order, .ref a_t_numbers, jk_V i_t_orders, .ref a_t_output, jk_V i_t_outputMany])), (a_t_input, jk_W cI 700 i_t_input)]
set_option maxHeartbeats 4000000 in
set_option maxRecDepth 20000 in
theorem ct_Md_isLetter (l : Launch) (D : va_G) (Z : (Nat → Prop) → State → Heap → Prop) (sq : Nat → Nat) (hZ : jk_ZK Z sq) (cI cR : ClassId) (a_t a_t_w a_t_wKept a_t_saved a_t_past a_t_input a_t_n a_t_order a_t_numbers a_t_output : Nat) (i_t_pastMany : Int) (i_t_isSaved : Int) (i_t_thrown : Int) (i_t_inputMany : Int) (i_t_lastError : Int) (i_t_lastOffset : Int) (i_t_error : Int) (i_t_offset : Int) (i_t_nextByte : Int) (i_t_begin : Int) (i_t_value : Int) (i_t_token : Int) (i_t_got : Int) (i_t_orders : Int) (i_t_outputMany : Int) (i_t_input : (Int → Int)) (x1 : Int) (q : Int) (hf : fn_Md_isLetter i_t_input i_t_inputMany x1 = some q) : jk_MI l D jk_cl (jk_ty cI cR) Z mn_Md_isLetter (.code mn_Md_isLetter mb_Md_isLetter 2 (some .boolean) :: jk_WA) (jk_rm 1 22) [.ref a_t, jk_V x1] (wd_Md_isLetter cI a_t a_t_w a_t_wKept a_t_saved a_t_past a_t_input a_t_n a_t_order a_t_numbers a_t_output i_t_pastMany i_t_isSaved i_t_thrown i_t_inputMany i_t_lastError i_t_lastOffset i_t_error i_t_offset i_t_nextByte i_t_begin i_t_value i_t_token i_t_got i_t_orders i_t_outputMany i_t_input) (wd_Md_isLetter cI a_t a_t_w a_t_wKept a_t_saved a_t_past a_t_input a_t_n a_t_order a_t_numbers a_t_output i_t_pastMany i_t_isSaved i_t_thrown i_t_inputMany i_t_lastError i_t_lastOffset i_t_error i_t_offset i_t_nextByte i_t_begin i_t_value i_t_token i_t_got i_t_orders i_t_outputMany i_t_input) q := by
  intro sz
  refine jk_body (by decide +kernel) (fun p e s m args below meth c hsz hz hin C => ?_) (Nat.le_of_ble_eq_true rfl)
  subst hsz
  unfold fn_Md_isLetter at hf
  refine jk_aload_n C rd_Md_isLetter_0 (k := 0) rfl ?_
  refine jk_iload_n C rd_Md_isLetter_1 (k := 1) rfl ?_
  obtain ⟨q2, hq2, hf⟩ := jk_bind_h hf
  refine jk_callVi C hZ.1 hz (ct_Md_byteAt l D Z sq hZ cI cR a_t a_t_w a_t_wKept a_t_saved a_t_past a_t_input a_t_n a_t_order a_t_numbers a_t_output i_t_pastMany i_t_isSaved i_t_thrown i_t_inputMany i_t_lastError i_t_lastOffset i_t_error i_t_offset i_t_nextByte i_t_begin i_t_value i_t_token i_t_got i_t_orders i_t_outputMany i_t_input x1 q2 hq2) tm_1370 tm_1372 sl_30 tm_15 tm_1373 na_Md_byteAt ⟨Nat.le_of_ble_eq_true rfl, Nat.le_of_ble_eq_true rfl⟩ rfl [0, 1] rfl rfl rfl (ws' := wd_Md_isLetter cI a_t a_t_w a_t_wKept a_t_saved a_t_past a_t_input a_t_n a_t_order a_t_numbers a_t_output i_t_pastMany i_t_isSaved i_t_thrown i_t_inputMany i_t_lastError i_t_lastOffset i_t_error i_t_offset i_t_nextByte i_t_begin i_t_value i_t_token i_t_got i_t_orders i_t_outputMany i_t_input) rfl 0 11 rfl rfl rfl (st := []) rfl (Nat.le_of_ble_eq_true rfl) rd_Md_isLetter_2 ?_ ⟨Nat.le_refl _, Nat.le_refl _⟩
  refine jk_bipush C rd_Md_isLetter_5 (by decide +kernel) ?_
  refine jk_bipush C rd_Md_isLetter_7 (by decide +kernel) ?_
  obtain ⟨q9, hq9, hf⟩ := jk_bind_h hf
  refine jk_callSi C hZ.1 hz (ct_Md_inRange l D Z sq hZ cI cR q2 97 122 q9 hq9) tm_1352 tm_1353 tm_15 tm_1354 na_Md_inRange ⟨Nat.le_of_ble_eq_true rfl, Nat.le_of_ble_eq_true rfl⟩ rfl [] rfl rfl rfl (ws' := wd_Md_isLetter cI a_t a_t_w a_t_wKept a_t_saved a_t_past a_t_input a_t_n a_t_order a_t_numbers a_t_output i_t_pastMany i_t_isSaved i_t_thrown i_t_inputMany i_t_lastError i_t_lastOffset i_t_error i_t_offset i_t_nextByte i_t_begin i_t_value i_t_token i_t_got i_t_orders i_t_outputMany i_t_input) rfl (st := []) rfl (Nat.le_of_ble_eq_true rfl) rd_Md_isLetter_9 ?_ ⟨Nat.le_refl _, Nat.le_refl _⟩
  obtain ⟨hbo, hf⟩ := jk_bo_h hf
  cases hf
  exact jk_zret C hbo rfl rd_Md_isLetter_12 rfl
def wd_Md_advanceToken (cI : ClassId) (a_t a_t_w a_t_wKept a_t_saved a_t_past a_t_input a_t_n a_t_order a_t_numbers a_t_output : Nat) (i_t_pastMany : Int) (i_t_isSaved : Int) (i_t_thrown : Int) (i_t_inputMany : Int) (i_t_lastError : Int) (i_t_lastOffset : Int) (i_t_error : Int) (i_t_offset : Int) (i_t_nextByte : Int) (i_t_begin : Int) (i_t_value : Int) (i_t_token : Int) (i_t_got : Int) (i_t_orders : Int) (i_t_outputMany : Int) (i_t_input : (Int → Int)) : va_W := [(a_t, .inr (11, [.ref a_t_w, .ref a_t_wKept, .ref a_t_saved, .ref a_t_past, jk_V i_t_pastMany, jk_V i_t_isSaved, jk_V i_t_thrown, .ref a_t_input, jk_V i_t_inputMany, jk_V i_t_lastError, jk_V i_t_lastOffset, jk_V i_t_error, jk_V i_t_offset, jk_V i_t_nextByte, jk_V i_t_begin, jk_V i_t_value, jk_V i_t_token, jk_V i_t_got, .ref a_t_n, .ref a_t_order, .ref a_t_numbers, jk_V i_t_orders, .ref a_t_output, jk_V i_t_outputMany])), (a_t_input, jk_W cI 700 i_t_input)]
set_option maxHeartbeats 4000000 in
set_option maxRecDepth 20000 in
theorem ct_Md_advanceToken (l : Launch) (D : va_G) (Z : (Nat → Prop) → State → Heap → Prop) (sq : Nat → Nat) (hZ : jk_ZK Z sq) (cI cR : ClassId) (a_t a_t_w a_t_wKept a_t_saved a_t_past a_t_input a_t_n a_t_order a_t_numbers a_t_output : Nat) (i_t_pastMany : Int) (i_t_isSaved : Int) (i_t_thrown : Int) (i_t_inputMany : Int) (i_t_lastError : Int) (i_t_lastOffset : Int) (i_t_error : Int) (i_t_offset : Int) (i_t_nextByte : Int) (i_t_begin : Int) (i_t_value : Int) (i_t_token : Int) (i_t_got : Int) (i_t_orders : Int) (i_t_outputMany : Int) (i_t_input : (Int → Int)) (q : Int × Int × Int × Int) (hf : fn_Md_advanceToken i_t_input i_t_inputMany i_t_nextByte i_t_begin i_t_value i_t_token = some q) : jk_MV l D jk_cl (jk_ty cI cR) Z mn_Md_advanceToken (.code mn_Md_advanceToken mb_Md_advanceToken 2 none :: jk_WA) (jk_rm 2 43) [.ref a_t] (wd_Md_advanceToken cI a_t a_t_w a_t_wKept a_t_saved a_t_past a_t_input a_t_n a_t_order a_t_numbers a_t_output i_t_pastMany i_t_isSaved i_t_thrown i_t_inputMany i_t_lastError i_t_lastOffset i_t_error i_t_offset i_t_nextByte i_t_begin i_t_value i_t_token i_t_got i_t_orders i_t_outputMany i_t_input) (wd_Md_advanceToken cI a_t a_t_w a_t_wKept a_t_saved a_t_past a_t_input a_t_n a_t_order a_t_numbers a_t_output i_t_pastMany i_t_isSaved i_t_thrown i_t_inputMany i_t_lastError i_t_lastOffset i_t_error i_t_offset q.1 q.2.1 q.2.2.1 q.2.2.2 i_t_got i_t_orders i_t_outputMany i_t_input) := by
  intro sz
  refine jk_body (by decide +kernel) (fun p e s m args below meth c hsz hz hin C => ?_) (Nat.le_of_ble_eq_true rfl)
  subst hsz
  unfold fn_Md_advanceToken at hf
  have bk_146 : ∀ (n : Nat) (t_nextByte : Int) (t_begin : Int) (t_value : Int) (t_token : Int), fn_Md_advanceToken_b146 n i_t_input i_t_inputMany t_nextByte t_begin t_value t_token = some q → jk_J p l e (jk_rm 2 43) s m args below meth c 0 0 (jk_QV below D jk_cl (jk_ty cI cR) (wd_Md_advanceToken cI a_t a_t_w a_t_wKept a_t_saved a_t_past a_t_input a_t_n a_t_order a_t_numbers a_t_output i_t_pastMany i_t_isSaved i_t_thrown i_t_inputMany i_t_lastError i_t_lastOffset i_t_error i_t_offset i_t_nextByte i_t_begin i_t_value i_t_token i_t_got i_t_orders i_t_outputMany i_t_input) (wd_Md_advanceToken cI a_t a_t_w a_t_wKept a_t_saved a_t_past a_t_input a_t_n a_t_order a_t_numbers a_t_output i_t_pastMany i_t_isSaved i_t_thrown i_t_inputMany i_t_lastError i_t_lastOffset i_t_error i_t_offset q.1 q.2.1 q.2.2.1 q.2.2.2 i_t_got i_t_orders i_t_outputMany i_t_input) args s) D jk_cl (va_A (wd_Md_advanceToken cI a_t a_t_w a_t_wKept a_t_saved a_t_past a_t_input a_t_n a_t_order a_t_numbers a_t_output i_t_pastMany i_t_isSaved i_t_thrown i_t_inputMany i_t_lastError i_t_lastOffset i_t_error i_t_offset i_t_nextByte i_t_begin i_t_value i_t_token i_t_got i_t_orders i_t_outputMany i_t_input) s.heap.size) 2 (wd_Md_advanceToken cI a_t a_t_w a_t_wKept a_t_saved a_t_past a_t_input a_t_n a_t_order a_t_numbers a_t_output i_t_pastMany i_t_isSaved i_t_thrown i_t_inputMany i_t_lastError i_t_lastOffset i_t_error i_t_offset t_nextByte t_begin t_value t_token i_t_got i_t_orders i_t_outputMany i_t_input) [(0, .ref a_t)] 146 [] := by
    intro n
    induction n with
    | zero => intro t_nextByte t_begin t_value t_token hf; exact nomatch (show none = some q from hf)
    | succ n ih =>
      intro t_nextByte t_begin t_value t_token hf
      rw [fn_Md_advanceToken_b146] at hf
      refine jk_aload_n C rd_Md_advanceToken_146 (k := 0) rfl ?_
      refine jk_aload_n C rd_Md_advanceToken_147 (k := 0) rfl ?_
      refine jk_get C in_Md (ci := 11) rfl 13 (by decide) tm_1276 0 rfl rfl rd_Md_advanceToken_148 ?_
      obtain ⟨q151, hq151, hf⟩ := jk_bind_h hf
      refine jk_callVi C hZ.1 hz (ct_Md_byteAt l D Z sq hZ cI cR a_t a_t_w a_t_wKept a_t_saved a_t_past a_t_input a_t_n a_t_order a_t_numbers a_t_output i_t_pastMany i_t_isSaved i_t_thrown i_t_inputMany i_t_lastError i_t_lastOffset i_t_error i_t_offset t_nextByte t_begin t_value t_token i_t_got i_t_orders i_t_outputMany i_t_input t_nextByte q151 hq151) tm_1370 tm_1372 sl_30 tm_15 tm_1373 na_Md_byteAt ⟨Nat.le_of_ble_eq_true rfl, Nat.le_of_ble_eq_true rfl⟩ rfl [0, 1] rfl rfl rfl (ws' := wd_Md_advanceToken cI a_t a_t_w a_t_wKept a_t_saved a_t_past a_t_input a_t_n a_t_order a_t_numbers a_t_output i_t_pastMany i_t_isSaved i_t_thrown i_t_inputMany i_t_lastError i_t_lastOffset i_t_error i_t_offset t_nextByte t_begin t_value t_token i_t_got i_t_orders i_t_outputMany i_t_input) rfl 0 11 rfl rfl rfl (st := []) rfl (Nat.le_of_ble_eq_true rfl) rd_Md_advanceToken_151 ?_ ⟨Nat.le_refl _, Nat.le_refl _⟩
      refine jk_bipush C rd_Md_advanceToken_154 (by decide +kernel) ?_
      refine jk_bipush C rd_Md_advanceToken_156 (by decide +kernel) ?_
      obtain ⟨q158, hq158, hf⟩ := jk_bind_h hf
      refine jk_callSi C hZ.1 hz (ct_Md_inRange l D Z sq hZ cI cR q151 48 57 q158 hq158) tm_1352 tm_1353 tm_15 tm_1354 na_Md_inRange ⟨Nat.le_of_ble_eq_true rfl, Nat.le_of_ble_eq_true rfl⟩ rfl [] rfl rfl rfl (ws' := wd_Md_advanceToken cI a_t a_t_w a_t_wKept a_t_saved a_t_past a_t_input a_t_n a_t_order a_t_numbers a_t_output i_t_pastMany i_t_isSaved i_t_thrown i_t_inputMany i_t_lastError i_t_lastOffset i_t_error i_t_offset t_nextByte t_begin t_value t_token i_t_got i_t_orders i_t_outputMany i_t_input) rfl (st := []) rfl (Nat.le_of_ble_eq_true rfl) rd_Md_advanceToken_158 ?_ ⟨Nat.le_refl _, Nat.le_refl _⟩
      refine jk_if_eq (tgt := 220) C rd_Md_advanceToken_161 (by decide) hf (fun _ hf => ?_) (fun _ hf => ?_)
      · refine jk_aload_n C rd_Md_advanceToken_220 (k := 0) rfl ?_
        refine jk_aload_n C rd_Md_advanceToken_221 (k := 0) rfl ?_
        refine jk_get C in_Md (ci := 11) rfl 13 (by decide) tm_1276 0 rfl rfl rd_Md_advanceToken_222 ?_
        refine jk_aload_n C rd_Md_advanceToken_225 (k := 0) rfl ?_
        refine jk_get C in_Md (ci := 11) rfl 14 (by decide) tm_1277 0 rfl rfl rd_Md_advanceToken_226 ?_
        refine jk_isub C rd_Md_advanceToken_229 ?_
        refine jk_iconst C rd_Md_advanceToken_230 ?_
        refine jk_icmp_le (tgt := 238) C rd_Md_advanceToken_231 (by decide) hf (fun _ hf => ?_) (fun _ hf => ?_)
        · refine jk_iconst C rd_Md_advanceToken_238 ?_
          refine jk_putf C in_Md ty_Md nm_Md (ci := 11) rfl 16 (by decide) tm_1279 rfl rfl rfl 0 rfl (Nat.le_of_ble_eq_true rfl) rd_Md_advanceToken_239 (ws' := wd_Md_advanceToken cI a_t a_t_w a_t_wKept a_t_saved a_t_past a_t_input a_t_n a_t_order a_t_numbers a_t_output i_t_pastMany i_t_isSaved i_t_thrown i_t_inputMany i_t_lastError i_t_lastOffset i_t_error i_t_offset t_nextByte t_begin t_value 2 i_t_got i_t_orders i_t_outputMany i_t_input) rfl ?_
          refine jk_goto (tgt := 270) C rd_Md_advanceToken_242 (by decide) ?_
          cases hf
          exact jk_vret C rfl rd_Md_advanceToken_270 rfl
        · refine jk_iconst C rd_Md_advanceToken_234 ?_
          refine jk_goto (tgt := 239) C rd_Md_advanceToken_235 (by decide) ?_
          refine jk_putf C in_Md ty_Md nm_Md (ci := 11) rfl 16 (by decide) tm_1279 rfl rfl rfl 0 rfl (Nat.le_of_ble_eq_true rfl) rd_Md_advanceToken_239 (ws' := wd_Md_advanceToken cI a_t a_t_w a_t_wKept a_t_saved a_t_past a_t_input a_t_n a_t_order a_t_numbers a_t_output i_t_pastMany i_t_isSaved i_t_thrown i_t_inputMany i_t_lastError i_t_lastOffset i_t_error i_t_offset t_nextByte t_begin t_value 4 i_t_got i_t_orders i_t_outputMany i_t_input) rfl ?_
          refine jk_goto (tgt := 270) C rd_Md_advanceToken_242 (by decide) ?_
          cases hf
          exact jk_vret C rfl rd_Md_advanceToken_270 rfl
      · refine jk_aload_n C rd_Md_advanceToken_164 (k := 0) rfl ?_
        refine jk_aload_n C rd_Md_advanceToken_165 (k := 0) rfl ?_
        refine jk_get C in_Md (ci := 11) rfl 13 (by decide) tm_1276 0 rfl rfl rd_Md_advanceToken_166 ?_
        refine jk_aload_n C rd_Md_advanceToken_169 (k := 0) rfl ?_
        refine jk_get C in_Md (ci := 11) rfl 14 (by decide) tm_1277 0 rfl rfl rd_Md_advanceToken_170 ?_
        refine jk_isub C rd_Md_advanceToken_173 ?_
        refine jk_iconst C rd_Md_advanceToken_174 ?_
        refine jk_icmp_ge (tgt := 200) C rd_Md_advanceToken_175 (by decide) hf (fun _ hf => ?_) (fun _ hf => ?_)
        · refine jk_aload_n C rd_Md_advanceToken_200 (k := 0) rfl ?_
          refine jk_get C in_Md (ci := 11) rfl 15 (by decide) tm_1278 0 rfl rfl rd_Md_advanceToken_201 ?_
          refine jk_putf C in_Md ty_Md nm_Md (ci := 11) rfl 15 (by decide) tm_1278 rfl rfl rfl 0 rfl (Nat.le_of_ble_eq_true rfl) rd_Md_advanceToken_204 (ws' := wd_Md_advanceToken cI a_t a_t_w a_t_wKept a_t_saved a_t_past a_t_input a_t_n a_t_order a_t_numbers a_t_output i_t_pastMany i_t_isSaved i_t_thrown i_t_inputMany i_t_lastError i_t_lastOffset i_t_error i_t_offset t_nextByte t_begin t_value t_token i_t_got i_t_orders i_t_outputMany i_t_input) rfl ?_
          refine jk_aload_n C rd_Md_advanceToken_207 (k := 0) rfl ?_
          refine jk_dup C rd_Md_advanceToken_208 rfl ?_
          refine jk_get C in_Md (ci := 11) rfl 13 (by decide) tm_1276 0 rfl rfl rd_Md_advanceToken_209 ?_
          refine jk_iconst C rd_Md_advanceToken_212 ?_
          refine jk_iadd C rd_Md_advanceToken_213 ?_
          refine jk_putf C in_Md ty_Md nm_Md (ci := 11) rfl 13 (by decide) tm_1276 rfl rfl rfl 0 rfl (Nat.le_of_ble_eq_true rfl) rd_Md_advanceToken_214 (ws' := wd_Md_advanceToken cI a_t a_t_w a_t_wKept a_t_saved a_t_past a_t_input a_t_n a_t_order a_t_numbers a_t_output i_t_pastMany i_t_isSaved i_t_thrown i_t_inputMany i_t_lastError i_t_lastOffset i_t_error i_t_offset (t_nextByte + 1) t_begin t_value t_token i_t_got i_t_orders i_t_outputMany i_t_input) rfl ?_
          refine jk_goto (tgt := 146) C rd_Md_advanceToken_217 (by decide) ?_
          refine jk_lv (lv' := [(0, .ref a_t)]) [0] rfl ?_
          exact ih (t_nextByte + 1) t_begin t_value t_token hf
        · refine jk_bipush C rd_Md_advanceToken_178 (by decide +kernel) ?_
          refine jk_aload_n C rd_Md_advanceToken_180 (k := 0) rfl ?_
          refine jk_get C in_Md (ci := 11) rfl 15 (by decide) tm_1278 0 rfl rfl rd_Md_advanceToken_181 ?_
          refine jk_imul C rd_Md_advanceToken_184 ?_
          refine jk_aload_n C rd_Md_advanceToken_185 (k := 0) rfl ?_
          refine jk_aload_n C rd_Md_advanceToken_186 (k := 0) rfl ?_
          refine jk_get C in_Md (ci := 11) rfl 13 (by decide) tm_1276 0 rfl rfl rd_Md_advanceToken_187 ?_
          obtain ⟨q190, hq190, hf⟩ := jk_bind_h hf
          refine jk_callVi C hZ.1 hz (ct_Md_byteAt l D Z sq hZ cI cR a_t a_t_w a_t_wKept a_t_saved a_t_past a_t_input a_t_n a_t_order a_t_numbers a_t_output i_t_pastMany i_t_isSaved i_t_thrown i_t_inputMany i_t_lastError i_t_lastOffset i_t_error i_t_offset t_nextByte t_begin t_value t_token i_t_got i_t_orders i_t_outputMany i_t_input t_nextByte q190 hq190) tm_1370 tm_1372 sl_30 tm_15 tm_1373 na_Md_byteAt ⟨Nat.le_of_ble_eq_true rfl, Nat.le_of_ble_eq_true rfl⟩ rfl [0, 1] rfl rfl rfl (ws' := wd_Md_advanceToken cI a_t a_t_w a_t_wKept a_t_saved a_t_past a_t_input a_t_n a_t_order a_t_numbers a_t_output i_t_pastMany i_t_isSaved i_t_thrown i_t_inputMany i_t_lastError i_t_lastOffset i_t_error i_t_offset t_nextByte t_begin t_value t_token i_t_got i_t_orders i_t_outputMany i_t_input) rfl 0 11 rfl rfl rfl (st := [jk_V (10 * t_value), .ref a_t]) rfl (Nat.le_of_ble_eq_true rfl) rd_Md_advanceToken_190 ?_ ⟨Nat.le_refl _, Nat.le_refl _⟩
          refine jk_iadd C rd_Md_advanceToken_193 ?_
          refine jk_bipush C rd_Md_advanceToken_194 (by decide +kernel) ?_
          refine jk_isub C rd_Md_advanceToken_196 ?_
          refine jk_goto (tgt := 204) C rd_Md_advanceToken_197 (by decide) ?_
          refine jk_putf C in_Md ty_Md nm_Md (ci := 11) rfl 15 (by decide) tm_1278 rfl rfl rfl 0 rfl (Nat.le_of_ble_eq_true rfl) rd_Md_advanceToken_204 (ws' := wd_Md_advanceToken cI a_t a_t_w a_t_wKept a_t_saved a_t_past a_t_input a_t_n a_t_order a_t_numbers a_t_output i_t_pastMany i_t_isSaved i_t_thrown i_t_inputMany i_t_lastError i_t_lastOffset i_t_error i_t_offset t_nextByte t_begin (((10 * t_value) + q190) - 48) t_token i_t_got i_t_orders i_t_outputMany i_t_input) rfl ?_
          refine jk_aload_n C rd_Md_advanceToken_207 (k := 0) rfl ?_
          refine jk_dup C rd_Md_advanceToken_208 rfl ?_
          refine jk_get C in_Md (ci := 11) rfl 13 (by decide) tm_1276 0 rfl rfl rd_Md_advanceToken_209 ?_
          refine jk_iconst C rd_Md_advanceToken_212 ?_
          refine jk_iadd C rd_Md_advanceToken_213 ?_
          refine jk_putf C in_Md ty_Md nm_Md (ci := 11) rfl 13 (by decide) tm_1276 rfl rfl rfl 0 rfl (Nat.le_of_ble_eq_true rfl) rd_Md_advanceToken_214 (ws' := wd_Md_advanceToken cI a_t a_t_w a_t_wKept a_t_saved a_t_past a_t_input a_t_n a_t_order a_t_numbers a_t_output i_t_pastMany i_t_isSaved i_t_thrown i_t_inputMany i_t_lastError i_t_lastOffset i_t_error i_t_offset (t_nextByte + 1) t_begin (((10 * t_value) + q190) - 48) t_token i_t_got i_t_orders i_t_outputMany i_t_input) rfl ?_
          refine jk_goto (tgt := 146) C rd_Md_advanceToken_217 (by decide) ?_
          refine jk_lv (lv' := [(0, .ref a_t)]) [0] rfl ?_
          exact ih (t_nextByte + 1) t_begin (((10 * t_value) + q190) - 48) t_token hf
  have bk_85 : ∀ (n : Nat) (t_nextByte : Int) (t_begin : Int) (t_value : Int) (t_token : Int), fn_Md_advanceToken_b85 n i_t_input i_t_inputMany t_nextByte t_begin t_value t_token = some q → jk_J p l e (jk_rm 2 43) s m args below meth c 0 0 (jk_QV below D jk_cl (jk_ty cI cR) (wd_Md_advanceToken cI a_t a_t_w a_t_wKept a_t_saved a_t_past a_t_input a_t_n a_t_order a_t_numbers a_t_output i_t_pastMany i_t_isSaved i_t_thrown i_t_inputMany i_t_lastError i_t_lastOffset i_t_error i_t_offset i_t_nextByte i_t_begin i_t_value i_t_token i_t_got i_t_orders i_t_outputMany i_t_input) (wd_Md_advanceToken cI a_t a_t_w a_t_wKept a_t_saved a_t_past a_t_input a_t_n a_t_order a_t_numbers a_t_output i_t_pastMany i_t_isSaved i_t_thrown i_t_inputMany i_t_lastError i_t_lastOffset i_t_error i_t_offset q.1 q.2.1 q.2.2.1 q.2.2.2 i_t_got i_t_orders i_t_outputMany i_t_input) args s) D jk_cl (va_A (wd_Md_advanceToken cI a_t a_t_w a_t_wKept a_t_saved a_t_past a_t_input a_t_n a_t_order a_t_numbers a_t_output i_t_pastMany i_t_isSaved i_t_thrown i_t_inputMany i_t_lastError i_t_lastOffset i_t_error i_t_offset i_t_nextByte i_t_begin i_t_value i_t_token i_t_got i_t_orders i_t_outputMany i_t_input) s.heap.size) 2 (wd_Md_advanceToken cI a_t a_t_w a_t_wKept a_t_saved a_t_past a_t_input a_t_n a_t_order a_t_numbers a_t_output i_t_pastMany i_t_isSaved i_t_thrown i_t_inputMany i_t_lastError i_t_lastOffset i_t_error i_t_offset t_nextByte t_begin t_value t_token i_t_got i_t_orders i_t_outputMany i_t_input) [(0, .ref a_t)] 85 [] := by
    intro n
    induction n with
    | zero => intro t_nextByte t_begin t_value t_token hf; exact nomatch (show none = some q from hf)
    | succ n ih =>
      intro t_nextByte t_begin t_value t_token hf
      rw [fn_Md_advanceToken_b85] at hf
      refine jk_aload_n C rd_Md_advanceToken_85 (k := 0) rfl ?_
      refine jk_aload_n C rd_Md_advanceToken_86 (k := 0) rfl ?_
      refine jk_get C in_Md (ci := 11) rfl 13 (by decide) tm_1276 0 rfl rfl rd_Md_advanceToken_87 ?_
      obtain ⟨q90, hq90, hf⟩ := jk_bind_h hf
      refine jk_callVi C hZ.1 hz (ct_Md_isLetter l D Z sq hZ cI cR a_t a_t_w a_t_wKept a_t_saved a_t_past a_t_input a_t_n a_t_order a_t_numbers a_t_output i_t_pastMany i_t_isSaved i_t_thrown i_t_inputMany i_t_lastError i_t_lastOffset i_t_error i_t_offset t_nextByte t_begin t_value t_token i_t_got i_t_orders i_t_outputMany i_t_input t_nextByte q90 hq90) tm_1374 tm_1376 sl_31 tm_15 tm_1377 na_Md_isLetter ⟨Nat.le_of_ble_eq_true rfl, Nat.le_of_ble_eq_true rfl⟩ rfl [0, 1] rfl rfl rfl (ws' := wd_Md_advanceToken cI a_t a_t_w a_t_wKept a_t_saved a_t_past a_t_input a_t_n a_t_order a_t_numbers a_t_output i_t_pastMany i_t_isSaved i_t_thrown i_t_inputMany i_t_lastError i_t_lastOffset i_t_error i_t_offset t_nextByte t_begin t_value t_token i_t_got i_t_orders i_t_outputMany i_t_input) rfl 0 11 rfl rfl rfl (st := []) rfl (Nat.le_of_ble_eq_true rfl) rd_Md_advanceToken_90 ?_ ⟨Nat.le_refl _, Nat.le_refl _⟩
      refine jk_if_eq (tgt := 109) C rd_Md_advanceToken_93 (by decide) hf (fun _ hf => ?_) (fun _ hf => ?_)
      · refine jk_aload_n C rd_Md_advanceToken_109 (k := 0) rfl ?_
        refine jk_aload_n C rd_Md_advanceToken_110 (k := 0) rfl ?_
        refine jk_get C in_Md (ci := 11) rfl 13 (by decide) tm_1276 0 rfl rfl rd_Md_advanceToken_111 ?_
        refine jk_aload_n C rd_Md_advanceToken_114 (k := 0) rfl ?_
        refine jk_get C in_Md (ci := 11) rfl 14 (by decide) tm_1277 0 rfl rfl rd_Md_advanceToken_115 ?_
        refine jk_isub C rd_Md_advanceToken_118 ?_
        refine jk_bipush C rd_Md_advanceToken_119 (by decide +kernel) ?_
        refine jk_icmp_le (tgt := 128) C rd_Md_advanceToken_121 (by decide) hf (fun _ hf => ?_) (fun _ hf => ?_)
        · refine jk_iconst C rd_Md_advanceToken_128 ?_
          refine jk_putf C in_Md ty_Md nm_Md (ci := 11) rfl 16 (by decide) tm_1279 rfl rfl rfl 0 rfl (Nat.le_of_ble_eq_true rfl) rd_Md_advanceToken_129 (ws' := wd_Md_advanceToken cI a_t a_t_w a_t_wKept a_t_saved a_t_past a_t_input a_t_n a_t_order a_t_numbers a_t_output i_t_pastMany i_t_isSaved i_t_thrown i_t_inputMany i_t_lastError i_t_lastOffset i_t_error i_t_offset t_nextByte t_begin t_value 1 i_t_got i_t_orders i_t_outputMany i_t_input) rfl ?_
          refine jk_goto (tgt := 270) C rd_Md_advanceToken_132 (by decide) ?_
          cases hf
          exact jk_vret C rfl rd_Md_advanceToken_270 rfl
        · refine jk_iconst C rd_Md_advanceToken_124 ?_
          refine jk_goto (tgt := 129) C rd_Md_advanceToken_125 (by decide) ?_
          refine jk_putf C in_Md ty_Md nm_Md (ci := 11) rfl 16 (by decide) tm_1279 rfl rfl rfl 0 rfl (Nat.le_of_ble_eq_true rfl) rd_Md_advanceToken_129 (ws' := wd_Md_advanceToken cI a_t a_t_w a_t_wKept a_t_saved a_t_past a_t_input a_t_n a_t_order a_t_numbers a_t_output i_t_pastMany i_t_isSaved i_t_thrown i_t_inputMany i_t_lastError i_t_lastOffset i_t_error i_t_offset t_nextByte t_begin t_value 4 i_t_got i_t_orders i_t_outputMany i_t_input) rfl ?_
          refine jk_goto (tgt := 270) C rd_Md_advanceToken_132 (by decide) ?_
          cases hf
          exact jk_vret C rfl rd_Md_advanceToken_270 rfl
      · refine jk_aload_n C rd_Md_advanceToken_96 (k := 0) rfl ?_
        refine jk_dup C rd_Md_advanceToken_97 rfl ?_
        refine jk_get C in_Md (ci := 11) rfl 13 (by decide) tm_1276 0 rfl rfl rd_Md_advanceToken_98 ?_
        refine jk_iconst C rd_Md_advanceToken_101 ?_
        refine jk_iadd C rd_Md_advanceToken_102 ?_
        refine jk_putf C in_Md ty_Md nm_Md (ci := 11) rfl 13 (by decide) tm_1276 rfl rfl rfl 0 rfl (Nat.le_of_ble_eq_true rfl) rd_Md_advanceToken_103 (ws' := wd_Md_advanceToken cI a_t a_t_w a_t_wKept a_t_saved a_t_past a_t_input a_t_n a_t_order a_t_numbers a_t_output i_t_pastMany i_t_isSaved i_t_thrown i_t_inputMany i_t_lastError i_t_lastOffset i_t_error i_t_offset (t_nextByte + 1) t_begin t_value t_token i_t_got i_t_orders i_t_outputMany i_t_input) rfl ?_
        refine jk_goto (tgt := 85) C rd_Md_advanceToken_106 (by decide) ?_
        refine jk_lv (lv' := [(0, .ref a_t)]) [0] rfl ?_
        exact ih (t_nextByte + 1) t_begin t_value t_token hf
  have bk_0 : ∀ (n : Nat) (t_nextByte : Int) (t_begin : Int) (t_value : Int) (t_token : Int), fn_Md_advanceToken_b0 n i_t_input i_t_inputMany t_nextByte t_begin t_value t_token = some q → jk_J p l e (jk_rm 2 43) s m args below meth c 0 0 (jk_QV below D jk_cl (jk_ty cI cR) (wd_Md_advanceToken cI a_t a_t_w a_t_wKept a_t_saved a_t_past a_t_input a_t_n a_t_order a_t_numbers a_t_output i_t_pastMany i_t_isSaved i_t_thrown i_t_inputMany i_t_lastError i_t_lastOffset i_t_error i_t_offset i_t_nextByte i_t_begin i_t_value i_t_token i_t_got i_t_orders i_t_outputMany i_t_input) (wd_Md_advanceToken cI a_t a_t_w a_t_wKept a_t_saved a_t_past a_t_input a_t_n a_t_order a_t_numbers a_t_output i_t_pastMany i_t_isSaved i_t_thrown i_t_inputMany i_t_lastError i_t_lastOffset i_t_error i_t_offset q.1 q.2.1 q.2.2.1 q.2.2.2 i_t_got i_t_orders i_t_outputMany i_t_input) args s) D jk_cl (va_A (wd_Md_advanceToken cI a_t a_t_w a_t_wKept a_t_saved a_t_past a_t_input a_t_n a_t_order a_t_numbers a_t_output i_t_pastMany i_t_isSaved i_t_thrown i_t_inputMany i_t_lastError i_t_lastOffset i_t_error i_t_offset i_t_nextByte i_t_begin i_t_value i_t_token i_t_got i_t_orders i_t_outputMany i_t_input) s.heap.size) 2 (wd_Md_advanceToken cI a_t a_t_w a_t_wKept a_t_saved a_t_past a_t_input a_t_n a_t_order a_t_numbers a_t_output i_t_pastMany i_t_isSaved i_t_thrown i_t_inputMany i_t_lastError i_t_lastOffset i_t_error i_t_offset t_nextByte t_begin t_value t_token i_t_got i_t_orders i_t_outputMany i_t_input) [(0, .ref a_t)] 0 [] := by
    intro n
    induction n with
    | zero => intro t_nextByte t_begin t_value t_token hf; exact nomatch (show none = some q from hf)
    | succ n ih =>
      intro t_nextByte t_begin t_value t_token hf
      rw [fn_Md_advanceToken_b0] at hf
      refine jk_aload_n C rd_Md_advanceToken_0 (k := 0) rfl ?_
      refine jk_aload_n C rd_Md_advanceToken_1 (k := 0) rfl ?_
      refine jk_get C in_Md (ci := 11) rfl 13 (by decide) tm_1276 0 rfl rfl rd_Md_advanceToken_2 ?_
      obtain ⟨q5, hq5, hf⟩ := jk_bind_h hf
      refine jk_callVi C hZ.1 hz (ct_Md_byteAt l D Z sq hZ cI cR a_t a_t_w a_t_wKept a_t_saved a_t_past a_t_input a_t_n a_t_order a_t_numbers a_t_output i_t_pastMany i_t_isSaved i_t_thrown i_t_inputMany i_t_lastError i_t_lastOffset i_t_error i_t_offset t_nextByte t_begin t_value t_token i_t_got i_t_orders i_t_outputMany i_t_input t_nextByte q5 hq5) tm_1370 tm_1372 sl_30 tm_15 tm_1373 na_Md_byteAt ⟨Nat.le_of_ble_eq_true rfl, Nat.le_of_ble_eq_true rfl⟩ rfl [0, 1] rfl rfl rfl (ws' := wd_Md_advanceToken cI a_t a_t_w a_t_wKept a_t_saved a_t_past a_t_input a_t_n a_t_order a_t_numbers a_t_output i_t_pastMany i_t_isSaved i_t_thrown i_t_inputMany i_t_lastError i_t_lastOffset i_t_error i_t_offset t_nextByte t_begin t_value t_token i_t_got i_t_orders i_t_outputMany i_t_input) rfl 0 11 rfl rfl rfl (st := []) rfl (Nat.le_of_ble_eq_true rfl) rd_Md_advanceToken_5 ?_ ⟨Nat.le_refl _, Nat.le_refl _⟩
      refine jk_bipush C rd_Md_advanceToken_8 (by decide +kernel) ?_
      refine jk_icmp_eq (tgt := 26) C rd_Md_advanceToken_10 (by decide) hf (fun _ hf => ?_) (fun _ hf => ?_)
      · refine jk_aload_n C rd_Md_advanceToken_26 (k := 0) rfl ?_
        refine jk_dup C rd_Md_advanceToken_27 rfl ?_
        refine jk_get C in_Md (ci := 11) rfl 13 (by decide) tm_1276 0 rfl rfl rd_Md_advanceToken_28 ?_
        refine jk_iconst C rd_Md_advanceToken_31 ?_
        refine jk_iadd C rd_Md_advanceToken_32 ?_
        refine jk_putf C in_Md ty_Md nm_Md (ci := 11) rfl 13 (by decide) tm_1276 rfl rfl rfl 0 rfl (Nat.le_of_ble_eq_true rfl) rd_Md_advanceToken_33 (ws' := wd_Md_advanceToken cI a_t a_t_w a_t_wKept a_t_saved a_t_past a_t_input a_t_n a_t_order a_t_numbers a_t_output i_t_pastMany i_t_isSaved i_t_thrown i_t_inputMany i_t_lastError i_t_lastOffset i_t_error i_t_offset (t_nextByte + 1) t_begin t_value t_token i_t_got i_t_orders i_t_outputMany i_t_input) rfl ?_
        refine jk_goto (tgt := 0) C rd_Md_advanceToken_36 (by decide) ?_
        refine jk_lv (lv' := [(0, .ref a_t)]) [0] rfl ?_
        exact ih (t_nextByte + 1) t_begin t_value t_token hf
      · refine jk_aload_n C rd_Md_advanceToken_13 (k := 0) rfl ?_
        refine jk_aload_n C rd_Md_advanceToken_14 (k := 0) rfl ?_
        refine jk_get C in_Md (ci := 11) rfl 13 (by decide) tm_1276 0 rfl rfl rd_Md_advanceToken_15 ?_
        obtain ⟨q18, hq18, hf⟩ := jk_bind_h hf
        refine jk_callVi C hZ.1 hz (ct_Md_byteAt l D Z sq hZ cI cR a_t a_t_w a_t_wKept a_t_saved a_t_past a_t_input a_t_n a_t_order a_t_numbers a_t_output i_t_pastMany i_t_isSaved i_t_thrown i_t_inputMany i_t_lastError i_t_lastOffset i_t_error i_t_offset t_nextByte t_begin t_value t_token i_t_got i_t_orders i_t_outputMany i_t_input t_nextByte q18 hq18) tm_1370 tm_1372 sl_30 tm_15 tm_1373 na_Md_byteAt ⟨Nat.le_of_ble_eq_true rfl, Nat.le_of_ble_eq_true rfl⟩ rfl [0, 1] rfl rfl rfl (ws' := wd_Md_advanceToken cI a_t a_t_w a_t_wKept a_t_saved a_t_past a_t_input a_t_n a_t_order a_t_numbers a_t_output i_t_pastMany i_t_isSaved i_t_thrown i_t_inputMany i_t_lastError i_t_lastOffset i_t_error i_t_offset t_nextByte t_begin t_value t_token i_t_got i_t_orders i_t_outputMany i_t_input) rfl 0 11 rfl rfl rfl (st := []) rfl (Nat.le_of_ble_eq_true rfl) rd_Md_advanceToken_18 ?_ ⟨Nat.le_refl _, Nat.le_refl _⟩
        refine jk_bipush C rd_Md_advanceToken_21 (by decide +kernel) ?_
        refine jk_icmp_ne (tgt := 39) C rd_Md_advanceToken_23 (by decide) hf (fun _ hf => ?_) (fun _ hf => ?_)
        · refine jk_aload_n C rd_Md_advanceToken_39 (k := 0) rfl ?_
          refine jk_aload_n C rd_Md_advanceToken_40 (k := 0) rfl ?_
          refine jk_get C in_Md (ci := 11) rfl 13 (by decide) tm_1276 0 rfl rfl rd_Md_advanceToken_41 ?_
          refine jk_putf C in_Md ty_Md nm_Md (ci := 11) rfl 14 (by decide) tm_1277 rfl rfl rfl 0 rfl (Nat.le_of_ble_eq_true rfl) rd_Md_advanceToken_44 (ws' := wd_Md_advanceToken cI a_t a_t_w a_t_wKept a_t_saved a_t_past a_t_input a_t_n a_t_order a_t_numbers a_t_output i_t_pastMany i_t_isSaved i_t_thrown i_t_inputMany i_t_lastError i_t_lastOffset i_t_error i_t_offset t_nextByte t_nextByte t_value t_token i_t_got i_t_orders i_t_outputMany i_t_input) rfl ?_
          refine jk_aload_n C rd_Md_advanceToken_47 (k := 0) rfl ?_
          refine jk_aload_n C rd_Md_advanceToken_48 (k := 0) rfl ?_
          refine jk_get C in_Md (ci := 11) rfl 13 (by decide) tm_1276 0 rfl rfl rd_Md_advanceToken_49 ?_
          obtain ⟨q52, hq52, hf⟩ := jk_bind_h hf
          refine jk_callVi C hZ.1 hz (ct_Md_byteAt l D Z sq hZ cI cR a_t a_t_w a_t_wKept a_t_saved a_t_past a_t_input a_t_n a_t_order a_t_numbers a_t_output i_t_pastMany i_t_isSaved i_t_thrown i_t_inputMany i_t_lastError i_t_lastOffset i_t_error i_t_offset t_nextByte t_nextByte t_value t_token i_t_got i_t_orders i_t_outputMany i_t_input t_nextByte q52 hq52) tm_1370 tm_1372 sl_30 tm_15 tm_1373 na_Md_byteAt ⟨Nat.le_of_ble_eq_true rfl, Nat.le_of_ble_eq_true rfl⟩ rfl [0, 1] rfl rfl rfl (ws' := wd_Md_advanceToken cI a_t a_t_w a_t_wKept a_t_saved a_t_past a_t_input a_t_n a_t_order a_t_numbers a_t_output i_t_pastMany i_t_isSaved i_t_thrown i_t_inputMany i_t_lastError i_t_lastOffset i_t_error i_t_offset t_nextByte t_nextByte t_value t_token i_t_got i_t_orders i_t_outputMany i_t_input) rfl 0 11 rfl rfl rfl (st := []) rfl (Nat.le_of_ble_eq_true rfl) rd_Md_advanceToken_52 ?_ ⟨Nat.le_refl _, Nat.le_refl _⟩
          refine jk_istore_n C rd_Md_advanceToken_55 (by decide) (lv' := [(1, jk_V q52), (0, .ref a_t)]) rfl ?_
          refine jk_aload_n C rd_Md_advanceToken_56 (k := 1) rfl ?_
          refine jk_iconst C rd_Md_advanceToken_57 ?_
          refine jk_putf C in_Md ty_Md nm_Md (ci := 11) rfl 15 (by decide) tm_1278 rfl rfl rfl 0 rfl (Nat.le_of_ble_eq_true rfl) rd_Md_advanceToken_58 (ws' := wd_Md_advanceToken cI a_t a_t_w a_t_wKept a_t_saved a_t_past a_t_input a_t_n a_t_order a_t_numbers a_t_output i_t_pastMany i_t_isSaved i_t_thrown i_t_inputMany i_t_lastError i_t_lastOffset i_t_error i_t_offset t_nextByte t_nextByte 0 t_token i_t_got i_t_orders i_t_outputMany i_t_input) rfl ?_
          refine jk_iload_n C rd_Md_advanceToken_61 (k := 0) rfl ?_
          refine jk_iconst C rd_Md_advanceToken_62 ?_
          refine jk_icmp_ne (tgt := 74) C rd_Md_advanceToken_63 (by decide) hf (fun _ hf => ?_) (fun _ hf => ?_)
          · refine jk_aload_n C rd_Md_advanceToken_74 (k := 1) rfl ?_
            refine jk_aload_n C rd_Md_advanceToken_75 (k := 1) rfl ?_
            refine jk_get C in_Md (ci := 11) rfl 13 (by decide) tm_1276 0 rfl rfl rd_Md_advanceToken_76 ?_
            obtain ⟨q79, hq79, hf⟩ := jk_bind_h hf
            refine jk_callVi C hZ.1 hz (ct_Md_isLetter l D Z sq hZ cI cR a_t a_t_w a_t_wKept a_t_saved a_t_past a_t_input a_t_n a_t_order a_t_numbers a_t_output i_t_pastMany i_t_isSaved i_t_thrown i_t_inputMany i_t_lastError i_t_lastOffset i_t_error i_t_offset t_nextByte t_nextByte 0 t_token i_t_got i_t_orders i_t_outputMany i_t_input t_nextByte q79 hq79) tm_1374 tm_1376 sl_31 tm_15 tm_1377 na_Md_isLetter ⟨Nat.le_of_ble_eq_true rfl, Nat.le_of_ble_eq_true rfl⟩ rfl [0, 1] rfl rfl rfl (ws' := wd_Md_advanceToken cI a_t a_t_w a_t_wKept a_t_saved a_t_past a_t_input a_t_n a_t_order a_t_numbers a_t_output i_t_pastMany i_t_isSaved i_t_thrown i_t_inputMany i_t_lastError i_t_lastOffset i_t_error i_t_offset t_nextByte t_nextByte 0 t_token i_t_got i_t_orders i_t_outputMany i_t_input) rfl 0 11 rfl rfl rfl (st := []) rfl (Nat.le_of_ble_eq_true rfl) rd_Md_advanceToken_79 ?_ ⟨Nat.le_refl _, Nat.le_refl _⟩
            refine jk_if_eq (tgt := 135) C rd_Md_advanceToken_82 (by decide) hf (fun _ hf => ?_) (fun _ hf => ?_)
            · refine jk_iload_n C rd_Md_advanceToken_135 (k := 0) rfl ?_
              refine jk_bipush C rd_Md_advanceToken_136 (by decide +kernel) ?_
              refine jk_bipush C rd_Md_advanceToken_138 (by decide +kernel) ?_
              obtain ⟨q140, hq140, hf⟩ := jk_bind_h hf
              refine jk_callSi C hZ.1 hz (ct_Md_inRange l D Z sq hZ cI cR q52 48 57 q140 hq140) tm_1352 tm_1353 tm_15 tm_1354 na_Md_inRange ⟨Nat.le_of_ble_eq_true rfl, Nat.le_of_ble_eq_true rfl⟩ rfl [] rfl rfl rfl (ws' := wd_Md_advanceToken cI a_t a_t_w a_t_wKept a_t_saved a_t_past a_t_input a_t_n a_t_order a_t_numbers a_t_output i_t_pastMany i_t_isSaved i_t_thrown i_t_inputMany i_t_lastError i_t_lastOffset i_t_error i_t_offset t_nextByte t_nextByte 0 t_token i_t_got i_t_orders i_t_outputMany i_t_input) rfl (st := []) rfl (Nat.le_of_ble_eq_true rfl) rd_Md_advanceToken_140 ?_ ⟨Nat.le_refl _, Nat.le_refl _⟩
              refine jk_if_eq (tgt := 245) C rd_Md_advanceToken_143 (by decide) hf (fun _ hf => ?_) (fun _ hf => ?_)
              · refine jk_aload_n C rd_Md_advanceToken_245 (k := 1) rfl ?_
                refine jk_iload_n C rd_Md_advanceToken_246 (k := 0) rfl ?_
                refine jk_bipush C rd_Md_advanceToken_247 (by decide +kernel) ?_
                refine jk_icmp_ne (tgt := 256) C rd_Md_advanceToken_249 (by decide) hf (fun _ hf => ?_) (fun _ hf => ?_)
                · refine jk_iconst C rd_Md_advanceToken_256 ?_
                  refine jk_putf C in_Md ty_Md nm_Md (ci := 11) rfl 16 (by decide) tm_1279 rfl rfl rfl 0 rfl (Nat.le_of_ble_eq_true rfl) rd_Md_advanceToken_257 (ws' := wd_Md_advanceToken cI a_t a_t_w a_t_wKept a_t_saved a_t_past a_t_input a_t_n a_t_order a_t_numbers a_t_output i_t_pastMany i_t_isSaved i_t_thrown i_t_inputMany i_t_lastError i_t_lastOffset i_t_error i_t_offset t_nextByte t_nextByte 0 4 i_t_got i_t_orders i_t_outputMany i_t_input) rfl ?_
                  refine jk_aload_n C rd_Md_advanceToken_260 (k := 1) rfl ?_
                  refine jk_dup C rd_Md_advanceToken_261 rfl ?_
                  refine jk_get C in_Md (ci := 11) rfl 13 (by decide) tm_1276 0 rfl rfl rd_Md_advanceToken_262 ?_
                  refine jk_iconst C rd_Md_advanceToken_265 ?_
                  refine jk_iadd C rd_Md_advanceToken_266 ?_
                  refine jk_putf C in_Md ty_Md nm_Md (ci := 11) rfl 13 (by decide) tm_1276 rfl rfl rfl 0 rfl (Nat.le_of_ble_eq_true rfl) rd_Md_advanceToken_267 (ws' := wd_Md_advanceToken cI a_t a_t_w a_t_wKept a_t_saved a_t_past a_t_input a_t_n a_t_order a_t_numbers a_t_output i_t_pastMany i_t_isSaved i_t_thrown i_t_inputMany i_t_lastError i_t_lastOffset i_t_error i_t_offset (t_nextByte + 1) t_nextByte 0 4 i_t_got i_t_orders i_t_outputMany i_t_input) rfl ?_
                  cases hf
                  exact jk_vret C rfl rd_Md_advanceToken_270 rfl
                · refine jk_iconst C rd_Md_advanceToken_252 ?_
                  refine jk_goto (tgt := 257) C rd_Md_advanceToken_253 (by decide) ?_
                  refine jk_putf C in_Md ty_Md nm_Md (ci := 11) rfl 16 (by decide) tm_1279 rfl rfl rfl 0 rfl (Nat.le_of_ble_eq_true rfl) rd_Md_advanceToken_257 (ws' := wd_Md_advanceToken cI a_t a_t_w a_t_wKept a_t_saved a_t_past a_t_input a_t_n a_t_order a_t_numbers a_t_output i_t_pastMany i_t_isSaved i_t_thrown i_t_inputMany i_t_lastError i_t_lastOffset i_t_error i_t_offset t_nextByte t_nextByte 0 3 i_t_got i_t_orders i_t_outputMany i_t_input) rfl ?_
                  refine jk_aload_n C rd_Md_advanceToken_260 (k := 1) rfl ?_
                  refine jk_dup C rd_Md_advanceToken_261 rfl ?_
                  refine jk_get C in_Md (ci := 11) rfl 13 (by decide) tm_1276 0 rfl rfl rd_Md_advanceToken_262 ?_
                  refine jk_iconst C rd_Md_advanceToken_265 ?_
                  refine jk_iadd C rd_Md_advanceToken_266 ?_
                  refine jk_putf C in_Md ty_Md nm_Md (ci := 11) rfl 13 (by decide) tm_1276 rfl rfl rfl 0 rfl (Nat.le_of_ble_eq_true rfl) rd_Md_advanceToken_267 (ws' := wd_Md_advanceToken cI a_t a_t_w a_t_wKept a_t_saved a_t_past a_t_input a_t_n a_t_order a_t_numbers a_t_output i_t_pastMany i_t_isSaved i_t_thrown i_t_inputMany i_t_lastError i_t_lastOffset i_t_error i_t_offset (t_nextByte + 1) t_nextByte 0 3 i_t_got i_t_orders i_t_outputMany i_t_input) rfl ?_
                  cases hf
                  exact jk_vret C rfl rd_Md_advanceToken_270 rfl
              · refine jk_lv (lv' := [(0, .ref a_t)]) [1] rfl ?_
                exact bk_146 jk_F t_nextByte t_nextByte 0 t_token hf
            · refine jk_lv (lv' := [(0, .ref a_t)]) [1] rfl ?_
              exact bk_85 jk_F t_nextByte t_nextByte 0 t_token hf
          · refine jk_aload_n C rd_Md_advanceToken_66 (k := 1) rfl ?_
            refine jk_iconst C rd_Md_advanceToken_67 ?_
            refine jk_putf C in_Md ty_Md nm_Md (ci := 11) rfl 16 (by decide) tm_1279 rfl rfl rfl 0 rfl (Nat.le_of_ble_eq_true rfl) rd_Md_advanceToken_68 (ws' := wd_Md_advanceToken cI a_t a_t_w a_t_wKept a_t_saved a_t_past a_t_input a_t_n a_t_order a_t_numbers a_t_output i_t_pastMany i_t_isSaved i_t_thrown i_t_inputMany i_t_lastError i_t_lastOffset i_t_error i_t_offset t_nextByte t_nextByte 0 0 i_t_got i_t_orders i_t_outputMany i_t_input) rfl ?_
            refine jk_goto (tgt := 270) C rd_Md_advanceToken_71 (by decide) ?_
            cases hf
            exact jk_vret C rfl rd_Md_advanceToken_270 rfl
        · refine jk_aload_n C rd_Md_advanceToken_26 (k := 0) rfl ?_
          refine jk_dup C rd_Md_advanceToken_27 rfl ?_
          refine jk_get C in_Md (ci := 11) rfl 13 (by decide) tm_1276 0 rfl rfl rd_Md_advanceToken_28 ?_
          refine jk_iconst C rd_Md_advanceToken_31 ?_
          refine jk_iadd C rd_Md_advanceToken_32 ?_
          refine jk_putf C in_Md ty_Md nm_Md (ci := 11) rfl 13 (by decide) tm_1276 rfl rfl rfl 0 rfl (Nat.le_of_ble_eq_true rfl) rd_Md_advanceToken_33 (ws' := wd_Md_advanceToken cI a_t a_t_w a_t_wKept a_t_saved a_t_past a_t_input a_t_n a_t_order a_t_numbers a_t_output i_t_pastMany i_t_isSaved i_t_thrown i_t_inputMany i_t_lastError i_t_lastOffset i_t_error i_t_offset (t_nextByte + 1) t_begin t_value t_token i_t_got i_t_orders i_t_outputMany i_t_input) rfl ?_
          refine jk_goto (tgt := 0) C rd_Md_advanceToken_36 (by decide) ?_
          refine jk_lv (lv' := [(0, .ref a_t)]) [0] rfl ?_
          exact ih (t_nextByte + 1) t_begin t_value t_token hf
  refine jk_lv (lv' := [(0, .ref a_t)]) [0] rfl ?_
  exact bk_0 jk_F i_t_nextByte i_t_begin i_t_value i_t_token hf
def wd_Md_failsAt (cI : ClassId) (a_t a_t_w a_t_wKept a_t_saved a_t_past a_t_input a_t_n a_t_order a_t_numbers a_t_output : Nat) (i_t_pastMany : Int) (i_t_isSaved : Int) (i_t_thrown : Int) (i_t_inputMany : Int) (i_t_lastError : Int) (i_t_lastOffset : Int) (i_t_error : Int) (i_t_offset : Int) (i_t_nextByte : Int) (i_t_begin : Int) (i_t_value : Int) (i_t_token : Int) (i_t_got : Int) (i_t_orders : Int) (i_t_outputMany : Int) : va_W := [(a_t, .inr (11, [.ref a_t_w, .ref a_t_wKept, .ref a_t_saved, .ref a_t_past, jk_V i_t_pastMany, jk_V i_t_isSaved, jk_V i_t_thrown, .ref a_t_input, jk_V i_t_inputMany, jk_V i_t_lastError, jk_V i_t_lastOffset, jk_V i_t_error, jk_V i_t_offset, jk_V i_t_nextByte, jk_V i_t_begin, jk_V i_t_value, jk_V i_t_token, jk_V i_t_got, .ref a_t_n, .ref a_t_order, .ref a_t_numbers, jk_V i_t_orders, .ref a_t_output, jk_V i_t_outputMany]))]
set_option maxHeartbeats 4000000 in
set_option maxRecDepth 20000 in
theorem ct_Md_failsAt (l : Launch) (D : va_G) (Z : (Nat → Prop) → State → Heap → Prop) (sq : Nat → Nat) (hZ : jk_ZK Z sq) (cI cR : ClassId) (a_t a_t_w a_t_wKept a_t_saved a_t_past a_t_input a_t_n a_t_order a_t_numbers a_t_output : Nat) (i_t_pastMany : Int) (i_t_isSaved : Int) (i_t_thrown : Int) (i_t_inputMany : Int) (i_t_lastError : Int) (i_t_lastOffset : Int) (i_t_error : Int) (i_t_offset : Int) (i_t_nextByte : Int) (i_t_begin : Int) (i_t_value : Int) (i_t_token : Int) (i_t_got : Int) (i_t_orders : Int) (i_t_outputMany : Int) (x1 : Int) (q : Int × Int × Int) (hf : fn_Md_failsAt i_t_error i_t_offset i_t_begin x1 = some q) : jk_MI l D jk_cl (jk_ty cI cR) Z mn_Md_failsAt (.code mn_Md_failsAt mb_Md_failsAt 2 (some .boolean) :: jk_WA) (jk_rm 0 0) [.ref a_t, jk_V x1] (wd_Md_failsAt cI a_t a_t_w a_t_wKept a_t_saved a_t_past a_t_input a_t_n a_t_order a_t_numbers a_t_output i_t_pastMany i_t_isSaved i_t_thrown i_t_inputMany i_t_lastError i_t_lastOffset i_t_error i_t_offset i_t_nextByte i_t_begin i_t_value i_t_token i_t_got i_t_orders i_t_outputMany) (wd_Md_failsAt cI a_t a_t_w a_t_wKept a_t_saved a_t_past a_t_input a_t_n a_t_order a_t_numbers a_t_output i_t_pastMany i_t_isSaved i_t_thrown i_t_inputMany i_t_lastError i_t_lastOffset q.2.1 q.2.2 i_t_nextByte i_t_begin i_t_value i_t_token i_t_got i_t_orders i_t_outputMany) q.1 := by
  intro sz
  refine jk_body (by decide +kernel) (fun p e s m args below meth c hsz hz hin C => ?_) (Nat.le_of_ble_eq_true rfl)
  subst hsz
  unfold fn_Md_failsAt at hf
  refine jk_aload_n C rd_Md_failsAt_0 (k := 0) rfl ?_
  refine jk_get C in_Md (ci := 11) rfl 11 (by decide) tm_1274 0 rfl rfl rd_Md_failsAt_1 ?_
  refine jk_if_ne (tgt := 20) C rd_Md_failsAt_4 (by decide) hf (fun _ hf => ?_) (fun _ hf => ?_)
  · refine jk_iconst C rd_Md_failsAt_20 ?_
    cases hf
    exact jk_zret C (Or.inl rfl) rfl rd_Md_failsAt_21 rfl
  · refine jk_aload_n C rd_Md_failsAt_7 (k := 0) rfl ?_
    refine jk_iload_n C rd_Md_failsAt_8 (k := 1) rfl ?_
    refine jk_putf C in_Md ty_Md nm_Md (ci := 11) rfl 11 (by decide) tm_1274 rfl rfl rfl 0 rfl (Nat.le_of_ble_eq_true rfl) rd_Md_failsAt_9 (ws' := wd_Md_failsAt cI a_t a_t_w a_t_wKept a_t_saved a_t_past a_t_input a_t_n a_t_order a_t_numbers a_t_output i_t_pastMany i_t_isSaved i_t_thrown i_t_inputMany i_t_lastError i_t_lastOffset x1 i_t_offset i_t_nextByte i_t_begin i_t_value i_t_token i_t_got i_t_orders i_t_outputMany) rfl ?_
    refine jk_aload_n C rd_Md_failsAt_12 (k := 0) rfl ?_
    refine jk_aload_n C rd_Md_failsAt_13 (k := 0) rfl ?_
    refine jk_get C in_Md (ci := 11) rfl 14 (by decide) tm_1277 0 rfl rfl rd_Md_failsAt_14 ?_
    refine jk_putf C in_Md ty_Md nm_Md (ci := 11) rfl 12 (by decide) tm_1275 rfl rfl rfl 0 rfl (Nat.le_of_ble_eq_true rfl) rd_Md_failsAt_17 (ws' := wd_Md_failsAt cI a_t a_t_w a_t_wKept a_t_saved a_t_past a_t_input a_t_n a_t_order a_t_numbers a_t_output i_t_pastMany i_t_isSaved i_t_thrown i_t_inputMany i_t_lastError i_t_lastOffset x1 i_t_begin i_t_nextByte i_t_begin i_t_value i_t_token i_t_got i_t_orders i_t_outputMany) rfl ?_
    refine jk_iconst C rd_Md_failsAt_20 ?_
    cases hf
    exact jk_zret C (Or.inl rfl) rfl rd_Md_failsAt_21 rfl
def wd_Md_isWord (cI : ClassId) (a_t a_t_w a_t_wKept a_t_saved a_t_past a_t_input a_t_n a_t_order a_t_numbers a_t_output : Nat) (i_t_pastMany : Int) (i_t_isSaved : Int) (i_t_thrown : Int) (i_t_inputMany : Int) (i_t_lastError : Int) (i_t_lastOffset : Int) (i_t_error : Int) (i_t_offset : Int) (i_t_nextByte : Int) (i_t_begin : Int) (i_t_value : Int) (i_t_token : Int) (i_t_got : Int) (i_t_orders : Int) (i_t_outputMany : Int) (i_t_input : (Int → Int)) : va_W := [(a_t, .inr (11, [.ref a_t_w, .ref a_t_wKept, .ref a_t_saved, .ref a_t_past, jk_V i_t_pastMany, jk_V i_t_isSaved, jk_V i_t_thrown, .ref a_t_input, jk_V i_t_inputMany, jk_V i_t_lastError, jk_V i_t_lastOffset, jk_V i_t_error, jk_V i_t_offset, jk_V i_t_nextByte, jk_V i_t_begin, jk_V i_t_value, jk_V i_t_token, jk_V i_t_got, .ref a_t_n, .ref a_t_order, .ref a_t_numbers, jk_V i_t_orders, .ref a_t_output, jk_V i_t_outputMany])), (a_t_input, jk_W cI 700 i_t_input)]
set_option maxHeartbeats 4000000 in
set_option maxRecDepth 20000 in
theorem ct_Md_isWord (l : Launch) (D : va_G) (Z : (Nat → Prop) → State → Heap → Prop) (sq : Nat → Nat) (hZ : jk_ZK Z sq) (cI cR : ClassId) (a_t a_t_w a_t_wKept a_t_saved a_t_past a_t_input a_t_n a_t_order a_t_numbers a_t_output : Nat) (i_t_pastMany : Int) (i_t_isSaved : Int) (i_t_thrown : Int) (i_t_inputMany : Int) (i_t_lastError : Int) (i_t_lastOffset : Int) (i_t_error : Int) (i_t_offset : Int) (i_t_nextByte : Int) (i_t_begin : Int) (i_t_value : Int) (i_t_token : Int) (i_t_got : Int) (i_t_orders : Int) (i_t_outputMany : Int) (i_t_input : (Int → Int)) (i_x1 : List Int) (q_i_x1 : Nat) (hq_i_x1 : jk_St Z q_i_x1 i_x1) (q : Int) (hf : fn_Md_isWord i_t_input i_t_nextByte i_t_begin i_t_token i_x1 = some q) : jk_MI l D jk_cl (jk_ty cI cR) Z mn_Md_isWord (.code mn_Md_isWord mb_Md_isWord 3 (some .boolean) :: jk_WA) (jk_rm 6 300) [.ref a_t, .ref q_i_x1] (wd_Md_isWord cI a_t a_t_w a_t_wKept a_t_saved a_t_past a_t_input a_t_n a_t_order a_t_numbers a_t_output i_t_pastMany i_t_isSaved i_t_thrown i_t_inputMany i_t_lastError i_t_lastOffset i_t_error i_t_offset i_t_nextByte i_t_begin i_t_value i_t_token i_t_got i_t_orders i_t_outputMany i_t_input) (wd_Md_isWord cI a_t a_t_w a_t_wKept a_t_saved a_t_past a_t_input a_t_n a_t_order a_t_numbers a_t_output i_t_pastMany i_t_isSaved i_t_thrown i_t_inputMany i_t_lastError i_t_lastOffset i_t_error i_t_offset i_t_nextByte i_t_begin i_t_value i_t_token i_t_got i_t_orders i_t_outputMany i_t_input) q := by
  intro sz
  refine jk_body (by decide +kernel) (fun p e s m args below meth c hsz hz hin C => ?_) (Nat.le_of_ble_eq_true rfl)
  subst hsz
  unfold fn_Md_isWord at hf
  have bk_28 : ∀ (n : Nat) (v2 : Int), fn_Md_isWord_b28 n i_t_input i_t_begin i_x1 v2 = some q → jk_J p l e (jk_rm 6 300) s m args below meth c 0 0 (jk_QI below D jk_cl (jk_ty cI cR) (wd_Md_isWord cI a_t a_t_w a_t_wKept a_t_saved a_t_past a_t_input a_t_n a_t_order a_t_numbers a_t_output i_t_pastMany i_t_isSaved i_t_thrown i_t_inputMany i_t_lastError i_t_lastOffset i_t_error i_t_offset i_t_nextByte i_t_begin i_t_value i_t_token i_t_got i_t_orders i_t_outputMany i_t_input) (wd_Md_isWord cI a_t a_t_w a_t_wKept a_t_saved a_t_past a_t_input a_t_n a_t_order a_t_numbers a_t_output i_t_pastMany i_t_isSaved i_t_thrown i_t_inputMany i_t_lastError i_t_lastOffset i_t_error i_t_offset i_t_nextByte i_t_begin i_t_value i_t_token i_t_got i_t_orders i_t_outputMany i_t_input) args s q) D jk_cl (va_A (wd_Md_isWord cI a_t a_t_w a_t_wKept a_t_saved a_t_past a_t_input a_t_n a_t_order a_t_numbers a_t_output i_t_pastMany i_t_isSaved i_t_thrown i_t_inputMany i_t_lastError i_t_lastOffset i_t_error i_t_offset i_t_nextByte i_t_begin i_t_value i_t_token i_t_got i_t_orders i_t_outputMany i_t_input) s.heap.size) 3 (wd_Md_isWord cI a_t a_t_w a_t_wKept a_t_saved a_t_past a_t_input a_t_n a_t_order a_t_numbers a_t_output i_t_pastMany i_t_isSaved i_t_thrown i_t_inputMany i_t_lastError i_t_lastOffset i_t_error i_t_offset i_t_nextByte i_t_begin i_t_value i_t_token i_t_got i_t_orders i_t_outputMany i_t_input) [(0, .ref a_t), (1, .ref q_i_x1), (2, jk_V v2)] 28 [] := by
    intro n
    induction n with
    | zero => intro v2 hf; exact nomatch (show none = some q from hf)
    | succ n ih =>
      intro v2 hf
      rw [fn_Md_isWord_b28] at hf
      refine jk_iload_n C rd_Md_isWord_28 (k := 2) rfl ?_
      refine jk_aload_n C rd_Md_isWord_29 (k := 1) rfl ?_
      refine jk_slen C hZ hz hq_i_x1 rd_Md_isWord_30 W_slen_Md_170 ⟨Nat.le_of_ble_eq_true rfl, Nat.le_of_ble_eq_true rfl⟩ (Nat.le_of_ble_eq_true rfl) ⟨Nat.le_refl _, Nat.le_refl _⟩ ?_
      refine jk_icmp_ge (tgt := 63) C rd_Md_isWord_33 (by decide) hf (fun _ hf => ?_) (fun _ hf => ?_)
      · refine jk_iconst C rd_Md_isWord_63 ?_
        cases hf
        exact jk_zret C (Or.inr rfl) rfl rd_Md_isWord_64 rfl
      · refine jk_aload_n C rd_Md_isWord_36 (k := 0) rfl ?_
        refine jk_get C in_Md (ci := 11) rfl 7 (by decide) tm_1270 0 rfl rfl rd_Md_isWord_37 ?_
        refine jk_aload_n C rd_Md_isWord_40 (k := 0) rfl ?_
        refine jk_get C in_Md (ci := 11) rfl 14 (by decide) tm_1277 0 rfl rfl rd_Md_isWord_41 ?_
        refine jk_iload_n C rd_Md_isWord_44 (k := 2) rfl ?_
        refine jk_iadd C rd_Md_isWord_45 ?_
        refine jk_iald C 1 0 rfl rfl (Nat.le_of_ble_eq_true rfl) rd_Md_isWord_46 hf (fun hf => ?_)
        refine jk_aload_n C rd_Md_isWord_47 (k := 1) rfl ?_
        refine jk_iload_n C rd_Md_isWord_48 (k := 2) rfl ?_
        refine jk_sch C hZ hz hq_i_x1 rd_Md_isWord_49 W_sch_Md_176 ⟨Nat.le_of_ble_eq_true rfl, Nat.le_of_ble_eq_true rfl⟩ (Nat.le_of_ble_eq_true rfl) ⟨Nat.le_refl _, Nat.le_refl _⟩ hf (fun hf => ?_)
        refine jk_icmp_eq (tgt := 57) C rd_Md_isWord_52 (by decide) hf (fun _ hf => ?_) (fun _ hf => ?_)
        · refine jk_iinc C rd_Md_isWord_57 (k := 2) rfl (by decide) (lv' := [(2, jk_V (v2 + 1)), (0, .ref a_t), (1, .ref q_i_x1)]) rfl ?_
          refine jk_goto (tgt := 28) C rd_Md_isWord_60 (by decide) ?_
          refine jk_lv (lv' := [(0, .ref a_t), (1, .ref q_i_x1), (2, jk_V (v2 + 1))]) [1, 2, 0] rfl ?_
          exact ih (v2 + 1) hf
        · refine jk_iconst C rd_Md_isWord_55 ?_
          cases hf
          exact jk_zret C (Or.inl rfl) rfl rd_Md_isWord_56 rfl
  refine jk_aload_n C rd_Md_isWord_0 (k := 0) rfl ?_
  refine jk_get C in_Md (ci := 11) rfl 16 (by decide) tm_1279 0 rfl rfl rd_Md_isWord_1 ?_
  refine jk_iconst C rd_Md_isWord_4 ?_
  refine jk_icmp_ne (tgt := 24) C rd_Md_isWord_5 (by decide) hf (fun _ hf => ?_) (fun _ hf => ?_)
  · refine jk_iconst C rd_Md_isWord_24 ?_
    cases hf
    exact jk_zret C (Or.inl rfl) rfl rd_Md_isWord_25 rfl
  · refine jk_aload_n C rd_Md_isWord_8 (k := 0) rfl ?_
    refine jk_get C in_Md (ci := 11) rfl 13 (by decide) tm_1276 0 rfl rfl rd_Md_isWord_9 ?_
    refine jk_aload_n C rd_Md_isWord_12 (k := 0) rfl ?_
    refine jk_get C in_Md (ci := 11) rfl 14 (by decide) tm_1277 0 rfl rfl rd_Md_isWord_13 ?_
    refine jk_isub C rd_Md_isWord_16 ?_
    refine jk_aload_n C rd_Md_isWord_17 (k := 1) rfl ?_
    refine jk_slen C hZ hz hq_i_x1 rd_Md_isWord_18 W_slen_Md_170 ⟨Nat.le_of_ble_eq_true rfl, Nat.le_of_ble_eq_true rfl⟩ (Nat.le_of_ble_eq_true rfl) ⟨Nat.le_refl _, Nat.le_refl _⟩ ?_
    refine jk_icmp_eq (tgt := 26) C rd_Md_isWord_21 (by decide) hf (fun _ hf => ?_) (fun _ hf => ?_)
    · refine jk_iconst C rd_Md_isWord_26 ?_
      refine jk_istore_n C rd_Md_isWord_27 (by decide) (lv' := [(2, jk_V 0), (0, .ref a_t), (1, .ref q_i_x1)]) rfl ?_
      refine jk_lv (lv' := [(0, .ref a_t), (1, .ref q_i_x1), (2, jk_V 0)]) [1, 2, 0] rfl ?_
      exact bk_28 jk_F 0 hf
    · refine jk_iconst C rd_Md_isWord_24 ?_
      cases hf
      exact jk_zret C (Or.inl rfl) rfl rd_Md_isWord_25 rfl
def wd_Md_seesNumber (cI : ClassId) (a_t a_t_w a_t_wKept a_t_saved a_t_past a_t_input a_t_n a_t_order a_t_numbers a_t_output : Nat) (i_t_pastMany : Int) (i_t_isSaved : Int) (i_t_thrown : Int) (i_t_inputMany : Int) (i_t_lastError : Int) (i_t_lastOffset : Int) (i_t_error : Int) (i_t_offset : Int) (i_t_nextByte : Int) (i_t_begin : Int) (i_t_value : Int) (i_t_token : Int) (i_t_got : Int) (i_t_orders : Int) (i_t_outputMany : Int) : va_W := [(a_t, .inr (11, [.ref a_t_w, .ref a_t_wKept, .ref a_t_saved, .ref a_t_past, jk_V i_t_pastMany, jk_V i_t_isSaved, jk_V i_t_thrown, .ref a_t_input, jk_V i_t_inputMany, jk_V i_t_lastError, jk_V i_t_lastOffset, jk_V i_t_error, jk_V i_t_offset, jk_V i_t_nextByte, jk_V i_t_begin, jk_V i_t_value, jk_V i_t_token, jk_V i_t_got, .ref a_t_n, .ref a_t_order, .ref a_t_numbers, jk_V i_t_orders, .ref a_t_output, jk_V i_t_outputMany]))]
set_option maxHeartbeats 4000000 in
set_option maxRecDepth 20000 in
theorem ct_Md_seesNumber (l : Launch) (D : va_G) (Z : (Nat → Prop) → State → Heap → Prop) (sq : Nat → Nat) (hZ : jk_ZK Z sq) (cI cR : ClassId) (a_t a_t_w a_t_wKept a_t_saved a_t_past a_t_input a_t_n a_t_order a_t_numbers a_t_output : Nat) (i_t_pastMany : Int) (i_t_isSaved : Int) (i_t_thrown : Int) (i_t_inputMany : Int) (i_t_lastError : Int) (i_t_lastOffset : Int) (i_t_error : Int) (i_t_offset : Int) (i_t_nextByte : Int) (i_t_begin : Int) (i_t_value : Int) (i_t_token : Int) (i_t_got : Int) (i_t_orders : Int) (i_t_outputMany : Int) (x1 : Int) (x2 : Int) (q : Int × Int × Int × Int) (hf : fn_Md_seesNumber i_t_error i_t_offset i_t_begin i_t_value i_t_token i_t_got x1 x2 = some q) : jk_MI l D jk_cl (jk_ty cI cR) Z mn_Md_seesNumber (.code mn_Md_seesNumber mb_Md_seesNumber 3 (some .boolean) :: jk_WA) (jk_rm 1 22) [.ref a_t, jk_V x1, jk_V x2] (wd_Md_seesNumber cI a_t a_t_w a_t_wKept a_t_saved a_t_past a_t_input a_t_n a_t_order a_t_numbers a_t_output i_t_pastMany i_t_isSaved i_t_thrown i_t_inputMany i_t_lastError i_t_lastOffset i_t_error i_t_offset i_t_nextByte i_t_begin i_t_value i_t_token i_t_got i_t_orders i_t_outputMany) (wd_Md_seesNumber cI a_t a_t_w a_t_wKept a_t_saved a_t_past a_t_input a_t_n a_t_order a_t_numbers a_t_output i_t_pastMany i_t_isSaved i_t_thrown i_t_inputMany i_t_lastError i_t_lastOffset q.2.1 q.2.2.1 i_t_nextByte i_t_begin i_t_value i_t_token q.2.2.2 i_t_orders i_t_outputMany) q.1 := by
  intro sz
  refine jk_body (by decide +kernel) (fun p e s m args below meth c hsz hz hin C => ?_) (Nat.le_of_ble_eq_true rfl)
  subst hsz
  unfold fn_Md_seesNumber at hf
  refine jk_aload_n C rd_Md_seesNumber_0 (k := 0) rfl ?_
  refine jk_get C in_Md (ci := 11) rfl 16 (by decide) tm_1279 0 rfl rfl rd_Md_seesNumber_1 ?_
  refine jk_iconst C rd_Md_seesNumber_4 ?_
  refine jk_icmp_eq (tgt := 14) C rd_Md_seesNumber_5 (by decide) hf (fun _ hf => ?_) (fun _ hf => ?_)
  · refine jk_aload_n C rd_Md_seesNumber_14 (k := 0) rfl ?_
    refine jk_get C in_Md (ci := 11) rfl 15 (by decide) tm_1278 0 rfl rfl rd_Md_seesNumber_15 ?_
    refine jk_iload_n C rd_Md_seesNumber_18 (k := 1) rfl ?_
    refine jk_iload_n C rd_Md_seesNumber_19 (k := 2) rfl ?_
    obtain ⟨q20, hq20, hf⟩ := jk_bind_h hf
    refine jk_callSi C hZ.1 hz (ct_Md_inRange l D Z sq hZ cI cR i_t_value x1 x2 q20 hq20) tm_1352 tm_1353 tm_15 tm_1354 na_Md_inRange ⟨Nat.le_of_ble_eq_true rfl, Nat.le_of_ble_eq_true rfl⟩ rfl [] rfl rfl rfl (ws' := wd_Md_seesNumber cI a_t a_t_w a_t_wKept a_t_saved a_t_past a_t_input a_t_n a_t_order a_t_numbers a_t_output i_t_pastMany i_t_isSaved i_t_thrown i_t_inputMany i_t_lastError i_t_lastOffset i_t_error i_t_offset i_t_nextByte i_t_begin i_t_value i_t_token i_t_got i_t_orders i_t_outputMany) rfl (st := []) rfl (Nat.le_of_ble_eq_true rfl) rd_Md_seesNumber_20 ?_ ⟨Nat.le_refl _, Nat.le_refl _⟩
    refine jk_if_ne (tgt := 32) C rd_Md_seesNumber_23 (by decide) hf (fun _ hf => ?_) (fun _ hf => ?_)
    · refine jk_aload_n C rd_Md_seesNumber_32 (k := 0) rfl ?_
      refine jk_aload_n C rd_Md_seesNumber_33 (k := 0) rfl ?_
      refine jk_get C in_Md (ci := 11) rfl 15 (by decide) tm_1278 0 rfl rfl rd_Md_seesNumber_34 ?_
      refine jk_putf C in_Md ty_Md nm_Md (ci := 11) rfl 17 (by decide) tm_1280 rfl rfl rfl 0 rfl (Nat.le_of_ble_eq_true rfl) rd_Md_seesNumber_37 (ws' := wd_Md_seesNumber cI a_t a_t_w a_t_wKept a_t_saved a_t_past a_t_input a_t_n a_t_order a_t_numbers a_t_output i_t_pastMany i_t_isSaved i_t_thrown i_t_inputMany i_t_lastError i_t_lastOffset i_t_error i_t_offset i_t_nextByte i_t_begin i_t_value i_t_token i_t_value i_t_orders i_t_outputMany) rfl ?_
      refine jk_iconst C rd_Md_seesNumber_40 ?_
      cases hf
      exact jk_zret C (Or.inr rfl) rfl rd_Md_seesNumber_41 rfl
    · refine jk_aload_n C rd_Md_seesNumber_26 (k := 0) rfl ?_
      refine jk_iconst C rd_Md_seesNumber_27 ?_
      obtain ⟨q28, hq28, hf⟩ := jk_bind_h hf
      refine jk_callVi C hZ.1 hz (ct_Md_failsAt l D Z sq hZ cI cR a_t a_t_w a_t_wKept a_t_saved a_t_past a_t_input a_t_n a_t_order a_t_numbers a_t_output i_t_pastMany i_t_isSaved i_t_thrown i_t_inputMany i_t_lastError i_t_lastOffset i_t_error i_t_offset i_t_nextByte i_t_begin i_t_value i_t_token i_t_got i_t_orders i_t_outputMany 2 q28 hq28) tm_1397 tm_1399 sl_36 tm_15 tm_1400 na_Md_failsAt ⟨Nat.le_of_ble_eq_true rfl, Nat.le_of_ble_eq_true rfl⟩ rfl [0] rfl rfl rfl (ws' := wd_Md_seesNumber cI a_t a_t_w a_t_wKept a_t_saved a_t_past a_t_input a_t_n a_t_order a_t_numbers a_t_output i_t_pastMany i_t_isSaved i_t_thrown i_t_inputMany i_t_lastError i_t_lastOffset q28.2.1 q28.2.2 i_t_nextByte i_t_begin i_t_value i_t_token i_t_got i_t_orders i_t_outputMany) rfl 0 11 rfl rfl rfl (st := []) rfl (Nat.le_of_ble_eq_true rfl) rd_Md_seesNumber_28 ?_ ⟨Nat.le_refl _, Nat.le_refl _⟩
      obtain ⟨hbo, hf⟩ := jk_bo_h hf
      cases hf
      exact jk_zret C hbo rfl rd_Md_seesNumber_31 rfl
  · refine jk_aload_n C rd_Md_seesNumber_8 (k := 0) rfl ?_
    refine jk_iconst C rd_Md_seesNumber_9 ?_
    obtain ⟨q10, hq10, hf⟩ := jk_bind_h hf
    refine jk_callVi C hZ.1 hz (ct_Md_failsAt l D Z sq hZ cI cR a_t a_t_w a_t_wKept a_t_saved a_t_past a_t_input a_t_n a_t_order a_t_numbers a_t_output i_t_pastMany i_t_isSaved i_t_thrown i_t_inputMany i_t_lastError i_t_lastOffset i_t_error i_t_offset i_t_nextByte i_t_begin i_t_value i_t_token i_t_got i_t_orders i_t_outputMany 1 q10 hq10) tm_1397 tm_1399 sl_36 tm_15 tm_1400 na_Md_failsAt ⟨Nat.le_of_ble_eq_true rfl, Nat.le_of_ble_eq_true rfl⟩ rfl [0] rfl rfl rfl (ws' := wd_Md_seesNumber cI a_t a_t_w a_t_wKept a_t_saved a_t_past a_t_input a_t_n a_t_order a_t_numbers a_t_output i_t_pastMany i_t_isSaved i_t_thrown i_t_inputMany i_t_lastError i_t_lastOffset q10.2.1 q10.2.2 i_t_nextByte i_t_begin i_t_value i_t_token i_t_got i_t_orders i_t_outputMany) rfl 0 11 rfl rfl rfl (st := []) rfl (Nat.le_of_ble_eq_true rfl) rd_Md_seesNumber_10 ?_ ⟨Nat.le_refl _, Nat.le_refl _⟩
    obtain ⟨hbo, hf⟩ := jk_bo_h hf
    cases hf
    exact jk_zret C hbo rfl rd_Md_seesNumber_13 rfl
def wd_Md_takesNumber (cI : ClassId) (a_t a_t_w a_t_wKept a_t_saved a_t_past a_t_input a_t_n a_t_order a_t_numbers a_t_output : Nat) (i_t_pastMany : Int) (i_t_isSaved : Int) (i_t_thrown : Int) (i_t_inputMany : Int) (i_t_lastError : Int) (i_t_lastOffset : Int) (i_t_error : Int) (i_t_offset : Int) (i_t_nextByte : Int) (i_t_begin : Int) (i_t_value : Int) (i_t_token : Int) (i_t_got : Int) (i_t_orders : Int) (i_t_outputMany : Int) (i_t_input : (Int → Int)) : va_W := [(a_t, .inr (11, [.ref a_t_w, .ref a_t_wKept, .ref a_t_saved, .ref a_t_past, jk_V i_t_pastMany, jk_V i_t_isSaved, jk_V i_t_thrown, .ref a_t_input, jk_V i_t_inputMany, jk_V i_t_lastError, jk_V i_t_lastOffset, jk_V i_t_error, jk_V i_t_offset, jk_V i_t_nextByte, jk_V i_t_begin, jk_V i_t_value, jk_V i_t_token, jk_V i_t_got, .ref a_t_n, .ref a_t_order, .ref a_t_numbers, jk_V i_t_orders, .ref a_t_output, jk_V i_t_outputMany])), (a_t_input, jk_W cI 700 i_t_input)]
set_option maxHeartbeats 4000000 in
set_option maxRecDepth 20000 in
theorem ct_Md_takesNumber (l : Launch) (D : va_G) (Z : (Nat → Prop) → State → Heap → Prop) (sq : Nat → Nat) (hZ : jk_ZK Z sq) (cI cR : ClassId) (a_t a_t_w a_t_wKept a_t_saved a_t_past a_t_input a_t_n a_t_order a_t_numbers a_t_output : Nat) (i_t_pastMany : Int) (i_t_isSaved : Int) (i_t_thrown : Int) (i_t_inputMany : Int) (i_t_lastError : Int) (i_t_lastOffset : Int) (i_t_error : Int) (i_t_offset : Int) (i_t_nextByte : Int) (i_t_begin : Int) (i_t_value : Int) (i_t_token : Int) (i_t_got : Int) (i_t_orders : Int) (i_t_outputMany : Int) (i_t_input : (Int → Int)) (x1 : Int) (x2 : Int) (q : Int × Int × Int × Int × Int × Int × Int × Int) (hf : fn_Md_takesNumber i_t_input i_t_inputMany i_t_error i_t_offset i_t_nextByte i_t_begin i_t_value i_t_token i_t_got x1 x2 = some q) : jk_MI l D jk_cl (jk_ty cI cR) Z mn_Md_takesNumber (.code mn_Md_takesNumber mb_Md_takesNumber 3 (some .boolean) :: jk_WA) (jk_rm 3 64) [.ref a_t, jk_V x1, jk_V x2] (wd_Md_takesNumber cI a_t a_t_w a_t_wKept a_t_saved a_t_past a_t_input a_t_n a_t_order a_t_numbers a_t_output i_t_pastMany i_t_isSaved i_t_thrown i_t_inputMany i_t_lastError i_t_lastOffset i_t_error i_t_offset i_t_nextByte i_t_begin i_t_value i_t_token i_t_got i_t_orders i_t_outputMany i_t_input) (wd_Md_takesNumber cI a_t a_t_w a_t_wKept a_t_saved a_t_past a_t_input a_t_n a_t_order a_t_numbers a_t_output i_t_pastMany i_t_isSaved i_t_thrown i_t_inputMany i_t_lastError i_t_lastOffset q.2.1 q.2.2.1 q.2.2.2.1 q.2.2.2.2.1 q.2.2.2.2.2.1 q.2.2.2.2.2.2.1 q.2.2.2.2.2.2.2 i_t_orders i_t_outputMany i_t_input) q.1 := by
  intro sz
  refine jk_body (by decide +kernel) (fun p e s m args below meth c hsz hz hin C => ?_) (Nat.le_of_ble_eq_true rfl)
  subst hsz
  unfold fn_Md_takesNumber at hf
  refine jk_aload_n C rd_Md_takesNumber_0 (k := 0) rfl ?_
  refine jk_iload_n C rd_Md_takesNumber_1 (k := 1) rfl ?_
  refine jk_iload_n C rd_Md_takesNumber_2 (k := 2) rfl ?_
  obtain ⟨q3, hq3, hf⟩ := jk_bind_h hf
  refine jk_callVi C hZ.1 hz (ct_Md_seesNumber l D Z sq hZ cI cR a_t a_t_w a_t_wKept a_t_saved a_t_past a_t_input a_t_n a_t_order a_t_numbers a_t_output i_t_pastMany i_t_isSaved i_t_thrown i_t_inputMany i_t_lastError i_t_lastOffset i_t_error i_t_offset i_t_nextByte i_t_begin i_t_value i_t_token i_t_got i_t_orders i_t_outputMany x1 x2 q3 hq3) tm_1449 tm_1451 sl_48 tm_15 tm_1452 na_Md_seesNumber ⟨Nat.le_of_ble_eq_true rfl, Nat.le_of_ble_eq_true rfl⟩ rfl [0] rfl rfl rfl (ws' := wd_Md_takesNumber cI a_t a_t_w a_t_wKept a_t_saved a_t_past a_t_input a_t_n a_t_order a_t_numbers a_t_output i_t_pastMany i_t_isSaved i_t_thrown i_t_inputMany i_t_lastError i_t_lastOffset q3.2.1 q3.2.2.1 i_t_nextByte i_t_begin i_t_value i_t_token q3.2.2.2 i_t_orders i_t_outputMany i_t_input) rfl 0 11 rfl rfl rfl (st := []) rfl (Nat.le_of_ble_eq_true rfl) rd_Md_takesNumber_3 ?_ ⟨Nat.le_refl _, Nat.le_refl _⟩
  refine jk_if_ne (tgt := 11) C rd_Md_takesNumber_6 (by decide) hf (fun _ hf => ?_) (fun _ hf => ?_)
  · refine jk_aload_n C rd_Md_takesNumber_11 (k := 0) rfl ?_
    obtain ⟨q12, hq12, hf⟩ := jk_bind_h hf
    refine jk_callVv C hZ.1 hz (ct_Md_advanceToken l D Z sq hZ cI cR a_t a_t_w a_t_wKept a_t_saved a_t_past a_t_input a_t_n a_t_order a_t_numbers a_t_output i_t_pastMany i_t_isSaved i_t_thrown i_t_inputMany i_t_lastError i_t_lastOffset q3.2.1 q3.2.2.1 i_t_nextByte i_t_begin i_t_value i_t_token q3.2.2.2 i_t_orders i_t_outputMany i_t_input q12 hq12) tm_1366 tm_1368 sl_29 tm_15 tm_1369 na_Md_advanceToken ⟨Nat.le_of_ble_eq_true rfl, Nat.le_of_ble_eq_true rfl⟩ rfl [0, 1] rfl rfl rfl (ws' := wd_Md_takesNumber cI a_t a_t_w a_t_wKept a_t_saved a_t_past a_t_input a_t_n a_t_order a_t_numbers a_t_output i_t_pastMany i_t_isSaved i_t_thrown i_t_inputMany i_t_lastError i_t_lastOffset q3.2.1 q3.2.2.1 q12.1 q12.2.1 q12.2.2.1 q12.2.2.2 q3.2.2.2 i_t_orders i_t_outputMany i_t_input) rfl 0 11 rfl rfl rfl (st := []) rfl (Nat.le_of_ble_eq_true rfl) rd_Md_takesNumber_12 ?_ ⟨Nat.le_refl _, Nat.le_refl _⟩
    refine jk_iconst C rd_Md_takesNumber_15 ?_
    cases hf
    exact jk_zret C (Or.inr rfl) rfl rd_Md_takesNumber_16 rfl
  · refine jk_iconst C rd_Md_takesNumber_9 ?_
    cases hf
    exact jk_zret C (Or.inl rfl) rfl rd_Md_takesNumber_10 rfl
def wd_Md_takesSemicolon (cI : ClassId) (a_t a_t_w a_t_wKept a_t_saved a_t_past a_t_input a_t_n a_t_order a_t_numbers a_t_output : Nat) (i_t_pastMany : Int) (i_t_isSaved : Int) (i_t_thrown : Int) (i_t_inputMany : Int) (i_t_lastError : Int) (i_t_lastOffset : Int) (i_t_error : Int) (i_t_offset : Int) (i_t_nextByte : Int) (i_t_begin : Int) (i_t_value : Int) (i_t_token : Int) (i_t_got : Int) (i_t_orders : Int) (i_t_outputMany : Int) (i_t_input : (Int → Int)) : va_W := [(a_t, .inr (11, [.ref a_t_w, .ref a_t_wKept, .ref a_t_saved, .ref a_t_past, jk_V i_t_pastMany, jk_V i_t_isSaved, jk_V i_t_thrown, .ref a_t_input, jk_V i_t_inputMany, jk_V i_t_lastError, jk_V i_t_lastOffset, jk_V i_t_error, jk_V i_t_offset, jk_V i_t_nextByte, jk_V i_t_begin, jk_V i_t_value, jk_V i_t_token, jk_V i_t_got, .ref a_t_n, .ref a_t_order, .ref a_t_numbers, jk_V i_t_orders, .ref a_t_output, jk_V i_t_outputMany])), (a_t_input, jk_W cI 700 i_t_input)]
set_option maxHeartbeats 4000000 in
set_option maxRecDepth 20000 in
theorem ct_Md_takesSemicolon (l : Launch) (D : va_G) (Z : (Nat → Prop) → State → Heap → Prop) (sq : Nat → Nat) (hZ : jk_ZK Z sq) (cI cR : ClassId) (a_t a_t_w a_t_wKept a_t_saved a_t_past a_t_input a_t_n a_t_order a_t_numbers a_t_output : Nat) (i_t_pastMany : Int) (i_t_isSaved : Int) (i_t_thrown : Int) (i_t_inputMany : Int) (i_t_lastError : Int) (i_t_lastOffset : Int) (i_t_error : Int) (i_t_offset : Int) (i_t_nextByte : Int) (i_t_begin : Int) (i_t_value : Int) (i_t_token : Int) (i_t_got : Int) (i_t_orders : Int) (i_t_outputMany : Int) (i_t_input : (Int → Int)) (q : Int × Int × Int × Int × Int × Int × Int) (hf : fn_Md_takesSemicolon i_t_input i_t_inputMany i_t_error i_t_offset i_t_nextByte i_t_begin i_t_value i_t_token = some q) : jk_MI l D jk_cl (jk_ty cI cR) Z mn_Md_takesSemicolon (.code mn_Md_takesSemicolon mb_Md_takesSemicolon 1 (some .boolean) :: jk_WA) (jk_rm 3 64) [.ref a_t] (wd_Md_takesSemicolon cI a_t a_t_w a_t_wKept a_t_saved a_t_past a_t_input a_t_n a_t_order a_t_numbers a_t_output i_t_pastMany i_t_isSaved i_t_thrown i_t_inputMany i_t_lastError i_t_lastOffset i_t_error i_t_offset i_t_nextByte i_t_begin i_t_value i_t_token i_t_got i_t_orders i_t_outputMany i_t_input) (wd_Md_takesSemicolon cI a_t a_t_w a_t_wKept a_t_saved a_t_past a_t_input a_t_n a_t_order a_t_numbers a_t_output i_t_pastMany i_t_isSaved i_t_thrown i_t_inputMany i_t_lastError i_t_lastOffset q.2.1 q.2.2.1 q.2.2.2.1 q.2.2.2.2.1 q.2.2.2.2.2.1 q.2.2.2.2.2.2 i_t_got i_t_orders i_t_outputMany i_t_input) q.1 := by
  intro sz
  refine jk_body (by decide +kernel) (fun p e s m args below meth c hsz hz hin C => ?_) (Nat.le_of_ble_eq_true rfl)
  subst hsz
  unfold fn_Md_takesSemicolon at hf
  refine jk_aload_n C rd_Md_takesSemicolon_0 (k := 0) rfl ?_
  refine jk_get C in_Md (ci := 11) rfl 16 (by decide) tm_1279 0 rfl rfl rd_Md_takesSemicolon_1 ?_
  refine jk_iconst C rd_Md_takesSemicolon_4 ?_
  refine jk_icmp_eq (tgt := 14) C rd_Md_takesSemicolon_5 (by decide) hf (fun _ hf => ?_) (fun _ hf => ?_)
  · refine jk_aload_n C rd_Md_takesSemicolon_14 (k := 0) rfl ?_
    obtain ⟨q15, hq15, hf⟩ := jk_bind_h hf
    refine jk_callVv C hZ.1 hz (ct_Md_advanceToken l D Z sq hZ cI cR a_t a_t_w a_t_wKept a_t_saved a_t_past a_t_input a_t_n a_t_order a_t_numbers a_t_output i_t_pastMany i_t_isSaved i_t_thrown i_t_inputMany i_t_lastError i_t_lastOffset i_t_error i_t_offset i_t_nextByte i_t_begin i_t_value i_t_token i_t_got i_t_orders i_t_outputMany i_t_input q15 hq15) tm_1366 tm_1368 sl_29 tm_15 tm_1369 na_Md_advanceToken ⟨Nat.le_of_ble_eq_true rfl, Nat.le_of_ble_eq_true rfl⟩ rfl [0, 1] rfl rfl rfl (ws' := wd_Md_takesSemicolon cI a_t a_t_w a_t_wKept a_t_saved a_t_past a_t_input a_t_n a_t_order a_t_numbers a_t_output i_t_pastMany i_t_isSaved i_t_thrown i_t_inputMany i_t_lastError i_t_lastOffset i_t_error i_t_offset q15.1 q15.2.1 q15.2.2.1 q15.2.2.2 i_t_got i_t_orders i_t_outputMany i_t_input) rfl 0 11 rfl rfl rfl (st := []) rfl (Nat.le_of_ble_eq_true rfl) rd_Md_takesSemicolon_15 ?_ ⟨Nat.le_refl _, Nat.le_refl _⟩
    refine jk_iconst C rd_Md_takesSemicolon_18 ?_
    cases hf
    exact jk_zret C (Or.inr rfl) rfl rd_Md_takesSemicolon_19 rfl
  · refine jk_aload_n C rd_Md_takesSemicolon_8 (k := 0) rfl ?_
    refine jk_iconst C rd_Md_takesSemicolon_9 ?_
    obtain ⟨q10, hq10, hf⟩ := jk_bind_h hf
    refine jk_callVi C hZ.1 hz (ct_Md_failsAt l D Z sq hZ cI cR a_t a_t_w a_t_wKept a_t_saved a_t_past a_t_input a_t_n a_t_order a_t_numbers a_t_output i_t_pastMany i_t_isSaved i_t_thrown i_t_inputMany i_t_lastError i_t_lastOffset i_t_error i_t_offset i_t_nextByte i_t_begin i_t_value i_t_token i_t_got i_t_orders i_t_outputMany 1 q10 hq10) tm_1397 tm_1399 sl_36 tm_15 tm_1400 na_Md_failsAt ⟨Nat.le_of_ble_eq_true rfl, Nat.le_of_ble_eq_true rfl⟩ rfl [0] rfl rfl rfl (ws' := wd_Md_takesSemicolon cI a_t a_t_w a_t_wKept a_t_saved a_t_past a_t_input a_t_n a_t_order a_t_numbers a_t_output i_t_pastMany i_t_isSaved i_t_thrown i_t_inputMany i_t_lastError i_t_lastOffset q10.2.1 q10.2.2 i_t_nextByte i_t_begin i_t_value i_t_token i_t_got i_t_orders i_t_outputMany i_t_input) rfl 0 11 rfl rfl rfl (st := []) rfl (Nat.le_of_ble_eq_true rfl) rd_Md_takesSemicolon_10 ?_ ⟨Nat.le_refl _, Nat.le_refl _⟩
    obtain ⟨hbo, hf⟩ := jk_bo_h hf
    cases hf
    exact jk_zret C hbo rfl rd_Md_takesSemicolon_13 rfl
def wd_Md_seesName (cI : ClassId) (a_t a_t_w a_t_wKept a_t_saved a_t_past a_t_input a_t_n a_t_order a_t_numbers a_t_output : Nat) (i_t_pastMany : Int) (i_t_isSaved : Int) (i_t_thrown : Int) (i_t_inputMany : Int) (i_t_lastError : Int) (i_t_lastOffset : Int) (i_t_error : Int) (i_t_offset : Int) (i_t_nextByte : Int) (i_t_begin : Int) (i_t_value : Int) (i_t_token : Int) (i_t_got : Int) (i_t_orders : Int) (i_t_outputMany : Int) : va_W := [(a_t, .inr (11, [.ref a_t_w, .ref a_t_wKept, .ref a_t_saved, .ref a_t_past, jk_V i_t_pastMany, jk_V i_t_isSaved, jk_V i_t_thrown, .ref a_t_input, jk_V i_t_inputMany, jk_V i_t_lastError, jk_V i_t_lastOffset, jk_V i_t_error, jk_V i_t_offset, jk_V i_t_nextByte, jk_V i_t_begin, jk_V i_t_value, jk_V i_t_token, jk_V i_t_got, .ref a_t_n, .ref a_t_order, .ref a_t_numbers, jk_V i_t_orders, .ref a_t_output, jk_V i_t_outputMany]))]
set_option maxHeartbeats 4000000 in
set_option maxRecDepth 20000 in
theorem ct_Md_seesName (l : Launch) (D : va_G) (Z : (Nat → Prop) → State → Heap → Prop) (sq : Nat → Nat) (hZ : jk_ZK Z sq) (cI cR : ClassId) (a_t a_t_w a_t_wKept a_t_saved a_t_past a_t_input a_t_n a_t_order a_t_numbers a_t_output : Nat) (i_t_pastMany : Int) (i_t_isSaved : Int) (i_t_thrown : Int) (i_t_inputMany : Int) (i_t_lastError : Int) (i_t_lastOffset : Int) (i_t_error : Int) (i_t_offset : Int) (i_t_nextByte : Int) (i_t_begin : Int) (i_t_value : Int) (i_t_token : Int) (i_t_got : Int) (i_t_orders : Int) (i_t_outputMany : Int) (q : Int × Int × Int) (hf : fn_Md_seesName i_t_error i_t_offset i_t_nextByte i_t_begin i_t_token = some q) : jk_MI l D jk_cl (jk_ty cI cR) Z mn_Md_seesName (.code mn_Md_seesName mb_Md_seesName 1 (some .boolean) :: jk_WA) (jk_rm 1 21) [.ref a_t] (wd_Md_seesName cI a_t a_t_w a_t_wKept a_t_saved a_t_past a_t_input a_t_n a_t_order a_t_numbers a_t_output i_t_pastMany i_t_isSaved i_t_thrown i_t_inputMany i_t_lastError i_t_lastOffset i_t_error i_t_offset i_t_nextByte i_t_begin i_t_value i_t_token i_t_got i_t_orders i_t_outputMany) (wd_Md_seesName cI a_t a_t_w a_t_wKept a_t_saved a_t_past a_t_input a_t_n a_t_order a_t_numbers a_t_output i_t_pastMany i_t_isSaved i_t_thrown i_t_inputMany i_t_lastError i_t_lastOffset q.2.1 q.2.2 i_t_nextByte i_t_begin i_t_value i_t_token i_t_got i_t_orders i_t_outputMany) q.1 := by
  intro sz
  refine jk_body (by decide +kernel) (fun p e s m args below meth c hsz hz hin C => ?_) (Nat.le_of_ble_eq_true rfl)
  subst hsz
  unfold fn_Md_seesName at hf
  refine jk_aload_n C rd_Md_seesName_0 (k := 0) rfl ?_
  refine jk_get C in_Md (ci := 11) rfl 16 (by decide) tm_1279 0 rfl rfl rd_Md_seesName_1 ?_
  refine jk_iconst C rd_Md_seesName_4 ?_
  refine jk_icmp_ne (tgt := 22) C rd_Md_seesName_5 (by decide) hf (fun _ hf => ?_) (fun _ hf => ?_)
  · refine jk_aload_n C rd_Md_seesName_22 (k := 0) rfl ?_
    refine jk_iconst C rd_Md_seesName_23 ?_
    obtain ⟨q24, hq24, hf⟩ := jk_bind_h hf
    refine jk_callVi C hZ.1 hz (ct_Md_failsAt l D Z sq hZ cI cR a_t a_t_w a_t_wKept a_t_saved a_t_past a_t_input a_t_n a_t_order a_t_numbers a_t_output i_t_pastMany i_t_isSaved i_t_thrown i_t_inputMany i_t_lastError i_t_lastOffset i_t_error i_t_offset i_t_nextByte i_t_begin i_t_value i_t_token i_t_got i_t_orders i_t_outputMany 1 q24 hq24) tm_1397 tm_1399 sl_36 tm_15 tm_1400 na_Md_failsAt ⟨Nat.le_of_ble_eq_true rfl, Nat.le_of_ble_eq_true rfl⟩ rfl [0] rfl rfl rfl (ws' := wd_Md_seesName cI a_t a_t_w a_t_wKept a_t_saved a_t_past a_t_input a_t_n a_t_order a_t_numbers a_t_output i_t_pastMany i_t_isSaved i_t_thrown i_t_inputMany i_t_lastError i_t_lastOffset q24.2.1 q24.2.2 i_t_nextByte i_t_begin i_t_value i_t_token i_t_got i_t_orders i_t_outputMany) rfl 0 11 rfl rfl rfl (st := []) rfl (Nat.le_of_ble_eq_true rfl) rd_Md_seesName_24 ?_ ⟨Nat.le_refl _, Nat.le_refl _⟩
    refine jk_if_eq (tgt := 34) C rd_Md_seesName_27 (by decide) hf (fun _ hf => ?_) (fun _ hf => ?_)
    · refine jk_iconst C rd_Md_seesName_34 ?_
      cases hf
      exact jk_zret C (Or.inl rfl) rfl rd_Md_seesName_35 rfl
    · refine jk_iconst C rd_Md_seesName_30 ?_
      refine jk_goto (tgt := 35) C rd_Md_seesName_31 (by decide) ?_
      cases hf
      exact jk_zret C (Or.inr rfl) rfl rd_Md_seesName_35 rfl
  · refine jk_aload_n C rd_Md_seesName_8 (k := 0) rfl ?_
    refine jk_get C in_Md (ci := 11) rfl 13 (by decide) tm_1276 0 rfl rfl rd_Md_seesName_9 ?_
    refine jk_aload_n C rd_Md_seesName_12 (k := 0) rfl ?_
    refine jk_get C in_Md (ci := 11) rfl 14 (by decide) tm_1277 0 rfl rfl rd_Md_seesName_13 ?_
    refine jk_isub C rd_Md_seesName_16 ?_
    refine jk_bipush C rd_Md_seesName_17 (by decide +kernel) ?_
    refine jk_icmp_le (tgt := 30) C rd_Md_seesName_19 (by decide) hf (fun _ hf => ?_) (fun _ hf => ?_)
    · refine jk_iconst C rd_Md_seesName_30 ?_
      refine jk_goto (tgt := 35) C rd_Md_seesName_31 (by decide) ?_
      cases hf
      exact jk_zret C (Or.inr rfl) rfl rd_Md_seesName_35 rfl
    · refine jk_aload_n C rd_Md_seesName_22 (k := 0) rfl ?_
      refine jk_iconst C rd_Md_seesName_23 ?_
      obtain ⟨q24, hq24, hf⟩ := jk_bind_h hf
      refine jk_callVi C hZ.1 hz (ct_Md_failsAt l D Z sq hZ cI cR a_t a_t_w a_t_wKept a_t_saved a_t_past a_t_input a_t_n a_t_order a_t_numbers a_t_output i_t_pastMany i_t_isSaved i_t_thrown i_t_inputMany i_t_lastError i_t_lastOffset i_t_error i_t_offset i_t_nextByte i_t_begin i_t_value i_t_token i_t_got i_t_orders i_t_outputMany 1 q24 hq24) tm_1397 tm_1399 sl_36 tm_15 tm_1400 na_Md_failsAt ⟨Nat.le_of_ble_eq_true rfl, Nat.le_of_ble_eq_true rfl⟩ rfl [0] rfl rfl rfl (ws' := wd_Md_seesName cI a_t a_t_w a_t_wKept a_t_saved a_t_past a_t_input a_t_n a_t_order a_t_numbers a_t_output i_t_pastMany i_t_isSaved i_t_thrown i_t_inputMany i_t_lastError i_t_lastOffset q24.2.1 q24.2.2 i_t_nextByte i_t_begin i_t_value i_t_token i_t_got i_t_orders i_t_outputMany) rfl 0 11 rfl rfl rfl (st := []) rfl (Nat.le_of_ble_eq_true rfl) rd_Md_seesName_24 ?_ ⟨Nat.le_refl _, Nat.le_refl _⟩
      refine jk_if_eq (tgt := 34) C rd_Md_seesName_27 (by decide) hf (fun _ hf => ?_) (fun _ hf => ?_)
      · refine jk_iconst C rd_Md_seesName_34 ?_
        cases hf
        exact jk_zret C (Or.inl rfl) rfl rd_Md_seesName_35 rfl
      · refine jk_iconst C rd_Md_seesName_30 ?_
        refine jk_goto (tgt := 35) C rd_Md_seesName_31 (by decide) ?_
        cases hf
        exact jk_zret C (Or.inr rfl) rfl rd_Md_seesName_35 rfl
def wd_Md_isNameAt (cI : ClassId) (a_t a_t_w a_t_wKept a_t_saved a_t_past a_t_input a_t_n a_t_order a_t_numbers a_t_output : Nat) (i_t_pastMany : Int) (i_t_isSaved : Int) (i_t_thrown : Int) (i_t_inputMany : Int) (i_t_lastError : Int) (i_t_lastOffset : Int) (i_t_error : Int) (i_t_offset : Int) (i_t_nextByte : Int) (i_t_begin : Int) (i_t_value : Int) (i_t_token : Int) (i_t_got : Int) (i_t_orders : Int) (i_t_outputMany : Int) (i_t_w : (Int → Int)) (i_t_input : (Int → Int)) : va_W := [(a_t, .inr (11, [.ref a_t_w, .ref a_t_wKept, .ref a_t_saved, .ref a_t_past, jk_V i_t_pastMany, jk_V i_t_isSaved, jk_V i_t_thrown, .ref a_t_input, jk_V i_t_inputMany, jk_V i_t_lastError, jk_V i_t_lastOffset, jk_V i_t_error, jk_V i_t_offset, jk_V i_t_nextByte, jk_V i_t_begin, jk_V i_t_value, jk_V i_t_token, jk_V i_t_got, .ref a_t_n, .ref a_t_order, .ref a_t_numbers, jk_V i_t_orders, .ref a_t_output, jk_V i_t_outputMany])), (a_t_w, jk_W cI 259 i_t_w), (a_t_input, jk_W cI 700 i_t_input)]
set_option maxHeartbeats 4000000 in
set_option maxRecDepth 20000 in
theorem ct_Md_isNameAt (l : Launch) (D : va_G) (Z : (Nat → Prop) → State → Heap → Prop) (sq : Nat → Nat) (hZ : jk_ZK Z sq) (cI cR : ClassId) (a_t a_t_w a_t_wKept a_t_saved a_t_past a_t_input a_t_n a_t_order a_t_numbers a_t_output : Nat) (i_t_pastMany : Int) (i_t_isSaved : Int) (i_t_thrown : Int) (i_t_inputMany : Int) (i_t_lastError : Int) (i_t_lastOffset : Int) (i_t_error : Int) (i_t_offset : Int) (i_t_nextByte : Int) (i_t_begin : Int) (i_t_value : Int) (i_t_token : Int) (i_t_got : Int) (i_t_orders : Int) (i_t_outputMany : Int) (i_t_w : (Int → Int)) (i_t_input : (Int → Int)) (x1 : Int) (q : Int) (hf : fn_Md_isNameAt i_t_w i_t_input i_t_nextByte i_t_begin x1 = some q) : jk_MI l D jk_cl (jk_ty cI cR) Z mn_Md_isNameAt (.code mn_Md_isNameAt mb_Md_isNameAt 3 (some .boolean) :: jk_WA) (jk_rm 0 0) [.ref a_t, jk_V x1] (wd_Md_isNameAt cI a_t a_t_w a_t_wKept a_t_saved a_t_past a_t_input a_t_n a_t_order a_t_numbers a_t_output i_t_pastMany i_t_isSaved i_t_thrown i_t_inputMany i_t_lastError i_t_lastOffset i_t_error i_t_offset i_t_nextByte i_t_begin i_t_value i_t_token i_t_got i_t_orders i_t_outputMany i_t_w i_t_input) (wd_Md_isNameAt cI a_t a_t_w a_t_wKept a_t_saved a_t_past a_t_input a_t_n a_t_order a_t_numbers a_t_output i_t_pastMany i_t_isSaved i_t_thrown i_t_inputMany i_t_lastError i_t_lastOffset i_t_error i_t_offset i_t_nextByte i_t_begin i_t_value i_t_token i_t_got i_t_orders i_t_outputMany i_t_w i_t_input) q := by
  intro sz
  refine jk_body (by decide +kernel) (fun p e s m args below meth c hsz hz hin C => ?_) (Nat.le_of_ble_eq_true rfl)
  subst hsz
  unfold fn_Md_isNameAt at hf
  have bk_24 : ∀ (n : Nat) (v1 : Int) (v2 : Int), fn_Md_isNameAt_b24 n i_t_w i_t_input i_t_nextByte i_t_begin v1 v2 = some q → jk_J p l e (jk_rm 0 0) s m args below meth c 0 0 (jk_QI below D jk_cl (jk_ty cI cR) (wd_Md_isNameAt cI a_t a_t_w a_t_wKept a_t_saved a_t_past a_t_input a_t_n a_t_order a_t_numbers a_t_output i_t_pastMany i_t_isSaved i_t_thrown i_t_inputMany i_t_lastError i_t_lastOffset i_t_error i_t_offset i_t_nextByte i_t_begin i_t_value i_t_token i_t_got i_t_orders i_t_outputMany i_t_w i_t_input) (wd_Md_isNameAt cI a_t a_t_w a_t_wKept a_t_saved a_t_past a_t_input a_t_n a_t_order a_t_numbers a_t_output i_t_pastMany i_t_isSaved i_t_thrown i_t_inputMany i_t_lastError i_t_lastOffset i_t_error i_t_offset i_t_nextByte i_t_begin i_t_value i_t_token i_t_got i_t_orders i_t_outputMany i_t_w i_t_input) args s q) D jk_cl (va_A (wd_Md_isNameAt cI a_t a_t_w a_t_wKept a_t_saved a_t_past a_t_input a_t_n a_t_order a_t_numbers a_t_output i_t_pastMany i_t_isSaved i_t_thrown i_t_inputMany i_t_lastError i_t_lastOffset i_t_error i_t_offset i_t_nextByte i_t_begin i_t_value i_t_token i_t_got i_t_orders i_t_outputMany i_t_w i_t_input) s.heap.size) 3 (wd_Md_isNameAt cI a_t a_t_w a_t_wKept a_t_saved a_t_past a_t_input a_t_n a_t_order a_t_numbers a_t_output i_t_pastMany i_t_isSaved i_t_thrown i_t_inputMany i_t_lastError i_t_lastOffset i_t_error i_t_offset i_t_nextByte i_t_begin i_t_value i_t_token i_t_got i_t_orders i_t_outputMany i_t_w i_t_input) [(0, .ref a_t), (1, jk_V v1), (2, jk_V v2)] 24 [] := by
    intro n
    induction n with
    | zero => intro v1 v2 hf; exact nomatch (show none = some q from hf)
    | succ n ih =>
      intro v1 v2 hf
      rw [fn_Md_isNameAt_b24] at hf
      refine jk_iload_n C rd_Md_isNameAt_24 (k := 2) rfl ?_
      refine jk_aload_n C rd_Md_isNameAt_25 (k := 0) rfl ?_
      refine jk_get C in_Md (ci := 11) rfl 13 (by decide) tm_1276 0 rfl rfl rd_Md_isNameAt_26 ?_
      refine jk_aload_n C rd_Md_isNameAt_29 (k := 0) rfl ?_
      refine jk_get C in_Md (ci := 11) rfl 14 (by decide) tm_1277 0 rfl rfl rd_Md_isNameAt_30 ?_
      refine jk_isub C rd_Md_isNameAt_33 ?_
      refine jk_icmp_ge (tgt := 69) C rd_Md_isNameAt_34 (by decide) hf (fun _ hf => ?_) (fun _ hf => ?_)
      · refine jk_iconst C rd_Md_isNameAt_69 ?_
        cases hf
        exact jk_zret C (Or.inr rfl) rfl rd_Md_isNameAt_70 rfl
      · refine jk_aload_n C rd_Md_isNameAt_37 (k := 0) rfl ?_
        refine jk_get C in_Md (ci := 11) rfl 0 (by decide) tm_1263 0 rfl rfl rd_Md_isNameAt_38 ?_
        refine jk_iload_n C rd_Md_isNameAt_41 (k := 1) rfl ?_
        refine jk_iconst C rd_Md_isNameAt_42 ?_
        refine jk_iadd C rd_Md_isNameAt_43 ?_
        refine jk_iload_n C rd_Md_isNameAt_44 (k := 2) rfl ?_
        refine jk_iadd C rd_Md_isNameAt_45 ?_
        refine jk_iald C 1 0 rfl rfl (Nat.le_of_ble_eq_true rfl) rd_Md_isNameAt_46 hf (fun hf => ?_)
        refine jk_aload_n C rd_Md_isNameAt_47 (k := 0) rfl ?_
        refine jk_get C in_Md (ci := 11) rfl 7 (by decide) tm_1270 0 rfl rfl rd_Md_isNameAt_48 ?_
        refine jk_aload_n C rd_Md_isNameAt_51 (k := 0) rfl ?_
        refine jk_get C in_Md (ci := 11) rfl 14 (by decide) tm_1277 0 rfl rfl rd_Md_isNameAt_52 ?_
        refine jk_iload_n C rd_Md_isNameAt_55 (k := 2) rfl ?_
        refine jk_iadd C rd_Md_isNameAt_56 ?_
        refine jk_iald C 2 0 rfl rfl (Nat.le_of_ble_eq_true rfl) rd_Md_isNameAt_57 hf (fun hf => ?_)
        refine jk_icmp_eq (tgt := 63) C rd_Md_isNameAt_58 (by decide) hf (fun _ hf => ?_) (fun _ hf => ?_)
        · refine jk_iinc C rd_Md_isNameAt_63 (k := 2) rfl (by decide) (lv' := [(2, jk_V (v2 + 1)), (0, .ref a_t), (1, jk_V v1)]) rfl ?_
          refine jk_goto (tgt := 24) C rd_Md_isNameAt_66 (by decide) ?_
          refine jk_lv (lv' := [(0, .ref a_t), (1, jk_V v1), (2, jk_V (v2 + 1))]) [1, 2, 0] rfl ?_
          exact ih v1 (v2 + 1) hf
        · refine jk_iconst C rd_Md_isNameAt_61 ?_
          cases hf
          exact jk_zret C (Or.inl rfl) rfl rd_Md_isNameAt_62 rfl
  refine jk_aload_n C rd_Md_isNameAt_0 (k := 0) rfl ?_
  refine jk_get C in_Md (ci := 11) rfl 0 (by decide) tm_1263 0 rfl rfl rd_Md_isNameAt_1 ?_
  refine jk_iload_n C rd_Md_isNameAt_4 (k := 1) rfl ?_
  refine jk_iconst C rd_Md_isNameAt_5 ?_
  refine jk_iadd C rd_Md_isNameAt_6 ?_
  refine jk_iald C 1 0 rfl rfl (Nat.le_of_ble_eq_true rfl) rd_Md_isNameAt_7 hf (fun hf => ?_)
  refine jk_aload_n C rd_Md_isNameAt_8 (k := 0) rfl ?_
  refine jk_get C in_Md (ci := 11) rfl 13 (by decide) tm_1276 0 rfl rfl rd_Md_isNameAt_9 ?_
  refine jk_aload_n C rd_Md_isNameAt_12 (k := 0) rfl ?_
  refine jk_get C in_Md (ci := 11) rfl 14 (by decide) tm_1277 0 rfl rfl rd_Md_isNameAt_13 ?_
  refine jk_isub C rd_Md_isNameAt_16 ?_
  refine jk_icmp_eq (tgt := 22) C rd_Md_isNameAt_17 (by decide) hf (fun _ hf => ?_) (fun _ hf => ?_)
  · refine jk_iconst C rd_Md_isNameAt_22 ?_
    refine jk_istore_n C rd_Md_isNameAt_23 (by decide) (lv' := [(2, jk_V 0), (0, .ref a_t), (1, jk_V x1)]) rfl ?_
    refine jk_lv (lv' := [(0, .ref a_t), (1, jk_V x1), (2, jk_V 0)]) [1, 2, 0] rfl ?_
    exact bk_24 jk_F x1 0 hf
  · refine jk_iconst C rd_Md_isNameAt_20 ?_
    cases hf
    exact jk_zret C (Or.inl rfl) rfl rd_Md_isNameAt_21 rfl
def wd_Md_topicHere (cI : ClassId) (a_t a_t_w a_t_wKept a_t_saved a_t_past a_t_input a_t_n a_t_order a_t_numbers a_t_output : Nat) (i_t_pastMany : Int) (i_t_isSaved : Int) (i_t_thrown : Int) (i_t_inputMany : Int) (i_t_lastError : Int) (i_t_lastOffset : Int) (i_t_error : Int) (i_t_offset : Int) (i_t_nextByte : Int) (i_t_begin : Int) (i_t_value : Int) (i_t_token : Int) (i_t_got : Int) (i_t_orders : Int) (i_t_outputMany : Int) (i_t_w : (Int → Int)) (i_t_input : (Int → Int)) : va_W := [(a_t, .inr (11, [.ref a_t_w, .ref a_t_wKept, .ref a_t_saved, .ref a_t_past, jk_V i_t_pastMany, jk_V i_t_isSaved, jk_V i_t_thrown, .ref a_t_input, jk_V i_t_inputMany, jk_V i_t_lastError, jk_V i_t_lastOffset, jk_V i_t_error, jk_V i_t_offset, jk_V i_t_nextByte, jk_V i_t_begin, jk_V i_t_value, jk_V i_t_token, jk_V i_t_got, .ref a_t_n, .ref a_t_order, .ref a_t_numbers, jk_V i_t_orders, .ref a_t_output, jk_V i_t_outputMany])), (a_t_w, jk_W cI 259 i_t_w), (a_t_input, jk_W cI 700 i_t_input)]
set_option maxHeartbeats 4000000 in
set_option maxRecDepth 20000 in
theorem ct_Md_topicHere (l : Launch) (D : va_G) (Z : (Nat → Prop) → State → Heap → Prop) (sq : Nat → Nat) (hZ : jk_ZK Z sq) (cI cR : ClassId) (a_t a_t_w a_t_wKept a_t_saved a_t_past a_t_input a_t_n a_t_order a_t_numbers a_t_output : Nat) (i_t_pastMany : Int) (i_t_isSaved : Int) (i_t_thrown : Int) (i_t_inputMany : Int) (i_t_lastError : Int) (i_t_lastOffset : Int) (i_t_error : Int) (i_t_offset : Int) (i_t_nextByte : Int) (i_t_begin : Int) (i_t_value : Int) (i_t_token : Int) (i_t_got : Int) (i_t_orders : Int) (i_t_outputMany : Int) (i_t_w : (Int → Int)) (i_t_input : (Int → Int)) (q : Int) (hf : fn_Md_topicHere i_t_w i_t_input i_t_nextByte i_t_begin = some q) : jk_MI l D jk_cl (jk_ty cI cR) Z mn_Md_topicHere (.code mn_Md_topicHere mb_Md_topicHere 2 (some .int) :: jk_WA) (jk_rm 1 22) [.ref a_t] (wd_Md_topicHere cI a_t a_t_w a_t_wKept a_t_saved a_t_past a_t_input a_t_n a_t_order a_t_numbers a_t_output i_t_pastMany i_t_isSaved i_t_thrown i_t_inputMany i_t_lastError i_t_lastOffset i_t_error i_t_offset i_t_nextByte i_t_begin i_t_value i_t_token i_t_got i_t_orders i_t_outputMany i_t_w i_t_input) (wd_Md_topicHere cI a_t a_t_w a_t_wKept a_t_saved a_t_past a_t_input a_t_n a_t_order a_t_numbers a_t_output i_t_pastMany i_t_isSaved i_t_thrown i_t_inputMany i_t_lastError i_t_lastOffset i_t_error i_t_offset i_t_nextByte i_t_begin i_t_value i_t_token i_t_got i_t_orders i_t_outputMany i_t_w i_t_input) q := by
  intro sz
  refine jk_body (by decide +kernel) (fun p e s m args below meth c hsz hz hin C => ?_) (Nat.le_of_ble_eq_true rfl)
  subst hsz
  unfold fn_Md_topicHere at hf
  have bk_2 : ∀ (n : Nat) (v1 : Int), fn_Md_topicHere_b2 n i_t_w i_t_input i_t_nextByte i_t_begin v1 = some q → jk_J p l e (jk_rm 1 22) s m args below meth c 0 0 (jk_QI below D jk_cl (jk_ty cI cR) (wd_Md_topicHere cI a_t a_t_w a_t_wKept a_t_saved a_t_past a_t_input a_t_n a_t_order a_t_numbers a_t_output i_t_pastMany i_t_isSaved i_t_thrown i_t_inputMany i_t_lastError i_t_lastOffset i_t_error i_t_offset i_t_nextByte i_t_begin i_t_value i_t_token i_t_got i_t_orders i_t_outputMany i_t_w i_t_input) (wd_Md_topicHere cI a_t a_t_w a_t_wKept a_t_saved a_t_past a_t_input a_t_n a_t_order a_t_numbers a_t_output i_t_pastMany i_t_isSaved i_t_thrown i_t_inputMany i_t_lastError i_t_lastOffset i_t_error i_t_offset i_t_nextByte i_t_begin i_t_value i_t_token i_t_got i_t_orders i_t_outputMany i_t_w i_t_input) args s q) D jk_cl (va_A (wd_Md_topicHere cI a_t a_t_w a_t_wKept a_t_saved a_t_past a_t_input a_t_n a_t_order a_t_numbers a_t_output i_t_pastMany i_t_isSaved i_t_thrown i_t_inputMany i_t_lastError i_t_lastOffset i_t_error i_t_offset i_t_nextByte i_t_begin i_t_value i_t_token i_t_got i_t_orders i_t_outputMany i_t_w i_t_input) s.heap.size) 2 (wd_Md_topicHere cI a_t a_t_w a_t_wKept a_t_saved a_t_past a_t_input a_t_n a_t_order a_t_numbers a_t_output i_t_pastMany i_t_isSaved i_t_thrown i_t_inputMany i_t_lastError i_t_lastOffset i_t_error i_t_offset i_t_nextByte i_t_begin i_t_value i_t_token i_t_got i_t_orders i_t_outputMany i_t_w i_t_input) [(0, .ref a_t), (1, jk_V v1)] 2 [] := by
    intro n
    induction n with
    | zero => intro v1 hf; exact nomatch (show none = some q from hf)
    | succ n ih =>
      intro v1 hf
      rw [fn_Md_topicHere_b2] at hf
      refine jk_iload_n C rd_Md_topicHere_2 (k := 1) rfl ?_
      refine jk_aload_n C rd_Md_topicHere_3 (k := 0) rfl ?_
      refine jk_get C in_Md (ci := 11) rfl 0 (by decide) tm_1263 0 rfl rfl rd_Md_topicHere_4 ?_
      refine jk_iconst C rd_Md_topicHere_7 ?_
      refine jk_iald C 1 0 rfl rfl (Nat.le_of_ble_eq_true rfl) rd_Md_topicHere_8 hf (fun hf => ?_)
      refine jk_icmp_ge (tgt := 33) C rd_Md_topicHere_9 (by decide) hf (fun _ hf => ?_) (fun _ hf => ?_)
      · refine jk_iconst C rd_Md_topicHere_33 ?_
        cases hf
        exact jk_iret C rfl rd_Md_topicHere_34 rfl
      · refine jk_aload_n C rd_Md_topicHere_12 (k := 0) rfl ?_
        refine jk_iconst C rd_Md_topicHere_13 ?_
        refine jk_bipush C rd_Md_topicHere_14 (by decide +kernel) ?_
        refine jk_iload_n C rd_Md_topicHere_16 (k := 1) rfl ?_
        refine jk_imul C rd_Md_topicHere_17 ?_
        refine jk_iadd C rd_Md_topicHere_18 ?_
        obtain ⟨q19, hq19, hf⟩ := jk_bind_h hf
        refine jk_callVi C hZ.1 hz (ct_Md_isNameAt l D Z sq hZ cI cR a_t a_t_w a_t_wKept a_t_saved a_t_past a_t_input a_t_n a_t_order a_t_numbers a_t_output i_t_pastMany i_t_isSaved i_t_thrown i_t_inputMany i_t_lastError i_t_lastOffset i_t_error i_t_offset i_t_nextByte i_t_begin i_t_value i_t_token i_t_got i_t_orders i_t_outputMany i_t_w i_t_input (3 + (7 * v1)) q19 hq19) tm_1409 tm_1411 sl_39 tm_15 tm_1412 na_Md_isNameAt ⟨Nat.le_of_ble_eq_true rfl, Nat.le_of_ble_eq_true rfl⟩ rfl [0, 1, 2] rfl rfl rfl (ws' := wd_Md_topicHere cI a_t a_t_w a_t_wKept a_t_saved a_t_past a_t_input a_t_n a_t_order a_t_numbers a_t_output i_t_pastMany i_t_isSaved i_t_thrown i_t_inputMany i_t_lastError i_t_lastOffset i_t_error i_t_offset i_t_nextByte i_t_begin i_t_value i_t_token i_t_got i_t_orders i_t_outputMany i_t_w i_t_input) rfl 0 11 rfl rfl rfl (st := []) rfl (Nat.le_of_ble_eq_true rfl) rd_Md_topicHere_19 ?_ ⟨Nat.le_refl _, Nat.le_refl _⟩
        refine jk_if_eq (tgt := 27) C rd_Md_topicHere_22 (by decide) hf (fun _ hf => ?_) (fun _ hf => ?_)
        · refine jk_iinc C rd_Md_topicHere_27 (k := 1) rfl (by decide) (lv' := [(1, jk_V (v1 + 1)), (0, .ref a_t)]) rfl ?_
          refine jk_goto (tgt := 2) C rd_Md_topicHere_30 (by decide) ?_
          refine jk_lv (lv' := [(0, .ref a_t), (1, jk_V (v1 + 1))]) [1, 0] rfl ?_
          exact ih (v1 + 1) hf
        · refine jk_iload_n C rd_Md_topicHere_25 (k := 1) rfl ?_
          cases hf
          exact jk_iret C rfl rd_Md_topicHere_26 rfl
  refine jk_iconst C rd_Md_topicHere_0 ?_
  refine jk_istore_n C rd_Md_topicHere_1 (by decide) (lv' := [(1, jk_V 0), (0, .ref a_t)]) rfl ?_
  refine jk_lv (lv' := [(0, .ref a_t), (1, jk_V 0)]) [1, 0] rfl ?_
  exact bk_2 jk_F 0 hf
def wd_Md_takes (cI : ClassId) (a_t a_t_w a_t_wKept a_t_saved a_t_past a_t_input a_t_n a_t_order a_t_numbers a_t_output : Nat) (i_t_pastMany : Int) (i_t_isSaved : Int) (i_t_thrown : Int) (i_t_inputMany : Int) (i_t_lastError : Int) (i_t_lastOffset : Int) (i_t_error : Int) (i_t_offset : Int) (i_t_nextByte : Int) (i_t_begin : Int) (i_t_value : Int) (i_t_token : Int) (i_t_got : Int) (i_t_orders : Int) (i_t_outputMany : Int) (i_t_input : (Int → Int)) (i_t_n : (Int → Int)) : va_W := [(a_t, .inr (11, [.ref a_t_w, .ref a_t_wKept, .ref a_t_saved, .ref a_t_past, jk_V i_t_pastMany, jk_V i_t_isSaved, jk_V i_t_thrown, .ref a_t_input, jk_V i_t_inputMany, jk_V i_t_lastError, jk_V i_t_lastOffset, jk_V i_t_error, jk_V i_t_offset, jk_V i_t_nextByte, jk_V i_t_begin, jk_V i_t_value, jk_V i_t_token, jk_V i_t_got, .ref a_t_n, .ref a_t_order, .ref a_t_numbers, jk_V i_t_orders, .ref a_t_output, jk_V i_t_outputMany])), (a_t_input, jk_W cI 700 i_t_input), (a_t_n, jk_W cI 3 i_t_n)]
set_option maxHeartbeats 4000000 in
set_option maxRecDepth 20000 in
theorem ct_Md_takes (l : Launch) (D : va_G) (Z : (Nat → Prop) → State → Heap → Prop) (sq : Nat → Nat) (hZ : jk_ZK Z sq) (cI cR : ClassId) (a_t a_t_w a_t_wKept a_t_saved a_t_past a_t_input a_t_n a_t_order a_t_numbers a_t_output : Nat) (i_t_pastMany : Int) (i_t_isSaved : Int) (i_t_thrown : Int) (i_t_inputMany : Int) (i_t_lastError : Int) (i_t_lastOffset : Int) (i_t_error : Int) (i_t_offset : Int) (i_t_nextByte : Int) (i_t_begin : Int) (i_t_value : Int) (i_t_token : Int) (i_t_got : Int) (i_t_orders : Int) (i_t_outputMany : Int) (i_t_input : (Int → Int)) (i_t_n : (Int → Int)) (x1 : Int) (x2 : Int) (x3 : Int) (q : Int × Int × Int × Int × Int × Int × Int × Int × (Int → Int)) (hf : fn_Md_takes i_t_input i_t_inputMany i_t_error i_t_offset i_t_nextByte i_t_begin i_t_value i_t_token i_t_got i_t_n x1 x2 x3 = some q) : jk_MI l D jk_cl (jk_ty cI cR) Z mn_Md_takes (.code mn_Md_takes mb_Md_takes 4 (some .boolean) :: jk_WA) (jk_rm 4 86) [.ref a_t, jk_V x1, jk_V x2, jk_V x3] (wd_Md_takes cI a_t a_t_w a_t_wKept a_t_saved a_t_past a_t_input a_t_n a_t_order a_t_numbers a_t_output i_t_pastMany i_t_isSaved i_t_thrown i_t_inputMany i_t_lastError i_t_lastOffset i_t_error i_t_offset i_t_nextByte i_t_begin i_t_value i_t_token i_t_got i_t_orders i_t_outputMany i_t_input i_t_n) (wd_Md_takes cI a_t a_t_w a_t_wKept a_t_saved a_t_past a_t_input a_t_n a_t_order a_t_numbers a_t_output i_t_pastMany i_t_isSaved i_t_thrown i_t_inputMany i_t_lastError i_t_lastOffset q.2.1 q.2.2.1 q.2.2.2.1 q.2.2.2.2.1 q.2.2.2.2.2.1 q.2.2.2.2.2.2.1 q.2.2.2.2.2.2.2.1 i_t_orders i_t_outputMany i_t_input q.2.2.2.2.2.2.2.2) q.1 := by
  intro sz
  refine jk_body (by decide +kernel) (fun p e s m args below meth c hsz hz hin C => ?_) (Nat.le_of_ble_eq_true rfl)
  subst hsz
  unfold fn_Md_takes at hf
  refine jk_aload_n C rd_Md_takes_0 (k := 0) rfl ?_
  refine jk_iload_n C rd_Md_takes_1 (k := 2) rfl ?_
  refine jk_iload_n C rd_Md_takes_2 (k := 3) rfl ?_
  obtain ⟨q3, hq3, hf⟩ := jk_bind_h hf
  refine jk_callVi C hZ.1 hz (ct_Md_takesNumber l D Z sq hZ cI cR a_t a_t_w a_t_wKept a_t_saved a_t_past a_t_input a_t_n a_t_order a_t_numbers a_t_output i_t_pastMany i_t_isSaved i_t_thrown i_t_inputMany i_t_lastError i_t_lastOffset i_t_error i_t_offset i_t_nextByte i_t_begin i_t_value i_t_token i_t_got i_t_orders i_t_outputMany i_t_input x2 x3 q3 hq3) tm_1473 tm_1475 sl_54 tm_15 tm_1476 na_Md_takesNumber ⟨Nat.le_of_ble_eq_true rfl, Nat.le_of_ble_eq_true rfl⟩ rfl [0, 1] rfl rfl rfl (ws' := wd_Md_takes cI a_t a_t_w a_t_wKept a_t_saved a_t_past a_t_input a_t_n a_t_order a_t_numbers a_t_output i_t_pastMany i_t_isSaved i_t_thrown i_t_inputMany i_t_lastError i_t_lastOffset q3.2.1 q3.2.2.1 q3.2.2.2.1 q3.2.2.2.2.1 q3.2.2.2.2.2.1 q3.2.2.2.2.2.2.1 q3.2.2.2.2.2.2.2 i_t_orders i_t_outputMany i_t_input i_t_n) rfl 0 11 rfl rfl rfl (st := []) rfl (Nat.le_of_ble_eq_true rfl) rd_Md_takes_3 ?_ ⟨Nat.le_refl _, Nat.le_refl _⟩
  refine jk_if_ne (tgt := 11) C rd_Md_takes_6 (by decide) hf (fun _ hf => ?_) (fun _ hf => ?_)
  · refine jk_aload_n C rd_Md_takes_11 (k := 0) rfl ?_
    refine jk_get C in_Md (ci := 11) rfl 18 (by decide) tm_1281 0 rfl rfl rd_Md_takes_12 ?_
    refine jk_iload_n C rd_Md_takes_15 (k := 1) rfl ?_
    refine jk_aload_n C rd_Md_takes_16 (k := 0) rfl ?_
    refine jk_get C in_Md (ci := 11) rfl 17 (by decide) tm_1280 0 rfl rfl rd_Md_takes_17 ?_
    refine jk_iast C 2 0 rfl rfl (Nat.le_of_ble_eq_true rfl) rd_Md_takes_20 hf (ws' := wd_Md_takes cI a_t a_t_w a_t_wKept a_t_saved a_t_past a_t_input a_t_n a_t_order a_t_numbers a_t_output i_t_pastMany i_t_isSaved i_t_thrown i_t_inputMany i_t_lastError i_t_lastOffset q3.2.1 q3.2.2.1 q3.2.2.2.1 q3.2.2.2.2.1 q3.2.2.2.2.2.1 q3.2.2.2.2.2.2.1 q3.2.2.2.2.2.2.2 i_t_orders i_t_outputMany i_t_input (jk_up i_t_n x1 q3.2.2.2.2.2.2.2)) rfl (fun hf => ?_)
    refine jk_iconst C rd_Md_takes_21 ?_
    cases hf
    exact jk_zret C (Or.inr rfl) rfl rd_Md_takes_22 rfl
  · refine jk_iconst C rd_Md_takes_9 ?_
    cases hf
    exact jk_zret C (Or.inl rfl) rfl rd_Md_takes_10 rfl
def wd_Md_takesTopic (cI : ClassId) (a_t a_t_w a_t_wKept a_t_saved a_t_past a_t_input a_t_n a_t_order a_t_numbers a_t_output : Nat) (i_t_pastMany : Int) (i_t_isSaved : Int) (i_t_thrown : Int) (i_t_inputMany : Int) (i_t_lastError : Int) (i_t_lastOffset : Int) (i_t_error : Int) (i_t_offset : Int) (i_t_nextByte : Int) (i_t_begin : Int) (i_t_value : Int) (i_t_token : Int) (i_t_got : Int) (i_t_orders : Int) (i_t_outputMany : Int) (i_t_w : (Int → Int)) (i_t_input : (Int → Int)) (i_t_n : (Int → Int)) : va_W := [(a_t, .inr (11, [.ref a_t_w, .ref a_t_wKept, .ref a_t_saved, .ref a_t_past, jk_V i_t_pastMany, jk_V i_t_isSaved, jk_V i_t_thrown, .ref a_t_input, jk_V i_t_inputMany, jk_V i_t_lastError, jk_V i_t_lastOffset, jk_V i_t_error, jk_V i_t_offset, jk_V i_t_nextByte, jk_V i_t_begin, jk_V i_t_value, jk_V i_t_token, jk_V i_t_got, .ref a_t_n, .ref a_t_order, .ref a_t_numbers, jk_V i_t_orders, .ref a_t_output, jk_V i_t_outputMany])), (a_t_w, jk_W cI 259 i_t_w), (a_t_input, jk_W cI 700 i_t_input), (a_t_n, jk_W cI 3 i_t_n)]
set_option maxHeartbeats 4000000 in
set_option maxRecDepth 20000 in
theorem ct_Md_takesTopic (l : Launch) (D : va_G) (Z : (Nat → Prop) → State → Heap → Prop) (sq : Nat → Nat) (hZ : jk_ZK Z sq) (cI cR : ClassId) (a_t a_t_w a_t_wKept a_t_saved a_t_past a_t_input a_t_n a_t_order a_t_numbers a_t_output : Nat) (i_t_pastMany : Int) (i_t_isSaved : Int) (i_t_thrown : Int) (i_t_inputMany : Int) (i_t_lastError : Int) (i_t_lastOffset : Int) (i_t_error : Int) (i_t_offset : Int) (i_t_nextByte : Int) (i_t_begin : Int) (i_t_value : Int) (i_t_token : Int) (i_t_got : Int) (i_t_orders : Int) (i_t_outputMany : Int) (i_t_w : (Int → Int)) (i_t_input : (Int → Int)) (i_t_n : (Int → Int)) (x1 : Int) (q : Int × Int × Int × Int × Int × Int × Int × (Int → Int)) (hf : fn_Md_takesTopic i_t_w i_t_input i_t_inputMany i_t_error i_t_offset i_t_nextByte i_t_begin i_t_value i_t_token i_t_n x1 = some q) : jk_MI l D jk_cl (jk_ty cI cR) Z mn_Md_takesTopic (.code mn_Md_takesTopic mb_Md_takesTopic 2 (some .boolean) :: jk_WA) (jk_rm 3 64) [.ref a_t, jk_V x1] (wd_Md_takesTopic cI a_t a_t_w a_t_wKept a_t_saved a_t_past a_t_input a_t_n a_t_order a_t_numbers a_t_output i_t_pastMany i_t_isSaved i_t_thrown i_t_inputMany i_t_lastError i_t_lastOffset i_t_error i_t_offset i_t_nextByte i_t_begin i_t_value i_t_token i_t_got i_t_orders i_t_outputMany i_t_w i_t_input i_t_n) (wd_Md_takesTopic cI a_t a_t_w a_t_wKept a_t_saved a_t_past a_t_input a_t_n a_t_order a_t_numbers a_t_output i_t_pastMany i_t_isSaved i_t_thrown i_t_inputMany i_t_lastError i_t_lastOffset q.2.1 q.2.2.1 q.2.2.2.1 q.2.2.2.2.1 q.2.2.2.2.2.1 q.2.2.2.2.2.2.1 i_t_got i_t_orders i_t_outputMany i_t_w i_t_input q.2.2.2.2.2.2.2) q.1 := by
  intro sz
  refine jk_body (by decide +kernel) (fun p e s m args below meth c hsz hz hin C => ?_) (Nat.le_of_ble_eq_true rfl)
  subst hsz
  unfold fn_Md_takesTopic at hf
  refine jk_aload_n C rd_Md_takesTopic_0 (k := 0) rfl ?_
  obtain ⟨q1, hq1, hf⟩ := jk_bind_h hf
  refine jk_callVi C hZ.1 hz (ct_Md_seesName l D Z sq hZ cI cR a_t a_t_w a_t_wKept a_t_saved a_t_past a_t_input a_t_n a_t_order a_t_numbers a_t_output i_t_pastMany i_t_isSaved i_t_thrown i_t_inputMany i_t_lastError i_t_lastOffset i_t_error i_t_offset i_t_nextByte i_t_begin i_t_value i_t_token i_t_got i_t_orders i_t_outputMany q1 hq1) tm_1401 tm_1403 sl_37 tm_15 tm_1404 na_Md_seesName ⟨Nat.le_of_ble_eq_true rfl, Nat.le_of_ble_eq_true rfl⟩ rfl [0] rfl rfl rfl (ws' := wd_Md_takesTopic cI a_t a_t_w a_t_wKept a_t_saved a_t_past a_t_input a_t_n a_t_order a_t_numbers a_t_output i_t_pastMany i_t_isSaved i_t_thrown i_t_inputMany i_t_lastError i_t_lastOffset q1.2.1 q1.2.2 i_t_nextByte i_t_begin i_t_value i_t_token i_t_got i_t_orders i_t_outputMany i_t_w i_t_input i_t_n) rfl 0 11 rfl rfl rfl (st := []) rfl (Nat.le_of_ble_eq_true rfl) rd_Md_takesTopic_1 ?_ ⟨Nat.le_refl _, Nat.le_refl _⟩
  refine jk_if_ne (tgt := 9) C rd_Md_takesTopic_4 (by decide) hf (fun _ hf => ?_) (fun _ hf => ?_)
  · refine jk_aload_n C rd_Md_takesTopic_9 (k := 0) rfl ?_
    refine jk_get C in_Md (ci := 11) rfl 18 (by decide) tm_1281 0 rfl rfl rd_Md_takesTopic_10 ?_
    refine jk_iload_n C rd_Md_takesTopic_13 (k := 1) rfl ?_
    refine jk_aload_n C rd_Md_takesTopic_14 (k := 0) rfl ?_
    obtain ⟨q15, hq15, hf⟩ := jk_bind_h hf
    refine jk_callVi C hZ.1 hz (ct_Md_topicHere l D Z sq hZ cI cR a_t a_t_w a_t_wKept a_t_saved a_t_past a_t_input a_t_n a_t_order a_t_numbers a_t_output i_t_pastMany i_t_isSaved i_t_thrown i_t_inputMany i_t_lastError i_t_lastOffset q1.2.1 q1.2.2 i_t_nextByte i_t_begin i_t_value i_t_token i_t_got i_t_orders i_t_outputMany i_t_w i_t_input q15 hq15) tm_1405 tm_1407 sl_38 tm_15 tm_1408 na_Md_topicHere ⟨Nat.le_of_ble_eq_true rfl, Nat.le_of_ble_eq_true rfl⟩ rfl [0, 1, 2] rfl rfl rfl (ws' := wd_Md_takesTopic cI a_t a_t_w a_t_wKept a_t_saved a_t_past a_t_input a_t_n a_t_order a_t_numbers a_t_output i_t_pastMany i_t_isSaved i_t_thrown i_t_inputMany i_t_lastError i_t_lastOffset q1.2.1 q1.2.2 i_t_nextByte i_t_begin i_t_value i_t_token i_t_got i_t_orders i_t_outputMany i_t_w i_t_input i_t_n) rfl 0 11 rfl rfl rfl (st := [jk_V x1, .ref a_t_n]) rfl (Nat.le_of_ble_eq_true rfl) rd_Md_takesTopic_15 ?_ ⟨Nat.le_refl _, Nat.le_refl _⟩
    refine jk_iast C 3 0 rfl rfl (Nat.le_of_ble_eq_true rfl) rd_Md_takesTopic_18 hf (ws' := wd_Md_takesTopic cI a_t a_t_w a_t_wKept a_t_saved a_t_past a_t_input a_t_n a_t_order a_t_numbers a_t_output i_t_pastMany i_t_isSaved i_t_thrown i_t_inputMany i_t_lastError i_t_lastOffset q1.2.1 q1.2.2 i_t_nextByte i_t_begin i_t_value i_t_token i_t_got i_t_orders i_t_outputMany i_t_w i_t_input (jk_up i_t_n x1 q15)) rfl (fun hf => ?_)
    refine jk_aload_n C rd_Md_takesTopic_19 (k := 0) rfl ?_
    refine jk_get C in_Md (ci := 11) rfl 18 (by decide) tm_1281 0 rfl rfl rd_Md_takesTopic_20 ?_
    refine jk_iload_n C rd_Md_takesTopic_23 (k := 1) rfl ?_
    refine jk_iald C 3 0 rfl rfl (Nat.le_of_ble_eq_true rfl) rd_Md_takesTopic_24 hf (fun hf => ?_)
    refine jk_iconst C rd_Md_takesTopic_25 ?_
    refine jk_icmp_ne (tgt := 35) C rd_Md_takesTopic_26 (by decide) hf (fun _ hf => ?_) (fun _ hf => ?_)
    · refine jk_aload_n C rd_Md_takesTopic_35 (k := 0) rfl ?_
      obtain ⟨q36, hq36, hf⟩ := jk_bind_h hf
      refine jk_callVv C hZ.1 hz (ct_Md_advanceToken l D Z sq hZ cI cR a_t a_t_w a_t_wKept a_t_saved a_t_past a_t_input a_t_n a_t_order a_t_numbers a_t_output i_t_pastMany i_t_isSaved i_t_thrown i_t_inputMany i_t_lastError i_t_lastOffset q1.2.1 q1.2.2 i_t_nextByte i_t_begin i_t_value i_t_token i_t_got i_t_orders i_t_outputMany i_t_input q36 hq36) tm_1366 tm_1368 sl_29 tm_15 tm_1369 na_Md_advanceToken ⟨Nat.le_of_ble_eq_true rfl, Nat.le_of_ble_eq_true rfl⟩ rfl [0, 2] rfl rfl rfl (ws' := wd_Md_takesTopic cI a_t a_t_w a_t_wKept a_t_saved a_t_past a_t_input a_t_n a_t_order a_t_numbers a_t_output i_t_pastMany i_t_isSaved i_t_thrown i_t_inputMany i_t_lastError i_t_lastOffset q1.2.1 q1.2.2 q36.1 q36.2.1 q36.2.2.1 q36.2.2.2 i_t_got i_t_orders i_t_outputMany i_t_w i_t_input (jk_up i_t_n x1 q15)) rfl 0 11 rfl rfl rfl (st := []) rfl (Nat.le_of_ble_eq_true rfl) rd_Md_takesTopic_36 ?_ ⟨Nat.le_refl _, Nat.le_refl _⟩
      refine jk_iconst C rd_Md_takesTopic_39 ?_
      cases hf
      exact jk_zret C (Or.inr rfl) rfl rd_Md_takesTopic_40 rfl
    · refine jk_aload_n C rd_Md_takesTopic_29 (k := 0) rfl ?_
      refine jk_iconst C rd_Md_takesTopic_30 ?_
      obtain ⟨q31, hq31, hf⟩ := jk_bind_h hf
      refine jk_callVi C hZ.1 hz (ct_Md_failsAt l D Z sq hZ cI cR a_t a_t_w a_t_wKept a_t_saved a_t_past a_t_input a_t_n a_t_order a_t_numbers a_t_output i_t_pastMany i_t_isSaved i_t_thrown i_t_inputMany i_t_lastError i_t_lastOffset q1.2.1 q1.2.2 i_t_nextByte i_t_begin i_t_value i_t_token i_t_got i_t_orders i_t_outputMany 4 q31 hq31) tm_1397 tm_1399 sl_36 tm_15 tm_1400 na_Md_failsAt ⟨Nat.le_of_ble_eq_true rfl, Nat.le_of_ble_eq_true rfl⟩ rfl [0] rfl rfl rfl (ws' := wd_Md_takesTopic cI a_t a_t_w a_t_wKept a_t_saved a_t_past a_t_input a_t_n a_t_order a_t_numbers a_t_output i_t_pastMany i_t_isSaved i_t_thrown i_t_inputMany i_t_lastError i_t_lastOffset q31.2.1 q31.2.2 i_t_nextByte i_t_begin i_t_value i_t_token i_t_got i_t_orders i_t_outputMany i_t_w i_t_input (jk_up i_t_n x1 q15)) rfl 0 11 rfl rfl rfl (st := []) rfl (Nat.le_of_ble_eq_true rfl) rd_Md_takesTopic_31 ?_ ⟨Nat.le_refl _, Nat.le_refl _⟩
      obtain ⟨hbo, hf⟩ := jk_bo_h hf
      cases hf
      exact jk_zret C hbo rfl rd_Md_takesTopic_34 rfl
  · refine jk_iconst C rd_Md_takesTopic_7 ?_
    cases hf
    exact jk_zret C (Or.inl rfl) rfl rd_Md_takesTopic_8 rfl
def wd_Md_readTopic (cI : ClassId) (a_t a_t_w a_t_wKept a_t_saved a_t_past a_t_input a_t_n a_t_order a_t_numbers a_t_output : Nat) (i_t_pastMany : Int) (i_t_isSaved : Int) (i_t_thrown : Int) (i_t_inputMany : Int) (i_t_lastError : Int) (i_t_lastOffset : Int) (i_t_error : Int) (i_t_offset : Int) (i_t_nextByte : Int) (i_t_begin : Int) (i_t_value : Int) (i_t_token : Int) (i_t_got : Int) (i_t_orders : Int) (i_t_outputMany : Int) (i_t_w : (Int → Int)) (i_t_input : (Int → Int)) : va_W := [(a_t, .inr (11, [.ref a_t_w, .ref a_t_wKept, .ref a_t_saved, .ref a_t_past, jk_V i_t_pastMany, jk_V i_t_isSaved, jk_V i_t_thrown, .ref a_t_input, jk_V i_t_inputMany, jk_V i_t_lastError, jk_V i_t_lastOffset, jk_V i_t_error, jk_V i_t_offset, jk_V i_t_nextByte, jk_V i_t_begin, jk_V i_t_value, jk_V i_t_token, jk_V i_t_got, .ref a_t_n, .ref a_t_order, .ref a_t_numbers, jk_V i_t_orders, .ref a_t_output, jk_V i_t_outputMany])), (a_t_w, jk_W cI 259 i_t_w), (a_t_input, jk_W cI 700 i_t_input)]
set_option maxHeartbeats 4000000 in
set_option maxRecDepth 20000 in
theorem ct_Md_readTopic (l : Launch) (D : va_G) (Z : (Nat → Prop) → State → Heap → Prop) (sq : Nat → Nat) (hZ : jk_ZK Z sq) (cI cR : ClassId) (a_t a_t_w a_t_wKept a_t_saved a_t_past a_t_input a_t_n a_t_order a_t_numbers a_t_output : Nat) (i_t_pastMany : Int) (i_t_isSaved : Int) (i_t_thrown : Int) (i_t_inputMany : Int) (i_t_lastError : Int) (i_t_lastOffset : Int) (i_t_error : Int) (i_t_offset : Int) (i_t_nextByte : Int) (i_t_begin : Int) (i_t_value : Int) (i_t_token : Int) (i_t_got : Int) (i_t_orders : Int) (i_t_outputMany : Int) (i_t_w : (Int → Int)) (i_t_input : (Int → Int)) (q : Int × (Int → Int) × Int × Int × Int × Int × Int × Int) (hf : fn_Md_readTopic i_t_w i_t_input i_t_inputMany i_t_error i_t_offset i_t_nextByte i_t_begin i_t_value i_t_token = some q) : jk_MI l D jk_cl (jk_ty cI cR) Z mn_Md_readTopic (.code mn_Md_readTopic mb_Md_readTopic 3 (some .boolean) :: jk_WA) (jk_rm 4 84) [.ref a_t] (wd_Md_readTopic cI a_t a_t_w a_t_wKept a_t_saved a_t_past a_t_input a_t_n a_t_order a_t_numbers a_t_output i_t_pastMany i_t_isSaved i_t_thrown i_t_inputMany i_t_lastError i_t_lastOffset i_t_error i_t_offset i_t_nextByte i_t_begin i_t_value i_t_token i_t_got i_t_orders i_t_outputMany i_t_w i_t_input) (wd_Md_readTopic cI a_t a_t_w a_t_wKept a_t_saved a_t_past a_t_input a_t_n a_t_order a_t_numbers a_t_output i_t_pastMany i_t_isSaved i_t_thrown i_t_inputMany i_t_lastError i_t_lastOffset q.2.2.1 q.2.2.2.1 q.2.2.2.2.1 q.2.2.2.2.2.1 q.2.2.2.2.2.2.1 q.2.2.2.2.2.2.2 i_t_got i_t_orders i_t_outputMany q.2.1 i_t_input) q.1 := by
  intro sz
  refine jk_body (by decide +kernel) (fun p e s m args below meth c hsz hz hin C => ?_) (Nat.le_of_ble_eq_true rfl)
  subst hsz
  unfold fn_Md_readTopic at hf
  have bk_76 : ∀ (n : Nat) (t_w : (Int → Int)) (t_error : Int) (t_offset : Int) (t_nextByte : Int) (t_begin : Int) (t_value : Int) (t_token : Int) (v1 : Int) (v2 : Int), fn_Md_readTopic_b76 n t_w i_t_input i_t_inputMany t_error t_offset t_nextByte t_begin t_value t_token v1 v2 = some q → jk_J p l e (jk_rm 4 84) s m args below meth c 0 0 (jk_QI below D jk_cl (jk_ty cI cR) (wd_Md_readTopic cI a_t a_t_w a_t_wKept a_t_saved a_t_past a_t_input a_t_n a_t_order a_t_numbers a_t_output i_t_pastMany i_t_isSaved i_t_thrown i_t_inputMany i_t_lastError i_t_lastOffset i_t_error i_t_offset i_t_nextByte i_t_begin i_t_value i_t_token i_t_got i_t_orders i_t_outputMany i_t_w i_t_input) (wd_Md_readTopic cI a_t a_t_w a_t_wKept a_t_saved a_t_past a_t_input a_t_n a_t_order a_t_numbers a_t_output i_t_pastMany i_t_isSaved i_t_thrown i_t_inputMany i_t_lastError i_t_lastOffset q.2.2.1 q.2.2.2.1 q.2.2.2.2.1 q.2.2.2.2.2.1 q.2.2.2.2.2.2.1 q.2.2.2.2.2.2.2 i_t_got i_t_orders i_t_outputMany q.2.1 i_t_input) args s q.1) D jk_cl (va_A (wd_Md_readTopic cI a_t a_t_w a_t_wKept a_t_saved a_t_past a_t_input a_t_n a_t_order a_t_numbers a_t_output i_t_pastMany i_t_isSaved i_t_thrown i_t_inputMany i_t_lastError i_t_lastOffset i_t_error i_t_offset i_t_nextByte i_t_begin i_t_value i_t_token i_t_got i_t_orders i_t_outputMany i_t_w i_t_input) s.heap.size) 3 (wd_Md_readTopic cI a_t a_t_w a_t_wKept a_t_saved a_t_past a_t_input a_t_n a_t_order a_t_numbers a_t_output i_t_pastMany i_t_isSaved i_t_thrown i_t_inputMany i_t_lastError i_t_lastOffset t_error t_offset t_nextByte t_begin t_value t_token i_t_got i_t_orders i_t_outputMany t_w i_t_input) [(0, .ref a_t), (1, jk_V v1), (2, jk_V v2)] 76 [] := by
    intro n
    induction n with
    | zero => intro t_w t_error t_offset t_nextByte t_begin t_value t_token v1 v2 hf; exact nomatch (show none = some q from hf)
    | succ n ih =>
      intro t_w t_error t_offset t_nextByte t_begin t_value t_token v1 v2 hf
      rw [fn_Md_readTopic_b76] at hf
      refine jk_iload_n C rd_Md_readTopic_76 (k := 2) rfl ?_
      refine jk_bipush C rd_Md_readTopic_77 (by decide +kernel) ?_
      refine jk_icmp_ge (tgt := 126) C rd_Md_readTopic_79 (by decide) hf (fun _ hf => ?_) (fun _ hf => ?_)
      · refine jk_aload_n C rd_Md_readTopic_126 (k := 0) rfl ?_
        refine jk_get C in_Md (ci := 11) rfl 0 (by decide) tm_1263 0 rfl rfl rd_Md_readTopic_127 ?_
        refine jk_iconst C rd_Md_readTopic_130 ?_
        refine jk_dup2 C rd_Md_readTopic_131 rfl rfl ?_
        refine jk_iald C 1 0 rfl rfl (Nat.le_of_ble_eq_true rfl) rd_Md_readTopic_132 hf (fun hf => ?_)
        refine jk_iconst C rd_Md_readTopic_133 ?_
        refine jk_iadd C rd_Md_readTopic_134 ?_
        refine jk_iast C 1 0 rfl rfl (Nat.le_of_ble_eq_true rfl) rd_Md_readTopic_135 hf (ws' := wd_Md_readTopic cI a_t a_t_w a_t_wKept a_t_saved a_t_past a_t_input a_t_n a_t_order a_t_numbers a_t_output i_t_pastMany i_t_isSaved i_t_thrown i_t_inputMany i_t_lastError i_t_lastOffset t_error t_offset t_nextByte t_begin t_value t_token i_t_got i_t_orders i_t_outputMany (jk_up t_w 0 ((t_w 0) + 1)) i_t_input) rfl (fun hf => ?_)
        refine jk_aload_n C rd_Md_readTopic_136 (k := 0) rfl ?_
        obtain ⟨q137, hq137, hf⟩ := jk_bind_h hf
        refine jk_callVv C hZ.1 hz (ct_Md_advanceToken l D Z sq hZ cI cR a_t a_t_w a_t_wKept a_t_saved a_t_past a_t_input a_t_n a_t_order a_t_numbers a_t_output i_t_pastMany i_t_isSaved i_t_thrown i_t_inputMany i_t_lastError i_t_lastOffset t_error t_offset t_nextByte t_begin t_value t_token i_t_got i_t_orders i_t_outputMany i_t_input q137 hq137) tm_1366 tm_1368 sl_29 tm_15 tm_1369 na_Md_advanceToken ⟨Nat.le_of_ble_eq_true rfl, Nat.le_of_ble_eq_true rfl⟩ rfl [0, 2] rfl rfl rfl (ws' := wd_Md_readTopic cI a_t a_t_w a_t_wKept a_t_saved a_t_past a_t_input a_t_n a_t_order a_t_numbers a_t_output i_t_pastMany i_t_isSaved i_t_thrown i_t_inputMany i_t_lastError i_t_lastOffset t_error t_offset q137.1 q137.2.1 q137.2.2.1 q137.2.2.2 i_t_got i_t_orders i_t_outputMany (jk_up t_w 0 ((t_w 0) + 1)) i_t_input) rfl 0 11 rfl rfl rfl (st := []) rfl (Nat.le_of_ble_eq_true rfl) rd_Md_readTopic_137 ?_ ⟨Nat.le_refl _, Nat.le_refl _⟩
        refine jk_aload_n C rd_Md_readTopic_140 (k := 0) rfl ?_
        obtain ⟨q141, hq141, hf⟩ := jk_bind_h hf
        refine jk_callVi C hZ.1 hz (ct_Md_takesSemicolon l D Z sq hZ cI cR a_t a_t_w a_t_wKept a_t_saved a_t_past a_t_input a_t_n a_t_order a_t_numbers a_t_output i_t_pastMany i_t_isSaved i_t_thrown i_t_inputMany i_t_lastError i_t_lastOffset t_error t_offset q137.1 q137.2.1 q137.2.2.1 q137.2.2.2 i_t_got i_t_orders i_t_outputMany i_t_input q141 hq141) tm_1413 tm_1415 sl_40 tm_15 tm_1416 na_Md_takesSemicolon ⟨Nat.le_of_ble_eq_true rfl, Nat.le_of_ble_eq_true rfl⟩ rfl [0, 2] rfl rfl rfl (ws' := wd_Md_readTopic cI a_t a_t_w a_t_wKept a_t_saved a_t_past a_t_input a_t_n a_t_order a_t_numbers a_t_output i_t_pastMany i_t_isSaved i_t_thrown i_t_inputMany i_t_lastError i_t_lastOffset q141.2.1 q141.2.2.1 q141.2.2.2.1 q141.2.2.2.2.1 q141.2.2.2.2.2.1 q141.2.2.2.2.2.2 i_t_got i_t_orders i_t_outputMany (jk_up t_w 0 ((t_w 0) + 1)) i_t_input) rfl 0 11 rfl rfl rfl (st := []) rfl (Nat.le_of_ble_eq_true rfl) rd_Md_readTopic_141 ?_ ⟨Nat.le_refl _, Nat.le_refl _⟩
        obtain ⟨hbo, hf⟩ := jk_bo_h hf
        cases hf
        exact jk_zret C hbo rfl rd_Md_readTopic_144 rfl
      · refine jk_aload_n C rd_Md_readTopic_82 (k := 0) rfl ?_
        refine jk_get C in_Md (ci := 11) rfl 0 (by decide) tm_1263 0 rfl rfl rd_Md_readTopic_83 ?_
        refine jk_iload_n C rd_Md_readTopic_86 (k := 1) rfl ?_
        refine jk_iconst C rd_Md_readTopic_87 ?_
        refine jk_iadd C rd_Md_readTopic_88 ?_
        refine jk_iload_n C rd_Md_readTopic_89 (k := 2) rfl ?_
        refine jk_iadd C rd_Md_readTopic_90 ?_
        refine jk_iload_n C rd_Md_readTopic_91 (k := 2) rfl ?_
        refine jk_aload_n C rd_Md_readTopic_92 (k := 0) rfl ?_
        refine jk_get C in_Md (ci := 11) rfl 13 (by decide) tm_1276 0 rfl rfl rd_Md_readTopic_93 ?_
        refine jk_aload_n C rd_Md_readTopic_96 (k := 0) rfl ?_
        refine jk_get C in_Md (ci := 11) rfl 14 (by decide) tm_1277 0 rfl rfl rd_Md_readTopic_97 ?_
        refine jk_isub C rd_Md_readTopic_100 ?_
        refine jk_icmp_ge (tgt := 118) C rd_Md_readTopic_101 (by decide) hf (fun _ hf => ?_) (fun _ hf => ?_)
        · refine jk_iconst C rd_Md_readTopic_118 ?_
          refine jk_iast C 1 0 rfl rfl (Nat.le_of_ble_eq_true rfl) rd_Md_readTopic_119 hf (ws' := wd_Md_readTopic cI a_t a_t_w a_t_wKept a_t_saved a_t_past a_t_input a_t_n a_t_order a_t_numbers a_t_output i_t_pastMany i_t_isSaved i_t_thrown i_t_inputMany i_t_lastError i_t_lastOffset t_error t_offset t_nextByte t_begin t_value t_token i_t_got i_t_orders i_t_outputMany (jk_up t_w ((v1 + 1) + v2) 0) i_t_input) rfl (fun hf => ?_)
          refine jk_iinc C rd_Md_readTopic_120 (k := 2) rfl (by decide) (lv' := [(2, jk_V (v2 + 1)), (0, .ref a_t), (1, jk_V v1)]) rfl ?_
          refine jk_goto (tgt := 76) C rd_Md_readTopic_123 (by decide) ?_
          refine jk_lv (lv' := [(0, .ref a_t), (1, jk_V v1), (2, jk_V (v2 + 1))]) [1, 2, 0] rfl ?_
          exact ih (jk_up t_w ((v1 + 1) + v2) 0) t_error t_offset t_nextByte t_begin t_value t_token v1 (v2 + 1) hf
        · refine jk_aload_n C rd_Md_readTopic_104 (k := 0) rfl ?_
          refine jk_get C in_Md (ci := 11) rfl 7 (by decide) tm_1270 0 rfl rfl rd_Md_readTopic_105 ?_
          refine jk_aload_n C rd_Md_readTopic_108 (k := 0) rfl ?_
          refine jk_get C in_Md (ci := 11) rfl 14 (by decide) tm_1277 0 rfl rfl rd_Md_readTopic_109 ?_
          refine jk_iload_n C rd_Md_readTopic_112 (k := 2) rfl ?_
          refine jk_iadd C rd_Md_readTopic_113 ?_
          refine jk_iald C 2 0 rfl rfl (Nat.le_of_ble_eq_true rfl) rd_Md_readTopic_114 hf (fun hf => ?_)
          refine jk_goto (tgt := 119) C rd_Md_readTopic_115 (by decide) ?_
          refine jk_iast C 1 0 rfl rfl (Nat.le_of_ble_eq_true rfl) rd_Md_readTopic_119 hf (ws' := wd_Md_readTopic cI a_t a_t_w a_t_wKept a_t_saved a_t_past a_t_input a_t_n a_t_order a_t_numbers a_t_output i_t_pastMany i_t_isSaved i_t_thrown i_t_inputMany i_t_lastError i_t_lastOffset t_error t_offset t_nextByte t_begin t_value t_token i_t_got i_t_orders i_t_outputMany (jk_up t_w ((v1 + 1) + v2) (i_t_input (t_begin + v2))) i_t_input) rfl (fun hf => ?_)
          refine jk_iinc C rd_Md_readTopic_120 (k := 2) rfl (by decide) (lv' := [(2, jk_V (v2 + 1)), (0, .ref a_t), (1, jk_V v1)]) rfl ?_
          refine jk_goto (tgt := 76) C rd_Md_readTopic_123 (by decide) ?_
          refine jk_lv (lv' := [(0, .ref a_t), (1, jk_V v1), (2, jk_V (v2 + 1))]) [1, 2, 0] rfl ?_
          exact ih (jk_up t_w ((v1 + 1) + v2) (i_t_input (t_begin + v2))) t_error t_offset t_nextByte t_begin t_value t_token v1 (v2 + 1) hf
  refine jk_aload_n C rd_Md_readTopic_0 (k := 0) rfl ?_
  refine jk_get C in_Md (ci := 11) rfl 0 (by decide) tm_1263 0 rfl rfl rd_Md_readTopic_1 ?_
  refine jk_iconst C rd_Md_readTopic_4 ?_
  refine jk_iald C 1 0 rfl rfl (Nat.le_of_ble_eq_true rfl) rd_Md_readTopic_5 hf (fun hf => ?_)
  refine jk_bipush C rd_Md_readTopic_6 (by decide +kernel) ?_
  refine jk_icmp_ne (tgt := 18) C rd_Md_readTopic_8 (by decide) hf (fun _ hf => ?_) (fun _ hf => ?_)
  · refine jk_aload_n C rd_Md_readTopic_18 (k := 0) rfl ?_
    obtain ⟨q19, hq19, hf⟩ := jk_bind_h hf
    refine jk_callVv C hZ.1 hz (ct_Md_advanceToken l D Z sq hZ cI cR a_t a_t_w a_t_wKept a_t_saved a_t_past a_t_input a_t_n a_t_order a_t_numbers a_t_output i_t_pastMany i_t_isSaved i_t_thrown i_t_inputMany i_t_lastError i_t_lastOffset i_t_error i_t_offset i_t_nextByte i_t_begin i_t_value i_t_token i_t_got i_t_orders i_t_outputMany i_t_input q19 hq19) tm_1366 tm_1368 sl_29 tm_15 tm_1369 na_Md_advanceToken ⟨Nat.le_of_ble_eq_true rfl, Nat.le_of_ble_eq_true rfl⟩ rfl [0, 2] rfl rfl rfl (ws' := wd_Md_readTopic cI a_t a_t_w a_t_wKept a_t_saved a_t_past a_t_input a_t_n a_t_order a_t_numbers a_t_output i_t_pastMany i_t_isSaved i_t_thrown i_t_inputMany i_t_lastError i_t_lastOffset i_t_error i_t_offset q19.1 q19.2.1 q19.2.2.1 q19.2.2.2 i_t_got i_t_orders i_t_outputMany i_t_w i_t_input) rfl 0 11 rfl rfl rfl (st := []) rfl (Nat.le_of_ble_eq_true rfl) rd_Md_readTopic_19 ?_ ⟨Nat.le_refl _, Nat.le_refl _⟩
    refine jk_aload_n C rd_Md_readTopic_22 (k := 0) rfl ?_
    obtain ⟨q23, hq23, hf⟩ := jk_bind_h hf
    refine jk_callVi C hZ.1 hz (ct_Md_seesName l D Z sq hZ cI cR a_t a_t_w a_t_wKept a_t_saved a_t_past a_t_input a_t_n a_t_order a_t_numbers a_t_output i_t_pastMany i_t_isSaved i_t_thrown i_t_inputMany i_t_lastError i_t_lastOffset i_t_error i_t_offset q19.1 q19.2.1 q19.2.2.1 q19.2.2.2 i_t_got i_t_orders i_t_outputMany q23 hq23) tm_1401 tm_1403 sl_37 tm_15 tm_1404 na_Md_seesName ⟨Nat.le_of_ble_eq_true rfl, Nat.le_of_ble_eq_true rfl⟩ rfl [0] rfl rfl rfl (ws' := wd_Md_readTopic cI a_t a_t_w a_t_wKept a_t_saved a_t_past a_t_input a_t_n a_t_order a_t_numbers a_t_output i_t_pastMany i_t_isSaved i_t_thrown i_t_inputMany i_t_lastError i_t_lastOffset q23.2.1 q23.2.2 q19.1 q19.2.1 q19.2.2.1 q19.2.2.2 i_t_got i_t_orders i_t_outputMany i_t_w i_t_input) rfl 0 11 rfl rfl rfl (st := []) rfl (Nat.le_of_ble_eq_true rfl) rd_Md_readTopic_23 ?_ ⟨Nat.le_refl _, Nat.le_refl _⟩
    refine jk_if_ne (tgt := 31) C rd_Md_readTopic_26 (by decide) hf (fun _ hf => ?_) (fun _ hf => ?_)
    · refine jk_aload_n C rd_Md_readTopic_31 (k := 0) rfl ?_
      obtain ⟨q32, hq32, hf⟩ := jk_bind_h hf
      refine jk_callVi C hZ.1 hz (ct_Md_topicHere l D Z sq hZ cI cR a_t a_t_w a_t_wKept a_t_saved a_t_past a_t_input a_t_n a_t_order a_t_numbers a_t_output i_t_pastMany i_t_isSaved i_t_thrown i_t_inputMany i_t_lastError i_t_lastOffset q23.2.1 q23.2.2 q19.1 q19.2.1 q19.2.2.1 q19.2.2.2 i_t_got i_t_orders i_t_outputMany i_t_w i_t_input q32 hq32) tm_1405 tm_1407 sl_38 tm_15 tm_1408 na_Md_topicHere ⟨Nat.le_of_ble_eq_true rfl, Nat.le_of_ble_eq_true rfl⟩ rfl [0, 1, 2] rfl rfl rfl (ws' := wd_Md_readTopic cI a_t a_t_w a_t_wKept a_t_saved a_t_past a_t_input a_t_n a_t_order a_t_numbers a_t_output i_t_pastMany i_t_isSaved i_t_thrown i_t_inputMany i_t_lastError i_t_lastOffset q23.2.1 q23.2.2 q19.1 q19.2.1 q19.2.2.1 q19.2.2.2 i_t_got i_t_orders i_t_outputMany i_t_w i_t_input) rfl 0 11 rfl rfl rfl (st := []) rfl (Nat.le_of_ble_eq_true rfl) rd_Md_readTopic_32 ?_ ⟨Nat.le_refl _, Nat.le_refl _⟩
      refine jk_iconst C rd_Md_readTopic_35 ?_
      refine jk_icmp_eq (tgt := 45) C rd_Md_readTopic_36 (by decide) hf (fun _ hf => ?_) (fun _ hf => ?_)
      · refine jk_iconst C rd_Md_readTopic_45 ?_
        refine jk_bipush C rd_Md_readTopic_46 (by decide +kernel) ?_
        refine jk_aload_n C rd_Md_readTopic_48 (k := 0) rfl ?_
        refine jk_get C in_Md (ci := 11) rfl 0 (by decide) tm_1263 0 rfl rfl rd_Md_readTopic_49 ?_
        refine jk_iconst C rd_Md_readTopic_52 ?_
        refine jk_iald C 1 0 rfl rfl (Nat.le_of_ble_eq_true rfl) rd_Md_readTopic_53 hf (fun hf => ?_)
        refine jk_imul C rd_Md_readTopic_54 ?_
        refine jk_iadd C rd_Md_readTopic_55 ?_
        refine jk_istore_n C rd_Md_readTopic_56 (by decide) (lv' := [(1, jk_V (3 + (7 * (i_t_w 0)))), (0, .ref a_t)]) rfl ?_
        refine jk_aload_n C rd_Md_readTopic_57 (k := 1) rfl ?_
        refine jk_get C in_Md (ci := 11) rfl 0 (by decide) tm_1263 0 rfl rfl rd_Md_readTopic_58 ?_
        refine jk_iload_n C rd_Md_readTopic_61 (k := 0) rfl ?_
        refine jk_iconst C rd_Md_readTopic_62 ?_
        refine jk_iadd C rd_Md_readTopic_63 ?_
        refine jk_aload_n C rd_Md_readTopic_64 (k := 1) rfl ?_
        refine jk_get C in_Md (ci := 11) rfl 13 (by decide) tm_1276 0 rfl rfl rd_Md_readTopic_65 ?_
        refine jk_aload_n C rd_Md_readTopic_68 (k := 1) rfl ?_
        refine jk_get C in_Md (ci := 11) rfl 14 (by decide) tm_1277 0 rfl rfl rd_Md_readTopic_69 ?_
        refine jk_isub C rd_Md_readTopic_72 ?_
        refine jk_iast C 1 0 rfl rfl (Nat.le_of_ble_eq_true rfl) rd_Md_readTopic_73 hf (ws' := wd_Md_readTopic cI a_t a_t_w a_t_wKept a_t_saved a_t_past a_t_input a_t_n a_t_order a_t_numbers a_t_output i_t_pastMany i_t_isSaved i_t_thrown i_t_inputMany i_t_lastError i_t_lastOffset q23.2.1 q23.2.2 q19.1 q19.2.1 q19.2.2.1 q19.2.2.2 i_t_got i_t_orders i_t_outputMany (jk_up i_t_w ((3 + (7 * (i_t_w 0))) + 0) (q19.1 - q19.2.1)) i_t_input) rfl (fun hf => ?_)
        refine jk_iconst C rd_Md_readTopic_74 ?_
        refine jk_istore_n C rd_Md_readTopic_75 (by decide) (lv' := [(2, jk_V 0), (1, jk_V (3 + (7 * (i_t_w 0)))), (0, .ref a_t)]) rfl ?_
        refine jk_lv (lv' := [(0, .ref a_t), (1, jk_V (3 + (7 * (i_t_w 0)))), (2, jk_V 0)]) [2, 1, 0] rfl ?_
        exact bk_76 jk_F (jk_up i_t_w ((3 + (7 * (i_t_w 0))) + 0) (q19.1 - q19.2.1)) q23.2.1 q23.2.2 q19.1 q19.2.1 q19.2.2.1 q19.2.2.2 (3 + (7 * (i_t_w 0))) 0 hf
      · refine jk_aload_n C rd_Md_readTopic_39 (k := 0) rfl ?_
        refine jk_iconst C rd_Md_readTopic_40 ?_
        obtain ⟨q41, hq41, hf⟩ := jk_bind_h hf
        refine jk_callVi C hZ.1 hz (ct_Md_failsAt l D Z sq hZ cI cR a_t a_t_w a_t_wKept a_t_saved a_t_past a_t_input a_t_n a_t_order a_t_numbers a_t_output i_t_pastMany i_t_isSaved i_t_thrown i_t_inputMany i_t_lastError i_t_lastOffset q23.2.1 q23.2.2 q19.1 q19.2.1 q19.2.2.1 q19.2.2.2 i_t_got i_t_orders i_t_outputMany 3 q41 hq41) tm_1397 tm_1399 sl_36 tm_15 tm_1400 na_Md_failsAt ⟨Nat.le_of_ble_eq_true rfl, Nat.le_of_ble_eq_true rfl⟩ rfl [0] rfl rfl rfl (ws' := wd_Md_readTopic cI a_t a_t_w a_t_wKept a_t_saved a_t_past a_t_input a_t_n a_t_order a_t_numbers a_t_output i_t_pastMany i_t_isSaved i_t_thrown i_t_inputMany i_t_lastError i_t_lastOffset q41.2.1 q41.2.2 q19.1 q19.2.1 q19.2.2.1 q19.2.2.2 i_t_got i_t_orders i_t_outputMany i_t_w i_t_input) rfl 0 11 rfl rfl rfl (st := []) rfl (Nat.le_of_ble_eq_true rfl) rd_Md_readTopic_41 ?_ ⟨Nat.le_refl _, Nat.le_refl _⟩
        obtain ⟨hbo, hf⟩ := jk_bo_h hf
        cases hf
        exact jk_zret C hbo rfl rd_Md_readTopic_44 rfl
    · refine jk_iconst C rd_Md_readTopic_29 ?_
      cases hf
      exact jk_zret C (Or.inl rfl) rfl rd_Md_readTopic_30 rfl
  · refine jk_aload_n C rd_Md_readTopic_11 (k := 0) rfl ?_
    refine jk_bipush C rd_Md_readTopic_12 (by decide +kernel) ?_
    obtain ⟨q14, hq14, hf⟩ := jk_bind_h hf
    refine jk_callVi C hZ.1 hz (ct_Md_failsAt l D Z sq hZ cI cR a_t a_t_w a_t_wKept a_t_saved a_t_past a_t_input a_t_n a_t_order a_t_numbers a_t_output i_t_pastMany i_t_isSaved i_t_thrown i_t_inputMany i_t_lastError i_t_lastOffset i_t_error i_t_offset i_t_nextByte i_t_begin i_t_value i_t_token i_t_got i_t_orders i_t_outputMany 6 q14 hq14) tm_1397 tm_1399 sl_36 tm_15 tm_1400 na_Md_failsAt ⟨Nat.le_of_ble_eq_true rfl, Nat.le_of_ble_eq_true rfl⟩ rfl [0] rfl rfl rfl (ws' := wd_Md_readTopic cI a_t a_t_w a_t_wKept a_t_saved a_t_past a_t_input a_t_n a_t_order a_t_numbers a_t_output i_t_pastMany i_t_isSaved i_t_thrown i_t_inputMany i_t_lastError i_t_lastOffset q14.2.1 q14.2.2 i_t_nextByte i_t_begin i_t_value i_t_token i_t_got i_t_orders i_t_outputMany i_t_w i_t_input) rfl 0 11 rfl rfl rfl (st := []) rfl (Nat.le_of_ble_eq_true rfl) rd_Md_readTopic_14 ?_ ⟨Nat.le_refl _, Nat.le_refl _⟩
    obtain ⟨hbo, hf⟩ := jk_bo_h hf
    cases hf
    exact jk_zret C hbo rfl rd_Md_readTopic_17 rfl
def wd_Md_readCluster (cI : ClassId) (a_t a_t_w a_t_wKept a_t_saved a_t_past a_t_input a_t_n a_t_order a_t_numbers a_t_output : Nat) (i_t_pastMany : Int) (i_t_isSaved : Int) (i_t_thrown : Int) (i_t_inputMany : Int) (i_t_lastError : Int) (i_t_lastOffset : Int) (i_t_error : Int) (i_t_offset : Int) (i_t_nextByte : Int) (i_t_begin : Int) (i_t_value : Int) (i_t_token : Int) (i_t_got : Int) (i_t_orders : Int) (i_t_outputMany : Int) (i_t_w : (Int → Int)) (i_t_input : (Int → Int)) : va_W := [(a_t, .inr (11, [.ref a_t_w, .ref a_t_wKept, .ref a_t_saved, .ref a_t_past, jk_V i_t_pastMany, jk_V i_t_isSaved, jk_V i_t_thrown, .ref a_t_input, jk_V i_t_inputMany, jk_V i_t_lastError, jk_V i_t_lastOffset, jk_V i_t_error, jk_V i_t_offset, jk_V i_t_nextByte, jk_V i_t_begin, jk_V i_t_value, jk_V i_t_token, jk_V i_t_got, .ref a_t_n, .ref a_t_order, .ref a_t_numbers, jk_V i_t_orders, .ref a_t_output, jk_V i_t_outputMany])), (a_t_w, jk_W cI 259 i_t_w), (a_t_input, jk_W cI 700 i_t_input)]
set_option maxHeartbeats 4000000 in
set_option maxRecDepth 20000 in
theorem ct_Md_readCluster (l : Launch) (D : va_G) (Z : (Nat → Prop) → State → Heap → Prop) (sq : Nat → Nat) (hZ : jk_ZK Z sq) (cI cR : ClassId) (a_t a_t_w a_t_wKept a_t_saved a_t_past a_t_input a_t_n a_t_order a_t_numbers a_t_output : Nat) (i_t_pastMany : Int) (i_t_isSaved : Int) (i_t_thrown : Int) (i_t_inputMany : Int) (i_t_lastError : Int) (i_t_lastOffset : Int) (i_t_error : Int) (i_t_offset : Int) (i_t_nextByte : Int) (i_t_begin : Int) (i_t_value : Int) (i_t_token : Int) (i_t_got : Int) (i_t_orders : Int) (i_t_outputMany : Int) (i_t_w : (Int → Int)) (i_t_input : (Int → Int)) (q : Int × (Int → Int) × Int × Int × Int × Int × Int × Int) (hf : fn_Md_readCluster i_t_w i_t_input i_t_inputMany i_t_error i_t_offset i_t_nextByte i_t_begin i_t_value i_t_token = some q) : jk_MI l D jk_cl (jk_ty cI cR) Z mn_Md_readCluster (.code mn_Md_readCluster mb_Md_readCluster 1 (some .boolean) :: jk_WA) (jk_rm 4 84) [.ref a_t] (wd_Md_readCluster cI a_t a_t_w a_t_wKept a_t_saved a_t_past a_t_input a_t_n a_t_order a_t_numbers a_t_output i_t_pastMany i_t_isSaved i_t_thrown i_t_inputMany i_t_lastError i_t_lastOffset i_t_error i_t_offset i_t_nextByte i_t_begin i_t_value i_t_token i_t_got i_t_orders i_t_outputMany i_t_w i_t_input) (wd_Md_readCluster cI a_t a_t_w a_t_wKept a_t_saved a_t_past a_t_input a_t_n a_t_order a_t_numbers a_t_output i_t_pastMany i_t_isSaved i_t_thrown i_t_inputMany i_t_lastError i_t_lastOffset q.2.2.1 q.2.2.2.1 q.2.2.2.2.1 q.2.2.2.2.2.1 q.2.2.2.2.2.2.1 q.2.2.2.2.2.2.2 i_t_got i_t_orders i_t_outputMany q.2.1 i_t_input) q.1 := by
  intro sz
  refine jk_body (by decide +kernel) (fun p e s m args below meth c hsz hz hin C => ?_) (Nat.le_of_ble_eq_true rfl)
  subst hsz
  unfold fn_Md_readCluster at hf
  refine jk_aload_n C rd_Md_readCluster_0 (k := 0) rfl ?_
  refine jk_get C in_Md (ci := 11) rfl 0 (by decide) tm_1263 0 rfl rfl rd_Md_readCluster_1 ?_
  refine jk_iconst C rd_Md_readCluster_4 ?_
  refine jk_iald C 1 0 rfl rfl (Nat.le_of_ble_eq_true rfl) rd_Md_readCluster_5 hf (fun hf => ?_)
  refine jk_bipush C rd_Md_readCluster_6 (by decide +kernel) ?_
  refine jk_icmp_ne (tgt := 18) C rd_Md_readCluster_8 (by decide) hf (fun _ hf => ?_) (fun _ hf => ?_)
  · refine jk_aload_n C rd_Md_readCluster_18 (k := 0) rfl ?_
    obtain ⟨q19, hq19, hf⟩ := jk_bind_h hf
    refine jk_callVv C hZ.1 hz (ct_Md_advanceToken l D Z sq hZ cI cR a_t a_t_w a_t_wKept a_t_saved a_t_past a_t_input a_t_n a_t_order a_t_numbers a_t_output i_t_pastMany i_t_isSaved i_t_thrown i_t_inputMany i_t_lastError i_t_lastOffset i_t_error i_t_offset i_t_nextByte i_t_begin i_t_value i_t_token i_t_got i_t_orders i_t_outputMany i_t_input q19 hq19) tm_1366 tm_1368 sl_29 tm_15 tm_1369 na_Md_advanceToken ⟨Nat.le_of_ble_eq_true rfl, Nat.le_of_ble_eq_true rfl⟩ rfl [0, 2] rfl rfl rfl (ws' := wd_Md_readCluster cI a_t a_t_w a_t_wKept a_t_saved a_t_past a_t_input a_t_n a_t_order a_t_numbers a_t_output i_t_pastMany i_t_isSaved i_t_thrown i_t_inputMany i_t_lastError i_t_lastOffset i_t_error i_t_offset q19.1 q19.2.1 q19.2.2.1 q19.2.2.2 i_t_got i_t_orders i_t_outputMany i_t_w i_t_input) rfl 0 11 rfl rfl rfl (st := []) rfl (Nat.le_of_ble_eq_true rfl) rd_Md_readCluster_19 ?_ ⟨Nat.le_refl _, Nat.le_refl _⟩
    refine jk_aload_n C rd_Md_readCluster_22 (k := 0) rfl ?_
    refine jk_get C in_Md (ci := 11) rfl 0 (by decide) tm_1263 0 rfl rfl rd_Md_readCluster_23 ?_
    refine jk_iconst C rd_Md_readCluster_26 ?_
    refine jk_dup2 C rd_Md_readCluster_27 rfl rfl ?_
    refine jk_iald C 1 0 rfl rfl (Nat.le_of_ble_eq_true rfl) rd_Md_readCluster_28 hf (fun hf => ?_)
    refine jk_iconst C rd_Md_readCluster_29 ?_
    refine jk_iadd C rd_Md_readCluster_30 ?_
    refine jk_iast C 1 0 rfl rfl (Nat.le_of_ble_eq_true rfl) rd_Md_readCluster_31 hf (ws' := wd_Md_readCluster cI a_t a_t_w a_t_wKept a_t_saved a_t_past a_t_input a_t_n a_t_order a_t_numbers a_t_output i_t_pastMany i_t_isSaved i_t_thrown i_t_inputMany i_t_lastError i_t_lastOffset i_t_error i_t_offset q19.1 q19.2.1 q19.2.2.1 q19.2.2.2 i_t_got i_t_orders i_t_outputMany (jk_up i_t_w 1 ((i_t_w 1) + 1)) i_t_input) rfl (fun hf => ?_)
    refine jk_aload_n C rd_Md_readCluster_32 (k := 0) rfl ?_
    obtain ⟨q33, hq33, hf⟩ := jk_bind_h hf
    refine jk_callVi C hZ.1 hz (ct_Md_takesSemicolon l D Z sq hZ cI cR a_t a_t_w a_t_wKept a_t_saved a_t_past a_t_input a_t_n a_t_order a_t_numbers a_t_output i_t_pastMany i_t_isSaved i_t_thrown i_t_inputMany i_t_lastError i_t_lastOffset i_t_error i_t_offset q19.1 q19.2.1 q19.2.2.1 q19.2.2.2 i_t_got i_t_orders i_t_outputMany i_t_input q33 hq33) tm_1413 tm_1415 sl_40 tm_15 tm_1416 na_Md_takesSemicolon ⟨Nat.le_of_ble_eq_true rfl, Nat.le_of_ble_eq_true rfl⟩ rfl [0, 2] rfl rfl rfl (ws' := wd_Md_readCluster cI a_t a_t_w a_t_wKept a_t_saved a_t_past a_t_input a_t_n a_t_order a_t_numbers a_t_output i_t_pastMany i_t_isSaved i_t_thrown i_t_inputMany i_t_lastError i_t_lastOffset q33.2.1 q33.2.2.1 q33.2.2.2.1 q33.2.2.2.2.1 q33.2.2.2.2.2.1 q33.2.2.2.2.2.2 i_t_got i_t_orders i_t_outputMany (jk_up i_t_w 1 ((i_t_w 1) + 1)) i_t_input) rfl 0 11 rfl rfl rfl (st := []) rfl (Nat.le_of_ble_eq_true rfl) rd_Md_readCluster_33 ?_ ⟨Nat.le_refl _, Nat.le_refl _⟩
    obtain ⟨hbo, hf⟩ := jk_bo_h hf
    cases hf
    exact jk_zret C hbo rfl rd_Md_readCluster_36 rfl
  · refine jk_aload_n C rd_Md_readCluster_11 (k := 0) rfl ?_
    refine jk_bipush C rd_Md_readCluster_12 (by decide +kernel) ?_
    obtain ⟨q14, hq14, hf⟩ := jk_bind_h hf
    refine jk_callVi C hZ.1 hz (ct_Md_failsAt l D Z sq hZ cI cR a_t a_t_w a_t_wKept a_t_saved a_t_past a_t_input a_t_n a_t_order a_t_numbers a_t_output i_t_pastMany i_t_isSaved i_t_thrown i_t_inputMany i_t_lastError i_t_lastOffset i_t_error i_t_offset i_t_nextByte i_t_begin i_t_value i_t_token i_t_got i_t_orders i_t_outputMany 6 q14 hq14) tm_1397 tm_1399 sl_36 tm_15 tm_1400 na_Md_failsAt ⟨Nat.le_of_ble_eq_true rfl, Nat.le_of_ble_eq_true rfl⟩ rfl [0] rfl rfl rfl (ws' := wd_Md_readCluster cI a_t a_t_w a_t_wKept a_t_saved a_t_past a_t_input a_t_n a_t_order a_t_numbers a_t_output i_t_pastMany i_t_isSaved i_t_thrown i_t_inputMany i_t_lastError i_t_lastOffset q14.2.1 q14.2.2 i_t_nextByte i_t_begin i_t_value i_t_token i_t_got i_t_orders i_t_outputMany i_t_w i_t_input) rfl 0 11 rfl rfl rfl (st := []) rfl (Nat.le_of_ble_eq_true rfl) rd_Md_readCluster_14 ?_ ⟨Nat.le_refl _, Nat.le_refl _⟩
    obtain ⟨hbo, hf⟩ := jk_bo_h hf
    cases hf
    exact jk_zret C hbo rfl rd_Md_readCluster_17 rfl
def wd_Md_takesCord (cI : ClassId) (a_t a_t_w a_t_wKept a_t_saved a_t_past a_t_input a_t_n a_t_order a_t_numbers a_t_output : Nat) (i_t_pastMany : Int) (i_t_isSaved : Int) (i_t_thrown : Int) (i_t_inputMany : Int) (i_t_lastError : Int) (i_t_lastOffset : Int) (i_t_error : Int) (i_t_offset : Int) (i_t_nextByte : Int) (i_t_begin : Int) (i_t_value : Int) (i_t_token : Int) (i_t_got : Int) (i_t_orders : Int) (i_t_outputMany : Int) (i_t_w : (Int → Int)) (i_t_input : (Int → Int)) (i_t_n : (Int → Int)) : va_W := [(a_t, .inr (11, [.ref a_t_w, .ref a_t_wKept, .ref a_t_saved, .ref a_t_past, jk_V i_t_pastMany, jk_V i_t_isSaved, jk_V i_t_thrown, .ref a_t_input, jk_V i_t_inputMany, jk_V i_t_lastError, jk_V i_t_lastOffset, jk_V i_t_error, jk_V i_t_offset, jk_V i_t_nextByte, jk_V i_t_begin, jk_V i_t_value, jk_V i_t_token, jk_V i_t_got, .ref a_t_n, .ref a_t_order, .ref a_t_numbers, jk_V i_t_orders, .ref a_t_output, jk_V i_t_outputMany])), (a_t_w, jk_W cI 259 i_t_w), (a_t_input, jk_W cI 700 i_t_input), (a_t_n, jk_W cI 3 i_t_n)]
set_option maxHeartbeats 4000000 in
set_option maxRecDepth 20000 in
theorem ct_Md_takesCord (l : Launch) (D : va_G) (Z : (Nat → Prop) → State → Heap → Prop) (sq : Nat → Nat) (hZ : jk_ZK Z sq) (cI cR : ClassId) (a_t a_t_w a_t_wKept a_t_saved a_t_past a_t_input a_t_n a_t_order a_t_numbers a_t_output : Nat) (i_t_pastMany : Int) (i_t_isSaved : Int) (i_t_thrown : Int) (i_t_inputMany : Int) (i_t_lastError : Int) (i_t_lastOffset : Int) (i_t_error : Int) (i_t_offset : Int) (i_t_nextByte : Int) (i_t_begin : Int) (i_t_value : Int) (i_t_token : Int) (i_t_got : Int) (i_t_orders : Int) (i_t_outputMany : Int) (i_t_w : (Int → Int)) (i_t_input : (Int → Int)) (i_t_n : (Int → Int)) (x1 : Int) (x2 : Int) (q : Int × (Int → Int) × Int × Int × Int × Int × Int × Int × Int × (Int → Int)) (hf : fn_Md_takesCord i_t_w i_t_input i_t_inputMany i_t_error i_t_offset i_t_nextByte i_t_begin i_t_value i_t_token i_t_got i_t_n x1 x2 = some q) : jk_MI l D jk_cl (jk_ty cI cR) Z mn_Md_takesCord (.code mn_Md_takesCord mb_Md_takesCord 5 (some .boolean) :: jk_WA) (jk_rm 7 322) [.ref a_t, jk_V x1, jk_V x2] (wd_Md_takesCord cI a_t a_t_w a_t_wKept a_t_saved a_t_past a_t_input a_t_n a_t_order a_t_numbers a_t_output i_t_pastMany i_t_isSaved i_t_thrown i_t_inputMany i_t_lastError i_t_lastOffset i_t_error i_t_offset i_t_nextByte i_t_begin i_t_value i_t_token i_t_got i_t_orders i_t_outputMany i_t_w i_t_input i_t_n) (wd_Md_takesCord cI a_t a_t_w a_t_wKept a_t_saved a_t_past a_t_input a_t_n a_t_order a_t_numbers a_t_output i_t_pastMany i_t_isSaved i_t_thrown i_t_inputMany i_t_lastError i_t_lastOffset q.2.2.1 q.2.2.2.1 q.2.2.2.2.1 q.2.2.2.2.2.1 q.2.2.2.2.2.2.1 q.2.2.2.2.2.2.2.1 q.2.2.2.2.2.2.2.2.1 i_t_orders i_t_outputMany q.2.1 i_t_input q.2.2.2.2.2.2.2.2.2) q.1 := by
  intro sz
  refine jk_body (by decide +kernel) (fun p e s m args below meth c hsz hz hin C => ?_) (Nat.le_of_ble_eq_true rfl)
  subst hsz
  unfold fn_Md_takesCord at hf
  refine jk_aload_n C rd_Md_takesCord_0 (k := 0) rfl ?_
  refine jk_iconst C rd_Md_takesCord_1 ?_
  obtain ⟨q2, hq2, hf⟩ := jk_bind_h hf
  refine jk_callVi C hZ.1 hz (ct_Md_takesTopic l D Z sq hZ cI cR a_t a_t_w a_t_wKept a_t_saved a_t_past a_t_input a_t_n a_t_order a_t_numbers a_t_output i_t_pastMany i_t_isSaved i_t_thrown i_t_inputMany i_t_lastError i_t_lastOffset i_t_error i_t_offset i_t_nextByte i_t_begin i_t_value i_t_token i_t_got i_t_orders i_t_outputMany i_t_w i_t_input i_t_n 1 q2 hq2) tm_1465 tm_1467 sl_52 tm_15 tm_1468 na_Md_takesTopic ⟨Nat.le_of_ble_eq_true rfl, Nat.le_of_ble_eq_true rfl⟩ rfl [0, 1, 2, 3] rfl rfl rfl (ws' := wd_Md_takesCord cI a_t a_t_w a_t_wKept a_t_saved a_t_past a_t_input a_t_n a_t_order a_t_numbers a_t_output i_t_pastMany i_t_isSaved i_t_thrown i_t_inputMany i_t_lastError i_t_lastOffset q2.2.1 q2.2.2.1 q2.2.2.2.1 q2.2.2.2.2.1 q2.2.2.2.2.2.1 q2.2.2.2.2.2.2.1 i_t_got i_t_orders i_t_outputMany i_t_w i_t_input q2.2.2.2.2.2.2.2) rfl 0 11 rfl rfl rfl (st := []) rfl (Nat.le_of_ble_eq_true rfl) rd_Md_takesCord_2 ?_ ⟨Nat.le_refl _, Nat.le_refl _⟩
  refine jk_if_eq (tgt := 20) C rd_Md_takesCord_5 (by decide) hf (fun _ hf => ?_) (fun _ hf => ?_)
  · refine jk_iconst C rd_Md_takesCord_20 ?_
    cases hf
    exact jk_zret C (Or.inl rfl) rfl rd_Md_takesCord_21 rfl
  · refine jk_aload_n C rd_Md_takesCord_8 (k := 0) rfl ?_
    refine jk_iconst C rd_Md_takesCord_9 ?_
    refine jk_iconst C rd_Md_takesCord_10 ?_
    refine jk_sipush C rd_Md_takesCord_11 (by decide +kernel) ?_
    obtain ⟨q14, hq14, hf⟩ := jk_bind_h hf
    refine jk_callVi C hZ.1 hz (ct_Md_takes l D Z sq hZ cI cR a_t a_t_w a_t_wKept a_t_saved a_t_past a_t_input a_t_n a_t_order a_t_numbers a_t_output i_t_pastMany i_t_isSaved i_t_thrown i_t_inputMany i_t_lastError i_t_lastOffset q2.2.1 q2.2.2.1 q2.2.2.2.1 q2.2.2.2.2.1 q2.2.2.2.2.2.1 q2.2.2.2.2.2.2.1 i_t_got i_t_orders i_t_outputMany i_t_input q2.2.2.2.2.2.2.2 2 0 9999 q14 hq14) tm_1469 tm_1471 sl_53 tm_15 tm_1472 na_Md_takes ⟨Nat.le_of_ble_eq_true rfl, Nat.le_of_ble_eq_true rfl⟩ rfl [0, 2, 3] rfl rfl rfl (ws' := wd_Md_takesCord cI a_t a_t_w a_t_wKept a_t_saved a_t_past a_t_input a_t_n a_t_order a_t_numbers a_t_output i_t_pastMany i_t_isSaved i_t_thrown i_t_inputMany i_t_lastError i_t_lastOffset q14.2.1 q14.2.2.1 q14.2.2.2.1 q14.2.2.2.2.1 q14.2.2.2.2.2.1 q14.2.2.2.2.2.2.1 q14.2.2.2.2.2.2.2.1 i_t_orders i_t_outputMany i_t_w i_t_input q14.2.2.2.2.2.2.2.2) rfl 0 11 rfl rfl rfl (st := []) rfl (Nat.le_of_ble_eq_true rfl) rd_Md_takesCord_14 ?_ ⟨Nat.le_refl _, Nat.le_refl _⟩
    refine jk_if_ne (tgt := 22) C rd_Md_takesCord_17 (by decide) hf (fun _ hf => ?_) (fun _ hf => ?_)
    · refine jk_aload_n C rd_Md_takesCord_22 (k := 0) rfl ?_
      refine jk_iload_n C rd_Md_takesCord_23 (k := 1) rfl ?_
      refine jk_aload_n C rd_Md_takesCord_24 (k := 0) rfl ?_
      refine jk_get C in_Md (ci := 11) rfl 0 (by decide) tm_1263 0 rfl rfl rd_Md_takesCord_25 ?_
      refine jk_iconst C rd_Md_takesCord_28 ?_
      refine jk_iald C 1 0 rfl rfl (Nat.le_of_ble_eq_true rfl) rd_Md_takesCord_29 hf (fun hf => ?_)
      refine jk_iconst C rd_Md_takesCord_30 ?_
      refine jk_isub C rd_Md_takesCord_31 ?_
      refine jk_iload_n C rd_Md_takesCord_32 (k := 2) rfl ?_
      refine jk_aload_n C rd_Md_takesCord_33 (k := 0) rfl ?_
      refine jk_get C in_Md (ci := 11) rfl 18 (by decide) tm_1281 0 rfl rfl rd_Md_takesCord_34 ?_
      refine jk_iconst C rd_Md_takesCord_37 ?_
      refine jk_iald C 3 0 rfl rfl (Nat.le_of_ble_eq_true rfl) rd_Md_takesCord_38 hf (fun hf => ?_)
      refine jk_aload_n C rd_Md_takesCord_39 (k := 0) rfl ?_
      refine jk_get C in_Md (ci := 11) rfl 18 (by decide) tm_1281 0 rfl rfl rd_Md_takesCord_40 ?_
      refine jk_iconst C rd_Md_takesCord_43 ?_
      refine jk_iald C 3 0 rfl rfl (Nat.le_of_ble_eq_true rfl) rd_Md_takesCord_44 hf (fun hf => ?_)
      obtain ⟨q45, hq45, hf⟩ := jk_bind_h hf
      refine jk_callVi C hZ.1 hz (ct_Md_inserts l D Z sq hZ cI cR a_t a_t_w a_t_wKept a_t_saved a_t_past a_t_input a_t_n a_t_order a_t_numbers a_t_output i_t_pastMany i_t_isSaved i_t_thrown i_t_inputMany i_t_lastError i_t_lastOffset q14.2.1 q14.2.2.1 q14.2.2.2.1 q14.2.2.2.2.1 q14.2.2.2.2.2.1 q14.2.2.2.2.2.2.1 q14.2.2.2.2.2.2.2.1 i_t_orders i_t_outputMany i_t_w x1 ((i_t_w 1) - 1) x2 (q14.2.2.2.2.2.2.2.2 1) (q14.2.2.2.2.2.2.2.2 2) q45 hq45) tm_1236 tm_1238 sl_21 tm_15 tm_1239 na_Md_inserts ⟨Nat.le_of_ble_eq_true rfl, Nat.le_of_ble_eq_true rfl⟩ rfl [0, 1] rfl rfl rfl (ws' := wd_Md_takesCord cI a_t a_t_w a_t_wKept a_t_saved a_t_past a_t_input a_t_n a_t_order a_t_numbers a_t_output i_t_pastMany i_t_isSaved i_t_thrown i_t_inputMany i_t_lastError i_t_lastOffset q14.2.1 q14.2.2.1 q14.2.2.2.1 q14.2.2.2.2.1 q14.2.2.2.2.2.1 q14.2.2.2.2.2.2.1 q14.2.2.2.2.2.2.2.1 i_t_orders i_t_outputMany q45.2 i_t_input q14.2.2.2.2.2.2.2.2) rfl 0 11 rfl rfl rfl (st := []) rfl (Nat.le_of_ble_eq_true rfl) rd_Md_takesCord_45 ?_ ⟨Nat.le_refl _, Nat.le_refl _⟩
      refine jk_istore_n C rd_Md_takesCord_48 (by decide) (lv' := [(3, jk_V q45.1), (0, .ref a_t), (1, jk_V x1), (2, jk_V x2)]) rfl ?_
      refine jk_aload_n C rd_Md_takesCord_49 (k := 1) rfl ?_
      refine jk_ldcs C hZ hz rd_Md_takesCord_50 (k := 33) rfl ?_
      obtain ⟨q52, hq52, hf⟩ := jk_bind_h hf
      refine jk_callVi C hZ.1 hz (ct_Md_isWord l D Z sq hZ cI cR a_t a_t_w a_t_wKept a_t_saved a_t_past a_t_input a_t_n a_t_order a_t_numbers a_t_output i_t_pastMany i_t_isSaved i_t_thrown i_t_inputMany i_t_lastError i_t_lastOffset q14.2.1 q14.2.2.1 q14.2.2.2.1 q14.2.2.2.2.1 q14.2.2.2.2.2.1 q14.2.2.2.2.2.2.1 q14.2.2.2.2.2.2.2.1 i_t_orders i_t_outputMany i_t_input ([110, 105, 98, 98, 108, 101, 100]) ((sq 33)) ((jk_zs hZ (k := 33) rfl)) q52 hq52) tm_1387 tm_1389 sl_34 tm_15 tm_1390 na_Md_isWord ⟨Nat.le_of_ble_eq_true rfl, Nat.le_of_ble_eq_true rfl⟩ rfl [0, 2] rfl rfl rfl (ws' := wd_Md_takesCord cI a_t a_t_w a_t_wKept a_t_saved a_t_past a_t_input a_t_n a_t_order a_t_numbers a_t_output i_t_pastMany i_t_isSaved i_t_thrown i_t_inputMany i_t_lastError i_t_lastOffset q14.2.1 q14.2.2.1 q14.2.2.2.1 q14.2.2.2.2.1 q14.2.2.2.2.2.1 q14.2.2.2.2.2.2.1 q14.2.2.2.2.2.2.2.1 i_t_orders i_t_outputMany q45.2 i_t_input q14.2.2.2.2.2.2.2.2) rfl 0 11 rfl rfl rfl (st := []) rfl (Nat.le_of_ble_eq_true rfl) rd_Md_takesCord_52 ?_ ⟨Nat.le_refl _, Nat.le_refl _⟩
      refine jk_if_eq (tgt := 87) C rd_Md_takesCord_55 (by decide) hf (fun _ hf => ?_) (fun _ hf => ?_)
      · refine jk_aload_n C rd_Md_takesCord_87 (k := 1) rfl ?_
        obtain ⟨q88, hq88, hf⟩ := jk_bind_h hf
        refine jk_callVi C hZ.1 hz (ct_Md_takesSemicolon l D Z sq hZ cI cR a_t a_t_w a_t_wKept a_t_saved a_t_past a_t_input a_t_n a_t_order a_t_numbers a_t_output i_t_pastMany i_t_isSaved i_t_thrown i_t_inputMany i_t_lastError i_t_lastOffset q14.2.1 q14.2.2.1 q14.2.2.2.1 q14.2.2.2.2.1 q14.2.2.2.2.2.1 q14.2.2.2.2.2.2.1 q14.2.2.2.2.2.2.2.1 i_t_orders i_t_outputMany i_t_input q88 hq88) tm_1413 tm_1415 sl_40 tm_15 tm_1416 na_Md_takesSemicolon ⟨Nat.le_of_ble_eq_true rfl, Nat.le_of_ble_eq_true rfl⟩ rfl [0, 2] rfl rfl rfl (ws' := wd_Md_takesCord cI a_t a_t_w a_t_wKept a_t_saved a_t_past a_t_input a_t_n a_t_order a_t_numbers a_t_output i_t_pastMany i_t_isSaved i_t_thrown i_t_inputMany i_t_lastError i_t_lastOffset q88.2.1 q88.2.2.1 q88.2.2.2.1 q88.2.2.2.2.1 q88.2.2.2.2.2.1 q88.2.2.2.2.2.2 q14.2.2.2.2.2.2.2.1 i_t_orders i_t_outputMany q45.2 i_t_input q14.2.2.2.2.2.2.2.2) rfl 0 11 rfl rfl rfl (st := []) rfl (Nat.le_of_ble_eq_true rfl) rd_Md_takesCord_88 ?_ ⟨Nat.le_refl _, Nat.le_refl _⟩
        obtain ⟨hbo, hf⟩ := jk_bo_h hf
        cases hf
        exact jk_zret C hbo rfl rd_Md_takesCord_91 rfl
      · refine jk_aload_n C rd_Md_takesCord_58 (k := 1) rfl ?_
        obtain ⟨q59, hq59, hf⟩ := jk_bind_h hf
        refine jk_callVv C hZ.1 hz (ct_Md_advanceToken l D Z sq hZ cI cR a_t a_t_w a_t_wKept a_t_saved a_t_past a_t_input a_t_n a_t_order a_t_numbers a_t_output i_t_pastMany i_t_isSaved i_t_thrown i_t_inputMany i_t_lastError i_t_lastOffset q14.2.1 q14.2.2.1 q14.2.2.2.1 q14.2.2.2.2.1 q14.2.2.2.2.2.1 q14.2.2.2.2.2.2.1 q14.2.2.2.2.2.2.2.1 i_t_orders i_t_outputMany i_t_input q59 hq59) tm_1366 tm_1368 sl_29 tm_15 tm_1369 na_Md_advanceToken ⟨Nat.le_of_ble_eq_true rfl, Nat.le_of_ble_eq_true rfl⟩ rfl [0, 2] rfl rfl rfl (ws' := wd_Md_takesCord cI a_t a_t_w a_t_wKept a_t_saved a_t_past a_t_input a_t_n a_t_order a_t_numbers a_t_output i_t_pastMany i_t_isSaved i_t_thrown i_t_inputMany i_t_lastError i_t_lastOffset q14.2.1 q14.2.2.1 q59.1 q59.2.1 q59.2.2.1 q59.2.2.2 q14.2.2.2.2.2.2.2.1 i_t_orders i_t_outputMany q45.2 i_t_input q14.2.2.2.2.2.2.2.2) rfl 0 11 rfl rfl rfl (st := []) rfl (Nat.le_of_ble_eq_true rfl) rd_Md_takesCord_59 ?_ ⟨Nat.le_refl _, Nat.le_refl _⟩
        refine jk_aload_n C rd_Md_takesCord_62 (k := 1) rfl ?_
        refine jk_iconst C rd_Md_takesCord_63 ?_
        refine jk_iconst C rd_Md_takesCord_64 ?_
        refine jk_iconst C rd_Md_takesCord_65 ?_
        obtain ⟨q66, hq66, hf⟩ := jk_bind_h hf
        refine jk_callVi C hZ.1 hz (ct_Md_takes l D Z sq hZ cI cR a_t a_t_w a_t_wKept a_t_saved a_t_past a_t_input a_t_n a_t_order a_t_numbers a_t_output i_t_pastMany i_t_isSaved i_t_thrown i_t_inputMany i_t_lastError i_t_lastOffset q14.2.1 q14.2.2.1 q59.1 q59.2.1 q59.2.2.1 q59.2.2.2 q14.2.2.2.2.2.2.2.1 i_t_orders i_t_outputMany i_t_input q14.2.2.2.2.2.2.2.2 0 1 4 q66 hq66) tm_1469 tm_1471 sl_53 tm_15 tm_1472 na_Md_takes ⟨Nat.le_of_ble_eq_true rfl, Nat.le_of_ble_eq_true rfl⟩ rfl [0, 2, 3] rfl rfl rfl (ws' := wd_Md_takesCord cI a_t a_t_w a_t_wKept a_t_saved a_t_past a_t_input a_t_n a_t_order a_t_numbers a_t_output i_t_pastMany i_t_isSaved i_t_thrown i_t_inputMany i_t_lastError i_t_lastOffset q66.2.1 q66.2.2.1 q66.2.2.2.1 q66.2.2.2.2.1 q66.2.2.2.2.2.1 q66.2.2.2.2.2.2.1 q66.2.2.2.2.2.2.2.1 i_t_orders i_t_outputMany q45.2 i_t_input q66.2.2.2.2.2.2.2.2) rfl 0 11 rfl rfl rfl (st := []) rfl (Nat.le_of_ble_eq_true rfl) rd_Md_takesCord_66 ?_ ⟨Nat.le_refl _, Nat.le_refl _⟩
        refine jk_if_ne (tgt := 74) C rd_Md_takesCord_69 (by decide) hf (fun _ hf => ?_) (fun _ hf => ?_)
        · refine jk_aload_n C rd_Md_takesCord_74 (k := 1) rfl ?_
          refine jk_iload_n C rd_Md_takesCord_75 (k := 0) rfl ?_
          refine jk_aload_n C rd_Md_takesCord_76 (k := 1) rfl ?_
          refine jk_get C in_Md (ci := 11) rfl 18 (by decide) tm_1281 0 rfl rfl rd_Md_takesCord_77 ?_
          refine jk_iconst C rd_Md_takesCord_80 ?_
          refine jk_iald C 3 0 rfl rfl (Nat.le_of_ble_eq_true rfl) rd_Md_takesCord_81 hf (fun hf => ?_)
          obtain ⟨q82, hq82, hf⟩ := jk_bind_h hf
          refine jk_callVi C hZ.1 hz (ct_Md_loses l D Z sq hZ cI cR a_t a_t_w a_t_wKept a_t_saved a_t_past a_t_input a_t_n a_t_order a_t_numbers a_t_output i_t_pastMany i_t_isSaved i_t_thrown i_t_inputMany i_t_lastError i_t_lastOffset q66.2.1 q66.2.2.1 q66.2.2.2.1 q66.2.2.2.2.1 q66.2.2.2.2.2.1 q66.2.2.2.2.2.2.1 q66.2.2.2.2.2.2.2.1 i_t_orders i_t_outputMany q45.2 q45.1 (q66.2.2.2.2.2.2.2.2 0) q82 hq82) tm_1244 tm_1246 sl_23 tm_15 tm_1247 na_Md_loses ⟨Nat.le_of_ble_eq_true rfl, Nat.le_of_ble_eq_true rfl⟩ rfl [0, 1] rfl rfl rfl (ws' := wd_Md_takesCord cI a_t a_t_w a_t_wKept a_t_saved a_t_past a_t_input a_t_n a_t_order a_t_numbers a_t_output i_t_pastMany i_t_isSaved i_t_thrown i_t_inputMany i_t_lastError i_t_lastOffset q66.2.1 q66.2.2.1 q66.2.2.2.1 q66.2.2.2.2.1 q66.2.2.2.2.2.1 q66.2.2.2.2.2.2.1 q66.2.2.2.2.2.2.2.1 i_t_orders i_t_outputMany q82.2 i_t_input q66.2.2.2.2.2.2.2.2) rfl 0 11 rfl rfl rfl (st := []) rfl (Nat.le_of_ble_eq_true rfl) rd_Md_takesCord_82 ?_ ⟨Nat.le_refl _, Nat.le_refl _⟩
          refine jk_istore C rd_Md_takesCord_85 (by decide) (lv' := [(4, jk_V q82.1), (3, jk_V q45.1), (0, .ref a_t), (1, jk_V x1), (2, jk_V x2)]) rfl ?_
          refine jk_aload_n C rd_Md_takesCord_87 (k := 2) rfl ?_
          obtain ⟨q88, hq88, hf⟩ := jk_bind_h hf
          refine jk_callVi C hZ.1 hz (ct_Md_takesSemicolon l D Z sq hZ cI cR a_t a_t_w a_t_wKept a_t_saved a_t_past a_t_input a_t_n a_t_order a_t_numbers a_t_output i_t_pastMany i_t_isSaved i_t_thrown i_t_inputMany i_t_lastError i_t_lastOffset q66.2.1 q66.2.2.1 q66.2.2.2.1 q66.2.2.2.2.1 q66.2.2.2.2.2.1 q66.2.2.2.2.2.2.1 q66.2.2.2.2.2.2.2.1 i_t_orders i_t_outputMany i_t_input q88 hq88) tm_1413 tm_1415 sl_40 tm_15 tm_1416 na_Md_takesSemicolon ⟨Nat.le_of_ble_eq_true rfl, Nat.le_of_ble_eq_true rfl⟩ rfl [0, 2] rfl rfl rfl (ws' := wd_Md_takesCord cI a_t a_t_w a_t_wKept a_t_saved a_t_past a_t_input a_t_n a_t_order a_t_numbers a_t_output i_t_pastMany i_t_isSaved i_t_thrown i_t_inputMany i_t_lastError i_t_lastOffset q88.2.1 q88.2.2.1 q88.2.2.2.1 q88.2.2.2.2.1 q88.2.2.2.2.2.1 q88.2.2.2.2.2.2 q66.2.2.2.2.2.2.2.1 i_t_orders i_t_outputMany q82.2 i_t_input q66.2.2.2.2.2.2.2.2) rfl 0 11 rfl rfl rfl (st := []) rfl (Nat.le_of_ble_eq_true rfl) rd_Md_takesCord_88 ?_ ⟨Nat.le_refl _, Nat.le_refl _⟩
          obtain ⟨hbo, hf⟩ := jk_bo_h hf
          cases hf
          exact jk_zret C hbo rfl rd_Md_takesCord_91 rfl
        · refine jk_iconst C rd_Md_takesCord_72 ?_
          cases hf
          exact jk_zret C (Or.inl rfl) rfl rd_Md_takesCord_73 rfl
    · refine jk_iconst C rd_Md_takesCord_20 ?_
      cases hf
      exact jk_zret C (Or.inl rfl) rfl rd_Md_takesCord_21 rfl
def wd_Md_latest (cI : ClassId) (a_t a_t_w a_t_wKept a_t_saved a_t_past a_t_input a_t_n a_t_order a_t_numbers a_t_output : Nat) (i_t_pastMany : Int) (i_t_isSaved : Int) (i_t_thrown : Int) (i_t_inputMany : Int) (i_t_lastError : Int) (i_t_lastOffset : Int) (i_t_error : Int) (i_t_offset : Int) (i_t_nextByte : Int) (i_t_begin : Int) (i_t_value : Int) (i_t_token : Int) (i_t_got : Int) (i_t_orders : Int) (i_t_outputMany : Int) (i_t_w : (Int → Int)) : va_W := [(a_t, .inr (11, [.ref a_t_w, .ref a_t_wKept, .ref a_t_saved, .ref a_t_past, jk_V i_t_pastMany, jk_V i_t_isSaved, jk_V i_t_thrown, .ref a_t_input, jk_V i_t_inputMany, jk_V i_t_lastError, jk_V i_t_lastOffset, jk_V i_t_error, jk_V i_t_offset, jk_V i_t_nextByte, jk_V i_t_begin, jk_V i_t_value, jk_V i_t_token, jk_V i_t_got, .ref a_t_n, .ref a_t_order, .ref a_t_numbers, jk_V i_t_orders, .ref a_t_output, jk_V i_t_outputMany])), (a_t_w, jk_W cI 259 i_t_w)]
set_option maxHeartbeats 4000000 in
set_option maxRecDepth 20000 in
theorem ct_Md_latest (l : Launch) (D : va_G) (Z : (Nat → Prop) → State → Heap → Prop) (sq : Nat → Nat) (hZ : jk_ZK Z sq) (cI cR : ClassId) (a_t a_t_w a_t_wKept a_t_saved a_t_past a_t_input a_t_n a_t_order a_t_numbers a_t_output : Nat) (i_t_pastMany : Int) (i_t_isSaved : Int) (i_t_thrown : Int) (i_t_inputMany : Int) (i_t_lastError : Int) (i_t_lastOffset : Int) (i_t_error : Int) (i_t_offset : Int) (i_t_nextByte : Int) (i_t_begin : Int) (i_t_value : Int) (i_t_token : Int) (i_t_got : Int) (i_t_orders : Int) (i_t_outputMany : Int) (i_t_w : (Int → Int)) (x1 : Int) (q : Int) (hf : fn_Md_latest i_t_w x1 = some q) : jk_MI l D jk_cl (jk_ty cI cR) Z mn_Md_latest (.code mn_Md_latest mb_Md_latest 4 (some .int) :: jk_WA) (jk_rm 2 44) [.ref a_t, jk_V x1] (wd_Md_latest cI a_t a_t_w a_t_wKept a_t_saved a_t_past a_t_input a_t_n a_t_order a_t_numbers a_t_output i_t_pastMany i_t_isSaved i_t_thrown i_t_inputMany i_t_lastError i_t_lastOffset i_t_error i_t_offset i_t_nextByte i_t_begin i_t_value i_t_token i_t_got i_t_orders i_t_outputMany i_t_w) (wd_Md_latest cI a_t a_t_w a_t_wKept a_t_saved a_t_past a_t_input a_t_n a_t_order a_t_numbers a_t_output i_t_pastMany i_t_isSaved i_t_thrown i_t_inputMany i_t_lastError i_t_lastOffset i_t_error i_t_offset i_t_nextByte i_t_begin i_t_value i_t_token i_t_got i_t_orders i_t_outputMany i_t_w) q := by
  intro sz
  refine jk_body (by decide +kernel) (fun p e s m args below meth c hsz hz hin C => ?_) (Nat.le_of_ble_eq_true rfl)
  subst hsz
  unfold fn_Md_latest at hf
  have bk_15 : ∀ (n : Nat) (v1 : Int) (v2 : Int) (v3 : Int), fn_Md_latest_b15 n i_t_w v1 v2 v3 = some q → jk_J p l e (jk_rm 2 44) s m args below meth c 0 0 (jk_QI below D jk_cl (jk_ty cI cR) (wd_Md_latest cI a_t a_t_w a_t_wKept a_t_saved a_t_past a_t_input a_t_n a_t_order a_t_numbers a_t_output i_t_pastMany i_t_isSaved i_t_thrown i_t_inputMany i_t_lastError i_t_lastOffset i_t_error i_t_offset i_t_nextByte i_t_begin i_t_value i_t_token i_t_got i_t_orders i_t_outputMany i_t_w) (wd_Md_latest cI a_t a_t_w a_t_wKept a_t_saved a_t_past a_t_input a_t_n a_t_order a_t_numbers a_t_output i_t_pastMany i_t_isSaved i_t_thrown i_t_inputMany i_t_lastError i_t_lastOffset i_t_error i_t_offset i_t_nextByte i_t_begin i_t_value i_t_token i_t_got i_t_orders i_t_outputMany i_t_w) args s q) D jk_cl (va_A (wd_Md_latest cI a_t a_t_w a_t_wKept a_t_saved a_t_past a_t_input a_t_n a_t_order a_t_numbers a_t_output i_t_pastMany i_t_isSaved i_t_thrown i_t_inputMany i_t_lastError i_t_lastOffset i_t_error i_t_offset i_t_nextByte i_t_begin i_t_value i_t_token i_t_got i_t_orders i_t_outputMany i_t_w) s.heap.size) 4 (wd_Md_latest cI a_t a_t_w a_t_wKept a_t_saved a_t_past a_t_input a_t_n a_t_order a_t_numbers a_t_output i_t_pastMany i_t_isSaved i_t_thrown i_t_inputMany i_t_lastError i_t_lastOffset i_t_error i_t_offset i_t_nextByte i_t_begin i_t_value i_t_token i_t_got i_t_orders i_t_outputMany i_t_w) [(0, .ref a_t), (1, jk_V v1), (2, jk_V v2), (3, jk_V v3)] 15 [] := by
    intro n
    induction n with
    | zero => intro v1 v2 v3 hf; exact nomatch (show none = some q from hf)
    | succ n ih =>
      intro v1 v2 v3 hf
      rw [fn_Md_latest_b15] at hf
      refine jk_iload_n C rd_Md_latest_15 (k := 3) rfl ?_
      refine jk_aload_n C rd_Md_latest_16 (k := 0) rfl ?_
      refine jk_get C in_Md (ci := 11) rfl 0 (by decide) tm_1263 0 rfl rfl rd_Md_latest_17 ?_
      refine jk_iconst C rd_Md_latest_20 ?_
      refine jk_iald C 1 0 rfl rfl (Nat.le_of_ble_eq_true rfl) rd_Md_latest_21 hf (fun hf => ?_)
      refine jk_icmp_ge (tgt := 43) C rd_Md_latest_22 (by decide) hf (fun _ hf => ?_) (fun _ hf => ?_)
      · refine jk_iload_n C rd_Md_latest_43 (k := 2) rfl ?_
        cases hf
        exact jk_iret C rfl rd_Md_latest_44 rfl
      · refine jk_aload_n C rd_Md_latest_25 (k := 0) rfl ?_
        refine jk_iload_n C rd_Md_latest_26 (k := 3) rfl ?_
        refine jk_iconst C rd_Md_latest_27 ?_
        obtain ⟨q28, hq28, hf⟩ := jk_bind_h hf
        refine jk_callVi C hZ.1 hz (ct_Md_of l D Z sq hZ cI cR a_t a_t_w a_t_wKept a_t_saved a_t_past a_t_input a_t_n a_t_order a_t_numbers a_t_output i_t_pastMany i_t_isSaved i_t_thrown i_t_inputMany i_t_lastError i_t_lastOffset i_t_error i_t_offset i_t_nextByte i_t_begin i_t_value i_t_token i_t_got i_t_orders i_t_outputMany i_t_w v3 1 q28 hq28) tm_1256 tm_1258 sl_26 tm_15 tm_1259 na_Md_of ⟨Nat.le_of_ble_eq_true rfl, Nat.le_of_ble_eq_true rfl⟩ rfl [0, 1] rfl rfl rfl (ws' := wd_Md_latest cI a_t a_t_w a_t_wKept a_t_saved a_t_past a_t_input a_t_n a_t_order a_t_numbers a_t_output i_t_pastMany i_t_isSaved i_t_thrown i_t_inputMany i_t_lastError i_t_lastOffset i_t_error i_t_offset i_t_nextByte i_t_begin i_t_value i_t_token i_t_got i_t_orders i_t_outputMany i_t_w) rfl 0 11 rfl rfl rfl (st := []) rfl (Nat.le_of_ble_eq_true rfl) rd_Md_latest_28 ?_ ⟨Nat.le_refl _, Nat.le_refl _⟩
        refine jk_iload_n C rd_Md_latest_31 (k := 1) rfl ?_
        refine jk_icmp_ne (tgt := 37) C rd_Md_latest_32 (by decide) hf (fun _ hf => ?_) (fun _ hf => ?_)
        · refine jk_iinc C rd_Md_latest_37 (k := 3) rfl (by decide) (lv' := [(3, jk_V (v3 + 1)), (0, .ref a_t), (1, jk_V v1), (2, jk_V v2)]) rfl ?_
          refine jk_goto (tgt := 15) C rd_Md_latest_40 (by decide) ?_
          refine jk_lv (lv' := [(0, .ref a_t), (1, jk_V v1), (2, jk_V v2), (3, jk_V (v3 + 1))]) [1, 2, 3, 0] rfl ?_
          exact ih v1 v2 (v3 + 1) hf
        · refine jk_iload_n C rd_Md_latest_35 (k := 3) rfl ?_
          refine jk_istore_n C rd_Md_latest_36 (by decide) (lv' := [(2, jk_V v3), (0, .ref a_t), (1, jk_V v1), (3, jk_V v3)]) rfl ?_
          refine jk_iinc C rd_Md_latest_37 (k := 3) rfl (by decide) (lv' := [(3, jk_V (v3 + 1)), (2, jk_V v3), (0, .ref a_t), (1, jk_V v1)]) rfl ?_
          refine jk_goto (tgt := 15) C rd_Md_latest_40 (by decide) ?_
          refine jk_lv (lv' := [(0, .ref a_t), (1, jk_V v1), (2, jk_V v3), (3, jk_V (v3 + 1))]) [2, 3, 1, 0] rfl ?_
          exact ih v1 v3 (v3 + 1) hf
  refine jk_iconst C rd_Md_latest_0 ?_
  refine jk_istore_n C rd_Md_latest_1 (by decide) (lv' := [(2, jk_V ((-1))), (0, .ref a_t), (1, jk_V x1)]) rfl ?_
  refine jk_aload_n C rd_Md_latest_2 (k := 1) rfl ?_
  refine jk_aload_n C rd_Md_latest_3 (k := 1) rfl ?_
  refine jk_get C in_Md (ci := 11) rfl 0 (by decide) tm_1263 0 rfl rfl rd_Md_latest_4 ?_
  refine jk_iconst C rd_Md_latest_7 ?_
  refine jk_iald C 1 0 rfl rfl (Nat.le_of_ble_eq_true rfl) rd_Md_latest_8 hf (fun hf => ?_)
  refine jk_iconst C rd_Md_latest_9 ?_
  refine jk_isub C rd_Md_latest_10 ?_
  obtain ⟨q11, hq11, hf⟩ := jk_bind_h hf
  refine jk_callVi C hZ.1 hz (ct_Md_first l D Z sq hZ cI cR a_t a_t_w a_t_wKept a_t_saved a_t_past a_t_input a_t_n a_t_order a_t_numbers a_t_output i_t_pastMany i_t_isSaved i_t_thrown i_t_inputMany i_t_lastError i_t_lastOffset i_t_error i_t_offset i_t_nextByte i_t_begin i_t_value i_t_token i_t_got i_t_orders i_t_outputMany i_t_w ((i_t_w 1) - 1) q11 hq11) tm_1433 tm_1435 sl_44 tm_15 tm_1436 na_Md_first ⟨Nat.le_of_ble_eq_true rfl, Nat.le_of_ble_eq_true rfl⟩ rfl [0, 1] rfl rfl rfl (ws' := wd_Md_latest cI a_t a_t_w a_t_wKept a_t_saved a_t_past a_t_input a_t_n a_t_order a_t_numbers a_t_output i_t_pastMany i_t_isSaved i_t_thrown i_t_inputMany i_t_lastError i_t_lastOffset i_t_error i_t_offset i_t_nextByte i_t_begin i_t_value i_t_token i_t_got i_t_orders i_t_outputMany i_t_w) rfl 0 11 rfl rfl rfl (st := []) rfl (Nat.le_of_ble_eq_true rfl) rd_Md_latest_11 ?_ ⟨Nat.le_refl _, Nat.le_refl _⟩
  refine jk_istore_n C rd_Md_latest_14 (by decide) (lv' := [(3, jk_V q11), (2, jk_V ((-1))), (0, .ref a_t), (1, jk_V x1)]) rfl ?_
  refine jk_lv (lv' := [(0, .ref a_t), (1, jk_V x1), (2, jk_V ((-1))), (3, jk_V q11)]) [2, 3, 1, 0] rfl ?_
  exact bk_15 jk_F x1 ((-1)) q11 hf
def wd_Md_readSub (cI : ClassId) (a_t a_t_w a_t_wKept a_t_saved a_t_past a_t_input a_t_n a_t_order a_t_numbers a_t_output : Nat) (i_t_pastMany : Int) (i_t_isSaved : Int) (i_t_thrown : Int) (i_t_inputMany : Int) (i_t_lastError : Int) (i_t_lastOffset : Int) (i_t_error : Int) (i_t_offset : Int) (i_t_nextByte : Int) (i_t_begin : Int) (i_t_value : Int) (i_t_token : Int) (i_t_got : Int) (i_t_orders : Int) (i_t_outputMany : Int) (i_t_w : (Int → Int)) (i_t_input : (Int → Int)) (i_t_n : (Int → Int)) : va_W := [(a_t, .inr (11, [.ref a_t_w, .ref a_t_wKept, .ref a_t_saved, .ref a_t_past, jk_V i_t_pastMany, jk_V i_t_isSaved, jk_V i_t_thrown, .ref a_t_input, jk_V i_t_inputMany, jk_V i_t_lastError, jk_V i_t_lastOffset, jk_V i_t_error, jk_V i_t_offset, jk_V i_t_nextByte, jk_V i_t_begin, jk_V i_t_value, jk_V i_t_token, jk_V i_t_got, .ref a_t_n, .ref a_t_order, .ref a_t_numbers, jk_V i_t_orders, .ref a_t_output, jk_V i_t_outputMany])), (a_t_w, jk_W cI 259 i_t_w), (a_t_input, jk_W cI 700 i_t_input), (a_t_n, jk_W cI 3 i_t_n)]
set_option maxHeartbeats 4000000 in
set_option maxRecDepth 20000 in
theorem ct_Md_readSub (l : Launch) (D : va_G) (Z : (Nat → Prop) → State → Heap → Prop) (sq : Nat → Nat) (hZ : jk_ZK Z sq) (cI cR : ClassId) (a_t a_t_w a_t_wKept a_t_saved a_t_past a_t_input a_t_n a_t_order a_t_numbers a_t_output : Nat) (i_t_pastMany : Int) (i_t_isSaved : Int) (i_t_thrown : Int) (i_t_inputMany : Int) (i_t_lastError : Int) (i_t_lastOffset : Int) (i_t_error : Int) (i_t_offset : Int) (i_t_nextByte : Int) (i_t_begin : Int) (i_t_value : Int) (i_t_token : Int) (i_t_got : Int) (i_t_orders : Int) (i_t_outputMany : Int) (i_t_w : (Int → Int)) (i_t_input : (Int → Int)) (i_t_n : (Int → Int)) (q : Int × (Int → Int) × Int × Int × Int × Int × Int × Int × Int × (Int → Int)) (hf : fn_Md_readSub i_t_w i_t_input i_t_inputMany i_t_error i_t_offset i_t_nextByte i_t_begin i_t_value i_t_token i_t_got i_t_n = some q) : jk_MI l D jk_cl (jk_ty cI cR) Z mn_Md_readSub (.code mn_Md_readSub mb_Md_readSub 3 (some .boolean) :: jk_WA) (jk_rm 8 346) [.ref a_t] (wd_Md_readSub cI a_t a_t_w a_t_wKept a_t_saved a_t_past a_t_input a_t_n a_t_order a_t_numbers a_t_output i_t_pastMany i_t_isSaved i_t_thrown i_t_inputMany i_t_lastError i_t_lastOffset i_t_error i_t_offset i_t_nextByte i_t_begin i_t_value i_t_token i_t_got i_t_orders i_t_outputMany i_t_w i_t_input i_t_n) (wd_Md_readSub cI a_t a_t_w a_t_wKept a_t_saved a_t_past a_t_input a_t_n a_t_order a_t_numbers a_t_output i_t_pastMany i_t_isSaved i_t_thrown i_t_inputMany i_t_lastError i_t_lastOffset q.2.2.1 q.2.2.2.1 q.2.2.2.2.1 q.2.2.2.2.2.1 q.2.2.2.2.2.2.1 q.2.2.2.2.2.2.2.1 q.2.2.2.2.2.2.2.2.1 i_t_orders i_t_outputMany q.2.1 i_t_input q.2.2.2.2.2.2.2.2.2) q.1 := by
  intro sz
  refine jk_body (by decide +kernel) (fun p e s m args below meth c hsz hz hin C => ?_) (Nat.le_of_ble_eq_true rfl)
  subst hsz
  unfold fn_Md_readSub at hf
  refine jk_aload_n C rd_Md_readSub_0 (k := 0) rfl ?_
  obtain ⟨q1, hq1, hf⟩ := jk_bind_h hf
  refine jk_callVv C hZ.1 hz (ct_Md_advanceToken l D Z sq hZ cI cR a_t a_t_w a_t_wKept a_t_saved a_t_past a_t_input a_t_n a_t_order a_t_numbers a_t_output i_t_pastMany i_t_isSaved i_t_thrown i_t_inputMany i_t_lastError i_t_lastOffset i_t_error i_t_offset i_t_nextByte i_t_begin i_t_value i_t_token i_t_got i_t_orders i_t_outputMany i_t_input q1 hq1) tm_1366 tm_1368 sl_29 tm_15 tm_1369 na_Md_advanceToken ⟨Nat.le_of_ble_eq_true rfl, Nat.le_of_ble_eq_true rfl⟩ rfl [0, 2] rfl rfl rfl (ws' := wd_Md_readSub cI a_t a_t_w a_t_wKept a_t_saved a_t_past a_t_input a_t_n a_t_order a_t_numbers a_t_output i_t_pastMany i_t_isSaved i_t_thrown i_t_inputMany i_t_lastError i_t_lastOffset i_t_error i_t_offset q1.1 q1.2.1 q1.2.2.1 q1.2.2.2 i_t_got i_t_orders i_t_outputMany i_t_w i_t_input i_t_n) rfl 0 11 rfl rfl rfl (st := []) rfl (Nat.le_of_ble_eq_true rfl) rd_Md_readSub_1 ?_ ⟨Nat.le_refl _, Nat.le_refl _⟩
  refine jk_aload_n C rd_Md_readSub_4 (k := 0) rfl ?_
  refine jk_iconst C rd_Md_readSub_5 ?_
  refine jk_iconst C rd_Md_readSub_6 ?_
  obtain ⟨q7, hq7, hf⟩ := jk_bind_h hf
  refine jk_callVi C hZ.1 hz (ct_Md_seesNumber l D Z sq hZ cI cR a_t a_t_w a_t_wKept a_t_saved a_t_past a_t_input a_t_n a_t_order a_t_numbers a_t_output i_t_pastMany i_t_isSaved i_t_thrown i_t_inputMany i_t_lastError i_t_lastOffset i_t_error i_t_offset q1.1 q1.2.1 q1.2.2.1 q1.2.2.2 i_t_got i_t_orders i_t_outputMany 2 3 q7 hq7) tm_1449 tm_1451 sl_48 tm_15 tm_1452 na_Md_seesNumber ⟨Nat.le_of_ble_eq_true rfl, Nat.le_of_ble_eq_true rfl⟩ rfl [0] rfl rfl rfl (ws' := wd_Md_readSub cI a_t a_t_w a_t_wKept a_t_saved a_t_past a_t_input a_t_n a_t_order a_t_numbers a_t_output i_t_pastMany i_t_isSaved i_t_thrown i_t_inputMany i_t_lastError i_t_lastOffset q7.2.1 q7.2.2.1 q1.1 q1.2.1 q1.2.2.1 q1.2.2.2 q7.2.2.2 i_t_orders i_t_outputMany i_t_w i_t_input i_t_n) rfl 0 11 rfl rfl rfl (st := []) rfl (Nat.le_of_ble_eq_true rfl) rd_Md_readSub_7 ?_ ⟨Nat.le_refl _, Nat.le_refl _⟩
  refine jk_if_ne (tgt := 15) C rd_Md_readSub_10 (by decide) hf (fun _ hf => ?_) (fun _ hf => ?_)
  · refine jk_aload_n C rd_Md_readSub_15 (k := 0) rfl ?_
    refine jk_get C in_Md (ci := 11) rfl 17 (by decide) tm_1280 0 rfl rfl rd_Md_readSub_16 ?_
    refine jk_istore_n C rd_Md_readSub_19 (by decide) (lv' := [(1, jk_V q7.2.2.2), (0, .ref a_t)]) rfl ?_
    refine jk_aload_n C rd_Md_readSub_20 (k := 1) rfl ?_
    refine jk_iload_n C rd_Md_readSub_21 (k := 0) rfl ?_
    refine jk_iconst C rd_Md_readSub_22 ?_
    refine jk_isub C rd_Md_readSub_23 ?_
    obtain ⟨q24, hq24, hf⟩ := jk_bind_h hf
    refine jk_callVi C hZ.1 hz (ct_Md_latest l D Z sq hZ cI cR a_t a_t_w a_t_wKept a_t_saved a_t_past a_t_input a_t_n a_t_order a_t_numbers a_t_output i_t_pastMany i_t_isSaved i_t_thrown i_t_inputMany i_t_lastError i_t_lastOffset q7.2.1 q7.2.2.1 q1.1 q1.2.1 q1.2.2.1 q1.2.2.2 q7.2.2.2 i_t_orders i_t_outputMany i_t_w (q7.2.2.2 - 1) q24 hq24) tm_1453 tm_1455 sl_49 tm_15 tm_1456 na_Md_latest ⟨Nat.le_of_ble_eq_true rfl, Nat.le_of_ble_eq_true rfl⟩ rfl [0, 1] rfl rfl rfl (ws' := wd_Md_readSub cI a_t a_t_w a_t_wKept a_t_saved a_t_past a_t_input a_t_n a_t_order a_t_numbers a_t_output i_t_pastMany i_t_isSaved i_t_thrown i_t_inputMany i_t_lastError i_t_lastOffset q7.2.1 q7.2.2.1 q1.1 q1.2.1 q1.2.2.1 q1.2.2.2 q7.2.2.2 i_t_orders i_t_outputMany i_t_w i_t_input i_t_n) rfl 0 11 rfl rfl rfl (st := []) rfl (Nat.le_of_ble_eq_true rfl) rd_Md_readSub_24 ?_ ⟨Nat.le_refl _, Nat.le_refl _⟩
    refine jk_istore_n C rd_Md_readSub_27 (by decide) (lv' := [(2, jk_V q24), (1, jk_V q7.2.2.2), (0, .ref a_t)]) rfl ?_
    refine jk_iload_n C rd_Md_readSub_28 (k := 0) rfl ?_
    refine jk_iconst C rd_Md_readSub_29 ?_
    refine jk_icmp_ne (tgt := 39) C rd_Md_readSub_30 (by decide) hf (fun _ hf => ?_) (fun _ hf => ?_)
    · refine jk_aload_n C rd_Md_readSub_39 (k := 2) rfl ?_
      obtain ⟨q40, hq40, hf⟩ := jk_bind_h hf
      refine jk_callVv C hZ.1 hz (ct_Md_advanceToken l D Z sq hZ cI cR a_t a_t_w a_t_wKept a_t_saved a_t_past a_t_input a_t_n a_t_order a_t_numbers a_t_output i_t_pastMany i_t_isSaved i_t_thrown i_t_inputMany i_t_lastError i_t_lastOffset q7.2.1 q7.2.2.1 q1.1 q1.2.1 q1.2.2.1 q1.2.2.2 q7.2.2.2 i_t_orders i_t_outputMany i_t_input q40 hq40) tm_1366 tm_1368 sl_29 tm_15 tm_1369 na_Md_advanceToken ⟨Nat.le_of_ble_eq_true rfl, Nat.le_of_ble_eq_true rfl⟩ rfl [0, 2] rfl rfl rfl (ws' := wd_Md_readSub cI a_t a_t_w a_t_wKept a_t_saved a_t_past a_t_input a_t_n a_t_order a_t_numbers a_t_output i_t_pastMany i_t_isSaved i_t_thrown i_t_inputMany i_t_lastError i_t_lastOffset q7.2.1 q7.2.2.1 q40.1 q40.2.1 q40.2.2.1 q40.2.2.2 q7.2.2.2 i_t_orders i_t_outputMany i_t_w i_t_input i_t_n) rfl 0 11 rfl rfl rfl (st := []) rfl (Nat.le_of_ble_eq_true rfl) rd_Md_readSub_40 ?_ ⟨Nat.le_refl _, Nat.le_refl _⟩
      refine jk_aload_n C rd_Md_readSub_43 (k := 2) rfl ?_
      refine jk_aload_n C rd_Md_readSub_44 (k := 2) rfl ?_
      refine jk_iload_n C rd_Md_readSub_45 (k := 0) rfl ?_
      obtain ⟨q46, hq46, hf⟩ := jk_bind_h hf
      refine jk_callVi C hZ.1 hz (ct_Md_behind l D Z sq hZ cI cR a_t a_t_w a_t_wKept a_t_saved a_t_past a_t_input a_t_n a_t_order a_t_numbers a_t_output i_t_pastMany i_t_isSaved i_t_thrown i_t_inputMany i_t_lastError i_t_lastOffset q7.2.1 q7.2.2.1 q40.1 q40.2.1 q40.2.2.1 q40.2.2.2 q7.2.2.2 i_t_orders i_t_outputMany i_t_w q24 q46 hq46) tm_1457 tm_1459 sl_50 tm_15 tm_1460 na_Md_behind ⟨Nat.le_of_ble_eq_true rfl, Nat.le_of_ble_eq_true rfl⟩ rfl [0, 1] rfl rfl rfl (ws' := wd_Md_readSub cI a_t a_t_w a_t_wKept a_t_saved a_t_past a_t_input a_t_n a_t_order a_t_numbers a_t_output i_t_pastMany i_t_isSaved i_t_thrown i_t_inputMany i_t_lastError i_t_lastOffset q7.2.1 q7.2.2.1 q40.1 q40.2.1 q40.2.2.1 q40.2.2.2 q7.2.2.2 i_t_orders i_t_outputMany i_t_w i_t_input i_t_n) rfl 0 11 rfl rfl rfl (st := [.ref a_t]) rfl (Nat.le_of_ble_eq_true rfl) rd_Md_readSub_46 ?_ ⟨Nat.le_refl _, Nat.le_refl _⟩
      refine jk_iload_n C rd_Md_readSub_49 (k := 1) rfl ?_
      obtain ⟨q50, hq50, hf⟩ := jk_bind_h hf
      refine jk_callVi C hZ.1 hz (ct_Md_takesCord l D Z sq hZ cI cR a_t a_t_w a_t_wKept a_t_saved a_t_past a_t_input a_t_n a_t_order a_t_numbers a_t_output i_t_pastMany i_t_isSaved i_t_thrown i_t_inputMany i_t_lastError i_t_lastOffset q7.2.1 q7.2.2.1 q40.1 q40.2.1 q40.2.2.1 q40.2.2.2 q7.2.2.2 i_t_orders i_t_outputMany i_t_w i_t_input i_t_n q46 q7.2.2.2 q50 hq50) tm_1461 tm_1463 sl_51 tm_15 tm_1464 na_Md_takesCord ⟨Nat.le_of_ble_eq_true rfl, Nat.le_of_ble_eq_true rfl⟩ rfl [0, 1, 2, 3] rfl rfl rfl (ws' := wd_Md_readSub cI a_t a_t_w a_t_wKept a_t_saved a_t_past a_t_input a_t_n a_t_order a_t_numbers a_t_output i_t_pastMany i_t_isSaved i_t_thrown i_t_inputMany i_t_lastError i_t_lastOffset q50.2.2.1 q50.2.2.2.1 q50.2.2.2.2.1 q50.2.2.2.2.2.1 q50.2.2.2.2.2.2.1 q50.2.2.2.2.2.2.2.1 q50.2.2.2.2.2.2.2.2.1 i_t_orders i_t_outputMany q50.2.1 i_t_input q50.2.2.2.2.2.2.2.2.2) rfl 0 11 rfl rfl rfl (st := []) rfl (Nat.le_of_ble_eq_true rfl) rd_Md_readSub_50 ?_ ⟨Nat.le_refl _, Nat.le_refl _⟩
      obtain ⟨hbo, hf⟩ := jk_bo_h hf
      cases hf
      exact jk_zret C hbo rfl rd_Md_readSub_53 rfl
    · refine jk_aload_n C rd_Md_readSub_33 (k := 2) rfl ?_
      refine jk_iconst C rd_Md_readSub_34 ?_
      obtain ⟨q35, hq35, hf⟩ := jk_bind_h hf
      refine jk_callVi C hZ.1 hz (ct_Md_failsAt l D Z sq hZ cI cR a_t a_t_w a_t_wKept a_t_saved a_t_past a_t_input a_t_n a_t_order a_t_numbers a_t_output i_t_pastMany i_t_isSaved i_t_thrown i_t_inputMany i_t_lastError i_t_lastOffset q7.2.1 q7.2.2.1 q1.1 q1.2.1 q1.2.2.1 q1.2.2.2 q7.2.2.2 i_t_orders i_t_outputMany 5 q35 hq35) tm_1397 tm_1399 sl_36 tm_15 tm_1400 na_Md_failsAt ⟨Nat.le_of_ble_eq_true rfl, Nat.le_of_ble_eq_true rfl⟩ rfl [0] rfl rfl rfl (ws' := wd_Md_readSub cI a_t a_t_w a_t_wKept a_t_saved a_t_past a_t_input a_t_n a_t_order a_t_numbers a_t_output i_t_pastMany i_t_isSaved i_t_thrown i_t_inputMany i_t_lastError i_t_lastOffset q35.2.1 q35.2.2 q1.1 q1.2.1 q1.2.2.1 q1.2.2.2 q7.2.2.2 i_t_orders i_t_outputMany i_t_w i_t_input i_t_n) rfl 0 11 rfl rfl rfl (st := []) rfl (Nat.le_of_ble_eq_true rfl) rd_Md_readSub_35 ?_ ⟨Nat.le_refl _, Nat.le_refl _⟩
      obtain ⟨hbo, hf⟩ := jk_bo_h hf
      cases hf
      exact jk_zret C hbo rfl rd_Md_readSub_38 rfl
  · refine jk_iconst C rd_Md_readSub_13 ?_
    cases hf
    exact jk_zret C (Or.inl rfl) rfl rd_Md_readSub_14 rfl
def wd_Md_readCord (cI : ClassId) (a_t a_t_w a_t_wKept a_t_saved a_t_past a_t_input a_t_n a_t_order a_t_numbers a_t_output : Nat) (i_t_pastMany : Int) (i_t_isSaved : Int) (i_t_thrown : Int) (i_t_inputMany : Int) (i_t_lastError : Int) (i_t_lastOffset : Int) (i_t_error : Int) (i_t_offset : Int) (i_t_nextByte : Int) (i_t_begin : Int) (i_t_value : Int) (i_t_token : Int) (i_t_got : Int) (i_t_orders : Int) (i_t_outputMany : Int) (i_t_w : (Int → Int)) (i_t_input : (Int → Int)) (i_t_n : (Int → Int)) : va_W := [(a_t, .inr (11, [.ref a_t_w, .ref a_t_wKept, .ref a_t_saved, .ref a_t_past, jk_V i_t_pastMany, jk_V i_t_isSaved, jk_V i_t_thrown, .ref a_t_input, jk_V i_t_inputMany, jk_V i_t_lastError, jk_V i_t_lastOffset, jk_V i_t_error, jk_V i_t_offset, jk_V i_t_nextByte, jk_V i_t_begin, jk_V i_t_value, jk_V i_t_token, jk_V i_t_got, .ref a_t_n, .ref a_t_order, .ref a_t_numbers, jk_V i_t_orders, .ref a_t_output, jk_V i_t_outputMany])), (a_t_w, jk_W cI 259 i_t_w), (a_t_input, jk_W cI 700 i_t_input), (a_t_n, jk_W cI 3 i_t_n)]
set_option maxHeartbeats 4000000 in
set_option maxRecDepth 20000 in
theorem ct_Md_readCord (l : Launch) (D : va_G) (Z : (Nat → Prop) → State → Heap → Prop) (sq : Nat → Nat) (hZ : jk_ZK Z sq) (cI cR : ClassId) (a_t a_t_w a_t_wKept a_t_saved a_t_past a_t_input a_t_n a_t_order a_t_numbers a_t_output : Nat) (i_t_pastMany : Int) (i_t_isSaved : Int) (i_t_thrown : Int) (i_t_inputMany : Int) (i_t_lastError : Int) (i_t_lastOffset : Int) (i_t_error : Int) (i_t_offset : Int) (i_t_nextByte : Int) (i_t_begin : Int) (i_t_value : Int) (i_t_token : Int) (i_t_got : Int) (i_t_orders : Int) (i_t_outputMany : Int) (i_t_w : (Int → Int)) (i_t_input : (Int → Int)) (i_t_n : (Int → Int)) (q : Int × (Int → Int) × Int × Int × Int × Int × Int × Int × Int × (Int → Int)) (hf : fn_Md_readCord i_t_w i_t_input i_t_inputMany i_t_error i_t_offset i_t_nextByte i_t_begin i_t_value i_t_token i_t_got i_t_n = some q) : jk_MI l D jk_cl (jk_ty cI cR) Z mn_Md_readCord (.code mn_Md_readCord mb_Md_readCord 2 (some .boolean) :: jk_WA) (jk_rm 9 368) [.ref a_t] (wd_Md_readCord cI a_t a_t_w a_t_wKept a_t_saved a_t_past a_t_input a_t_n a_t_order a_t_numbers a_t_output i_t_pastMany i_t_isSaved i_t_thrown i_t_inputMany i_t_lastError i_t_lastOffset i_t_error i_t_offset i_t_nextByte i_t_begin i_t_value i_t_token i_t_got i_t_orders i_t_outputMany i_t_w i_t_input i_t_n) (wd_Md_readCord cI a_t a_t_w a_t_wKept a_t_saved a_t_past a_t_input a_t_n a_t_order a_t_numbers a_t_output i_t_pastMany i_t_isSaved i_t_thrown i_t_inputMany i_t_lastError i_t_lastOffset q.2.2.1 q.2.2.2.1 q.2.2.2.2.1 q.2.2.2.2.2.1 q.2.2.2.2.2.2.1 q.2.2.2.2.2.2.2.1 q.2.2.2.2.2.2.2.2.1 i_t_orders i_t_outputMany q.2.1 i_t_input q.2.2.2.2.2.2.2.2.2) q.1 := by
  intro sz
  refine jk_body (by decide +kernel) (fun p e s m args below meth c hsz hz hin C => ?_) (Nat.le_of_ble_eq_true rfl)
  subst hsz
  unfold fn_Md_readCord at hf
  have bk_41 : ∀ (t_w : (Int → Int)) (t_error : Int) (t_offset : Int) (t_nextByte : Int) (t_begin : Int) (t_value : Int) (t_token : Int) (t_got : Int) (t_n : (Int → Int)) (v1 : Int), fn_Md_readCord_b41 t_w i_t_input i_t_inputMany t_error t_offset t_nextByte t_begin t_value t_token t_got t_n v1 = some q → jk_J p l e (jk_rm 9 368) s m args below meth c 0 0 (jk_QI below D jk_cl (jk_ty cI cR) (wd_Md_readCord cI a_t a_t_w a_t_wKept a_t_saved a_t_past a_t_input a_t_n a_t_order a_t_numbers a_t_output i_t_pastMany i_t_isSaved i_t_thrown i_t_inputMany i_t_lastError i_t_lastOffset i_t_error i_t_offset i_t_nextByte i_t_begin i_t_value i_t_token i_t_got i_t_orders i_t_outputMany i_t_w i_t_input i_t_n) (wd_Md_readCord cI a_t a_t_w a_t_wKept a_t_saved a_t_past a_t_input a_t_n a_t_order a_t_numbers a_t_output i_t_pastMany i_t_isSaved i_t_thrown i_t_inputMany i_t_lastError i_t_lastOffset q.2.2.1 q.2.2.2.1 q.2.2.2.2.1 q.2.2.2.2.2.1 q.2.2.2.2.2.2.1 q.2.2.2.2.2.2.2.1 q.2.2.2.2.2.2.2.2.1 i_t_orders i_t_outputMany q.2.1 i_t_input q.2.2.2.2.2.2.2.2.2) args s q.1) D jk_cl (va_A (wd_Md_readCord cI a_t a_t_w a_t_wKept a_t_saved a_t_past a_t_input a_t_n a_t_order a_t_numbers a_t_output i_t_pastMany i_t_isSaved i_t_thrown i_t_inputMany i_t_lastError i_t_lastOffset i_t_error i_t_offset i_t_nextByte i_t_begin i_t_value i_t_token i_t_got i_t_orders i_t_outputMany i_t_w i_t_input i_t_n) s.heap.size) 2 (wd_Md_readCord cI a_t a_t_w a_t_wKept a_t_saved a_t_past a_t_input a_t_n a_t_order a_t_numbers a_t_output i_t_pastMany i_t_isSaved i_t_thrown i_t_inputMany i_t_lastError i_t_lastOffset t_error t_offset t_nextByte t_begin t_value t_token t_got i_t_orders i_t_outputMany t_w i_t_input t_n) [(0, .ref a_t), (1, jk_V v1)] 41 [] := by
    intro t_w t_error t_offset t_nextByte t_begin t_value t_token t_got t_n v1 hf
    unfold fn_Md_readCord_b41 at hf
    refine jk_aload_n C rd_Md_readCord_41 (k := 0) rfl ?_
    obtain ⟨q42, hq42, hf⟩ := jk_bind_h hf
    refine jk_callVi C hZ.1 hz (ct_Md_mayAdd l D Z sq hZ cI cR a_t a_t_w a_t_wKept a_t_saved a_t_past a_t_input a_t_n a_t_order a_t_numbers a_t_output i_t_pastMany i_t_isSaved i_t_thrown i_t_inputMany i_t_lastError i_t_lastOffset t_error t_offset t_nextByte t_begin t_value t_token t_got i_t_orders i_t_outputMany t_w q42 hq42) tm_1441 tm_1443 sl_46 tm_15 tm_1444 na_Md_mayAdd ⟨Nat.le_of_ble_eq_true rfl, Nat.le_of_ble_eq_true rfl⟩ rfl [0, 1] rfl rfl rfl (ws' := wd_Md_readCord cI a_t a_t_w a_t_wKept a_t_saved a_t_past a_t_input a_t_n a_t_order a_t_numbers a_t_output i_t_pastMany i_t_isSaved i_t_thrown i_t_inputMany i_t_lastError i_t_lastOffset t_error t_offset t_nextByte t_begin t_value t_token t_got i_t_orders i_t_outputMany t_w i_t_input t_n) rfl 0 11 rfl rfl rfl (st := []) rfl (Nat.le_of_ble_eq_true rfl) rd_Md_readCord_42 ?_ ⟨Nat.le_refl _, Nat.le_refl _⟩
    refine jk_if_ne (tgt := 55) C rd_Md_readCord_45 (by decide) hf (fun _ hf => ?_) (fun _ hf => ?_)
    · refine jk_aload_n C rd_Md_readCord_55 (k := 0) rfl ?_
      refine jk_ldcs C hZ hz rd_Md_readCord_56 (k := 32) rfl ?_
      obtain ⟨q58, hq58, hf⟩ := jk_bind_h hf
      refine jk_callVi C hZ.1 hz (ct_Md_isWord l D Z sq hZ cI cR a_t a_t_w a_t_wKept a_t_saved a_t_past a_t_input a_t_n a_t_order a_t_numbers a_t_output i_t_pastMany i_t_isSaved i_t_thrown i_t_inputMany i_t_lastError i_t_lastOffset t_error t_offset t_nextByte t_begin t_value t_token t_got i_t_orders i_t_outputMany i_t_input ([115, 117, 98]) ((sq 32)) ((jk_zs hZ (k := 32) rfl)) q58 hq58) tm_1387 tm_1389 sl_34 tm_15 tm_1390 na_Md_isWord ⟨Nat.le_of_ble_eq_true rfl, Nat.le_of_ble_eq_true rfl⟩ rfl [0, 2] rfl rfl rfl (ws' := wd_Md_readCord cI a_t a_t_w a_t_wKept a_t_saved a_t_past a_t_input a_t_n a_t_order a_t_numbers a_t_output i_t_pastMany i_t_isSaved i_t_thrown i_t_inputMany i_t_lastError i_t_lastOffset t_error t_offset t_nextByte t_begin t_value t_token t_got i_t_orders i_t_outputMany t_w i_t_input t_n) rfl 0 11 rfl rfl rfl (st := []) rfl (Nat.le_of_ble_eq_true rfl) rd_Md_readCord_58 ?_ ⟨Nat.le_refl _, Nat.le_refl _⟩
      refine jk_if_eq (tgt := 69) C rd_Md_readCord_61 (by decide) hf (fun _ hf => ?_) (fun _ hf => ?_)
      · refine jk_aload_n C rd_Md_readCord_69 (k := 0) rfl ?_
        obtain ⟨q70, hq70, hf⟩ := jk_bind_h hf
        refine jk_callVv C hZ.1 hz (ct_Md_advanceToken l D Z sq hZ cI cR a_t a_t_w a_t_wKept a_t_saved a_t_past a_t_input a_t_n a_t_order a_t_numbers a_t_output i_t_pastMany i_t_isSaved i_t_thrown i_t_inputMany i_t_lastError i_t_lastOffset t_error t_offset t_nextByte t_begin t_value t_token t_got i_t_orders i_t_outputMany i_t_input q70 hq70) tm_1366 tm_1368 sl_29 tm_15 tm_1369 na_Md_advanceToken ⟨Nat.le_of_ble_eq_true rfl, Nat.le_of_ble_eq_true rfl⟩ rfl [0, 2] rfl rfl rfl (ws' := wd_Md_readCord cI a_t a_t_w a_t_wKept a_t_saved a_t_past a_t_input a_t_n a_t_order a_t_numbers a_t_output i_t_pastMany i_t_isSaved i_t_thrown i_t_inputMany i_t_lastError i_t_lastOffset t_error t_offset q70.1 q70.2.1 q70.2.2.1 q70.2.2.2 t_got i_t_orders i_t_outputMany t_w i_t_input t_n) rfl 0 11 rfl rfl rfl (st := []) rfl (Nat.le_of_ble_eq_true rfl) rd_Md_readCord_70 ?_ ⟨Nat.le_refl _, Nat.le_refl _⟩
        refine jk_iload_n C rd_Md_readCord_73 (k := 1) rfl ?_
        refine jk_if_eq (tgt := 97) C rd_Md_readCord_74 (by decide) hf (fun _ hf => ?_) (fun _ hf => ?_)
        · refine jk_aload_n C rd_Md_readCord_97 (k := 0) rfl ?_
          refine jk_aload_n C rd_Md_readCord_98 (k := 0) rfl ?_
          refine jk_get C in_Md (ci := 11) rfl 0 (by decide) tm_1263 0 rfl rfl rd_Md_readCord_99 ?_
          refine jk_iconst C rd_Md_readCord_102 ?_
          refine jk_iald C 1 0 rfl rfl (Nat.le_of_ble_eq_true rfl) rd_Md_readCord_103 hf (fun hf => ?_)
          refine jk_iconst C rd_Md_readCord_104 ?_
          obtain ⟨q105, hq105, hf⟩ := jk_bind_h hf
          refine jk_callVi C hZ.1 hz (ct_Md_takesCord l D Z sq hZ cI cR a_t a_t_w a_t_wKept a_t_saved a_t_past a_t_input a_t_n a_t_order a_t_numbers a_t_output i_t_pastMany i_t_isSaved i_t_thrown i_t_inputMany i_t_lastError i_t_lastOffset t_error t_offset q70.1 q70.2.1 q70.2.2.1 q70.2.2.2 t_got i_t_orders i_t_outputMany t_w i_t_input t_n (t_w 2) 1 q105 hq105) tm_1461 tm_1463 sl_51 tm_15 tm_1464 na_Md_takesCord ⟨Nat.le_of_ble_eq_true rfl, Nat.le_of_ble_eq_true rfl⟩ rfl [0, 1, 2, 3] rfl rfl rfl (ws' := wd_Md_readCord cI a_t a_t_w a_t_wKept a_t_saved a_t_past a_t_input a_t_n a_t_order a_t_numbers a_t_output i_t_pastMany i_t_isSaved i_t_thrown i_t_inputMany i_t_lastError i_t_lastOffset q105.2.2.1 q105.2.2.2.1 q105.2.2.2.2.1 q105.2.2.2.2.2.1 q105.2.2.2.2.2.2.1 q105.2.2.2.2.2.2.2.1 q105.2.2.2.2.2.2.2.2.1 i_t_orders i_t_outputMany q105.2.1 i_t_input q105.2.2.2.2.2.2.2.2.2) rfl 0 11 rfl rfl rfl (st := []) rfl (Nat.le_of_ble_eq_true rfl) rd_Md_readCord_105 ?_ ⟨Nat.le_refl _, Nat.le_refl _⟩
          obtain ⟨hbo, hf⟩ := jk_bo_h hf
          cases hf
          exact jk_zret C hbo rfl rd_Md_readCord_108 rfl
        · refine jk_aload_n C rd_Md_readCord_77 (k := 0) rfl ?_
          refine jk_aload_n C rd_Md_readCord_78 (k := 0) rfl ?_
          refine jk_aload_n C rd_Md_readCord_79 (k := 0) rfl ?_
          refine jk_get C in_Md (ci := 11) rfl 0 (by decide) tm_1263 0 rfl rfl rd_Md_readCord_80 ?_
          refine jk_iconst C rd_Md_readCord_83 ?_
          refine jk_iald C 1 0 rfl rfl (Nat.le_of_ble_eq_true rfl) rd_Md_readCord_84 hf (fun hf => ?_)
          refine jk_iconst C rd_Md_readCord_85 ?_
          refine jk_isub C rd_Md_readCord_86 ?_
          obtain ⟨q87, hq87, hf⟩ := jk_bind_h hf
          refine jk_callVi C hZ.1 hz (ct_Md_first l D Z sq hZ cI cR a_t a_t_w a_t_wKept a_t_saved a_t_past a_t_input a_t_n a_t_order a_t_numbers a_t_output i_t_pastMany i_t_isSaved i_t_thrown i_t_inputMany i_t_lastError i_t_lastOffset t_error t_offset q70.1 q70.2.1 q70.2.2.1 q70.2.2.2 t_got i_t_orders i_t_outputMany t_w ((t_w 1) - 1) q87 hq87) tm_1433 tm_1435 sl_44 tm_15 tm_1436 na_Md_first ⟨Nat.le_of_ble_eq_true rfl, Nat.le_of_ble_eq_true rfl⟩ rfl [0, 1] rfl rfl rfl (ws' := wd_Md_readCord cI a_t a_t_w a_t_wKept a_t_saved a_t_past a_t_input a_t_n a_t_order a_t_numbers a_t_output i_t_pastMany i_t_isSaved i_t_thrown i_t_inputMany i_t_lastError i_t_lastOffset t_error t_offset q70.1 q70.2.1 q70.2.2.1 q70.2.2.2 t_got i_t_orders i_t_outputMany t_w i_t_input t_n) rfl 0 11 rfl rfl rfl (st := [.ref a_t]) rfl (Nat.le_of_ble_eq_true rfl) rd_Md_readCord_87 ?_ ⟨Nat.le_refl _, Nat.le_refl _⟩
          refine jk_iconst C rd_Md_readCord_90 ?_
          obtain ⟨q91, hq91, hf⟩ := jk_bind_h hf
          refine jk_callVi C hZ.1 hz (ct_Md_takesCord l D Z sq hZ cI cR a_t a_t_w a_t_wKept a_t_saved a_t_past a_t_input a_t_n a_t_order a_t_numbers a_t_output i_t_pastMany i_t_isSaved i_t_thrown i_t_inputMany i_t_lastError i_t_lastOffset t_error t_offset q70.1 q70.2.1 q70.2.2.1 q70.2.2.2 t_got i_t_orders i_t_outputMany t_w i_t_input t_n q87 0 q91 hq91) tm_1461 tm_1463 sl_51 tm_15 tm_1464 na_Md_takesCord ⟨Nat.le_of_ble_eq_true rfl, Nat.le_of_ble_eq_true rfl⟩ rfl [0, 1, 2, 3] rfl rfl rfl (ws' := wd_Md_readCord cI a_t a_t_w a_t_wKept a_t_saved a_t_past a_t_input a_t_n a_t_order a_t_numbers a_t_output i_t_pastMany i_t_isSaved i_t_thrown i_t_inputMany i_t_lastError i_t_lastOffset q91.2.2.1 q91.2.2.2.1 q91.2.2.2.2.1 q91.2.2.2.2.2.1 q91.2.2.2.2.2.2.1 q91.2.2.2.2.2.2.2.1 q91.2.2.2.2.2.2.2.2.1 i_t_orders i_t_outputMany q91.2.1 i_t_input q91.2.2.2.2.2.2.2.2.2) rfl 0 11 rfl rfl rfl (st := []) rfl (Nat.le_of_ble_eq_true rfl) rd_Md_readCord_91 ?_ ⟨Nat.le_refl _, Nat.le_refl _⟩
          refine jk_goto (tgt := 108) C rd_Md_readCord_94 (by decide) ?_
          obtain ⟨hbo, hf⟩ := jk_bo_h hf
          cases hf
          exact jk_zret C hbo rfl rd_Md_readCord_108 rfl
      · refine jk_aload_n C rd_Md_readCord_64 (k := 0) rfl ?_
        obtain ⟨q65, hq65, hf⟩ := jk_bind_h hf
        refine jk_callVi C hZ.1 hz (ct_Md_readSub l D Z sq hZ cI cR a_t a_t_w a_t_wKept a_t_saved a_t_past a_t_input a_t_n a_t_order a_t_numbers a_t_output i_t_pastMany i_t_isSaved i_t_thrown i_t_inputMany i_t_lastError i_t_lastOffset t_error t_offset t_nextByte t_begin t_value t_token t_got i_t_orders i_t_outputMany t_w i_t_input t_n q65 hq65) tm_1445 tm_1447 sl_47 tm_15 tm_1448 na_Md_readSub ⟨Nat.le_of_ble_eq_true rfl, Nat.le_of_ble_eq_true rfl⟩ rfl [0, 1, 2, 3] rfl rfl rfl (ws' := wd_Md_readCord cI a_t a_t_w a_t_wKept a_t_saved a_t_past a_t_input a_t_n a_t_order a_t_numbers a_t_output i_t_pastMany i_t_isSaved i_t_thrown i_t_inputMany i_t_lastError i_t_lastOffset q65.2.2.1 q65.2.2.2.1 q65.2.2.2.2.1 q65.2.2.2.2.2.1 q65.2.2.2.2.2.2.1 q65.2.2.2.2.2.2.2.1 q65.2.2.2.2.2.2.2.2.1 i_t_orders i_t_outputMany q65.2.1 i_t_input q65.2.2.2.2.2.2.2.2.2) rfl 0 11 rfl rfl rfl (st := []) rfl (Nat.le_of_ble_eq_true rfl) rd_Md_readCord_65 ?_ ⟨Nat.le_refl _, Nat.le_refl _⟩
        obtain ⟨hbo, hf⟩ := jk_bo_h hf
        cases hf
        exact jk_zret C hbo rfl rd_Md_readCord_68 rfl
    · refine jk_aload_n C rd_Md_readCord_48 (k := 0) rfl ?_
      refine jk_bipush C rd_Md_readCord_49 (by decide +kernel) ?_
      obtain ⟨q51, hq51, hf⟩ := jk_bind_h hf
      refine jk_callVi C hZ.1 hz (ct_Md_failsAt l D Z sq hZ cI cR a_t a_t_w a_t_wKept a_t_saved a_t_past a_t_input a_t_n a_t_order a_t_numbers a_t_output i_t_pastMany i_t_isSaved i_t_thrown i_t_inputMany i_t_lastError i_t_lastOffset t_error t_offset t_nextByte t_begin t_value t_token t_got i_t_orders i_t_outputMany 6 q51 hq51) tm_1397 tm_1399 sl_36 tm_15 tm_1400 na_Md_failsAt ⟨Nat.le_of_ble_eq_true rfl, Nat.le_of_ble_eq_true rfl⟩ rfl [0] rfl rfl rfl (ws' := wd_Md_readCord cI a_t a_t_w a_t_wKept a_t_saved a_t_past a_t_input a_t_n a_t_order a_t_numbers a_t_output i_t_pastMany i_t_isSaved i_t_thrown i_t_inputMany i_t_lastError i_t_lastOffset q51.2.1 q51.2.2 t_nextByte t_begin t_value t_token t_got i_t_orders i_t_outputMany t_w i_t_input t_n) rfl 0 11 rfl rfl rfl (st := []) rfl (Nat.le_of_ble_eq_true rfl) rd_Md_readCord_51 ?_ ⟨Nat.le_refl _, Nat.le_refl _⟩
      obtain ⟨hbo, hf⟩ := jk_bo_h hf
      cases hf
      exact jk_zret C hbo rfl rd_Md_readCord_54 rfl
  refine jk_aload_n C rd_Md_readCord_0 (k := 0) rfl ?_
  refine jk_ldcs C hZ hz rd_Md_readCord_1 (k := 30) rfl ?_
  obtain ⟨q3, hq3, hf⟩ := jk_bind_h hf
  refine jk_callVi C hZ.1 hz (ct_Md_isWord l D Z sq hZ cI cR a_t a_t_w a_t_wKept a_t_saved a_t_past a_t_input a_t_n a_t_order a_t_numbers a_t_output i_t_pastMany i_t_isSaved i_t_thrown i_t_inputMany i_t_lastError i_t_lastOffset i_t_error i_t_offset i_t_nextByte i_t_begin i_t_value i_t_token i_t_got i_t_orders i_t_outputMany i_t_input ([116, 111, 112]) ((sq 30)) ((jk_zs hZ (k := 30) rfl)) q3 hq3) tm_1387 tm_1389 sl_34 tm_15 tm_1390 na_Md_isWord ⟨Nat.le_of_ble_eq_true rfl, Nat.le_of_ble_eq_true rfl⟩ rfl [0, 2] rfl rfl rfl (ws' := wd_Md_readCord cI a_t a_t_w a_t_wKept a_t_saved a_t_past a_t_input a_t_n a_t_order a_t_numbers a_t_output i_t_pastMany i_t_isSaved i_t_thrown i_t_inputMany i_t_lastError i_t_lastOffset i_t_error i_t_offset i_t_nextByte i_t_begin i_t_value i_t_token i_t_got i_t_orders i_t_outputMany i_t_w i_t_input i_t_n) rfl 0 11 rfl rfl rfl (st := []) rfl (Nat.le_of_ble_eq_true rfl) rd_Md_readCord_3 ?_ ⟨Nat.le_refl _, Nat.le_refl _⟩
  refine jk_istore_n C rd_Md_readCord_6 (by decide) (lv' := [(1, jk_V q3), (0, .ref a_t)]) rfl ?_
  refine jk_aload_n C rd_Md_readCord_7 (k := 1) rfl ?_
  refine jk_get C in_Md (ci := 11) rfl 0 (by decide) tm_1263 0 rfl rfl rd_Md_readCord_8 ?_
  refine jk_iconst C rd_Md_readCord_11 ?_
  refine jk_iald C 1 0 rfl rfl (Nat.le_of_ble_eq_true rfl) rd_Md_readCord_12 hf (fun hf => ?_)
  refine jk_if_eq (tgt := 35) C rd_Md_readCord_13 (by decide) hf (fun _ hf => ?_) (fun _ hf => ?_)
  · refine jk_aload_n C rd_Md_readCord_35 (k := 1) rfl ?_
    refine jk_iconst C rd_Md_readCord_36 ?_
    obtain ⟨q37, hq37, hf⟩ := jk_bind_h hf
    refine jk_callVi C hZ.1 hz (ct_Md_failsAt l D Z sq hZ cI cR a_t a_t_w a_t_wKept a_t_saved a_t_past a_t_input a_t_n a_t_order a_t_numbers a_t_output i_t_pastMany i_t_isSaved i_t_thrown i_t_inputMany i_t_lastError i_t_lastOffset i_t_error i_t_offset i_t_nextByte i_t_begin i_t_value i_t_token i_t_got i_t_orders i_t_outputMany 5 q37 hq37) tm_1397 tm_1399 sl_36 tm_15 tm_1400 na_Md_failsAt ⟨Nat.le_of_ble_eq_true rfl, Nat.le_of_ble_eq_true rfl⟩ rfl [0] rfl rfl rfl (ws' := wd_Md_readCord cI a_t a_t_w a_t_wKept a_t_saved a_t_past a_t_input a_t_n a_t_order a_t_numbers a_t_output i_t_pastMany i_t_isSaved i_t_thrown i_t_inputMany i_t_lastError i_t_lastOffset q37.2.1 q37.2.2 i_t_nextByte i_t_begin i_t_value i_t_token i_t_got i_t_orders i_t_outputMany i_t_w i_t_input i_t_n) rfl 0 11 rfl rfl rfl (st := []) rfl (Nat.le_of_ble_eq_true rfl) rd_Md_readCord_37 ?_ ⟨Nat.le_refl _, Nat.le_refl _⟩
    obtain ⟨hbo, hf⟩ := jk_bo_h hf
    cases hf
    exact jk_zret C hbo rfl rd_Md_readCord_40 rfl
  · refine jk_iload_n C rd_Md_readCord_16 (k := 0) rfl ?_
    refine jk_if_eq (tgt := 41) C rd_Md_readCord_17 (by decide) hf (fun _ hf => ?_) (fun _ hf => ?_)
    · refine jk_lv (lv' := [(0, .ref a_t), (1, jk_V q3)]) [1, 0] rfl ?_
      exact bk_41 i_t_w i_t_error i_t_offset i_t_nextByte i_t_begin i_t_value i_t_token i_t_got i_t_n q3 hf
    · refine jk_aload_n C rd_Md_readCord_20 (k := 1) rfl ?_
      refine jk_aload_n C rd_Md_readCord_21 (k := 1) rfl ?_
      refine jk_get C in_Md (ci := 11) rfl 0 (by decide) tm_1263 0 rfl rfl rd_Md_readCord_22 ?_
      refine jk_iconst C rd_Md_readCord_25 ?_
      refine jk_iald C 1 0 rfl rfl (Nat.le_of_ble_eq_true rfl) rd_Md_readCord_26 hf (fun hf => ?_)
      refine jk_iconst C rd_Md_readCord_27 ?_
      refine jk_isub C rd_Md_readCord_28 ?_
      obtain ⟨q29, hq29, hf⟩ := jk_bind_h hf
      refine jk_callVi C hZ.1 hz (ct_Md_hasTop l D Z sq hZ cI cR a_t a_t_w a_t_wKept a_t_saved a_t_past a_t_input a_t_n a_t_order a_t_numbers a_t_output i_t_pastMany i_t_isSaved i_t_thrown i_t_inputMany i_t_lastError i_t_lastOffset i_t_error i_t_offset i_t_nextByte i_t_begin i_t_value i_t_token i_t_got i_t_orders i_t_outputMany i_t_w ((i_t_w 1) - 1) q29 hq29) tm_1429 tm_1431 sl_43 tm_15 tm_1432 na_Md_hasTop ⟨Nat.le_of_ble_eq_true rfl, Nat.le_of_ble_eq_true rfl⟩ rfl [0, 1] rfl rfl rfl (ws' := wd_Md_readCord cI a_t a_t_w a_t_wKept a_t_saved a_t_past a_t_input a_t_n a_t_order a_t_numbers a_t_output i_t_pastMany i_t_isSaved i_t_thrown i_t_inputMany i_t_lastError i_t_lastOffset i_t_error i_t_offset i_t_nextByte i_t_begin i_t_value i_t_token i_t_got i_t_orders i_t_outputMany i_t_w i_t_input i_t_n) rfl 0 11 rfl rfl rfl (st := []) rfl (Nat.le_of_ble_eq_true rfl) rd_Md_readCord_29 ?_ ⟨Nat.le_refl _, Nat.le_refl _⟩
      refine jk_if_eq (tgt := 41) C rd_Md_readCord_32 (by decide) hf (fun _ hf => ?_) (fun _ hf => ?_)
      · refine jk_lv (lv' := [(0, .ref a_t), (1, jk_V q3)]) [1, 0] rfl ?_
        exact bk_41 i_t_w i_t_error i_t_offset i_t_nextByte i_t_begin i_t_value i_t_token i_t_got i_t_n q3 hf
      · refine jk_aload_n C rd_Md_readCord_35 (k := 1) rfl ?_
        refine jk_iconst C rd_Md_readCord_36 ?_
        obtain ⟨q37, hq37, hf⟩ := jk_bind_h hf
        refine jk_callVi C hZ.1 hz (ct_Md_failsAt l D Z sq hZ cI cR a_t a_t_w a_t_wKept a_t_saved a_t_past a_t_input a_t_n a_t_order a_t_numbers a_t_output i_t_pastMany i_t_isSaved i_t_thrown i_t_inputMany i_t_lastError i_t_lastOffset i_t_error i_t_offset i_t_nextByte i_t_begin i_t_value i_t_token i_t_got i_t_orders i_t_outputMany 5 q37 hq37) tm_1397 tm_1399 sl_36 tm_15 tm_1400 na_Md_failsAt ⟨Nat.le_of_ble_eq_true rfl, Nat.le_of_ble_eq_true rfl⟩ rfl [0] rfl rfl rfl (ws' := wd_Md_readCord cI a_t a_t_w a_t_wKept a_t_saved a_t_past a_t_input a_t_n a_t_order a_t_numbers a_t_output i_t_pastMany i_t_isSaved i_t_thrown i_t_inputMany i_t_lastError i_t_lastOffset q37.2.1 q37.2.2 i_t_nextByte i_t_begin i_t_value i_t_token i_t_got i_t_orders i_t_outputMany i_t_w i_t_input i_t_n) rfl 0 11 rfl rfl rfl (st := []) rfl (Nat.le_of_ble_eq_true rfl) rd_Md_readCord_37 ?_ ⟨Nat.le_refl _, Nat.le_refl _⟩
        obtain ⟨hbo, hf⟩ := jk_bo_h hf
        cases hf
        exact jk_zret C hbo rfl rd_Md_readCord_40 rfl
def wd_Md_readSetupStatement (cI : ClassId) (a_t a_t_w a_t_wKept a_t_saved a_t_past a_t_input a_t_n a_t_order a_t_numbers a_t_output : Nat) (i_t_pastMany : Int) (i_t_isSaved : Int) (i_t_thrown : Int) (i_t_inputMany : Int) (i_t_lastError : Int) (i_t_lastOffset : Int) (i_t_error : Int) (i_t_offset : Int) (i_t_nextByte : Int) (i_t_begin : Int) (i_t_value : Int) (i_t_token : Int) (i_t_got : Int) (i_t_orders : Int) (i_t_outputMany : Int) (i_t_w : (Int → Int)) (i_t_input : (Int → Int)) (i_t_n : (Int → Int)) : va_W := [(a_t, .inr (11, [.ref a_t_w, .ref a_t_wKept, .ref a_t_saved, .ref a_t_past, jk_V i_t_pastMany, jk_V i_t_isSaved, jk_V i_t_thrown, .ref a_t_input, jk_V i_t_inputMany, jk_V i_t_lastError, jk_V i_t_lastOffset, jk_V i_t_error, jk_V i_t_offset, jk_V i_t_nextByte, jk_V i_t_begin, jk_V i_t_value, jk_V i_t_token, jk_V i_t_got, .ref a_t_n, .ref a_t_order, .ref a_t_numbers, jk_V i_t_orders, .ref a_t_output, jk_V i_t_outputMany])), (a_t_w, jk_W cI 259 i_t_w), (a_t_input, jk_W cI 700 i_t_input), (a_t_n, jk_W cI 3 i_t_n)]
set_option maxHeartbeats 4000000 in
set_option maxRecDepth 20000 in
theorem ct_Md_readSetupStatement (l : Launch) (D : va_G) (Z : (Nat → Prop) → State → Heap → Prop) (sq : Nat → Nat) (hZ : jk_ZK Z sq) (cI cR : ClassId) (a_t a_t_w a_t_wKept a_t_saved a_t_past a_t_input a_t_n a_t_order a_t_numbers a_t_output : Nat) (i_t_pastMany : Int) (i_t_isSaved : Int) (i_t_thrown : Int) (i_t_inputMany : Int) (i_t_lastError : Int) (i_t_lastOffset : Int) (i_t_error : Int) (i_t_offset : Int) (i_t_nextByte : Int) (i_t_begin : Int) (i_t_value : Int) (i_t_token : Int) (i_t_got : Int) (i_t_orders : Int) (i_t_outputMany : Int) (i_t_w : (Int → Int)) (i_t_input : (Int → Int)) (i_t_n : (Int → Int)) (q : Int × (Int → Int) × Int × Int × Int × Int × Int × Int × Int × (Int → Int)) (hf : fn_Md_readSetupStatement i_t_w i_t_input i_t_inputMany i_t_error i_t_offset i_t_nextByte i_t_begin i_t_value i_t_token i_t_got i_t_n = some q) : jk_MI l D jk_cl (jk_ty cI cR) Z mn_Md_readSetupStatement (.code mn_Md_readSetupStatement mb_Md_readSetupStatement 1 (some .boolean) :: jk_WA) (jk_rm 10 389) [.ref a_t] (wd_Md_readSetupStatement cI a_t a_t_w a_t_wKept a_t_saved a_t_past a_t_input a_t_n a_t_order a_t_numbers a_t_output i_t_pastMany i_t_isSaved i_t_thrown i_t_inputMany i_t_lastError i_t_lastOffset i_t_error i_t_offset i_t_nextByte i_t_begin i_t_value i_t_token i_t_got i_t_orders i_t_outputMany i_t_w i_t_input i_t_n) (wd_Md_readSetupStatement cI a_t a_t_w a_t_wKept a_t_saved a_t_past a_t_input a_t_n a_t_order a_t_numbers a_t_output i_t_pastMany i_t_isSaved i_t_thrown i_t_inputMany i_t_lastError i_t_lastOffset q.2.2.1 q.2.2.2.1 q.2.2.2.2.1 q.2.2.2.2.2.1 q.2.2.2.2.2.2.1 q.2.2.2.2.2.2.2.1 q.2.2.2.2.2.2.2.2.1 i_t_orders i_t_outputMany q.2.1 i_t_input q.2.2.2.2.2.2.2.2.2) q.1 := by
  intro sz
  refine jk_body (by decide +kernel) (fun p e s m args below meth c hsz hz hin C => ?_) (Nat.le_of_ble_eq_true rfl)
  subst hsz
  unfold fn_Md_readSetupStatement at hf
  refine jk_aload_n C rd_Md_readSetupStatement_0 (k := 0) rfl ?_
  refine jk_ldcs C hZ hz rd_Md_readSetupStatement_1 (k := 28) rfl ?_
  obtain ⟨q3, hq3, hf⟩ := jk_bind_h hf
  refine jk_callVi C hZ.1 hz (ct_Md_isWord l D Z sq hZ cI cR a_t a_t_w a_t_wKept a_t_saved a_t_past a_t_input a_t_n a_t_order a_t_numbers a_t_output i_t_pastMany i_t_isSaved i_t_thrown i_t_inputMany i_t_lastError i_t_lastOffset i_t_error i_t_offset i_t_nextByte i_t_begin i_t_value i_t_token i_t_got i_t_orders i_t_outputMany i_t_input ([116, 111, 112, 105, 99]) ((sq 28)) ((jk_zs hZ (k := 28) rfl)) q3 hq3) tm_1387 tm_1389 sl_34 tm_15 tm_1390 na_Md_isWord ⟨Nat.le_of_ble_eq_true rfl, Nat.le_of_ble_eq_true rfl⟩ rfl [0, 2] rfl rfl rfl (ws' := wd_Md_readSetupStatement cI a_t a_t_w a_t_wKept a_t_saved a_t_past a_t_input a_t_n a_t_order a_t_numbers a_t_output i_t_pastMany i_t_isSaved i_t_thrown i_t_inputMany i_t_lastError i_t_lastOffset i_t_error i_t_offset i_t_nextByte i_t_begin i_t_value i_t_token i_t_got i_t_orders i_t_outputMany i_t_w i_t_input i_t_n) rfl 0 11 rfl rfl rfl (st := []) rfl (Nat.le_of_ble_eq_true rfl) rd_Md_readSetupStatement_3 ?_ ⟨Nat.le_refl _, Nat.le_refl _⟩
  refine jk_if_eq (tgt := 14) C rd_Md_readSetupStatement_6 (by decide) hf (fun _ hf => ?_) (fun _ hf => ?_)
  · refine jk_aload_n C rd_Md_readSetupStatement_14 (k := 0) rfl ?_
    refine jk_ldcs C hZ hz rd_Md_readSetupStatement_15 (k := 29) rfl ?_
    obtain ⟨q17, hq17, hf⟩ := jk_bind_h hf
    refine jk_callVi C hZ.1 hz (ct_Md_isWord l D Z sq hZ cI cR a_t a_t_w a_t_wKept a_t_saved a_t_past a_t_input a_t_n a_t_order a_t_numbers a_t_output i_t_pastMany i_t_isSaved i_t_thrown i_t_inputMany i_t_lastError i_t_lastOffset i_t_error i_t_offset i_t_nextByte i_t_begin i_t_value i_t_token i_t_got i_t_orders i_t_outputMany i_t_input ([99, 108, 117, 115, 116, 101, 114]) ((sq 29)) ((jk_zs hZ (k := 29) rfl)) q17 hq17) tm_1387 tm_1389 sl_34 tm_15 tm_1390 na_Md_isWord ⟨Nat.le_of_ble_eq_true rfl, Nat.le_of_ble_eq_true rfl⟩ rfl [0, 2] rfl rfl rfl (ws' := wd_Md_readSetupStatement cI a_t a_t_w a_t_wKept a_t_saved a_t_past a_t_input a_t_n a_t_order a_t_numbers a_t_output i_t_pastMany i_t_isSaved i_t_thrown i_t_inputMany i_t_lastError i_t_lastOffset i_t_error i_t_offset i_t_nextByte i_t_begin i_t_value i_t_token i_t_got i_t_orders i_t_outputMany i_t_w i_t_input i_t_n) rfl 0 11 rfl rfl rfl (st := []) rfl (Nat.le_of_ble_eq_true rfl) rd_Md_readSetupStatement_17 ?_ ⟨Nat.le_refl _, Nat.le_refl _⟩
    refine jk_if_eq (tgt := 28) C rd_Md_readSetupStatement_20 (by decide) hf (fun _ hf => ?_) (fun _ hf => ?_)
    · refine jk_aload_n C rd_Md_readSetupStatement_28 (k := 0) rfl ?_
      refine jk_ldcs C hZ hz rd_Md_readSetupStatement_29 (k := 30) rfl ?_
      obtain ⟨q31, hq31, hf⟩ := jk_bind_h hf
      refine jk_callVi C hZ.1 hz (ct_Md_isWord l D Z sq hZ cI cR a_t a_t_w a_t_wKept a_t_saved a_t_past a_t_input a_t_n a_t_order a_t_numbers a_t_output i_t_pastMany i_t_isSaved i_t_thrown i_t_inputMany i_t_lastError i_t_lastOffset i_t_error i_t_offset i_t_nextByte i_t_begin i_t_value i_t_token i_t_got i_t_orders i_t_outputMany i_t_input ([116, 111, 112]) ((sq 30)) ((jk_zs hZ (k := 30) rfl)) q31 hq31) tm_1387 tm_1389 sl_34 tm_15 tm_1390 na_Md_isWord ⟨Nat.le_of_ble_eq_true rfl, Nat.le_of_ble_eq_true rfl⟩ rfl [0, 2] rfl rfl rfl (ws' := wd_Md_readSetupStatement cI a_t a_t_w a_t_wKept a_t_saved a_t_past a_t_input a_t_n a_t_order a_t_numbers a_t_output i_t_pastMany i_t_isSaved i_t_thrown i_t_inputMany i_t_lastError i_t_lastOffset i_t_error i_t_offset i_t_nextByte i_t_begin i_t_value i_t_token i_t_got i_t_orders i_t_outputMany i_t_w i_t_input i_t_n) rfl 0 11 rfl rfl rfl (st := []) rfl (Nat.le_of_ble_eq_true rfl) rd_Md_readSetupStatement_31 ?_ ⟨Nat.le_refl _, Nat.le_refl _⟩
      refine jk_if_ne (tgt := 55) C rd_Md_readSetupStatement_34 (by decide) hf (fun _ hf => ?_) (fun _ hf => ?_)
      · refine jk_aload_n C rd_Md_readSetupStatement_55 (k := 0) rfl ?_
        obtain ⟨q56, hq56, hf⟩ := jk_bind_h hf
        refine jk_callVi C hZ.1 hz (ct_Md_readCord l D Z sq hZ cI cR a_t a_t_w a_t_wKept a_t_saved a_t_past a_t_input a_t_n a_t_order a_t_numbers a_t_output i_t_pastMany i_t_isSaved i_t_thrown i_t_inputMany i_t_lastError i_t_lastOffset i_t_error i_t_offset i_t_nextByte i_t_begin i_t_value i_t_token i_t_got i_t_orders i_t_outputMany i_t_w i_t_input i_t_n q56 hq56) tm_1425 tm_1427 sl_42 tm_15 tm_1428 na_Md_readCord ⟨Nat.le_of_ble_eq_true rfl, Nat.le_of_ble_eq_true rfl⟩ rfl [0, 1, 2, 3] rfl rfl rfl (ws' := wd_Md_readSetupStatement cI a_t a_t_w a_t_wKept a_t_saved a_t_past a_t_input a_t_n a_t_order a_t_numbers a_t_output i_t_pastMany i_t_isSaved i_t_thrown i_t_inputMany i_t_lastError i_t_lastOffset q56.2.2.1 q56.2.2.2.1 q56.2.2.2.2.1 q56.2.2.2.2.2.1 q56.2.2.2.2.2.2.1 q56.2.2.2.2.2.2.2.1 q56.2.2.2.2.2.2.2.2.1 i_t_orders i_t_outputMany q56.2.1 i_t_input q56.2.2.2.2.2.2.2.2.2) rfl 0 11 rfl rfl rfl (st := []) rfl (Nat.le_of_ble_eq_true rfl) rd_Md_readSetupStatement_56 ?_ ⟨Nat.le_refl _, Nat.le_refl _⟩
        refine jk_goto (tgt := 67) C rd_Md_readSetupStatement_59 (by decide) ?_
        obtain ⟨hbo, hf⟩ := jk_bo_h hf
        cases hf
        exact jk_zret C hbo rfl rd_Md_readSetupStatement_67 rfl
      · refine jk_aload_n C rd_Md_readSetupStatement_37 (k := 0) rfl ?_
        refine jk_ldcs C hZ hz rd_Md_readSetupStatement_38 (k := 31) rfl ?_
        obtain ⟨q40, hq40, hf⟩ := jk_bind_h hf
        refine jk_callVi C hZ.1 hz (ct_Md_isWord l D Z sq hZ cI cR a_t a_t_w a_t_wKept a_t_saved a_t_past a_t_input a_t_n a_t_order a_t_numbers a_t_output i_t_pastMany i_t_isSaved i_t_thrown i_t_inputMany i_t_lastError i_t_lastOffset i_t_error i_t_offset i_t_nextByte i_t_begin i_t_value i_t_token i_t_got i_t_orders i_t_outputMany i_t_input ([112, 101, 110, 100, 97, 110, 116]) ((sq 31)) ((jk_zs hZ (k := 31) rfl)) q40 hq40) tm_1387 tm_1389 sl_34 tm_15 tm_1390 na_Md_isWord ⟨Nat.le_of_ble_eq_true rfl, Nat.le_of_ble_eq_true rfl⟩ rfl [0, 2] rfl rfl rfl (ws' := wd_Md_readSetupStatement cI a_t a_t_w a_t_wKept a_t_saved a_t_past a_t_input a_t_n a_t_order a_t_numbers a_t_output i_t_pastMany i_t_isSaved i_t_thrown i_t_inputMany i_t_lastError i_t_lastOffset i_t_error i_t_offset i_t_nextByte i_t_begin i_t_value i_t_token i_t_got i_t_orders i_t_outputMany i_t_w i_t_input i_t_n) rfl 0 11 rfl rfl rfl (st := []) rfl (Nat.le_of_ble_eq_true rfl) rd_Md_readSetupStatement_40 ?_ ⟨Nat.le_refl _, Nat.le_refl _⟩
        refine jk_if_ne (tgt := 55) C rd_Md_readSetupStatement_43 (by decide) hf (fun _ hf => ?_) (fun _ hf => ?_)
        · refine jk_aload_n C rd_Md_readSetupStatement_55 (k := 0) rfl ?_
          obtain ⟨q56, hq56, hf⟩ := jk_bind_h hf
          refine jk_callVi C hZ.1 hz (ct_Md_readCord l D Z sq hZ cI cR a_t a_t_w a_t_wKept a_t_saved a_t_past a_t_input a_t_n a_t_order a_t_numbers a_t_output i_t_pastMany i_t_isSaved i_t_thrown i_t_inputMany i_t_lastError i_t_lastOffset i_t_error i_t_offset i_t_nextByte i_t_begin i_t_value i_t_token i_t_got i_t_orders i_t_outputMany i_t_w i_t_input i_t_n q56 hq56) tm_1425 tm_1427 sl_42 tm_15 tm_1428 na_Md_readCord ⟨Nat.le_of_ble_eq_true rfl, Nat.le_of_ble_eq_true rfl⟩ rfl [0, 1, 2, 3] rfl rfl rfl (ws' := wd_Md_readSetupStatement cI a_t a_t_w a_t_wKept a_t_saved a_t_past a_t_input a_t_n a_t_order a_t_numbers a_t_output i_t_pastMany i_t_isSaved i_t_thrown i_t_inputMany i_t_lastError i_t_lastOffset q56.2.2.1 q56.2.2.2.1 q56.2.2.2.2.1 q56.2.2.2.2.2.1 q56.2.2.2.2.2.2.1 q56.2.2.2.2.2.2.2.1 q56.2.2.2.2.2.2.2.2.1 i_t_orders i_t_outputMany q56.2.1 i_t_input q56.2.2.2.2.2.2.2.2.2) rfl 0 11 rfl rfl rfl (st := []) rfl (Nat.le_of_ble_eq_true rfl) rd_Md_readSetupStatement_56 ?_ ⟨Nat.le_refl _, Nat.le_refl _⟩
          refine jk_goto (tgt := 67) C rd_Md_readSetupStatement_59 (by decide) ?_
          obtain ⟨hbo, hf⟩ := jk_bo_h hf
          cases hf
          exact jk_zret C hbo rfl rd_Md_readSetupStatement_67 rfl
        · refine jk_aload_n C rd_Md_readSetupStatement_46 (k := 0) rfl ?_
          refine jk_ldcs C hZ hz rd_Md_readSetupStatement_47 (k := 32) rfl ?_
          obtain ⟨q49, hq49, hf⟩ := jk_bind_h hf
          refine jk_callVi C hZ.1 hz (ct_Md_isWord l D Z sq hZ cI cR a_t a_t_w a_t_wKept a_t_saved a_t_past a_t_input a_t_n a_t_order a_t_numbers a_t_output i_t_pastMany i_t_isSaved i_t_thrown i_t_inputMany i_t_lastError i_t_lastOffset i_t_error i_t_offset i_t_nextByte i_t_begin i_t_value i_t_token i_t_got i_t_orders i_t_outputMany i_t_input ([115, 117, 98]) ((sq 32)) ((jk_zs hZ (k := 32) rfl)) q49 hq49) tm_1387 tm_1389 sl_34 tm_15 tm_1390 na_Md_isWord ⟨Nat.le_of_ble_eq_true rfl, Nat.le_of_ble_eq_true rfl⟩ rfl [0, 2] rfl rfl rfl (ws' := wd_Md_readSetupStatement cI a_t a_t_w a_t_wKept a_t_saved a_t_past a_t_input a_t_n a_t_order a_t_numbers a_t_output i_t_pastMany i_t_isSaved i_t_thrown i_t_inputMany i_t_lastError i_t_lastOffset i_t_error i_t_offset i_t_nextByte i_t_begin i_t_value i_t_token i_t_got i_t_orders i_t_outputMany i_t_w i_t_input i_t_n) rfl 0 11 rfl rfl rfl (st := []) rfl (Nat.le_of_ble_eq_true rfl) rd_Md_readSetupStatement_49 ?_ ⟨Nat.le_refl _, Nat.le_refl _⟩
          refine jk_if_eq (tgt := 62) C rd_Md_readSetupStatement_52 (by decide) hf (fun _ hf => ?_) (fun _ hf => ?_)
          · refine jk_aload_n C rd_Md_readSetupStatement_62 (k := 0) rfl ?_
            refine jk_iconst C rd_Md_readSetupStatement_63 ?_
            obtain ⟨q64, hq64, hf⟩ := jk_bind_h hf
            refine jk_callVi C hZ.1 hz (ct_Md_failsAt l D Z sq hZ cI cR a_t a_t_w a_t_wKept a_t_saved a_t_past a_t_input a_t_n a_t_order a_t_numbers a_t_output i_t_pastMany i_t_isSaved i_t_thrown i_t_inputMany i_t_lastError i_t_lastOffset i_t_error i_t_offset i_t_nextByte i_t_begin i_t_value i_t_token i_t_got i_t_orders i_t_outputMany 1 q64 hq64) tm_1397 tm_1399 sl_36 tm_15 tm_1400 na_Md_failsAt ⟨Nat.le_of_ble_eq_true rfl, Nat.le_of_ble_eq_true rfl⟩ rfl [0] rfl rfl rfl (ws' := wd_Md_readSetupStatement cI a_t a_t_w a_t_wKept a_t_saved a_t_past a_t_input a_t_n a_t_order a_t_numbers a_t_output i_t_pastMany i_t_isSaved i_t_thrown i_t_inputMany i_t_lastError i_t_lastOffset q64.2.1 q64.2.2 i_t_nextByte i_t_begin i_t_value i_t_token i_t_got i_t_orders i_t_outputMany i_t_w i_t_input i_t_n) rfl 0 11 rfl rfl rfl (st := []) rfl (Nat.le_of_ble_eq_true rfl) rd_Md_readSetupStatement_64 ?_ ⟨Nat.le_refl _, Nat.le_refl _⟩
            obtain ⟨hbo, hf⟩ := jk_bo_h hf
            cases hf
            exact jk_zret C hbo rfl rd_Md_readSetupStatement_67 rfl
          · refine jk_aload_n C rd_Md_readSetupStatement_55 (k := 0) rfl ?_
            obtain ⟨q56, hq56, hf⟩ := jk_bind_h hf
            refine jk_callVi C hZ.1 hz (ct_Md_readCord l D Z sq hZ cI cR a_t a_t_w a_t_wKept a_t_saved a_t_past a_t_input a_t_n a_t_order a_t_numbers a_t_output i_t_pastMany i_t_isSaved i_t_thrown i_t_inputMany i_t_lastError i_t_lastOffset i_t_error i_t_offset i_t_nextByte i_t_begin i_t_value i_t_token i_t_got i_t_orders i_t_outputMany i_t_w i_t_input i_t_n q56 hq56) tm_1425 tm_1427 sl_42 tm_15 tm_1428 na_Md_readCord ⟨Nat.le_of_ble_eq_true rfl, Nat.le_of_ble_eq_true rfl⟩ rfl [0, 1, 2, 3] rfl rfl rfl (ws' := wd_Md_readSetupStatement cI a_t a_t_w a_t_wKept a_t_saved a_t_past a_t_input a_t_n a_t_order a_t_numbers a_t_output i_t_pastMany i_t_isSaved i_t_thrown i_t_inputMany i_t_lastError i_t_lastOffset q56.2.2.1 q56.2.2.2.1 q56.2.2.2.2.1 q56.2.2.2.2.2.1 q56.2.2.2.2.2.2.1 q56.2.2.2.2.2.2.2.1 q56.2.2.2.2.2.2.2.2.1 i_t_orders i_t_outputMany q56.2.1 i_t_input q56.2.2.2.2.2.2.2.2.2) rfl 0 11 rfl rfl rfl (st := []) rfl (Nat.le_of_ble_eq_true rfl) rd_Md_readSetupStatement_56 ?_ ⟨Nat.le_refl _, Nat.le_refl _⟩
            refine jk_goto (tgt := 67) C rd_Md_readSetupStatement_59 (by decide) ?_
            obtain ⟨hbo, hf⟩ := jk_bo_h hf
            cases hf
            exact jk_zret C hbo rfl rd_Md_readSetupStatement_67 rfl
    · refine jk_aload_n C rd_Md_readSetupStatement_23 (k := 0) rfl ?_
      obtain ⟨q24, hq24, hf⟩ := jk_bind_h hf
      refine jk_callVi C hZ.1 hz (ct_Md_readCluster l D Z sq hZ cI cR a_t a_t_w a_t_wKept a_t_saved a_t_past a_t_input a_t_n a_t_order a_t_numbers a_t_output i_t_pastMany i_t_isSaved i_t_thrown i_t_inputMany i_t_lastError i_t_lastOffset i_t_error i_t_offset i_t_nextByte i_t_begin i_t_value i_t_token i_t_got i_t_orders i_t_outputMany i_t_w i_t_input q24 hq24) tm_1418 tm_1420 sl_41 tm_15 tm_1421 na_Md_readCluster ⟨Nat.le_of_ble_eq_true rfl, Nat.le_of_ble_eq_true rfl⟩ rfl [0, 1, 2] rfl rfl rfl (ws' := wd_Md_readSetupStatement cI a_t a_t_w a_t_wKept a_t_saved a_t_past a_t_input a_t_n a_t_order a_t_numbers a_t_output i_t_pastMany i_t_isSaved i_t_thrown i_t_inputMany i_t_lastError i_t_lastOffset q24.2.2.1 q24.2.2.2.1 q24.2.2.2.2.1 q24.2.2.2.2.2.1 q24.2.2.2.2.2.2.1 q24.2.2.2.2.2.2.2 i_t_got i_t_orders i_t_outputMany q24.2.1 i_t_input i_t_n) rfl 0 11 rfl rfl rfl (st := []) rfl (Nat.le_of_ble_eq_true rfl) rd_Md_readSetupStatement_24 ?_ ⟨Nat.le_refl _, Nat.le_refl _⟩
      obtain ⟨hbo, hf⟩ := jk_bo_h hf
      cases hf
      exact jk_zret C hbo rfl rd_Md_readSetupStatement_27 rfl
  · refine jk_aload_n C rd_Md_readSetupStatement_9 (k := 0) rfl ?_
    obtain ⟨q10, hq10, hf⟩ := jk_bind_h hf
    refine jk_callVi C hZ.1 hz (ct_Md_readTopic l D Z sq hZ cI cR a_t a_t_w a_t_wKept a_t_saved a_t_past a_t_input a_t_n a_t_order a_t_numbers a_t_output i_t_pastMany i_t_isSaved i_t_thrown i_t_inputMany i_t_lastError i_t_lastOffset i_t_error i_t_offset i_t_nextByte i_t_begin i_t_value i_t_token i_t_got i_t_orders i_t_outputMany i_t_w i_t_input q10 hq10) tm_1393 tm_1395 sl_35 tm_15 tm_1396 na_Md_readTopic ⟨Nat.le_of_ble_eq_true rfl, Nat.le_of_ble_eq_true rfl⟩ rfl [0, 1, 2] rfl rfl rfl (ws' := wd_Md_readSetupStatement cI a_t a_t_w a_t_wKept a_t_saved a_t_past a_t_input a_t_n a_t_order a_t_numbers a_t_output i_t_pastMany i_t_isSaved i_t_thrown i_t_inputMany i_t_lastError i_t_lastOffset q10.2.2.1 q10.2.2.2.1 q10.2.2.2.2.1 q10.2.2.2.2.2.1 q10.2.2.2.2.2.2.1 q10.2.2.2.2.2.2.2 i_t_got i_t_orders i_t_outputMany q10.2.1 i_t_input i_t_n) rfl 0 11 rfl rfl rfl (st := []) rfl (Nat.le_of_ble_eq_true rfl) rd_Md_readSetupStatement_10 ?_ ⟨Nat.le_refl _, Nat.le_refl _⟩
    obtain ⟨hbo, hf⟩ := jk_bo_h hf
    cases hf
    exact jk_zret C hbo rfl rd_Md_readSetupStatement_13 rfl
def wd_Md_readText (cI : ClassId) (a_t a_t_w a_t_wKept a_t_saved a_t_past a_t_input a_t_n a_t_order a_t_numbers a_t_output : Nat) (i_t_pastMany : Int) (i_t_isSaved : Int) (i_t_thrown : Int) (i_t_inputMany : Int) (i_t_lastError : Int) (i_t_lastOffset : Int) (i_t_error : Int) (i_t_offset : Int) (i_t_nextByte : Int) (i_t_begin : Int) (i_t_value : Int) (i_t_token : Int) (i_t_got : Int) (i_t_orders : Int) (i_t_outputMany : Int) (i_t_w : (Int → Int)) (i_t_input : (Int → Int)) (i_t_n : (Int → Int)) : va_W := [(a_t, .inr (11, [.ref a_t_w, .ref a_t_wKept, .ref a_t_saved, .ref a_t_past, jk_V i_t_pastMany, jk_V i_t_isSaved, jk_V i_t_thrown, .ref a_t_input, jk_V i_t_inputMany, jk_V i_t_lastError, jk_V i_t_lastOffset, jk_V i_t_error, jk_V i_t_offset, jk_V i_t_nextByte, jk_V i_t_begin, jk_V i_t_value, jk_V i_t_token, jk_V i_t_got, .ref a_t_n, .ref a_t_order, .ref a_t_numbers, jk_V i_t_orders, .ref a_t_output, jk_V i_t_outputMany])), (a_t_w, jk_W cI 259 i_t_w), (a_t_input, jk_W cI 700 i_t_input), (a_t_n, jk_W cI 3 i_t_n)]
set_option maxHeartbeats 4000000 in
set_option maxRecDepth 20000 in
theorem ct_Md_readText (l : Launch) (D : va_G) (Z : (Nat → Prop) → State → Heap → Prop) (sq : Nat → Nat) (hZ : jk_ZK Z sq) (cI cR : ClassId) (a_t a_t_w a_t_wKept a_t_saved a_t_past a_t_input a_t_n a_t_order a_t_numbers a_t_output : Nat) (i_t_pastMany : Int) (i_t_isSaved : Int) (i_t_thrown : Int) (i_t_inputMany : Int) (i_t_lastError : Int) (i_t_lastOffset : Int) (i_t_error : Int) (i_t_offset : Int) (i_t_nextByte : Int) (i_t_begin : Int) (i_t_value : Int) (i_t_token : Int) (i_t_got : Int) (i_t_orders : Int) (i_t_outputMany : Int) (i_t_w : (Int → Int)) (i_t_input : (Int → Int)) (i_t_n : (Int → Int)) (q : Int × (Int → Int) × Int × Int × Int × Int × Int × Int × Int × (Int → Int)) (hf : fn_Md_readText i_t_w i_t_input i_t_inputMany i_t_error i_t_offset i_t_nextByte i_t_begin i_t_value i_t_token i_t_got i_t_n = some q) : jk_MI l D jk_cl (jk_ty cI cR) Z mn_Md_readText (.code mn_Md_readText mb_Md_readText 1 (some .boolean) :: jk_WA) (jk_rm 11 409) [.ref a_t] (wd_Md_readText cI a_t a_t_w a_t_wKept a_t_saved a_t_past a_t_input a_t_n a_t_order a_t_numbers a_t_output i_t_pastMany i_t_isSaved i_t_thrown i_t_inputMany i_t_lastError i_t_lastOffset i_t_error i_t_offset i_t_nextByte i_t_begin i_t_value i_t_token i_t_got i_t_orders i_t_outputMany i_t_w i_t_input i_t_n) (wd_Md_readText cI a_t a_t_w a_t_wKept a_t_saved a_t_past a_t_input a_t_n a_t_order a_t_numbers a_t_output i_t_pastMany i_t_isSaved i_t_thrown i_t_inputMany i_t_lastError i_t_lastOffset q.2.2.1 q.2.2.2.1 q.2.2.2.2.1 q.2.2.2.2.2.1 q.2.2.2.2.2.2.1 q.2.2.2.2.2.2.2.1 q.2.2.2.2.2.2.2.2.1 i_t_orders i_t_outputMany q.2.1 i_t_input q.2.2.2.2.2.2.2.2.2) q.1 := by
  intro sz
  refine jk_body (by decide +kernel) (fun p e s m args below meth c hsz hz hin C => ?_) (Nat.le_of_ble_eq_true rfl)
  subst hsz
  unfold fn_Md_readText at hf
  have bk_4 : ∀ (n : Nat) (t_w : (Int → Int)) (t_error : Int) (t_offset : Int) (t_nextByte : Int) (t_begin : Int) (t_value : Int) (t_token : Int) (t_got : Int) (t_n : (Int → Int)), fn_Md_readText_b4 n t_w i_t_input i_t_inputMany t_error t_offset t_nextByte t_begin t_value t_token t_got t_n = some q → jk_J p l e (jk_rm 11 409) s m args below meth c 0 0 (jk_QI below D jk_cl (jk_ty cI cR) (wd_Md_readText cI a_t a_t_w a_t_wKept a_t_saved a_t_past a_t_input a_t_n a_t_order a_t_numbers a_t_output i_t_pastMany i_t_isSaved i_t_thrown i_t_inputMany i_t_lastError i_t_lastOffset i_t_error i_t_offset i_t_nextByte i_t_begin i_t_value i_t_token i_t_got i_t_orders i_t_outputMany i_t_w i_t_input i_t_n) (wd_Md_readText cI a_t a_t_w a_t_wKept a_t_saved a_t_past a_t_input a_t_n a_t_order a_t_numbers a_t_output i_t_pastMany i_t_isSaved i_t_thrown i_t_inputMany i_t_lastError i_t_lastOffset q.2.2.1 q.2.2.2.1 q.2.2.2.2.1 q.2.2.2.2.2.1 q.2.2.2.2.2.2.1 q.2.2.2.2.2.2.2.1 q.2.2.2.2.2.2.2.2.1 i_t_orders i_t_outputMany q.2.1 i_t_input q.2.2.2.2.2.2.2.2.2) args s q.1) D jk_cl (va_A (wd_Md_readText cI a_t a_t_w a_t_wKept a_t_saved a_t_past a_t_input a_t_n a_t_order a_t_numbers a_t_output i_t_pastMany i_t_isSaved i_t_thrown i_t_inputMany i_t_lastError i_t_lastOffset i_t_error i_t_offset i_t_nextByte i_t_begin i_t_value i_t_token i_t_got i_t_orders i_t_outputMany i_t_w i_t_input i_t_n) s.heap.size) 1 (wd_Md_readText cI a_t a_t_w a_t_wKept a_t_saved a_t_past a_t_input a_t_n a_t_order a_t_numbers a_t_output i_t_pastMany i_t_isSaved i_t_thrown i_t_inputMany i_t_lastError i_t_lastOffset t_error t_offset t_nextByte t_begin t_value t_token t_got i_t_orders i_t_outputMany t_w i_t_input t_n) [(0, .ref a_t)] 4 [] := by
    intro n
    induction n with
    | zero => intro t_w t_error t_offset t_nextByte t_begin t_value t_token t_got t_n hf; exact nomatch (show none = some q from hf)
    | succ n ih =>
      intro t_w t_error t_offset t_nextByte t_begin t_value t_token t_got t_n hf
      rw [fn_Md_readText_b4] at hf
      refine jk_aload_n C rd_Md_readText_4 (k := 0) rfl ?_
      refine jk_get C in_Md (ci := 11) rfl 16 (by decide) tm_1279 0 rfl rfl rd_Md_readText_5 ?_
      refine jk_if_eq (tgt := 20) C rd_Md_readText_8 (by decide) hf (fun _ hf => ?_) (fun _ hf => ?_)
      · refine jk_aload_n C rd_Md_readText_20 (k := 0) rfl ?_
        refine jk_get C in_Md (ci := 11) rfl 0 (by decide) tm_1263 0 rfl rfl rd_Md_readText_21 ?_
        refine jk_iconst C rd_Md_readText_24 ?_
        refine jk_iald C 1 0 rfl rfl (Nat.le_of_ble_eq_true rfl) rd_Md_readText_25 hf (fun hf => ?_)
        refine jk_if_gt (tgt := 38) C rd_Md_readText_26 (by decide) hf (fun _ hf => ?_) (fun _ hf => ?_)
        · refine jk_iconst C rd_Md_readText_38 ?_
          refine jk_goto (tgt := 43) C rd_Md_readText_39 (by decide) ?_
          cases hf
          exact jk_zret C (Or.inr rfl) rfl rd_Md_readText_43 rfl
        · refine jk_aload_n C rd_Md_readText_29 (k := 0) rfl ?_
          refine jk_bipush C rd_Md_readText_30 (by decide +kernel) ?_
          obtain ⟨q32, hq32, hf⟩ := jk_bind_h hf
          refine jk_callVi C hZ.1 hz (ct_Md_failsAt l D Z sq hZ cI cR a_t a_t_w a_t_wKept a_t_saved a_t_past a_t_input a_t_n a_t_order a_t_numbers a_t_output i_t_pastMany i_t_isSaved i_t_thrown i_t_inputMany i_t_lastError i_t_lastOffset t_error t_offset t_nextByte t_begin t_value t_token t_got i_t_orders i_t_outputMany 7 q32 hq32) tm_1397 tm_1399 sl_36 tm_15 tm_1400 na_Md_failsAt ⟨Nat.le_of_ble_eq_true rfl, Nat.le_of_ble_eq_true rfl⟩ rfl [0] rfl rfl rfl (ws' := wd_Md_readText cI a_t a_t_w a_t_wKept a_t_saved a_t_past a_t_input a_t_n a_t_order a_t_numbers a_t_output i_t_pastMany i_t_isSaved i_t_thrown i_t_inputMany i_t_lastError i_t_lastOffset q32.2.1 q32.2.2 t_nextByte t_begin t_value t_token t_got i_t_orders i_t_outputMany t_w i_t_input t_n) rfl 0 11 rfl rfl rfl (st := []) rfl (Nat.le_of_ble_eq_true rfl) rd_Md_readText_32 ?_ ⟨Nat.le_refl _, Nat.le_refl _⟩
          refine jk_if_eq (tgt := 42) C rd_Md_readText_35 (by decide) hf (fun _ hf => ?_) (fun _ hf => ?_)
          · refine jk_iconst C rd_Md_readText_42 ?_
            cases hf
            exact jk_zret C (Or.inl rfl) rfl rd_Md_readText_43 rfl
          · refine jk_iconst C rd_Md_readText_38 ?_
            refine jk_goto (tgt := 43) C rd_Md_readText_39 (by decide) ?_
            cases hf
            exact jk_zret C (Or.inr rfl) rfl rd_Md_readText_43 rfl
      · refine jk_aload_n C rd_Md_readText_11 (k := 0) rfl ?_
        obtain ⟨q12, hq12, hf⟩ := jk_bind_h hf
        refine jk_callVi C hZ.1 hz (ct_Md_readSetupStatement l D Z sq hZ cI cR a_t a_t_w a_t_wKept a_t_saved a_t_past a_t_input a_t_n a_t_order a_t_numbers a_t_output i_t_pastMany i_t_isSaved i_t_thrown i_t_inputMany i_t_lastError i_t_lastOffset t_error t_offset t_nextByte t_begin t_value t_token t_got i_t_orders i_t_outputMany t_w i_t_input t_n q12 hq12) tm_1382 tm_1384 sl_33 tm_15 tm_1385 na_Md_readSetupStatement ⟨Nat.le_of_ble_eq_true rfl, Nat.le_of_ble_eq_true rfl⟩ rfl [0, 1, 2, 3] rfl rfl rfl (ws' := wd_Md_readText cI a_t a_t_w a_t_wKept a_t_saved a_t_past a_t_input a_t_n a_t_order a_t_numbers a_t_output i_t_pastMany i_t_isSaved i_t_thrown i_t_inputMany i_t_lastError i_t_lastOffset q12.2.2.1 q12.2.2.2.1 q12.2.2.2.2.1 q12.2.2.2.2.2.1 q12.2.2.2.2.2.2.1 q12.2.2.2.2.2.2.2.1 q12.2.2.2.2.2.2.2.2.1 i_t_orders i_t_outputMany q12.2.1 i_t_input q12.2.2.2.2.2.2.2.2.2) rfl 0 11 rfl rfl rfl (st := []) rfl (Nat.le_of_ble_eq_true rfl) rd_Md_readText_12 ?_ ⟨Nat.le_refl _, Nat.le_refl _⟩
        refine jk_if_ne (tgt := 4) C rd_Md_readText_15 (by decide) hf (fun _ hf => ?_) (fun _ hf => ?_)
        · refine jk_lv (lv' := [(0, .ref a_t)]) [0] rfl ?_
          exact ih q12.2.1 q12.2.2.1 q12.2.2.2.1 q12.2.2.2.2.1 q12.2.2.2.2.2.1 q12.2.2.2.2.2.2.1 q12.2.2.2.2.2.2.2.1 q12.2.2.2.2.2.2.2.2.1 q12.2.2.2.2.2.2.2.2.2 hf
        · refine jk_iconst C rd_Md_readText_18 ?_
          cases hf
          exact jk_zret C (Or.inl rfl) rfl rd_Md_readText_19 rfl
  refine jk_aload_n C rd_Md_readText_0 (k := 0) rfl ?_
  obtain ⟨q1, hq1, hf⟩ := jk_bind_h hf
  refine jk_callVv C hZ.1 hz (ct_Md_begins l D Z sq hZ cI cR a_t a_t_w a_t_wKept a_t_saved a_t_past a_t_input a_t_n a_t_order a_t_numbers a_t_output i_t_pastMany i_t_isSaved i_t_thrown i_t_inputMany i_t_lastError i_t_lastOffset i_t_error i_t_offset i_t_nextByte i_t_begin i_t_value i_t_token i_t_got i_t_orders i_t_outputMany i_t_w q1 hq1) tm_1228 tm_1230 sl_19 tm_15 tm_1231 na_Md_begins ⟨Nat.le_of_ble_eq_true rfl, Nat.le_of_ble_eq_true rfl⟩ rfl [0, 1] rfl rfl rfl (ws' := wd_Md_readText cI a_t a_t_w a_t_wKept a_t_saved a_t_past a_t_input a_t_n a_t_order a_t_numbers a_t_output i_t_pastMany i_t_isSaved i_t_thrown i_t_inputMany i_t_lastError i_t_lastOffset i_t_error i_t_offset i_t_nextByte i_t_begin i_t_value i_t_token i_t_got i_t_orders i_t_outputMany q1 i_t_input i_t_n) rfl 0 11 rfl rfl rfl (st := []) rfl (Nat.le_of_ble_eq_true rfl) rd_Md_readText_1 ?_ ⟨Nat.le_refl _, Nat.le_refl _⟩
  refine jk_lv (lv' := [(0, .ref a_t)]) [0] rfl ?_
  exact bk_4 jk_F q1 i_t_error i_t_offset i_t_nextByte i_t_begin i_t_value i_t_token i_t_got i_t_n hf
def wd_Md_startsText (cI : ClassId) (a_t a_t_w a_t_wKept a_t_saved a_t_past a_t_input a_t_n a_t_order a_t_numbers a_t_output : Nat) (i_t_pastMany : Int) (i_t_isSaved : Int) (i_t_thrown : Int) (i_t_inputMany : Int) (i_t_lastError : Int) (i_t_lastOffset : Int) (i_t_error : Int) (i_t_offset : Int) (i_t_nextByte : Int) (i_t_begin : Int) (i_t_value : Int) (i_t_token : Int) (i_t_got : Int) (i_t_orders : Int) (i_t_outputMany : Int) (i_t_input : (Int → Int)) : va_W := [(a_t, .inr (11, [.ref a_t_w, .ref a_t_wKept, .ref a_t_saved, .ref a_t_past, jk_V i_t_pastMany, jk_V i_t_isSaved, jk_V i_t_thrown, .ref a_t_input, jk_V i_t_inputMany, jk_V i_t_lastError, jk_V i_t_lastOffset, jk_V i_t_error, jk_V i_t_offset, jk_V i_t_nextByte, jk_V i_t_begin, jk_V i_t_value, jk_V i_t_token, jk_V i_t_got, .ref a_t_n, .ref a_t_order, .ref a_t_numbers, jk_V i_t_orders, .ref a_t_output, jk_V i_t_outputMany])), (a_t_input, jk_W cI 700 i_t_input)]
set_option maxHeartbeats 4000000 in
set_option maxRecDepth 20000 in
theorem ct_Md_startsText (l : Launch) (D : va_G) (Z : (Nat → Prop) → State → Heap → Prop) (sq : Nat → Nat) (hZ : jk_ZK Z sq) (cI cR : ClassId) (a_t a_t_w a_t_wKept a_t_saved a_t_past a_t_input a_t_n a_t_order a_t_numbers a_t_output : Nat) (i_t_pastMany : Int) (i_t_isSaved : Int) (i_t_thrown : Int) (i_t_inputMany : Int) (i_t_lastError : Int) (i_t_lastOffset : Int) (i_t_error : Int) (i_t_offset : Int) (i_t_nextByte : Int) (i_t_begin : Int) (i_t_value : Int) (i_t_token : Int) (i_t_got : Int) (i_t_orders : Int) (i_t_outputMany : Int) (i_t_input : (Int → Int)) (q : Int × Int × Int × Int × Int × Int × Int) (hf : fn_Md_startsText i_t_input i_t_inputMany i_t_error i_t_offset i_t_nextByte i_t_begin i_t_value i_t_token i_t_orders = some q) : jk_MV l D jk_cl (jk_ty cI cR) Z mn_Md_startsText (.code mn_Md_startsText mb_Md_startsText 1 none :: jk_WA) (jk_rm 3 64) [.ref a_t] (wd_Md_startsText cI a_t a_t_w a_t_wKept a_t_saved a_t_past a_t_input a_t_n a_t_order a_t_numbers a_t_output i_t_pastMany i_t_isSaved i_t_thrown i_t_inputMany i_t_lastError i_t_lastOffset i_t_error i_t_offset i_t_nextByte i_t_begin i_t_value i_t_token i_t_got i_t_orders i_t_outputMany i_t_input) (wd_Md_startsText cI a_t a_t_w a_t_wKept a_t_saved a_t_past a_t_input a_t_n a_t_order a_t_numbers a_t_output i_t_pastMany i_t_isSaved i_t_thrown i_t_inputMany i_t_lastError i_t_lastOffset q.1 q.2.1 q.2.2.1 q.2.2.2.1 q.2.2.2.2.1 q.2.2.2.2.2.1 i_t_got q.2.2.2.2.2.2 i_t_outputMany i_t_input) := by
  intro sz
  refine jk_body (by decide +kernel) (fun p e s m args below meth c hsz hz hin C => ?_) (Nat.le_of_ble_eq_true rfl)
  subst hsz
  unfold fn_Md_startsText at hf
  refine jk_aload_n C rd_Md_startsText_0 (k := 0) rfl ?_
  refine jk_iconst C rd_Md_startsText_1 ?_
  refine jk_putf C in_Md ty_Md nm_Md (ci := 11) rfl 11 (by decide) tm_1274 rfl rfl rfl 0 rfl (Nat.le_of_ble_eq_true rfl) rd_Md_startsText_2 (ws' := wd_Md_startsText cI a_t a_t_w a_t_wKept a_t_saved a_t_past a_t_input a_t_n a_t_order a_t_numbers a_t_output i_t_pastMany i_t_isSaved i_t_thrown i_t_inputMany i_t_lastError i_t_lastOffset 0 i_t_offset i_t_nextByte i_t_begin i_t_value i_t_token i_t_got i_t_orders i_t_outputMany i_t_input) rfl ?_
  refine jk_aload_n C rd_Md_startsText_5 (k := 0) rfl ?_
  refine jk_iconst C rd_Md_startsText_6 ?_
  refine jk_putf C in_Md ty_Md nm_Md (ci := 11) rfl 12 (by decide) tm_1275 rfl rfl rfl 0 rfl (Nat.le_of_ble_eq_true rfl) rd_Md_startsText_7 (ws' := wd_Md_startsText cI a_t a_t_w a_t_wKept a_t_saved a_t_past a_t_input a_t_n a_t_order a_t_numbers a_t_output i_t_pastMany i_t_isSaved i_t_thrown i_t_inputMany i_t_lastError i_t_lastOffset 0 ((-1)) i_t_nextByte i_t_begin i_t_value i_t_token i_t_got i_t_orders i_t_outputMany i_t_input) rfl ?_
  refine jk_aload_n C rd_Md_startsText_10 (k := 0) rfl ?_
  refine jk_iconst C rd_Md_startsText_11 ?_
  refine jk_putf C in_Md ty_Md nm_Md (ci := 11) rfl 21 (by decide) tm_1284 rfl rfl rfl 0 rfl (Nat.le_of_ble_eq_true rfl) rd_Md_startsText_12 (ws' := wd_Md_startsText cI a_t a_t_w a_t_wKept a_t_saved a_t_past a_t_input a_t_n a_t_order a_t_numbers a_t_output i_t_pastMany i_t_isSaved i_t_thrown i_t_inputMany i_t_lastError i_t_lastOffset 0 ((-1)) i_t_nextByte i_t_begin i_t_value i_t_token i_t_got 0 i_t_outputMany i_t_input) rfl ?_
  refine jk_aload_n C rd_Md_startsText_15 (k := 0) rfl ?_
  refine jk_iconst C rd_Md_startsText_16 ?_
  refine jk_putf C in_Md ty_Md nm_Md (ci := 11) rfl 13 (by decide) tm_1276 rfl rfl rfl 0 rfl (Nat.le_of_ble_eq_true rfl) rd_Md_startsText_17 (ws' := wd_Md_startsText cI a_t a_t_w a_t_wKept a_t_saved a_t_past a_t_input a_t_n a_t_order a_t_numbers a_t_output i_t_pastMany i_t_isSaved i_t_thrown i_t_inputMany i_t_lastError i_t_lastOffset 0 ((-1)) 0 i_t_begin i_t_value i_t_token i_t_got 0 i_t_outputMany i_t_input) rfl ?_
  refine jk_aload_n C rd_Md_startsText_20 (k := 0) rfl ?_
  obtain ⟨q21, hq21, hf⟩ := jk_bind_h hf
  refine jk_callVv C hZ.1 hz (ct_Md_advanceToken l D Z sq hZ cI cR a_t a_t_w a_t_wKept a_t_saved a_t_past a_t_input a_t_n a_t_order a_t_numbers a_t_output i_t_pastMany i_t_isSaved i_t_thrown i_t_inputMany i_t_lastError i_t_lastOffset 0 ((-1)) 0 i_t_begin i_t_value i_t_token i_t_got 0 i_t_outputMany i_t_input q21 hq21) tm_1366 tm_1368 sl_29 tm_15 tm_1369 na_Md_advanceToken ⟨Nat.le_of_ble_eq_true rfl, Nat.le_of_ble_eq_true rfl⟩ rfl [0, 1] rfl rfl rfl (ws' := wd_Md_startsText cI a_t a_t_w a_t_wKept a_t_saved a_t_past a_t_input a_t_n a_t_order a_t_numbers a_t_output i_t_pastMany i_t_isSaved i_t_thrown i_t_inputMany i_t_lastError i_t_lastOffset 0 ((-1)) q21.1 q21.2.1 q21.2.2.1 q21.2.2.2 i_t_got 0 i_t_outputMany i_t_input) rfl 0 11 rfl rfl rfl (st := []) rfl (Nat.le_of_ble_eq_true rfl) rd_Md_startsText_21 ?_ ⟨Nat.le_refl _, Nat.le_refl _⟩
  cases hf
  exact jk_vret C rfl rd_Md_startsText_24 rfl
def wd_Md_endsText (cI : ClassId) (a_t a_t_w a_t_wKept a_t_saved a_t_past a_t_input a_t_n a_t_order a_t_numbers a_t_output : Nat) (i_t_pastMany : Int) (i_t_isSaved : Int) (i_t_thrown : Int) (i_t_inputMany : Int) (i_t_lastError : Int) (i_t_lastOffset : Int) (i_t_error : Int) (i_t_offset : Int) (i_t_nextByte : Int) (i_t_begin : Int) (i_t_value : Int) (i_t_token : Int) (i_t_got : Int) (i_t_orders : Int) (i_t_outputMany : Int) : va_W := [(a_t, .inr (11, [.ref a_t_w, .ref a_t_wKept, .ref a_t_saved, .ref a_t_past, jk_V i_t_pastMany, jk_V i_t_isSaved, jk_V i_t_thrown, .ref a_t_input, jk_V i_t_inputMany, jk_V i_t_lastError, jk_V i_t_lastOffset, jk_V i_t_error, jk_V i_t_offset, jk_V i_t_nextByte, jk_V i_t_begin, jk_V i_t_value, jk_V i_t_token, jk_V i_t_got, .ref a_t_n, .ref a_t_order, .ref a_t_numbers, jk_V i_t_orders, .ref a_t_output, jk_V i_t_outputMany]))]
set_option maxHeartbeats 4000000 in
set_option maxRecDepth 20000 in
theorem ct_Md_endsText (l : Launch) (D : va_G) (Z : (Nat → Prop) → State → Heap → Prop) (sq : Nat → Nat) (hZ : jk_ZK Z sq) (cI cR : ClassId) (a_t a_t_w a_t_wKept a_t_saved a_t_past a_t_input a_t_n a_t_order a_t_numbers a_t_output : Nat) (i_t_pastMany : Int) (i_t_isSaved : Int) (i_t_thrown : Int) (i_t_inputMany : Int) (i_t_lastError : Int) (i_t_lastOffset : Int) (i_t_error : Int) (i_t_offset : Int) (i_t_nextByte : Int) (i_t_begin : Int) (i_t_value : Int) (i_t_token : Int) (i_t_got : Int) (i_t_orders : Int) (i_t_outputMany : Int) (q : Int × Int × Int) (hf : fn_Md_endsText i_t_inputMany i_t_lastError i_t_lastOffset i_t_error i_t_offset = some q) : jk_MV l D jk_cl (jk_ty cI cR) Z mn_Md_endsText (.code mn_Md_endsText mb_Md_endsText 1 none :: jk_WA) (jk_rm 0 0) [.ref a_t] (wd_Md_endsText cI a_t a_t_w a_t_wKept a_t_saved a_t_past a_t_input a_t_n a_t_order a_t_numbers a_t_output i_t_pastMany i_t_isSaved i_t_thrown i_t_inputMany i_t_lastError i_t_lastOffset i_t_error i_t_offset i_t_nextByte i_t_begin i_t_value i_t_token i_t_got i_t_orders i_t_outputMany) (wd_Md_endsText cI a_t a_t_w a_t_wKept a_t_saved a_t_past a_t_input a_t_n a_t_order a_t_numbers a_t_output i_t_pastMany i_t_isSaved i_t_thrown q.1 q.2.1 q.2.2 i_t_error i_t_offset i_t_nextByte i_t_begin i_t_value i_t_token i_t_got i_t_orders i_t_outputMany) := by
  intro sz
  refine jk_body (by decide +kernel) (fun p e s m args below meth c hsz hz hin C => ?_) (Nat.le_of_ble_eq_true rfl)
  subst hsz
  unfold fn_Md_endsText at hf
  refine jk_aload_n C rd_Md_endsText_0 (k := 0) rfl ?_
  refine jk_iconst C rd_Md_endsText_1 ?_
  refine jk_putf C in_Md ty_Md nm_Md (ci := 11) rfl 8 (by decide) tm_1271 rfl rfl rfl 0 rfl (Nat.le_of_ble_eq_true rfl) rd_Md_endsText_2 (ws' := wd_Md_endsText cI a_t a_t_w a_t_wKept a_t_saved a_t_past a_t_input a_t_n a_t_order a_t_numbers a_t_output i_t_pastMany i_t_isSaved i_t_thrown 0 i_t_lastError i_t_lastOffset i_t_error i_t_offset i_t_nextByte i_t_begin i_t_value i_t_token i_t_got i_t_orders i_t_outputMany) rfl ?_
  refine jk_aload_n C rd_Md_endsText_5 (k := 0) rfl ?_
  refine jk_aload_n C rd_Md_endsText_6 (k := 0) rfl ?_
  refine jk_get C in_Md (ci := 11) rfl 11 (by decide) tm_1274 0 rfl rfl rd_Md_endsText_7 ?_
  refine jk_putf C in_Md ty_Md nm_Md (ci := 11) rfl 9 (by decide) tm_1272 rfl rfl rfl 0 rfl (Nat.le_of_ble_eq_true rfl) rd_Md_endsText_10 (ws' := wd_Md_endsText cI a_t a_t_w a_t_wKept a_t_saved a_t_past a_t_input a_t_n a_t_order a_t_numbers a_t_output i_t_pastMany i_t_isSaved i_t_thrown 0 i_t_error i_t_lastOffset i_t_error i_t_offset i_t_nextByte i_t_begin i_t_value i_t_token i_t_got i_t_orders i_t_outputMany) rfl ?_
  refine jk_aload_n C rd_Md_endsText_13 (k := 0) rfl ?_
  refine jk_aload_n C rd_Md_endsText_14 (k := 0) rfl ?_
  refine jk_get C in_Md (ci := 11) rfl 12 (by decide) tm_1275 0 rfl rfl rd_Md_endsText_15 ?_
  refine jk_putf C in_Md ty_Md nm_Md (ci := 11) rfl 10 (by decide) tm_1273 rfl rfl rfl 0 rfl (Nat.le_of_ble_eq_true rfl) rd_Md_endsText_18 (ws' := wd_Md_endsText cI a_t a_t_w a_t_wKept a_t_saved a_t_past a_t_input a_t_n a_t_order a_t_numbers a_t_output i_t_pastMany i_t_isSaved i_t_thrown 0 i_t_error i_t_offset i_t_error i_t_offset i_t_nextByte i_t_begin i_t_value i_t_token i_t_got i_t_orders i_t_outputMany) rfl ?_
  cases hf
  exact jk_vret C rfl rd_Md_endsText_21 rfl
def wd_Md_loadCords (cI : ClassId) (a_t a_t_w a_t_wKept a_t_saved a_t_past a_t_input a_t_n a_t_order a_t_numbers a_t_output : Nat) (i_t_pastMany : Int) (i_t_isSaved : Int) (i_t_thrown : Int) (i_t_inputMany : Int) (i_t_lastError : Int) (i_t_lastOffset : Int) (i_t_error : Int) (i_t_offset : Int) (i_t_nextByte : Int) (i_t_begin : Int) (i_t_value : Int) (i_t_token : Int) (i_t_got : Int) (i_t_orders : Int) (i_t_outputMany : Int) (i_t_w : (Int → Int)) (i_t_wKept : (Int → Int)) (i_t_input : (Int → Int)) (i_t_n : (Int → Int)) : va_W := [(a_t, .inr (11, [.ref a_t_w, .ref a_t_wKept, .ref a_t_saved, .ref a_t_past, jk_V i_t_pastMany, jk_V i_t_isSaved, jk_V i_t_thrown, .ref a_t_input, jk_V i_t_inputMany, jk_V i_t_lastError, jk_V i_t_lastOffset, jk_V i_t_error, jk_V i_t_offset, jk_V i_t_nextByte, jk_V i_t_begin, jk_V i_t_value, jk_V i_t_token, jk_V i_t_got, .ref a_t_n, .ref a_t_order, .ref a_t_numbers, jk_V i_t_orders, .ref a_t_output, jk_V i_t_outputMany])), (a_t_w, jk_W cI 259 i_t_w), (a_t_wKept, jk_W cI 259 i_t_wKept), (a_t_input, jk_W cI 700 i_t_input), (a_t_n, jk_W cI 3 i_t_n)]
set_option maxHeartbeats 4000000 in
set_option maxRecDepth 20000 in
theorem ct_Md_loadCords (l : Launch) (D : va_G) (Z : (Nat → Prop) → State → Heap → Prop) (sq : Nat → Nat) (hZ : jk_ZK Z sq) (cI cR : ClassId) (a_t a_t_w a_t_wKept a_t_saved a_t_past a_t_input a_t_n a_t_order a_t_numbers a_t_output : Nat) (i_t_pastMany : Int) (i_t_isSaved : Int) (i_t_thrown : Int) (i_t_inputMany : Int) (i_t_lastError : Int) (i_t_lastOffset : Int) (i_t_error : Int) (i_t_offset : Int) (i_t_nextByte : Int) (i_t_begin : Int) (i_t_value : Int) (i_t_token : Int) (i_t_got : Int) (i_t_orders : Int) (i_t_outputMany : Int) (i_t_w : (Int → Int)) (i_t_wKept : (Int → Int)) (i_t_input : (Int → Int)) (i_t_n : (Int → Int)) (q : Int × (Int → Int) × (Int → Int) × Int × Int × Int × Int × Int × Int × Int × Int × Int × Int × Int × Int × Int × (Int → Int) × Int) (hf : fn_Md_loadCords i_t_w i_t_wKept i_t_pastMany i_t_isSaved i_t_thrown i_t_input i_t_inputMany i_t_lastError i_t_lastOffset i_t_error i_t_offset i_t_nextByte i_t_begin i_t_value i_t_token i_t_got i_t_n i_t_orders = some q) : jk_MI l D jk_cl (jk_ty cI cR) Z mn_Md_loadCords (.code mn_Md_loadCords mb_Md_loadCords 2 (some .int) :: jk_WA) (jk_rm 12 429) [.ref a_t] (wd_Md_loadCords cI a_t a_t_w a_t_wKept a_t_saved a_t_past a_t_input a_t_n a_t_order a_t_numbers a_t_output i_t_pastMany i_t_isSaved i_t_thrown i_t_inputMany i_t_lastError i_t_lastOffset i_t_error i_t_offset i_t_nextByte i_t_begin i_t_value i_t_token i_t_got i_t_orders i_t_outputMany i_t_w i_t_wKept i_t_input i_t_n) (wd_Md_loadCords cI a_t a_t_w a_t_wKept a_t_saved a_t_past a_t_input a_t_n a_t_order a_t_numbers a_t_output q.2.2.2.1 q.2.2.2.2.1 q.2.2.2.2.2.1 q.2.2.2.2.2.2.1 q.2.2.2.2.2.2.2.1 q.2.2.2.2.2.2.2.2.1 q.2.2.2.2.2.2.2.2.2.1 q.2.2.2.2.2.2.2.2.2.2.1 q.2.2.2.2.2.2.2.2.2.2.2.1 q.2.2.2.2.2.2.2.2.2.2.2.2.1 q.2.2.2.2.2.2.2.2.2.2.2.2.2.1 q.2.2.2.2.2.2.2.2.2.2.2.2.2.2.1 q.2.2.2.2.2.2.2.2.2.2.2.2.2.2.2.1 q.2.2.2.2.2.2.2.2.2.2.2.2.2.2.2.2.2 i_t_outputMany q.2.1 q.2.2.1 i_t_input q.2.2.2.2.2.2.2.2.2.2.2.2.2.2.2.2.1) q.1 := by
  intro sz
  refine jk_body (by decide +kernel) (fun p e s m args below meth c hsz hz hin C => ?_) (Nat.le_of_ble_eq_true rfl)
  subst hsz
  unfold fn_Md_loadCords at hf
  refine jk_aload_n C rd_Md_loadCords_0 (k := 0) rfl ?_
  refine jk_iconst C rd_Md_loadCords_1 ?_
  refine jk_putf C in_Md ty_Md nm_Md (ci := 11) rfl 6 (by decide) tm_1269 rfl rfl rfl 0 rfl (Nat.le_of_ble_eq_true rfl) rd_Md_loadCords_2 (ws' := wd_Md_loadCords cI a_t a_t_w a_t_wKept a_t_saved a_t_past a_t_input a_t_n a_t_order a_t_numbers a_t_output i_t_pastMany i_t_isSaved 0 i_t_inputMany i_t_lastError i_t_lastOffset i_t_error i_t_offset i_t_nextByte i_t_begin i_t_value i_t_token i_t_got i_t_orders i_t_outputMany i_t_w i_t_wKept i_t_input i_t_n) rfl ?_
  refine jk_aload_n C rd_Md_loadCords_5 (k := 0) rfl ?_
  refine jk_get C in_Md (ci := 11) rfl 0 (by decide) tm_1263 0 rfl rfl rd_Md_loadCords_6 ?_
  refine jk_iconst C rd_Md_loadCords_9 ?_
  refine jk_aload_n C rd_Md_loadCords_10 (k := 0) rfl ?_
  refine jk_get C in_Md (ci := 11) rfl 1 (by decide) tm_1264 0 rfl rfl rd_Md_loadCords_11 ?_
  refine jk_iconst C rd_Md_loadCords_14 ?_
  obtain ⟨q15, hq15, hf⟩ := jk_bind_h hf
  refine jk_callSv C hZ.1 hz (ct_Md_copies l D Z sq hZ cI cR (n_a := 259) (n_b := 259) (Nat.le_of_ble_eq_true rfl) (Nat.le_of_ble_eq_true rfl) a_t_w a_t_wKept i_t_w i_t_wKept 0 0 q15 hq15) tm_1359 tm_1360 tm_15 tm_1361 na_Md_copies ⟨Nat.le_of_ble_eq_true rfl, Nat.le_of_ble_eq_true rfl⟩ rfl [1, 2] rfl rfl rfl (ws' := wd_Md_loadCords cI a_t a_t_w a_t_wKept a_t_saved a_t_past a_t_input a_t_n a_t_order a_t_numbers a_t_output i_t_pastMany i_t_isSaved 0 i_t_inputMany i_t_lastError i_t_lastOffset i_t_error i_t_offset i_t_nextByte i_t_begin i_t_value i_t_token i_t_got i_t_orders i_t_outputMany i_t_w q15 i_t_input i_t_n) rfl (st := []) rfl (Nat.le_of_ble_eq_true rfl) rd_Md_loadCords_15 ?_ ⟨Nat.le_refl _, Nat.le_refl _⟩
  refine jk_aload_n C rd_Md_loadCords_18 (k := 0) rfl ?_
  obtain ⟨q19, hq19, hf⟩ := jk_bind_h hf
  refine jk_callVv C hZ.1 hz (ct_Md_startsText l D Z sq hZ cI cR a_t a_t_w a_t_wKept a_t_saved a_t_past a_t_input a_t_n a_t_order a_t_numbers a_t_output i_t_pastMany i_t_isSaved 0 i_t_inputMany i_t_lastError i_t_lastOffset i_t_error i_t_offset i_t_nextByte i_t_begin i_t_value i_t_token i_t_got i_t_orders i_t_outputMany i_t_input q19 hq19) tm_1362 tm_1364 sl_28 tm_15 tm_1365 na_Md_startsText ⟨Nat.le_of_ble_eq_true rfl, Nat.le_of_ble_eq_true rfl⟩ rfl [0, 3] rfl rfl rfl (ws' := wd_Md_loadCords cI a_t a_t_w a_t_wKept a_t_saved a_t_past a_t_input a_t_n a_t_order a_t_numbers a_t_output i_t_pastMany i_t_isSaved 0 i_t_inputMany i_t_lastError i_t_lastOffset q19.1 q19.2.1 q19.2.2.1 q19.2.2.2.1 q19.2.2.2.2.1 q19.2.2.2.2.2.1 i_t_got q19.2.2.2.2.2.2 i_t_outputMany i_t_w q15 i_t_input i_t_n) rfl 0 11 rfl rfl rfl (st := []) rfl (Nat.le_of_ble_eq_true rfl) rd_Md_loadCords_19 ?_ ⟨Nat.le_refl _, Nat.le_refl _⟩
  refine jk_aload_n C rd_Md_loadCords_22 (k := 0) rfl ?_
  obtain ⟨q23, hq23, hf⟩ := jk_bind_h hf
  refine jk_callVi C hZ.1 hz (ct_Md_readText l D Z sq hZ cI cR a_t a_t_w a_t_wKept a_t_saved a_t_past a_t_input a_t_n a_t_order a_t_numbers a_t_output i_t_pastMany i_t_isSaved 0 i_t_inputMany i_t_lastError i_t_lastOffset q19.1 q19.2.1 q19.2.2.1 q19.2.2.2.1 q19.2.2.2.2.1 q19.2.2.2.2.2.1 i_t_got q19.2.2.2.2.2.2 i_t_outputMany i_t_w i_t_input i_t_n q23 hq23) tm_1378 tm_1380 sl_32 tm_15 tm_1381 na_Md_readText ⟨Nat.le_of_ble_eq_true rfl, Nat.le_of_ble_eq_true rfl⟩ rfl [0, 1, 3, 4] rfl rfl rfl (ws' := wd_Md_loadCords cI a_t a_t_w a_t_wKept a_t_saved a_t_past a_t_input a_t_n a_t_order a_t_numbers a_t_output i_t_pastMany i_t_isSaved 0 i_t_inputMany i_t_lastError i_t_lastOffset q23.2.2.1 q23.2.2.2.1 q23.2.2.2.2.1 q23.2.2.2.2.2.1 q23.2.2.2.2.2.2.1 q23.2.2.2.2.2.2.2.1 q23.2.2.2.2.2.2.2.2.1 q19.2.2.2.2.2.2 i_t_outputMany q23.2.1 q15 i_t_input q23.2.2.2.2.2.2.2.2.2) rfl 0 11 rfl rfl rfl (st := []) rfl (Nat.le_of_ble_eq_true rfl) rd_Md_loadCords_23 ?_ ⟨Nat.le_refl _, Nat.le_refl _⟩
  refine jk_istore_n C rd_Md_loadCords_26 (by decide) (lv' := [(1, jk_V q23.1), (0, .ref a_t)]) rfl ?_
  refine jk_aload_n C rd_Md_loadCords_27 (k := 1) rfl ?_
  obtain ⟨q28, hq28, hf⟩ := jk_bind_h hf
  refine jk_callVv C hZ.1 hz (ct_Md_endsText l D Z sq hZ cI cR a_t a_t_w a_t_wKept a_t_saved a_t_past a_t_input a_t_n a_t_order a_t_numbers a_t_output i_t_pastMany i_t_isSaved 0 i_t_inputMany i_t_lastError i_t_lastOffset q23.2.2.1 q23.2.2.2.1 q23.2.2.2.2.1 q23.2.2.2.2.2.1 q23.2.2.2.2.2.2.1 q23.2.2.2.2.2.2.2.1 q23.2.2.2.2.2.2.2.2.1 q19.2.2.2.2.2.2 i_t_outputMany q28 hq28) tm_1478 tm_1480 sl_55 tm_15 tm_1481 na_Md_endsText ⟨Nat.le_of_ble_eq_true rfl, Nat.le_of_ble_eq_true rfl⟩ rfl [0] rfl rfl rfl (ws' := wd_Md_loadCords cI a_t a_t_w a_t_wKept a_t_saved a_t_past a_t_input a_t_n a_t_order a_t_numbers a_t_output i_t_pastMany i_t_isSaved 0 q28.1 q28.2.1 q28.2.2 q23.2.2.1 q23.2.2.2.1 q23.2.2.2.2.1 q23.2.2.2.2.2.1 q23.2.2.2.2.2.2.1 q23.2.2.2.2.2.2.2.1 q23.2.2.2.2.2.2.2.2.1 q19.2.2.2.2.2.2 i_t_outputMany q23.2.1 q15 i_t_input q23.2.2.2.2.2.2.2.2.2) rfl 0 11 rfl rfl rfl (st := []) rfl (Nat.le_of_ble_eq_true rfl) rd_Md_loadCords_28 ?_ ⟨Nat.le_refl _, Nat.le_refl _⟩
  refine jk_iload_n C rd_Md_loadCords_31 (k := 0) rfl ?_
  refine jk_if_ne (tgt := 50) C rd_Md_loadCords_32 (by decide) hf (fun _ hf => ?_) (fun _ hf => ?_)
  · refine jk_aload_n C rd_Md_loadCords_50 (k := 1) rfl ?_
    refine jk_iconst C rd_Md_loadCords_51 ?_
    refine jk_putf C in_Md ty_Md nm_Md (ci := 11) rfl 4 (by decide) tm_1267 rfl rfl rfl 0 rfl (Nat.le_of_ble_eq_true rfl) rd_Md_loadCords_52 (ws' := wd_Md_loadCords cI a_t a_t_w a_t_wKept a_t_saved a_t_past a_t_input a_t_n a_t_order a_t_numbers a_t_output 0 i_t_isSaved 0 q28.1 q28.2.1 q28.2.2 q23.2.2.1 q23.2.2.2.1 q23.2.2.2.2.1 q23.2.2.2.2.2.1 q23.2.2.2.2.2.2.1 q23.2.2.2.2.2.2.2.1 q23.2.2.2.2.2.2.2.2.1 q19.2.2.2.2.2.2 i_t_outputMany q23.2.1 q15 i_t_input q23.2.2.2.2.2.2.2.2.2) rfl ?_
    refine jk_aload_n C rd_Md_loadCords_55 (k := 1) rfl ?_
    refine jk_iconst C rd_Md_loadCords_56 ?_
    refine jk_putf C in_Md ty_Md nm_Md (ci := 11) rfl 5 (by decide) tm_1268 rfl (jk_narrow_bool (Or.inl rfl)) (by decide +kernel) 0 rfl (Nat.le_of_ble_eq_true rfl) rd_Md_loadCords_57 (ws' := wd_Md_loadCords cI a_t a_t_w a_t_wKept a_t_saved a_t_past a_t_input a_t_n a_t_order a_t_numbers a_t_output 0 0 0 q28.1 q28.2.1 q28.2.2 q23.2.2.1 q23.2.2.2.1 q23.2.2.2.2.1 q23.2.2.2.2.2.1 q23.2.2.2.2.2.2.1 q23.2.2.2.2.2.2.2.1 q23.2.2.2.2.2.2.2.2.1 q19.2.2.2.2.2.2 i_t_outputMany q23.2.1 q15 i_t_input q23.2.2.2.2.2.2.2.2.2) rfl ?_
    refine jk_aload_n C rd_Md_loadCords_60 (k := 1) rfl ?_
    refine jk_get C in_Md (ci := 11) rfl 0 (by decide) tm_1263 0 rfl rfl rd_Md_loadCords_61 ?_
    refine jk_iconst C rd_Md_loadCords_64 ?_
    refine jk_iald C 1 0 rfl rfl (Nat.le_of_ble_eq_true rfl) rd_Md_loadCords_65 hf (fun hf => ?_)
    cases hf
    exact jk_iret C rfl rd_Md_loadCords_66 rfl
  · refine jk_aload_n C rd_Md_loadCords_35 (k := 1) rfl ?_
    refine jk_get C in_Md (ci := 11) rfl 1 (by decide) tm_1264 0 rfl rfl rd_Md_loadCords_36 ?_
    refine jk_iconst C rd_Md_loadCords_39 ?_
    refine jk_aload_n C rd_Md_loadCords_40 (k := 1) rfl ?_
    refine jk_get C in_Md (ci := 11) rfl 0 (by decide) tm_1263 0 rfl rfl rd_Md_loadCords_41 ?_
    refine jk_iconst C rd_Md_loadCords_44 ?_
    obtain ⟨q45, hq45, hf⟩ := jk_bind_h hf
    refine jk_callSv C hZ.1 hz (ct_Md_copies l D Z sq hZ cI cR (n_a := 259) (n_b := 259) (Nat.le_of_ble_eq_true rfl) (Nat.le_of_ble_eq_true rfl) a_t_wKept a_t_w q15 q23.2.1 0 0 q45 hq45) tm_1359 tm_1360 tm_15 tm_1361 na_Md_copies ⟨Nat.le_of_ble_eq_true rfl, Nat.le_of_ble_eq_true rfl⟩ rfl [2, 1] rfl rfl rfl (ws' := wd_Md_loadCords cI a_t a_t_w a_t_wKept a_t_saved a_t_past a_t_input a_t_n a_t_order a_t_numbers a_t_output i_t_pastMany i_t_isSaved 0 q28.1 q28.2.1 q28.2.2 q23.2.2.1 q23.2.2.2.1 q23.2.2.2.2.1 q23.2.2.2.2.2.1 q23.2.2.2.2.2.2.1 q23.2.2.2.2.2.2.2.1 q23.2.2.2.2.2.2.2.2.1 q19.2.2.2.2.2.2 i_t_outputMany q45 q15 i_t_input q23.2.2.2.2.2.2.2.2.2) rfl (st := []) rfl (Nat.le_of_ble_eq_true rfl) rd_Md_loadCords_45 ?_ ⟨Nat.le_refl _, Nat.le_refl _⟩
    refine jk_iconst C rd_Md_loadCords_48 ?_
    cases hf
    exact jk_iret C rfl rd_Md_loadCords_49 rfl
def wd_Md_scriptHere (cI : ClassId) (a_t a_t_w a_t_wKept a_t_saved a_t_past a_t_input a_t_n a_t_order a_t_numbers a_t_output : Nat) (i_t_pastMany : Int) (i_t_isSaved : Int) (i_t_thrown : Int) (i_t_inputMany : Int) (i_t_lastError : Int) (i_t_lastOffset : Int) (i_t_error : Int) (i_t_offset : Int) (i_t_nextByte : Int) (i_t_begin : Int) (i_t_value : Int) (i_t_token : Int) (i_t_got : Int) (i_t_orders : Int) (i_t_outputMany : Int) (i_t_input : (Int → Int)) : va_W := [(a_t, .inr (11, [.ref a_t_w, .ref a_t_wKept, .ref a_t_saved, .ref a_t_past, jk_V i_t_pastMany, jk_V i_t_isSaved, jk_V i_t_thrown, .ref a_t_input, jk_V i_t_inputMany, jk_V i_t_lastError, jk_V i_t_lastOffset, jk_V i_t_error, jk_V i_t_offset, jk_V i_t_nextByte, jk_V i_t_begin, jk_V i_t_value, jk_V i_t_token, jk_V i_t_got, .ref a_t_n, .ref a_t_order, .ref a_t_numbers, jk_V i_t_orders, .ref a_t_output, jk_V i_t_outputMany])), (a_t_input, jk_W cI 700 i_t_input)]
set_option maxHeartbeats 4000000 in
set_option maxRecDepth 20000 in
theorem ct_Md_scriptHere (l : Launch) (D : va_G) (Z : (Nat → Prop) → State → Heap → Prop) (sq : Nat → Nat) (hZ : jk_ZK Z sq) (cI cR : ClassId) (a_t a_t_w a_t_wKept a_t_saved a_t_past a_t_input a_t_n a_t_order a_t_numbers a_t_output : Nat) (i_t_pastMany : Int) (i_t_isSaved : Int) (i_t_thrown : Int) (i_t_inputMany : Int) (i_t_lastError : Int) (i_t_lastOffset : Int) (i_t_error : Int) (i_t_offset : Int) (i_t_nextByte : Int) (i_t_begin : Int) (i_t_value : Int) (i_t_token : Int) (i_t_got : Int) (i_t_orders : Int) (i_t_outputMany : Int) (i_t_input : (Int → Int)) (q : Int) (hf : fn_Md_scriptHere i_t_input i_t_nextByte i_t_begin i_t_token = some q) : jk_MI l D jk_cl (jk_ty cI cR) Z mn_Md_scriptHere (.code mn_Md_scriptHere mb_Md_scriptHere 1 (some .int) :: jk_WA) (jk_rm 7 322) [.ref a_t] (wd_Md_scriptHere cI a_t a_t_w a_t_wKept a_t_saved a_t_past a_t_input a_t_n a_t_order a_t_numbers a_t_output i_t_pastMany i_t_isSaved i_t_thrown i_t_inputMany i_t_lastError i_t_lastOffset i_t_error i_t_offset i_t_nextByte i_t_begin i_t_value i_t_token i_t_got i_t_orders i_t_outputMany i_t_input) (wd_Md_scriptHere cI a_t a_t_w a_t_wKept a_t_saved a_t_past a_t_input a_t_n a_t_order a_t_numbers a_t_output i_t_pastMany i_t_isSaved i_t_thrown i_t_inputMany i_t_lastError i_t_lastOffset i_t_error i_t_offset i_t_nextByte i_t_begin i_t_value i_t_token i_t_got i_t_orders i_t_outputMany i_t_input) q := by
  intro sz
  refine jk_body (by decide +kernel) (fun p e s m args below meth c hsz hz hin C => ?_) (Nat.le_of_ble_eq_true rfl)
  subst hsz
  unfold fn_Md_scriptHere at hf
  refine jk_aload_n C rd_Md_scriptHere_0 (k := 0) rfl ?_
  refine jk_ldcs C hZ hz rd_Md_scriptHere_1 (k := 29) rfl ?_
  obtain ⟨q3, hq3, hf⟩ := jk_bind_h hf
  refine jk_callVi C hZ.1 hz (ct_Md_isWord l D Z sq hZ cI cR a_t a_t_w a_t_wKept a_t_saved a_t_past a_t_input a_t_n a_t_order a_t_numbers a_t_output i_t_pastMany i_t_isSaved i_t_thrown i_t_inputMany i_t_lastError i_t_lastOffset i_t_error i_t_offset i_t_nextByte i_t_begin i_t_value i_t_token i_t_got i_t_orders i_t_outputMany i_t_input ([99, 108, 117, 115, 116, 101, 114]) ((sq 29)) ((jk_zs hZ (k := 29) rfl)) q3 hq3) tm_1387 tm_1389 sl_34 tm_15 tm_1390 na_Md_isWord ⟨Nat.le_of_ble_eq_true rfl, Nat.le_of_ble_eq_true rfl⟩ rfl [0, 1] rfl rfl rfl (ws' := wd_Md_scriptHere cI a_t a_t_w a_t_wKept a_t_saved a_t_past a_t_input a_t_n a_t_order a_t_numbers a_t_output i_t_pastMany i_t_isSaved i_t_thrown i_t_inputMany i_t_lastError i_t_lastOffset i_t_error i_t_offset i_t_nextByte i_t_begin i_t_value i_t_token i_t_got i_t_orders i_t_outputMany i_t_input) rfl 0 11 rfl rfl rfl (st := []) rfl (Nat.le_of_ble_eq_true rfl) rd_Md_scriptHere_3 ?_ ⟨Nat.le_refl _, Nat.le_refl _⟩
  refine jk_if_eq (tgt := 11) C rd_Md_scriptHere_6 (by decide) hf (fun _ hf => ?_) (fun _ hf => ?_)
  · refine jk_aload_n C rd_Md_scriptHere_11 (k := 0) rfl ?_
    refine jk_ldcs C hZ hz rd_Md_scriptHere_12 (k := 31) rfl ?_
    obtain ⟨q14, hq14, hf⟩ := jk_bind_h hf
    refine jk_callVi C hZ.1 hz (ct_Md_isWord l D Z sq hZ cI cR a_t a_t_w a_t_wKept a_t_saved a_t_past a_t_input a_t_n a_t_order a_t_numbers a_t_output i_t_pastMany i_t_isSaved i_t_thrown i_t_inputMany i_t_lastError i_t_lastOffset i_t_error i_t_offset i_t_nextByte i_t_begin i_t_value i_t_token i_t_got i_t_orders i_t_outputMany i_t_input ([112, 101, 110, 100, 97, 110, 116]) ((sq 31)) ((jk_zs hZ (k := 31) rfl)) q14 hq14) tm_1387 tm_1389 sl_34 tm_15 tm_1390 na_Md_isWord ⟨Nat.le_of_ble_eq_true rfl, Nat.le_of_ble_eq_true rfl⟩ rfl [0, 1] rfl rfl rfl (ws' := wd_Md_scriptHere cI a_t a_t_w a_t_wKept a_t_saved a_t_past a_t_input a_t_n a_t_order a_t_numbers a_t_output i_t_pastMany i_t_isSaved i_t_thrown i_t_inputMany i_t_lastError i_t_lastOffset i_t_error i_t_offset i_t_nextByte i_t_begin i_t_value i_t_token i_t_got i_t_orders i_t_outputMany i_t_input) rfl 0 11 rfl rfl rfl (st := []) rfl (Nat.le_of_ble_eq_true rfl) rd_Md_scriptHere_14 ?_ ⟨Nat.le_refl _, Nat.le_refl _⟩
    refine jk_if_eq (tgt := 22) C rd_Md_scriptHere_17 (by decide) hf (fun _ hf => ?_) (fun _ hf => ?_)
    · refine jk_aload_n C rd_Md_scriptHere_22 (k := 0) rfl ?_
      refine jk_ldcs C hZ hz rd_Md_scriptHere_23 (k := 32) rfl ?_
      obtain ⟨q25, hq25, hf⟩ := jk_bind_h hf
      refine jk_callVi C hZ.1 hz (ct_Md_isWord l D Z sq hZ cI cR a_t a_t_w a_t_wKept a_t_saved a_t_past a_t_input a_t_n a_t_order a_t_numbers a_t_output i_t_pastMany i_t_isSaved i_t_thrown i_t_inputMany i_t_lastError i_t_lastOffset i_t_error i_t_offset i_t_nextByte i_t_begin i_t_value i_t_token i_t_got i_t_orders i_t_outputMany i_t_input ([115, 117, 98]) ((sq 32)) ((jk_zs hZ (k := 32) rfl)) q25 hq25) tm_1387 tm_1389 sl_34 tm_15 tm_1390 na_Md_isWord ⟨Nat.le_of_ble_eq_true rfl, Nat.le_of_ble_eq_true rfl⟩ rfl [0, 1] rfl rfl rfl (ws' := wd_Md_scriptHere cI a_t a_t_w a_t_wKept a_t_saved a_t_past a_t_input a_t_n a_t_order a_t_numbers a_t_output i_t_pastMany i_t_isSaved i_t_thrown i_t_inputMany i_t_lastError i_t_lastOffset i_t_error i_t_offset i_t_nextByte i_t_begin i_t_value i_t_token i_t_got i_t_orders i_t_outputMany i_t_input) rfl 0 11 rfl rfl rfl (st := []) rfl (Nat.le_of_ble_eq_true rfl) rd_Md_scriptHere_25 ?_ ⟨Nat.le_refl _, Nat.le_refl _⟩
      refine jk_if_eq (tgt := 33) C rd_Md_scriptHere_28 (by decide) hf (fun _ hf => ?_) (fun _ hf => ?_)
      · refine jk_aload_n C rd_Md_scriptHere_33 (k := 0) rfl ?_
        refine jk_ldcs_w C hZ hz rd_Md_scriptHere_34 (k := 34) rfl ?_
        obtain ⟨q37, hq37, hf⟩ := jk_bind_h hf
        refine jk_callVi C hZ.1 hz (ct_Md_isWord l D Z sq hZ cI cR a_t a_t_w a_t_wKept a_t_saved a_t_past a_t_input a_t_n a_t_order a_t_numbers a_t_output i_t_pastMany i_t_isSaved i_t_thrown i_t_inputMany i_t_lastError i_t_lastOffset i_t_error i_t_offset i_t_nextByte i_t_begin i_t_value i_t_token i_t_got i_t_orders i_t_outputMany i_t_input ([99, 117, 116]) ((sq 34)) ((jk_zs hZ (k := 34) rfl)) q37 hq37) tm_1387 tm_1389 sl_34 tm_15 tm_1390 na_Md_isWord ⟨Nat.le_of_ble_eq_true rfl, Nat.le_of_ble_eq_true rfl⟩ rfl [0, 1] rfl rfl rfl (ws' := wd_Md_scriptHere cI a_t a_t_w a_t_wKept a_t_saved a_t_past a_t_input a_t_n a_t_order a_t_numbers a_t_output i_t_pastMany i_t_isSaved i_t_thrown i_t_inputMany i_t_lastError i_t_lastOffset i_t_error i_t_offset i_t_nextByte i_t_begin i_t_value i_t_token i_t_got i_t_orders i_t_outputMany i_t_input) rfl 0 11 rfl rfl rfl (st := []) rfl (Nat.le_of_ble_eq_true rfl) rd_Md_scriptHere_37 ?_ ⟨Nat.le_refl _, Nat.le_refl _⟩
        refine jk_if_eq (tgt := 45) C rd_Md_scriptHere_40 (by decide) hf (fun _ hf => ?_) (fun _ hf => ?_)
        · refine jk_aload_n C rd_Md_scriptHere_45 (k := 0) rfl ?_
          refine jk_ldcs_w C hZ hz rd_Md_scriptHere_46 (k := 35) rfl ?_
          obtain ⟨q49, hq49, hf⟩ := jk_bind_h hf
          refine jk_callVi C hZ.1 hz (ct_Md_isWord l D Z sq hZ cI cR a_t a_t_w a_t_wKept a_t_saved a_t_past a_t_input a_t_n a_t_order a_t_numbers a_t_output i_t_pastMany i_t_isSaved i_t_thrown i_t_inputMany i_t_lastError i_t_lastOffset i_t_error i_t_offset i_t_nextByte i_t_begin i_t_value i_t_token i_t_got i_t_orders i_t_outputMany i_t_input ([116, 105, 101]) ((sq 35)) ((jk_zs hZ (k := 35) rfl)) q49 hq49) tm_1387 tm_1389 sl_34 tm_15 tm_1390 na_Md_isWord ⟨Nat.le_of_ble_eq_true rfl, Nat.le_of_ble_eq_true rfl⟩ rfl [0, 1] rfl rfl rfl (ws' := wd_Md_scriptHere cI a_t a_t_w a_t_wKept a_t_saved a_t_past a_t_input a_t_n a_t_order a_t_numbers a_t_output i_t_pastMany i_t_isSaved i_t_thrown i_t_inputMany i_t_lastError i_t_lastOffset i_t_error i_t_offset i_t_nextByte i_t_begin i_t_value i_t_token i_t_got i_t_orders i_t_outputMany i_t_input) rfl 0 11 rfl rfl rfl (st := []) rfl (Nat.le_of_ble_eq_true rfl) rd_Md_scriptHere_49 ?_ ⟨Nat.le_refl _, Nat.le_refl _⟩
          refine jk_if_eq (tgt := 57) C rd_Md_scriptHere_52 (by decide) hf (fun _ hf => ?_) (fun _ hf => ?_)
          · refine jk_aload_n C rd_Md_scriptHere_57 (k := 0) rfl ?_
            refine jk_ldcs_w C hZ hz rd_Md_scriptHere_58 (k := 36) rfl ?_
            obtain ⟨q61, hq61, hf⟩ := jk_bind_h hf
            refine jk_callVi C hZ.1 hz (ct_Md_isWord l D Z sq hZ cI cR a_t a_t_w a_t_wKept a_t_saved a_t_past a_t_input a_t_n a_t_order a_t_numbers a_t_output i_t_pastMany i_t_isSaved i_t_thrown i_t_inputMany i_t_lastError i_t_lastOffset i_t_error i_t_offset i_t_nextByte i_t_begin i_t_value i_t_token i_t_got i_t_orders i_t_outputMany i_t_input ([107, 110, 111, 116]) ((sq 36)) ((jk_zs hZ (k := 36) rfl)) q61 hq61) tm_1387 tm_1389 sl_34 tm_15 tm_1390 na_Md_isWord ⟨Nat.le_of_ble_eq_true rfl, Nat.le_of_ble_eq_true rfl⟩ rfl [0, 1] rfl rfl rfl (ws' := wd_Md_scriptHere cI a_t a_t_w a_t_wKept a_t_saved a_t_past a_t_input a_t_n a_t_order a_t_numbers a_t_output i_t_pastMany i_t_isSaved i_t_thrown i_t_inputMany i_t_lastError i_t_lastOffset i_t_error i_t_offset i_t_nextByte i_t_begin i_t_value i_t_token i_t_got i_t_orders i_t_outputMany i_t_input) rfl 0 11 rfl rfl rfl (st := []) rfl (Nat.le_of_ble_eq_true rfl) rd_Md_scriptHere_61 ?_ ⟨Nat.le_refl _, Nat.le_refl _⟩
            refine jk_if_eq (tgt := 70) C rd_Md_scriptHere_64 (by decide) hf (fun _ hf => ?_) (fun _ hf => ?_)
            · refine jk_aload_n C rd_Md_scriptHere_70 (k := 0) rfl ?_
              refine jk_ldcs_w C hZ hz rd_Md_scriptHere_71 (k := 37) rfl ?_
              obtain ⟨q74, hq74, hf⟩ := jk_bind_h hf
              refine jk_callVi C hZ.1 hz (ct_Md_isWord l D Z sq hZ cI cR a_t a_t_w a_t_wKept a_t_saved a_t_past a_t_input a_t_n a_t_order a_t_numbers a_t_output i_t_pastMany i_t_isSaved i_t_thrown i_t_inputMany i_t_lastError i_t_lastOffset i_t_error i_t_offset i_t_nextByte i_t_begin i_t_value i_t_token i_t_got i_t_orders i_t_outputMany i_t_input ([110, 105, 98, 98, 108, 101]) ((sq 37)) ((jk_zs hZ (k := 37) rfl)) q74 hq74) tm_1387 tm_1389 sl_34 tm_15 tm_1390 na_Md_isWord ⟨Nat.le_of_ble_eq_true rfl, Nat.le_of_ble_eq_true rfl⟩ rfl [0, 1] rfl rfl rfl (ws' := wd_Md_scriptHere cI a_t a_t_w a_t_wKept a_t_saved a_t_past a_t_input a_t_n a_t_order a_t_numbers a_t_output i_t_pastMany i_t_isSaved i_t_thrown i_t_inputMany i_t_lastError i_t_lastOffset i_t_error i_t_offset i_t_nextByte i_t_begin i_t_value i_t_token i_t_got i_t_orders i_t_outputMany i_t_input) rfl 0 11 rfl rfl rfl (st := []) rfl (Nat.le_of_ble_eq_true rfl) rd_Md_scriptHere_74 ?_ ⟨Nat.le_refl _, Nat.le_refl _⟩
              refine jk_if_eq (tgt := 83) C rd_Md_scriptHere_77 (by decide) hf (fun _ hf => ?_) (fun _ hf => ?_)
              · refine jk_aload_n C rd_Md_scriptHere_83 (k := 0) rfl ?_
                refine jk_ldcs_w C hZ hz rd_Md_scriptHere_84 (k := 38) rfl ?_
                obtain ⟨q87, hq87, hf⟩ := jk_bind_h hf
                refine jk_callVi C hZ.1 hz (ct_Md_isWord l D Z sq hZ cI cR a_t a_t_w a_t_wKept a_t_saved a_t_past a_t_input a_t_n a_t_order a_t_numbers a_t_output i_t_pastMany i_t_isSaved i_t_thrown i_t_inputMany i_t_lastError i_t_lastOffset i_t_error i_t_offset i_t_nextByte i_t_begin i_t_value i_t_token i_t_got i_t_orders i_t_outputMany i_t_input ([100, 121, 101]) ((sq 38)) ((jk_zs hZ (k := 38) rfl)) q87 hq87) tm_1387 tm_1389 sl_34 tm_15 tm_1390 na_Md_isWord ⟨Nat.le_of_ble_eq_true rfl, Nat.le_of_ble_eq_true rfl⟩ rfl [0, 1] rfl rfl rfl (ws' := wd_Md_scriptHere cI a_t a_t_w a_t_wKept a_t_saved a_t_past a_t_input a_t_n a_t_order a_t_numbers a_t_output i_t_pastMany i_t_isSaved i_t_thrown i_t_inputMany i_t_lastError i_t_lastOffset i_t_error i_t_offset i_t_nextByte i_t_begin i_t_value i_t_token i_t_got i_t_orders i_t_outputMany i_t_input) rfl 0 11 rfl rfl rfl (st := []) rfl (Nat.le_of_ble_eq_true rfl) rd_Md_scriptHere_87 ?_ ⟨Nat.le_refl _, Nat.le_refl _⟩
                refine jk_if_eq (tgt := 96) C rd_Md_scriptHere_90 (by decide) hf (fun _ hf => ?_) (fun _ hf => ?_)
                · refine jk_aload_n C rd_Md_scriptHere_96 (k := 0) rfl ?_
                  refine jk_ldcs_w C hZ hz rd_Md_scriptHere_97 (k := 39) rfl ?_
                  obtain ⟨q100, hq100, hf⟩ := jk_bind_h hf
                  refine jk_callVi C hZ.1 hz (ct_Md_isWord l D Z sq hZ cI cR a_t a_t_w a_t_wKept a_t_saved a_t_past a_t_input a_t_n a_t_order a_t_numbers a_t_output i_t_pastMany i_t_isSaved i_t_thrown i_t_inputMany i_t_lastError i_t_lastOffset i_t_error i_t_offset i_t_nextByte i_t_begin i_t_value i_t_token i_t_got i_t_orders i_t_outputMany i_t_input ([114, 101, 112, 97, 105, 114]) ((sq 39)) ((jk_zs hZ (k := 39) rfl)) q100 hq100) tm_1387 tm_1389 sl_34 tm_15 tm_1390 na_Md_isWord ⟨Nat.le_of_ble_eq_true rfl, Nat.le_of_ble_eq_true rfl⟩ rfl [0, 1] rfl rfl rfl (ws' := wd_Md_scriptHere cI a_t a_t_w a_t_wKept a_t_saved a_t_past a_t_input a_t_n a_t_order a_t_numbers a_t_output i_t_pastMany i_t_isSaved i_t_thrown i_t_inputMany i_t_lastError i_t_lastOffset i_t_error i_t_offset i_t_nextByte i_t_begin i_t_value i_t_token i_t_got i_t_orders i_t_outputMany i_t_input) rfl 0 11 rfl rfl rfl (st := []) rfl (Nat.le_of_ble_eq_true rfl) rd_Md_scriptHere_100 ?_ ⟨Nat.le_refl _, Nat.le_refl _⟩
                  refine jk_if_eq (tgt := 111) C rd_Md_scriptHere_103 (by decide) hf (fun _ hf => ?_) (fun _ hf => ?_)
                  · refine jk_iconst C rd_Md_scriptHere_111 ?_
                    cases hf
                    exact jk_iret C rfl rd_Md_scriptHere_112 rfl
                  · refine jk_bipush C rd_Md_scriptHere_106 (by decide +kernel) ?_
                    refine jk_goto (tgt := 112) C rd_Md_scriptHere_108 (by decide) ?_
                    cases hf
                    exact jk_iret C rfl rd_Md_scriptHere_112 rfl
                · refine jk_bipush C rd_Md_scriptHere_93 (by decide +kernel) ?_
                  cases hf
                  exact jk_iret C rfl rd_Md_scriptHere_95 rfl
              · refine jk_bipush C rd_Md_scriptHere_80 (by decide +kernel) ?_
                cases hf
                exact jk_iret C rfl rd_Md_scriptHere_82 rfl
            · refine jk_bipush C rd_Md_scriptHere_67 (by decide +kernel) ?_
              cases hf
              exact jk_iret C rfl rd_Md_scriptHere_69 rfl
          · refine jk_iconst C rd_Md_scriptHere_55 ?_
            cases hf
            exact jk_iret C rfl rd_Md_scriptHere_56 rfl
        · refine jk_iconst C rd_Md_scriptHere_43 ?_
          cases hf
          exact jk_iret C rfl rd_Md_scriptHere_44 rfl
      · refine jk_iconst C rd_Md_scriptHere_31 ?_
        cases hf
        exact jk_iret C rfl rd_Md_scriptHere_32 rfl
    · refine jk_iconst C rd_Md_scriptHere_20 ?_
      cases hf
      exact jk_iret C rfl rd_Md_scriptHere_21 rfl
  · refine jk_iconst C rd_Md_scriptHere_9 ?_
    cases hf
    exact jk_iret C rfl rd_Md_scriptHere_10 rfl
def wd_Md_takesCluster (cI : ClassId) (a_t a_t_w a_t_wKept a_t_saved a_t_past a_t_input a_t_n a_t_order a_t_numbers a_t_output : Nat) (i_t_pastMany : Int) (i_t_isSaved : Int) (i_t_thrown : Int) (i_t_inputMany : Int) (i_t_lastError : Int) (i_t_lastOffset : Int) (i_t_error : Int) (i_t_offset : Int) (i_t_nextByte : Int) (i_t_begin : Int) (i_t_value : Int) (i_t_token : Int) (i_t_got : Int) (i_t_orders : Int) (i_t_outputMany : Int) (i_t_input : (Int → Int)) (i_t_n : (Int → Int)) : va_W := [(a_t, .inr (11, [.ref a_t_w, .ref a_t_wKept, .ref a_t_saved, .ref a_t_past, jk_V i_t_pastMany, jk_V i_t_isSaved, jk_V i_t_thrown, .ref a_t_input, jk_V i_t_inputMany, jk_V i_t_lastError, jk_V i_t_lastOffset, jk_V i_t_error, jk_V i_t_offset, jk_V i_t_nextByte, jk_V i_t_begin, jk_V i_t_value, jk_V i_t_token, jk_V i_t_got, .ref a_t_n, .ref a_t_order, .ref a_t_numbers, jk_V i_t_orders, .ref a_t_output, jk_V i_t_outputMany])), (a_t_input, jk_W cI 700 i_t_input), (a_t_n, jk_W cI 3 i_t_n)]
set_option maxHeartbeats 4000000 in
set_option maxRecDepth 20000 in
theorem ct_Md_takesCluster (l : Launch) (D : va_G) (Z : (Nat → Prop) → State → Heap → Prop) (sq : Nat → Nat) (hZ : jk_ZK Z sq) (cI cR : ClassId) (a_t a_t_w a_t_wKept a_t_saved a_t_past a_t_input a_t_n a_t_order a_t_numbers a_t_output : Nat) (i_t_pastMany : Int) (i_t_isSaved : Int) (i_t_thrown : Int) (i_t_inputMany : Int) (i_t_lastError : Int) (i_t_lastOffset : Int) (i_t_error : Int) (i_t_offset : Int) (i_t_nextByte : Int) (i_t_begin : Int) (i_t_value : Int) (i_t_token : Int) (i_t_got : Int) (i_t_orders : Int) (i_t_outputMany : Int) (i_t_input : (Int → Int)) (i_t_n : (Int → Int)) (q : Int × Int × Int × Int × Int × Int × Int × Int × (Int → Int)) (hf : fn_Md_takesCluster i_t_input i_t_inputMany i_t_error i_t_offset i_t_nextByte i_t_begin i_t_value i_t_token i_t_got i_t_n = some q) : jk_MI l D jk_cl (jk_ty cI cR) Z mn_Md_takesCluster (.code mn_Md_takesCluster mb_Md_takesCluster 1 (some .boolean) :: jk_WA) (jk_rm 5 109) [.ref a_t] (wd_Md_takesCluster cI a_t a_t_w a_t_wKept a_t_saved a_t_past a_t_input a_t_n a_t_order a_t_numbers a_t_output i_t_pastMany i_t_isSaved i_t_thrown i_t_inputMany i_t_lastError i_t_lastOffset i_t_error i_t_offset i_t_nextByte i_t_begin i_t_value i_t_token i_t_got i_t_orders i_t_outputMany i_t_input i_t_n) (wd_Md_takesCluster cI a_t a_t_w a_t_wKept a_t_saved a_t_past a_t_input a_t_n a_t_order a_t_numbers a_t_output i_t_pastMany i_t_isSaved i_t_thrown i_t_inputMany i_t_lastError i_t_lastOffset q.2.1 q.2.2.1 q.2.2.2.1 q.2.2.2.2.1 q.2.2.2.2.2.1 q.2.2.2.2.2.2.1 q.2.2.2.2.2.2.2.1 i_t_orders i_t_outputMany i_t_input q.2.2.2.2.2.2.2.2) q.1 := by
  intro sz
  refine jk_body (by decide +kernel) (fun p e s m args below meth c hsz hz hin C => ?_) (Nat.le_of_ble_eq_true rfl)
  subst hsz
  unfold fn_Md_takesCluster at hf
  refine jk_aload_n C rd_Md_takesCluster_0 (k := 0) rfl ?_
  refine jk_iconst C rd_Md_takesCluster_1 ?_
  refine jk_iconst C rd_Md_takesCluster_2 ?_
  refine jk_iconst C rd_Md_takesCluster_3 ?_
  obtain ⟨q4, hq4, hf⟩ := jk_bind_h hf
  refine jk_callVi C hZ.1 hz (ct_Md_takes l D Z sq hZ cI cR a_t a_t_w a_t_wKept a_t_saved a_t_past a_t_input a_t_n a_t_order a_t_numbers a_t_output i_t_pastMany i_t_isSaved i_t_thrown i_t_inputMany i_t_lastError i_t_lastOffset i_t_error i_t_offset i_t_nextByte i_t_begin i_t_value i_t_token i_t_got i_t_orders i_t_outputMany i_t_input i_t_n 0 0 5 q4 hq4) tm_1469 tm_1471 sl_53 tm_15 tm_1472 na_Md_takes ⟨Nat.le_of_ble_eq_true rfl, Nat.le_of_ble_eq_true rfl⟩ rfl [0, 1, 2] rfl rfl rfl (ws' := wd_Md_takesCluster cI a_t a_t_w a_t_wKept a_t_saved a_t_past a_t_input a_t_n a_t_order a_t_numbers a_t_output i_t_pastMany i_t_isSaved i_t_thrown i_t_inputMany i_t_lastError i_t_lastOffset q4.2.1 q4.2.2.1 q4.2.2.2.1 q4.2.2.2.2.1 q4.2.2.2.2.2.1 q4.2.2.2.2.2.2.1 q4.2.2.2.2.2.2.2.1 i_t_orders i_t_outputMany i_t_input q4.2.2.2.2.2.2.2.2) rfl 0 11 rfl rfl rfl (st := []) rfl (Nat.le_of_ble_eq_true rfl) rd_Md_takesCluster_4 ?_ ⟨Nat.le_refl _, Nat.le_refl _⟩
  obtain ⟨hbo, hf⟩ := jk_bo_h hf
  cases hf
  exact jk_zret C hbo rfl rd_Md_takesCluster_7 rfl
def wd_Md_takesCordNumber (cI : ClassId) (a_t a_t_w a_t_wKept a_t_saved a_t_past a_t_input a_t_n a_t_order a_t_numbers a_t_output : Nat) (i_t_pastMany : Int) (i_t_isSaved : Int) (i_t_thrown : Int) (i_t_inputMany : Int) (i_t_lastError : Int) (i_t_lastOffset : Int) (i_t_error : Int) (i_t_offset : Int) (i_t_nextByte : Int) (i_t_begin : Int) (i_t_value : Int) (i_t_token : Int) (i_t_got : Int) (i_t_orders : Int) (i_t_outputMany : Int) (i_t_input : (Int → Int)) (i_t_n : (Int → Int)) : va_W := [(a_t, .inr (11, [.ref a_t_w, .ref a_t_wKept, .ref a_t_saved, .ref a_t_past, jk_V i_t_pastMany, jk_V i_t_isSaved, jk_V i_t_thrown, .ref a_t_input, jk_V i_t_inputMany, jk_V i_t_lastError, jk_V i_t_lastOffset, jk_V i_t_error, jk_V i_t_offset, jk_V i_t_nextByte, jk_V i_t_begin, jk_V i_t_value, jk_V i_t_token, jk_V i_t_got, .ref a_t_n, .ref a_t_order, .ref a_t_numbers, jk_V i_t_orders, .ref a_t_output, jk_V i_t_outputMany])), (a_t_input, jk_W cI 700 i_t_input), (a_t_n, jk_W cI 3 i_t_n)]
set_option maxHeartbeats 4000000 in
set_option maxRecDepth 20000 in
theorem ct_Md_takesCordNumber (l : Launch) (D : va_G) (Z : (Nat → Prop) → State → Heap → Prop) (sq : Nat → Nat) (hZ : jk_ZK Z sq) (cI cR : ClassId) (a_t a_t_w a_t_wKept a_t_saved a_t_past a_t_input a_t_n a_t_order a_t_numbers a_t_output : Nat) (i_t_pastMany : Int) (i_t_isSaved : Int) (i_t_thrown : Int) (i_t_inputMany : Int) (i_t_lastError : Int) (i_t_lastOffset : Int) (i_t_error : Int) (i_t_offset : Int) (i_t_nextByte : Int) (i_t_begin : Int) (i_t_value : Int) (i_t_token : Int) (i_t_got : Int) (i_t_orders : Int) (i_t_outputMany : Int) (i_t_input : (Int → Int)) (i_t_n : (Int → Int)) (q : Int × Int × Int × Int × Int × Int × Int × Int × (Int → Int)) (hf : fn_Md_takesCordNumber i_t_input i_t_inputMany i_t_error i_t_offset i_t_nextByte i_t_begin i_t_value i_t_token i_t_got i_t_n = some q) : jk_MI l D jk_cl (jk_ty cI cR) Z mn_Md_takesCordNumber (.code mn_Md_takesCordNumber mb_Md_takesCordNumber 1 (some .boolean) :: jk_WA) (jk_rm 5 109) [.ref a_t] (wd_Md_takesCordNumber cI a_t a_t_w a_t_wKept a_t_saved a_t_past a_t_input a_t_n a_t_order a_t_numbers a_t_output i_t_pastMany i_t_isSaved i_t_thrown i_t_inputMany i_t_lastError i_t_lastOffset i_t_error i_t_offset i_t_nextByte i_t_begin i_t_value i_t_token i_t_got i_t_orders i_t_outputMany i_t_input i_t_n) (wd_Md_takesCordNumber cI a_t a_t_w a_t_wKept a_t_saved a_t_past a_t_input a_t_n a_t_order a_t_numbers a_t_output i_t_pastMany i_t_isSaved i_t_thrown i_t_inputMany i_t_lastError i_t_lastOffset q.2.1 q.2.2.1 q.2.2.2.1 q.2.2.2.2.1 q.2.2.2.2.2.1 q.2.2.2.2.2.2.1 q.2.2.2.2.2.2.2.1 i_t_orders i_t_outputMany i_t_input q.2.2.2.2.2.2.2.2) q.1 := by
  intro sz
  refine jk_body (by decide +kernel) (fun p e s m args below meth c hsz hz hin C => ?_) (Nat.le_of_ble_eq_true rfl)
  subst hsz
  unfold fn_Md_takesCordNumber at hf
  refine jk_aload_n C rd_Md_takesCordNumber_0 (k := 0) rfl ?_
  refine jk_iconst C rd_Md_takesCordNumber_1 ?_
  refine jk_iconst C rd_Md_takesCordNumber_2 ?_
  refine jk_bipush C rd_Md_takesCordNumber_3 (by decide +kernel) ?_
  obtain ⟨q5, hq5, hf⟩ := jk_bind_h hf
  refine jk_callVi C hZ.1 hz (ct_Md_takes l D Z sq hZ cI cR a_t a_t_w a_t_wKept a_t_saved a_t_past a_t_input a_t_n a_t_order a_t_numbers a_t_output i_t_pastMany i_t_isSaved i_t_thrown i_t_inputMany i_t_lastError i_t_lastOffset i_t_error i_t_offset i_t_nextByte i_t_begin i_t_value i_t_token i_t_got i_t_orders i_t_outputMany i_t_input i_t_n 0 0 39 q5 hq5) tm_1469 tm_1471 sl_53 tm_15 tm_1472 na_Md_takes ⟨Nat.le_of_ble_eq_true rfl, Nat.le_of_ble_eq_true rfl⟩ rfl [0, 1, 2] rfl rfl rfl (ws' := wd_Md_takesCordNumber cI a_t a_t_w a_t_wKept a_t_saved a_t_past a_t_input a_t_n a_t_order a_t_numbers a_t_output i_t_pastMany i_t_isSaved i_t_thrown i_t_inputMany i_t_lastError i_t_lastOffset q5.2.1 q5.2.2.1 q5.2.2.2.1 q5.2.2.2.2.1 q5.2.2.2.2.2.1 q5.2.2.2.2.2.2.1 q5.2.2.2.2.2.2.2.1 i_t_orders i_t_outputMany i_t_input q5.2.2.2.2.2.2.2.2) rfl 0 11 rfl rfl rfl (st := []) rfl (Nat.le_of_ble_eq_true rfl) rd_Md_takesCordNumber_5 ?_ ⟨Nat.le_refl _, Nat.le_refl _⟩
  obtain ⟨hbo, hf⟩ := jk_bo_h hf
  cases hf
  exact jk_zret C hbo rfl rd_Md_takesCordNumber_8 rfl
def wd_Md_takesRest (cI : ClassId) (a_t a_t_w a_t_wKept a_t_saved a_t_past a_t_input a_t_n a_t_order a_t_numbers a_t_output : Nat) (i_t_pastMany : Int) (i_t_isSaved : Int) (i_t_thrown : Int) (i_t_inputMany : Int) (i_t_lastError : Int) (i_t_lastOffset : Int) (i_t_error : Int) (i_t_offset : Int) (i_t_nextByte : Int) (i_t_begin : Int) (i_t_value : Int) (i_t_token : Int) (i_t_got : Int) (i_t_orders : Int) (i_t_outputMany : Int) (i_t_w : (Int → Int)) (i_t_input : (Int → Int)) (i_t_n : (Int → Int)) : va_W := [(a_t, .inr (11, [.ref a_t_w, .ref a_t_wKept, .ref a_t_saved, .ref a_t_past, jk_V i_t_pastMany, jk_V i_t_isSaved, jk_V i_t_thrown, .ref a_t_input, jk_V i_t_inputMany, jk_V i_t_lastError, jk_V i_t_lastOffset, jk_V i_t_error, jk_V i_t_offset, jk_V i_t_nextByte, jk_V i_t_begin, jk_V i_t_value, jk_V i_t_token, jk_V i_t_got, .ref a_t_n, .ref a_t_order, .ref a_t_numbers, jk_V i_t_orders, .ref a_t_output, jk_V i_t_outputMany])), (a_t_w, jk_W cI 259 i_t_w), (a_t_input, jk_W cI 700 i_t_input), (a_t_n, jk_W cI 3 i_t_n)]
set_option maxHeartbeats 4000000 in
set_option maxRecDepth 20000 in
theorem ct_Md_takesRest (l : Launch) (D : va_G) (Z : (Nat → Prop) → State → Heap → Prop) (sq : Nat → Nat) (hZ : jk_ZK Z sq) (cI cR : ClassId) (a_t a_t_w a_t_wKept a_t_saved a_t_past a_t_input a_t_n a_t_order a_t_numbers a_t_output : Nat) (i_t_pastMany : Int) (i_t_isSaved : Int) (i_t_thrown : Int) (i_t_inputMany : Int) (i_t_lastError : Int) (i_t_lastOffset : Int) (i_t_error : Int) (i_t_offset : Int) (i_t_nextByte : Int) (i_t_begin : Int) (i_t_value : Int) (i_t_token : Int) (i_t_got : Int) (i_t_orders : Int) (i_t_outputMany : Int) (i_t_w : (Int → Int)) (i_t_input : (Int → Int)) (i_t_n : (Int → Int)) (x1 : Int) (q : Int × Int × Int × Int × Int × Int × Int × Int × (Int → Int)) (hf : fn_Md_takesRest i_t_w i_t_input i_t_inputMany i_t_error i_t_offset i_t_nextByte i_t_begin i_t_value i_t_token i_t_got i_t_n x1 = some q) : jk_MI l D jk_cl (jk_ty cI cR) Z mn_Md_takesRest (.code mn_Md_takesRest mb_Md_takesRest 2 (some .boolean) :: jk_WA) (jk_rm 6 129) [.ref a_t, jk_V x1] (wd_Md_takesRest cI a_t a_t_w a_t_wKept a_t_saved a_t_past a_t_input a_t_n a_t_order a_t_numbers a_t_output i_t_pastMany i_t_isSaved i_t_thrown i_t_inputMany i_t_lastError i_t_lastOffset i_t_error i_t_offset i_t_nextByte i_t_begin i_t_value i_t_token i_t_got i_t_orders i_t_outputMany i_t_w i_t_input i_t_n) (wd_Md_takesRest cI a_t a_t_w a_t_wKept a_t_saved a_t_past a_t_input a_t_n a_t_order a_t_numbers a_t_output i_t_pastMany i_t_isSaved i_t_thrown i_t_inputMany i_t_lastError i_t_lastOffset q.2.1 q.2.2.1 q.2.2.2.1 q.2.2.2.2.1 q.2.2.2.2.2.1 q.2.2.2.2.2.2.1 q.2.2.2.2.2.2.2.1 i_t_orders i_t_outputMany i_t_w i_t_input q.2.2.2.2.2.2.2.2) q.1 := by
  intro sz
  refine jk_body (by decide +kernel) (fun p e s m args below meth c hsz hz hin C => ?_) (Nat.le_of_ble_eq_true rfl)
  subst hsz
  unfold fn_Md_takesRest at hf
  refine jk_aload_n C rd_Md_takesRest_0 (k := 0) rfl ?_
  obtain ⟨q1, hq1, hf⟩ := jk_bind_h hf
  refine jk_callVv C hZ.1 hz (ct_Md_advanceToken l D Z sq hZ cI cR a_t a_t_w a_t_wKept a_t_saved a_t_past a_t_input a_t_n a_t_order a_t_numbers a_t_output i_t_pastMany i_t_isSaved i_t_thrown i_t_inputMany i_t_lastError i_t_lastOffset i_t_error i_t_offset i_t_nextByte i_t_begin i_t_value i_t_token i_t_got i_t_orders i_t_outputMany i_t_input q1 hq1) tm_1366 tm_1368 sl_29 tm_15 tm_1369 na_Md_advanceToken ⟨Nat.le_of_ble_eq_true rfl, Nat.le_of_ble_eq_true rfl⟩ rfl [0, 2] rfl rfl rfl (ws' := wd_Md_takesRest cI a_t a_t_w a_t_wKept a_t_saved a_t_past a_t_input a_t_n a_t_order a_t_numbers a_t_output i_t_pastMany i_t_isSaved i_t_thrown i_t_inputMany i_t_lastError i_t_lastOffset i_t_error i_t_offset q1.1 q1.2.1 q1.2.2.1 q1.2.2.2 i_t_got i_t_orders i_t_outputMany i_t_w i_t_input i_t_n) rfl 0 11 rfl rfl rfl (st := []) rfl (Nat.le_of_ble_eq_true rfl) rd_Md_takesRest_1 ?_ ⟨Nat.le_refl _, Nat.le_refl _⟩
  refine jk_iload_n C rd_Md_takesRest_4 (k := 1) rfl ?_
  refine jk_eqs_c hf (fun hx hf => ?_) (fun hx1 hf => ?_)
  · refine jk_tabIn (off := 47) (tgt := 52) C rd_Md_takesRest_5 (k := 1) hx (by decide +kernel) (by decide) ?_
    refine jk_iconst C rd_Md_takesRest_52 ?_
    cases hf
    exact jk_zret C (Or.inr rfl) rfl rd_Md_takesRest_53 rfl
  refine jk_eqs_c hf (fun hx hf => ?_) (fun hx2 hf => ?_)
  · refine jk_tabIn (off := 49) (tgt := 54) C rd_Md_takesRest_5 (k := 2) hx (by decide +kernel) (by decide) ?_
    refine jk_aload_n C rd_Md_takesRest_54 (k := 0) rfl ?_
    obtain ⟨q55, hq55, hf⟩ := jk_bind_h hf
    refine jk_callVi C hZ.1 hz (ct_Md_takesCluster l D Z sq hZ cI cR a_t a_t_w a_t_wKept a_t_saved a_t_past a_t_input a_t_n a_t_order a_t_numbers a_t_output i_t_pastMany i_t_isSaved i_t_thrown i_t_inputMany i_t_lastError i_t_lastOffset i_t_error i_t_offset q1.1 q1.2.1 q1.2.2.1 q1.2.2.2 i_t_got i_t_orders i_t_outputMany i_t_input i_t_n q55 hq55) tm_1504 tm_1506 sl_59 tm_15 tm_1507 na_Md_takesCluster ⟨Nat.le_of_ble_eq_true rfl, Nat.le_of_ble_eq_true rfl⟩ rfl [0, 2, 3] rfl rfl rfl (ws' := wd_Md_takesRest cI a_t a_t_w a_t_wKept a_t_saved a_t_past a_t_input a_t_n a_t_order a_t_numbers a_t_output i_t_pastMany i_t_isSaved i_t_thrown i_t_inputMany i_t_lastError i_t_lastOffset q55.2.1 q55.2.2.1 q55.2.2.2.1 q55.2.2.2.2.1 q55.2.2.2.2.2.1 q55.2.2.2.2.2.2.1 q55.2.2.2.2.2.2.2.1 i_t_orders i_t_outputMany i_t_w i_t_input q55.2.2.2.2.2.2.2.2) rfl 0 11 rfl rfl rfl (st := []) rfl (Nat.le_of_ble_eq_true rfl) rd_Md_takesRest_55 ?_ ⟨Nat.le_refl _, Nat.le_refl _⟩
    refine jk_if_eq (tgt := 85) C rd_Md_takesRest_58 (by decide) hf (fun _ hf => ?_) (fun _ hf => ?_)
    · refine jk_iconst C rd_Md_takesRest_85 ?_
      cases hf
      exact jk_zret C (Or.inl rfl) rfl rd_Md_takesRest_86 rfl
    · refine jk_aload_n C rd_Md_takesRest_61 (k := 0) rfl ?_
      refine jk_iconst C rd_Md_takesRest_62 ?_
      obtain ⟨q63, hq63, hf⟩ := jk_bind_h hf
      refine jk_callVi C hZ.1 hz (ct_Md_takesTopic l D Z sq hZ cI cR a_t a_t_w a_t_wKept a_t_saved a_t_past a_t_input a_t_n a_t_order a_t_numbers a_t_output i_t_pastMany i_t_isSaved i_t_thrown i_t_inputMany i_t_lastError i_t_lastOffset q55.2.1 q55.2.2.1 q55.2.2.2.1 q55.2.2.2.2.1 q55.2.2.2.2.2.1 q55.2.2.2.2.2.2.1 q55.2.2.2.2.2.2.2.1 i_t_orders i_t_outputMany i_t_w i_t_input q55.2.2.2.2.2.2.2.2 1 q63 hq63) tm_1465 tm_1467 sl_52 tm_15 tm_1468 na_Md_takesTopic ⟨Nat.le_of_ble_eq_true rfl, Nat.le_of_ble_eq_true rfl⟩ rfl [0, 1, 2, 3] rfl rfl rfl (ws' := wd_Md_takesRest cI a_t a_t_w a_t_wKept a_t_saved a_t_past a_t_input a_t_n a_t_order a_t_numbers a_t_output i_t_pastMany i_t_isSaved i_t_thrown i_t_inputMany i_t_lastError i_t_lastOffset q63.2.1 q63.2.2.1 q63.2.2.2.1 q63.2.2.2.2.1 q63.2.2.2.2.2.1 q63.2.2.2.2.2.2.1 q55.2.2.2.2.2.2.2.1 i_t_orders i_t_outputMany i_t_w i_t_input q63.2.2.2.2.2.2.2) rfl 0 11 rfl rfl rfl (st := []) rfl (Nat.le_of_ble_eq_true rfl) rd_Md_takesRest_63 ?_ ⟨Nat.le_refl _, Nat.le_refl _⟩
      refine jk_if_eq (tgt := 85) C rd_Md_takesRest_66 (by decide) hf (fun _ hf => ?_) (fun _ hf => ?_)
      · refine jk_iconst C rd_Md_takesRest_85 ?_
        cases hf
        exact jk_zret C (Or.inl rfl) rfl rd_Md_takesRest_86 rfl
      · refine jk_aload_n C rd_Md_takesRest_69 (k := 0) rfl ?_
        refine jk_iconst C rd_Md_takesRest_70 ?_
        refine jk_iconst C rd_Md_takesRest_71 ?_
        refine jk_sipush C rd_Md_takesRest_72 (by decide +kernel) ?_
        obtain ⟨q75, hq75, hf⟩ := jk_bind_h hf
        refine jk_callVi C hZ.1 hz (ct_Md_takes l D Z sq hZ cI cR a_t a_t_w a_t_wKept a_t_saved a_t_past a_t_input a_t_n a_t_order a_t_numbers a_t_output i_t_pastMany i_t_isSaved i_t_thrown i_t_inputMany i_t_lastError i_t_lastOffset q63.2.1 q63.2.2.1 q63.2.2.2.1 q63.2.2.2.2.1 q63.2.2.2.2.2.1 q63.2.2.2.2.2.2.1 q55.2.2.2.2.2.2.2.1 i_t_orders i_t_outputMany i_t_input q63.2.2.2.2.2.2.2 2 0 9999 q75 hq75) tm_1469 tm_1471 sl_53 tm_15 tm_1472 na_Md_takes ⟨Nat.le_of_ble_eq_true rfl, Nat.le_of_ble_eq_true rfl⟩ rfl [0, 2, 3] rfl rfl rfl (ws' := wd_Md_takesRest cI a_t a_t_w a_t_wKept a_t_saved a_t_past a_t_input a_t_n a_t_order a_t_numbers a_t_output i_t_pastMany i_t_isSaved i_t_thrown i_t_inputMany i_t_lastError i_t_lastOffset q75.2.1 q75.2.2.1 q75.2.2.2.1 q75.2.2.2.2.1 q75.2.2.2.2.2.1 q75.2.2.2.2.2.2.1 q75.2.2.2.2.2.2.2.1 i_t_orders i_t_outputMany i_t_w i_t_input q75.2.2.2.2.2.2.2.2) rfl 0 11 rfl rfl rfl (st := []) rfl (Nat.le_of_ble_eq_true rfl) rd_Md_takesRest_75 ?_ ⟨Nat.le_refl _, Nat.le_refl _⟩
        refine jk_if_eq (tgt := 85) C rd_Md_takesRest_78 (by decide) hf (fun _ hf => ?_) (fun _ hf => ?_)
        · refine jk_iconst C rd_Md_takesRest_85 ?_
          cases hf
          exact jk_zret C (Or.inl rfl) rfl rd_Md_takesRest_86 rfl
        · refine jk_iconst C rd_Md_takesRest_81 ?_
          refine jk_goto (tgt := 86) C rd_Md_takesRest_82 (by decide) ?_
          cases hf
          exact jk_zret C (Or.inr rfl) rfl rd_Md_takesRest_86 rfl
  refine jk_eqs_c hf (fun hx hf => ?_) (fun hx3 hf => ?_)
  · refine jk_tabIn (off := 82) (tgt := 87) C rd_Md_takesRest_5 (k := 3) hx (by decide +kernel) (by decide) ?_
    refine jk_aload_n C rd_Md_takesRest_87 (k := 0) rfl ?_
    obtain ⟨q88, hq88, hf⟩ := jk_bind_h hf
    refine jk_callVi C hZ.1 hz (ct_Md_takesCordNumber l D Z sq hZ cI cR a_t a_t_w a_t_wKept a_t_saved a_t_past a_t_input a_t_n a_t_order a_t_numbers a_t_output i_t_pastMany i_t_isSaved i_t_thrown i_t_inputMany i_t_lastError i_t_lastOffset i_t_error i_t_offset q1.1 q1.2.1 q1.2.2.1 q1.2.2.2 i_t_got i_t_orders i_t_outputMany i_t_input i_t_n q88 hq88) tm_1508 tm_1510 sl_60 tm_15 tm_1511 na_Md_takesCordNumber ⟨Nat.le_of_ble_eq_true rfl, Nat.le_of_ble_eq_true rfl⟩ rfl [0, 2, 3] rfl rfl rfl (ws' := wd_Md_takesRest cI a_t a_t_w a_t_wKept a_t_saved a_t_past a_t_input a_t_n a_t_order a_t_numbers a_t_output i_t_pastMany i_t_isSaved i_t_thrown i_t_inputMany i_t_lastError i_t_lastOffset q88.2.1 q88.2.2.1 q88.2.2.2.1 q88.2.2.2.2.1 q88.2.2.2.2.2.1 q88.2.2.2.2.2.2.1 q88.2.2.2.2.2.2.2.1 i_t_orders i_t_outputMany i_t_w i_t_input q88.2.2.2.2.2.2.2.2) rfl 0 11 rfl rfl rfl (st := []) rfl (Nat.le_of_ble_eq_true rfl) rd_Md_takesRest_88 ?_ ⟨Nat.le_refl _, Nat.le_refl _⟩
    refine jk_if_eq (tgt := 118) C rd_Md_takesRest_91 (by decide) hf (fun _ hf => ?_) (fun _ hf => ?_)
    · refine jk_iconst C rd_Md_takesRest_118 ?_
      cases hf
      exact jk_zret C (Or.inl rfl) rfl rd_Md_takesRest_119 rfl
    · refine jk_aload_n C rd_Md_takesRest_94 (k := 0) rfl ?_
      refine jk_iconst C rd_Md_takesRest_95 ?_
      obtain ⟨q96, hq96, hf⟩ := jk_bind_h hf
      refine jk_callVi C hZ.1 hz (ct_Md_takesTopic l D Z sq hZ cI cR a_t a_t_w a_t_wKept a_t_saved a_t_past a_t_input a_t_n a_t_order a_t_numbers a_t_output i_t_pastMany i_t_isSaved i_t_thrown i_t_inputMany i_t_lastError i_t_lastOffset q88.2.1 q88.2.2.1 q88.2.2.2.1 q88.2.2.2.2.1 q88.2.2.2.2.2.1 q88.2.2.2.2.2.2.1 q88.2.2.2.2.2.2.2.1 i_t_orders i_t_outputMany i_t_w i_t_input q88.2.2.2.2.2.2.2.2 1 q96 hq96) tm_1465 tm_1467 sl_52 tm_15 tm_1468 na_Md_takesTopic ⟨Nat.le_of_ble_eq_true rfl, Nat.le_of_ble_eq_true rfl⟩ rfl [0, 1, 2, 3] rfl rfl rfl (ws' := wd_Md_takesRest cI a_t a_t_w a_t_wKept a_t_saved a_t_past a_t_input a_t_n a_t_order a_t_numbers a_t_output i_t_pastMany i_t_isSaved i_t_thrown i_t_inputMany i_t_lastError i_t_lastOffset q96.2.1 q96.2.2.1 q96.2.2.2.1 q96.2.2.2.2.1 q96.2.2.2.2.2.1 q96.2.2.2.2.2.2.1 q88.2.2.2.2.2.2.2.1 i_t_orders i_t_outputMany i_t_w i_t_input q96.2.2.2.2.2.2.2) rfl 0 11 rfl rfl rfl (st := []) rfl (Nat.le_of_ble_eq_true rfl) rd_Md_takesRest_96 ?_ ⟨Nat.le_refl _, Nat.le_refl _⟩
      refine jk_if_eq (tgt := 118) C rd_Md_takesRest_99 (by decide) hf (fun _ hf => ?_) (fun _ hf => ?_)
      · refine jk_iconst C rd_Md_takesRest_118 ?_
        cases hf
        exact jk_zret C (Or.inl rfl) rfl rd_Md_takesRest_119 rfl
      · refine jk_aload_n C rd_Md_takesRest_102 (k := 0) rfl ?_
        refine jk_iconst C rd_Md_takesRest_103 ?_
        refine jk_iconst C rd_Md_takesRest_104 ?_
        refine jk_sipush C rd_Md_takesRest_105 (by decide +kernel) ?_
        obtain ⟨q108, hq108, hf⟩ := jk_bind_h hf
        refine jk_callVi C hZ.1 hz (ct_Md_takes l D Z sq hZ cI cR a_t a_t_w a_t_wKept a_t_saved a_t_past a_t_input a_t_n a_t_order a_t_numbers a_t_output i_t_pastMany i_t_isSaved i_t_thrown i_t_inputMany i_t_lastError i_t_lastOffset q96.2.1 q96.2.2.1 q96.2.2.2.1 q96.2.2.2.2.1 q96.2.2.2.2.2.1 q96.2.2.2.2.2.2.1 q88.2.2.2.2.2.2.2.1 i_t_orders i_t_outputMany i_t_input q96.2.2.2.2.2.2.2 2 0 9999 q108 hq108) tm_1469 tm_1471 sl_53 tm_15 tm_1472 na_Md_takes ⟨Nat.le_of_ble_eq_true rfl, Nat.le_of_ble_eq_true rfl⟩ rfl [0, 2, 3] rfl rfl rfl (ws' := wd_Md_takesRest cI a_t a_t_w a_t_wKept a_t_saved a_t_past a_t_input a_t_n a_t_order a_t_numbers a_t_output i_t_pastMany i_t_isSaved i_t_thrown i_t_inputMany i_t_lastError i_t_lastOffset q108.2.1 q108.2.2.1 q108.2.2.2.1 q108.2.2.2.2.1 q108.2.2.2.2.2.1 q108.2.2.2.2.2.2.1 q108.2.2.2.2.2.2.2.1 i_t_orders i_t_outputMany i_t_w i_t_input q108.2.2.2.2.2.2.2.2) rfl 0 11 rfl rfl rfl (st := []) rfl (Nat.le_of_ble_eq_true rfl) rd_Md_takesRest_108 ?_ ⟨Nat.le_refl _, Nat.le_refl _⟩
        refine jk_if_eq (tgt := 118) C rd_Md_takesRest_111 (by decide) hf (fun _ hf => ?_) (fun _ hf => ?_)
        · refine jk_iconst C rd_Md_takesRest_118 ?_
          cases hf
          exact jk_zret C (Or.inl rfl) rfl rd_Md_takesRest_119 rfl
        · refine jk_iconst C rd_Md_takesRest_114 ?_
          refine jk_goto (tgt := 119) C rd_Md_takesRest_115 (by decide) ?_
          cases hf
          exact jk_zret C (Or.inr rfl) rfl rd_Md_takesRest_119 rfl
  refine jk_eqs_c hf (fun hx hf => ?_) (fun hx4 hf => ?_)
  · refine jk_tabIn (off := 115) (tgt := 120) C rd_Md_takesRest_5 (k := 4) hx (by decide +kernel) (by decide) ?_
    refine jk_aload_n C rd_Md_takesRest_120 (k := 0) rfl ?_
    obtain ⟨q121, hq121, hf⟩ := jk_bind_h hf
    refine jk_callVi C hZ.1 hz (ct_Md_takesCordNumber l D Z sq hZ cI cR a_t a_t_w a_t_wKept a_t_saved a_t_past a_t_input a_t_n a_t_order a_t_numbers a_t_output i_t_pastMany i_t_isSaved i_t_thrown i_t_inputMany i_t_lastError i_t_lastOffset i_t_error i_t_offset q1.1 q1.2.1 q1.2.2.1 q1.2.2.2 i_t_got i_t_orders i_t_outputMany i_t_input i_t_n q121 hq121) tm_1508 tm_1510 sl_60 tm_15 tm_1511 na_Md_takesCordNumber ⟨Nat.le_of_ble_eq_true rfl, Nat.le_of_ble_eq_true rfl⟩ rfl [0, 2, 3] rfl rfl rfl (ws' := wd_Md_takesRest cI a_t a_t_w a_t_wKept a_t_saved a_t_past a_t_input a_t_n a_t_order a_t_numbers a_t_output i_t_pastMany i_t_isSaved i_t_thrown i_t_inputMany i_t_lastError i_t_lastOffset q121.2.1 q121.2.2.1 q121.2.2.2.1 q121.2.2.2.2.1 q121.2.2.2.2.2.1 q121.2.2.2.2.2.2.1 q121.2.2.2.2.2.2.2.1 i_t_orders i_t_outputMany i_t_w i_t_input q121.2.2.2.2.2.2.2.2) rfl 0 11 rfl rfl rfl (st := []) rfl (Nat.le_of_ble_eq_true rfl) rd_Md_takesRest_121 ?_ ⟨Nat.le_refl _, Nat.le_refl _⟩
    obtain ⟨hbo, hf⟩ := jk_bo_h hf
    cases hf
    exact jk_zret C hbo rfl rd_Md_takesRest_124 rfl
  refine jk_eqs_c hf (fun hx hf => ?_) (fun hx5 hf => ?_)
  · refine jk_tabIn (off := 120) (tgt := 125) C rd_Md_takesRest_5 (k := 5) hx (by decide +kernel) (by decide) ?_
    refine jk_aload_n C rd_Md_takesRest_125 (k := 0) rfl ?_
    obtain ⟨q126, hq126, hf⟩ := jk_bind_h hf
    refine jk_callVi C hZ.1 hz (ct_Md_takesCluster l D Z sq hZ cI cR a_t a_t_w a_t_wKept a_t_saved a_t_past a_t_input a_t_n a_t_order a_t_numbers a_t_output i_t_pastMany i_t_isSaved i_t_thrown i_t_inputMany i_t_lastError i_t_lastOffset i_t_error i_t_offset q1.1 q1.2.1 q1.2.2.1 q1.2.2.2 i_t_got i_t_orders i_t_outputMany i_t_input i_t_n q126 hq126) tm_1504 tm_1506 sl_59 tm_15 tm_1507 na_Md_takesCluster ⟨Nat.le_of_ble_eq_true rfl, Nat.le_of_ble_eq_true rfl⟩ rfl [0, 2, 3] rfl rfl rfl (ws' := wd_Md_takesRest cI a_t a_t_w a_t_wKept a_t_saved a_t_past a_t_input a_t_n a_t_order a_t_numbers a_t_output i_t_pastMany i_t_isSaved i_t_thrown i_t_inputMany i_t_lastError i_t_lastOffset q126.2.1 q126.2.2.1 q126.2.2.2.1 q126.2.2.2.2.1 q126.2.2.2.2.2.1 q126.2.2.2.2.2.2.1 q126.2.2.2.2.2.2.2.1 i_t_orders i_t_outputMany i_t_w i_t_input q126.2.2.2.2.2.2.2.2) rfl 0 11 rfl rfl rfl (st := []) rfl (Nat.le_of_ble_eq_true rfl) rd_Md_takesRest_126 ?_ ⟨Nat.le_refl _, Nat.le_refl _⟩
    refine jk_if_eq (tgt := 144) C rd_Md_takesRest_129 (by decide) hf (fun _ hf => ?_) (fun _ hf => ?_)
    · refine jk_iconst C rd_Md_takesRest_144 ?_
      cases hf
      exact jk_zret C (Or.inl rfl) rfl rd_Md_takesRest_145 rfl
    · refine jk_aload_n C rd_Md_takesRest_132 (k := 0) rfl ?_
      refine jk_iconst C rd_Md_takesRest_133 ?_
      obtain ⟨q134, hq134, hf⟩ := jk_bind_h hf
      refine jk_callVi C hZ.1 hz (ct_Md_takesTopic l D Z sq hZ cI cR a_t a_t_w a_t_wKept a_t_saved a_t_past a_t_input a_t_n a_t_order a_t_numbers a_t_output i_t_pastMany i_t_isSaved i_t_thrown i_t_inputMany i_t_lastError i_t_lastOffset q126.2.1 q126.2.2.1 q126.2.2.2.1 q126.2.2.2.2.1 q126.2.2.2.2.2.1 q126.2.2.2.2.2.2.1 q126.2.2.2.2.2.2.2.1 i_t_orders i_t_outputMany i_t_w i_t_input q126.2.2.2.2.2.2.2.2 1 q134 hq134) tm_1465 tm_1467 sl_52 tm_15 tm_1468 na_Md_takesTopic ⟨Nat.le_of_ble_eq_true rfl, Nat.le_of_ble_eq_true rfl⟩ rfl [0, 1, 2, 3] rfl rfl rfl (ws' := wd_Md_takesRest cI a_t a_t_w a_t_wKept a_t_saved a_t_past a_t_input a_t_n a_t_order a_t_numbers a_t_output i_t_pastMany i_t_isSaved i_t_thrown i_t_inputMany i_t_lastError i_t_lastOffset q134.2.1 q134.2.2.1 q134.2.2.2.1 q134.2.2.2.2.1 q134.2.2.2.2.2.1 q134.2.2.2.2.2.2.1 q126.2.2.2.2.2.2.2.1 i_t_orders i_t_outputMany i_t_w i_t_input q134.2.2.2.2.2.2.2) rfl 0 11 rfl rfl rfl (st := []) rfl (Nat.le_of_ble_eq_true rfl) rd_Md_takesRest_134 ?_ ⟨Nat.le_refl _, Nat.le_refl _⟩
      refine jk_if_eq (tgt := 144) C rd_Md_takesRest_137 (by decide) hf (fun _ hf => ?_) (fun _ hf => ?_)
      · refine jk_iconst C rd_Md_takesRest_144 ?_
        cases hf
        exact jk_zret C (Or.inl rfl) rfl rd_Md_takesRest_145 rfl
      · refine jk_iconst C rd_Md_takesRest_140 ?_
        refine jk_goto (tgt := 145) C rd_Md_takesRest_141 (by decide) ?_
        cases hf
        exact jk_zret C (Or.inr rfl) rfl rd_Md_takesRest_145 rfl
  refine jk_eqs_c hf (fun hx hf => ?_) (fun hx6 hf => ?_)
  · refine jk_tabIn (off := 141) (tgt := 146) C rd_Md_takesRest_5 (k := 6) hx (by decide +kernel) (by decide) ?_
    refine jk_aload_n C rd_Md_takesRest_146 (k := 0) rfl ?_
    obtain ⟨q147, hq147, hf⟩ := jk_bind_h hf
    refine jk_callVi C hZ.1 hz (ct_Md_takesCordNumber l D Z sq hZ cI cR a_t a_t_w a_t_wKept a_t_saved a_t_past a_t_input a_t_n a_t_order a_t_numbers a_t_output i_t_pastMany i_t_isSaved i_t_thrown i_t_inputMany i_t_lastError i_t_lastOffset i_t_error i_t_offset q1.1 q1.2.1 q1.2.2.1 q1.2.2.2 i_t_got i_t_orders i_t_outputMany i_t_input i_t_n q147 hq147) tm_1508 tm_1510 sl_60 tm_15 tm_1511 na_Md_takesCordNumber ⟨Nat.le_of_ble_eq_true rfl, Nat.le_of_ble_eq_true rfl⟩ rfl [0, 2, 3] rfl rfl rfl (ws' := wd_Md_takesRest cI a_t a_t_w a_t_wKept a_t_saved a_t_past a_t_input a_t_n a_t_order a_t_numbers a_t_output i_t_pastMany i_t_isSaved i_t_thrown i_t_inputMany i_t_lastError i_t_lastOffset q147.2.1 q147.2.2.1 q147.2.2.2.1 q147.2.2.2.2.1 q147.2.2.2.2.2.1 q147.2.2.2.2.2.2.1 q147.2.2.2.2.2.2.2.1 i_t_orders i_t_outputMany i_t_w i_t_input q147.2.2.2.2.2.2.2.2) rfl 0 11 rfl rfl rfl (st := []) rfl (Nat.le_of_ble_eq_true rfl) rd_Md_takesRest_147 ?_ ⟨Nat.le_refl _, Nat.le_refl _⟩
    refine jk_if_eq (tgt := 178) C rd_Md_takesRest_150 (by decide) hf (fun _ hf => ?_) (fun _ hf => ?_)
    · refine jk_iconst C rd_Md_takesRest_178 ?_
      cases hf
      exact jk_zret C (Or.inl rfl) rfl rd_Md_takesRest_179 rfl
    · refine jk_aload_n C rd_Md_takesRest_153 (k := 0) rfl ?_
      refine jk_iconst C rd_Md_takesRest_154 ?_
      refine jk_iconst C rd_Md_takesRest_155 ?_
      refine jk_iconst C rd_Md_takesRest_156 ?_
      obtain ⟨q157, hq157, hf⟩ := jk_bind_h hf
      refine jk_callVi C hZ.1 hz (ct_Md_takes l D Z sq hZ cI cR a_t a_t_w a_t_wKept a_t_saved a_t_past a_t_input a_t_n a_t_order a_t_numbers a_t_output i_t_pastMany i_t_isSaved i_t_thrown i_t_inputMany i_t_lastError i_t_lastOffset q147.2.1 q147.2.2.1 q147.2.2.2.1 q147.2.2.2.2.1 q147.2.2.2.2.2.1 q147.2.2.2.2.2.2.1 q147.2.2.2.2.2.2.2.1 i_t_orders i_t_outputMany i_t_input q147.2.2.2.2.2.2.2.2 1 0 3 q157 hq157) tm_1469 tm_1471 sl_53 tm_15 tm_1472 na_Md_takes ⟨Nat.le_of_ble_eq_true rfl, Nat.le_of_ble_eq_true rfl⟩ rfl [0, 2, 3] rfl rfl rfl (ws' := wd_Md_takesRest cI a_t a_t_w a_t_wKept a_t_saved a_t_past a_t_input a_t_n a_t_order a_t_numbers a_t_output i_t_pastMany i_t_isSaved i_t_thrown i_t_inputMany i_t_lastError i_t_lastOffset q157.2.1 q157.2.2.1 q157.2.2.2.1 q157.2.2.2.2.1 q157.2.2.2.2.2.1 q157.2.2.2.2.2.2.1 q157.2.2.2.2.2.2.2.1 i_t_orders i_t_outputMany i_t_w i_t_input q157.2.2.2.2.2.2.2.2) rfl 0 11 rfl rfl rfl (st := []) rfl (Nat.le_of_ble_eq_true rfl) rd_Md_takesRest_157 ?_ ⟨Nat.le_refl _, Nat.le_refl _⟩
      refine jk_if_eq (tgt := 178) C rd_Md_takesRest_160 (by decide) hf (fun _ hf => ?_) (fun _ hf => ?_)
      · refine jk_iconst C rd_Md_takesRest_178 ?_
        cases hf
        exact jk_zret C (Or.inl rfl) rfl rd_Md_takesRest_179 rfl
      · refine jk_aload_n C rd_Md_takesRest_163 (k := 0) rfl ?_
        refine jk_iconst C rd_Md_takesRest_164 ?_
        refine jk_iconst C rd_Md_takesRest_165 ?_
        refine jk_bipush C rd_Md_takesRest_166 (by decide +kernel) ?_
        obtain ⟨q168, hq168, hf⟩ := jk_bind_h hf
        refine jk_callVi C hZ.1 hz (ct_Md_takes l D Z sq hZ cI cR a_t a_t_w a_t_wKept a_t_saved a_t_past a_t_input a_t_n a_t_order a_t_numbers a_t_output i_t_pastMany i_t_isSaved i_t_thrown i_t_inputMany i_t_lastError i_t_lastOffset q157.2.1 q157.2.2.1 q157.2.2.2.1 q157.2.2.2.2.1 q157.2.2.2.2.2.1 q157.2.2.2.2.2.2.1 q157.2.2.2.2.2.2.2.1 i_t_orders i_t_outputMany i_t_input q157.2.2.2.2.2.2.2.2 2 0 9 q168 hq168) tm_1469 tm_1471 sl_53 tm_15 tm_1472 na_Md_takes ⟨Nat.le_of_ble_eq_true rfl, Nat.le_of_ble_eq_true rfl⟩ rfl [0, 2, 3] rfl rfl rfl (ws' := wd_Md_takesRest cI a_t a_t_w a_t_wKept a_t_saved a_t_past a_t_input a_t_n a_t_order a_t_numbers a_t_output i_t_pastMany i_t_isSaved i_t_thrown i_t_inputMany i_t_lastError i_t_lastOffset q168.2.1 q168.2.2.1 q168.2.2.2.1 q168.2.2.2.2.1 q168.2.2.2.2.2.1 q168.2.2.2.2.2.2.1 q168.2.2.2.2.2.2.2.1 i_t_orders i_t_outputMany i_t_w i_t_input q168.2.2.2.2.2.2.2.2) rfl 0 11 rfl rfl rfl (st := []) rfl (Nat.le_of_ble_eq_true rfl) rd_Md_takesRest_168 ?_ ⟨Nat.le_refl _, Nat.le_refl _⟩
        refine jk_if_eq (tgt := 178) C rd_Md_takesRest_171 (by decide) hf (fun _ hf => ?_) (fun _ hf => ?_)
        · refine jk_iconst C rd_Md_takesRest_178 ?_
          cases hf
          exact jk_zret C (Or.inl rfl) rfl rd_Md_takesRest_179 rfl
        · refine jk_iconst C rd_Md_takesRest_174 ?_
          refine jk_goto (tgt := 179) C rd_Md_takesRest_175 (by decide) ?_
          cases hf
          exact jk_zret C (Or.inr rfl) rfl rd_Md_takesRest_179 rfl
  refine jk_eqs_c hf (fun hx hf => ?_) (fun hx7 hf => ?_)
  · refine jk_tabIn (off := 175) (tgt := 180) C rd_Md_takesRest_5 (k := 7) hx (by decide +kernel) (by decide) ?_
    refine jk_aload_n C rd_Md_takesRest_180 (k := 0) rfl ?_
    obtain ⟨q181, hq181, hf⟩ := jk_bind_h hf
    refine jk_callVi C hZ.1 hz (ct_Md_takesCordNumber l D Z sq hZ cI cR a_t a_t_w a_t_wKept a_t_saved a_t_past a_t_input a_t_n a_t_order a_t_numbers a_t_output i_t_pastMany i_t_isSaved i_t_thrown i_t_inputMany i_t_lastError i_t_lastOffset i_t_error i_t_offset q1.1 q1.2.1 q1.2.2.1 q1.2.2.2 i_t_got i_t_orders i_t_outputMany i_t_input i_t_n q181 hq181) tm_1508 tm_1510 sl_60 tm_15 tm_1511 na_Md_takesCordNumber ⟨Nat.le_of_ble_eq_true rfl, Nat.le_of_ble_eq_true rfl⟩ rfl [0, 2, 3] rfl rfl rfl (ws' := wd_Md_takesRest cI a_t a_t_w a_t_wKept a_t_saved a_t_past a_t_input a_t_n a_t_order a_t_numbers a_t_output i_t_pastMany i_t_isSaved i_t_thrown i_t_inputMany i_t_lastError i_t_lastOffset q181.2.1 q181.2.2.1 q181.2.2.2.1 q181.2.2.2.2.1 q181.2.2.2.2.2.1 q181.2.2.2.2.2.2.1 q181.2.2.2.2.2.2.2.1 i_t_orders i_t_outputMany i_t_w i_t_input q181.2.2.2.2.2.2.2.2) rfl 0 11 rfl rfl rfl (st := []) rfl (Nat.le_of_ble_eq_true rfl) rd_Md_takesRest_181 ?_ ⟨Nat.le_refl _, Nat.le_refl _⟩
    refine jk_if_eq (tgt := 201) C rd_Md_takesRest_184 (by decide) hf (fun _ hf => ?_) (fun _ hf => ?_)
    · refine jk_iconst C rd_Md_takesRest_201 ?_
      cases hf
      exact jk_zret C (Or.inl rfl) rfl rd_Md_takesRest_202 rfl
    · refine jk_aload_n C rd_Md_takesRest_187 (k := 0) rfl ?_
      refine jk_iconst C rd_Md_takesRest_188 ?_
      refine jk_iconst C rd_Md_takesRest_189 ?_
      refine jk_iconst C rd_Md_takesRest_190 ?_
      obtain ⟨q191, hq191, hf⟩ := jk_bind_h hf
      refine jk_callVi C hZ.1 hz (ct_Md_takes l D Z sq hZ cI cR a_t a_t_w a_t_wKept a_t_saved a_t_past a_t_input a_t_n a_t_order a_t_numbers a_t_output i_t_pastMany i_t_isSaved i_t_thrown i_t_inputMany i_t_lastError i_t_lastOffset q181.2.1 q181.2.2.1 q181.2.2.2.1 q181.2.2.2.2.1 q181.2.2.2.2.2.1 q181.2.2.2.2.2.2.1 q181.2.2.2.2.2.2.2.1 i_t_orders i_t_outputMany i_t_input q181.2.2.2.2.2.2.2.2 1 1 4 q191 hq191) tm_1469 tm_1471 sl_53 tm_15 tm_1472 na_Md_takes ⟨Nat.le_of_ble_eq_true rfl, Nat.le_of_ble_eq_true rfl⟩ rfl [0, 2, 3] rfl rfl rfl (ws' := wd_Md_takesRest cI a_t a_t_w a_t_wKept a_t_saved a_t_past a_t_input a_t_n a_t_order a_t_numbers a_t_output i_t_pastMany i_t_isSaved i_t_thrown i_t_inputMany i_t_lastError i_t_lastOffset q191.2.1 q191.2.2.1 q191.2.2.2.1 q191.2.2.2.2.1 q191.2.2.2.2.2.1 q191.2.2.2.2.2.2.1 q191.2.2.2.2.2.2.2.1 i_t_orders i_t_outputMany i_t_w i_t_input q191.2.2.2.2.2.2.2.2) rfl 0 11 rfl rfl rfl (st := []) rfl (Nat.le_of_ble_eq_true rfl) rd_Md_takesRest_191 ?_ ⟨Nat.le_refl _, Nat.le_refl _⟩
      refine jk_if_eq (tgt := 201) C rd_Md_takesRest_194 (by decide) hf (fun _ hf => ?_) (fun _ hf => ?_)
      · refine jk_iconst C rd_Md_takesRest_201 ?_
        cases hf
        exact jk_zret C (Or.inl rfl) rfl rd_Md_takesRest_202 rfl
      · refine jk_iconst C rd_Md_takesRest_197 ?_
        refine jk_goto (tgt := 202) C rd_Md_takesRest_198 (by decide) ?_
        cases hf
        exact jk_zret C (Or.inr rfl) rfl rd_Md_takesRest_202 rfl
  refine jk_eqs_c hf (fun hx hf => ?_) (fun hx8 hf => ?_)
  · refine jk_tabIn (off := 198) (tgt := 203) C rd_Md_takesRest_5 (k := 8) hx (by decide +kernel) (by decide) ?_
    refine jk_aload_n C rd_Md_takesRest_203 (k := 0) rfl ?_
    obtain ⟨q204, hq204, hf⟩ := jk_bind_h hf
    refine jk_callVi C hZ.1 hz (ct_Md_takesCordNumber l D Z sq hZ cI cR a_t a_t_w a_t_wKept a_t_saved a_t_past a_t_input a_t_n a_t_order a_t_numbers a_t_output i_t_pastMany i_t_isSaved i_t_thrown i_t_inputMany i_t_lastError i_t_lastOffset i_t_error i_t_offset q1.1 q1.2.1 q1.2.2.1 q1.2.2.2 i_t_got i_t_orders i_t_outputMany i_t_input i_t_n q204 hq204) tm_1508 tm_1510 sl_60 tm_15 tm_1511 na_Md_takesCordNumber ⟨Nat.le_of_ble_eq_true rfl, Nat.le_of_ble_eq_true rfl⟩ rfl [0, 2, 3] rfl rfl rfl (ws' := wd_Md_takesRest cI a_t a_t_w a_t_wKept a_t_saved a_t_past a_t_input a_t_n a_t_order a_t_numbers a_t_output i_t_pastMany i_t_isSaved i_t_thrown i_t_inputMany i_t_lastError i_t_lastOffset q204.2.1 q204.2.2.1 q204.2.2.2.1 q204.2.2.2.2.1 q204.2.2.2.2.2.1 q204.2.2.2.2.2.2.1 q204.2.2.2.2.2.2.2.1 i_t_orders i_t_outputMany i_t_w i_t_input q204.2.2.2.2.2.2.2.2) rfl 0 11 rfl rfl rfl (st := []) rfl (Nat.le_of_ble_eq_true rfl) rd_Md_takesRest_204 ?_ ⟨Nat.le_refl _, Nat.le_refl _⟩
    refine jk_if_eq (tgt := 222) C rd_Md_takesRest_207 (by decide) hf (fun _ hf => ?_) (fun _ hf => ?_)
    · refine jk_iconst C rd_Md_takesRest_222 ?_
      cases hf
      exact jk_zret C (Or.inl rfl) rfl rd_Md_takesRest_223 rfl
    · refine jk_aload_n C rd_Md_takesRest_210 (k := 0) rfl ?_
      refine jk_iconst C rd_Md_takesRest_211 ?_
      obtain ⟨q212, hq212, hf⟩ := jk_bind_h hf
      refine jk_callVi C hZ.1 hz (ct_Md_takesTopic l D Z sq hZ cI cR a_t a_t_w a_t_wKept a_t_saved a_t_past a_t_input a_t_n a_t_order a_t_numbers a_t_output i_t_pastMany i_t_isSaved i_t_thrown i_t_inputMany i_t_lastError i_t_lastOffset q204.2.1 q204.2.2.1 q204.2.2.2.1 q204.2.2.2.2.1 q204.2.2.2.2.2.1 q204.2.2.2.2.2.2.1 q204.2.2.2.2.2.2.2.1 i_t_orders i_t_outputMany i_t_w i_t_input q204.2.2.2.2.2.2.2.2 1 q212 hq212) tm_1465 tm_1467 sl_52 tm_15 tm_1468 na_Md_takesTopic ⟨Nat.le_of_ble_eq_true rfl, Nat.le_of_ble_eq_true rfl⟩ rfl [0, 1, 2, 3] rfl rfl rfl (ws' := wd_Md_takesRest cI a_t a_t_w a_t_wKept a_t_saved a_t_past a_t_input a_t_n a_t_order a_t_numbers a_t_output i_t_pastMany i_t_isSaved i_t_thrown i_t_inputMany i_t_lastError i_t_lastOffset q212.2.1 q212.2.2.1 q212.2.2.2.1 q212.2.2.2.2.1 q212.2.2.2.2.2.1 q212.2.2.2.2.2.2.1 q204.2.2.2.2.2.2.2.1 i_t_orders i_t_outputMany i_t_w i_t_input q212.2.2.2.2.2.2.2) rfl 0 11 rfl rfl rfl (st := []) rfl (Nat.le_of_ble_eq_true rfl) rd_Md_takesRest_212 ?_ ⟨Nat.le_refl _, Nat.le_refl _⟩
      refine jk_if_eq (tgt := 222) C rd_Md_takesRest_215 (by decide) hf (fun _ hf => ?_) (fun _ hf => ?_)
      · refine jk_iconst C rd_Md_takesRest_222 ?_
        cases hf
        exact jk_zret C (Or.inl rfl) rfl rd_Md_takesRest_223 rfl
      · refine jk_iconst C rd_Md_takesRest_218 ?_
        refine jk_goto (tgt := 223) C rd_Md_takesRest_219 (by decide) ?_
        cases hf
        exact jk_zret C (Or.inr rfl) rfl rd_Md_takesRest_223 rfl
  refine jk_tabOut (tgt := 224) C rd_Md_takesRest_5 (jk_rg_h hf).1 (by omega) (by decide) ?_
  replace hf := (jk_rg_h hf).2
  refine jk_aload_n C rd_Md_takesRest_224 (k := 0) rfl ?_
  obtain ⟨q225, hq225, hf⟩ := jk_bind_h hf
  refine jk_callVi C hZ.1 hz (ct_Md_takesCluster l D Z sq hZ cI cR a_t a_t_w a_t_wKept a_t_saved a_t_past a_t_input a_t_n a_t_order a_t_numbers a_t_output i_t_pastMany i_t_isSaved i_t_thrown i_t_inputMany i_t_lastError i_t_lastOffset i_t_error i_t_offset q1.1 q1.2.1 q1.2.2.1 q1.2.2.2 i_t_got i_t_orders i_t_outputMany i_t_input i_t_n q225 hq225) tm_1504 tm_1506 sl_59 tm_15 tm_1507 na_Md_takesCluster ⟨Nat.le_of_ble_eq_true rfl, Nat.le_of_ble_eq_true rfl⟩ rfl [0, 2, 3] rfl rfl rfl (ws' := wd_Md_takesRest cI a_t a_t_w a_t_wKept a_t_saved a_t_past a_t_input a_t_n a_t_order a_t_numbers a_t_output i_t_pastMany i_t_isSaved i_t_thrown i_t_inputMany i_t_lastError i_t_lastOffset q225.2.1 q225.2.2.1 q225.2.2.2.1 q225.2.2.2.2.1 q225.2.2.2.2.2.1 q225.2.2.2.2.2.2.1 q225.2.2.2.2.2.2.2.1 i_t_orders i_t_outputMany i_t_w i_t_input q225.2.2.2.2.2.2.2.2) rfl 0 11 rfl rfl rfl (st := []) rfl (Nat.le_of_ble_eq_true rfl) rd_Md_takesRest_225 ?_ ⟨Nat.le_refl _, Nat.le_refl _⟩
  obtain ⟨hbo, hf⟩ := jk_bo_h hf
  cases hf
  exact jk_zret C hbo rfl rd_Md_takesRest_228 rfl
def wd_Md_readScriptStatement (cI : ClassId) (a_t a_t_w a_t_wKept a_t_saved a_t_past a_t_input a_t_n a_t_order a_t_numbers a_t_output : Nat) (i_t_pastMany : Int) (i_t_isSaved : Int) (i_t_thrown : Int) (i_t_inputMany : Int) (i_t_lastError : Int) (i_t_lastOffset : Int) (i_t_error : Int) (i_t_offset : Int) (i_t_nextByte : Int) (i_t_begin : Int) (i_t_value : Int) (i_t_token : Int) (i_t_got : Int) (i_t_orders : Int) (i_t_outputMany : Int) (i_t_w : (Int → Int)) (i_t_input : (Int → Int)) (i_t_n : (Int → Int)) (i_t_order : (Int → Int)) (i_t_numbers : (Int → Int)) : va_W := [(a_t, .inr (11, [.ref a_t_w, .ref a_t_wKept, .ref a_t_saved, .ref a_t_past, jk_V i_t_pastMany, jk_V i_t_isSaved, jk_V i_t_thrown, .ref a_t_input, jk_V i_t_inputMany, jk_V i_t_lastError, jk_V i_t_lastOffset, jk_V i_t_error, jk_V i_t_offset, jk_V i_t_nextByte, jk_V i_t_begin, jk_V i_t_value, jk_V i_t_token, jk_V i_t_got, .ref a_t_n, .ref a_t_order, .ref a_t_numbers, jk_V i_t_orders, .ref a_t_output, jk_V i_t_outputMany])), (a_t_w, jk_W cI 259 i_t_w), (a_t_input, jk_W cI 700 i_t_input), (a_t_n, jk_W cI 3 i_t_n), (a_t_order, jk_W cI 31 i_t_order), (a_t_numbers, jk_W cI 93 i_t_numbers)]
set_option maxHeartbeats 4000000 in
set_option maxRecDepth 20000 in
theorem ct_Md_readScriptStatement (l : Launch) (D : va_G) (Z : (Nat → Prop) → State → Heap → Prop) (sq : Nat → Nat) (hZ : jk_ZK Z sq) (cI cR : ClassId) (a_t a_t_w a_t_wKept a_t_saved a_t_past a_t_input a_t_n a_t_order a_t_numbers a_t_output : Nat) (i_t_pastMany : Int) (i_t_isSaved : Int) (i_t_thrown : Int) (i_t_inputMany : Int) (i_t_lastError : Int) (i_t_lastOffset : Int) (i_t_error : Int) (i_t_offset : Int) (i_t_nextByte : Int) (i_t_begin : Int) (i_t_value : Int) (i_t_token : Int) (i_t_got : Int) (i_t_orders : Int) (i_t_outputMany : Int) (i_t_w : (Int → Int)) (i_t_input : (Int → Int)) (i_t_n : (Int → Int)) (i_t_order : (Int → Int)) (i_t_numbers : (Int → Int)) (q : Int × Int × Int × Int × Int × Int × Int × Int × (Int → Int) × (Int → Int) × (Int → Int) × Int) (hf : fn_Md_readScriptStatement i_t_w i_t_input i_t_inputMany i_t_error i_t_offset i_t_nextByte i_t_begin i_t_value i_t_token i_t_got i_t_n i_t_order i_t_numbers i_t_orders = some q) : jk_MI l D jk_cl (jk_ty cI cR) Z mn_Md_readScriptStatement (.code mn_Md_readScriptStatement mb_Md_readScriptStatement 3 (some .boolean) :: jk_WA) (jk_rm 8 342) [.ref a_t] (wd_Md_readScriptStatement cI a_t a_t_w a_t_wKept a_t_saved a_t_past a_t_input a_t_n a_t_order a_t_numbers a_t_output i_t_pastMany i_t_isSaved i_t_thrown i_t_inputMany i_t_lastError i_t_lastOffset i_t_error i_t_offset i_t_nextByte i_t_begin i_t_value i_t_token i_t_got i_t_orders i_t_outputMany i_t_w i_t_input i_t_n i_t_order i_t_numbers) (wd_Md_readScriptStatement cI a_t a_t_w a_t_wKept a_t_saved a_t_past a_t_input a_t_n a_t_order a_t_numbers a_t_output i_t_pastMany i_t_isSaved i_t_thrown i_t_inputMany i_t_lastError i_t_lastOffset q.2.1 q.2.2.1 q.2.2.2.1 q.2.2.2.2.1 q.2.2.2.2.2.1 q.2.2.2.2.2.2.1 q.2.2.2.2.2.2.2.1 q.2.2.2.2.2.2.2.2.2.2.2 i_t_outputMany i_t_w i_t_input q.2.2.2.2.2.2.2.2.1 q.2.2.2.2.2.2.2.2.2.1 q.2.2.2.2.2.2.2.2.2.2.1) q.1 := by
  intro sz
  refine jk_body (by decide +kernel) (fun p e s m args below meth c hsz hz hin C => ?_) (Nat.le_of_ble_eq_true rfl)
  subst hsz
  unfold fn_Md_readScriptStatement at hf
  have bk_53 : ∀ (n : Nat) (t_error : Int) (t_offset : Int) (t_nextByte : Int) (t_begin : Int) (t_value : Int) (t_token : Int) (t_got : Int) (t_n : (Int → Int)) (t_order : (Int → Int)) (t_numbers : (Int → Int)) (t_orders : Int) (v2 : Int), fn_Md_readScriptStatement_b53 n i_t_input i_t_inputMany t_error t_offset t_nextByte t_begin t_value t_token t_got t_n t_order t_numbers t_orders v2 = some q → jk_J p l e (jk_rm 8 342) s m args below meth c 0 0 (jk_QI below D jk_cl (jk_ty cI cR) (wd_Md_readScriptStatement cI a_t a_t_w a_t_wKept a_t_saved a_t_past a_t_input a_t_n a_t_order a_t_numbers a_t_output i_t_pastMany i_t_isSaved i_t_thrown i_t_inputMany i_t_lastError i_t_lastOffset i_t_error i_t_offset i_t_nextByte i_t_begin i_t_value i_t_token i_t_got i_t_orders i_t_outputMany i_t_w i_t_input i_t_n i_t_order i_t_numbers) (wd_Md_readScriptStatement cI a_t a_t_w a_t_wKept a_t_saved a_t_past a_t_input a_t_n a_t_order a_t_numbers a_t_output i_t_pastMany i_t_isSaved i_t_thrown i_t_inputMany i_t_lastError i_t_lastOffset q.2.1 q.2.2.1 q.2.2.2.1 q.2.2.2.2.1 q.2.2.2.2.2.1 q.2.2.2.2.2.2.1 q.2.2.2.2.2.2.2.1 q.2.2.2.2.2.2.2.2.2.2.2 i_t_outputMany i_t_w i_t_input q.2.2.2.2.2.2.2.2.1 q.2.2.2.2.2.2.2.2.2.1 q.2.2.2.2.2.2.2.2.2.2.1) args s q.1) D jk_cl (va_A (wd_Md_readScriptStatement cI a_t a_t_w a_t_wKept a_t_saved a_t_past a_t_input a_t_n a_t_order a_t_numbers a_t_output i_t_pastMany i_t_isSaved i_t_thrown i_t_inputMany i_t_lastError i_t_lastOffset i_t_error i_t_offset i_t_nextByte i_t_begin i_t_value i_t_token i_t_got i_t_orders i_t_outputMany i_t_w i_t_input i_t_n i_t_order i_t_numbers) s.heap.size) 3 (wd_Md_readScriptStatement cI a_t a_t_w a_t_wKept a_t_saved a_t_past a_t_input a_t_n a_t_order a_t_numbers a_t_output i_t_pastMany i_t_isSaved i_t_thrown i_t_inputMany i_t_lastError i_t_lastOffset t_error t_offset t_nextByte t_begin t_value t_token t_got t_orders i_t_outputMany i_t_w i_t_input t_n t_order t_numbers) [(0, .ref a_t), (2, jk_V v2)] 53 [] := by
    intro n
    induction n with
    | zero => intro t_error t_offset t_nextByte t_begin t_value t_token t_got t_n t_order t_numbers t_orders v2 hf; exact nomatch (show none = some q from hf)
    | succ n ih =>
      intro t_error t_offset t_nextByte t_begin t_value t_token t_got t_n t_order t_numbers t_orders v2 hf
      rw [fn_Md_readScriptStatement_b53] at hf
      refine jk_iload_n C rd_Md_readScriptStatement_53 (k := 1) rfl ?_
      refine jk_iconst C rd_Md_readScriptStatement_54 ?_
      refine jk_icmp_ge (tgt := 83) C rd_Md_readScriptStatement_55 (by decide) hf (fun _ hf => ?_) (fun _ hf => ?_)
      · refine jk_aload_n C rd_Md_readScriptStatement_83 (k := 0) rfl ?_
        refine jk_dup C rd_Md_readScriptStatement_84 rfl ?_
        refine jk_get C in_Md (ci := 11) rfl 21 (by decide) tm_1284 0 rfl rfl rd_Md_readScriptStatement_85 ?_
        refine jk_iconst C rd_Md_readScriptStatement_88 ?_
        refine jk_iadd C rd_Md_readScriptStatement_89 ?_
        refine jk_putf C in_Md ty_Md nm_Md (ci := 11) rfl 21 (by decide) tm_1284 rfl rfl rfl 0 rfl (Nat.le_of_ble_eq_true rfl) rd_Md_readScriptStatement_90 (ws' := wd_Md_readScriptStatement cI a_t a_t_w a_t_wKept a_t_saved a_t_past a_t_input a_t_n a_t_order a_t_numbers a_t_output i_t_pastMany i_t_isSaved i_t_thrown i_t_inputMany i_t_lastError i_t_lastOffset t_error t_offset t_nextByte t_begin t_value t_token t_got (t_orders + 1) i_t_outputMany i_t_w i_t_input t_n t_order t_numbers) rfl ?_
        refine jk_aload_n C rd_Md_readScriptStatement_93 (k := 0) rfl ?_
        obtain ⟨q94, hq94, hf⟩ := jk_bind_h hf
        refine jk_callVi C hZ.1 hz (ct_Md_takesSemicolon l D Z sq hZ cI cR a_t a_t_w a_t_wKept a_t_saved a_t_past a_t_input a_t_n a_t_order a_t_numbers a_t_output i_t_pastMany i_t_isSaved i_t_thrown i_t_inputMany i_t_lastError i_t_lastOffset t_error t_offset t_nextByte t_begin t_value t_token t_got (t_orders + 1) i_t_outputMany i_t_input q94 hq94) tm_1413 tm_1415 sl_40 tm_15 tm_1416 na_Md_takesSemicolon ⟨Nat.le_of_ble_eq_true rfl, Nat.le_of_ble_eq_true rfl⟩ rfl [0, 2] rfl rfl rfl (ws' := wd_Md_readScriptStatement cI a_t a_t_w a_t_wKept a_t_saved a_t_past a_t_input a_t_n a_t_order a_t_numbers a_t_output i_t_pastMany i_t_isSaved i_t_thrown i_t_inputMany i_t_lastError i_t_lastOffset q94.2.1 q94.2.2.1 q94.2.2.2.1 q94.2.2.2.2.1 q94.2.2.2.2.2.1 q94.2.2.2.2.2.2 t_got (t_orders + 1) i_t_outputMany i_t_w i_t_input t_n t_order t_numbers) rfl 0 11 rfl rfl rfl (st := []) rfl (Nat.le_of_ble_eq_true rfl) rd_Md_readScriptStatement_94 ?_ ⟨Nat.le_refl _, Nat.le_refl _⟩
        obtain ⟨hbo, hf⟩ := jk_bo_h hf
        cases hf
        exact jk_zret C hbo rfl rd_Md_readScriptStatement_97 rfl
      · refine jk_aload_n C rd_Md_readScriptStatement_58 (k := 0) rfl ?_
        refine jk_get C in_Md (ci := 11) rfl 20 (by decide) tm_1283 0 rfl rfl rd_Md_readScriptStatement_59 ?_
        refine jk_iconst C rd_Md_readScriptStatement_62 ?_
        refine jk_aload_n C rd_Md_readScriptStatement_63 (k := 0) rfl ?_
        refine jk_get C in_Md (ci := 11) rfl 21 (by decide) tm_1284 0 rfl rfl rd_Md_readScriptStatement_64 ?_
        refine jk_imul C rd_Md_readScriptStatement_67 ?_
        refine jk_iload_n C rd_Md_readScriptStatement_68 (k := 1) rfl ?_
        refine jk_iadd C rd_Md_readScriptStatement_69 ?_
        refine jk_aload_n C rd_Md_readScriptStatement_70 (k := 0) rfl ?_
        refine jk_get C in_Md (ci := 11) rfl 18 (by decide) tm_1281 0 rfl rfl rd_Md_readScriptStatement_71 ?_
        refine jk_iload_n C rd_Md_readScriptStatement_74 (k := 1) rfl ?_
        refine jk_iald C 3 0 rfl rfl (Nat.le_of_ble_eq_true rfl) rd_Md_readScriptStatement_75 hf (fun hf => ?_)
        refine jk_iast C 5 0 rfl rfl (Nat.le_of_ble_eq_true rfl) rd_Md_readScriptStatement_76 hf (ws' := wd_Md_readScriptStatement cI a_t a_t_w a_t_wKept a_t_saved a_t_past a_t_input a_t_n a_t_order a_t_numbers a_t_output i_t_pastMany i_t_isSaved i_t_thrown i_t_inputMany i_t_lastError i_t_lastOffset t_error t_offset t_nextByte t_begin t_value t_token t_got t_orders i_t_outputMany i_t_w i_t_input t_n t_order (jk_up t_numbers ((3 * t_orders) + v2) (t_n v2))) rfl (fun hf => ?_)
        refine jk_iinc C rd_Md_readScriptStatement_77 (k := 1) rfl (by decide) (lv' := [(2, jk_V (v2 + 1)), (0, .ref a_t)]) rfl ?_
        refine jk_goto (tgt := 53) C rd_Md_readScriptStatement_80 (by decide) ?_
        refine jk_lv (lv' := [(0, .ref a_t), (2, jk_V (v2 + 1))]) [1, 0] rfl ?_
        exact ih t_error t_offset t_nextByte t_begin t_value t_token t_got t_n t_order (jk_up t_numbers ((3 * t_orders) + v2) (t_n v2)) t_orders (v2 + 1) hf
  refine jk_aload_n C rd_Md_readScriptStatement_0 (k := 0) rfl ?_
  obtain ⟨q1, hq1, hf⟩ := jk_bind_h hf
  refine jk_callVi C hZ.1 hz (ct_Md_scriptHere l D Z sq hZ cI cR a_t a_t_w a_t_wKept a_t_saved a_t_past a_t_input a_t_n a_t_order a_t_numbers a_t_output i_t_pastMany i_t_isSaved i_t_thrown i_t_inputMany i_t_lastError i_t_lastOffset i_t_error i_t_offset i_t_nextByte i_t_begin i_t_value i_t_token i_t_got i_t_orders i_t_outputMany i_t_input q1 hq1) tm_1490 tm_1492 sl_57 tm_15 tm_1493 na_Md_scriptHere ⟨Nat.le_of_ble_eq_true rfl, Nat.le_of_ble_eq_true rfl⟩ rfl [0, 2] rfl rfl rfl (ws' := wd_Md_readScriptStatement cI a_t a_t_w a_t_wKept a_t_saved a_t_past a_t_input a_t_n a_t_order a_t_numbers a_t_output i_t_pastMany i_t_isSaved i_t_thrown i_t_inputMany i_t_lastError i_t_lastOffset i_t_error i_t_offset i_t_nextByte i_t_begin i_t_value i_t_token i_t_got i_t_orders i_t_outputMany i_t_w i_t_input i_t_n i_t_order i_t_numbers) rfl 0 11 rfl rfl rfl (st := []) rfl (Nat.le_of_ble_eq_true rfl) rd_Md_readScriptStatement_1 ?_ ⟨Nat.le_refl _, Nat.le_refl _⟩
  refine jk_istore_n C rd_Md_readScriptStatement_4 (by decide) (lv' := [(1, jk_V q1), (0, .ref a_t)]) rfl ?_
  refine jk_iload_n C rd_Md_readScriptStatement_5 (k := 0) rfl ?_
  refine jk_if_ne (tgt := 15) C rd_Md_readScriptStatement_6 (by decide) hf (fun _ hf => ?_) (fun _ hf => ?_)
  · refine jk_aload_n C rd_Md_readScriptStatement_15 (k := 1) rfl ?_
    refine jk_get C in_Md (ci := 11) rfl 21 (by decide) tm_1284 0 rfl rfl rd_Md_readScriptStatement_16 ?_
    refine jk_bipush C rd_Md_readScriptStatement_19 (by decide +kernel) ?_
    refine jk_icmp_ne (tgt := 31) C rd_Md_readScriptStatement_21 (by decide) hf (fun _ hf => ?_) (fun _ hf => ?_)
    · refine jk_aload_n C rd_Md_readScriptStatement_31 (k := 1) rfl ?_
      refine jk_iload_n C rd_Md_readScriptStatement_32 (k := 0) rfl ?_
      obtain ⟨q33, hq33, hf⟩ := jk_bind_h hf
      refine jk_callVi C hZ.1 hz (ct_Md_takesRest l D Z sq hZ cI cR a_t a_t_w a_t_wKept a_t_saved a_t_past a_t_input a_t_n a_t_order a_t_numbers a_t_output i_t_pastMany i_t_isSaved i_t_thrown i_t_inputMany i_t_lastError i_t_lastOffset i_t_error i_t_offset i_t_nextByte i_t_begin i_t_value i_t_token i_t_got i_t_orders i_t_outputMany i_t_w i_t_input i_t_n q1 q33 hq33) tm_1500 tm_1502 sl_58 tm_15 tm_1503 na_Md_takesRest ⟨Nat.le_of_ble_eq_true rfl, Nat.le_of_ble_eq_true rfl⟩ rfl [0, 1, 2, 3] rfl rfl rfl (ws' := wd_Md_readScriptStatement cI a_t a_t_w a_t_wKept a_t_saved a_t_past a_t_input a_t_n a_t_order a_t_numbers a_t_output i_t_pastMany i_t_isSaved i_t_thrown i_t_inputMany i_t_lastError i_t_lastOffset q33.2.1 q33.2.2.1 q33.2.2.2.1 q33.2.2.2.2.1 q33.2.2.2.2.2.1 q33.2.2.2.2.2.2.1 q33.2.2.2.2.2.2.2.1 i_t_orders i_t_outputMany i_t_w i_t_input q33.2.2.2.2.2.2.2.2 i_t_order i_t_numbers) rfl 0 11 rfl rfl rfl (st := []) rfl (Nat.le_of_ble_eq_true rfl) rd_Md_readScriptStatement_33 ?_ ⟨Nat.le_refl _, Nat.le_refl _⟩
      refine jk_if_ne (tgt := 41) C rd_Md_readScriptStatement_36 (by decide) hf (fun _ hf => ?_) (fun _ hf => ?_)
      · refine jk_aload_n C rd_Md_readScriptStatement_41 (k := 1) rfl ?_
        refine jk_get C in_Md (ci := 11) rfl 19 (by decide) tm_1282 0 rfl rfl rd_Md_readScriptStatement_42 ?_
        refine jk_aload_n C rd_Md_readScriptStatement_45 (k := 1) rfl ?_
        refine jk_get C in_Md (ci := 11) rfl 21 (by decide) tm_1284 0 rfl rfl rd_Md_readScriptStatement_46 ?_
        refine jk_iload_n C rd_Md_readScriptStatement_49 (k := 0) rfl ?_
        refine jk_iast C 4 0 rfl rfl (Nat.le_of_ble_eq_true rfl) rd_Md_readScriptStatement_50 hf (ws' := wd_Md_readScriptStatement cI a_t a_t_w a_t_wKept a_t_saved a_t_past a_t_input a_t_n a_t_order a_t_numbers a_t_output i_t_pastMany i_t_isSaved i_t_thrown i_t_inputMany i_t_lastError i_t_lastOffset q33.2.1 q33.2.2.1 q33.2.2.2.1 q33.2.2.2.2.1 q33.2.2.2.2.2.1 q33.2.2.2.2.2.2.1 q33.2.2.2.2.2.2.2.1 i_t_orders i_t_outputMany i_t_w i_t_input q33.2.2.2.2.2.2.2.2 (jk_up i_t_order i_t_orders q1) i_t_numbers) rfl (fun hf => ?_)
        refine jk_iconst C rd_Md_readScriptStatement_51 ?_
        refine jk_istore_n C rd_Md_readScriptStatement_52 (by decide) (lv' := [(2, jk_V 0), (1, jk_V q1), (0, .ref a_t)]) rfl ?_
        refine jk_lv (lv' := [(0, .ref a_t), (2, jk_V 0)]) [2, 0] rfl ?_
        exact bk_53 jk_F q33.2.1 q33.2.2.1 q33.2.2.2.1 q33.2.2.2.2.1 q33.2.2.2.2.2.1 q33.2.2.2.2.2.2.1 q33.2.2.2.2.2.2.2.1 q33.2.2.2.2.2.2.2.2 (jk_up i_t_order i_t_orders q1) i_t_numbers i_t_orders 0 hf
      · refine jk_iconst C rd_Md_readScriptStatement_39 ?_
        cases hf
        exact jk_zret C (Or.inl rfl) rfl rd_Md_readScriptStatement_40 rfl
    · refine jk_aload_n C rd_Md_readScriptStatement_24 (k := 1) rfl ?_
      refine jk_bipush C rd_Md_readScriptStatement_25 (by decide +kernel) ?_
      obtain ⟨q27, hq27, hf⟩ := jk_bind_h hf
      refine jk_callVi C hZ.1 hz (ct_Md_failsAt l D Z sq hZ cI cR a_t a_t_w a_t_wKept a_t_saved a_t_past a_t_input a_t_n a_t_order a_t_numbers a_t_output i_t_pastMany i_t_isSaved i_t_thrown i_t_inputMany i_t_lastError i_t_lastOffset i_t_error i_t_offset i_t_nextByte i_t_begin i_t_value i_t_token i_t_got i_t_orders i_t_outputMany 6 q27 hq27) tm_1397 tm_1399 sl_36 tm_15 tm_1400 na_Md_failsAt ⟨Nat.le_of_ble_eq_true rfl, Nat.le_of_ble_eq_true rfl⟩ rfl [0] rfl rfl rfl (ws' := wd_Md_readScriptStatement cI a_t a_t_w a_t_wKept a_t_saved a_t_past a_t_input a_t_n a_t_order a_t_numbers a_t_output i_t_pastMany i_t_isSaved i_t_thrown i_t_inputMany i_t_lastError i_t_lastOffset q27.2.1 q27.2.2 i_t_nextByte i_t_begin i_t_value i_t_token i_t_got i_t_orders i_t_outputMany i_t_w i_t_input i_t_n i_t_order i_t_numbers) rfl 0 11 rfl rfl rfl (st := []) rfl (Nat.le_of_ble_eq_true rfl) rd_Md_readScriptStatement_27 ?_ ⟨Nat.le_refl _, Nat.le_refl _⟩
      obtain ⟨hbo, hf⟩ := jk_bo_h hf
      cases hf
      exact jk_zret C hbo rfl rd_Md_readScriptStatement_30 rfl
  · refine jk_aload_n C rd_Md_readScriptStatement_9 (k := 1) rfl ?_
    refine jk_iconst C rd_Md_readScriptStatement_10 ?_
    obtain ⟨q11, hq11, hf⟩ := jk_bind_h hf
    refine jk_callVi C hZ.1 hz (ct_Md_failsAt l D Z sq hZ cI cR a_t a_t_w a_t_wKept a_t_saved a_t_past a_t_input a_t_n a_t_order a_t_numbers a_t_output i_t_pastMany i_t_isSaved i_t_thrown i_t_inputMany i_t_lastError i_t_lastOffset i_t_error i_t_offset i_t_nextByte i_t_begin i_t_value i_t_token i_t_got i_t_orders i_t_outputMany 1 q11 hq11) tm_1397 tm_1399 sl_36 tm_15 tm_1400 na_Md_failsAt ⟨Nat.le_of_ble_eq_true rfl, Nat.le_of_ble_eq_true rfl⟩ rfl [0] rfl rfl rfl (ws' := wd_Md_readScriptStatement cI a_t a_t_w a_t_wKept a_t_saved a_t_past a_t_input a_t_n a_t_order a_t_numbers a_t_output i_t_pastMany i_t_isSaved i_t_thrown i_t_inputMany i_t_lastError i_t_lastOffset q11.2.1 q11.2.2 i_t_nextByte i_t_begin i_t_value i_t_token i_t_got i_t_orders i_t_outputMany i_t_w i_t_input i_t_n i_t_order i_t_numbers) rfl 0 11 rfl rfl rfl (st := []) rfl (Nat.le_of_ble_eq_true rfl) rd_Md_readScriptStatement_11 ?_ ⟨Nat.le_refl _, Nat.le_refl _⟩
    obtain ⟨hbo, hf⟩ := jk_bo_h hf
    cases hf
    exact jk_zret C hbo rfl rd_Md_readScriptStatement_14 rfl
