theorem rd_Md_mayAdd_0 : decode mb_Md_mayAdd 0 = .ok (.aload_n 0, 1) := by decide +kernel
theorem rd_Md_mayAdd_1 : decode mb_Md_mayAdd 1 = .ok (.getfield 7, 3) := by decide +kernel
theorem rd_Md_mayAdd_4 : decode mb_Md_mayAdd 4 = .ok (.iconst 2, 1) := by decide +kernel
theorem rd_Md_mayAdd_5 : decode mb_Md_mayAdd 5 = .ok (.iaload, 1) := by decide +kernel
theorem rd_Md_mayAdd_6 : decode mb_Md_mayAdd 6 = .ok (.bipush 40, 2) := by decide +kernel
theorem rd_Md_mayAdd_8 : decode mb_Md_mayAdd 8 = .ok (.if_icmp .ge 7, 3) := by decide +kernel
theorem rd_Md_mayAdd_11 : decode mb_Md_mayAdd 11 = .ok (.iconst 1, 1) := by decide +kernel
theorem rd_Md_mayAdd_12 : decode mb_Md_mayAdd 12 = .ok (.goto 4, 3) := by decide +kernel
theorem rd_Md_mayAdd_15 : decode mb_Md_mayAdd 15 = .ok (.iconst 0, 1) := by decide +kernel
theorem rd_Md_mayAdd_16 : decode mb_Md_mayAdd 16 = .ok (.ireturn, 1) := by decide +kernel
theorem rd_Md_maySub_0 : decode mb_Md_maySub 0 = .ok (.aload_n 0, 1) := by decide +kernel
theorem rd_Md_maySub_1 : decode mb_Md_maySub 1 = .ok (.iload_n 1, 1) := by decide +kernel
theorem rd_Md_maySub_2 : decode mb_Md_maySub 2 = .ok (.iconst 1, 1) := by decide +kernel
theorem rd_Md_maySub_3 : decode mb_Md_maySub 3 = .ok (.invokevirtual 63, 3) := by decide +kernel
theorem rd_Md_maySub_6 : decode mb_Md_maySub 6 = .ok (.iconst 1, 1) := by decide +kernel
theorem rd_Md_maySub_7 : decode mb_Md_maySub 7 = .ok (.iconst 2, 1) := by decide +kernel
theorem rd_Md_maySub_8 : decode mb_Md_maySub 8 = .ok (.invokestatic 115, 3) := by decide +kernel
theorem rd_Md_maySub_11 : decode mb_Md_maySub 11 = .ok (.ifCond .eq 14, 3) := by decide +kernel
theorem rd_Md_maySub_14 : decode mb_Md_maySub 14 = .ok (.aload_n 0, 1) := by decide +kernel
theorem rd_Md_maySub_15 : decode mb_Md_maySub 15 = .ok (.invokevirtual 122, 3) := by decide +kernel
theorem rd_Md_maySub_18 : decode mb_Md_maySub 18 = .ok (.ifCond .eq 7, 3) := by decide +kernel
theorem rd_Md_maySub_21 : decode mb_Md_maySub 21 = .ok (.iconst 1, 1) := by decide +kernel
theorem rd_Md_maySub_22 : decode mb_Md_maySub 22 = .ok (.goto 4, 3) := by decide +kernel
theorem rd_Md_maySub_25 : decode mb_Md_maySub 25 = .ok (.iconst 0, 1) := by decide +kernel
theorem rd_Md_maySub_26 : decode mb_Md_maySub 26 = .ok (.ireturn, 1) := by decide +kernel
theorem rd_Md_subs_0 : decode mb_Md_subs 0 = .ok (.aload_n 0, 1) := by decide +kernel
theorem rd_Md_subs_1 : decode mb_Md_subs 1 = .ok (.aload_n 0, 1) := by decide +kernel
theorem rd_Md_subs_2 : decode mb_Md_subs 2 = .ok (.iload_n 1, 1) := by decide +kernel
theorem rd_Md_subs_3 : decode mb_Md_subs 3 = .ok (.invokevirtual 76, 3) := by decide +kernel
theorem rd_Md_subs_6 : decode mb_Md_subs 6 = .ok (.aload_n 0, 1) := by decide +kernel
theorem rd_Md_subs_7 : decode mb_Md_subs 7 = .ok (.iload_n 1, 1) := by decide +kernel
theorem rd_Md_subs_8 : decode mb_Md_subs 8 = .ok (.iconst 0, 1) := by decide +kernel
theorem rd_Md_subs_9 : decode mb_Md_subs 9 = .ok (.invokevirtual 63, 3) := by decide +kernel
theorem rd_Md_subs_12 : decode mb_Md_subs 12 = .ok (.aload_n 0, 1) := by decide +kernel
theorem rd_Md_subs_13 : decode mb_Md_subs 13 = .ok (.iload_n 1, 1) := by decide +kernel
theorem rd_Md_subs_14 : decode mb_Md_subs 14 = .ok (.iconst 1, 1) := by decide +kernel
theorem rd_Md_subs_15 : decode mb_Md_subs 15 = .ok (.invokevirtual 63, 3) := by decide +kernel
theorem rd_Md_subs_18 : decode mb_Md_subs 18 = .ok (.iconst 1, 1) := by decide +kernel
theorem rd_Md_subs_19 : decode mb_Md_subs 19 = .ok (.iadd, 1) := by decide +kernel
theorem rd_Md_subs_20 : decode mb_Md_subs 20 = .ok (.iload_n 2, 1) := by decide +kernel
theorem rd_Md_subs_21 : decode mb_Md_subs 21 = .ok (.iload_n 3, 1) := by decide +kernel
theorem rd_Md_subs_22 : decode mb_Md_subs 22 = .ok (.invokevirtual 48, 3) := by decide +kernel
theorem rd_Md_subs_25 : decode mb_Md_subs 25 = .ok (.ireturn, 1) := by decide +kernel
theorem rd_Md_adds_0 : decode mb_Md_adds 0 = .ok (.aload_n 0, 1) := by decide +kernel
theorem rd_Md_adds_1 : decode mb_Md_adds 1 = .ok (.aload_n 0, 1) := by decide +kernel
theorem rd_Md_adds_2 : decode mb_Md_adds 2 = .ok (.iload_n 1, 1) := by decide +kernel
theorem rd_Md_adds_3 : decode mb_Md_adds 3 = .ok (.invokevirtual 94, 3) := by decide +kernel
theorem rd_Md_adds_6 : decode mb_Md_adds 6 = .ok (.iload_n 1, 1) := by decide +kernel
theorem rd_Md_adds_7 : decode mb_Md_adds 7 = .ok (.iconst 1, 1) := by decide +kernel
theorem rd_Md_adds_8 : decode mb_Md_adds 8 = .ok (.iload_n 2, 1) := by decide +kernel
theorem rd_Md_adds_9 : decode mb_Md_adds 9 = .ok (.iload_n 3, 1) := by decide +kernel
theorem rd_Md_adds_10 : decode mb_Md_adds 10 = .ok (.invokevirtual 48, 3) := by decide +kernel
theorem rd_Md_adds_13 : decode mb_Md_adds 13 = .ok (.ireturn, 1) := by decide +kernel
theorem rd_Md_addsCluster_0 : decode mb_Md_addsCluster 0 = .ok (.aload_n 0, 1) := by decide +kernel
theorem rd_Md_addsCluster_1 : decode mb_Md_addsCluster 1 = .ok (.getfield 7, 3) := by decide +kernel
theorem rd_Md_addsCluster_4 : decode mb_Md_addsCluster 4 = .ok (.iconst 1, 1) := by decide +kernel
theorem rd_Md_addsCluster_5 : decode mb_Md_addsCluster 5 = .ok (.dup2, 1) := by decide +kernel
theorem rd_Md_addsCluster_6 : decode mb_Md_addsCluster 6 = .ok (.iaload, 1) := by decide +kernel
theorem rd_Md_addsCluster_7 : decode mb_Md_addsCluster 7 = .ok (.iconst 1, 1) := by decide +kernel
theorem rd_Md_addsCluster_8 : decode mb_Md_addsCluster 8 = .ok (.iadd, 1) := by decide +kernel
theorem rd_Md_addsCluster_9 : decode mb_Md_addsCluster 9 = .ok (.iastore, 1) := by decide +kernel
theorem rd_Md_addsCluster_10 : decode mb_Md_addsCluster 10 = .ok (.aload_n 0, 1) := by decide +kernel
theorem rd_Md_addsCluster_11 : decode mb_Md_addsCluster 11 = .ok (.getfield 7, 3) := by decide +kernel
theorem rd_Md_addsCluster_14 : decode mb_Md_addsCluster 14 = .ok (.iconst 1, 1) := by decide +kernel
theorem rd_Md_addsCluster_15 : decode mb_Md_addsCluster 15 = .ok (.iaload, 1) := by decide +kernel
theorem rd_Md_addsCluster_16 : decode mb_Md_addsCluster 16 = .ok (.iconst 1, 1) := by decide +kernel
theorem rd_Md_addsCluster_17 : decode mb_Md_addsCluster 17 = .ok (.isub, 1) := by decide +kernel
theorem rd_Md_addsCluster_18 : decode mb_Md_addsCluster 18 = .ok (.ireturn, 1) := by decide +kernel
theorem rd_Md_cuts_0 : decode mb_Md_cuts 0 = .ok (.aload_n 0, 1) := by decide +kernel
theorem rd_Md_cuts_1 : decode mb_Md_cuts 1 = .ok (.iload_n 1, 1) := by decide +kernel
theorem rd_Md_cuts_2 : decode mb_Md_cuts 2 = .ok (.aload_n 0, 1) := by decide +kernel
theorem rd_Md_cuts_3 : decode mb_Md_cuts 3 = .ok (.iload_n 1, 1) := by decide +kernel
theorem rd_Md_cuts_4 : decode mb_Md_cuts 4 = .ok (.invokevirtual 76, 3) := by decide +kernel
theorem rd_Md_cuts_7 : decode mb_Md_cuts 7 = .ok (.iload_n 1, 1) := by decide +kernel
theorem rd_Md_cuts_8 : decode mb_Md_cuts 8 = .ok (.isub, 1) := by decide +kernel
theorem rd_Md_cuts_9 : decode mb_Md_cuts 9 = .ok (.invokevirtual 126, 3) := by decide +kernel
theorem rd_Md_cuts_12 : decode mb_Md_cuts 12 = .ok (.ireturn, 1) := by decide +kernel
theorem rd_Md_mayTie_0 : decode mb_Md_mayTie 0 = .ok (.aload_n 0, 1) := by decide +kernel
theorem rd_Md_mayTie_1 : decode mb_Md_mayTie 1 = .ok (.iload_n 1, 1) := by decide +kernel
theorem rd_Md_mayTie_2 : decode mb_Md_mayTie 2 = .ok (.invokevirtual 97, 3) := by decide +kernel
theorem rd_Md_mayTie_5 : decode mb_Md_mayTie 5 = .ok (.ifCond .ne 28, 3) := by decide +kernel
theorem rd_Md_mayTie_8 : decode mb_Md_mayTie 8 = .ok (.aload_n 0, 1) := by decide +kernel
theorem rd_Md_mayTie_9 : decode mb_Md_mayTie 9 = .ok (.iload_n 1, 1) := by decide +kernel
theorem rd_Md_mayTie_10 : decode mb_Md_mayTie 10 = .ok (.invokevirtual 129, 3) := by decide +kernel
theorem rd_Md_mayTie_13 : decode mb_Md_mayTie 13 = .ok (.ifCond .eq 20, 3) := by decide +kernel
theorem rd_Md_mayTie_16 : decode mb_Md_mayTie 16 = .ok (.aload_n 0, 1) := by decide +kernel
theorem rd_Md_mayTie_17 : decode mb_Md_mayTie 17 = .ok (.aload_n 0, 1) := by decide +kernel
theorem rd_Md_mayTie_18 : decode mb_Md_mayTie 18 = .ok (.iload_n 1, 1) := by decide +kernel
theorem rd_Md_mayTie_19 : decode mb_Md_mayTie 19 = .ok (.invokevirtual 91, 3) := by decide +kernel
theorem rd_Md_mayTie_22 : decode mb_Md_mayTie 22 = .ok (.aload_n 0, 1) := by decide +kernel
theorem rd_Md_mayTie_23 : decode mb_Md_mayTie 23 = .ok (.iload_n 1, 1) := by decide +kernel
theorem rd_Md_mayTie_24 : decode mb_Md_mayTie 24 = .ok (.invokevirtual 94, 3) := by decide +kernel
theorem rd_Md_mayTie_27 : decode mb_Md_mayTie 27 = .ok (.invokevirtual 87, 3) := by decide +kernel
theorem rd_Md_mayTie_30 : decode mb_Md_mayTie 30 = .ok (.ifCond .ne 5, 3) := by decide +kernel
theorem rd_Md_mayTie_33 : decode mb_Md_mayTie 33 = .ok (.iconst 0, 1) := by decide +kernel
theorem rd_Md_mayTie_34 : decode mb_Md_mayTie 34 = .ok (.ireturn, 1) := by decide +kernel
theorem rd_Md_mayTie_35 : decode mb_Md_mayTie 35 = .ok (.aload_n 0, 1) := by decide +kernel
theorem rd_Md_mayTie_36 : decode mb_Md_mayTie 36 = .ok (.iload_n 1, 1) := by decide +kernel
theorem rd_Md_mayTie_37 : decode mb_Md_mayTie 37 = .ok (.invokevirtual 106, 3) := by decide +kernel
theorem rd_Md_mayTie_40 : decode mb_Md_mayTie 40 = .ok (.sipush 9999, 3) := by decide +kernel
theorem rd_Md_mayTie_43 : decode mb_Md_mayTie 43 = .ok (.if_icmp .gt 14, 3) := by decide +kernel
theorem rd_Md_mayTie_46 : decode mb_Md_mayTie 46 = .ok (.aload_n 0, 1) := by decide +kernel
theorem rd_Md_mayTie_47 : decode mb_Md_mayTie 47 = .ok (.invokevirtual 122, 3) := by decide +kernel
theorem rd_Md_mayTie_50 : decode mb_Md_mayTie 50 = .ok (.ifCond .eq 7, 3) := by decide +kernel
theorem rd_Md_mayTie_53 : decode mb_Md_mayTie 53 = .ok (.iconst 1, 1) := by decide +kernel
theorem rd_Md_mayTie_54 : decode mb_Md_mayTie 54 = .ok (.goto 4, 3) := by decide +kernel
theorem rd_Md_mayTie_57 : decode mb_Md_mayTie 57 = .ok (.iconst 0, 1) := by decide +kernel
theorem rd_Md_mayTie_58 : decode mb_Md_mayTie 58 = .ok (.ireturn, 1) := by decide +kernel
theorem rd_Md_ties_0 : decode mb_Md_ties 0 = .ok (.aload_n 0, 1) := by decide +kernel
theorem rd_Md_ties_1 : decode mb_Md_ties 1 = .ok (.iload_n 1, 1) := by decide +kernel
theorem rd_Md_ties_2 : decode mb_Md_ties 2 = .ok (.invokevirtual 106, 3) := by decide +kernel
theorem rd_Md_ties_5 : decode mb_Md_ties 5 = .ok (.istore_n 3, 1) := by decide +kernel
theorem rd_Md_ties_6 : decode mb_Md_ties 6 = .ok (.aload_n 0, 1) := by decide +kernel
theorem rd_Md_ties_7 : decode mb_Md_ties 7 = .ok (.aload_n 0, 1) := by decide +kernel
theorem rd_Md_ties_8 : decode mb_Md_ties 8 = .ok (.iload_n 1, 1) := by decide +kernel
theorem rd_Md_ties_9 : decode mb_Md_ties 9 = .ok (.invokevirtual 91, 3) := by decide +kernel
theorem rd_Md_ties_12 : decode mb_Md_ties 12 = .ok (.iload_n 1, 1) := by decide +kernel
theorem rd_Md_ties_13 : decode mb_Md_ties 13 = .ok (.iconst 0, 1) := by decide +kernel
theorem rd_Md_ties_14 : decode mb_Md_ties 14 = .ok (.iload_n 2, 1) := by decide +kernel
theorem rd_Md_ties_15 : decode mb_Md_ties 15 = .ok (.iload_n 3, 1) := by decide +kernel
theorem rd_Md_ties_16 : decode mb_Md_ties 16 = .ok (.invokevirtual 48, 3) := by decide +kernel
theorem rd_Md_ties_19 : decode mb_Md_ties 19 = .ok (.istore 4, 2) := by decide +kernel
theorem rd_Md_ties_21 : decode mb_Md_ties 21 = .ok (.iload_n 3, 1) := by decide +kernel
theorem rd_Md_ties_22 : decode mb_Md_ties 22 = .ok (.ireturn, 1) := by decide +kernel
theorem rd_Md_sets_0 : decode mb_Md_sets 0 = .ok (.aload_n 0, 1) := by decide +kernel
theorem rd_Md_sets_1 : decode mb_Md_sets 1 = .ok (.iload_n 1, 1) := by decide +kernel
theorem rd_Md_sets_2 : decode mb_Md_sets 2 = .ok (.iload_n 2, 1) := by decide +kernel
theorem rd_Md_sets_3 : decode mb_Md_sets 3 = .ok (.invokevirtual 70, 3) := by decide +kernel
theorem rd_Md_sets_6 : decode mb_Md_sets 6 = .ok (.istore 4, 2) := by decide +kernel
theorem rd_Md_sets_8 : decode mb_Md_sets 8 = .ok (.aload_n 0, 1) := by decide +kernel
theorem rd_Md_sets_9 : decode mb_Md_sets 9 = .ok (.iload_n 1, 1) := by decide +kernel
theorem rd_Md_sets_10 : decode mb_Md_sets 10 = .ok (.iconst 3, 1) := by decide +kernel
theorem rd_Md_sets_11 : decode mb_Md_sets 11 = .ok (.aload_n 0, 1) := by decide +kernel
theorem rd_Md_sets_12 : decode mb_Md_sets 12 = .ok (.iload_n 1, 1) := by decide +kernel
theorem rd_Md_sets_13 : decode mb_Md_sets 13 = .ok (.iconst 3, 1) := by decide +kernel
theorem rd_Md_sets_14 : decode mb_Md_sets 14 = .ok (.invokevirtual 63, 3) := by decide +kernel
theorem rd_Md_sets_17 : decode mb_Md_sets 17 = .ok (.iload_n 3, 1) := by decide +kernel
theorem rd_Md_sets_18 : decode mb_Md_sets 18 = .ok (.iload 4, 2) := by decide +kernel
theorem rd_Md_sets_20 : decode mb_Md_sets 20 = .ok (.isub, 1) := by decide +kernel
theorem rd_Md_sets_21 : decode mb_Md_sets 21 = .ok (.iload_n 2, 1) := by decide +kernel
theorem rd_Md_sets_22 : decode mb_Md_sets 22 = .ok (.invokestatic 66, 3) := by decide +kernel
theorem rd_Md_sets_25 : decode mb_Md_sets 25 = .ok (.imul, 1) := by decide +kernel
theorem rd_Md_sets_26 : decode mb_Md_sets 26 = .ok (.iadd, 1) := by decide +kernel
theorem rd_Md_sets_27 : decode mb_Md_sets 27 = .ok (.invokevirtual 59, 3) := by decide +kernel
theorem rd_Md_sets_30 : decode mb_Md_sets 30 = .ok (.iload 4, 2) := by decide +kernel
theorem rd_Md_sets_32 : decode mb_Md_sets 32 = .ok (.ireturn, 1) := by decide +kernel
theorem rd_Md_dyes_0 : decode mb_Md_dyes 0 = .ok (.aload_n 0, 1) := by decide +kernel
theorem rd_Md_dyes_1 : decode mb_Md_dyes 1 = .ok (.iload_n 1, 1) := by decide +kernel
theorem rd_Md_dyes_2 : decode mb_Md_dyes 2 = .ok (.iconst 2, 1) := by decide +kernel
theorem rd_Md_dyes_3 : decode mb_Md_dyes 3 = .ok (.invokevirtual 63, 3) := by decide +kernel
theorem rd_Md_dyes_6 : decode mb_Md_dyes 6 = .ok (.istore_n 3, 1) := by decide +kernel
theorem rd_Md_dyes_7 : decode mb_Md_dyes 7 = .ok (.aload_n 0, 1) := by decide +kernel
theorem rd_Md_dyes_8 : decode mb_Md_dyes 8 = .ok (.iload_n 1, 1) := by decide +kernel
theorem rd_Md_dyes_9 : decode mb_Md_dyes 9 = .ok (.iconst 2, 1) := by decide +kernel
theorem rd_Md_dyes_10 : decode mb_Md_dyes 10 = .ok (.iload_n 2, 1) := by decide +kernel
theorem rd_Md_dyes_11 : decode mb_Md_dyes 11 = .ok (.invokevirtual 59, 3) := by decide +kernel
theorem rd_Md_dyes_14 : decode mb_Md_dyes 14 = .ok (.iload_n 3, 1) := by decide +kernel
theorem rd_Md_dyes_15 : decode mb_Md_dyes 15 = .ok (.ireturn, 1) := by decide +kernel
theorem rd_Md_remembers_0 : decode mb_Md_remembers 0 = .ok (.aload_n 0, 1) := by decide +kernel
theorem rd_Md_remembers_1 : decode mb_Md_remembers 1 = .ok (.getfield 132, 3) := by decide +kernel
theorem rd_Md_remembers_4 : decode mb_Md_remembers 4 = .ok (.bipush 8, 2) := by decide +kernel
theorem rd_Md_remembers_6 : decode mb_Md_remembers 6 = .ok (.if_icmp .ne 44, 3) := by decide +kernel
theorem rd_Md_remembers_9 : decode mb_Md_remembers 9 = .ok (.iconst 0, 1) := by decide +kernel
theorem rd_Md_remembers_10 : decode mb_Md_remembers 10 = .ok (.istore_n 1, 1) := by decide +kernel
theorem rd_Md_remembers_11 : decode mb_Md_remembers 11 = .ok (.iload_n 1, 1) := by decide +kernel
theorem rd_Md_remembers_12 : decode mb_Md_remembers 12 = .ok (.sipush 1813, 3) := by decide +kernel
theorem rd_Md_remembers_15 : decode mb_Md_remembers 15 = .ok (.if_icmp .ge 25, 3) := by decide +kernel
theorem rd_Md_remembers_18 : decode mb_Md_remembers 18 = .ok (.aload_n 0, 1) := by decide +kernel
theorem rd_Md_remembers_19 : decode mb_Md_remembers 19 = .ok (.getfield 19, 3) := by decide +kernel
theorem rd_Md_remembers_22 : decode mb_Md_remembers 22 = .ok (.iload_n 1, 1) := by decide +kernel
theorem rd_Md_remembers_23 : decode mb_Md_remembers 23 = .ok (.aload_n 0, 1) := by decide +kernel
theorem rd_Md_remembers_24 : decode mb_Md_remembers 24 = .ok (.getfield 19, 3) := by decide +kernel
theorem rd_Md_remembers_27 : decode mb_Md_remembers 27 = .ok (.iload_n 1, 1) := by decide +kernel
theorem rd_Md_remembers_28 : decode mb_Md_remembers 28 = .ok (.sipush 259, 3) := by decide +kernel
theorem rd_Md_remembers_31 : decode mb_Md_remembers 31 = .ok (.iadd, 1) := by decide +kernel
theorem rd_Md_remembers_32 : decode mb_Md_remembers 32 = .ok (.iaload, 1) := by decide +kernel
theorem rd_Md_remembers_33 : decode mb_Md_remembers 33 = .ok (.iastore, 1) := by decide +kernel
theorem rd_Md_remembers_34 : decode mb_Md_remembers 34 = .ok (.iinc 1 1, 3) := by decide +kernel
theorem rd_Md_remembers_37 : decode mb_Md_remembers 37 = .ok (.goto (-26), 3) := by decide +kernel
theorem rd_Md_remembers_40 : decode mb_Md_remembers 40 = .ok (.aload_n 0, 1) := by decide +kernel
theorem rd_Md_remembers_41 : decode mb_Md_remembers 41 = .ok (.dup, 1) := by decide +kernel
theorem rd_Md_remembers_42 : decode mb_Md_remembers 42 = .ok (.getfield 132, 3) := by decide +kernel
theorem rd_Md_remembers_45 : decode mb_Md_remembers 45 = .ok (.iconst 1, 1) := by decide +kernel
theorem rd_Md_remembers_46 : decode mb_Md_remembers 46 = .ok (.isub, 1) := by decide +kernel
theorem rd_Md_remembers_47 : decode mb_Md_remembers 47 = .ok (.putfield 132, 3) := by decide +kernel
theorem rd_Md_remembers_50 : decode mb_Md_remembers 50 = .ok (.aload_n 0, 1) := by decide +kernel
theorem rd_Md_remembers_51 : decode mb_Md_remembers 51 = .ok (.getfield 7, 3) := by decide +kernel
theorem rd_Md_remembers_54 : decode mb_Md_remembers 54 = .ok (.iconst 0, 1) := by decide +kernel
theorem rd_Md_remembers_55 : decode mb_Md_remembers 55 = .ok (.aload_n 0, 1) := by decide +kernel
theorem rd_Md_remembers_56 : decode mb_Md_remembers 56 = .ok (.getfield 19, 3) := by decide +kernel
theorem rd_Md_remembers_59 : decode mb_Md_remembers 59 = .ok (.sipush 259, 3) := by decide +kernel
theorem rd_Md_remembers_62 : decode mb_Md_remembers 62 = .ok (.aload_n 0, 1) := by decide +kernel
theorem rd_Md_remembers_63 : decode mb_Md_remembers 63 = .ok (.getfield 132, 3) := by decide +kernel
theorem rd_Md_remembers_66 : decode mb_Md_remembers 66 = .ok (.imul, 1) := by decide +kernel
theorem rd_Md_remembers_67 : decode mb_Md_remembers 67 = .ok (.invokestatic 135, 3) := by decide +kernel
theorem rd_Md_remembers_70 : decode mb_Md_remembers 70 = .ok (.aload_n 0, 1) := by decide +kernel
theorem rd_Md_remembers_71 : decode mb_Md_remembers 71 = .ok (.dup, 1) := by decide +kernel
theorem rd_Md_remembers_72 : decode mb_Md_remembers 72 = .ok (.getfield 132, 3) := by decide +kernel
theorem rd_Md_remembers_75 : decode mb_Md_remembers 75 = .ok (.iconst 1, 1) := by decide +kernel
theorem rd_Md_remembers_76 : decode mb_Md_remembers 76 = .ok (.iadd, 1) := by decide +kernel
theorem rd_Md_remembers_77 : decode mb_Md_remembers 77 = .ok (.putfield 132, 3) := by decide +kernel
theorem rd_Md_remembers_80 : decode mb_Md_remembers 80 = .ok (.return_, 1) := by decide +kernel
theorem rd_Md_appendWord_0 : decode mb_Md_appendWord 0 = .ok (.bipush 24, 2) := by decide +kernel
theorem rd_Md_appendWord_2 : decode mb_Md_appendWord 2 = .ok (.istore_n 2, 1) := by decide +kernel
theorem rd_Md_appendWord_3 : decode mb_Md_appendWord 3 = .ok (.iload_n 2, 1) := by decide +kernel
theorem rd_Md_appendWord_4 : decode mb_Md_appendWord 4 = .ok (.ifCond .lt 35, 3) := by decide +kernel
theorem rd_Md_appendWord_7 : decode mb_Md_appendWord 7 = .ok (.aload_n 0, 1) := by decide +kernel
theorem rd_Md_appendWord_8 : decode mb_Md_appendWord 8 = .ok (.getfield 22, 3) := by decide +kernel
theorem rd_Md_appendWord_11 : decode mb_Md_appendWord 11 = .ok (.aload_n 0, 1) := by decide +kernel
theorem rd_Md_appendWord_12 : decode mb_Md_appendWord 12 = .ok (.getfield 139, 3) := by decide +kernel
theorem rd_Md_appendWord_15 : decode mb_Md_appendWord 15 = .ok (.iload_n 1, 1) := by decide +kernel
theorem rd_Md_appendWord_16 : decode mb_Md_appendWord 16 = .ok (.iload_n 2, 1) := by decide +kernel
theorem rd_Md_appendWord_17 : decode mb_Md_appendWord 17 = .ok (.ishr, 1) := by decide +kernel
theorem rd_Md_appendWord_18 : decode mb_Md_appendWord 18 = .ok (.sipush 255, 3) := by decide +kernel
theorem rd_Md_appendWord_21 : decode mb_Md_appendWord 21 = .ok (.iand, 1) := by decide +kernel
theorem rd_Md_appendWord_22 : decode mb_Md_appendWord 22 = .ok (.iastore, 1) := by decide +kernel
theorem rd_Md_appendWord_23 : decode mb_Md_appendWord 23 = .ok (.aload_n 0, 1) := by decide +kernel
theorem rd_Md_appendWord_24 : decode mb_Md_appendWord 24 = .ok (.dup, 1) := by decide +kernel
theorem rd_Md_appendWord_25 : decode mb_Md_appendWord 25 = .ok (.getfield 139, 3) := by decide +kernel
theorem rd_Md_appendWord_28 : decode mb_Md_appendWord 28 = .ok (.iconst 1, 1) := by decide +kernel
theorem rd_Md_appendWord_29 : decode mb_Md_appendWord 29 = .ok (.iadd, 1) := by decide +kernel
theorem rd_Md_appendWord_30 : decode mb_Md_appendWord 30 = .ok (.putfield 139, 3) := by decide +kernel
theorem rd_Md_appendWord_33 : decode mb_Md_appendWord 33 = .ok (.iinc 2 (-8), 3) := by decide +kernel
theorem rd_Md_appendWord_36 : decode mb_Md_appendWord 36 = .ok (.goto (-33), 3) := by decide +kernel
theorem rd_Md_appendWord_39 : decode mb_Md_appendWord 39 = .ok (.return_, 1) := by decide +kernel
theorem rd_Md_appendInput_0 : decode mb_Md_appendInput 0 = .ok (.aload_n 0, 1) := by decide +kernel
theorem rd_Md_appendInput_1 : decode mb_Md_appendInput 1 = .ok (.iconst 0, 1) := by decide +kernel
theorem rd_Md_appendInput_2 : decode mb_Md_appendInput 2 = .ok (.putfield 56, 3) := by decide +kernel
theorem rd_Md_appendInput_5 : decode mb_Md_appendInput 5 = .ok (.aload_n 0, 1) := by decide +kernel
theorem rd_Md_appendInput_6 : decode mb_Md_appendInput 6 = .ok (.getfield 139, 3) := by decide +kernel
theorem rd_Md_appendInput_9 : decode mb_Md_appendInput 9 = .ok (.bipush 20, 2) := by decide +kernel
theorem rd_Md_appendInput_11 : decode mb_Md_appendInput 11 = .ok (.iadd, 1) := by decide +kernel
theorem rd_Md_appendInput_12 : decode mb_Md_appendInput 12 = .ok (.sipush 700, 3) := by decide +kernel
theorem rd_Md_appendInput_15 : decode mb_Md_appendInput 15 = .ok (.if_icmp .le 5, 3) := by decide +kernel
theorem rd_Md_appendInput_18 : decode mb_Md_appendInput 18 = .ok (.iconst (-1), 1) := by decide +kernel
theorem rd_Md_appendInput_19 : decode mb_Md_appendInput 19 = .ok (.ireturn, 1) := by decide +kernel
theorem rd_Md_appendInput_20 : decode mb_Md_appendInput 20 = .ok (.aload_n 0, 1) := by decide +kernel
theorem rd_Md_appendInput_21 : decode mb_Md_appendInput 21 = .ok (.iload_n 1, 1) := by decide +kernel
theorem rd_Md_appendInput_22 : decode mb_Md_appendInput 22 = .ok (.invokevirtual 142, 3) := by decide +kernel
theorem rd_Md_appendInput_25 : decode mb_Md_appendInput 25 = .ok (.aload_n 0, 1) := by decide +kernel
theorem rd_Md_appendInput_26 : decode mb_Md_appendInput 26 = .ok (.iload_n 2, 1) := by decide +kernel
theorem rd_Md_appendInput_27 : decode mb_Md_appendInput 27 = .ok (.invokevirtual 142, 3) := by decide +kernel
theorem rd_Md_appendInput_30 : decode mb_Md_appendInput 30 = .ok (.aload_n 0, 1) := by decide +kernel
theorem rd_Md_appendInput_31 : decode mb_Md_appendInput 31 = .ok (.iload_n 3, 1) := by decide +kernel
theorem rd_Md_appendInput_32 : decode mb_Md_appendInput 32 = .ok (.invokevirtual 142, 3) := by decide +kernel
theorem rd_Md_appendInput_35 : decode mb_Md_appendInput 35 = .ok (.aload_n 0, 1) := by decide +kernel
theorem rd_Md_appendInput_36 : decode mb_Md_appendInput 36 = .ok (.iload 4, 2) := by decide +kernel
theorem rd_Md_appendInput_38 : decode mb_Md_appendInput 38 = .ok (.invokevirtual 142, 3) := by decide +kernel
theorem rd_Md_appendInput_41 : decode mb_Md_appendInput 41 = .ok (.aload_n 0, 1) := by decide +kernel
theorem rd_Md_appendInput_42 : decode mb_Md_appendInput 42 = .ok (.iload 5, 2) := by decide +kernel
theorem rd_Md_appendInput_44 : decode mb_Md_appendInput 44 = .ok (.invokevirtual 142, 3) := by decide +kernel
theorem rd_Md_appendInput_47 : decode mb_Md_appendInput 47 = .ok (.aload_n 0, 1) := by decide +kernel
theorem rd_Md_appendInput_48 : decode mb_Md_appendInput 48 = .ok (.getfield 139, 3) := by decide +kernel
theorem rd_Md_appendInput_51 : decode mb_Md_appendInput 51 = .ok (.ireturn, 1) := by decide +kernel
theorem rd_Md_truncateInput_0 : decode mb_Md_truncateInput 0 = .ok (.aload_n 0, 1) := by decide +kernel
theorem rd_Md_truncateInput_1 : decode mb_Md_truncateInput 1 = .ok (.iconst 0, 1) := by decide +kernel
theorem rd_Md_truncateInput_2 : decode mb_Md_truncateInput 2 = .ok (.putfield 56, 3) := by decide +kernel
theorem rd_Md_truncateInput_5 : decode mb_Md_truncateInput 5 = .ok (.iload_n 1, 1) := by decide +kernel
theorem rd_Md_truncateInput_6 : decode mb_Md_truncateInput 6 = .ok (.iconst 0, 1) := by decide +kernel
theorem rd_Md_truncateInput_7 : decode mb_Md_truncateInput 7 = .ok (.aload_n 0, 1) := by decide +kernel
theorem rd_Md_truncateInput_8 : decode mb_Md_truncateInput 8 = .ok (.getfield 139, 3) := by decide +kernel
theorem rd_Md_truncateInput_11 : decode mb_Md_truncateInput 11 = .ok (.invokestatic 115, 3) := by decide +kernel
theorem rd_Md_truncateInput_14 : decode mb_Md_truncateInput 14 = .ok (.ifCond .ne 5, 3) := by decide +kernel
theorem rd_Md_truncateInput_17 : decode mb_Md_truncateInput 17 = .ok (.iconst 0, 1) := by decide +kernel
theorem rd_Md_truncateInput_18 : decode mb_Md_truncateInput 18 = .ok (.ireturn, 1) := by decide +kernel
theorem rd_Md_truncateInput_19 : decode mb_Md_truncateInput 19 = .ok (.aload_n 0, 1) := by decide +kernel
theorem rd_Md_truncateInput_20 : decode mb_Md_truncateInput 20 = .ok (.iload_n 1, 1) := by decide +kernel
theorem rd_Md_truncateInput_21 : decode mb_Md_truncateInput 21 = .ok (.putfield 139, 3) := by decide +kernel
theorem rd_Md_truncateInput_24 : decode mb_Md_truncateInput 24 = .ok (.iconst 1, 1) := by decide +kernel
theorem rd_Md_truncateInput_25 : decode mb_Md_truncateInput 25 = .ok (.ireturn, 1) := by decide +kernel
theorem rd_Md_byteAt_0 : decode mb_Md_byteAt 0 = .ok (.iload_n 1, 1) := by decide +kernel
theorem rd_Md_byteAt_1 : decode mb_Md_byteAt 1 = .ok (.aload_n 0, 1) := by decide +kernel
theorem rd_Md_byteAt_2 : decode mb_Md_byteAt 2 = .ok (.getfield 139, 3) := by decide +kernel
theorem rd_Md_byteAt_5 : decode mb_Md_byteAt 5 = .ok (.if_icmp .ge 12, 3) := by decide +kernel
theorem rd_Md_byteAt_8 : decode mb_Md_byteAt 8 = .ok (.aload_n 0, 1) := by decide +kernel
theorem rd_Md_byteAt_9 : decode mb_Md_byteAt 9 = .ok (.getfield 22, 3) := by decide +kernel
theorem rd_Md_byteAt_12 : decode mb_Md_byteAt 12 = .ok (.iload_n 1, 1) := by decide +kernel
theorem rd_Md_byteAt_13 : decode mb_Md_byteAt 13 = .ok (.iaload, 1) := by decide +kernel
theorem rd_Md_byteAt_14 : decode mb_Md_byteAt 14 = .ok (.goto 4, 3) := by decide +kernel
theorem rd_Md_byteAt_17 : decode mb_Md_byteAt 17 = .ok (.iconst (-1), 1) := by decide +kernel
theorem rd_Md_byteAt_18 : decode mb_Md_byteAt 18 = .ok (.ireturn, 1) := by decide +kernel
theorem rd_Md_isLetter_0 : decode mb_Md_isLetter 0 = .ok (.aload_n 0, 1) := by decide +kernel
theorem rd_Md_isLetter_1 : decode mb_Md_isLetter 1 = .ok (.iload_n 1, 1) := by decide +kernel
theorem rd_Md_isLetter_2 : decode mb_Md_isLetter 2 = .ok (.invokevirtual 146, 3) := by decide +kernel
theorem rd_Md_isLetter_5 : decode mb_Md_isLetter 5 = .ok (.bipush 97, 2) := by decide +kernel
theorem rd_Md_isLetter_7 : decode mb_Md_isLetter 7 = .ok (.bipush 122, 2) := by decide +kernel
theorem rd_Md_isLetter_9 : decode mb_Md_isLetter 9 = .ok (.invokestatic 115, 3) := by decide +kernel
theorem rd_Md_isLetter_12 : decode mb_Md_isLetter 12 = .ok (.ireturn, 1) := by decide +kernel
def wd_Md_mayAdd (cI : ClassId) (a_t a_t_w a_t_wKept a_t_saved a_t_past a_t_input a_t_n a_t_order a_t_numbers a_t_output : Nat) (i_t_pastMany : Int) (i_t_isSaved : Int) (i_t_thrown : Int) (i_t_inputMany : Int) (i_t_lastError : Int) (i_t_lastOffset : Int) (i_t_error : Int) (i_t_offset : Int) (i_t_nextByte : Int) (i_t_begin : Int) (i_t_value : Int) (i_t_token : Int) (i_t_got : Int) (i_t_orders : Int) (i_t_outputMany : Int) (i_t_w : (Int → Int)) : va_W := [(a_t, .inr (11, [.ref a_t_w, .ref a_t_wKept, .ref a_t_saved, .ref a_t_past, jk_V i_t_pastMany, jk_V i_t_isSaved, jk_V i_t_thrown, .ref a_t_input, jk_V i_t_inputMany, jk_V i_t_lastError, jk_V i_t_lastOffset, jk_V i_t_error, jk_V i_t_offset, jk_V i_t_nextByte, jk_V i_t_begin, jk_V i_t_value, jk_V i_t_token, jk_V i_t_got, .ref a_t_n, .ref a_t_order, .ref a_t_numbers, jk_V i_t_orders, .ref a_t_output, jk_V i_t_outputMany])), (a_t_w, jk_W cI 259 i_t_w)]
set_option maxHeartbeats 4000000 in
set_option maxRecDepth 20000 in
theorem ct_Md_mayAdd (l : Launch) (D : va_G) (Z : (Nat → Prop) → State → Heap → Prop) (sq : Nat → Nat) (hZ : jk_ZK Z sq) (cI cR : ClassId) (a_t a_t_w a_t_wKept a_t_saved a_t_past a_t_input a_t_n a_t_order a_t_numbers a_t_output : Nat) (i_t_pastMany : Int) (i_t_isSaved : Int) (i_t_thrown : Int) (i_t_inputMany : Int) (i_t_lastError : Int) (i_t_lastOffset : Int) (i_t_error : Int) (i_t_offset : Int) (i_t_nextByte : Int) (i_t_begin : Int) (i_t_value : Int) (i_t_token : Int) (i_t_got : Int) (i_t_orders : Int) (i_t_outputMany : Int) (i_t_w : (Int → Int)) (q : Int) (hf : fn_Md_mayAdd i_t_w = some q) : jk_MI l D jk_cl (jk_ty cI cR) Z mn_Md_mayAdd (.code mn_Md_mayAdd mb_Md_mayAdd 1 (some .boolean) :: jk_WA) (jk_rm 0 0) [.ref a_t] (wd_Md_mayAdd cI a_t a_t_w a_t_wKept a_t_saved a_t_past a_t_input a_t_n a_t_order a_t_numbers a_t_output i_t_pastMany i_t_isSaved i_t_thrown i_t_inputMany i_t_lastError i_t_lastOffset i_t_error i_t_offset i_t_nextByte i_t_begin i_t_value i_t_token i_t_got i_t_orders i_t_outputMany i_t_w) (wd_Md_mayAdd cI a_t a_t_w a_t_wKept a_t_saved a_t_past a_t_input a_t_n a_t_order a_t_numbers a_t_output i_t_pastMany i_t_isSaved i_t_thrown i_t_inputMany i_t_lastError i_t_lastOffset i_t_error i_t_offset i_t_nextByte i_t_begin i_t_value i_t_token i_t_got i_t_orders i_t_outputMany i_t_w) q := by
  intro sz
  refine jk_body (by decide +kernel) (fun p e s m args below meth c hsz hz hin C => ?_) (Nat.le_of_ble_eq_true rfl)
  subst hsz
  unfold fn_Md_mayAdd at hf
  refine jk_aload_n C rd_Md_mayAdd_0 (k := 0) rfl ?_
  refine jk_get C in_Md (ci := 11) rfl 0 (by decide) tm_1263 0 rfl rfl rd_Md_mayAdd_1 ?_
  refine jk_iconst C rd_Md_mayAdd_4 ?_
  refine jk_iald C 1 0 rfl rfl (Nat.le_of_ble_eq_true rfl) rd_Md_mayAdd_5 hf (fun hf => ?_)
  refine jk_bipush C rd_Md_mayAdd_6 (by decide +kernel) ?_
  refine jk_icmp_ge (tgt := 15) C rd_Md_mayAdd_8 (by decide) hf (fun _ hf => ?_) (fun _ hf => ?_)
  · refine jk_iconst C rd_Md_mayAdd_15 ?_
    cases hf
    exact jk_zret C (Or.inl rfl) rfl rd_Md_mayAdd_16 rfl
  · refine jk_iconst C rd_Md_mayAdd_11 ?_
    refine jk_goto (tgt := 16) C rd_Md_mayAdd_12 (by decide) ?_
    cases hf
    exact jk_zret C (Or.inr rfl) rfl rd_Md_mayAdd_16 rfl
def wd_Md_maySub (cI : ClassId) (a_t a_t_w a_t_wKept a_t_saved a_t_past a_t_input a_t_n a_t_order a_t_numbers a_t_output : Nat) (i_t_pastMany : Int) (i_t_isSaved : Int) (i_t_thrown : Int) (i_t_inputMany : Int) (i_t_lastError : Int) (i_t_lastOffset : Int) (i_t_error : Int) (i_t_offset : Int) (i_t_nextByte : Int) (i_t_begin : Int) (i_t_value : Int) (i_t_token : Int) (i_t_got : Int) (i_t_orders : Int) (i_t_outputMany : Int) (i_t_w : (Int → Int)) : va_W := [(a_t, .inr (11, [.ref a_t_w, .ref a_t_wKept, .ref a_t_saved, .ref a_t_past, jk_V i_t_pastMany, jk_V i_t_isSaved, jk_V i_t_thrown, .ref a_t_input, jk_V i_t_inputMany, jk_V i_t_lastError, jk_V i_t_lastOffset, jk_V i_t_error, jk_V i_t_offset, jk_V i_t_nextByte, jk_V i_t_begin, jk_V i_t_value, jk_V i_t_token, jk_V i_t_got, .ref a_t_n, .ref a_t_order, .ref a_t_numbers, jk_V i_t_orders, .ref a_t_output, jk_V i_t_outputMany])), (a_t_w, jk_W cI 259 i_t_w)]
set_option maxHeartbeats 4000000 in
set_option maxRecDepth 20000 in
theorem ct_Md_maySub (l : Launch) (D : va_G) (Z : (Nat → Prop) → State → Heap → Prop) (sq : Nat → Nat) (hZ : jk_ZK Z sq) (cI cR : ClassId) (a_t a_t_w a_t_wKept a_t_saved a_t_past a_t_input a_t_n a_t_order a_t_numbers a_t_output : Nat) (i_t_pastMany : Int) (i_t_isSaved : Int) (i_t_thrown : Int) (i_t_inputMany : Int) (i_t_lastError : Int) (i_t_lastOffset : Int) (i_t_error : Int) (i_t_offset : Int) (i_t_nextByte : Int) (i_t_begin : Int) (i_t_value : Int) (i_t_token : Int) (i_t_got : Int) (i_t_orders : Int) (i_t_outputMany : Int) (i_t_w : (Int → Int)) (x1 : Int) (q : Int) (hf : fn_Md_maySub i_t_w x1 = some q) : jk_MI l D jk_cl (jk_ty cI cR) Z mn_Md_maySub (.code mn_Md_maySub mb_Md_maySub 2 (some .boolean) :: jk_WA) (jk_rm 1 22) [.ref a_t, jk_V x1] (wd_Md_maySub cI a_t a_t_w a_t_wKept a_t_saved a_t_past a_t_input a_t_n a_t_order a_t_numbers a_t_output i_t_pastMany i_t_isSaved i_t_thrown i_t_inputMany i_t_lastError i_t_lastOffset i_t_error i_t_offset i_t_nextByte i_t_begin i_t_value i_t_token i_t_got i_t_orders i_t_outputMany i_t_w) (wd_Md_maySub cI a_t a_t_w a_t_wKept a_t_saved a_t_past a_t_input a_t_n a_t_order a_t_numbers a_t_output i_t_pastMany i_t_isSaved i_t_thrown i_t_inputMany i_t_lastError i_t_lastOffset i_t_error i_t_offset i_t_nextByte i_t_begin i_t_value i_t_token i_t_got i_t_orders i_t_outputMany i_t_w) q := by
  intro sz
  refine jk_body (by decide +kernel) (fun p e s m args below meth c hsz hz hin C => ?_) (Nat.le_of_ble_eq_true rfl)
  subst hsz
  unfold fn_Md_maySub at hf
  refine jk_aload_n C rd_Md_maySub_0 (k := 0) rfl ?_
  refine jk_iload_n C rd_Md_maySub_1 (k := 1) rfl ?_
  refine jk_iconst C rd_Md_maySub_2 ?_
  obtain ⟨q3, hq3, hf⟩ := jk_bind_h hf
  refine jk_callVi C hZ.1 hz (ct_Md_of l D Z sq hZ cI cR a_t a_t_w a_t_wKept a_t_saved a_t_past a_t_input a_t_n a_t_order a_t_numbers a_t_output i_t_pastMany i_t_isSaved i_t_thrown i_t_inputMany i_t_lastError i_t_lastOffset i_t_error i_t_offset i_t_nextByte i_t_begin i_t_value i_t_token i_t_got i_t_orders i_t_outputMany i_t_w x1 1 q3 hq3) tm_1256 tm_1258 sl_26 tm_15 tm_1259 na_Md_of ⟨Nat.le_of_ble_eq_true rfl, Nat.le_of_ble_eq_true rfl⟩ rfl [0, 1] rfl rfl rfl (ws' := wd_Md_maySub cI a_t a_t_w a_t_wKept a_t_saved a_t_past a_t_input a_t_n a_t_order a_t_numbers a_t_output i_t_pastMany i_t_isSaved i_t_thrown i_t_inputMany i_t_lastError i_t_lastOffset i_t_error i_t_offset i_t_nextByte i_t_begin i_t_value i_t_token i_t_got i_t_orders i_t_outputMany i_t_w) rfl 0 11 rfl rfl rfl (st := []) rfl (Nat.le_of_ble_eq_true rfl) rd_Md_maySub_3 ?_ ⟨Nat.le_of_ble_eq_true rfl, Nat.le_of_ble_eq_true rfl⟩
  refine jk_iconst C rd_Md_maySub_6 ?_
  refine jk_iconst C rd_Md_maySub_7 ?_
  obtain ⟨q8, hq8, hf⟩ := jk_bind_h hf
  refine jk_callSi C hZ.1 hz (ct_Md_inRange l D Z sq hZ cI cR q3 1 2 q8 hq8) tm_1352 tm_1353 tm_15 tm_1354 na_Md_inRange ⟨Nat.le_of_ble_eq_true rfl, Nat.le_of_ble_eq_true rfl⟩ rfl [] rfl rfl rfl (ws' := wd_Md_maySub cI a_t a_t_w a_t_wKept a_t_saved a_t_past a_t_input a_t_n a_t_order a_t_numbers a_t_output i_t_pastMany i_t_isSaved i_t_thrown i_t_inputMany i_t_lastError i_t_lastOffset i_t_error i_t_offset i_t_nextByte i_t_begin i_t_value i_t_token i_t_got i_t_orders i_t_outputMany i_t_w) rfl (st := []) rfl (Nat.le_of_ble_eq_true rfl) rd_Md_maySub_8 ?_ ⟨Nat.le_of_ble_eq_true rfl, Nat.le_of_ble_eq_true rfl⟩
  refine jk_if_eq (tgt := 25) C rd_Md_maySub_11 (by decide) hf (fun _ hf => ?_) (fun _ hf => ?_)
  · refine jk_iconst C rd_Md_maySub_25 ?_
    cases hf
    exact jk_zret C (Or.inl rfl) rfl rd_Md_maySub_26 rfl
  · refine jk_aload_n C rd_Md_maySub_14 (k := 0) rfl ?_
    obtain ⟨q15, hq15, hf⟩ := jk_bind_h hf
    refine jk_callVi C hZ.1 hz (ct_Md_mayAdd l D Z sq hZ cI cR a_t a_t_w a_t_wKept a_t_saved a_t_past a_t_input a_t_n a_t_order a_t_numbers a_t_output i_t_pastMany i_t_isSaved i_t_thrown i_t_inputMany i_t_lastError i_t_lastOffset i_t_error i_t_offset i_t_nextByte i_t_begin i_t_value i_t_token i_t_got i_t_orders i_t_outputMany i_t_w q15 hq15) tm_1441 tm_1443 sl_46 tm_15 tm_1444 na_Md_mayAdd ⟨Nat.le_of_ble_eq_true rfl, Nat.le_of_ble_eq_true rfl⟩ rfl [0, 1] rfl rfl rfl (ws' := wd_Md_maySub cI a_t a_t_w a_t_wKept a_t_saved a_t_past a_t_input a_t_n a_t_order a_t_numbers a_t_output i_t_pastMany i_t_isSaved i_t_thrown i_t_inputMany i_t_lastError i_t_lastOffset i_t_error i_t_offset i_t_nextByte i_t_begin i_t_value i_t_token i_t_got i_t_orders i_t_outputMany i_t_w) rfl 0 11 rfl rfl rfl (st := []) rfl (Nat.le_of_ble_eq_true rfl) rd_Md_maySub_15 ?_ ⟨Nat.le_of_ble_eq_true rfl, Nat.le_of_ble_eq_true rfl⟩
    refine jk_if_eq (tgt := 25) C rd_Md_maySub_18 (by decide) hf (fun _ hf => ?_) (fun _ hf => ?_)
    · refine jk_iconst C rd_Md_maySub_25 ?_
      cases hf
      exact jk_zret C (Or.inl rfl) rfl rd_Md_maySub_26 rfl
    · refine jk_iconst C rd_Md_maySub_21 ?_
      refine jk_goto (tgt := 26) C rd_Md_maySub_22 (by decide) ?_
      cases hf
      exact jk_zret C (Or.inr rfl) rfl rd_Md_maySub_26 rfl
def wd_Md_subs (cI : ClassId) (a_t a_t_w a_t_wKept a_t_saved a_t_past a_t_input a_t_n a_t_order a_t_numbers a_t_output : Nat) (i_t_pastMany : Int) (i_t_isSaved : Int) (i_t_thrown : Int) (i_t_inputMany : Int) (i_t_lastError : Int) (i_t_lastOffset : Int) (i_t_error : Int) (i_t_offset : Int) (i_t_nextByte : Int) (i_t_begin : Int) (i_t_value : Int) (i_t_token : Int) (i_t_got : Int) (i_t_orders : Int) (i_t_outputMany : Int) (i_t_w : (Int → Int)) : va_W := [(a_t, .inr (11, [.ref a_t_w, .ref a_t_wKept, .ref a_t_saved, .ref a_t_past, jk_V i_t_pastMany, jk_V i_t_isSaved, jk_V i_t_thrown, .ref a_t_input, jk_V i_t_inputMany, jk_V i_t_lastError, jk_V i_t_lastOffset, jk_V i_t_error, jk_V i_t_offset, jk_V i_t_nextByte, jk_V i_t_begin, jk_V i_t_value, jk_V i_t_token, jk_V i_t_got, .ref a_t_n, .ref a_t_order, .ref a_t_numbers, jk_V i_t_orders, .ref a_t_output, jk_V i_t_outputMany])), (a_t_w, jk_W cI 259 i_t_w)]
set_option maxHeartbeats 4000000 in
set_option maxRecDepth 20000 in
theorem ct_Md_subs (l : Launch) (D : va_G) (Z : (Nat → Prop) → State → Heap → Prop) (sq : Nat → Nat) (hZ : jk_ZK Z sq) (cI cR : ClassId) (a_t a_t_w a_t_wKept a_t_saved a_t_past a_t_input a_t_n a_t_order a_t_numbers a_t_output : Nat) (i_t_pastMany : Int) (i_t_isSaved : Int) (i_t_thrown : Int) (i_t_inputMany : Int) (i_t_lastError : Int) (i_t_lastOffset : Int) (i_t_error : Int) (i_t_offset : Int) (i_t_nextByte : Int) (i_t_begin : Int) (i_t_value : Int) (i_t_token : Int) (i_t_got : Int) (i_t_orders : Int) (i_t_outputMany : Int) (i_t_w : (Int → Int)) (x1 : Int) (x2 : Int) (x3 : Int) (q : Int × (Int → Int)) (hf : fn_Md_subs i_t_w x1 x2 x3 = some q) : jk_MI l D jk_cl (jk_ty cI cR) Z mn_Md_subs (.code mn_Md_subs mb_Md_subs 4 (some .int) :: jk_WA) (jk_rm 2 49) [.ref a_t, jk_V x1, jk_V x2, jk_V x3] (wd_Md_subs cI a_t a_t_w a_t_wKept a_t_saved a_t_past a_t_input a_t_n a_t_order a_t_numbers a_t_output i_t_pastMany i_t_isSaved i_t_thrown i_t_inputMany i_t_lastError i_t_lastOffset i_t_error i_t_offset i_t_nextByte i_t_begin i_t_value i_t_token i_t_got i_t_orders i_t_outputMany i_t_w) (wd_Md_subs cI a_t a_t_w a_t_wKept a_t_saved a_t_past a_t_input a_t_n a_t_order a_t_numbers a_t_output i_t_pastMany i_t_isSaved i_t_thrown i_t_inputMany i_t_lastError i_t_lastOffset i_t_error i_t_offset i_t_nextByte i_t_begin i_t_value i_t_token i_t_got i_t_orders i_t_outputMany q.2) q.1 := by
  intro sz
  refine jk_body (by decide +kernel) (fun p e s m args below meth c hsz hz hin C => ?_) (Nat.le_of_ble_eq_true rfl)
  subst hsz
  unfold fn_Md_subs at hf
  refine jk_aload_n C rd_Md_subs_0 (k := 0) rfl ?_
  refine jk_aload_n C rd_Md_subs_1 (k := 0) rfl ?_
  refine jk_iload_n C rd_Md_subs_2 (k := 1) rfl ?_
  obtain ⟨q3, hq3, hf⟩ := jk_bind_h hf
  refine jk_callVi C hZ.1 hz (ct_Md_behind l D Z sq hZ cI cR a_t a_t_w a_t_wKept a_t_saved a_t_past a_t_input a_t_n a_t_order a_t_numbers a_t_output i_t_pastMany i_t_isSaved i_t_thrown i_t_inputMany i_t_lastError i_t_lastOffset i_t_error i_t_offset i_t_nextByte i_t_begin i_t_value i_t_token i_t_got i_t_orders i_t_outputMany i_t_w x1 q3 hq3) tm_1457 tm_1459 sl_50 tm_15 tm_1460 na_Md_behind ⟨Nat.le_of_ble_eq_true rfl, Nat.le_of_ble_eq_true rfl⟩ rfl [0, 1] rfl rfl rfl (ws' := wd_Md_subs cI a_t a_t_w a_t_wKept a_t_saved a_t_past a_t_input a_t_n a_t_order a_t_numbers a_t_output i_t_pastMany i_t_isSaved i_t_thrown i_t_inputMany i_t_lastError i_t_lastOffset i_t_error i_t_offset i_t_nextByte i_t_begin i_t_value i_t_token i_t_got i_t_orders i_t_outputMany i_t_w) rfl 0 11 rfl rfl rfl (st := [.ref a_t]) rfl (Nat.le_of_ble_eq_true rfl) rd_Md_subs_3 ?_ ⟨Nat.le_of_ble_eq_true rfl, Nat.le_of_ble_eq_true rfl⟩
  refine jk_aload_n C rd_Md_subs_6 (k := 0) rfl ?_
  refine jk_iload_n C rd_Md_subs_7 (k := 1) rfl ?_
  refine jk_iconst C rd_Md_subs_8 ?_
  obtain ⟨q9, hq9, hf⟩ := jk_bind_h hf
  refine jk_callVi C hZ.1 hz (ct_Md_of l D Z sq hZ cI cR a_t a_t_w a_t_wKept a_t_saved a_t_past a_t_input a_t_n a_t_order a_t_numbers a_t_output i_t_pastMany i_t_isSaved i_t_thrown i_t_inputMany i_t_lastError i_t_lastOffset i_t_error i_t_offset i_t_nextByte i_t_begin i_t_value i_t_token i_t_got i_t_orders i_t_outputMany i_t_w x1 0 q9 hq9) tm_1256 tm_1258 sl_26 tm_15 tm_1259 na_Md_of ⟨Nat.le_of_ble_eq_true rfl, Nat.le_of_ble_eq_true rfl⟩ rfl [0, 1] rfl rfl rfl (ws' := wd_Md_subs cI a_t a_t_w a_t_wKept a_t_saved a_t_past a_t_input a_t_n a_t_order a_t_numbers a_t_output i_t_pastMany i_t_isSaved i_t_thrown i_t_inputMany i_t_lastError i_t_lastOffset i_t_error i_t_offset i_t_nextByte i_t_begin i_t_value i_t_token i_t_got i_t_orders i_t_outputMany i_t_w) rfl 0 11 rfl rfl rfl (st := [jk_V q3, .ref a_t]) rfl (Nat.le_of_ble_eq_true rfl) rd_Md_subs_9 ?_ ⟨Nat.le_of_ble_eq_true rfl, Nat.le_of_ble_eq_true rfl⟩
  refine jk_aload_n C rd_Md_subs_12 (k := 0) rfl ?_
  refine jk_iload_n C rd_Md_subs_13 (k := 1) rfl ?_
  refine jk_iconst C rd_Md_subs_14 ?_
  obtain ⟨q15, hq15, hf⟩ := jk_bind_h hf
  refine jk_callVi C hZ.1 hz (ct_Md_of l D Z sq hZ cI cR a_t a_t_w a_t_wKept a_t_saved a_t_past a_t_input a_t_n a_t_order a_t_numbers a_t_output i_t_pastMany i_t_isSaved i_t_thrown i_t_inputMany i_t_lastError i_t_lastOffset i_t_error i_t_offset i_t_nextByte i_t_begin i_t_value i_t_token i_t_got i_t_orders i_t_outputMany i_t_w x1 1 q15 hq15) tm_1256 tm_1258 sl_26 tm_15 tm_1259 na_Md_of ⟨Nat.le_of_ble_eq_true rfl, Nat.le_of_ble_eq_true rfl⟩ rfl [0, 1] rfl rfl rfl (ws' := wd_Md_subs cI a_t a_t_w a_t_wKept a_t_saved a_t_past a_t_input a_t_n a_t_order a_t_numbers a_t_output i_t_pastMany i_t_isSaved i_t_thrown i_t_inputMany i_t_lastError i_t_lastOffset i_t_error i_t_offset i_t_nextByte i_t_begin i_t_value i_t_token i_t_got i_t_orders i_t_outputMany i_t_w) rfl 0 11 rfl rfl rfl (st := [jk_V q9, jk_V q3, .ref a_t]) rfl (Nat.le_of_ble_eq_true rfl) rd_Md_subs_15 ?_ ⟨Nat.le_of_ble_eq_true rfl, Nat.le_of_ble_eq_true rfl⟩
  refine jk_iconst C rd_Md_subs_18 ?_
  refine jk_iadd C rd_Md_subs_19 ?_
  refine jk_iload_n C rd_Md_subs_20 (k := 2) rfl ?_
  refine jk_iload_n C rd_Md_subs_21 (k := 3) rfl ?_
  obtain ⟨q22, hq22, hf⟩ := jk_bind_h hf
  refine jk_callVi C hZ.1 hz (ct_Md_inserts l D Z sq hZ cI cR a_t a_t_w a_t_wKept a_t_saved a_t_past a_t_input a_t_n a_t_order a_t_numbers a_t_output i_t_pastMany i_t_isSaved i_t_thrown i_t_inputMany i_t_lastError i_t_lastOffset i_t_error i_t_offset i_t_nextByte i_t_begin i_t_value i_t_token i_t_got i_t_orders i_t_outputMany i_t_w q3 q9 (q15 + 1) x2 x3 q22 hq22) tm_1236 tm_1238 sl_21 tm_15 tm_1239 na_Md_inserts ⟨Nat.le_of_ble_eq_true rfl, Nat.le_of_ble_eq_true rfl⟩ rfl [0, 1] rfl rfl rfl (ws' := wd_Md_subs cI a_t a_t_w a_t_wKept a_t_saved a_t_past a_t_input a_t_n a_t_order a_t_numbers a_t_output i_t_pastMany i_t_isSaved i_t_thrown i_t_inputMany i_t_lastError i_t_lastOffset i_t_error i_t_offset i_t_nextByte i_t_begin i_t_value i_t_token i_t_got i_t_orders i_t_outputMany q22.2) rfl 0 11 rfl rfl rfl (st := []) rfl (Nat.le_of_ble_eq_true rfl) rd_Md_subs_22 ?_ ⟨Nat.le_of_ble_eq_true rfl, Nat.le_of_ble_eq_true rfl⟩
  cases hf
  exact jk_iret C rfl rd_Md_subs_25 rfl
def wd_Md_adds (cI : ClassId) (a_t a_t_w a_t_wKept a_t_saved a_t_past a_t_input a_t_n a_t_order a_t_numbers a_t_output : Nat) (i_t_pastMany : Int) (i_t_isSaved : Int) (i_t_thrown : Int) (i_t_inputMany : Int) (i_t_lastError : Int) (i_t_lastOffset : Int) (i_t_error : Int) (i_t_offset : Int) (i_t_nextByte : Int) (i_t_begin : Int) (i_t_value : Int) (i_t_token : Int) (i_t_got : Int) (i_t_orders : Int) (i_t_outputMany : Int) (i_t_w : (Int → Int)) : va_W := [(a_t, .inr (11, [.ref a_t_w, .ref a_t_wKept, .ref a_t_saved, .ref a_t_past, jk_V i_t_pastMany, jk_V i_t_isSaved, jk_V i_t_thrown, .ref a_t_input, jk_V i_t_inputMany, jk_V i_t_lastError, jk_V i_t_lastOffset, jk_V i_t_error, jk_V i_t_offset, jk_V i_t_nextByte, jk_V i_t_begin, jk_V i_t_value, jk_V i_t_token, jk_V i_t_got, .ref a_t_n, .ref a_t_order, .ref a_t_numbers, jk_V i_t_orders, .ref a_t_output, jk_V i_t_outputMany])), (a_t_w, jk_W cI 259 i_t_w)]
set_option maxHeartbeats 4000000 in
set_option maxRecDepth 20000 in
theorem ct_Md_adds (l : Launch) (D : va_G) (Z : (Nat → Prop) → State → Heap → Prop) (sq : Nat → Nat) (hZ : jk_ZK Z sq) (cI cR : ClassId) (a_t a_t_w a_t_wKept a_t_saved a_t_past a_t_input a_t_n a_t_order a_t_numbers a_t_output : Nat) (i_t_pastMany : Int) (i_t_isSaved : Int) (i_t_thrown : Int) (i_t_inputMany : Int) (i_t_lastError : Int) (i_t_lastOffset : Int) (i_t_error : Int) (i_t_offset : Int) (i_t_nextByte : Int) (i_t_begin : Int) (i_t_value : Int) (i_t_token : Int) (i_t_got : Int) (i_t_orders : Int) (i_t_outputMany : Int) (i_t_w : (Int → Int)) (x1 : Int) (x2 : Int) (x3 : Int) (q : Int × (Int → Int)) (hf : fn_Md_adds i_t_w x1 x2 x3 = some q) : jk_MI l D jk_cl (jk_ty cI cR) Z mn_Md_adds (.code mn_Md_adds mb_Md_adds 4 (some .int) :: jk_WA) (jk_rm 3 65) [.ref a_t, jk_V x1, jk_V x2, jk_V x3] (wd_Md_adds cI a_t a_t_w a_t_wKept a_t_saved a_t_past a_t_input a_t_n a_t_order a_t_numbers a_t_output i_t_pastMany i_t_isSaved i_t_thrown i_t_inputMany i_t_lastError i_t_lastOffset i_t_error i_t_offset i_t_nextByte i_t_begin i_t_value i_t_token i_t_got i_t_orders i_t_outputMany i_t_w) (wd_Md_adds cI a_t a_t_w a_t_wKept a_t_saved a_t_past a_t_input a_t_n a_t_order a_t_numbers a_t_output i_t_pastMany i_t_isSaved i_t_thrown i_t_inputMany i_t_lastError i_t_lastOffset i_t_error i_t_offset i_t_nextByte i_t_begin i_t_value i_t_token i_t_got i_t_orders i_t_outputMany q.2) q.1 := by
  intro sz
  refine jk_body (by decide +kernel) (fun p e s m args below meth c hsz hz hin C => ?_) (Nat.le_of_ble_eq_true rfl)
  subst hsz
  unfold fn_Md_adds at hf
  refine jk_aload_n C rd_Md_adds_0 (k := 0) rfl ?_
  refine jk_aload_n C rd_Md_adds_1 (k := 0) rfl ?_
  refine jk_iload_n C rd_Md_adds_2 (k := 1) rfl ?_
  obtain ⟨q3, hq3, hf⟩ := jk_bind_h hf
  refine jk_callVi C hZ.1 hz (ct_Md_end l D Z sq hZ cI cR a_t a_t_w a_t_wKept a_t_saved a_t_past a_t_input a_t_n a_t_order a_t_numbers a_t_output i_t_pastMany i_t_isSaved i_t_thrown i_t_inputMany i_t_lastError i_t_lastOffset i_t_error i_t_offset i_t_nextByte i_t_begin i_t_value i_t_token i_t_got i_t_orders i_t_outputMany i_t_w x1 q3 hq3) tm_1437 tm_1439 sl_45 tm_15 tm_1440 na_Md_end ⟨Nat.le_of_ble_eq_true rfl, Nat.le_of_ble_eq_true rfl⟩ rfl [0, 1] rfl rfl rfl (ws' := wd_Md_adds cI a_t a_t_w a_t_wKept a_t_saved a_t_past a_t_input a_t_n a_t_order a_t_numbers a_t_output i_t_pastMany i_t_isSaved i_t_thrown i_t_inputMany i_t_lastError i_t_lastOffset i_t_error i_t_offset i_t_nextByte i_t_begin i_t_value i_t_token i_t_got i_t_orders i_t_outputMany i_t_w) rfl 0 11 rfl rfl rfl (st := [.ref a_t]) rfl (Nat.le_of_ble_eq_true rfl) rd_Md_adds_3 ?_ ⟨Nat.le_of_ble_eq_true rfl, Nat.le_of_ble_eq_true rfl⟩
  refine jk_iload_n C rd_Md_adds_6 (k := 1) rfl ?_
  refine jk_iconst C rd_Md_adds_7 ?_
  refine jk_iload_n C rd_Md_adds_8 (k := 2) rfl ?_
  refine jk_iload_n C rd_Md_adds_9 (k := 3) rfl ?_
  obtain ⟨q10, hq10, hf⟩ := jk_bind_h hf
  refine jk_callVi C hZ.1 hz (ct_Md_inserts l D Z sq hZ cI cR a_t a_t_w a_t_wKept a_t_saved a_t_past a_t_input a_t_n a_t_order a_t_numbers a_t_output i_t_pastMany i_t_isSaved i_t_thrown i_t_inputMany i_t_lastError i_t_lastOffset i_t_error i_t_offset i_t_nextByte i_t_begin i_t_value i_t_token i_t_got i_t_orders i_t_outputMany i_t_w q3 x1 1 x2 x3 q10 hq10) tm_1236 tm_1238 sl_21 tm_15 tm_1239 na_Md_inserts ⟨Nat.le_of_ble_eq_true rfl, Nat.le_of_ble_eq_true rfl⟩ rfl [0, 1] rfl rfl rfl (ws' := wd_Md_adds cI a_t a_t_w a_t_wKept a_t_saved a_t_past a_t_input a_t_n a_t_order a_t_numbers a_t_output i_t_pastMany i_t_isSaved i_t_thrown i_t_inputMany i_t_lastError i_t_lastOffset i_t_error i_t_offset i_t_nextByte i_t_begin i_t_value i_t_token i_t_got i_t_orders i_t_outputMany q10.2) rfl 0 11 rfl rfl rfl (st := []) rfl (Nat.le_of_ble_eq_true rfl) rd_Md_adds_10 ?_ ⟨Nat.le_of_ble_eq_true rfl, Nat.le_of_ble_eq_true rfl⟩
  cases hf
  exact jk_iret C rfl rd_Md_adds_13 rfl
def wd_Md_addsCluster (cI : ClassId) (a_t a_t_w a_t_wKept a_t_saved a_t_past a_t_input a_t_n a_t_order a_t_numbers a_t_output : Nat) (i_t_pastMany : Int) (i_t_isSaved : Int) (i_t_thrown : Int) (i_t_inputMany : Int) (i_t_lastError : Int) (i_t_lastOffset : Int) (i_t_error : Int) (i_t_offset : Int) (i_t_nextByte : Int) (i_t_begin : Int) (i_t_value : Int) (i_t_token : Int) (i_t_got : Int) (i_t_orders : Int) (i_t_outputMany : Int) (i_t_w : (Int → Int)) : va_W := [(a_t, .inr (11, [.ref a_t_w, .ref a_t_wKept, .ref a_t_saved, .ref a_t_past, jk_V i_t_pastMany, jk_V i_t_isSaved, jk_V i_t_thrown, .ref a_t_input, jk_V i_t_inputMany, jk_V i_t_lastError, jk_V i_t_lastOffset, jk_V i_t_error, jk_V i_t_offset, jk_V i_t_nextByte, jk_V i_t_begin, jk_V i_t_value, jk_V i_t_token, jk_V i_t_got, .ref a_t_n, .ref a_t_order, .ref a_t_numbers, jk_V i_t_orders, .ref a_t_output, jk_V i_t_outputMany])), (a_t_w, jk_W cI 259 i_t_w)]
set_option maxHeartbeats 4000000 in
set_option maxRecDepth 20000 in
theorem ct_Md_addsCluster (l : Launch) (D : va_G) (Z : (Nat → Prop) → State → Heap → Prop) (sq : Nat → Nat) (hZ : jk_ZK Z sq) (cI cR : ClassId) (a_t a_t_w a_t_wKept a_t_saved a_t_past a_t_input a_t_n a_t_order a_t_numbers a_t_output : Nat) (i_t_pastMany : Int) (i_t_isSaved : Int) (i_t_thrown : Int) (i_t_inputMany : Int) (i_t_lastError : Int) (i_t_lastOffset : Int) (i_t_error : Int) (i_t_offset : Int) (i_t_nextByte : Int) (i_t_begin : Int) (i_t_value : Int) (i_t_token : Int) (i_t_got : Int) (i_t_orders : Int) (i_t_outputMany : Int) (i_t_w : (Int → Int)) (q : Int × (Int → Int)) (hf : fn_Md_addsCluster i_t_w = some q) : jk_MI l D jk_cl (jk_ty cI cR) Z mn_Md_addsCluster (.code mn_Md_addsCluster mb_Md_addsCluster 1 (some .int) :: jk_WA) (jk_rm 0 0) [.ref a_t] (wd_Md_addsCluster cI a_t a_t_w a_t_wKept a_t_saved a_t_past a_t_input a_t_n a_t_order a_t_numbers a_t_output i_t_pastMany i_t_isSaved i_t_thrown i_t_inputMany i_t_lastError i_t_lastOffset i_t_error i_t_offset i_t_nextByte i_t_begin i_t_value i_t_token i_t_got i_t_orders i_t_outputMany i_t_w) (wd_Md_addsCluster cI a_t a_t_w a_t_wKept a_t_saved a_t_past a_t_input a_t_n a_t_order a_t_numbers a_t_output i_t_pastMany i_t_isSaved i_t_thrown i_t_inputMany i_t_lastError i_t_lastOffset i_t_error i_t_offset i_t_nextByte i_t_begin i_t_value i_t_token i_t_got i_t_orders i_t_outputMany q.2) q.1 := by
  intro sz
  refine jk_body (by decide +kernel) (fun p e s m args below meth c hsz hz hin C => ?_) (Nat.le_of_ble_eq_true rfl)
  subst hsz
  unfold fn_Md_addsCluster at hf
  refine jk_aload_n C rd_Md_addsCluster_0 (k := 0) rfl ?_
  refine jk_get C in_Md (ci := 11) rfl 0 (by decide) tm_1263 0 rfl rfl rd_Md_addsCluster_1 ?_
  refine jk_iconst C rd_Md_addsCluster_4 ?_
  refine jk_dup2 C rd_Md_addsCluster_5 rfl rfl ?_
  refine jk_iald C 1 0 rfl rfl (Nat.le_of_ble_eq_true rfl) rd_Md_addsCluster_6 hf (fun hf => ?_)
  refine jk_iconst C rd_Md_addsCluster_7 ?_
  refine jk_iadd C rd_Md_addsCluster_8 ?_
  refine jk_iast C 1 0 rfl rfl (Nat.le_of_ble_eq_true rfl) rd_Md_addsCluster_9 hf (ws' := wd_Md_addsCluster cI a_t a_t_w a_t_wKept a_t_saved a_t_past a_t_input a_t_n a_t_order a_t_numbers a_t_output i_t_pastMany i_t_isSaved i_t_thrown i_t_inputMany i_t_lastError i_t_lastOffset i_t_error i_t_offset i_t_nextByte i_t_begin i_t_value i_t_token i_t_got i_t_orders i_t_outputMany (jk_up i_t_w 1 ((i_t_w 1) + 1))) rfl (fun hf => ?_)
  refine jk_aload_n C rd_Md_addsCluster_10 (k := 0) rfl ?_
  refine jk_get C in_Md (ci := 11) rfl 0 (by decide) tm_1263 0 rfl rfl rd_Md_addsCluster_11 ?_
  refine jk_iconst C rd_Md_addsCluster_14 ?_
  refine jk_iald C 1 0 rfl rfl (Nat.le_of_ble_eq_true rfl) rd_Md_addsCluster_15 hf (fun hf => ?_)
  refine jk_iconst C rd_Md_addsCluster_16 ?_
  refine jk_isub C rd_Md_addsCluster_17 ?_
  cases hf
  exact jk_iret C rfl rd_Md_addsCluster_18 rfl
def wd_Md_cuts (cI : ClassId) (a_t a_t_w a_t_wKept a_t_saved a_t_past a_t_input a_t_n a_t_order a_t_numbers a_t_output : Nat) (i_t_pastMany : Int) (i_t_isSaved : Int) (i_t_thrown : Int) (i_t_inputMany : Int) (i_t_lastError : Int) (i_t_lastOffset : Int) (i_t_error : Int) (i_t_offset : Int) (i_t_nextByte : Int) (i_t_begin : Int) (i_t_value : Int) (i_t_token : Int) (i_t_got : Int) (i_t_orders : Int) (i_t_outputMany : Int) (i_t_w : (Int → Int)) : va_W := [(a_t, .inr (11, [.ref a_t_w, .ref a_t_wKept, .ref a_t_saved, .ref a_t_past, jk_V i_t_pastMany, jk_V i_t_isSaved, jk_V i_t_thrown, .ref a_t_input, jk_V i_t_inputMany, jk_V i_t_lastError, jk_V i_t_lastOffset, jk_V i_t_error, jk_V i_t_offset, jk_V i_t_nextByte, jk_V i_t_begin, jk_V i_t_value, jk_V i_t_token, jk_V i_t_got, .ref a_t_n, .ref a_t_order, .ref a_t_numbers, jk_V i_t_orders, .ref a_t_output, jk_V i_t_outputMany])), (a_t_w, jk_W cI 259 i_t_w)]
set_option maxHeartbeats 4000000 in
set_option maxRecDepth 20000 in
theorem ct_Md_cuts (l : Launch) (D : va_G) (Z : (Nat → Prop) → State → Heap → Prop) (sq : Nat → Nat) (hZ : jk_ZK Z sq) (cI cR : ClassId) (a_t a_t_w a_t_wKept a_t_saved a_t_past a_t_input a_t_n a_t_order a_t_numbers a_t_output : Nat) (i_t_pastMany : Int) (i_t_isSaved : Int) (i_t_thrown : Int) (i_t_inputMany : Int) (i_t_lastError : Int) (i_t_lastOffset : Int) (i_t_error : Int) (i_t_offset : Int) (i_t_nextByte : Int) (i_t_begin : Int) (i_t_value : Int) (i_t_token : Int) (i_t_got : Int) (i_t_orders : Int) (i_t_outputMany : Int) (i_t_w : (Int → Int)) (x1 : Int) (q : Int × (Int → Int)) (hf : fn_Md_cuts i_t_w x1 = some q) : jk_MI l D jk_cl (jk_ty cI cR) Z mn_Md_cuts (.code mn_Md_cuts mb_Md_cuts 2 (some .int) :: jk_WA) (jk_rm 2 44) [.ref a_t, jk_V x1] (wd_Md_cuts cI a_t a_t_w a_t_wKept a_t_saved a_t_past a_t_input a_t_n a_t_order a_t_numbers a_t_output i_t_pastMany i_t_isSaved i_t_thrown i_t_inputMany i_t_lastError i_t_lastOffset i_t_error i_t_offset i_t_nextByte i_t_begin i_t_value i_t_token i_t_got i_t_orders i_t_outputMany i_t_w) (wd_Md_cuts cI a_t a_t_w a_t_wKept a_t_saved a_t_past a_t_input a_t_n a_t_order a_t_numbers a_t_output i_t_pastMany i_t_isSaved i_t_thrown i_t_inputMany i_t_lastError i_t_lastOffset i_t_error i_t_offset i_t_nextByte i_t_begin i_t_value i_t_token i_t_got i_t_orders i_t_outputMany q.2) q.1 := by
  intro sz
  refine jk_body (by decide +kernel) (fun p e s m args below meth c hsz hz hin C => ?_) (Nat.le_of_ble_eq_true rfl)
  subst hsz
  unfold fn_Md_cuts at hf
  refine jk_aload_n C rd_Md_cuts_0 (k := 0) rfl ?_
  refine jk_iload_n C rd_Md_cuts_1 (k := 1) rfl ?_
  refine jk_aload_n C rd_Md_cuts_2 (k := 0) rfl ?_
  refine jk_iload_n C rd_Md_cuts_3 (k := 1) rfl ?_
  obtain ⟨q4, hq4, hf⟩ := jk_bind_h hf
  refine jk_callVi C hZ.1 hz (ct_Md_behind l D Z sq hZ cI cR a_t a_t_w a_t_wKept a_t_saved a_t_past a_t_input a_t_n a_t_order a_t_numbers a_t_output i_t_pastMany i_t_isSaved i_t_thrown i_t_inputMany i_t_lastError i_t_lastOffset i_t_error i_t_offset i_t_nextByte i_t_begin i_t_value i_t_token i_t_got i_t_orders i_t_outputMany i_t_w x1 q4 hq4) tm_1457 tm_1459 sl_50 tm_15 tm_1460 na_Md_behind ⟨Nat.le_of_ble_eq_true rfl, Nat.le_of_ble_eq_true rfl⟩ rfl [0, 1] rfl rfl rfl (ws' := wd_Md_cuts cI a_t a_t_w a_t_wKept a_t_saved a_t_past a_t_input a_t_n a_t_order a_t_numbers a_t_output i_t_pastMany i_t_isSaved i_t_thrown i_t_inputMany i_t_lastError i_t_lastOffset i_t_error i_t_offset i_t_nextByte i_t_begin i_t_value i_t_token i_t_got i_t_orders i_t_outputMany i_t_w) rfl 0 11 rfl rfl rfl (st := [jk_V x1, .ref a_t]) rfl (Nat.le_of_ble_eq_true rfl) rd_Md_cuts_4 ?_ ⟨Nat.le_of_ble_eq_true rfl, Nat.le_of_ble_eq_true rfl⟩
  refine jk_iload_n C rd_Md_cuts_7 (k := 1) rfl ?_
  refine jk_isub C rd_Md_cuts_8 ?_
  obtain ⟨q9, hq9, hf⟩ := jk_bind_h hf
  refine jk_callVi C hZ.1 hz (ct_Md_removes l D Z sq hZ cI cR a_t a_t_w a_t_wKept a_t_saved a_t_past a_t_input a_t_n a_t_order a_t_numbers a_t_output i_t_pastMany i_t_isSaved i_t_thrown i_t_inputMany i_t_lastError i_t_lastOffset i_t_error i_t_offset i_t_nextByte i_t_begin i_t_value i_t_token i_t_got i_t_orders i_t_outputMany i_t_w x1 (q4 - x1) q9 hq9) tm_1548 tm_1550 sl_70 tm_15 tm_1551 na_Md_removes ⟨Nat.le_of_ble_eq_true rfl, Nat.le_of_ble_eq_true rfl⟩ rfl [0, 1] rfl rfl rfl (ws' := wd_Md_cuts cI a_t a_t_w a_t_wKept a_t_saved a_t_past a_t_input a_t_n a_t_order a_t_numbers a_t_output i_t_pastMany i_t_isSaved i_t_thrown i_t_inputMany i_t_lastError i_t_lastOffset i_t_error i_t_offset i_t_nextByte i_t_begin i_t_value i_t_token i_t_got i_t_orders i_t_outputMany q9.2) rfl 0 11 rfl rfl rfl (st := []) rfl (Nat.le_of_ble_eq_true rfl) rd_Md_cuts_9 ?_ ⟨Nat.le_of_ble_eq_true rfl, Nat.le_of_ble_eq_true rfl⟩
  cases hf
  exact jk_iret C rfl rd_Md_cuts_12 rfl
def wd_Md_mayTie (cI : ClassId) (a_t a_t_w a_t_wKept a_t_saved a_t_past a_t_input a_t_n a_t_order a_t_numbers a_t_output : Nat) (i_t_pastMany : Int) (i_t_isSaved : Int) (i_t_thrown : Int) (i_t_inputMany : Int) (i_t_lastError : Int) (i_t_lastOffset : Int) (i_t_error : Int) (i_t_offset : Int) (i_t_nextByte : Int) (i_t_begin : Int) (i_t_value : Int) (i_t_token : Int) (i_t_got : Int) (i_t_orders : Int) (i_t_outputMany : Int) (i_t_w : (Int → Int)) : va_W := [(a_t, .inr (11, [.ref a_t_w, .ref a_t_wKept, .ref a_t_saved, .ref a_t_past, jk_V i_t_pastMany, jk_V i_t_isSaved, jk_V i_t_thrown, .ref a_t_input, jk_V i_t_inputMany, jk_V i_t_lastError, jk_V i_t_lastOffset, jk_V i_t_error, jk_V i_t_offset, jk_V i_t_nextByte, jk_V i_t_begin, jk_V i_t_value, jk_V i_t_token, jk_V i_t_got, .ref a_t_n, .ref a_t_order, .ref a_t_numbers, jk_V i_t_orders, .ref a_t_output, jk_V i_t_outputMany])), (a_t_w, jk_W cI 259 i_t_w)]
set_option maxHeartbeats 4000000 in
set_option maxRecDepth 20000 in
theorem ct_Md_mayTie (l : Launch) (D : va_G) (Z : (Nat → Prop) → State → Heap → Prop) (sq : Nat → Nat) (hZ : jk_ZK Z sq) (cI cR : ClassId) (a_t a_t_w a_t_wKept a_t_saved a_t_past a_t_input a_t_n a_t_order a_t_numbers a_t_output : Nat) (i_t_pastMany : Int) (i_t_isSaved : Int) (i_t_thrown : Int) (i_t_inputMany : Int) (i_t_lastError : Int) (i_t_lastOffset : Int) (i_t_error : Int) (i_t_offset : Int) (i_t_nextByte : Int) (i_t_begin : Int) (i_t_value : Int) (i_t_token : Int) (i_t_got : Int) (i_t_orders : Int) (i_t_outputMany : Int) (i_t_w : (Int → Int)) (x1 : Int) (q : Int) (hf : fn_Md_mayTie i_t_w x1 = some q) : jk_MI l D jk_cl (jk_ty cI cR) Z mn_Md_mayTie (.code mn_Md_mayTie mb_Md_mayTie 2 (some .boolean) :: jk_WA) (jk_rm 6 131) [.ref a_t, jk_V x1] (wd_Md_mayTie cI a_t a_t_w a_t_wKept a_t_saved a_t_past a_t_input a_t_n a_t_order a_t_numbers a_t_output i_t_pastMany i_t_isSaved i_t_thrown i_t_inputMany i_t_lastError i_t_lastOffset i_t_error i_t_offset i_t_nextByte i_t_begin i_t_value i_t_token i_t_got i_t_orders i_t_outputMany i_t_w) (wd_Md_mayTie cI a_t a_t_w a_t_wKept a_t_saved a_t_past a_t_input a_t_n a_t_order a_t_numbers a_t_output i_t_pastMany i_t_isSaved i_t_thrown i_t_inputMany i_t_lastError i_t_lastOffset i_t_error i_t_offset i_t_nextByte i_t_begin i_t_value i_t_token i_t_got i_t_orders i_t_outputMany i_t_w) q := by
  intro sz
  refine jk_body (by decide +kernel) (fun p e s m args below meth c hsz hz hin C => ?_) (Nat.le_of_ble_eq_true rfl)
  subst hsz
  unfold fn_Md_mayTie at hf
  refine jk_aload_n C rd_Md_mayTie_0 (k := 0) rfl ?_
  refine jk_iload_n C rd_Md_mayTie_1 (k := 1) rfl ?_
  obtain ⟨q2, hq2, hf⟩ := jk_bind_h hf
  refine jk_callVi C hZ.1 hz (ct_Md_hasTop l D Z sq hZ cI cR a_t a_t_w a_t_wKept a_t_saved a_t_past a_t_input a_t_n a_t_order a_t_numbers a_t_output i_t_pastMany i_t_isSaved i_t_thrown i_t_inputMany i_t_lastError i_t_lastOffset i_t_error i_t_offset i_t_nextByte i_t_begin i_t_value i_t_token i_t_got i_t_orders i_t_outputMany i_t_w x1 q2 hq2) tm_1429 tm_1431 sl_43 tm_15 tm_1432 na_Md_hasTop ⟨Nat.le_of_ble_eq_true rfl, Nat.le_of_ble_eq_true rfl⟩ rfl [0, 1] rfl rfl rfl (ws' := wd_Md_mayTie cI a_t a_t_w a_t_wKept a_t_saved a_t_past a_t_input a_t_n a_t_order a_t_numbers a_t_output i_t_pastMany i_t_isSaved i_t_thrown i_t_inputMany i_t_lastError i_t_lastOffset i_t_error i_t_offset i_t_nextByte i_t_begin i_t_value i_t_token i_t_got i_t_orders i_t_outputMany i_t_w) rfl 0 11 rfl rfl rfl (st := []) rfl (Nat.le_of_ble_eq_true rfl) rd_Md_mayTie_2 ?_ ⟨Nat.le_of_ble_eq_true rfl, Nat.le_of_ble_eq_true rfl⟩
  refine jk_if_ne (tgt := 33) C rd_Md_mayTie_5 (by decide) hf (fun _ hf => ?_) (fun _ hf => ?_)
  · refine jk_iconst C rd_Md_mayTie_33 ?_
    cases hf
    exact jk_zret C (Or.inl rfl) rfl rd_Md_mayTie_34 rfl
  · refine jk_aload_n C rd_Md_mayTie_8 (k := 0) rfl ?_
    refine jk_iload_n C rd_Md_mayTie_9 (k := 1) rfl ?_
    obtain ⟨q10, hq10, hf⟩ := jk_bind_h hf
    refine jk_callVi C hZ.1 hz (ct_Md_pendants l D Z sq hZ cI cR a_t a_t_w a_t_wKept a_t_saved a_t_past a_t_input a_t_n a_t_order a_t_numbers a_t_output i_t_pastMany i_t_isSaved i_t_thrown i_t_inputMany i_t_lastError i_t_lastOffset i_t_error i_t_offset i_t_nextByte i_t_begin i_t_value i_t_token i_t_got i_t_orders i_t_outputMany i_t_w x1 q10 hq10) tm_1556 tm_1558 sl_72 tm_15 tm_1559 na_Md_pendants ⟨Nat.le_of_ble_eq_true rfl, Nat.le_of_ble_eq_true rfl⟩ rfl [0, 1] rfl rfl rfl (ws' := wd_Md_mayTie cI a_t a_t_w a_t_wKept a_t_saved a_t_past a_t_input a_t_n a_t_order a_t_numbers a_t_output i_t_pastMany i_t_isSaved i_t_thrown i_t_inputMany i_t_lastError i_t_lastOffset i_t_error i_t_offset i_t_nextByte i_t_begin i_t_value i_t_token i_t_got i_t_orders i_t_outputMany i_t_w) rfl 0 11 rfl rfl rfl (st := []) rfl (Nat.le_of_ble_eq_true rfl) rd_Md_mayTie_10 ?_ ⟨Nat.le_of_ble_eq_true rfl, Nat.le_of_ble_eq_true rfl⟩
    refine jk_if_eq (tgt := 33) C rd_Md_mayTie_13 (by decide) hf (fun _ hf => ?_) (fun _ hf => ?_)
    · refine jk_iconst C rd_Md_mayTie_33 ?_
      cases hf
      exact jk_zret C (Or.inl rfl) rfl rd_Md_mayTie_34 rfl
    · refine jk_aload_n C rd_Md_mayTie_16 (k := 0) rfl ?_
      refine jk_aload_n C rd_Md_mayTie_17 (k := 0) rfl ?_
      refine jk_iload_n C rd_Md_mayTie_18 (k := 1) rfl ?_
      obtain ⟨q19, hq19, hf⟩ := jk_bind_h hf
      refine jk_callVi C hZ.1 hz (ct_Md_first l D Z sq hZ cI cR a_t a_t_w a_t_wKept a_t_saved a_t_past a_t_input a_t_n a_t_order a_t_numbers a_t_output i_t_pastMany i_t_isSaved i_t_thrown i_t_inputMany i_t_lastError i_t_lastOffset i_t_error i_t_offset i_t_nextByte i_t_begin i_t_value i_t_token i_t_got i_t_orders i_t_outputMany i_t_w x1 q19 hq19) tm_1433 tm_1435 sl_44 tm_15 tm_1436 na_Md_first ⟨Nat.le_of_ble_eq_true rfl, Nat.le_of_ble_eq_true rfl⟩ rfl [0, 1] rfl rfl rfl (ws' := wd_Md_mayTie cI a_t a_t_w a_t_wKept a_t_saved a_t_past a_t_input a_t_n a_t_order a_t_numbers a_t_output i_t_pastMany i_t_isSaved i_t_thrown i_t_inputMany i_t_lastError i_t_lastOffset i_t_error i_t_offset i_t_nextByte i_t_begin i_t_value i_t_token i_t_got i_t_orders i_t_outputMany i_t_w) rfl 0 11 rfl rfl rfl (st := [.ref a_t]) rfl (Nat.le_of_ble_eq_true rfl) rd_Md_mayTie_19 ?_ ⟨Nat.le_of_ble_eq_true rfl, Nat.le_of_ble_eq_true rfl⟩
      refine jk_aload_n C rd_Md_mayTie_22 (k := 0) rfl ?_
      refine jk_iload_n C rd_Md_mayTie_23 (k := 1) rfl ?_
      obtain ⟨q24, hq24, hf⟩ := jk_bind_h hf
      refine jk_callVi C hZ.1 hz (ct_Md_end l D Z sq hZ cI cR a_t a_t_w a_t_wKept a_t_saved a_t_past a_t_input a_t_n a_t_order a_t_numbers a_t_output i_t_pastMany i_t_isSaved i_t_thrown i_t_inputMany i_t_lastError i_t_lastOffset i_t_error i_t_offset i_t_nextByte i_t_begin i_t_value i_t_token i_t_got i_t_orders i_t_outputMany i_t_w x1 q24 hq24) tm_1437 tm_1439 sl_45 tm_15 tm_1440 na_Md_end ⟨Nat.le_of_ble_eq_true rfl, Nat.le_of_ble_eq_true rfl⟩ rfl [0, 1] rfl rfl rfl (ws' := wd_Md_mayTie cI a_t a_t_w a_t_wKept a_t_saved a_t_past a_t_input a_t_n a_t_order a_t_numbers a_t_output i_t_pastMany i_t_isSaved i_t_thrown i_t_inputMany i_t_lastError i_t_lastOffset i_t_error i_t_offset i_t_nextByte i_t_begin i_t_value i_t_token i_t_got i_t_orders i_t_outputMany i_t_w) rfl 0 11 rfl rfl rfl (st := [jk_V q19, .ref a_t]) rfl (Nat.le_of_ble_eq_true rfl) rd_Md_mayTie_24 ?_ ⟨Nat.le_of_ble_eq_true rfl, Nat.le_of_ble_eq_true rfl⟩
      obtain ⟨q27, hq27, hf⟩ := jk_bind_h hf
      refine jk_callVi C hZ.1 hz (ct_Md_isWholeFrom l D Z sq hZ cI cR a_t a_t_w a_t_wKept a_t_saved a_t_past a_t_input a_t_n a_t_order a_t_numbers a_t_output i_t_pastMany i_t_isSaved i_t_thrown i_t_inputMany i_t_lastError i_t_lastOffset i_t_error i_t_offset i_t_nextByte i_t_begin i_t_value i_t_token i_t_got i_t_orders i_t_outputMany i_t_w q19 q24 q27 hq27) tm_1563 tm_1565 sl_73 tm_15 tm_1566 na_Md_isWholeFrom ⟨Nat.le_of_ble_eq_true rfl, Nat.le_of_ble_eq_true rfl⟩ rfl [0, 1] rfl rfl rfl (ws' := wd_Md_mayTie cI a_t a_t_w a_t_wKept a_t_saved a_t_past a_t_input a_t_n a_t_order a_t_numbers a_t_output i_t_pastMany i_t_isSaved i_t_thrown i_t_inputMany i_t_lastError i_t_lastOffset i_t_error i_t_offset i_t_nextByte i_t_begin i_t_value i_t_token i_t_got i_t_orders i_t_outputMany i_t_w) rfl 0 11 rfl rfl rfl (st := []) rfl (Nat.le_of_ble_eq_true rfl) rd_Md_mayTie_27 ?_ ⟨Nat.le_of_ble_eq_true rfl, Nat.le_of_ble_eq_true rfl⟩
      refine jk_if_ne (tgt := 35) C rd_Md_mayTie_30 (by decide) hf (fun _ hf => ?_) (fun _ hf => ?_)
      · refine jk_aload_n C rd_Md_mayTie_35 (k := 0) rfl ?_
        refine jk_iload_n C rd_Md_mayTie_36 (k := 1) rfl ?_
        obtain ⟨q37, hq37, hf⟩ := jk_bind_h hf
        refine jk_callVi C hZ.1 hz (ct_Md_knownSum l D Z sq hZ cI cR a_t a_t_w a_t_wKept a_t_saved a_t_past a_t_input a_t_n a_t_order a_t_numbers a_t_output i_t_pastMany i_t_isSaved i_t_thrown i_t_inputMany i_t_lastError i_t_lastOffset i_t_error i_t_offset i_t_nextByte i_t_begin i_t_value i_t_token i_t_got i_t_orders i_t_outputMany i_t_w x1 q37 hq37) tm_1571 tm_1573 sl_75 tm_15 tm_1574 na_Md_knownSum ⟨Nat.le_of_ble_eq_true rfl, Nat.le_of_ble_eq_true rfl⟩ rfl [0, 1] rfl rfl rfl (ws' := wd_Md_mayTie cI a_t a_t_w a_t_wKept a_t_saved a_t_past a_t_input a_t_n a_t_order a_t_numbers a_t_output i_t_pastMany i_t_isSaved i_t_thrown i_t_inputMany i_t_lastError i_t_lastOffset i_t_error i_t_offset i_t_nextByte i_t_begin i_t_value i_t_token i_t_got i_t_orders i_t_outputMany i_t_w) rfl 0 11 rfl rfl rfl (st := []) rfl (Nat.le_of_ble_eq_true rfl) rd_Md_mayTie_37 ?_ ⟨Nat.le_of_ble_eq_true rfl, Nat.le_of_ble_eq_true rfl⟩
        refine jk_sipush C rd_Md_mayTie_40 (by decide +kernel) ?_
        refine jk_icmp_gt (tgt := 57) C rd_Md_mayTie_43 (by decide) hf (fun _ hf => ?_) (fun _ hf => ?_)
        · refine jk_iconst C rd_Md_mayTie_57 ?_
          cases hf
          exact jk_zret C (Or.inl rfl) rfl rd_Md_mayTie_58 rfl
        · refine jk_aload_n C rd_Md_mayTie_46 (k := 0) rfl ?_
          obtain ⟨q47, hq47, hf⟩ := jk_bind_h hf
          refine jk_callVi C hZ.1 hz (ct_Md_mayAdd l D Z sq hZ cI cR a_t a_t_w a_t_wKept a_t_saved a_t_past a_t_input a_t_n a_t_order a_t_numbers a_t_output i_t_pastMany i_t_isSaved i_t_thrown i_t_inputMany i_t_lastError i_t_lastOffset i_t_error i_t_offset i_t_nextByte i_t_begin i_t_value i_t_token i_t_got i_t_orders i_t_outputMany i_t_w q47 hq47) tm_1441 tm_1443 sl_46 tm_15 tm_1444 na_Md_mayAdd ⟨Nat.le_of_ble_eq_true rfl, Nat.le_of_ble_eq_true rfl⟩ rfl [0, 1] rfl rfl rfl (ws' := wd_Md_mayTie cI a_t a_t_w a_t_wKept a_t_saved a_t_past a_t_input a_t_n a_t_order a_t_numbers a_t_output i_t_pastMany i_t_isSaved i_t_thrown i_t_inputMany i_t_lastError i_t_lastOffset i_t_error i_t_offset i_t_nextByte i_t_begin i_t_value i_t_token i_t_got i_t_orders i_t_outputMany i_t_w) rfl 0 11 rfl rfl rfl (st := []) rfl (Nat.le_of_ble_eq_true rfl) rd_Md_mayTie_47 ?_ ⟨Nat.le_of_ble_eq_true rfl, Nat.le_of_ble_eq_true rfl⟩
          refine jk_if_eq (tgt := 57) C rd_Md_mayTie_50 (by decide) hf (fun _ hf => ?_) (fun _ hf => ?_)
          · refine jk_iconst C rd_Md_mayTie_57 ?_
            cases hf
            exact jk_zret C (Or.inl rfl) rfl rd_Md_mayTie_58 rfl
          · refine jk_iconst C rd_Md_mayTie_53 ?_
            refine jk_goto (tgt := 58) C rd_Md_mayTie_54 (by decide) ?_
            cases hf
            exact jk_zret C (Or.inr rfl) rfl rd_Md_mayTie_58 rfl
      · refine jk_iconst C rd_Md_mayTie_33 ?_
        cases hf
        exact jk_zret C (Or.inl rfl) rfl rd_Md_mayTie_34 rfl
def wd_Md_ties (cI : ClassId) (a_t a_t_w a_t_wKept a_t_saved a_t_past a_t_input a_t_n a_t_order a_t_numbers a_t_output : Nat) (i_t_pastMany : Int) (i_t_isSaved : Int) (i_t_thrown : Int) (i_t_inputMany : Int) (i_t_lastError : Int) (i_t_lastOffset : Int) (i_t_error : Int) (i_t_offset : Int) (i_t_nextByte : Int) (i_t_begin : Int) (i_t_value : Int) (i_t_token : Int) (i_t_got : Int) (i_t_orders : Int) (i_t_outputMany : Int) (i_t_w : (Int → Int)) : va_W := [(a_t, .inr (11, [.ref a_t_w, .ref a_t_wKept, .ref a_t_saved, .ref a_t_past, jk_V i_t_pastMany, jk_V i_t_isSaved, jk_V i_t_thrown, .ref a_t_input, jk_V i_t_inputMany, jk_V i_t_lastError, jk_V i_t_lastOffset, jk_V i_t_error, jk_V i_t_offset, jk_V i_t_nextByte, jk_V i_t_begin, jk_V i_t_value, jk_V i_t_token, jk_V i_t_got, .ref a_t_n, .ref a_t_order, .ref a_t_numbers, jk_V i_t_orders, .ref a_t_output, jk_V i_t_outputMany])), (a_t_w, jk_W cI 259 i_t_w)]
set_option maxHeartbeats 4000000 in
set_option maxRecDepth 20000 in
theorem ct_Md_ties (l : Launch) (D : va_G) (Z : (Nat → Prop) → State → Heap → Prop) (sq : Nat → Nat) (hZ : jk_ZK Z sq) (cI cR : ClassId) (a_t a_t_w a_t_wKept a_t_saved a_t_past a_t_input a_t_n a_t_order a_t_numbers a_t_output : Nat) (i_t_pastMany : Int) (i_t_isSaved : Int) (i_t_thrown : Int) (i_t_inputMany : Int) (i_t_lastError : Int) (i_t_lastOffset : Int) (i_t_error : Int) (i_t_offset : Int) (i_t_nextByte : Int) (i_t_begin : Int) (i_t_value : Int) (i_t_token : Int) (i_t_got : Int) (i_t_orders : Int) (i_t_outputMany : Int) (i_t_w : (Int → Int)) (x1 : Int) (x2 : Int) (q : Int × (Int → Int)) (hf : fn_Md_ties i_t_w x1 x2 = some q) : jk_MI l D jk_cl (jk_ty cI cR) Z mn_Md_ties (.code mn_Md_ties mb_Md_ties 5 (some .int) :: jk_WA) (jk_rm 6 131) [.ref a_t, jk_V x1, jk_V x2] (wd_Md_ties cI a_t a_t_w a_t_wKept a_t_saved a_t_past a_t_input a_t_n a_t_order a_t_numbers a_t_output i_t_pastMany i_t_isSaved i_t_thrown i_t_inputMany i_t_lastError i_t_lastOffset i_t_error i_t_offset i_t_nextByte i_t_begin i_t_value i_t_token i_t_got i_t_orders i_t_outputMany i_t_w) (wd_Md_ties cI a_t a_t_w a_t_wKept a_t_saved a_t_past a_t_input a_t_n a_t_order a_t_numbers a_t_output i_t_pastMany i_t_isSaved i_t_thrown i_t_inputMany i_t_lastError i_t_lastOffset i_t_error i_t_offset i_t_nextByte i_t_begin i_t_value i_t_token i_t_got i_t_orders i_t_outputMany q.2) q.1 := by
  intro sz
  refine jk_body (by decide +kernel) (fun p e s m args below meth c hsz hz hin C => ?_) (Nat.le_of_ble_eq_true rfl)
  subst hsz
  unfold fn_Md_ties at hf
  refine jk_aload_n C rd_Md_ties_0 (k := 0) rfl ?_
  refine jk_iload_n C rd_Md_ties_1 (k := 1) rfl ?_
  obtain ⟨q2, hq2, hf⟩ := jk_bind_h hf
  refine jk_callVi C hZ.1 hz (ct_Md_knownSum l D Z sq hZ cI cR a_t a_t_w a_t_wKept a_t_saved a_t_past a_t_input a_t_n a_t_order a_t_numbers a_t_output i_t_pastMany i_t_isSaved i_t_thrown i_t_inputMany i_t_lastError i_t_lastOffset i_t_error i_t_offset i_t_nextByte i_t_begin i_t_value i_t_token i_t_got i_t_orders i_t_outputMany i_t_w x1 q2 hq2) tm_1571 tm_1573 sl_75 tm_15 tm_1574 na_Md_knownSum ⟨Nat.le_of_ble_eq_true rfl, Nat.le_of_ble_eq_true rfl⟩ rfl [0, 1] rfl rfl rfl (ws' := wd_Md_ties cI a_t a_t_w a_t_wKept a_t_saved a_t_past a_t_input a_t_n a_t_order a_t_numbers a_t_output i_t_pastMany i_t_isSaved i_t_thrown i_t_inputMany i_t_lastError i_t_lastOffset i_t_error i_t_offset i_t_nextByte i_t_begin i_t_value i_t_token i_t_got i_t_orders i_t_outputMany i_t_w) rfl 0 11 rfl rfl rfl (st := []) rfl (Nat.le_of_ble_eq_true rfl) rd_Md_ties_2 ?_ ⟨Nat.le_of_ble_eq_true rfl, Nat.le_of_ble_eq_true rfl⟩
  refine jk_istore_n C rd_Md_ties_5 (by decide) (lv' := [(3, jk_V q2), (0, .ref a_t), (1, jk_V x1), (2, jk_V x2)]) rfl ?_
  refine jk_aload_n C rd_Md_ties_6 (k := 1) rfl ?_
  refine jk_aload_n C rd_Md_ties_7 (k := 1) rfl ?_
  refine jk_iload_n C rd_Md_ties_8 (k := 2) rfl ?_
  obtain ⟨q9, hq9, hf⟩ := jk_bind_h hf
  refine jk_callVi C hZ.1 hz (ct_Md_first l D Z sq hZ cI cR a_t a_t_w a_t_wKept a_t_saved a_t_past a_t_input a_t_n a_t_order a_t_numbers a_t_output i_t_pastMany i_t_isSaved i_t_thrown i_t_inputMany i_t_lastError i_t_lastOffset i_t_error i_t_offset i_t_nextByte i_t_begin i_t_value i_t_token i_t_got i_t_orders i_t_outputMany i_t_w x1 q9 hq9) tm_1433 tm_1435 sl_44 tm_15 tm_1436 na_Md_first ⟨Nat.le_of_ble_eq_true rfl, Nat.le_of_ble_eq_true rfl⟩ rfl [0, 1] rfl rfl rfl (ws' := wd_Md_ties cI a_t a_t_w a_t_wKept a_t_saved a_t_past a_t_input a_t_n a_t_order a_t_numbers a_t_output i_t_pastMany i_t_isSaved i_t_thrown i_t_inputMany i_t_lastError i_t_lastOffset i_t_error i_t_offset i_t_nextByte i_t_begin i_t_value i_t_token i_t_got i_t_orders i_t_outputMany i_t_w) rfl 0 11 rfl rfl rfl (st := [.ref a_t]) rfl (Nat.le_of_ble_eq_true rfl) rd_Md_ties_9 ?_ ⟨Nat.le_of_ble_eq_true rfl, Nat.le_of_ble_eq_true rfl⟩
  refine jk_iload_n C rd_Md_ties_12 (k := 2) rfl ?_
  refine jk_iconst C rd_Md_ties_13 ?_
  refine jk_iload_n C rd_Md_ties_14 (k := 3) rfl ?_
  refine jk_iload_n C rd_Md_ties_15 (k := 0) rfl ?_
  obtain ⟨q16, hq16, hf⟩ := jk_bind_h hf
  refine jk_callVi C hZ.1 hz (ct_Md_inserts l D Z sq hZ cI cR a_t a_t_w a_t_wKept a_t_saved a_t_past a_t_input a_t_n a_t_order a_t_numbers a_t_output i_t_pastMany i_t_isSaved i_t_thrown i_t_inputMany i_t_lastError i_t_lastOffset i_t_error i_t_offset i_t_nextByte i_t_begin i_t_value i_t_token i_t_got i_t_orders i_t_outputMany i_t_w q9 x1 0 x2 q2 q16 hq16) tm_1236 tm_1238 sl_21 tm_15 tm_1239 na_Md_inserts ⟨Nat.le_of_ble_eq_true rfl, Nat.le_of_ble_eq_true rfl⟩ rfl [0, 1] rfl rfl rfl (ws' := wd_Md_ties cI a_t a_t_w a_t_wKept a_t_saved a_t_past a_t_input a_t_n a_t_order a_t_numbers a_t_output i_t_pastMany i_t_isSaved i_t_thrown i_t_inputMany i_t_lastError i_t_lastOffset i_t_error i_t_offset i_t_nextByte i_t_begin i_t_value i_t_token i_t_got i_t_orders i_t_outputMany q16.2) rfl 0 11 rfl rfl rfl (st := []) rfl (Nat.le_of_ble_eq_true rfl) rd_Md_ties_16 ?_ ⟨Nat.le_of_ble_eq_true rfl, Nat.le_of_ble_eq_true rfl⟩
  refine jk_istore C rd_Md_ties_19 (by decide) (lv' := [(4, jk_V q16.1), (3, jk_V q2), (0, .ref a_t), (1, jk_V x1), (2, jk_V x2)]) rfl ?_
  refine jk_iload_n C rd_Md_ties_21 (k := 1) rfl ?_
  cases hf
  exact jk_iret C rfl rd_Md_ties_22 rfl
def wd_Md_sets (cI : ClassId) (a_t a_t_w a_t_wKept a_t_saved a_t_past a_t_input a_t_n a_t_order a_t_numbers a_t_output : Nat) (i_t_pastMany : Int) (i_t_isSaved : Int) (i_t_thrown : Int) (i_t_inputMany : Int) (i_t_lastError : Int) (i_t_lastOffset : Int) (i_t_error : Int) (i_t_offset : Int) (i_t_nextByte : Int) (i_t_begin : Int) (i_t_value : Int) (i_t_token : Int) (i_t_got : Int) (i_t_orders : Int) (i_t_outputMany : Int) (i_t_w : (Int → Int)) : va_W := [(a_t, .inr (11, [.ref a_t_w, .ref a_t_wKept, .ref a_t_saved, .ref a_t_past, jk_V i_t_pastMany, jk_V i_t_isSaved, jk_V i_t_thrown, .ref a_t_input, jk_V i_t_inputMany, jk_V i_t_lastError, jk_V i_t_lastOffset, jk_V i_t_error, jk_V i_t_offset, jk_V i_t_nextByte, jk_V i_t_begin, jk_V i_t_value, jk_V i_t_token, jk_V i_t_got, .ref a_t_n, .ref a_t_order, .ref a_t_numbers, jk_V i_t_orders, .ref a_t_output, jk_V i_t_outputMany])), (a_t_w, jk_W cI 259 i_t_w)]
set_option maxHeartbeats 4000000 in
set_option maxRecDepth 20000 in
theorem ct_Md_sets (l : Launch) (D : va_G) (Z : (Nat → Prop) → State → Heap → Prop) (sq : Nat → Nat) (hZ : jk_ZK Z sq) (cI cR : ClassId) (a_t a_t_w a_t_wKept a_t_saved a_t_past a_t_input a_t_n a_t_order a_t_numbers a_t_output : Nat) (i_t_pastMany : Int) (i_t_isSaved : Int) (i_t_thrown : Int) (i_t_inputMany : Int) (i_t_lastError : Int) (i_t_lastOffset : Int) (i_t_error : Int) (i_t_offset : Int) (i_t_nextByte : Int) (i_t_begin : Int) (i_t_value : Int) (i_t_token : Int) (i_t_got : Int) (i_t_orders : Int) (i_t_outputMany : Int) (i_t_w : (Int → Int)) (x1 : Int) (x2 : Int) (x3 : Int) (q : Int × (Int → Int)) (hf : fn_Md_sets i_t_w x1 x2 x3 = some q) : jk_MI l D jk_cl (jk_ty cI cR) Z mn_Md_sets (.code mn_Md_sets mb_Md_sets 5 (some .int) :: jk_WA) (jk_rm 2 44) [.ref a_t, jk_V x1, jk_V x2, jk_V x3] (wd_Md_sets cI a_t a_t_w a_t_wKept a_t_saved a_t_past a_t_input a_t_n a_t_order a_t_numbers a_t_output i_t_pastMany i_t_isSaved i_t_thrown i_t_inputMany i_t_lastError i_t_lastOffset i_t_error i_t_offset i_t_nextByte i_t_begin i_t_value i_t_token i_t_got i_t_orders i_t_outputMany i_t_w) (wd_Md_sets cI a_t a_t_w a_t_wKept a_t_saved a_t_past a_t_input a_t_n a_t_order a_t_numbers a_t_output i_t_pastMany i_t_isSaved i_t_thrown i_t_inputMany i_t_lastError i_t_lastOffset i_t_error i_t_offset i_t_nextByte i_t_begin i_t_value i_t_token i_t_got i_t_orders i_t_outputMany q.2) q.1 := by
  intro sz
  refine jk_body (by decide +kernel) (fun p e s m args below meth c hsz hz hin C => ?_) (Nat.le_of_ble_eq_true rfl)
  subst hsz
  unfold fn_Md_sets at hf
  refine jk_aload_n C rd_Md_sets_0 (k := 0) rfl ?_
  refine jk_iload_n C rd_Md_sets_1 (k := 1) rfl ?_
  refine jk_iload_n C rd_Md_sets_2 (k := 2) rfl ?_
  obtain ⟨q3, hq3, hf⟩ := jk_bind_h hf
  refine jk_callVi C hZ.1 hz (ct_Md_knots l D Z sq hZ cI cR a_t a_t_w a_t_wKept a_t_saved a_t_past a_t_input a_t_n a_t_order a_t_numbers a_t_output i_t_pastMany i_t_isSaved i_t_thrown i_t_inputMany i_t_lastError i_t_lastOffset i_t_error i_t_offset i_t_nextByte i_t_begin i_t_value i_t_token i_t_got i_t_orders i_t_outputMany i_t_w x1 x2 q3 hq3) tm_1252 tm_1254 sl_25 tm_15 tm_1255 na_Md_knots ⟨Nat.le_of_ble_eq_true rfl, Nat.le_of_ble_eq_true rfl⟩ rfl [0, 1] rfl rfl rfl (ws' := wd_Md_sets cI a_t a_t_w a_t_wKept a_t_saved a_t_past a_t_input a_t_n a_t_order a_t_numbers a_t_output i_t_pastMany i_t_isSaved i_t_thrown i_t_inputMany i_t_lastError i_t_lastOffset i_t_error i_t_offset i_t_nextByte i_t_begin i_t_value i_t_token i_t_got i_t_orders i_t_outputMany i_t_w) rfl 0 11 rfl rfl rfl (st := []) rfl (Nat.le_of_ble_eq_true rfl) rd_Md_sets_3 ?_ ⟨Nat.le_of_ble_eq_true rfl, Nat.le_of_ble_eq_true rfl⟩
  refine jk_istore C rd_Md_sets_6 (by decide) (lv' := [(4, jk_V q3), (0, .ref a_t), (1, jk_V x1), (2, jk_V x2), (3, jk_V x3)]) rfl ?_
  refine jk_aload_n C rd_Md_sets_8 (k := 1) rfl ?_
  refine jk_iload_n C rd_Md_sets_9 (k := 2) rfl ?_
  refine jk_iconst C rd_Md_sets_10 ?_
  refine jk_aload_n C rd_Md_sets_11 (k := 1) rfl ?_
  refine jk_iload_n C rd_Md_sets_12 (k := 2) rfl ?_
  refine jk_iconst C rd_Md_sets_13 ?_
  obtain ⟨q14, hq14, hf⟩ := jk_bind_h hf
  refine jk_callVi C hZ.1 hz (ct_Md_of l D Z sq hZ cI cR a_t a_t_w a_t_wKept a_t_saved a_t_past a_t_input a_t_n a_t_order a_t_numbers a_t_output i_t_pastMany i_t_isSaved i_t_thrown i_t_inputMany i_t_lastError i_t_lastOffset i_t_error i_t_offset i_t_nextByte i_t_begin i_t_value i_t_token i_t_got i_t_orders i_t_outputMany i_t_w x1 3 q14 hq14) tm_1256 tm_1258 sl_26 tm_15 tm_1259 na_Md_of ⟨Nat.le_of_ble_eq_true rfl, Nat.le_of_ble_eq_true rfl⟩ rfl [0, 1] rfl rfl rfl (ws' := wd_Md_sets cI a_t a_t_w a_t_wKept a_t_saved a_t_past a_t_input a_t_n a_t_order a_t_numbers a_t_output i_t_pastMany i_t_isSaved i_t_thrown i_t_inputMany i_t_lastError i_t_lastOffset i_t_error i_t_offset i_t_nextByte i_t_begin i_t_value i_t_token i_t_got i_t_orders i_t_outputMany i_t_w) rfl 0 11 rfl rfl rfl (st := [jk_V 3, jk_V x1, .ref a_t]) rfl (Nat.le_of_ble_eq_true rfl) rd_Md_sets_14 ?_ ⟨Nat.le_of_ble_eq_true rfl, Nat.le_of_ble_eq_true rfl⟩
  refine jk_iload_n C rd_Md_sets_17 (k := 4) rfl ?_
  refine jk_iload C rd_Md_sets_18 (k := 0) rfl ?_
  refine jk_isub C rd_Md_sets_20 ?_
  refine jk_iload_n C rd_Md_sets_21 (k := 3) rfl ?_
  obtain ⟨q22, hq22, hf⟩ := jk_bind_h hf
  refine jk_callSi C hZ.1 hz (ct_Md_power l D Z sq hZ cI cR x2 q22 hq22) tm_1260 tm_1261 tm_15 tm_1262 na_Md_power ⟨Nat.le_of_ble_eq_true rfl, Nat.le_of_ble_eq_true rfl⟩ rfl [] rfl rfl rfl (ws' := wd_Md_sets cI a_t a_t_w a_t_wKept a_t_saved a_t_past a_t_input a_t_n a_t_order a_t_numbers a_t_output i_t_pastMany i_t_isSaved i_t_thrown i_t_inputMany i_t_lastError i_t_lastOffset i_t_error i_t_offset i_t_nextByte i_t_begin i_t_value i_t_token i_t_got i_t_orders i_t_outputMany i_t_w) rfl (st := [jk_V (x3 - q3), jk_V q14, jk_V 3, jk_V x1, .ref a_t]) rfl (Nat.le_of_ble_eq_true rfl) rd_Md_sets_22 ?_ ⟨Nat.le_of_ble_eq_true rfl, Nat.le_of_ble_eq_true rfl⟩
  refine jk_imul C rd_Md_sets_25 ?_
  refine jk_iadd C rd_Md_sets_26 ?_
  obtain ⟨q27, hq27, hf⟩ := jk_bind_h hf
  refine jk_callVv C hZ.1 hz (ct_Md_puts l D Z sq hZ cI cR a_t a_t_w a_t_wKept a_t_saved a_t_past a_t_input a_t_n a_t_order a_t_numbers a_t_output i_t_pastMany i_t_isSaved i_t_thrown i_t_inputMany i_t_lastError i_t_lastOffset i_t_error i_t_offset i_t_nextByte i_t_begin i_t_value i_t_token i_t_got i_t_orders i_t_outputMany i_t_w x1 3 (q14 + ((x3 - q3) * q22)) q27 hq27) tm_1240 tm_1242 sl_22 tm_15 tm_1243 na_Md_puts ⟨Nat.le_of_ble_eq_true rfl, Nat.le_of_ble_eq_true rfl⟩ rfl [0, 1] rfl rfl rfl (ws' := wd_Md_sets cI a_t a_t_w a_t_wKept a_t_saved a_t_past a_t_input a_t_n a_t_order a_t_numbers a_t_output i_t_pastMany i_t_isSaved i_t_thrown i_t_inputMany i_t_lastError i_t_lastOffset i_t_error i_t_offset i_t_nextByte i_t_begin i_t_value i_t_token i_t_got i_t_orders i_t_outputMany q27) rfl 0 11 rfl rfl rfl (st := []) rfl (Nat.le_of_ble_eq_true rfl) rd_Md_sets_27 ?_ ⟨Nat.le_of_ble_eq_true rfl, Nat.le_of_ble_eq_true rfl⟩
  refine jk_iload C rd_Md_sets_30 (k := 0) rfl ?_
  cases hf
  exact jk_iret C rfl rd_Md_sets_32 rfl
def wd_Md_dyes (cI : ClassId) (a_t a_t_w a_t_wKept a_t_saved a_t_past a_t_input a_t_n a_t_order a_t_numbers a_t_output : Nat) (i_t_pastMany : Int) (i_t_isSaved : Int) (i_t_thrown : Int) (i_t_inputMany : Int) (i_t_lastError : Int) (i_t_lastOffset : Int) (i_t_error : Int) (i_t_offset : Int) (i_t_nextByte : Int) (i_t_begin : Int) (i_t_value : Int) (i_t_token : Int) (i_t_got : Int) (i_t_orders : Int) (i_t_outputMany : Int) (i_t_w : (Int → Int)) : va_W := [(a_t, .inr (11, [.ref a_t_w, .ref a_t_wKept, .ref a_t_saved, .ref a_t_past, jk_V i_t_pastMany, jk_V i_t_isSaved, jk_V i_t_thrown, .ref a_t_input, jk_V i_t_inputMany, jk_V i_t_lastError, jk_V i_t_lastOffset, jk_V i_t_error, jk_V i_t_offset, jk_V i_t_nextByte, jk_V i_t_begin, jk_V i_t_value, jk_V i_t_token, jk_V i_t_got, .ref a_t_n, .ref a_t_order, .ref a_t_numbers, jk_V i_t_orders, .ref a_t_output, jk_V i_t_outputMany])), (a_t_w, jk_W cI 259 i_t_w)]
set_option maxHeartbeats 4000000 in
set_option maxRecDepth 20000 in
theorem ct_Md_dyes (l : Launch) (D : va_G) (Z : (Nat → Prop) → State → Heap → Prop) (sq : Nat → Nat) (hZ : jk_ZK Z sq) (cI cR : ClassId) (a_t a_t_w a_t_wKept a_t_saved a_t_past a_t_input a_t_n a_t_order a_t_numbers a_t_output : Nat) (i_t_pastMany : Int) (i_t_isSaved : Int) (i_t_thrown : Int) (i_t_inputMany : Int) (i_t_lastError : Int) (i_t_lastOffset : Int) (i_t_error : Int) (i_t_offset : Int) (i_t_nextByte : Int) (i_t_begin : Int) (i_t_value : Int) (i_t_token : Int) (i_t_got : Int) (i_t_orders : Int) (i_t_outputMany : Int) (i_t_w : (Int → Int)) (x1 : Int) (x2 : Int) (q : Int × (Int → Int)) (hf : fn_Md_dyes i_t_w x1 x2 = some q) : jk_MI l D jk_cl (jk_ty cI cR) Z mn_Md_dyes (.code mn_Md_dyes mb_Md_dyes 4 (some .int) :: jk_WA) (jk_rm 1 23) [.ref a_t, jk_V x1, jk_V x2] (wd_Md_dyes cI a_t a_t_w a_t_wKept a_t_saved a_t_past a_t_input a_t_n a_t_order a_t_numbers a_t_output i_t_pastMany i_t_isSaved i_t_thrown i_t_inputMany i_t_lastError i_t_lastOffset i_t_error i_t_offset i_t_nextByte i_t_begin i_t_value i_t_token i_t_got i_t_orders i_t_outputMany i_t_w) (wd_Md_dyes cI a_t a_t_w a_t_wKept a_t_saved a_t_past a_t_input a_t_n a_t_order a_t_numbers a_t_output i_t_pastMany i_t_isSaved i_t_thrown i_t_inputMany i_t_lastError i_t_lastOffset i_t_error i_t_offset i_t_nextByte i_t_begin i_t_value i_t_token i_t_got i_t_orders i_t_outputMany q.2) q.1 := by
  intro sz
  refine jk_body (by decide +kernel) (fun p e s m args below meth c hsz hz hin C => ?_) (Nat.le_of_ble_eq_true rfl)
  subst hsz
  unfold fn_Md_dyes at hf
  refine jk_aload_n C rd_Md_dyes_0 (k := 0) rfl ?_
  refine jk_iload_n C rd_Md_dyes_1 (k := 1) rfl ?_
  refine jk_iconst C rd_Md_dyes_2 ?_
  obtain ⟨q3, hq3, hf⟩ := jk_bind_h hf
  refine jk_callVi C hZ.1 hz (ct_Md_of l D Z sq hZ cI cR a_t a_t_w a_t_wKept a_t_saved a_t_past a_t_input a_t_n a_t_order a_t_numbers a_t_output i_t_pastMany i_t_isSaved i_t_thrown i_t_inputMany i_t_lastError i_t_lastOffset i_t_error i_t_offset i_t_nextByte i_t_begin i_t_value i_t_token i_t_got i_t_orders i_t_outputMany i_t_w x1 2 q3 hq3) tm_1256 tm_1258 sl_26 tm_15 tm_1259 na_Md_of ⟨Nat.le_of_ble_eq_true rfl, Nat.le_of_ble_eq_true rfl⟩ rfl [0, 1] rfl rfl rfl (ws' := wd_Md_dyes cI a_t a_t_w a_t_wKept a_t_saved a_t_past a_t_input a_t_n a_t_order a_t_numbers a_t_output i_t_pastMany i_t_isSaved i_t_thrown i_t_inputMany i_t_lastError i_t_lastOffset i_t_error i_t_offset i_t_nextByte i_t_begin i_t_value i_t_token i_t_got i_t_orders i_t_outputMany i_t_w) rfl 0 11 rfl rfl rfl (st := []) rfl (Nat.le_of_ble_eq_true rfl) rd_Md_dyes_3 ?_ ⟨Nat.le_of_ble_eq_true rfl, Nat.le_of_ble_eq_true rfl⟩
  refine jk_istore_n C rd_Md_dyes_6 (by decide) (lv' := [(3, jk_V q3), (0, .ref a_t), (1, jk_V x1), (2, jk_V x2)]) rfl ?_
  refine jk_aload_n C rd_Md_dyes_7 (k := 1) rfl ?_
  refine jk_iload_n C rd_Md_dyes_8 (k := 2) rfl ?_
  refine jk_iconst C rd_Md_dyes_9 ?_
  refine jk_iload_n C rd_Md_dyes_10 (k := 3) rfl ?_
  obtain ⟨q11, hq11, hf⟩ := jk_bind_h hf
  refine jk_callVv C hZ.1 hz (ct_Md_puts l D Z sq hZ cI cR a_t a_t_w a_t_wKept a_t_saved a_t_past a_t_input a_t_n a_t_order a_t_numbers a_t_output i_t_pastMany i_t_isSaved i_t_thrown i_t_inputMany i_t_lastError i_t_lastOffset i_t_error i_t_offset i_t_nextByte i_t_begin i_t_value i_t_token i_t_got i_t_orders i_t_outputMany i_t_w x1 2 x2 q11 hq11) tm_1240 tm_1242 sl_22 tm_15 tm_1243 na_Md_puts ⟨Nat.le_of_ble_eq_true rfl, Nat.le_of_ble_eq_true rfl⟩ rfl [0, 1] rfl rfl rfl (ws' := wd_Md_dyes cI a_t a_t_w a_t_wKept a_t_saved a_t_past a_t_input a_t_n a_t_order a_t_numbers a_t_output i_t_pastMany i_t_isSaved i_t_thrown i_t_inputMany i_t_lastError i_t_lastOffset i_t_error i_t_offset i_t_nextByte i_t_begin i_t_value i_t_token i_t_got i_t_orders i_t_outputMany q11) rfl 0 11 rfl rfl rfl (st := []) rfl (Nat.le_of_ble_eq_true rfl) rd_Md_dyes_11 ?_ ⟨Nat.le_of_ble_eq_true rfl, Nat.le_of_ble_eq_true rfl⟩
  refine jk_iload_n C rd_Md_dyes_14 (k := 0) rfl ?_
  cases hf
  exact jk_iret C rfl rd_Md_dyes_15 rfl
def wd_Md_remembers (cI : ClassId) (a_t a_t_w a_t_wKept a_t_saved a_t_past a_t_input a_t_n a_t_order a_t_numbers a_t_output : Nat) (i_t_pastMany : Int) (i_t_isSaved : Int) (i_t_thrown : Int) (i_t_inputMany : Int) (i_t_lastError : Int) (i_t_lastOffset : Int) (i_t_error : Int) (i_t_offset : Int) (i_t_nextByte : Int) (i_t_begin : Int) (i_t_value : Int) (i_t_token : Int) (i_t_got : Int) (i_t_orders : Int) (i_t_outputMany : Int) (i_t_w : (Int → Int)) (i_t_past : (Int → Int)) : va_W := [(a_t, .inr (11, [.ref a_t_w, .ref a_t_wKept, .ref a_t_saved, .ref a_t_past, jk_V i_t_pastMany, jk_V i_t_isSaved, jk_V i_t_thrown, .ref a_t_input, jk_V i_t_inputMany, jk_V i_t_lastError, jk_V i_t_lastOffset, jk_V i_t_error, jk_V i_t_offset, jk_V i_t_nextByte, jk_V i_t_begin, jk_V i_t_value, jk_V i_t_token, jk_V i_t_got, .ref a_t_n, .ref a_t_order, .ref a_t_numbers, jk_V i_t_orders, .ref a_t_output, jk_V i_t_outputMany])), (a_t_w, jk_W cI 259 i_t_w), (a_t_past, jk_W cI 2072 i_t_past)]
set_option maxHeartbeats 4000000 in
set_option maxRecDepth 20000 in
theorem ct_Md_remembers (l : Launch) (D : va_G) (Z : (Nat → Prop) → State → Heap → Prop) (sq : Nat → Nat) (hZ : jk_ZK Z sq) (cI cR : ClassId) (a_t a_t_w a_t_wKept a_t_saved a_t_past a_t_input a_t_n a_t_order a_t_numbers a_t_output : Nat) (i_t_pastMany : Int) (i_t_isSaved : Int) (i_t_thrown : Int) (i_t_inputMany : Int) (i_t_lastError : Int) (i_t_lastOffset : Int) (i_t_error : Int) (i_t_offset : Int) (i_t_nextByte : Int) (i_t_begin : Int) (i_t_value : Int) (i_t_token : Int) (i_t_got : Int) (i_t_orders : Int) (i_t_outputMany : Int) (i_t_w : (Int → Int)) (i_t_past : (Int → Int)) (q : (Int → Int) × Int) (hf : fn_Md_remembers i_t_w i_t_past i_t_pastMany = some q) : jk_MV l D jk_cl (jk_ty cI cR) Z mn_Md_remembers (.code mn_Md_remembers mb_Md_remembers 2 none :: jk_WA) (jk_rm 1 24) [.ref a_t] (wd_Md_remembers cI a_t a_t_w a_t_wKept a_t_saved a_t_past a_t_input a_t_n a_t_order a_t_numbers a_t_output i_t_pastMany i_t_isSaved i_t_thrown i_t_inputMany i_t_lastError i_t_lastOffset i_t_error i_t_offset i_t_nextByte i_t_begin i_t_value i_t_token i_t_got i_t_orders i_t_outputMany i_t_w i_t_past) (wd_Md_remembers cI a_t a_t_w a_t_wKept a_t_saved a_t_past a_t_input a_t_n a_t_order a_t_numbers a_t_output q.2 i_t_isSaved i_t_thrown i_t_inputMany i_t_lastError i_t_lastOffset i_t_error i_t_offset i_t_nextByte i_t_begin i_t_value i_t_token i_t_got i_t_orders i_t_outputMany i_t_w q.1) := by
  intro sz
  refine jk_body (by decide +kernel) (fun p e s m args below meth c hsz hz hin C => ?_) (Nat.le_of_ble_eq_true rfl)
  subst hsz
  unfold fn_Md_remembers at hf
  have bk_50 : ∀ (t_past : (Int → Int)) (t_pastMany : Int), fn_Md_remembers_b50 i_t_w t_past t_pastMany = some q → jk_J p l e (jk_rm 1 24) s m args below meth c 0 0 (jk_QV below D jk_cl (jk_ty cI cR) (wd_Md_remembers cI a_t a_t_w a_t_wKept a_t_saved a_t_past a_t_input a_t_n a_t_order a_t_numbers a_t_output i_t_pastMany i_t_isSaved i_t_thrown i_t_inputMany i_t_lastError i_t_lastOffset i_t_error i_t_offset i_t_nextByte i_t_begin i_t_value i_t_token i_t_got i_t_orders i_t_outputMany i_t_w i_t_past) (wd_Md_remembers cI a_t a_t_w a_t_wKept a_t_saved a_t_past a_t_input a_t_n a_t_order a_t_numbers a_t_output q.2 i_t_isSaved i_t_thrown i_t_inputMany i_t_lastError i_t_lastOffset i_t_error i_t_offset i_t_nextByte i_t_begin i_t_value i_t_token i_t_got i_t_orders i_t_outputMany i_t_w q.1) args s) D jk_cl (va_A (wd_Md_remembers cI a_t a_t_w a_t_wKept a_t_saved a_t_past a_t_input a_t_n a_t_order a_t_numbers a_t_output i_t_pastMany i_t_isSaved i_t_thrown i_t_inputMany i_t_lastError i_t_lastOffset i_t_error i_t_offset i_t_nextByte i_t_begin i_t_value i_t_token i_t_got i_t_orders i_t_outputMany i_t_w i_t_past) s.heap.size) 2 (wd_Md_remembers cI a_t a_t_w a_t_wKept a_t_saved a_t_past a_t_input a_t_n a_t_order a_t_numbers a_t_output t_pastMany i_t_isSaved i_t_thrown i_t_inputMany i_t_lastError i_t_lastOffset i_t_error i_t_offset i_t_nextByte i_t_begin i_t_value i_t_token i_t_got i_t_orders i_t_outputMany i_t_w t_past) [(0, .ref a_t)] 50 [] := by
    intro t_past t_pastMany hf
    unfold fn_Md_remembers_b50 at hf
    refine jk_aload_n C rd_Md_remembers_50 (k := 0) rfl ?_
    refine jk_get C in_Md (ci := 11) rfl 0 (by decide) tm_1263 0 rfl rfl rd_Md_remembers_51 ?_
    refine jk_iconst C rd_Md_remembers_54 ?_
    refine jk_aload_n C rd_Md_remembers_55 (k := 0) rfl ?_
    refine jk_get C in_Md (ci := 11) rfl 3 (by decide) tm_1266 0 rfl rfl rd_Md_remembers_56 ?_
    refine jk_sipush C rd_Md_remembers_59 (by decide +kernel) ?_
    refine jk_aload_n C rd_Md_remembers_62 (k := 0) rfl ?_
    refine jk_get C in_Md (ci := 11) rfl 4 (by decide) tm_1267 0 rfl rfl rd_Md_remembers_63 ?_
    refine jk_imul C rd_Md_remembers_66 ?_
    obtain ⟨q67, hq67, hf⟩ := jk_bind_h hf
    refine jk_callSv C hZ.1 hz (ct_Md_copies l D Z sq hZ cI cR (n_a := 259) (n_b := 2072) (Nat.le_of_ble_eq_true rfl) (Nat.le_of_ble_eq_true rfl) a_t_w a_t_past i_t_w t_past 0 (259 * t_pastMany) q67 hq67) tm_1359 tm_1360 tm_15 tm_1361 na_Md_copies ⟨Nat.le_of_ble_eq_true rfl, Nat.le_of_ble_eq_true rfl⟩ rfl [1, 2] rfl rfl rfl (ws' := wd_Md_remembers cI a_t a_t_w a_t_wKept a_t_saved a_t_past a_t_input a_t_n a_t_order a_t_numbers a_t_output t_pastMany i_t_isSaved i_t_thrown i_t_inputMany i_t_lastError i_t_lastOffset i_t_error i_t_offset i_t_nextByte i_t_begin i_t_value i_t_token i_t_got i_t_orders i_t_outputMany i_t_w q67) rfl (st := []) rfl (Nat.le_of_ble_eq_true rfl) rd_Md_remembers_67 ?_ ⟨Nat.le_of_ble_eq_true rfl, Nat.le_of_ble_eq_true rfl⟩
    refine jk_aload_n C rd_Md_remembers_70 (k := 0) rfl ?_
    refine jk_dup C rd_Md_remembers_71 rfl ?_
    refine jk_get C in_Md (ci := 11) rfl 4 (by decide) tm_1267 0 rfl rfl rd_Md_remembers_72 ?_
    refine jk_iconst C rd_Md_remembers_75 ?_
    refine jk_iadd C rd_Md_remembers_76 ?_
    refine jk_putf C in_Md ty_Md nm_Md (ci := 11) rfl 4 (by decide) tm_1267 rfl rfl rfl 0 rfl (Nat.le_of_ble_eq_true rfl) rd_Md_remembers_77 (ws' := wd_Md_remembers cI a_t a_t_w a_t_wKept a_t_saved a_t_past a_t_input a_t_n a_t_order a_t_numbers a_t_output (t_pastMany + 1) i_t_isSaved i_t_thrown i_t_inputMany i_t_lastError i_t_lastOffset i_t_error i_t_offset i_t_nextByte i_t_begin i_t_value i_t_token i_t_got i_t_orders i_t_outputMany i_t_w q67) rfl ?_
    cases hf
    exact jk_vret C rfl rd_Md_remembers_80 rfl
  have bk_11 : ∀ (n : Nat) (t_past : (Int → Int)) (t_pastMany : Int) (v1 : Int), fn_Md_remembers_b11 n i_t_w t_past t_pastMany v1 = some q → jk_J p l e (jk_rm 1 24) s m args below meth c 0 0 (jk_QV below D jk_cl (jk_ty cI cR) (wd_Md_remembers cI a_t a_t_w a_t_wKept a_t_saved a_t_past a_t_input a_t_n a_t_order a_t_numbers a_t_output i_t_pastMany i_t_isSaved i_t_thrown i_t_inputMany i_t_lastError i_t_lastOffset i_t_error i_t_offset i_t_nextByte i_t_begin i_t_value i_t_token i_t_got i_t_orders i_t_outputMany i_t_w i_t_past) (wd_Md_remembers cI a_t a_t_w a_t_wKept a_t_saved a_t_past a_t_input a_t_n a_t_order a_t_numbers a_t_output q.2 i_t_isSaved i_t_thrown i_t_inputMany i_t_lastError i_t_lastOffset i_t_error i_t_offset i_t_nextByte i_t_begin i_t_value i_t_token i_t_got i_t_orders i_t_outputMany i_t_w q.1) args s) D jk_cl (va_A (wd_Md_remembers cI a_t a_t_w a_t_wKept a_t_saved a_t_past a_t_input a_t_n a_t_order a_t_numbers a_t_output i_t_pastMany i_t_isSaved i_t_thrown i_t_inputMany i_t_lastError i_t_lastOffset i_t_error i_t_offset i_t_nextByte i_t_begin i_t_value i_t_token i_t_got i_t_orders i_t_outputMany i_t_w i_t_past) s.heap.size) 2 (wd_Md_remembers cI a_t a_t_w a_t_wKept a_t_saved a_t_past a_t_input a_t_n a_t_order a_t_numbers a_t_output t_pastMany i_t_isSaved i_t_thrown i_t_inputMany i_t_lastError i_t_lastOffset i_t_error i_t_offset i_t_nextByte i_t_begin i_t_value i_t_token i_t_got i_t_orders i_t_outputMany i_t_w t_past) [(0, .ref a_t), (1, jk_V v1)] 11 [] := by
    intro n
    induction n with
    | zero => intro t_past t_pastMany v1 hf; exact nomatch (show none = some q from hf)
    | succ n ih =>
      intro t_past t_pastMany v1 hf
      rw [fn_Md_remembers_b11] at hf
      refine jk_iload_n C rd_Md_remembers_11 (k := 1) rfl ?_
      refine jk_sipush C rd_Md_remembers_12 (by decide +kernel) ?_
      refine jk_icmp_ge (tgt := 40) C rd_Md_remembers_15 (by decide) hf (fun _ hf => ?_) (fun _ hf => ?_)
      · refine jk_aload_n C rd_Md_remembers_40 (k := 0) rfl ?_
        refine jk_dup C rd_Md_remembers_41 rfl ?_
        refine jk_get C in_Md (ci := 11) rfl 4 (by decide) tm_1267 0 rfl rfl rd_Md_remembers_42 ?_
        refine jk_iconst C rd_Md_remembers_45 ?_
        refine jk_isub C rd_Md_remembers_46 ?_
        refine jk_putf C in_Md ty_Md nm_Md (ci := 11) rfl 4 (by decide) tm_1267 rfl rfl rfl 0 rfl (Nat.le_of_ble_eq_true rfl) rd_Md_remembers_47 (ws' := wd_Md_remembers cI a_t a_t_w a_t_wKept a_t_saved a_t_past a_t_input a_t_n a_t_order a_t_numbers a_t_output (t_pastMany - 1) i_t_isSaved i_t_thrown i_t_inputMany i_t_lastError i_t_lastOffset i_t_error i_t_offset i_t_nextByte i_t_begin i_t_value i_t_token i_t_got i_t_orders i_t_outputMany i_t_w t_past) rfl ?_
        refine jk_lv (lv' := [(0, .ref a_t)]) [0] rfl ?_
        exact bk_50 t_past (t_pastMany - 1) hf
      · refine jk_aload_n C rd_Md_remembers_18 (k := 0) rfl ?_
        refine jk_get C in_Md (ci := 11) rfl 3 (by decide) tm_1266 0 rfl rfl rd_Md_remembers_19 ?_
        refine jk_iload_n C rd_Md_remembers_22 (k := 1) rfl ?_
        refine jk_aload_n C rd_Md_remembers_23 (k := 0) rfl ?_
        refine jk_get C in_Md (ci := 11) rfl 3 (by decide) tm_1266 0 rfl rfl rd_Md_remembers_24 ?_
        refine jk_iload_n C rd_Md_remembers_27 (k := 1) rfl ?_
        refine jk_sipush C rd_Md_remembers_28 (by decide +kernel) ?_
        refine jk_iadd C rd_Md_remembers_31 ?_
        refine jk_iald C 2 0 rfl rfl (Nat.le_of_ble_eq_true rfl) rd_Md_remembers_32 hf (fun hf => ?_)
        refine jk_iast C 2 0 rfl rfl (Nat.le_of_ble_eq_true rfl) rd_Md_remembers_33 hf (ws' := wd_Md_remembers cI a_t a_t_w a_t_wKept a_t_saved a_t_past a_t_input a_t_n a_t_order a_t_numbers a_t_output t_pastMany i_t_isSaved i_t_thrown i_t_inputMany i_t_lastError i_t_lastOffset i_t_error i_t_offset i_t_nextByte i_t_begin i_t_value i_t_token i_t_got i_t_orders i_t_outputMany i_t_w (jk_up t_past v1 (t_past (v1 + 259)))) rfl (fun hf => ?_)
        refine jk_iinc C rd_Md_remembers_34 (k := 1) rfl (by decide) (lv' := [(1, jk_V (v1 + 1)), (0, .ref a_t)]) rfl ?_
        refine jk_goto (tgt := 11) C rd_Md_remembers_37 (by decide) ?_
        refine jk_lv (lv' := [(0, .ref a_t), (1, jk_V (v1 + 1))]) [1, 0] rfl ?_
        exact ih (jk_up t_past v1 (t_past (v1 + 259))) t_pastMany (v1 + 1) hf
  refine jk_aload_n C rd_Md_remembers_0 (k := 0) rfl ?_
  refine jk_get C in_Md (ci := 11) rfl 4 (by decide) tm_1267 0 rfl rfl rd_Md_remembers_1 ?_
  refine jk_bipush C rd_Md_remembers_4 (by decide +kernel) ?_
  refine jk_icmp_ne (tgt := 50) C rd_Md_remembers_6 (by decide) hf (fun _ hf => ?_) (fun _ hf => ?_)
  · refine jk_lv (lv' := [(0, .ref a_t)]) [0] rfl ?_
    exact bk_50 i_t_past i_t_pastMany hf
  · refine jk_iconst C rd_Md_remembers_9 ?_
    refine jk_istore_n C rd_Md_remembers_10 (by decide) (lv' := [(1, jk_V 0), (0, .ref a_t)]) rfl ?_
    refine jk_lv (lv' := [(0, .ref a_t), (1, jk_V 0)]) [1, 0] rfl ?_
    exact bk_11 jk_F i_t_past i_t_pastMany 0 hf
def wd_Md_appendWord (cI : ClassId) (a_t a_t_w a_t_wKept a_t_saved a_t_past a_t_input a_t_n a_t_order a_t_numbers a_t_output : Nat) (i_t_pastMany : Int) (i_t_isSaved : Int) (i_t_thrown : Int) (i_t_inputMany : Int) (i_t_lastError : Int) (i_t_lastOffset : Int) (i_t_error : Int) (i_t_offset : Int) (i_t_nextByte : Int) (i_t_begin : Int) (i_t_value : Int) (i_t_token : Int) (i_t_got : Int) (i_t_orders : Int) (i_t_outputMany : Int) (i_t_input : (Int → Int)) : va_W := [(a_t, .inr (11, [.ref a_t_w, .ref a_t_wKept, .ref a_t_saved, .ref a_t_past, jk_V i_t_pastMany, jk_V i_t_isSaved, jk_V i_t_thrown, .ref a_t_input, jk_V i_t_inputMany, jk_V i_t_lastError, jk_V i_t_lastOffset, jk_V i_t_error, jk_V i_t_offset, jk_V i_t_nextByte, jk_V i_t_begin, jk_V i_t_value, jk_V i_t_token, jk_V i_t_got, .ref a_t_n, .ref a_t_order, .ref a_t_numbers, jk_V i_t_orders, .ref a_t_output, jk_V i_t_outputMany])), (a_t_input, jk_W cI 700 i_t_input)]
set_option maxHeartbeats 4000000 in
set_option maxRecDepth 20000 in
theorem ct_Md_appendWord (l : Launch) (D : va_G) (Z : (Nat → Prop) → State → Heap → Prop) (sq : Nat → Nat) (hZ : jk_ZK Z sq) (cI cR : ClassId) (a_t a_t_w a_t_wKept a_t_saved a_t_past a_t_input a_t_n a_t_order a_t_numbers a_t_output : Nat) (i_t_pastMany : Int) (i_t_isSaved : Int) (i_t_thrown : Int) (i_t_inputMany : Int) (i_t_lastError : Int) (i_t_lastOffset : Int) (i_t_error : Int) (i_t_offset : Int) (i_t_nextByte : Int) (i_t_begin : Int) (i_t_value : Int) (i_t_token : Int) (i_t_got : Int) (i_t_orders : Int) (i_t_outputMany : Int) (i_t_input : (Int → Int)) (x1 : Int) (q : (Int → Int) × Int) (hf : fn_Md_appendWord i_t_input i_t_inputMany x1 = some q) : jk_MV l D jk_cl (jk_ty cI cR) Z mn_Md_appendWord (.code mn_Md_appendWord mb_Md_appendWord 3 none :: jk_WA) (jk_rm 0 0) [.ref a_t, jk_V x1] (wd_Md_appendWord cI a_t a_t_w a_t_wKept a_t_saved a_t_past a_t_input a_t_n a_t_order a_t_numbers a_t_output i_t_pastMany i_t_isSaved i_t_thrown i_t_inputMany i_t_lastError i_t_lastOffset i_t_error i_t_offset i_t_nextByte i_t_begin i_t_value i_t_token i_t_got i_t_orders i_t_outputMany i_t_input) (wd_Md_appendWord cI a_t a_t_w a_t_wKept a_t_saved a_t_past a_t_input a_t_n a_t_order a_t_numbers a_t_output i_t_pastMany i_t_isSaved i_t_thrown q.2 i_t_lastError i_t_lastOffset i_t_error i_t_offset i_t_nextByte i_t_begin i_t_value i_t_token i_t_got i_t_orders i_t_outputMany q.1) := by
  intro sz
  refine jk_body (by decide +kernel) (fun p e s m args below meth c hsz hz hin C => ?_) (Nat.le_of_ble_eq_true rfl)
  subst hsz
  unfold fn_Md_appendWord at hf
  have bk_3 : ∀ (n : Nat) (t_input : (Int → Int)) (t_inputMany : Int) (v1 : Int) (v2 : Int), fn_Md_appendWord_b3 n t_input t_inputMany v1 v2 = some q → jk_J p l e (jk_rm 0 0) s m args below meth c 0 0 (jk_QV below D jk_cl (jk_ty cI cR) (wd_Md_appendWord cI a_t a_t_w a_t_wKept a_t_saved a_t_past a_t_input a_t_n a_t_order a_t_numbers a_t_output i_t_pastMany i_t_isSaved i_t_thrown i_t_inputMany i_t_lastError i_t_lastOffset i_t_error i_t_offset i_t_nextByte i_t_begin i_t_value i_t_token i_t_got i_t_orders i_t_outputMany i_t_input) (wd_Md_appendWord cI a_t a_t_w a_t_wKept a_t_saved a_t_past a_t_input a_t_n a_t_order a_t_numbers a_t_output i_t_pastMany i_t_isSaved i_t_thrown q.2 i_t_lastError i_t_lastOffset i_t_error i_t_offset i_t_nextByte i_t_begin i_t_value i_t_token i_t_got i_t_orders i_t_outputMany q.1) args s) D jk_cl (va_A (wd_Md_appendWord cI a_t a_t_w a_t_wKept a_t_saved a_t_past a_t_input a_t_n a_t_order a_t_numbers a_t_output i_t_pastMany i_t_isSaved i_t_thrown i_t_inputMany i_t_lastError i_t_lastOffset i_t_error i_t_offset i_t_nextByte i_t_begin i_t_value i_t_token i_t_got i_t_orders i_t_outputMany i_t_input) s.heap.size) 3 (wd_Md_appendWord cI a_t a_t_w a_t_wKept a_t_saved a_t_past a_t_input a_t_n a_t_order a_t_numbers a_t_output i_t_pastMany i_t_isSaved i_t_thrown t_inputMany i_t_lastError i_t_lastOffset i_t_error i_t_offset i_t_nextByte i_t_begin i_t_value i_t_token i_t_got i_t_orders i_t_outputMany t_input) [(0, .ref a_t), (1, jk_V v1), (2, jk_V v2)] 3 [] := by
    intro n
    induction n with
    | zero => intro t_input t_inputMany v1 v2 hf; exact nomatch (show none = some q from hf)
    | succ n ih =>
      intro t_input t_inputMany v1 v2 hf
      rw [fn_Md_appendWord_b3] at hf
      refine jk_iload_n C rd_Md_appendWord_3 (k := 2) rfl ?_
      refine jk_if_lt (tgt := 39) C rd_Md_appendWord_4 (by decide) hf (fun _ hf => ?_) (fun _ hf => ?_)
      · cases hf
        exact jk_vret C rfl rd_Md_appendWord_39 rfl
      · refine jk_aload_n C rd_Md_appendWord_7 (k := 0) rfl ?_
        refine jk_get C in_Md (ci := 11) rfl 7 (by decide) tm_1270 0 rfl rfl rd_Md_appendWord_8 ?_
        refine jk_aload_n C rd_Md_appendWord_11 (k := 0) rfl ?_
        refine jk_get C in_Md (ci := 11) rfl 8 (by decide) tm_1271 0 rfl rfl rd_Md_appendWord_12 ?_
        refine jk_iload_n C rd_Md_appendWord_15 (k := 1) rfl ?_
        refine jk_iload_n C rd_Md_appendWord_16 (k := 2) rfl ?_
        refine jk_ishr C rd_Md_appendWord_17 ?_
        refine jk_sipush C rd_Md_appendWord_18 (by decide +kernel) ?_
        refine jk_iand C rd_Md_appendWord_21 ?_
        refine jk_iast C 1 0 rfl rfl (Nat.le_of_ble_eq_true rfl) rd_Md_appendWord_22 hf (ws' := wd_Md_appendWord cI a_t a_t_w a_t_wKept a_t_saved a_t_past a_t_input a_t_n a_t_order a_t_numbers a_t_output i_t_pastMany i_t_isSaved i_t_thrown t_inputMany i_t_lastError i_t_lastOffset i_t_error i_t_offset i_t_nextByte i_t_begin i_t_value i_t_token i_t_got i_t_orders i_t_outputMany (jk_up t_input t_inputMany (jk_and (jk_shr v1 v2) 255))) rfl (fun hf => ?_)
        refine jk_aload_n C rd_Md_appendWord_23 (k := 0) rfl ?_
        refine jk_dup C rd_Md_appendWord_24 rfl ?_
        refine jk_get C in_Md (ci := 11) rfl 8 (by decide) tm_1271 0 rfl rfl rd_Md_appendWord_25 ?_
        refine jk_iconst C rd_Md_appendWord_28 ?_
        refine jk_iadd C rd_Md_appendWord_29 ?_
        refine jk_putf C in_Md ty_Md nm_Md (ci := 11) rfl 8 (by decide) tm_1271 rfl rfl rfl 0 rfl (Nat.le_of_ble_eq_true rfl) rd_Md_appendWord_30 (ws' := wd_Md_appendWord cI a_t a_t_w a_t_wKept a_t_saved a_t_past a_t_input a_t_n a_t_order a_t_numbers a_t_output i_t_pastMany i_t_isSaved i_t_thrown (t_inputMany + 1) i_t_lastError i_t_lastOffset i_t_error i_t_offset i_t_nextByte i_t_begin i_t_value i_t_token i_t_got i_t_orders i_t_outputMany (jk_up t_input t_inputMany (jk_and (jk_shr v1 v2) 255))) rfl ?_
        refine jk_iinc C rd_Md_appendWord_33 (k := 2) rfl (by decide) (lv' := [(2, jk_V (v2 + (-8))), (0, .ref a_t), (1, jk_V v1)]) rfl ?_
        refine jk_goto (tgt := 3) C rd_Md_appendWord_36 (by decide) ?_
        refine jk_lv (lv' := [(0, .ref a_t), (1, jk_V v1), (2, jk_V (v2 + (-8)))]) [1, 2, 0] rfl ?_
        exact ih (jk_up t_input t_inputMany (jk_and (jk_shr v1 v2) 255)) (t_inputMany + 1) v1 (v2 + (-8)) hf
  refine jk_bipush C rd_Md_appendWord_0 (by decide +kernel) ?_
  refine jk_istore_n C rd_Md_appendWord_2 (by decide) (lv' := [(2, jk_V 24), (0, .ref a_t), (1, jk_V x1)]) rfl ?_
  refine jk_lv (lv' := [(0, .ref a_t), (1, jk_V x1), (2, jk_V 24)]) [1, 2, 0] rfl ?_
  exact bk_3 jk_F i_t_input i_t_inputMany x1 24 hf
def wd_Md_appendInput (cI : ClassId) (a_t a_t_w a_t_wKept a_t_saved a_t_past a_t_input a_t_n a_t_order a_t_numbers a_t_output : Nat) (i_t_pastMany : Int) (i_t_isSaved : Int) (i_t_thrown : Int) (i_t_inputMany : Int) (i_t_lastError : Int) (i_t_lastOffset : Int) (i_t_error : Int) (i_t_offset : Int) (i_t_nextByte : Int) (i_t_begin : Int) (i_t_value : Int) (i_t_token : Int) (i_t_got : Int) (i_t_orders : Int) (i_t_outputMany : Int) (i_t_input : (Int → Int)) : va_W := [(a_t, .inr (11, [.ref a_t_w, .ref a_t_wKept, .ref a_t_saved, .ref a_t_past, jk_V i_t_pastMany, jk_V i_t_isSaved, jk_V i_t_thrown, .ref a_t_input, jk_V i_t_inputMany, jk_V i_t_lastError, jk_V i_t_lastOffset, jk_V i_t_error, jk_V i_t_offset, jk_V i_t_nextByte, jk_V i_t_begin, jk_V i_t_value, jk_V i_t_token, jk_V i_t_got, .ref a_t_n, .ref a_t_order, .ref a_t_numbers, jk_V i_t_orders, .ref a_t_output, jk_V i_t_outputMany])), (a_t_input, jk_W cI 700 i_t_input)]
set_option maxHeartbeats 4000000 in
set_option maxRecDepth 20000 in
theorem ct_Md_appendInput (l : Launch) (D : va_G) (Z : (Nat → Prop) → State → Heap → Prop) (sq : Nat → Nat) (hZ : jk_ZK Z sq) (cI cR : ClassId) (a_t a_t_w a_t_wKept a_t_saved a_t_past a_t_input a_t_n a_t_order a_t_numbers a_t_output : Nat) (i_t_pastMany : Int) (i_t_isSaved : Int) (i_t_thrown : Int) (i_t_inputMany : Int) (i_t_lastError : Int) (i_t_lastOffset : Int) (i_t_error : Int) (i_t_offset : Int) (i_t_nextByte : Int) (i_t_begin : Int) (i_t_value : Int) (i_t_token : Int) (i_t_got : Int) (i_t_orders : Int) (i_t_outputMany : Int) (i_t_input : (Int → Int)) (x1 : Int) (x2 : Int) (x3 : Int) (x4 : Int) (x5 : Int) (q : Int × Int × (Int → Int) × Int) (hf : fn_Md_appendInput i_t_thrown i_t_input i_t_inputMany x1 x2 x3 x4 x5 = some q) : jk_MI l D jk_cl (jk_ty cI cR) Z mn_Md_appendInput (.code mn_Md_appendInput mb_Md_appendInput 6 (some .int) :: jk_WA) (jk_rm 1 22) [.ref a_t, jk_V x1, jk_V x2, jk_V x3, jk_V x4, jk_V x5] (wd_Md_appendInput cI a_t a_t_w a_t_wKept a_t_saved a_t_past a_t_input a_t_n a_t_order a_t_numbers a_t_output i_t_pastMany i_t_isSaved i_t_thrown i_t_inputMany i_t_lastError i_t_lastOffset i_t_error i_t_offset i_t_nextByte i_t_begin i_t_value i_t_token i_t_got i_t_orders i_t_outputMany i_t_input) (wd_Md_appendInput cI a_t a_t_w a_t_wKept a_t_saved a_t_past a_t_input a_t_n a_t_order a_t_numbers a_t_output i_t_pastMany i_t_isSaved q.2.1 q.2.2.2 i_t_lastError i_t_lastOffset i_t_error i_t_offset i_t_nextByte i_t_begin i_t_value i_t_token i_t_got i_t_orders i_t_outputMany q.2.2.1) q.1 := by
  intro sz
  refine jk_body (by decide +kernel) (fun p e s m args below meth c hsz hz hin C => ?_) (Nat.le_of_ble_eq_true rfl)
  subst hsz
  unfold fn_Md_appendInput at hf
  refine jk_aload_n C rd_Md_appendInput_0 (k := 0) rfl ?_
  refine jk_iconst C rd_Md_appendInput_1 ?_
  refine jk_putf C in_Md ty_Md nm_Md (ci := 11) rfl 6 (by decide) tm_1269 rfl rfl rfl 0 rfl (Nat.le_of_ble_eq_true rfl) rd_Md_appendInput_2 (ws' := wd_Md_appendInput cI a_t a_t_w a_t_wKept a_t_saved a_t_past a_t_input a_t_n a_t_order a_t_numbers a_t_output i_t_pastMany i_t_isSaved 0 i_t_inputMany i_t_lastError i_t_lastOffset i_t_error i_t_offset i_t_nextByte i_t_begin i_t_value i_t_token i_t_got i_t_orders i_t_outputMany i_t_input) rfl ?_
  refine jk_aload_n C rd_Md_appendInput_5 (k := 0) rfl ?_
  refine jk_get C in_Md (ci := 11) rfl 8 (by decide) tm_1271 0 rfl rfl rd_Md_appendInput_6 ?_
  refine jk_bipush C rd_Md_appendInput_9 (by decide +kernel) ?_
  refine jk_iadd C rd_Md_appendInput_11 ?_
  refine jk_sipush C rd_Md_appendInput_12 (by decide +kernel) ?_
  refine jk_icmp_le (tgt := 20) C rd_Md_appendInput_15 (by decide) hf (fun _ hf => ?_) (fun _ hf => ?_)
  · refine jk_aload_n C rd_Md_appendInput_20 (k := 0) rfl ?_
    refine jk_iload_n C rd_Md_appendInput_21 (k := 1) rfl ?_
    obtain ⟨q22, hq22, hf⟩ := jk_bind_h hf
    refine jk_callVv C hZ.1 hz (ct_Md_appendWord l D Z sq hZ cI cR a_t a_t_w a_t_wKept a_t_saved a_t_past a_t_input a_t_n a_t_order a_t_numbers a_t_output i_t_pastMany i_t_isSaved 0 i_t_inputMany i_t_lastError i_t_lastOffset i_t_error i_t_offset i_t_nextByte i_t_begin i_t_value i_t_token i_t_got i_t_orders i_t_outputMany i_t_input x1 q22 hq22) tm_1344 tm_1346 sl_27 tm_15 tm_1347 na_Md_appendWord ⟨Nat.le_of_ble_eq_true rfl, Nat.le_of_ble_eq_true rfl⟩ rfl [0, 1] rfl rfl rfl (ws' := wd_Md_appendInput cI a_t a_t_w a_t_wKept a_t_saved a_t_past a_t_input a_t_n a_t_order a_t_numbers a_t_output i_t_pastMany i_t_isSaved 0 q22.2 i_t_lastError i_t_lastOffset i_t_error i_t_offset i_t_nextByte i_t_begin i_t_value i_t_token i_t_got i_t_orders i_t_outputMany q22.1) rfl 0 11 rfl rfl rfl (st := []) rfl (Nat.le_of_ble_eq_true rfl) rd_Md_appendInput_22 ?_ ⟨Nat.le_of_ble_eq_true rfl, Nat.le_of_ble_eq_true rfl⟩
    refine jk_aload_n C rd_Md_appendInput_25 (k := 0) rfl ?_
    refine jk_iload_n C rd_Md_appendInput_26 (k := 2) rfl ?_
    obtain ⟨q27, hq27, hf⟩ := jk_bind_h hf
    refine jk_callVv C hZ.1 hz (ct_Md_appendWord l D Z sq hZ cI cR a_t a_t_w a_t_wKept a_t_saved a_t_past a_t_input a_t_n a_t_order a_t_numbers a_t_output i_t_pastMany i_t_isSaved 0 q22.2 i_t_lastError i_t_lastOffset i_t_error i_t_offset i_t_nextByte i_t_begin i_t_value i_t_token i_t_got i_t_orders i_t_outputMany q22.1 x2 q27 hq27) tm_1344 tm_1346 sl_27 tm_15 tm_1347 na_Md_appendWord ⟨Nat.le_of_ble_eq_true rfl, Nat.le_of_ble_eq_true rfl⟩ rfl [0, 1] rfl rfl rfl (ws' := wd_Md_appendInput cI a_t a_t_w a_t_wKept a_t_saved a_t_past a_t_input a_t_n a_t_order a_t_numbers a_t_output i_t_pastMany i_t_isSaved 0 q27.2 i_t_lastError i_t_lastOffset i_t_error i_t_offset i_t_nextByte i_t_begin i_t_value i_t_token i_t_got i_t_orders i_t_outputMany q27.1) rfl 0 11 rfl rfl rfl (st := []) rfl (Nat.le_of_ble_eq_true rfl) rd_Md_appendInput_27 ?_ ⟨Nat.le_of_ble_eq_true rfl, Nat.le_of_ble_eq_true rfl⟩
    refine jk_aload_n C rd_Md_appendInput_30 (k := 0) rfl ?_
    refine jk_iload_n C rd_Md_appendInput_31 (k := 3) rfl ?_
    obtain ⟨q32, hq32, hf⟩ := jk_bind_h hf
    refine jk_callVv C hZ.1 hz (ct_Md_appendWord l D Z sq hZ cI cR a_t a_t_w a_t_wKept a_t_saved a_t_past a_t_input a_t_n a_t_order a_t_numbers a_t_output i_t_pastMany i_t_isSaved 0 q27.2 i_t_lastError i_t_lastOffset i_t_error i_t_offset i_t_nextByte i_t_begin i_t_value i_t_token i_t_got i_t_orders i_t_outputMany q27.1 x3 q32 hq32) tm_1344 tm_1346 sl_27 tm_15 tm_1347 na_Md_appendWord ⟨Nat.le_of_ble_eq_true rfl, Nat.le_of_ble_eq_true rfl⟩ rfl [0, 1] rfl rfl rfl (ws' := wd_Md_appendInput cI a_t a_t_w a_t_wKept a_t_saved a_t_past a_t_input a_t_n a_t_order a_t_numbers a_t_output i_t_pastMany i_t_isSaved 0 q32.2 i_t_lastError i_t_lastOffset i_t_error i_t_offset i_t_nextByte i_t_begin i_t_value i_t_token i_t_got i_t_orders i_t_outputMany q32.1) rfl 0 11 rfl rfl rfl (st := []) rfl (Nat.le_of_ble_eq_true rfl) rd_Md_appendInput_32 ?_ ⟨Nat.le_of_ble_eq_true rfl, Nat.le_of_ble_eq_true rfl⟩
    refine jk_aload_n C rd_Md_appendInput_35 (k := 0) rfl ?_
    refine jk_iload C rd_Md_appendInput_36 (k := 4) rfl ?_
    obtain ⟨q38, hq38, hf⟩ := jk_bind_h hf
    refine jk_callVv C hZ.1 hz (ct_Md_appendWord l D Z sq hZ cI cR a_t a_t_w a_t_wKept a_t_saved a_t_past a_t_input a_t_n a_t_order a_t_numbers a_t_output i_t_pastMany i_t_isSaved 0 q32.2 i_t_lastError i_t_lastOffset i_t_error i_t_offset i_t_nextByte i_t_begin i_t_value i_t_token i_t_got i_t_orders i_t_outputMany q32.1 x4 q38 hq38) tm_1344 tm_1346 sl_27 tm_15 tm_1347 na_Md_appendWord ⟨Nat.le_of_ble_eq_true rfl, Nat.le_of_ble_eq_true rfl⟩ rfl [0, 1] rfl rfl rfl (ws' := wd_Md_appendInput cI a_t a_t_w a_t_wKept a_t_saved a_t_past a_t_input a_t_n a_t_order a_t_numbers a_t_output i_t_pastMany i_t_isSaved 0 q38.2 i_t_lastError i_t_lastOffset i_t_error i_t_offset i_t_nextByte i_t_begin i_t_value i_t_token i_t_got i_t_orders i_t_outputMany q38.1) rfl 0 11 rfl rfl rfl (st := []) rfl (Nat.le_of_ble_eq_true rfl) rd_Md_appendInput_38 ?_ ⟨Nat.le_of_ble_eq_true rfl, Nat.le_of_ble_eq_true rfl⟩
    refine jk_aload_n C rd_Md_appendInput_41 (k := 0) rfl ?_
    refine jk_iload C rd_Md_appendInput_42 (k := 5) rfl ?_
    obtain ⟨q44, hq44, hf⟩ := jk_bind_h hf
    refine jk_callVv C hZ.1 hz (ct_Md_appendWord l D Z sq hZ cI cR a_t a_t_w a_t_wKept a_t_saved a_t_past a_t_input a_t_n a_t_order a_t_numbers a_t_output i_t_pastMany i_t_isSaved 0 q38.2 i_t_lastError i_t_lastOffset i_t_error i_t_offset i_t_nextByte i_t_begin i_t_value i_t_token i_t_got i_t_orders i_t_outputMany q38.1 x5 q44 hq44) tm_1344 tm_1346 sl_27 tm_15 tm_1347 na_Md_appendWord ⟨Nat.le_of_ble_eq_true rfl, Nat.le_of_ble_eq_true rfl⟩ rfl [0, 1] rfl rfl rfl (ws' := wd_Md_appendInput cI a_t a_t_w a_t_wKept a_t_saved a_t_past a_t_input a_t_n a_t_order a_t_numbers a_t_output i_t_pastMany i_t_isSaved 0 q44.2 i_t_lastError i_t_lastOffset i_t_error i_t_offset i_t_nextByte i_t_begin i_t_value i_t_token i_t_got i_t_orders i_t_outputMany q44.1) rfl 0 11 rfl rfl rfl (st := []) rfl (Nat.le_of_ble_eq_true rfl) rd_Md_appendInput_44 ?_ ⟨Nat.le_of_ble_eq_true rfl, Nat.le_of_ble_eq_true rfl⟩
    refine jk_aload_n C rd_Md_appendInput_47 (k := 0) rfl ?_
    refine jk_get C in_Md (ci := 11) rfl 8 (by decide) tm_1271 0 rfl rfl rd_Md_appendInput_48 ?_
    cases hf
    exact jk_iret C rfl rd_Md_appendInput_51 rfl
  · refine jk_iconst C rd_Md_appendInput_18 ?_
    cases hf
    exact jk_iret C rfl rd_Md_appendInput_19 rfl
def wd_Md_truncateInput (cI : ClassId) (a_t a_t_w a_t_wKept a_t_saved a_t_past a_t_input a_t_n a_t_order a_t_numbers a_t_output : Nat) (i_t_pastMany : Int) (i_t_isSaved : Int) (i_t_thrown : Int) (i_t_inputMany : Int) (i_t_lastError : Int) (i_t_lastOffset : Int) (i_t_error : Int) (i_t_offset : Int) (i_t_nextByte : Int) (i_t_begin : Int) (i_t_value : Int) (i_t_token : Int) (i_t_got : Int) (i_t_orders : Int) (i_t_outputMany : Int) : va_W := [(a_t, .inr (11, [.ref a_t_w, .ref a_t_wKept, .ref a_t_saved, .ref a_t_past, jk_V i_t_pastMany, jk_V i_t_isSaved, jk_V i_t_thrown, .ref a_t_input, jk_V i_t_inputMany, jk_V i_t_lastError, jk_V i_t_lastOffset, jk_V i_t_error, jk_V i_t_offset, jk_V i_t_nextByte, jk_V i_t_begin, jk_V i_t_value, jk_V i_t_token, jk_V i_t_got, .ref a_t_n, .ref a_t_order, .ref a_t_numbers, jk_V i_t_orders, .ref a_t_output, jk_V i_t_outputMany]))]
set_option maxHeartbeats 4000000 in
set_option maxRecDepth 20000 in
theorem ct_Md_truncateInput (l : Launch) (D : va_G) (Z : (Nat → Prop) → State → Heap → Prop) (sq : Nat → Nat) (hZ : jk_ZK Z sq) (cI cR : ClassId) (a_t a_t_w a_t_wKept a_t_saved a_t_past a_t_input a_t_n a_t_order a_t_numbers a_t_output : Nat) (i_t_pastMany : Int) (i_t_isSaved : Int) (i_t_thrown : Int) (i_t_inputMany : Int) (i_t_lastError : Int) (i_t_lastOffset : Int) (i_t_error : Int) (i_t_offset : Int) (i_t_nextByte : Int) (i_t_begin : Int) (i_t_value : Int) (i_t_token : Int) (i_t_got : Int) (i_t_orders : Int) (i_t_outputMany : Int) (x1 : Int) (q : Int × Int × Int) (hf : fn_Md_truncateInput i_t_thrown i_t_inputMany x1 = some q) : jk_MI l D jk_cl (jk_ty cI cR) Z mn_Md_truncateInput (.code mn_Md_truncateInput mb_Md_truncateInput 2 (some .boolean) :: jk_WA) (jk_rm 1 22) [.ref a_t, jk_V x1] (wd_Md_truncateInput cI a_t a_t_w a_t_wKept a_t_saved a_t_past a_t_input a_t_n a_t_order a_t_numbers a_t_output i_t_pastMany i_t_isSaved i_t_thrown i_t_inputMany i_t_lastError i_t_lastOffset i_t_error i_t_offset i_t_nextByte i_t_begin i_t_value i_t_token i_t_got i_t_orders i_t_outputMany) (wd_Md_truncateInput cI a_t a_t_w a_t_wKept a_t_saved a_t_past a_t_input a_t_n a_t_order a_t_numbers a_t_output i_t_pastMany i_t_isSaved q.2.1 q.2.2 i_t_lastError i_t_lastOffset i_t_error i_t_offset i_t_nextByte i_t_begin i_t_value i_t_token i_t_got i_t_orders i_t_outputMany) q.1 := by
  intro sz
  refine jk_body (by decide +kernel) (fun p e s m args below meth c hsz hz hin C => ?_) (Nat.le_of_ble_eq_true rfl)
  subst hsz
  unfold fn_Md_truncateInput at hf
  refine jk_aload_n C rd_Md_truncateInput_0 (k := 0) rfl ?_
  refine jk_iconst C rd_Md_truncateInput_1 ?_
  refine jk_putf C in_Md ty_Md nm_Md (ci := 11) rfl 6 (by decide) tm_1269 rfl rfl rfl 0 rfl (Nat.le_of_ble_eq_true rfl) rd_Md_truncateInput_2 (ws' := wd_Md_truncateInput cI a_t a_t_w a_t_wKept a_t_saved a_t_past a_t_input a_t_n a_t_order a_t_numbers a_t_output i_t_pastMany i_t_isSaved 0 i_t_inputMany i_t_lastError i_t_lastOffset i_t_error i_t_offset i_t_nextByte i_t_begin i_t_value i_t_token i_t_got i_t_orders i_t_outputMany) rfl ?_
  refine jk_iload_n C rd_Md_truncateInput_5 (k := 1) rfl ?_
  refine jk_iconst C rd_Md_truncateInput_6 ?_
  refine jk_aload_n C rd_Md_truncateInput_7 (k := 0) rfl ?_
  refine jk_get C in_Md (ci := 11) rfl 8 (by decide) tm_1271 0 rfl rfl rd_Md_truncateInput_8 ?_
  obtain ⟨q11, hq11, hf⟩ := jk_bind_h hf
  refine jk_callSi C hZ.1 hz (ct_Md_inRange l D Z sq hZ cI cR x1 0 i_t_inputMany q11 hq11) tm_1352 tm_1353 tm_15 tm_1354 na_Md_inRange ⟨Nat.le_of_ble_eq_true rfl, Nat.le_of_ble_eq_true rfl⟩ rfl [] rfl rfl rfl (ws' := wd_Md_truncateInput cI a_t a_t_w a_t_wKept a_t_saved a_t_past a_t_input a_t_n a_t_order a_t_numbers a_t_output i_t_pastMany i_t_isSaved 0 i_t_inputMany i_t_lastError i_t_lastOffset i_t_error i_t_offset i_t_nextByte i_t_begin i_t_value i_t_token i_t_got i_t_orders i_t_outputMany) rfl (st := []) rfl (Nat.le_of_ble_eq_true rfl) rd_Md_truncateInput_11 ?_ ⟨Nat.le_of_ble_eq_true rfl, Nat.le_of_ble_eq_true rfl⟩
  refine jk_if_ne (tgt := 19) C rd_Md_truncateInput_14 (by decide) hf (fun _ hf => ?_) (fun _ hf => ?_)
  · refine jk_aload_n C rd_Md_truncateInput_19 (k := 0) rfl ?_
    refine jk_iload_n C rd_Md_truncateInput_20 (k := 1) rfl ?_
    refine jk_putf C in_Md ty_Md nm_Md (ci := 11) rfl 8 (by decide) tm_1271 rfl rfl rfl 0 rfl (Nat.le_of_ble_eq_true rfl) rd_Md_truncateInput_21 (ws' := wd_Md_truncateInput cI a_t a_t_w a_t_wKept a_t_saved a_t_past a_t_input a_t_n a_t_order a_t_numbers a_t_output i_t_pastMany i_t_isSaved 0 x1 i_t_lastError i_t_lastOffset i_t_error i_t_offset i_t_nextByte i_t_begin i_t_value i_t_token i_t_got i_t_orders i_t_outputMany) rfl ?_
    refine jk_iconst C rd_Md_truncateInput_24 ?_
    cases hf
    exact jk_zret C (Or.inr rfl) rfl rd_Md_truncateInput_25 rfl
  · refine jk_iconst C rd_Md_truncateInput_17 ?_
    cases hf
    exact jk_zret C (Or.inl rfl) rfl rd_Md_truncateInput_18 rfl
def wd_Md_byteAt (cI : ClassId) (a_t a_t_w a_t_wKept a_t_saved a_t_past a_t_input a_t_n a_t_order a_t_numbers a_t_output : Nat) (i_t_pastMany : Int) (i_t_isSaved : Int) (i_t_thrown : Int) (i_t_inputMany : Int) (i_t_lastError : Int) (i_t_lastOffset : Int) (i_t_error : Int) (i_t_offset : Int) (i_t_nextByte : Int) (i_t_begin : Int) (i_t_value : Int) (i_t_token : Int) (i_t_got : Int) (i_t_orders : Int) (i_t_outputMany : Int) (i_t_input : (Int → Int)) : va_W := [(a_t, .inr (11, [.ref a_t_w, .ref a_t_wKept, .ref a_t_saved, .ref a_t_past, jk_V i_t_pastMany, jk_V i_t_isSaved, jk_V i_t_thrown, .ref a_t_input, jk_V i_t_inputMany, jk_V i_t_lastError, jk_V i_t_lastOffset, jk_V i_t_error, jk_V i_t_offset, jk_V i_t_nextByte, jk_V i_t_begin, jk_V i_t_value, jk_V i_t_token, jk_V i_t_got, .ref a_t_n, .ref a_t_order, .ref a_t_numbers, jk_V i_t_orders, .ref a_t_output, jk_V i_t_outputMany])), (a_t_input, jk_W cI 700 i_t_input)]
set_option maxHeartbeats 4000000 in
set_option maxRecDepth 20000 in
theorem ct_Md_byteAt (l : Launch) (D : va_G) (Z : (Nat → Prop) → State → Heap → Prop) (sq : Nat → Nat) (hZ : jk_ZK Z sq) (cI cR : ClassId) (a_t a_t_w a_t_wKept a_t_saved a_t_past a_t_input a_t_n a_t_order a_t_numbers a_t_output : Nat) (i_t_pastMany : Int) (i_t_isSaved : Int) (i_t_thrown : Int) (i_t_inputMany : Int) (i_t_lastError : Int) (i_t_lastOffset : Int) (i_t_error : Int) (i_t_offset : Int) (i_t_nextByte : Int) (i_t_begin : Int) (i_t_value : Int) (i_t_token : Int) (i_t_got : Int) (i_t_orders : Int) (i_t_outputMany : Int) (i_t_input : (Int → Int)) (x1 : Int) (q : Int) (hf : fn_Md_byteAt i_t_input i_t_inputMany x1 = some q) : jk_MI l D jk_cl (jk_ty cI cR) Z mn_Md_byteAt (.code mn_Md_byteAt mb_Md_byteAt 2 (some .int) :: jk_WA) (jk_rm 0 0) [.ref a_t, jk_V x1] (wd_Md_byteAt cI a_t a_t_w a_t_wKept a_t_saved a_t_past a_t_input a_t_n a_t_order a_t_numbers a_t_output i_t_pastMany i_t_isSaved i_t_thrown i_t_inputMany i_t_lastError i_t_lastOffset i_t_error i_t_offset i_t_nextByte i_t_begin i_t_value i_t_token i_t_got i_t_orders i_t_outputMany i_t_input) (wd_Md_byteAt cI a_t a_t_w a_t_wKept a_t_saved a_t_past a_t_input a_t_n a_t_order a_t_numbers a_t_output i_t_pastMany i_t_isSaved i_t_thrown i_t_inputMany i_t_lastError i_t_lastOffset i_t_error i_t_offset i_t_nextByte i_t_begin i_t_value i_t_token i_t_got i_t_orders i_t_outputMany i_t_input) q := by
  intro sz
  refine jk_body (by decide +kernel) (fun p e s m args below meth c hsz hz hin C => ?_) (Nat.le_of_ble_eq_true rfl)
  subst hsz
  unfold fn_Md_byteAt at hf
  refine jk_iload_n C rd_Md_byteAt_0 (k := 1) rfl ?_
  refine jk_aload_n C rd_Md_byteAt_1 (k := 0) rfl ?_
  refine jk_get C in_Md (ci := 11) rfl 8 (by decide) tm_1271 0 rfl rfl rd_Md_byteAt_2 ?_
  refine jk_icmp_ge (tgt := 17) C rd_Md_byteAt_5 (by decide) hf (fun _ hf => ?_) (fun _ hf => ?_)
  · refine jk_iconst C rd_Md_byteAt_17 ?_
    cases hf
    exact jk_iret C rfl rd_Md_byteAt_18 rfl
  · refine jk_aload_n C rd_Md_byteAt_8 (k := 0) rfl ?_
    refine jk_get C in_Md (ci := 11) rfl 7 (by decide) tm_1270 0 rfl rfl rd_Md_byteAt_9 ?_
    refine jk_iload_n C rd_Md_byteAt_12 (k := 1) rfl ?_
    refine jk_iald C 1 0 rfl rfl (Nat.le_of_ble_eq_true rfl) rd_Md_byteAt_13 hf (fun hf => ?_)
    refine jk_goto (tgt := 18) C rd_Md_byteAt_14 (by decide) ?_
    cases hf
    exact jk_iret C rfl rd_Md_byteAt_18 rfl
def wd_Md_isLetter (cI : ClassId) (a_t a_t_w a_t_wKept a_t_saved a_t_past a_t_input a_t_n a_t_order a_t_numbers a_t_output : Nat) (i_t_pastMany : Int) (i_t_isSaved : Int) (i_t_thrown : Int) (i_t_inputMany : Int) (i_t_lastError : Int) (i_t_lastOffset : Int) (i_t_error : Int) (i_t_offset : Int) (i_t_nextByte : Int) (i_t_begin : Int) (i_t_value : Int) (i_t_token : Int) (i_t_got : Int) (i_t_orders : Int) (i_t_outputMany : Int) (i_t_input : (Int → Int)) : va_W := [(a_t, .inr (11, [.ref a_t_w, .ref a_t_wKept, .ref a_t_saved, .ref a_t_past, jk_V i_t_pastMany, jk_V i_t_isSaved, jk_V i_t_thrown, .ref a_t_input, jk_V i_t_inputMany, jk_V i_t_lastError, jk_V i_t_lastOffset, jk_V i_t_error, jk_V i_t_offset, jk_V i_t_nextByte, jk_V i_t_begin, jk_V i_t_value, jk_V i_t_token, jk_V i_t_got, .ref a_t_n, .ref a_t_order, .ref a_t_numbers, jk_V i_t_orders, .ref a_t_output, jk_V i_t_outputMany])), (a_t_input, jk_W cI 700 i_t_input)]
set_option maxHeartbeats 4000000 in
set_option maxRecDepth 20000 in
theorem ct_Md_isLetter (l : Launch) (D : va_G) (Z : (Nat → Prop) → State → Heap → Prop) (sq : Nat → Nat) (hZ : jk_ZK Z sq) (cI cR : ClassId) (a_t a_t_w a_t_wKept a_t_saved a_t_past a_t_input a_t_n a_t_order a_t_numbers a_t_output : Nat) (i_t_pastMany : Int) (i_t_isSaved : Int) (i_t_thrown : Int) (i_t_inputMany : Int) (i_t_lastError : Int) (i_t_lastOffset : Int) (i_t_error : Int) (i_t_offset : Int) (i_t_nextByte : Int) (i_t_begin : Int) (i_t_value : Int) (i_t_token : Int) (i_t_got : Int) (i_t_orders : Int) (i_t_outputMany : Int) (i_t_input : (Int → Int)) (x1 : Int) (q : Int) (hf : fn_Md_isLetter i_t_input i_t_inputMany x1 = some q) : jk_MI l D jk_cl (jk_ty cI cR) Z mn_Md_isLetter (.code mn_Md_isLetter mb_Md_isLetter 2 (some .boolean) :: jk_WA) (jk_rm 1 22) [.ref a_t, jk_V x1] (wd_Md_isLetter cI a_t a_t_w a_t_wKept a_t_saved a_t_past a_t_input a_t_n a_t_order a_t_numbers a_t_output i_t_pastMany i_t_isSaved i_t_thrown i_t_inputMany i_t_lastError i_t_lastOffset i_t_error i_t_offset i_t_nextByte i_t_begin i_t_value i_t_token i_t_got i_t_orders i_t_outputMany i_t_input) (wd_Md_isLetter cI a_t a_t_w a_t_wKept a_t_saved a_t_past a_t_input a_t_n a_t_order a_t_numbers a_t_output i_t_pastMany i_t_isSaved i_t_thrown i_t_inputMany i_t_lastError i_t_lastOffset i_t_error i_t_offset i_t_nextByte i_t_begin i_t_value i_t_token i_t_got i_t_orders i_t_outputMany i_t_input) q := by
  intro sz
  refine jk_body (by decide +kernel) (fun p e s m args below meth c hsz hz hin C => ?_) (Nat.le_of_ble_eq_true rfl)
  subst hsz
  unfold fn_Md_isLetter at hf
  refine jk_aload_n C rd_Md_isLetter_0 (k := 0) rfl ?_
  refine jk_iload_n C rd_Md_isLetter_1 (k := 1) rfl ?_
  obtain ⟨q2, hq2, hf⟩ := jk_bind_h hf
  refine jk_callVi C hZ.1 hz (ct_Md_byteAt l D Z sq hZ cI cR a_t a_t_w a_t_wKept a_t_saved a_t_past a_t_input a_t_n a_t_order a_t_numbers a_t_output i_t_pastMany i_t_isSaved i_t_thrown i_t_inputMany i_t_lastError i_t_lastOffset i_t_error i_t_offset i_t_nextByte i_t_begin i_t_value i_t_token i_t_got i_t_orders i_t_outputMany i_t_input x1 q2 hq2) tm_1370 tm_1372 sl_30 tm_15 tm_1373 na_Md_byteAt ⟨Nat.le_of_ble_eq_true rfl, Nat.le_of_ble_eq_true rfl⟩ rfl [0, 1] rfl rfl rfl (ws' := wd_Md_isLetter cI a_t a_t_w a_t_wKept a_t_saved a_t_past a_t_input a_t_n a_t_order a_t_numbers a_t_output i_t_pastMany i_t_isSaved i_t_thrown i_t_inputMany i_t_lastError i_t_lastOffset i_t_error i_t_offset i_t_nextByte i_t_begin i_t_value i_t_token i_t_got i_t_orders i_t_outputMany i_t_input) rfl 0 11 rfl rfl rfl (st := []) rfl (Nat.le_of_ble_eq_true rfl) rd_Md_isLetter_2 ?_ ⟨Nat.le_of_ble_eq_true rfl, Nat.le_of_ble_eq_true rfl⟩
  refine jk_bipush C rd_Md_isLetter_5 (by decide +kernel) ?_
  refine jk_bipush C rd_Md_isLetter_7 (by decide +kernel) ?_
  obtain ⟨q9, hq9, hf⟩ := jk_bind_h hf
  refine jk_callSi C hZ.1 hz (ct_Md_inRange l D Z sq hZ cI cR q2 97 122 q9 hq9) tm_1352 tm_1353 tm_15 tm_1354 na_Md_inRange ⟨Nat.le_of_ble_eq_true rfl, Nat.le_of_ble_eq_true rfl⟩ rfl [] rfl rfl rfl (ws' := wd_Md_isLetter cI a_t a_t_w a_t_wKept a_t_saved a_t_past a_t_input a_t_n a_t_order a_t_numbers a_t_output i_t_pastMany i_t_isSaved i_t_thrown i_t_inputMany i_t_lastError i_t_lastOffset i_t_error i_t_offset i_t_nextByte i_t_begin i_t_value i_t_token i_t_got i_t_orders i_t_outputMany i_t_input) rfl (st := []) rfl (Nat.le_of_ble_eq_true rfl) rd_Md_isLetter_9 ?_ ⟨Nat.le_of_ble_eq_true rfl, Nat.le_of_ble_eq_true rfl⟩
  obtain ⟨hbo, hf⟩ := jk_bo_h hf
  cases hf
  exact jk_zret C hbo rfl rd_Md_isLetter_12 rfl
