theorem rd_Md_thrown_0 : decode mb_Md_thrown 0 = .ok (.aload_n 0, 1) := by decide +kernel
theorem rd_Md_thrown_1 : decode mb_Md_thrown 1 = .ok (.getfield 56, 3) := by decide +kernel
theorem rd_Md_thrown_4 : decode mb_Md_thrown 4 = .ok (.ireturn, 1) := by decide +kernel
theorem rd_Md_inRange_0 : decode mb_Md_inRange 0 = .ok (.iload_n 0, 1) := by decide +kernel
theorem rd_Md_inRange_1 : decode mb_Md_inRange 1 = .ok (.iload_n 1, 1) := by decide +kernel
theorem rd_Md_inRange_2 : decode mb_Md_inRange 2 = .ok (.if_icmp .lt 12, 3) := by decide +kernel
theorem rd_Md_inRange_5 : decode mb_Md_inRange 5 = .ok (.iload_n 0, 1) := by decide +kernel
theorem rd_Md_inRange_6 : decode mb_Md_inRange 6 = .ok (.iload_n 2, 1) := by decide +kernel
theorem rd_Md_inRange_7 : decode mb_Md_inRange 7 = .ok (.if_icmp .gt 7, 3) := by decide +kernel
theorem rd_Md_inRange_10 : decode mb_Md_inRange 10 = .ok (.iconst 1, 1) := by decide +kernel
theorem rd_Md_inRange_11 : decode mb_Md_inRange 11 = .ok (.goto 4, 3) := by decide +kernel
theorem rd_Md_inRange_14 : decode mb_Md_inRange 14 = .ok (.iconst 0, 1) := by decide +kernel
theorem rd_Md_inRange_15 : decode mb_Md_inRange 15 = .ok (.ireturn, 1) := by decide +kernel
theorem rd_Md_one_0 : decode mb_Md_one 0 = .ok (.iload_n 0, 1) := by decide +kernel
theorem rd_Md_one_1 : decode mb_Md_one 1 = .ok (.ifCond .eq 7, 3) := by decide +kernel
theorem rd_Md_one_4 : decode mb_Md_one 4 = .ok (.iconst 1, 1) := by decide +kernel
theorem rd_Md_one_5 : decode mb_Md_one 5 = .ok (.goto 4, 3) := by decide +kernel
theorem rd_Md_one_8 : decode mb_Md_one 8 = .ok (.iconst 0, 1) := by decide +kernel
theorem rd_Md_one_9 : decode mb_Md_one 9 = .ok (.ireturn, 1) := by decide +kernel
theorem rd_Md_fails_0 : decode mb_Md_fails 0 = .ok (.iload_n 1, 1) := by decide +kernel
theorem rd_Md_fails_1 : decode mb_Md_fails 1 = .ok (.ifCond .eq 8, 3) := by decide +kernel
theorem rd_Md_fails_4 : decode mb_Md_fails 4 = .ok (.aload_n 0, 1) := by decide +kernel
theorem rd_Md_fails_5 : decode mb_Md_fails 5 = .ok (.iload_n 2, 1) := by decide +kernel
theorem rd_Md_fails_6 : decode mb_Md_fails 6 = .ok (.putfield 56, 3) := by decide +kernel
theorem rd_Md_fails_9 : decode mb_Md_fails 9 = .ok (.iload_n 1, 1) := by decide +kernel
theorem rd_Md_fails_10 : decode mb_Md_fails 10 = .ok (.ireturn, 1) := by decide +kernel
theorem rd_Md_copies_0 : decode mb_Md_copies 0 = .ok (.iconst 0, 1) := by decide +kernel
theorem rd_Md_copies_1 : decode mb_Md_copies 1 = .ok (.istore 4, 2) := by decide +kernel
theorem rd_Md_copies_3 : decode mb_Md_copies 3 = .ok (.iload 4, 2) := by decide +kernel
theorem rd_Md_copies_5 : decode mb_Md_copies 5 = .ok (.sipush 259, 3) := by decide +kernel
theorem rd_Md_copies_8 : decode mb_Md_copies 8 = .ok (.if_icmp .ge 21, 3) := by decide +kernel
theorem rd_Md_copies_11 : decode mb_Md_copies 11 = .ok (.aload_n 2, 1) := by decide +kernel
theorem rd_Md_copies_12 : decode mb_Md_copies 12 = .ok (.iload_n 3, 1) := by decide +kernel
theorem rd_Md_copies_13 : decode mb_Md_copies 13 = .ok (.iload 4, 2) := by decide +kernel
theorem rd_Md_copies_15 : decode mb_Md_copies 15 = .ok (.iadd, 1) := by decide +kernel
theorem rd_Md_copies_16 : decode mb_Md_copies 16 = .ok (.aload_n 0, 1) := by decide +kernel
theorem rd_Md_copies_17 : decode mb_Md_copies 17 = .ok (.iload_n 1, 1) := by decide +kernel
theorem rd_Md_copies_18 : decode mb_Md_copies 18 = .ok (.iload 4, 2) := by decide +kernel
theorem rd_Md_copies_20 : decode mb_Md_copies 20 = .ok (.iadd, 1) := by decide +kernel
theorem rd_Md_copies_21 : decode mb_Md_copies 21 = .ok (.iaload, 1) := by decide +kernel
theorem rd_Md_copies_22 : decode mb_Md_copies 22 = .ok (.iastore, 1) := by decide +kernel
theorem rd_Md_copies_23 : decode mb_Md_copies 23 = .ok (.iinc 4 1, 3) := by decide +kernel
theorem rd_Md_copies_26 : decode mb_Md_copies 26 = .ok (.goto (-23), 3) := by decide +kernel
theorem rd_Md_copies_29 : decode mb_Md_copies 29 = .ok (.return_, 1) := by decide +kernel
theorem rd_Md_begins_0 : decode mb_Md_begins 0 = .ok (.iconst 0, 1) := by decide +kernel
theorem rd_Md_begins_1 : decode mb_Md_begins 1 = .ok (.istore_n 1, 1) := by decide +kernel
theorem rd_Md_begins_2 : decode mb_Md_begins 2 = .ok (.iload_n 1, 1) := by decide +kernel
theorem rd_Md_begins_3 : decode mb_Md_begins 3 = .ok (.sipush 259, 3) := by decide +kernel
theorem rd_Md_begins_6 : decode mb_Md_begins 6 = .ok (.if_icmp .ge 16, 3) := by decide +kernel
theorem rd_Md_begins_9 : decode mb_Md_begins 9 = .ok (.aload_n 0, 1) := by decide +kernel
theorem rd_Md_begins_10 : decode mb_Md_begins 10 = .ok (.getfield 7, 3) := by decide +kernel
theorem rd_Md_begins_13 : decode mb_Md_begins 13 = .ok (.iload_n 1, 1) := by decide +kernel
theorem rd_Md_begins_14 : decode mb_Md_begins 14 = .ok (.iconst 0, 1) := by decide +kernel
theorem rd_Md_begins_15 : decode mb_Md_begins 15 = .ok (.iastore, 1) := by decide +kernel
theorem rd_Md_begins_16 : decode mb_Md_begins 16 = .ok (.iinc 1 1, 3) := by decide +kernel
theorem rd_Md_begins_19 : decode mb_Md_begins 19 = .ok (.goto (-17), 3) := by decide +kernel
theorem rd_Md_begins_22 : decode mb_Md_begins 22 = .ok (.return_, 1) := by decide +kernel
theorem rd_Md_spells_0 : decode mb_Md_spells 0 = .ok (.iconst 3, 1) := by decide +kernel
theorem rd_Md_spells_1 : decode mb_Md_spells 1 = .ok (.bipush 7, 2) := by decide +kernel
theorem rd_Md_spells_3 : decode mb_Md_spells 3 = .ok (.aload_n 0, 1) := by decide +kernel
theorem rd_Md_spells_4 : decode mb_Md_spells 4 = .ok (.getfield 7, 3) := by decide +kernel
theorem rd_Md_spells_7 : decode mb_Md_spells 7 = .ok (.iconst 0, 1) := by decide +kernel
theorem rd_Md_spells_8 : decode mb_Md_spells 8 = .ok (.iaload, 1) := by decide +kernel
theorem rd_Md_spells_9 : decode mb_Md_spells 9 = .ok (.imul, 1) := by decide +kernel
theorem rd_Md_spells_10 : decode mb_Md_spells 10 = .ok (.iadd, 1) := by decide +kernel
theorem rd_Md_spells_11 : decode mb_Md_spells 11 = .ok (.istore 7, 2) := by decide +kernel
theorem rd_Md_spells_13 : decode mb_Md_spells 13 = .ok (.aload_n 0, 1) := by decide +kernel
theorem rd_Md_spells_14 : decode mb_Md_spells 14 = .ok (.getfield 7, 3) := by decide +kernel
theorem rd_Md_spells_17 : decode mb_Md_spells 17 = .ok (.iload 7, 2) := by decide +kernel
theorem rd_Md_spells_19 : decode mb_Md_spells 19 = .ok (.iconst 0, 1) := by decide +kernel
theorem rd_Md_spells_20 : decode mb_Md_spells 20 = .ok (.iadd, 1) := by decide +kernel
theorem rd_Md_spells_21 : decode mb_Md_spells 21 = .ok (.iload 6, 2) := by decide +kernel
theorem rd_Md_spells_23 : decode mb_Md_spells 23 = .ok (.iastore, 1) := by decide +kernel
theorem rd_Md_spells_24 : decode mb_Md_spells 24 = .ok (.aload_n 0, 1) := by decide +kernel
theorem rd_Md_spells_25 : decode mb_Md_spells 25 = .ok (.getfield 7, 3) := by decide +kernel
theorem rd_Md_spells_28 : decode mb_Md_spells 28 = .ok (.iload 7, 2) := by decide +kernel
theorem rd_Md_spells_30 : decode mb_Md_spells 30 = .ok (.iconst 1, 1) := by decide +kernel
theorem rd_Md_spells_31 : decode mb_Md_spells 31 = .ok (.iadd, 1) := by decide +kernel
theorem rd_Md_spells_32 : decode mb_Md_spells 32 = .ok (.iload_n 1, 1) := by decide +kernel
theorem rd_Md_spells_33 : decode mb_Md_spells 33 = .ok (.iastore, 1) := by decide +kernel
theorem rd_Md_spells_34 : decode mb_Md_spells 34 = .ok (.aload_n 0, 1) := by decide +kernel
theorem rd_Md_spells_35 : decode mb_Md_spells 35 = .ok (.getfield 7, 3) := by decide +kernel
theorem rd_Md_spells_38 : decode mb_Md_spells 38 = .ok (.iload 7, 2) := by decide +kernel
theorem rd_Md_spells_40 : decode mb_Md_spells 40 = .ok (.iconst 1, 1) := by decide +kernel
theorem rd_Md_spells_41 : decode mb_Md_spells 41 = .ok (.iadd, 1) := by decide +kernel
theorem rd_Md_spells_42 : decode mb_Md_spells 42 = .ok (.iconst 1, 1) := by decide +kernel
theorem rd_Md_spells_43 : decode mb_Md_spells 43 = .ok (.iadd, 1) := by decide +kernel
theorem rd_Md_spells_44 : decode mb_Md_spells 44 = .ok (.iload_n 2, 1) := by decide +kernel
theorem rd_Md_spells_45 : decode mb_Md_spells 45 = .ok (.iastore, 1) := by decide +kernel
theorem rd_Md_spells_46 : decode mb_Md_spells 46 = .ok (.aload_n 0, 1) := by decide +kernel
theorem rd_Md_spells_47 : decode mb_Md_spells 47 = .ok (.getfield 7, 3) := by decide +kernel
theorem rd_Md_spells_50 : decode mb_Md_spells 50 = .ok (.iload 7, 2) := by decide +kernel
theorem rd_Md_spells_52 : decode mb_Md_spells 52 = .ok (.iconst 1, 1) := by decide +kernel
theorem rd_Md_spells_53 : decode mb_Md_spells 53 = .ok (.iadd, 1) := by decide +kernel
theorem rd_Md_spells_54 : decode mb_Md_spells 54 = .ok (.iconst 2, 1) := by decide +kernel
theorem rd_Md_spells_55 : decode mb_Md_spells 55 = .ok (.iadd, 1) := by decide +kernel
theorem rd_Md_spells_56 : decode mb_Md_spells 56 = .ok (.iload_n 3, 1) := by decide +kernel
theorem rd_Md_spells_57 : decode mb_Md_spells 57 = .ok (.iastore, 1) := by decide +kernel
theorem rd_Md_spells_58 : decode mb_Md_spells 58 = .ok (.aload_n 0, 1) := by decide +kernel
theorem rd_Md_spells_59 : decode mb_Md_spells 59 = .ok (.getfield 7, 3) := by decide +kernel
theorem rd_Md_spells_62 : decode mb_Md_spells 62 = .ok (.iload 7, 2) := by decide +kernel
theorem rd_Md_spells_64 : decode mb_Md_spells 64 = .ok (.iconst 1, 1) := by decide +kernel
theorem rd_Md_spells_65 : decode mb_Md_spells 65 = .ok (.iadd, 1) := by decide +kernel
theorem rd_Md_spells_66 : decode mb_Md_spells 66 = .ok (.iconst 3, 1) := by decide +kernel
theorem rd_Md_spells_67 : decode mb_Md_spells 67 = .ok (.iadd, 1) := by decide +kernel
theorem rd_Md_spells_68 : decode mb_Md_spells 68 = .ok (.iload 4, 2) := by decide +kernel
theorem rd_Md_spells_70 : decode mb_Md_spells 70 = .ok (.iastore, 1) := by decide +kernel
theorem rd_Md_spells_71 : decode mb_Md_spells 71 = .ok (.aload_n 0, 1) := by decide +kernel
theorem rd_Md_spells_72 : decode mb_Md_spells 72 = .ok (.getfield 7, 3) := by decide +kernel
theorem rd_Md_spells_75 : decode mb_Md_spells 75 = .ok (.iload 7, 2) := by decide +kernel
theorem rd_Md_spells_77 : decode mb_Md_spells 77 = .ok (.iconst 1, 1) := by decide +kernel
theorem rd_Md_spells_78 : decode mb_Md_spells 78 = .ok (.iadd, 1) := by decide +kernel
theorem rd_Md_spells_79 : decode mb_Md_spells 79 = .ok (.iconst 4, 1) := by decide +kernel
theorem rd_Md_spells_80 : decode mb_Md_spells 80 = .ok (.iadd, 1) := by decide +kernel
theorem rd_Md_spells_81 : decode mb_Md_spells 81 = .ok (.iload 5, 2) := by decide +kernel
theorem rd_Md_spells_83 : decode mb_Md_spells 83 = .ok (.iastore, 1) := by decide +kernel
theorem rd_Md_spells_84 : decode mb_Md_spells 84 = .ok (.aload_n 0, 1) := by decide +kernel
theorem rd_Md_spells_85 : decode mb_Md_spells 85 = .ok (.getfield 7, 3) := by decide +kernel
theorem rd_Md_spells_88 : decode mb_Md_spells 88 = .ok (.iconst 0, 1) := by decide +kernel
theorem rd_Md_spells_89 : decode mb_Md_spells 89 = .ok (.dup2, 1) := by decide +kernel
theorem rd_Md_spells_90 : decode mb_Md_spells 90 = .ok (.iaload, 1) := by decide +kernel
theorem rd_Md_spells_91 : decode mb_Md_spells 91 = .ok (.iconst 1, 1) := by decide +kernel
theorem rd_Md_spells_92 : decode mb_Md_spells 92 = .ok (.iadd, 1) := by decide +kernel
theorem rd_Md_spells_93 : decode mb_Md_spells 93 = .ok (.iastore, 1) := by decide +kernel
theorem rd_Md_spells_94 : decode mb_Md_spells 94 = .ok (.return_, 1) := by decide +kernel
theorem rd_Md_ofTopic_0 : decode mb_Md_ofTopic 0 = .ok (.aload_n 0, 1) := by decide +kernel
theorem rd_Md_ofTopic_1 : decode mb_Md_ofTopic 1 = .ok (.getfield 7, 3) := by decide +kernel
theorem rd_Md_ofTopic_4 : decode mb_Md_ofTopic 4 = .ok (.iconst 3, 1) := by decide +kernel
theorem rd_Md_ofTopic_5 : decode mb_Md_ofTopic 5 = .ok (.bipush 7, 2) := by decide +kernel
theorem rd_Md_ofTopic_7 : decode mb_Md_ofTopic 7 = .ok (.iload_n 1, 1) := by decide +kernel
theorem rd_Md_ofTopic_8 : decode mb_Md_ofTopic 8 = .ok (.imul, 1) := by decide +kernel
theorem rd_Md_ofTopic_9 : decode mb_Md_ofTopic 9 = .ok (.iadd, 1) := by decide +kernel
theorem rd_Md_ofTopic_10 : decode mb_Md_ofTopic 10 = .ok (.iload_n 2, 1) := by decide +kernel
theorem rd_Md_ofTopic_11 : decode mb_Md_ofTopic 11 = .ok (.iadd, 1) := by decide +kernel
theorem rd_Md_ofTopic_12 : decode mb_Md_ofTopic 12 = .ok (.iaload, 1) := by decide +kernel
theorem rd_Md_ofTopic_13 : decode mb_Md_ofTopic 13 = .ok (.ireturn, 1) := by decide +kernel
theorem rd_Md_of_0 : decode mb_Md_of 0 = .ok (.aload_n 0, 1) := by decide +kernel
theorem rd_Md_of_1 : decode mb_Md_of 1 = .ok (.getfield 7, 3) := by decide +kernel
theorem rd_Md_of_4 : decode mb_Md_of 4 = .ok (.bipush 59, 2) := by decide +kernel
theorem rd_Md_of_6 : decode mb_Md_of 6 = .ok (.iconst 5, 1) := by decide +kernel
theorem rd_Md_of_7 : decode mb_Md_of 7 = .ok (.iload_n 1, 1) := by decide +kernel
theorem rd_Md_of_8 : decode mb_Md_of 8 = .ok (.imul, 1) := by decide +kernel
theorem rd_Md_of_9 : decode mb_Md_of 9 = .ok (.iadd, 1) := by decide +kernel
theorem rd_Md_of_10 : decode mb_Md_of 10 = .ok (.iload_n 2, 1) := by decide +kernel
theorem rd_Md_of_11 : decode mb_Md_of 11 = .ok (.iadd, 1) := by decide +kernel
theorem rd_Md_of_12 : decode mb_Md_of 12 = .ok (.iaload, 1) := by decide +kernel
theorem rd_Md_of_13 : decode mb_Md_of 13 = .ok (.ireturn, 1) := by decide +kernel
theorem rd_Md_puts_0 : decode mb_Md_puts 0 = .ok (.aload_n 0, 1) := by decide +kernel
theorem rd_Md_puts_1 : decode mb_Md_puts 1 = .ok (.getfield 7, 3) := by decide +kernel
theorem rd_Md_puts_4 : decode mb_Md_puts 4 = .ok (.bipush 59, 2) := by decide +kernel
theorem rd_Md_puts_6 : decode mb_Md_puts 6 = .ok (.iconst 5, 1) := by decide +kernel
theorem rd_Md_puts_7 : decode mb_Md_puts 7 = .ok (.iload_n 1, 1) := by decide +kernel
theorem rd_Md_puts_8 : decode mb_Md_puts 8 = .ok (.imul, 1) := by decide +kernel
theorem rd_Md_puts_9 : decode mb_Md_puts 9 = .ok (.iadd, 1) := by decide +kernel
theorem rd_Md_puts_10 : decode mb_Md_puts 10 = .ok (.iload_n 2, 1) := by decide +kernel
theorem rd_Md_puts_11 : decode mb_Md_puts 11 = .ok (.iadd, 1) := by decide +kernel
theorem rd_Md_puts_12 : decode mb_Md_puts 12 = .ok (.iload_n 3, 1) := by decide +kernel
theorem rd_Md_puts_13 : decode mb_Md_puts 13 = .ok (.iastore, 1) := by decide +kernel
theorem rd_Md_puts_14 : decode mb_Md_puts 14 = .ok (.return_, 1) := by decide +kernel
theorem rd_Md_inserts_0 : decode mb_Md_inserts 0 = .ok (.bipush 59, 2) := by decide +kernel
theorem rd_Md_inserts_2 : decode mb_Md_inserts 2 = .ok (.iconst 5, 1) := by decide +kernel
theorem rd_Md_inserts_3 : decode mb_Md_inserts 3 = .ok (.aload_n 0, 1) := by decide +kernel
theorem rd_Md_inserts_4 : decode mb_Md_inserts 4 = .ok (.getfield 7, 3) := by decide +kernel
theorem rd_Md_inserts_7 : decode mb_Md_inserts 7 = .ok (.iconst 2, 1) := by decide +kernel
theorem rd_Md_inserts_8 : decode mb_Md_inserts 8 = .ok (.iaload, 1) := by decide +kernel
theorem rd_Md_inserts_9 : decode mb_Md_inserts 9 = .ok (.iconst 1, 1) := by decide +kernel
theorem rd_Md_inserts_10 : decode mb_Md_inserts 10 = .ok (.iadd, 1) := by decide +kernel
theorem rd_Md_inserts_11 : decode mb_Md_inserts 11 = .ok (.imul, 1) := by decide +kernel
theorem rd_Md_inserts_12 : decode mb_Md_inserts 12 = .ok (.iadd, 1) := by decide +kernel
theorem rd_Md_inserts_13 : decode mb_Md_inserts 13 = .ok (.iconst 1, 1) := by decide +kernel
theorem rd_Md_inserts_14 : decode mb_Md_inserts 14 = .ok (.isub, 1) := by decide +kernel
theorem rd_Md_inserts_15 : decode mb_Md_inserts 15 = .ok (.istore 6, 2) := by decide +kernel
theorem rd_Md_inserts_17 : decode mb_Md_inserts 17 = .ok (.iload 6, 2) := by decide +kernel
theorem rd_Md_inserts_19 : decode mb_Md_inserts 19 = .ok (.bipush 59, 2) := by decide +kernel
theorem rd_Md_inserts_21 : decode mb_Md_inserts 21 = .ok (.iconst 5, 1) := by decide +kernel
theorem rd_Md_inserts_22 : decode mb_Md_inserts 22 = .ok (.iload_n 1, 1) := by decide +kernel
theorem rd_Md_inserts_23 : decode mb_Md_inserts 23 = .ok (.iconst 1, 1) := by decide +kernel
theorem rd_Md_inserts_24 : decode mb_Md_inserts 24 = .ok (.iadd, 1) := by decide +kernel
theorem rd_Md_inserts_25 : decode mb_Md_inserts 25 = .ok (.imul, 1) := by decide +kernel
theorem rd_Md_inserts_26 : decode mb_Md_inserts 26 = .ok (.iadd, 1) := by decide +kernel
theorem rd_Md_inserts_27 : decode mb_Md_inserts 27 = .ok (.if_icmp .lt 25, 3) := by decide +kernel
theorem rd_Md_inserts_30 : decode mb_Md_inserts 30 = .ok (.aload_n 0, 1) := by decide +kernel
theorem rd_Md_inserts_31 : decode mb_Md_inserts 31 = .ok (.getfield 7, 3) := by decide +kernel
theorem rd_Md_inserts_34 : decode mb_Md_inserts 34 = .ok (.iload 6, 2) := by decide +kernel
theorem rd_Md_inserts_36 : decode mb_Md_inserts 36 = .ok (.aload_n 0, 1) := by decide +kernel
theorem rd_Md_inserts_37 : decode mb_Md_inserts 37 = .ok (.getfield 7, 3) := by decide +kernel
theorem rd_Md_inserts_40 : decode mb_Md_inserts 40 = .ok (.iload 6, 2) := by decide +kernel
theorem rd_Md_inserts_42 : decode mb_Md_inserts 42 = .ok (.iconst 5, 1) := by decide +kernel
theorem rd_Md_inserts_43 : decode mb_Md_inserts 43 = .ok (.isub, 1) := by decide +kernel
theorem rd_Md_inserts_44 : decode mb_Md_inserts 44 = .ok (.iaload, 1) := by decide +kernel
theorem rd_Md_inserts_45 : decode mb_Md_inserts 45 = .ok (.iastore, 1) := by decide +kernel
theorem rd_Md_inserts_46 : decode mb_Md_inserts 46 = .ok (.iinc 6 (-1), 3) := by decide +kernel
theorem rd_Md_inserts_49 : decode mb_Md_inserts 49 = .ok (.goto (-32), 3) := by decide +kernel
theorem rd_Md_inserts_52 : decode mb_Md_inserts 52 = .ok (.aload_n 0, 1) := by decide +kernel
theorem rd_Md_inserts_53 : decode mb_Md_inserts 53 = .ok (.iload_n 1, 1) := by decide +kernel
theorem rd_Md_inserts_54 : decode mb_Md_inserts 54 = .ok (.iconst 0, 1) := by decide +kernel
theorem rd_Md_inserts_55 : decode mb_Md_inserts 55 = .ok (.iload_n 2, 1) := by decide +kernel
theorem rd_Md_inserts_56 : decode mb_Md_inserts 56 = .ok (.invokevirtual 59, 3) := by decide +kernel
theorem rd_Md_inserts_59 : decode mb_Md_inserts 59 = .ok (.aload_n 0, 1) := by decide +kernel
theorem rd_Md_inserts_60 : decode mb_Md_inserts 60 = .ok (.iload_n 1, 1) := by decide +kernel
theorem rd_Md_inserts_61 : decode mb_Md_inserts 61 = .ok (.iconst 1, 1) := by decide +kernel
theorem rd_Md_inserts_62 : decode mb_Md_inserts 62 = .ok (.iload_n 3, 1) := by decide +kernel
theorem rd_Md_inserts_63 : decode mb_Md_inserts 63 = .ok (.invokevirtual 59, 3) := by decide +kernel
theorem rd_Md_inserts_66 : decode mb_Md_inserts 66 = .ok (.aload_n 0, 1) := by decide +kernel
theorem rd_Md_inserts_67 : decode mb_Md_inserts 67 = .ok (.iload_n 1, 1) := by decide +kernel
theorem rd_Md_inserts_68 : decode mb_Md_inserts 68 = .ok (.iconst 2, 1) := by decide +kernel
theorem rd_Md_inserts_69 : decode mb_Md_inserts 69 = .ok (.iload 4, 2) := by decide +kernel
theorem rd_Md_inserts_71 : decode mb_Md_inserts 71 = .ok (.invokevirtual 59, 3) := by decide +kernel
theorem rd_Md_inserts_74 : decode mb_Md_inserts 74 = .ok (.aload_n 0, 1) := by decide +kernel
theorem rd_Md_inserts_75 : decode mb_Md_inserts 75 = .ok (.iload_n 1, 1) := by decide +kernel
theorem rd_Md_inserts_76 : decode mb_Md_inserts 76 = .ok (.iconst 3, 1) := by decide +kernel
theorem rd_Md_inserts_77 : decode mb_Md_inserts 77 = .ok (.iload 5, 2) := by decide +kernel
theorem rd_Md_inserts_79 : decode mb_Md_inserts 79 = .ok (.invokevirtual 59, 3) := by decide +kernel
theorem rd_Md_inserts_82 : decode mb_Md_inserts 82 = .ok (.aload_n 0, 1) := by decide +kernel
theorem rd_Md_inserts_83 : decode mb_Md_inserts 83 = .ok (.iload_n 1, 1) := by decide +kernel
theorem rd_Md_inserts_84 : decode mb_Md_inserts 84 = .ok (.iconst 4, 1) := by decide +kernel
theorem rd_Md_inserts_85 : decode mb_Md_inserts 85 = .ok (.iconst 0, 1) := by decide +kernel
theorem rd_Md_inserts_86 : decode mb_Md_inserts 86 = .ok (.invokevirtual 59, 3) := by decide +kernel
theorem rd_Md_inserts_89 : decode mb_Md_inserts 89 = .ok (.aload_n 0, 1) := by decide +kernel
theorem rd_Md_inserts_90 : decode mb_Md_inserts 90 = .ok (.getfield 7, 3) := by decide +kernel
theorem rd_Md_inserts_93 : decode mb_Md_inserts 93 = .ok (.iconst 2, 1) := by decide +kernel
theorem rd_Md_inserts_94 : decode mb_Md_inserts 94 = .ok (.dup2, 1) := by decide +kernel
theorem rd_Md_inserts_95 : decode mb_Md_inserts 95 = .ok (.iaload, 1) := by decide +kernel
theorem rd_Md_inserts_96 : decode mb_Md_inserts 96 = .ok (.iconst 1, 1) := by decide +kernel
theorem rd_Md_inserts_97 : decode mb_Md_inserts 97 = .ok (.iadd, 1) := by decide +kernel
theorem rd_Md_inserts_98 : decode mb_Md_inserts 98 = .ok (.iastore, 1) := by decide +kernel
theorem rd_Md_inserts_99 : decode mb_Md_inserts 99 = .ok (.iload_n 1, 1) := by decide +kernel
theorem rd_Md_inserts_100 : decode mb_Md_inserts 100 = .ok (.ireturn, 1) := by decide +kernel
theorem rd_Md_removes_0 : decode mb_Md_removes 0 = .ok (.aload_n 0, 1) := by decide +kernel
theorem rd_Md_removes_1 : decode mb_Md_removes 1 = .ok (.getfield 7, 3) := by decide +kernel
theorem rd_Md_removes_4 : decode mb_Md_removes 4 = .ok (.iconst 2, 1) := by decide +kernel
theorem rd_Md_removes_5 : decode mb_Md_removes 5 = .ok (.dup2, 1) := by decide +kernel
theorem rd_Md_removes_6 : decode mb_Md_removes 6 = .ok (.iaload, 1) := by decide +kernel
theorem rd_Md_removes_7 : decode mb_Md_removes 7 = .ok (.iload_n 2, 1) := by decide +kernel
theorem rd_Md_removes_8 : decode mb_Md_removes 8 = .ok (.isub, 1) := by decide +kernel
theorem rd_Md_removes_9 : decode mb_Md_removes 9 = .ok (.iastore, 1) := by decide +kernel
theorem rd_Md_removes_10 : decode mb_Md_removes 10 = .ok (.bipush 59, 2) := by decide +kernel
theorem rd_Md_removes_12 : decode mb_Md_removes 12 = .ok (.iconst 5, 1) := by decide +kernel
theorem rd_Md_removes_13 : decode mb_Md_removes 13 = .ok (.iload_n 1, 1) := by decide +kernel
theorem rd_Md_removes_14 : decode mb_Md_removes 14 = .ok (.imul, 1) := by decide +kernel
theorem rd_Md_removes_15 : decode mb_Md_removes 15 = .ok (.iadd, 1) := by decide +kernel
theorem rd_Md_removes_16 : decode mb_Md_removes 16 = .ok (.istore_n 3, 1) := by decide +kernel
theorem rd_Md_removes_17 : decode mb_Md_removes 17 = .ok (.iload_n 3, 1) := by decide +kernel
theorem rd_Md_removes_18 : decode mb_Md_removes 18 = .ok (.bipush 59, 2) := by decide +kernel
theorem rd_Md_removes_20 : decode mb_Md_removes 20 = .ok (.iconst 5, 1) := by decide +kernel
theorem rd_Md_removes_21 : decode mb_Md_removes 21 = .ok (.aload_n 0, 1) := by decide +kernel
theorem rd_Md_removes_22 : decode mb_Md_removes 22 = .ok (.getfield 7, 3) := by decide +kernel
theorem rd_Md_removes_25 : decode mb_Md_removes 25 = .ok (.iconst 2, 1) := by decide +kernel
theorem rd_Md_removes_26 : decode mb_Md_removes 26 = .ok (.iaload, 1) := by decide +kernel
theorem rd_Md_removes_27 : decode mb_Md_removes 27 = .ok (.imul, 1) := by decide +kernel
theorem rd_Md_removes_28 : decode mb_Md_removes 28 = .ok (.iadd, 1) := by decide +kernel
theorem rd_Md_removes_29 : decode mb_Md_removes 29 = .ok (.if_icmp .ge 25, 3) := by decide +kernel
theorem rd_Md_removes_32 : decode mb_Md_removes 32 = .ok (.aload_n 0, 1) := by decide +kernel
theorem rd_Md_removes_33 : decode mb_Md_removes 33 = .ok (.getfield 7, 3) := by decide +kernel
theorem rd_Md_removes_36 : decode mb_Md_removes 36 = .ok (.iload_n 3, 1) := by decide +kernel
theorem rd_Md_removes_37 : decode mb_Md_removes 37 = .ok (.aload_n 0, 1) := by decide +kernel
theorem rd_Md_removes_38 : decode mb_Md_removes 38 = .ok (.getfield 7, 3) := by decide +kernel
theorem rd_Md_removes_41 : decode mb_Md_removes 41 = .ok (.iload_n 3, 1) := by decide +kernel
theorem rd_Md_removes_42 : decode mb_Md_removes 42 = .ok (.iconst 5, 1) := by decide +kernel
theorem rd_Md_removes_43 : decode mb_Md_removes 43 = .ok (.iload_n 2, 1) := by decide +kernel
theorem rd_Md_removes_44 : decode mb_Md_removes 44 = .ok (.imul, 1) := by decide +kernel
theorem rd_Md_removes_45 : decode mb_Md_removes 45 = .ok (.iadd, 1) := by decide +kernel
theorem rd_Md_removes_46 : decode mb_Md_removes 46 = .ok (.iaload, 1) := by decide +kernel
theorem rd_Md_removes_47 : decode mb_Md_removes 47 = .ok (.iastore, 1) := by decide +kernel
theorem rd_Md_removes_48 : decode mb_Md_removes 48 = .ok (.iinc 3 1, 3) := by decide +kernel
theorem rd_Md_removes_51 : decode mb_Md_removes 51 = .ok (.goto (-34), 3) := by decide +kernel
theorem rd_Md_removes_54 : decode mb_Md_removes 54 = .ok (.iload_n 2, 1) := by decide +kernel
theorem rd_Md_removes_55 : decode mb_Md_removes 55 = .ok (.ireturn, 1) := by decide +kernel
theorem rd_Md_power_0 : decode mb_Md_power 0 = .ok (.iconst 1, 1) := by decide +kernel
theorem rd_Md_power_1 : decode mb_Md_power 1 = .ok (.istore_n 1, 1) := by decide +kernel
theorem rd_Md_power_2 : decode mb_Md_power 2 = .ok (.iconst 0, 1) := by decide +kernel
theorem rd_Md_power_3 : decode mb_Md_power 3 = .ok (.istore_n 2, 1) := by decide +kernel
theorem rd_Md_power_4 : decode mb_Md_power 4 = .ok (.iload_n 2, 1) := by decide +kernel
theorem rd_Md_power_5 : decode mb_Md_power 5 = .ok (.iload_n 0, 1) := by decide +kernel
theorem rd_Md_power_6 : decode mb_Md_power 6 = .ok (.if_icmp .ge 14, 3) := by decide +kernel
theorem rd_Md_power_9 : decode mb_Md_power 9 = .ok (.iload_n 1, 1) := by decide +kernel
theorem rd_Md_power_10 : decode mb_Md_power 10 = .ok (.bipush 10, 2) := by decide +kernel
theorem rd_Md_power_12 : decode mb_Md_power 12 = .ok (.imul, 1) := by decide +kernel
theorem rd_Md_power_13 : decode mb_Md_power 13 = .ok (.istore_n 1, 1) := by decide +kernel
theorem rd_Md_power_14 : decode mb_Md_power 14 = .ok (.iinc 2 1, 3) := by decide +kernel
theorem rd_Md_power_17 : decode mb_Md_power 17 = .ok (.goto (-13), 3) := by decide +kernel
theorem rd_Md_power_20 : decode mb_Md_power 20 = .ok (.iload_n 1, 1) := by decide +kernel
theorem rd_Md_power_21 : decode mb_Md_power 21 = .ok (.ireturn, 1) := by decide +kernel
theorem rd_Md_knots_0 : decode mb_Md_knots 0 = .ok (.aload_n 0, 1) := by decide +kernel
theorem rd_Md_knots_1 : decode mb_Md_knots 1 = .ok (.iload_n 1, 1) := by decide +kernel
theorem rd_Md_knots_2 : decode mb_Md_knots 2 = .ok (.iconst 3, 1) := by decide +kernel
theorem rd_Md_knots_3 : decode mb_Md_knots 3 = .ok (.invokevirtual 63, 3) := by decide +kernel
theorem rd_Md_knots_6 : decode mb_Md_knots 6 = .ok (.iload_n 2, 1) := by decide +kernel
theorem rd_Md_knots_7 : decode mb_Md_knots 7 = .ok (.invokestatic 66, 3) := by decide +kernel
theorem rd_Md_knots_10 : decode mb_Md_knots 10 = .ok (.idiv, 1) := by decide +kernel
theorem rd_Md_knots_11 : decode mb_Md_knots 11 = .ok (.bipush 10, 2) := by decide +kernel
theorem rd_Md_knots_13 : decode mb_Md_knots 13 = .ok (.irem, 1) := by decide +kernel
theorem rd_Md_knots_14 : decode mb_Md_knots 14 = .ok (.ireturn, 1) := by decide +kernel
theorem rd_Md_knotsOf_0 : decode mb_Md_knotsOf 0 = .ok (.iconst 0, 1) := by decide +kernel
theorem rd_Md_knotsOf_1 : decode mb_Md_knotsOf 1 = .ok (.istore_n 2, 1) := by decide +kernel
theorem rd_Md_knotsOf_2 : decode mb_Md_knotsOf 2 = .ok (.iconst 0, 1) := by decide +kernel
theorem rd_Md_knotsOf_3 : decode mb_Md_knotsOf 3 = .ok (.istore_n 3, 1) := by decide +kernel
theorem rd_Md_knotsOf_4 : decode mb_Md_knotsOf 4 = .ok (.iload_n 3, 1) := by decide +kernel
theorem rd_Md_knotsOf_5 : decode mb_Md_knotsOf 5 = .ok (.iconst 4, 1) := by decide +kernel
theorem rd_Md_knotsOf_6 : decode mb_Md_knotsOf 6 = .ok (.if_icmp .ge 18, 3) := by decide +kernel
theorem rd_Md_knotsOf_9 : decode mb_Md_knotsOf 9 = .ok (.iload_n 2, 1) := by decide +kernel
theorem rd_Md_knotsOf_10 : decode mb_Md_knotsOf 10 = .ok (.aload_n 0, 1) := by decide +kernel
theorem rd_Md_knotsOf_11 : decode mb_Md_knotsOf 11 = .ok (.iload_n 1, 1) := by decide +kernel
theorem rd_Md_knotsOf_12 : decode mb_Md_knotsOf 12 = .ok (.iload_n 3, 1) := by decide +kernel
theorem rd_Md_knotsOf_13 : decode mb_Md_knotsOf 13 = .ok (.invokevirtual 70, 3) := by decide +kernel
theorem rd_Md_knotsOf_16 : decode mb_Md_knotsOf 16 = .ok (.iadd, 1) := by decide +kernel
theorem rd_Md_knotsOf_17 : decode mb_Md_knotsOf 17 = .ok (.istore_n 2, 1) := by decide +kernel
theorem rd_Md_knotsOf_18 : decode mb_Md_knotsOf 18 = .ok (.iinc 3 1, 3) := by decide +kernel
theorem rd_Md_knotsOf_21 : decode mb_Md_knotsOf 21 = .ok (.goto (-17), 3) := by decide +kernel
theorem rd_Md_knotsOf_24 : decode mb_Md_knotsOf 24 = .ok (.iload_n 2, 1) := by decide +kernel
theorem rd_Md_knotsOf_25 : decode mb_Md_knotsOf 25 = .ok (.ireturn, 1) := by decide +kernel
theorem rd_Md_isNibbled_0 : decode mb_Md_isNibbled 0 = .ok (.aload_n 0, 1) := by decide +kernel
theorem rd_Md_isNibbled_1 : decode mb_Md_isNibbled 1 = .ok (.iload_n 1, 1) := by decide +kernel
theorem rd_Md_isNibbled_2 : decode mb_Md_isNibbled 2 = .ok (.iconst 4, 1) := by decide +kernel
theorem rd_Md_isNibbled_3 : decode mb_Md_isNibbled 3 = .ok (.invokevirtual 63, 3) := by decide +kernel
theorem rd_Md_isNibbled_6 : decode mb_Md_isNibbled 6 = .ok (.ifCond .le 7, 3) := by decide +kernel
theorem rd_Md_isNibbled_9 : decode mb_Md_isNibbled 9 = .ok (.iconst 1, 1) := by decide +kernel
theorem rd_Md_isNibbled_10 : decode mb_Md_isNibbled 10 = .ok (.goto 4, 3) := by decide +kernel
theorem rd_Md_isNibbled_13 : decode mb_Md_isNibbled 13 = .ok (.iconst 0, 1) := by decide +kernel
theorem rd_Md_isNibbled_14 : decode mb_Md_isNibbled 14 = .ok (.ireturn, 1) := by decide +kernel
theorem rd_Md_loses_0 : decode mb_Md_loses 0 = .ok (.aload_n 0, 1) := by decide +kernel
theorem rd_Md_loses_1 : decode mb_Md_loses 1 = .ok (.iload_n 1, 1) := by decide +kernel
theorem rd_Md_loses_2 : decode mb_Md_loses 2 = .ok (.invokevirtual 73, 3) := by decide +kernel
theorem rd_Md_loses_5 : decode mb_Md_loses 5 = .ok (.istore_n 3, 1) := by decide +kernel
theorem rd_Md_loses_6 : decode mb_Md_loses 6 = .ok (.iload_n 2, 1) := by decide +kernel
theorem rd_Md_loses_7 : decode mb_Md_loses 7 = .ok (.invokestatic 66, 3) := by decide +kernel
theorem rd_Md_loses_10 : decode mb_Md_loses 10 = .ok (.istore 4, 2) := by decide +kernel
theorem rd_Md_loses_12 : decode mb_Md_loses 12 = .ok (.aload_n 0, 1) := by decide +kernel
theorem rd_Md_loses_13 : decode mb_Md_loses 13 = .ok (.iload_n 1, 1) := by decide +kernel
theorem rd_Md_loses_14 : decode mb_Md_loses 14 = .ok (.iconst 3, 1) := by decide +kernel
theorem rd_Md_loses_15 : decode mb_Md_loses 15 = .ok (.aload_n 0, 1) := by decide +kernel
theorem rd_Md_loses_16 : decode mb_Md_loses 16 = .ok (.iload_n 1, 1) := by decide +kernel
theorem rd_Md_loses_17 : decode mb_Md_loses 17 = .ok (.iconst 3, 1) := by decide +kernel
theorem rd_Md_loses_18 : decode mb_Md_loses 18 = .ok (.invokevirtual 63, 3) := by decide +kernel
theorem rd_Md_loses_21 : decode mb_Md_loses 21 = .ok (.iload 4, 2) := by decide +kernel
theorem rd_Md_loses_23 : decode mb_Md_loses 23 = .ok (.idiv, 1) := by decide +kernel
theorem rd_Md_loses_24 : decode mb_Md_loses 24 = .ok (.iload 4, 2) := by decide +kernel
theorem rd_Md_loses_26 : decode mb_Md_loses 26 = .ok (.imul, 1) := by decide +kernel
theorem rd_Md_loses_27 : decode mb_Md_loses 27 = .ok (.invokevirtual 59, 3) := by decide +kernel
theorem rd_Md_loses_30 : decode mb_Md_loses 30 = .ok (.aload_n 0, 1) := by decide +kernel
theorem rd_Md_loses_31 : decode mb_Md_loses 31 = .ok (.iload_n 1, 1) := by decide +kernel
theorem rd_Md_loses_32 : decode mb_Md_loses 32 = .ok (.iconst 4, 1) := by decide +kernel
theorem rd_Md_loses_33 : decode mb_Md_loses 33 = .ok (.iload_n 2, 1) := by decide +kernel
theorem rd_Md_loses_34 : decode mb_Md_loses 34 = .ok (.invokevirtual 59, 3) := by decide +kernel
theorem rd_Md_loses_37 : decode mb_Md_loses 37 = .ok (.iload_n 3, 1) := by decide +kernel
theorem rd_Md_loses_38 : decode mb_Md_loses 38 = .ok (.aload_n 0, 1) := by decide +kernel
theorem rd_Md_loses_39 : decode mb_Md_loses 39 = .ok (.iload_n 1, 1) := by decide +kernel
theorem rd_Md_loses_40 : decode mb_Md_loses 40 = .ok (.invokevirtual 73, 3) := by decide +kernel
theorem rd_Md_loses_43 : decode mb_Md_loses 43 = .ok (.isub, 1) := by decide +kernel
theorem rd_Md_loses_44 : decode mb_Md_loses 44 = .ok (.ireturn, 1) := by decide +kernel
theorem rd_Md_behind_0 : decode mb_Md_behind 0 = .ok (.iload_n 1, 1) := by decide +kernel
theorem rd_Md_behind_1 : decode mb_Md_behind 1 = .ok (.iconst 1, 1) := by decide +kernel
theorem rd_Md_behind_2 : decode mb_Md_behind 2 = .ok (.iadd, 1) := by decide +kernel
theorem rd_Md_behind_3 : decode mb_Md_behind 3 = .ok (.istore_n 2, 1) := by decide +kernel
theorem rd_Md_behind_4 : decode mb_Md_behind 4 = .ok (.iload_n 2, 1) := by decide +kernel
theorem rd_Md_behind_5 : decode mb_Md_behind 5 = .ok (.aload_n 0, 1) := by decide +kernel
theorem rd_Md_behind_6 : decode mb_Md_behind 6 = .ok (.getfield 7, 3) := by decide +kernel
theorem rd_Md_behind_9 : decode mb_Md_behind 9 = .ok (.iconst 2, 1) := by decide +kernel
theorem rd_Md_behind_10 : decode mb_Md_behind 10 = .ok (.iaload, 1) := by decide +kernel
theorem rd_Md_behind_11 : decode mb_Md_behind 11 = .ok (.if_icmp .ge 48, 3) := by decide +kernel
theorem rd_Md_behind_14 : decode mb_Md_behind 14 = .ok (.aload_n 0, 1) := by decide +kernel
theorem rd_Md_behind_15 : decode mb_Md_behind 15 = .ok (.iload_n 1, 1) := by decide +kernel
theorem rd_Md_behind_16 : decode mb_Md_behind 16 = .ok (.iconst 1, 1) := by decide +kernel
theorem rd_Md_behind_17 : decode mb_Md_behind 17 = .ok (.invokevirtual 63, 3) := by decide +kernel
theorem rd_Md_behind_20 : decode mb_Md_behind 20 = .ok (.ifCond .le 39, 3) := by decide +kernel
theorem rd_Md_behind_23 : decode mb_Md_behind 23 = .ok (.aload_n 0, 1) := by decide +kernel
theorem rd_Md_behind_24 : decode mb_Md_behind 24 = .ok (.iload_n 2, 1) := by decide +kernel
theorem rd_Md_behind_25 : decode mb_Md_behind 25 = .ok (.iconst 1, 1) := by decide +kernel
theorem rd_Md_behind_26 : decode mb_Md_behind 26 = .ok (.invokevirtual 63, 3) := by decide +kernel
theorem rd_Md_behind_29 : decode mb_Md_behind 29 = .ok (.aload_n 0, 1) := by decide +kernel
theorem rd_Md_behind_30 : decode mb_Md_behind 30 = .ok (.iload_n 1, 1) := by decide +kernel
theorem rd_Md_behind_31 : decode mb_Md_behind 31 = .ok (.iconst 1, 1) := by decide +kernel
theorem rd_Md_behind_32 : decode mb_Md_behind 32 = .ok (.invokevirtual 63, 3) := by decide +kernel
theorem rd_Md_behind_35 : decode mb_Md_behind 35 = .ok (.if_icmp .le 24, 3) := by decide +kernel
theorem rd_Md_behind_38 : decode mb_Md_behind 38 = .ok (.aload_n 0, 1) := by decide +kernel
theorem rd_Md_behind_39 : decode mb_Md_behind 39 = .ok (.iload_n 2, 1) := by decide +kernel
theorem rd_Md_behind_40 : decode mb_Md_behind 40 = .ok (.iconst 0, 1) := by decide +kernel
theorem rd_Md_behind_41 : decode mb_Md_behind 41 = .ok (.invokevirtual 63, 3) := by decide +kernel
theorem rd_Md_behind_44 : decode mb_Md_behind 44 = .ok (.aload_n 0, 1) := by decide +kernel
theorem rd_Md_behind_45 : decode mb_Md_behind 45 = .ok (.iload_n 1, 1) := by decide +kernel
theorem rd_Md_behind_46 : decode mb_Md_behind 46 = .ok (.iconst 0, 1) := by decide +kernel
theorem rd_Md_behind_47 : decode mb_Md_behind 47 = .ok (.invokevirtual 63, 3) := by decide +kernel
theorem rd_Md_behind_50 : decode mb_Md_behind 50 = .ok (.if_icmp .ne 9, 3) := by decide +kernel
theorem rd_Md_behind_53 : decode mb_Md_behind 53 = .ok (.iinc 2 1, 3) := by decide +kernel
theorem rd_Md_behind_56 : decode mb_Md_behind 56 = .ok (.goto (-52), 3) := by decide +kernel
theorem rd_Md_behind_59 : decode mb_Md_behind 59 = .ok (.iload_n 2, 1) := by decide +kernel
theorem rd_Md_behind_60 : decode mb_Md_behind 60 = .ok (.ireturn, 1) := by decide +kernel
theorem rd_Md_parent_0 : decode mb_Md_parent 0 = .ok (.aload_n 0, 1) := by decide +kernel
theorem rd_Md_parent_1 : decode mb_Md_parent 1 = .ok (.iload_n 1, 1) := by decide +kernel
theorem rd_Md_parent_2 : decode mb_Md_parent 2 = .ok (.iconst 1, 1) := by decide +kernel
theorem rd_Md_parent_3 : decode mb_Md_parent 3 = .ok (.invokevirtual 63, 3) := by decide +kernel
theorem rd_Md_parent_6 : decode mb_Md_parent 6 = .ok (.iconst 2, 1) := by decide +kernel
theorem rd_Md_parent_7 : decode mb_Md_parent 7 = .ok (.if_icmp .ge 5, 3) := by decide +kernel
theorem rd_Md_parent_10 : decode mb_Md_parent 10 = .ok (.iconst (-1), 1) := by decide +kernel
theorem rd_Md_parent_11 : decode mb_Md_parent 11 = .ok (.ireturn, 1) := by decide +kernel
theorem rd_Md_parent_12 : decode mb_Md_parent 12 = .ok (.iload_n 1, 1) := by decide +kernel
theorem rd_Md_parent_13 : decode mb_Md_parent 13 = .ok (.iconst 1, 1) := by decide +kernel
theorem rd_Md_parent_14 : decode mb_Md_parent 14 = .ok (.isub, 1) := by decide +kernel
theorem rd_Md_parent_15 : decode mb_Md_parent 15 = .ok (.istore_n 2, 1) := by decide +kernel
theorem rd_Md_parent_16 : decode mb_Md_parent 16 = .ok (.aload_n 0, 1) := by decide +kernel
theorem rd_Md_parent_17 : decode mb_Md_parent 17 = .ok (.iload_n 2, 1) := by decide +kernel
theorem rd_Md_parent_18 : decode mb_Md_parent 18 = .ok (.iconst 1, 1) := by decide +kernel
theorem rd_Md_parent_19 : decode mb_Md_parent 19 = .ok (.invokevirtual 63, 3) := by decide +kernel
theorem rd_Md_parent_22 : decode mb_Md_parent 22 = .ok (.aload_n 0, 1) := by decide +kernel
theorem rd_Md_parent_23 : decode mb_Md_parent 23 = .ok (.iload_n 1, 1) := by decide +kernel
theorem rd_Md_parent_24 : decode mb_Md_parent 24 = .ok (.iconst 1, 1) := by decide +kernel
theorem rd_Md_parent_25 : decode mb_Md_parent 25 = .ok (.invokevirtual 63, 3) := by decide +kernel
theorem rd_Md_parent_28 : decode mb_Md_parent 28 = .ok (.if_icmp .lt 9, 3) := by decide +kernel
theorem rd_Md_parent_31 : decode mb_Md_parent 31 = .ok (.iinc 2 (-1), 3) := by decide +kernel
theorem rd_Md_parent_34 : decode mb_Md_parent 34 = .ok (.goto (-18), 3) := by decide +kernel
theorem rd_Md_parent_37 : decode mb_Md_parent 37 = .ok (.iload_n 2, 1) := by decide +kernel
theorem rd_Md_parent_38 : decode mb_Md_parent 38 = .ok (.ireturn, 1) := by decide +kernel
theorem rd_Md_subsidiaries_0 : decode mb_Md_subsidiaries 0 = .ok (.iconst 0, 1) := by decide +kernel
theorem rd_Md_subsidiaries_1 : decode mb_Md_subsidiaries 1 = .ok (.istore_n 2, 1) := by decide +kernel
theorem rd_Md_subsidiaries_2 : decode mb_Md_subsidiaries 2 = .ok (.iload_n 1, 1) := by decide +kernel
theorem rd_Md_subsidiaries_3 : decode mb_Md_subsidiaries 3 = .ok (.iconst 1, 1) := by decide +kernel
theorem rd_Md_subsidiaries_4 : decode mb_Md_subsidiaries 4 = .ok (.iadd, 1) := by decide +kernel
theorem rd_Md_subsidiaries_5 : decode mb_Md_subsidiaries 5 = .ok (.istore_n 3, 1) := by decide +kernel
theorem rd_Md_subsidiaries_6 : decode mb_Md_subsidiaries 6 = .ok (.iload_n 3, 1) := by decide +kernel
theorem rd_Md_subsidiaries_7 : decode mb_Md_subsidiaries 7 = .ok (.aload_n 0, 1) := by decide +kernel
theorem rd_Md_subsidiaries_8 : decode mb_Md_subsidiaries 8 = .ok (.iload_n 1, 1) := by decide +kernel
theorem rd_Md_subsidiaries_9 : decode mb_Md_subsidiaries 9 = .ok (.invokevirtual 76, 3) := by decide +kernel
theorem rd_Md_subsidiaries_12 : decode mb_Md_subsidiaries 12 = .ok (.if_icmp .ge 37, 3) := by decide +kernel
theorem rd_Md_subsidiaries_15 : decode mb_Md_subsidiaries 15 = .ok (.iload_n 2, 1) := by decide +kernel
theorem rd_Md_subsidiaries_16 : decode mb_Md_subsidiaries 16 = .ok (.aload_n 0, 1) := by decide +kernel
theorem rd_Md_subsidiaries_17 : decode mb_Md_subsidiaries 17 = .ok (.iload_n 3, 1) := by decide +kernel
theorem rd_Md_subsidiaries_18 : decode mb_Md_subsidiaries 18 = .ok (.iconst 1, 1) := by decide +kernel
theorem rd_Md_subsidiaries_19 : decode mb_Md_subsidiaries 19 = .ok (.invokevirtual 63, 3) := by decide +kernel
theorem rd_Md_subsidiaries_22 : decode mb_Md_subsidiaries 22 = .ok (.aload_n 0, 1) := by decide +kernel
theorem rd_Md_subsidiaries_23 : decode mb_Md_subsidiaries 23 = .ok (.iload_n 1, 1) := by decide +kernel
theorem rd_Md_subsidiaries_24 : decode mb_Md_subsidiaries 24 = .ok (.iconst 1, 1) := by decide +kernel
theorem rd_Md_subsidiaries_25 : decode mb_Md_subsidiaries 25 = .ok (.invokevirtual 63, 3) := by decide +kernel
theorem rd_Md_subsidiaries_28 : decode mb_Md_subsidiaries 28 = .ok (.iconst 1, 1) := by decide +kernel
theorem rd_Md_subsidiaries_29 : decode mb_Md_subsidiaries 29 = .ok (.iadd, 1) := by decide +kernel
theorem rd_Md_subsidiaries_30 : decode mb_Md_subsidiaries 30 = .ok (.if_icmp .ne 7, 3) := by decide +kernel
theorem rd_Md_subsidiaries_33 : decode mb_Md_subsidiaries 33 = .ok (.iconst 1, 1) := by decide +kernel
theorem rd_Md_subsidiaries_34 : decode mb_Md_subsidiaries 34 = .ok (.goto 4, 3) := by decide +kernel
theorem rd_Md_subsidiaries_37 : decode mb_Md_subsidiaries 37 = .ok (.iconst 0, 1) := by decide +kernel
theorem rd_Md_subsidiaries_38 : decode mb_Md_subsidiaries 38 = .ok (.invokestatic 79, 3) := by decide +kernel
theorem rd_Md_subsidiaries_41 : decode mb_Md_subsidiaries 41 = .ok (.iadd, 1) := by decide +kernel
theorem rd_Md_subsidiaries_42 : decode mb_Md_subsidiaries 42 = .ok (.istore_n 2, 1) := by decide +kernel
theorem rd_Md_subsidiaries_43 : decode mb_Md_subsidiaries 43 = .ok (.iinc 3 1, 3) := by decide +kernel
theorem rd_Md_subsidiaries_46 : decode mb_Md_subsidiaries 46 = .ok (.goto (-40), 3) := by decide +kernel
theorem rd_Md_subsidiaries_49 : decode mb_Md_subsidiaries 49 = .ok (.iload_n 2, 1) := by decide +kernel
theorem rd_Md_subsidiaries_50 : decode mb_Md_subsidiaries 50 = .ok (.ireturn, 1) := by decide +kernel
def wd_Md_thrown (cI : ClassId) (a_t a_t_w a_t_wKept a_t_saved a_t_past a_t_input a_t_n a_t_order a_t_numbers a_t_output : Nat) (i_t_pastMany : Int) (i_t_isSaved : Int) (i_t_thrown : Int) (i_t_inputMany : Int) (i_t_lastError : Int) (i_t_lastOffset : Int) (i_t_error : Int) (i_t_offset : Int) (i_t_nextByte : Int) (i_t_begin : Int) (i_t_value : Int) (i_t_token : Int) (i_t_got : Int) (i_t_orders : Int) (i_t_outputMany : Int) : va_W := [(a_t, .inr (11, [.ref a_t_w, .ref a_t_wKept, .ref a_t_saved, .ref a_t_past, jk_V i_t_pastMany, jk_V i_t_isSaved, jk_V i_t_thrown, .ref a_t_input, jk_V i_t_inputMany, jk_V i_t_lastError, jk_V i_t_lastOffset, jk_V i_t_error, jk_V i_t_offset, jk_V i_t_nextByte, jk_V i_t_begin, jk_V i_t_value, jk_V i_t_token, jk_V i_t_got, .ref a_t_n, .ref a_t_order, .ref a_t_numbers, jk_V i_t_orders, .ref a_t_output, jk_V i_t_outputMany]))]
set_option maxHeartbeats 4000000 in
set_option maxRecDepth 20000 in
theorem ct_Md_thrown (l : Launch) (D : va_G) (Z : (Nat → Prop) → State → Heap → Prop) (sq : Nat → Nat) (hZ : jk_ZK Z sq) (cI cR : ClassId) (a_t a_t_w a_t_wKept a_t_saved a_t_past a_t_input a_t_n a_t_order a_t_numbers a_t_output : Nat) (i_t_pastMany : Int) (i_t_isSaved : Int) (i_t_thrown : Int) (i_t_inputMany : Int) (i_t_lastError : Int) (i_t_lastOffset : Int) (i_t_error : Int) (i_t_offset : Int) (i_t_nextByte : Int) (i_t_begin : Int) (i_t_value : Int) (i_t_token : Int) (i_t_got : Int) (i_t_orders : Int) (i_t_outputMany : Int) (q : Int) (hf : fn_Md_thrown i_t_thrown = some q) : jk_MI l D jk_cl (jk_ty cI cR) Z mn_Md_thrown (.code mn_Md_thrown mb_Md_thrown 1 (some .int) :: jk_WA) (jk_rm 0 0) [.ref a_t] (wd_Md_thrown cI a_t a_t_w a_t_wKept a_t_saved a_t_past a_t_input a_t_n a_t_order a_t_numbers a_t_output i_t_pastMany i_t_isSaved i_t_thrown i_t_inputMany i_t_lastError i_t_lastOffset i_t_error i_t_offset i_t_nextByte i_t_begin i_t_value i_t_token i_t_got i_t_orders i_t_outputMany) (wd_Md_thrown cI a_t a_t_w a_t_wKept a_t_saved a_t_past a_t_input a_t_n a_t_order a_t_numbers a_t_output i_t_pastMany i_t_isSaved i_t_thrown i_t_inputMany i_t_lastError i_t_lastOffset i_t_error i_t_offset i_t_nextByte i_t_begin i_t_value i_t_token i_t_got i_t_orders i_t_outputMany) q := by
  intro sz
  refine jk_body (by decide +kernel) (fun p e s m args below meth c hsz hz hin C => ?_) (Nat.le_of_ble_eq_true rfl)
  subst hsz
  unfold fn_Md_thrown at hf
  refine jk_aload_n C rd_Md_thrown_0 (k := 0) rfl ?_
  refine jk_get C in_Md (ci := 11) rfl 6 (by decide) tm_1269 0 rfl rfl rd_Md_thrown_1 ?_
  cases hf
  exact jk_iret C rfl rd_Md_thrown_4 rfl
def wd_Md_inRange (cI : ClassId)  : va_W := []
set_option maxHeartbeats 4000000 in
set_option maxRecDepth 20000 in
theorem ct_Md_inRange (l : Launch) (D : va_G) (Z : (Nat → Prop) → State → Heap → Prop) (sq : Nat → Nat) (hZ : jk_ZK Z sq) (cI cR : ClassId) (x0 : Int) (x1 : Int) (x2 : Int) (q : Int) (hf : fn_Md_inRange x0 x1 x2 = some q) : jk_MI l D jk_cl (jk_ty cI cR) Z mn_Md_inRange (.code mn_Md_inRange mb_Md_inRange 3 (some .boolean) :: jk_WA) (jk_rm 0 0) [jk_V x0, jk_V x1, jk_V x2] (wd_Md_inRange cI) (wd_Md_inRange cI) q := by
  intro sz
  refine jk_body (by decide +kernel) (fun p e s m args below meth c hsz hz hin C => ?_) (Nat.le_of_ble_eq_true rfl)
  subst hsz
  unfold fn_Md_inRange at hf
  refine jk_iload_n C rd_Md_inRange_0 (k := 0) rfl ?_
  refine jk_iload_n C rd_Md_inRange_1 (k := 1) rfl ?_
  refine jk_icmp_lt (tgt := 14) C rd_Md_inRange_2 (by decide) hf (fun _ hf => ?_) (fun _ hf => ?_)
  · refine jk_iconst C rd_Md_inRange_14 ?_
    cases hf
    exact jk_zret C (Or.inl rfl) rfl rd_Md_inRange_15 rfl
  · refine jk_iload_n C rd_Md_inRange_5 (k := 0) rfl ?_
    refine jk_iload_n C rd_Md_inRange_6 (k := 2) rfl ?_
    refine jk_icmp_gt (tgt := 14) C rd_Md_inRange_7 (by decide) hf (fun _ hf => ?_) (fun _ hf => ?_)
    · refine jk_iconst C rd_Md_inRange_14 ?_
      cases hf
      exact jk_zret C (Or.inl rfl) rfl rd_Md_inRange_15 rfl
    · refine jk_iconst C rd_Md_inRange_10 ?_
      refine jk_goto (tgt := 15) C rd_Md_inRange_11 (by decide) ?_
      cases hf
      exact jk_zret C (Or.inr rfl) rfl rd_Md_inRange_15 rfl
def wd_Md_one (cI : ClassId)  : va_W := []
set_option maxHeartbeats 4000000 in
set_option maxRecDepth 20000 in
theorem ct_Md_one (l : Launch) (D : va_G) (Z : (Nat → Prop) → State → Heap → Prop) (sq : Nat → Nat) (hZ : jk_ZK Z sq) (cI cR : ClassId) (x0 : Int) (q : Int) (hf : fn_Md_one x0 = some q) : jk_MI l D jk_cl (jk_ty cI cR) Z mn_Md_one (.code mn_Md_one mb_Md_one 1 (some .int) :: jk_WA) (jk_rm 0 0) [jk_V x0] (wd_Md_one cI) (wd_Md_one cI) q := by
  intro sz
  refine jk_body (by decide +kernel) (fun p e s m args below meth c hsz hz hin C => ?_) (Nat.le_of_ble_eq_true rfl)
  subst hsz
  unfold fn_Md_one at hf
  refine jk_iload_n C rd_Md_one_0 (k := 0) rfl ?_
  refine jk_if_eq (tgt := 8) C rd_Md_one_1 (by decide) hf (fun _ hf => ?_) (fun _ hf => ?_)
  · refine jk_iconst C rd_Md_one_8 ?_
    cases hf
    exact jk_iret C rfl rd_Md_one_9 rfl
  · refine jk_iconst C rd_Md_one_4 ?_
    refine jk_goto (tgt := 9) C rd_Md_one_5 (by decide) ?_
    cases hf
    exact jk_iret C rfl rd_Md_one_9 rfl
def wd_Md_fails (cI : ClassId) (a_t a_t_w a_t_wKept a_t_saved a_t_past a_t_input a_t_n a_t_order a_t_numbers a_t_output : Nat) (i_t_pastMany : Int) (i_t_isSaved : Int) (i_t_thrown : Int) (i_t_inputMany : Int) (i_t_lastError : Int) (i_t_lastOffset : Int) (i_t_error : Int) (i_t_offset : Int) (i_t_nextByte : Int) (i_t_begin : Int) (i_t_value : Int) (i_t_token : Int) (i_t_got : Int) (i_t_orders : Int) (i_t_outputMany : Int) : va_W := [(a_t, .inr (11, [.ref a_t_w, .ref a_t_wKept, .ref a_t_saved, .ref a_t_past, jk_V i_t_pastMany, jk_V i_t_isSaved, jk_V i_t_thrown, .ref a_t_input, jk_V i_t_inputMany, jk_V i_t_lastError, jk_V i_t_lastOffset, jk_V i_t_error, jk_V i_t_offset, jk_V i_t_nextByte, jk_V i_t_begin, jk_V i_t_value, jk_V i_t_token, jk_V i_t_got, .ref a_t_n, .ref a_t_order, .ref a_t_numbers, jk_V i_t_orders, .ref a_t_output, jk_V i_t_outputMany]))]
set_option maxHeartbeats 4000000 in
set_option maxRecDepth 20000 in
theorem ct_Md_fails (l : Launch) (D : va_G) (Z : (Nat → Prop) → State → Heap → Prop) (sq : Nat → Nat) (hZ : jk_ZK Z sq) (cI cR : ClassId) (a_t a_t_w a_t_wKept a_t_saved a_t_past a_t_input a_t_n a_t_order a_t_numbers a_t_output : Nat) (i_t_pastMany : Int) (i_t_isSaved : Int) (i_t_thrown : Int) (i_t_inputMany : Int) (i_t_lastError : Int) (i_t_lastOffset : Int) (i_t_error : Int) (i_t_offset : Int) (i_t_nextByte : Int) (i_t_begin : Int) (i_t_value : Int) (i_t_token : Int) (i_t_got : Int) (i_t_orders : Int) (i_t_outputMany : Int) (x1 : Int) (x2 : Int) (q : Int × Int) (hf : fn_Md_fails i_t_thrown x1 x2 = some q) : jk_MI l D jk_cl (jk_ty cI cR) Z mn_Md_fails (.code mn_Md_fails mb_Md_fails 3 (some .boolean) :: jk_WA) (jk_rm 0 0) [.ref a_t, jk_V x1, jk_V x2] (wd_Md_fails cI a_t a_t_w a_t_wKept a_t_saved a_t_past a_t_input a_t_n a_t_order a_t_numbers a_t_output i_t_pastMany i_t_isSaved i_t_thrown i_t_inputMany i_t_lastError i_t_lastOffset i_t_error i_t_offset i_t_nextByte i_t_begin i_t_value i_t_token i_t_got i_t_orders i_t_outputMany) (wd_Md_fails cI a_t a_t_w a_t_wKept a_t_saved a_t_past a_t_input a_t_n a_t_order a_t_numbers a_t_output i_t_pastMany i_t_isSaved q.2 i_t_inputMany i_t_lastError i_t_lastOffset i_t_error i_t_offset i_t_nextByte i_t_begin i_t_value i_t_token i_t_got i_t_orders i_t_outputMany) q.1 := by
  intro sz
  refine jk_body (by decide +kernel) (fun p e s m args below meth c hsz hz hin C => ?_) (Nat.le_of_ble_eq_true rfl)
  subst hsz
  unfold fn_Md_fails at hf
  refine jk_iload_n C rd_Md_fails_0 (k := 1) rfl ?_
  refine jk_if_eq (tgt := 9) C rd_Md_fails_1 (by decide) hf (fun _ hf => ?_) (fun _ hf => ?_)
  · refine jk_iload_n C rd_Md_fails_9 (k := 1) rfl ?_
    obtain ⟨hbo, hf⟩ := jk_bo_h hf
    cases hf
    exact jk_zret C hbo rfl rd_Md_fails_10 rfl
  · refine jk_aload_n C rd_Md_fails_4 (k := 0) rfl ?_
    refine jk_iload_n C rd_Md_fails_5 (k := 2) rfl ?_
    refine jk_putf C in_Md ty_Md nm_Md (ci := 11) rfl 6 (by decide) tm_1269 rfl rfl rfl 0 rfl (Nat.le_of_ble_eq_true rfl) rd_Md_fails_6 (ws' := wd_Md_fails cI a_t a_t_w a_t_wKept a_t_saved a_t_past a_t_input a_t_n a_t_order a_t_numbers a_t_output i_t_pastMany i_t_isSaved x2 i_t_inputMany i_t_lastError i_t_lastOffset i_t_error i_t_offset i_t_nextByte i_t_begin i_t_value i_t_token i_t_got i_t_orders i_t_outputMany) rfl ?_
    refine jk_iload_n C rd_Md_fails_9 (k := 1) rfl ?_
    obtain ⟨hbo, hf⟩ := jk_bo_h hf
    cases hf
    exact jk_zret C hbo rfl rd_Md_fails_10 rfl
def wd_Md_copies (cI : ClassId) (n_a : Nat) (n_b : Nat) (a_a a_b : Nat) (i_a : (Int → Int)) (i_b : (Int → Int)) : va_W := [(a_a, jk_W cI n_a i_a), (a_b, jk_W cI n_b i_b)]
set_option maxHeartbeats 4000000 in
set_option maxRecDepth 20000 in
theorem ct_Md_copies (l : Launch) (D : va_G) (Z : (Nat → Prop) → State → Heap → Prop) (sq : Nat → Nat) (hZ : jk_ZK Z sq) (cI cR : ClassId) {n_a : Nat} (hn_a : n_a < 2147483648) {n_b : Nat} (hn_b : n_b < 2147483648) (a_a a_b : Nat) (i_a : (Int → Int)) (i_b : (Int → Int)) (x1 : Int) (x3 : Int) (q : (Int → Int)) (hf : fn_Md_copies (n_a : Int) (n_b : Int) i_a i_b x1 x3 = some q) : jk_MV l D jk_cl (jk_ty cI cR) Z mn_Md_copies (.code mn_Md_copies mb_Md_copies 5 none :: jk_WA) (jk_rm 0 0) [.ref a_a, jk_V x1, .ref a_b, jk_V x3] (wd_Md_copies cI n_a n_b a_a a_b i_a i_b) (wd_Md_copies cI n_a n_b a_a a_b i_a q) := by
  intro sz
  refine jk_body (by decide +kernel) (fun p e s m args below meth c hsz hz hin C => ?_) (Nat.le_of_ble_eq_true rfl)
  subst hsz
  unfold fn_Md_copies at hf
  have bk_3 : ∀ (n : Nat) (b : (Int → Int)) (v1 : Int) (v3 : Int) (v4 : Int), fn_Md_copies_b3 n (n_a : Int) (n_b : Int) i_a b v1 v3 v4 = some q → jk_J p l e (jk_rm 0 0) s m args below meth c 0 0 (jk_QV below D jk_cl (jk_ty cI cR) (wd_Md_copies cI n_a n_b a_a a_b i_a i_b) (wd_Md_copies cI n_a n_b a_a a_b i_a q) args s) D jk_cl (va_A (wd_Md_copies cI n_a n_b a_a a_b i_a i_b) s.heap.size) 5 (wd_Md_copies cI n_a n_b a_a a_b i_a b) [(0, .ref a_a), (1, jk_V v1), (2, .ref a_b), (3, jk_V v3), (4, jk_V v4)] 3 [] := by
    intro n
    induction n with
    | zero => intro b v1 v3 v4 hf; exact nomatch (show none = some q from hf)
    | succ n ih =>
      intro b v1 v3 v4 hf
      rw [fn_Md_copies_b3] at hf
      refine jk_iload C rd_Md_copies_3 (k := 4) rfl ?_
      refine jk_sipush C rd_Md_copies_5 (by decide +kernel) ?_
      refine jk_icmp_ge (tgt := 29) C rd_Md_copies_8 (by decide) hf (fun _ hf => ?_) (fun _ hf => ?_)
      · cases hf
        exact jk_vret C rfl rd_Md_copies_29 rfl
      · refine jk_aload_n C rd_Md_copies_11 (k := 2) rfl ?_
        refine jk_iload_n C rd_Md_copies_12 (k := 3) rfl ?_
        refine jk_iload C rd_Md_copies_13 (k := 4) rfl ?_
        refine jk_iadd C rd_Md_copies_15 ?_
        refine jk_aload_n C rd_Md_copies_16 (k := 0) rfl ?_
        refine jk_iload_n C rd_Md_copies_17 (k := 1) rfl ?_
        refine jk_iload C rd_Md_copies_18 (k := 4) rfl ?_
        refine jk_iadd C rd_Md_copies_20 ?_
        refine jk_iald C 0 0 rfl rfl hn_a rd_Md_copies_21 hf (fun hf => ?_)
        refine jk_iast C 1 0 rfl rfl hn_b rd_Md_copies_22 hf (ws' := wd_Md_copies cI n_a n_b a_a a_b i_a (jk_up b (v3 + v4) (i_a (v1 + v4)))) rfl (fun hf => ?_)
        refine jk_iinc C rd_Md_copies_23 (k := 4) rfl (by decide) (lv' := [(4, jk_V (v4 + 1)), (0, .ref a_a), (1, jk_V v1), (2, .ref a_b), (3, jk_V v3)]) rfl ?_
        refine jk_goto (tgt := 3) C rd_Md_copies_26 (by decide) ?_
        refine jk_lv (lv' := [(0, .ref a_a), (1, jk_V v1), (2, .ref a_b), (3, jk_V v3), (4, jk_V (v4 + 1))]) [1, 2, 3, 4, 0] rfl ?_
        exact ih (jk_up b (v3 + v4) (i_a (v1 + v4))) v1 v3 (v4 + 1) hf
  refine jk_iconst C rd_Md_copies_0 ?_
  refine jk_istore C rd_Md_copies_1 (by decide) (lv' := [(4, jk_V 0), (0, .ref a_a), (1, jk_V x1), (2, .ref a_b), (3, jk_V x3)]) rfl ?_
  refine jk_lv (lv' := [(0, .ref a_a), (1, jk_V x1), (2, .ref a_b), (3, jk_V x3), (4, jk_V 0)]) [1, 2, 3, 4, 0] rfl ?_
  exact bk_3 jk_F i_b x1 x3 0 hf
def wd_Md_begins (cI : ClassId) (a_t a_t_w a_t_wKept a_t_saved a_t_past a_t_input a_t_n a_t_order a_t_numbers a_t_output : Nat) (i_t_pastMany : Int) (i_t_isSaved : Int) (i_t_thrown : Int) (i_t_inputMany : Int) (i_t_lastError : Int) (i_t_lastOffset : Int) (i_t_error : Int) (i_t_offset : Int) (i_t_nextByte : Int) (i_t_begin : Int) (i_t_value : Int) (i_t_token : Int) (i_t_got : Int) (i_t_orders : Int) (i_t_outputMany : Int) (i_t_w : (Int → Int)) : va_W := [(a_t, .inr (11, [.ref a_t_w, .ref a_t_wKept, .ref a_t_saved, .ref a_t_past, jk_V i_t_pastMany, jk_V i_t_isSaved, jk_V i_t_thrown, .ref a_t_input, jk_V i_t_inputMany, jk_V i_t_lastError, jk_V i_t_lastOffset, jk_V i_t_error, jk_V i_t_offset, jk_V i_t_nextByte, jk_V i_t_begin, jk_V i_t_value, jk_V i_t_token, jk_V i_t_got, .ref a_t_n, .ref a_t_order, .ref a_t_numbers, jk_V i_t_orders, .ref a_t_output, jk_V i_t_outputMany])), (a_t_w, jk_W cI 259 i_t_w)]
set_option maxHeartbeats 4000000 in
set_option maxRecDepth 20000 in
theorem ct_Md_begins (l : Launch) (D : va_G) (Z : (Nat → Prop) → State → Heap → Prop) (sq : Nat → Nat) (hZ : jk_ZK Z sq) (cI cR : ClassId) (a_t a_t_w a_t_wKept a_t_saved a_t_past a_t_input a_t_n a_t_order a_t_numbers a_t_output : Nat) (i_t_pastMany : Int) (i_t_isSaved : Int) (i_t_thrown : Int) (i_t_inputMany : Int) (i_t_lastError : Int) (i_t_lastOffset : Int) (i_t_error : Int) (i_t_offset : Int) (i_t_nextByte : Int) (i_t_begin : Int) (i_t_value : Int) (i_t_token : Int) (i_t_got : Int) (i_t_orders : Int) (i_t_outputMany : Int) (i_t_w : (Int → Int)) (q : (Int → Int)) (hf : fn_Md_begins i_t_w = some q) : jk_MV l D jk_cl (jk_ty cI cR) Z mn_Md_begins (.code mn_Md_begins mb_Md_begins 2 none :: jk_WA) (jk_rm 0 0) [.ref a_t] (wd_Md_begins cI a_t a_t_w a_t_wKept a_t_saved a_t_past a_t_input a_t_n a_t_order a_t_numbers a_t_output i_t_pastMany i_t_isSaved i_t_thrown i_t_inputMany i_t_lastError i_t_lastOffset i_t_error i_t_offset i_t_nextByte i_t_begin i_t_value i_t_token i_t_got i_t_orders i_t_outputMany i_t_w) (wd_Md_begins cI a_t a_t_w a_t_wKept a_t_saved a_t_past a_t_input a_t_n a_t_order a_t_numbers a_t_output i_t_pastMany i_t_isSaved i_t_thrown i_t_inputMany i_t_lastError i_t_lastOffset i_t_error i_t_offset i_t_nextByte i_t_begin i_t_value i_t_token i_t_got i_t_orders i_t_outputMany q) := by
  intro sz
  refine jk_body (by decide +kernel) (fun p e s m args below meth c hsz hz hin C => ?_) (Nat.le_of_ble_eq_true rfl)
  subst hsz
  unfold fn_Md_begins at hf
  have bk_2 : ∀ (n : Nat) (t_w : (Int → Int)) (v1 : Int), fn_Md_begins_b2 n t_w v1 = some q → jk_J p l e (jk_rm 0 0) s m args below meth c 0 0 (jk_QV below D jk_cl (jk_ty cI cR) (wd_Md_begins cI a_t a_t_w a_t_wKept a_t_saved a_t_past a_t_input a_t_n a_t_order a_t_numbers a_t_output i_t_pastMany i_t_isSaved i_t_thrown i_t_inputMany i_t_lastError i_t_lastOffset i_t_error i_t_offset i_t_nextByte i_t_begin i_t_value i_t_token i_t_got i_t_orders i_t_outputMany i_t_w) (wd_Md_begins cI a_t a_t_w a_t_wKept a_t_saved a_t_past a_t_input a_t_n a_t_order a_t_numbers a_t_output i_t_pastMany i_t_isSaved i_t_thrown i_t_inputMany i_t_lastError i_t_lastOffset i_t_error i_t_offset i_t_nextByte i_t_begin i_t_value i_t_token i_t_got i_t_orders i_t_outputMany q) args s) D jk_cl (va_A (wd_Md_begins cI a_t a_t_w a_t_wKept a_t_saved a_t_past a_t_input a_t_n a_t_order a_t_numbers a_t_output i_t_pastMany i_t_isSaved i_t_thrown i_t_inputMany i_t_lastError i_t_lastOffset i_t_error i_t_offset i_t_nextByte i_t_begin i_t_value i_t_token i_t_got i_t_orders i_t_outputMany i_t_w) s.heap.size) 2 (wd_Md_begins cI a_t a_t_w a_t_wKept a_t_saved a_t_past a_t_input a_t_n a_t_order a_t_numbers a_t_output i_t_pastMany i_t_isSaved i_t_thrown i_t_inputMany i_t_lastError i_t_lastOffset i_t_error i_t_offset i_t_nextByte i_t_begin i_t_value i_t_token i_t_got i_t_orders i_t_outputMany t_w) [(0, .ref a_t), (1, jk_V v1)] 2 [] := by
    intro n
    induction n with
    | zero => intro t_w v1 hf; exact nomatch (show none = some q from hf)
    | succ n ih =>
      intro t_w v1 hf
      rw [fn_Md_begins_b2] at hf
      refine jk_iload_n C rd_Md_begins_2 (k := 1) rfl ?_
      refine jk_sipush C rd_Md_begins_3 (by decide +kernel) ?_
      refine jk_icmp_ge (tgt := 22) C rd_Md_begins_6 (by decide) hf (fun _ hf => ?_) (fun _ hf => ?_)
      · cases hf
        exact jk_vret C rfl rd_Md_begins_22 rfl
      · refine jk_aload_n C rd_Md_begins_9 (k := 0) rfl ?_
        refine jk_get C in_Md (ci := 11) rfl 0 (by decide) tm_1263 0 rfl rfl rd_Md_begins_10 ?_
        refine jk_iload_n C rd_Md_begins_13 (k := 1) rfl ?_
        refine jk_iconst C rd_Md_begins_14 ?_
        refine jk_iast C 1 0 rfl rfl (Nat.le_of_ble_eq_true rfl) rd_Md_begins_15 hf (ws' := wd_Md_begins cI a_t a_t_w a_t_wKept a_t_saved a_t_past a_t_input a_t_n a_t_order a_t_numbers a_t_output i_t_pastMany i_t_isSaved i_t_thrown i_t_inputMany i_t_lastError i_t_lastOffset i_t_error i_t_offset i_t_nextByte i_t_begin i_t_value i_t_token i_t_got i_t_orders i_t_outputMany (jk_up t_w v1 0)) rfl (fun hf => ?_)
        refine jk_iinc C rd_Md_begins_16 (k := 1) rfl (by decide) (lv' := [(1, jk_V (v1 + 1)), (0, .ref a_t)]) rfl ?_
        refine jk_goto (tgt := 2) C rd_Md_begins_19 (by decide) ?_
        refine jk_lv (lv' := [(0, .ref a_t), (1, jk_V (v1 + 1))]) [1, 0] rfl ?_
        exact ih (jk_up t_w v1 0) (v1 + 1) hf
  refine jk_iconst C rd_Md_begins_0 ?_
  refine jk_istore_n C rd_Md_begins_1 (by decide) (lv' := [(1, jk_V 0), (0, .ref a_t)]) rfl ?_
  refine jk_lv (lv' := [(0, .ref a_t), (1, jk_V 0)]) [1, 0] rfl ?_
  exact bk_2 jk_F i_t_w 0 hf
def wd_Md_spells (cI : ClassId) (a_t a_t_w a_t_wKept a_t_saved a_t_past a_t_input a_t_n a_t_order a_t_numbers a_t_output : Nat) (i_t_pastMany : Int) (i_t_isSaved : Int) (i_t_thrown : Int) (i_t_inputMany : Int) (i_t_lastError : Int) (i_t_lastOffset : Int) (i_t_error : Int) (i_t_offset : Int) (i_t_nextByte : Int) (i_t_begin : Int) (i_t_value : Int) (i_t_token : Int) (i_t_got : Int) (i_t_orders : Int) (i_t_outputMany : Int) (i_t_w : (Int → Int)) : va_W := [(a_t, .inr (11, [.ref a_t_w, .ref a_t_wKept, .ref a_t_saved, .ref a_t_past, jk_V i_t_pastMany, jk_V i_t_isSaved, jk_V i_t_thrown, .ref a_t_input, jk_V i_t_inputMany, jk_V i_t_lastError, jk_V i_t_lastOffset, jk_V i_t_error, jk_V i_t_offset, jk_V i_t_nextByte, jk_V i_t_begin, jk_V i_t_value, jk_V i_t_token, jk_V i_t_got, .ref a_t_n, .ref a_t_order, .ref a_t_numbers, jk_V i_t_orders, .ref a_t_output, jk_V i_t_outputMany])), (a_t_w, jk_W cI 259 i_t_w)]
set_option maxHeartbeats 4000000 in
set_option maxRecDepth 20000 in
theorem ct_Md_spells (l : Launch) (D : va_G) (Z : (Nat → Prop) → State → Heap → Prop) (sq : Nat → Nat) (hZ : jk_ZK Z sq) (cI cR : ClassId) (a_t a_t_w a_t_wKept a_t_saved a_t_past a_t_input a_t_n a_t_order a_t_numbers a_t_output : Nat) (i_t_pastMany : Int) (i_t_isSaved : Int) (i_t_thrown : Int) (i_t_inputMany : Int) (i_t_lastError : Int) (i_t_lastOffset : Int) (i_t_error : Int) (i_t_offset : Int) (i_t_nextByte : Int) (i_t_begin : Int) (i_t_value : Int) (i_t_token : Int) (i_t_got : Int) (i_t_orders : Int) (i_t_outputMany : Int) (i_t_w : (Int → Int)) (x1 : Int) (x2 : Int) (x3 : Int) (x4 : Int) (x5 : Int) (x6 : Int) (q : (Int → Int)) (hf : fn_Md_spells i_t_w x1 x2 x3 x4 x5 x6 = some q) : jk_MV l D jk_cl (jk_ty cI cR) Z mn_Md_spells (.code mn_Md_spells mb_Md_spells 8 none :: jk_WA) (jk_rm 0 0) [.ref a_t, jk_V x1, jk_V x2, jk_V x3, jk_V x4, jk_V x5, jk_V x6] (wd_Md_spells cI a_t a_t_w a_t_wKept a_t_saved a_t_past a_t_input a_t_n a_t_order a_t_numbers a_t_output i_t_pastMany i_t_isSaved i_t_thrown i_t_inputMany i_t_lastError i_t_lastOffset i_t_error i_t_offset i_t_nextByte i_t_begin i_t_value i_t_token i_t_got i_t_orders i_t_outputMany i_t_w) (wd_Md_spells cI a_t a_t_w a_t_wKept a_t_saved a_t_past a_t_input a_t_n a_t_order a_t_numbers a_t_output i_t_pastMany i_t_isSaved i_t_thrown i_t_inputMany i_t_lastError i_t_lastOffset i_t_error i_t_offset i_t_nextByte i_t_begin i_t_value i_t_token i_t_got i_t_orders i_t_outputMany q) := by
  intro sz
  refine jk_body (by decide +kernel) (fun p e s m args below meth c hsz hz hin C => ?_) (Nat.le_of_ble_eq_true rfl)
  subst hsz
  unfold fn_Md_spells at hf
  refine jk_iconst C rd_Md_spells_0 ?_
  refine jk_bipush C rd_Md_spells_1 (by decide +kernel) ?_
  refine jk_aload_n C rd_Md_spells_3 (k := 0) rfl ?_
  refine jk_get C in_Md (ci := 11) rfl 0 (by decide) tm_1263 0 rfl rfl rd_Md_spells_4 ?_
  refine jk_iconst C rd_Md_spells_7 ?_
  refine jk_iald C 1 0 rfl rfl (Nat.le_of_ble_eq_true rfl) rd_Md_spells_8 hf (fun hf => ?_)
  refine jk_imul C rd_Md_spells_9 ?_
  refine jk_iadd C rd_Md_spells_10 ?_
  refine jk_istore C rd_Md_spells_11 (by decide) (lv' := [(7, jk_V (3 + (7 * (i_t_w 0)))), (0, .ref a_t), (1, jk_V x1), (2, jk_V x2), (3, jk_V x3), (4, jk_V x4), (5, jk_V x5), (6, jk_V x6)]) rfl ?_
  refine jk_aload_n C rd_Md_spells_13 (k := 1) rfl ?_
  refine jk_get C in_Md (ci := 11) rfl 0 (by decide) tm_1263 0 rfl rfl rd_Md_spells_14 ?_
  refine jk_iload C rd_Md_spells_17 (k := 0) rfl ?_
  refine jk_iconst C rd_Md_spells_19 ?_
  refine jk_iadd C rd_Md_spells_20 ?_
  refine jk_iload C rd_Md_spells_21 (k := 7) rfl ?_
  refine jk_iast C 1 0 rfl rfl (Nat.le_of_ble_eq_true rfl) rd_Md_spells_23 hf (ws' := wd_Md_spells cI a_t a_t_w a_t_wKept a_t_saved a_t_past a_t_input a_t_n a_t_order a_t_numbers a_t_output i_t_pastMany i_t_isSaved i_t_thrown i_t_inputMany i_t_lastError i_t_lastOffset i_t_error i_t_offset i_t_nextByte i_t_begin i_t_value i_t_token i_t_got i_t_orders i_t_outputMany (jk_up i_t_w ((3 + (7 * (i_t_w 0))) + 0) x6)) rfl (fun hf => ?_)
  refine jk_aload_n C rd_Md_spells_24 (k := 1) rfl ?_
  refine jk_get C in_Md (ci := 11) rfl 0 (by decide) tm_1263 0 rfl rfl rd_Md_spells_25 ?_
  refine jk_iload C rd_Md_spells_28 (k := 0) rfl ?_
  refine jk_iconst C rd_Md_spells_30 ?_
  refine jk_iadd C rd_Md_spells_31 ?_
  refine jk_iload_n C rd_Md_spells_32 (k := 2) rfl ?_
  refine jk_iast C 1 0 rfl rfl (Nat.le_of_ble_eq_true rfl) rd_Md_spells_33 hf (ws' := wd_Md_spells cI a_t a_t_w a_t_wKept a_t_saved a_t_past a_t_input a_t_n a_t_order a_t_numbers a_t_output i_t_pastMany i_t_isSaved i_t_thrown i_t_inputMany i_t_lastError i_t_lastOffset i_t_error i_t_offset i_t_nextByte i_t_begin i_t_value i_t_token i_t_got i_t_orders i_t_outputMany (jk_up (jk_up i_t_w ((3 + (7 * (i_t_w 0))) + 0) x6) ((3 + (7 * (i_t_w 0))) + 1) x1)) rfl (fun hf => ?_)
  refine jk_aload_n C rd_Md_spells_34 (k := 1) rfl ?_
  refine jk_get C in_Md (ci := 11) rfl 0 (by decide) tm_1263 0 rfl rfl rd_Md_spells_35 ?_
  refine jk_iload C rd_Md_spells_38 (k := 0) rfl ?_
  refine jk_iconst C rd_Md_spells_40 ?_
  refine jk_iadd C rd_Md_spells_41 ?_
  refine jk_iconst C rd_Md_spells_42 ?_
  refine jk_iadd C rd_Md_spells_43 ?_
  refine jk_iload_n C rd_Md_spells_44 (k := 3) rfl ?_
  refine jk_iast C 1 0 rfl rfl (Nat.le_of_ble_eq_true rfl) rd_Md_spells_45 hf (ws' := wd_Md_spells cI a_t a_t_w a_t_wKept a_t_saved a_t_past a_t_input a_t_n a_t_order a_t_numbers a_t_output i_t_pastMany i_t_isSaved i_t_thrown i_t_inputMany i_t_lastError i_t_lastOffset i_t_error i_t_offset i_t_nextByte i_t_begin i_t_value i_t_token i_t_got i_t_orders i_t_outputMany (jk_up (jk_up (jk_up i_t_w ((3 + (7 * (i_t_w 0))) + 0) x6) ((3 + (7 * (i_t_w 0))) + 1) x1) (((3 + (7 * (i_t_w 0))) + 1) + 1) x2)) rfl (fun hf => ?_)
  refine jk_aload_n C rd_Md_spells_46 (k := 1) rfl ?_
  refine jk_get C in_Md (ci := 11) rfl 0 (by decide) tm_1263 0 rfl rfl rd_Md_spells_47 ?_
  refine jk_iload C rd_Md_spells_50 (k := 0) rfl ?_
  refine jk_iconst C rd_Md_spells_52 ?_
  refine jk_iadd C rd_Md_spells_53 ?_
  refine jk_iconst C rd_Md_spells_54 ?_
  refine jk_iadd C rd_Md_spells_55 ?_
  refine jk_iload_n C rd_Md_spells_56 (k := 4) rfl ?_
  refine jk_iast C 1 0 rfl rfl (Nat.le_of_ble_eq_true rfl) rd_Md_spells_57 hf (ws' := wd_Md_spells cI a_t a_t_w a_t_wKept a_t_saved a_t_past a_t_input a_t_n a_t_order a_t_numbers a_t_output i_t_pastMany i_t_isSaved i_t_thrown i_t_inputMany i_t_lastError i_t_lastOffset i_t_error i_t_offset i_t_nextByte i_t_begin i_t_value i_t_token i_t_got i_t_orders i_t_outputMany (jk_up (jk_up (jk_up (jk_up i_t_w ((3 + (7 * (i_t_w 0))) + 0) x6) ((3 + (7 * (i_t_w 0))) + 1) x1) (((3 + (7 * (i_t_w 0))) + 1) + 1) x2) (((3 + (7 * (i_t_w 0))) + 1) + 2) x3)) rfl (fun hf => ?_)
  refine jk_aload_n C rd_Md_spells_58 (k := 1) rfl ?_
  refine jk_get C in_Md (ci := 11) rfl 0 (by decide) tm_1263 0 rfl rfl rd_Md_spells_59 ?_
  refine jk_iload C rd_Md_spells_62 (k := 0) rfl ?_
  refine jk_iconst C rd_Md_spells_64 ?_
  refine jk_iadd C rd_Md_spells_65 ?_
  refine jk_iconst C rd_Md_spells_66 ?_
  refine jk_iadd C rd_Md_spells_67 ?_
  refine jk_iload C rd_Md_spells_68 (k := 5) rfl ?_
  refine jk_iast C 1 0 rfl rfl (Nat.le_of_ble_eq_true rfl) rd_Md_spells_70 hf (ws' := wd_Md_spells cI a_t a_t_w a_t_wKept a_t_saved a_t_past a_t_input a_t_n a_t_order a_t_numbers a_t_output i_t_pastMany i_t_isSaved i_t_thrown i_t_inputMany i_t_lastError i_t_lastOffset i_t_error i_t_offset i_t_nextByte i_t_begin i_t_value i_t_token i_t_got i_t_orders i_t_outputMany (jk_up (jk_up (jk_up (jk_up (jk_up i_t_w ((3 + (7 * (i_t_w 0))) + 0) x6) ((3 + (7 * (i_t_w 0))) + 1) x1) (((3 + (7 * (i_t_w 0))) + 1) + 1) x2) (((3 + (7 * (i_t_w 0))) + 1) + 2) x3) (((3 + (7 * (i_t_w 0))) + 1) + 3) x4)) rfl (fun hf => ?_)
  refine jk_aload_n C rd_Md_spells_71 (k := 1) rfl ?_
  refine jk_get C in_Md (ci := 11) rfl 0 (by decide) tm_1263 0 rfl rfl rd_Md_spells_72 ?_
  refine jk_iload C rd_Md_spells_75 (k := 0) rfl ?_
  refine jk_iconst C rd_Md_spells_77 ?_
  refine jk_iadd C rd_Md_spells_78 ?_
  refine jk_iconst C rd_Md_spells_79 ?_
  refine jk_iadd C rd_Md_spells_80 ?_
  refine jk_iload C rd_Md_spells_81 (k := 6) rfl ?_
  refine jk_iast C 1 0 rfl rfl (Nat.le_of_ble_eq_true rfl) rd_Md_spells_83 hf (ws' := wd_Md_spells cI a_t a_t_w a_t_wKept a_t_saved a_t_past a_t_input a_t_n a_t_order a_t_numbers a_t_output i_t_pastMany i_t_isSaved i_t_thrown i_t_inputMany i_t_lastError i_t_lastOffset i_t_error i_t_offset i_t_nextByte i_t_begin i_t_value i_t_token i_t_got i_t_orders i_t_outputMany (jk_up (jk_up (jk_up (jk_up (jk_up (jk_up i_t_w ((3 + (7 * (i_t_w 0))) + 0) x6) ((3 + (7 * (i_t_w 0))) + 1) x1) (((3 + (7 * (i_t_w 0))) + 1) + 1) x2) (((3 + (7 * (i_t_w 0))) + 1) + 2) x3) (((3 + (7 * (i_t_w 0))) + 1) + 3) x4) (((3 + (7 * (i_t_w 0))) + 1) + 4) x5)) rfl (fun hf => ?_)
  refine jk_aload_n C rd_Md_spells_84 (k := 1) rfl ?_
  refine jk_get C in_Md (ci := 11) rfl 0 (by decide) tm_1263 0 rfl rfl rd_Md_spells_85 ?_
  refine jk_iconst C rd_Md_spells_88 ?_
  refine jk_dup2 C rd_Md_spells_89 rfl rfl ?_
  refine jk_iald C 1 0 rfl rfl (Nat.le_of_ble_eq_true rfl) rd_Md_spells_90 hf (fun hf => ?_)
  refine jk_iconst C rd_Md_spells_91 ?_
  refine jk_iadd C rd_Md_spells_92 ?_
  refine jk_iast C 1 0 rfl rfl (Nat.le_of_ble_eq_true rfl) rd_Md_spells_93 hf (ws' := wd_Md_spells cI a_t a_t_w a_t_wKept a_t_saved a_t_past a_t_input a_t_n a_t_order a_t_numbers a_t_output i_t_pastMany i_t_isSaved i_t_thrown i_t_inputMany i_t_lastError i_t_lastOffset i_t_error i_t_offset i_t_nextByte i_t_begin i_t_value i_t_token i_t_got i_t_orders i_t_outputMany (jk_up (jk_up (jk_up (jk_up (jk_up (jk_up (jk_up i_t_w ((3 + (7 * (i_t_w 0))) + 0) x6) ((3 + (7 * (i_t_w 0))) + 1) x1) (((3 + (7 * (i_t_w 0))) + 1) + 1) x2) (((3 + (7 * (i_t_w 0))) + 1) + 2) x3) (((3 + (7 * (i_t_w 0))) + 1) + 3) x4) (((3 + (7 * (i_t_w 0))) + 1) + 4) x5) 0 (((jk_up (jk_up (jk_up (jk_up (jk_up (jk_up i_t_w ((3 + (7 * (i_t_w 0))) + 0) x6) ((3 + (7 * (i_t_w 0))) + 1) x1) (((3 + (7 * (i_t_w 0))) + 1) + 1) x2) (((3 + (7 * (i_t_w 0))) + 1) + 2) x3) (((3 + (7 * (i_t_w 0))) + 1) + 3) x4) (((3 + (7 * (i_t_w 0))) + 1) + 4) x5) 0) + 1))) rfl (fun hf => ?_)
  cases hf
  exact jk_vret C rfl rd_Md_spells_94 rfl
def wd_Md_ofTopic (cI : ClassId) (a_t a_t_w a_t_wKept a_t_saved a_t_past a_t_input a_t_n a_t_order a_t_numbers a_t_output : Nat) (i_t_pastMany : Int) (i_t_isSaved : Int) (i_t_thrown : Int) (i_t_inputMany : Int) (i_t_lastError : Int) (i_t_lastOffset : Int) (i_t_error : Int) (i_t_offset : Int) (i_t_nextByte : Int) (i_t_begin : Int) (i_t_value : Int) (i_t_token : Int) (i_t_got : Int) (i_t_orders : Int) (i_t_outputMany : Int) (i_t_w : (Int → Int)) : va_W := [(a_t, .inr (11, [.ref a_t_w, .ref a_t_wKept, .ref a_t_saved, .ref a_t_past, jk_V i_t_pastMany, jk_V i_t_isSaved, jk_V i_t_thrown, .ref a_t_input, jk_V i_t_inputMany, jk_V i_t_lastError, jk_V i_t_lastOffset, jk_V i_t_error, jk_V i_t_offset, jk_V i_t_nextByte, jk_V i_t_begin, jk_V i_t_value, jk_V i_t_token, jk_V i_t_got, .ref a_t_n, .ref a_t_order, .ref a_t_numbers, jk_V i_t_orders, .ref a_t_output, jk_V i_t_outputMany])), (a_t_w, jk_W cI 259 i_t_w)]
set_option maxHeartbeats 4000000 in
set_option maxRecDepth 20000 in
theorem ct_Md_ofTopic (l : Launch) (D : va_G) (Z : (Nat → Prop) → State → Heap → Prop) (sq : Nat → Nat) (hZ : jk_ZK Z sq) (cI cR : ClassId) (a_t a_t_w a_t_wKept a_t_saved a_t_past a_t_input a_t_n a_t_order a_t_numbers a_t_output : Nat) (i_t_pastMany : Int) (i_t_isSaved : Int) (i_t_thrown : Int) (i_t_inputMany : Int) (i_t_lastError : Int) (i_t_lastOffset : Int) (i_t_error : Int) (i_t_offset : Int) (i_t_nextByte : Int) (i_t_begin : Int) (i_t_value : Int) (i_t_token : Int) (i_t_got : Int) (i_t_orders : Int) (i_t_outputMany : Int) (i_t_w : (Int → Int)) (x1 : Int) (x2 : Int) (q : Int) (hf : fn_Md_ofTopic i_t_w x1 x2 = some q) : jk_MI l D jk_cl (jk_ty cI cR) Z mn_Md_ofTopic (.code mn_Md_ofTopic mb_Md_ofTopic 3 (some .int) :: jk_WA) (jk_rm 0 0) [.ref a_t, jk_V x1, jk_V x2] (wd_Md_ofTopic cI a_t a_t_w a_t_wKept a_t_saved a_t_past a_t_input a_t_n a_t_order a_t_numbers a_t_output i_t_pastMany i_t_isSaved i_t_thrown i_t_inputMany i_t_lastError i_t_lastOffset i_t_error i_t_offset i_t_nextByte i_t_begin i_t_value i_t_token i_t_got i_t_orders i_t_outputMany i_t_w) (wd_Md_ofTopic cI a_t a_t_w a_t_wKept a_t_saved a_t_past a_t_input a_t_n a_t_order a_t_numbers a_t_output i_t_pastMany i_t_isSaved i_t_thrown i_t_inputMany i_t_lastError i_t_lastOffset i_t_error i_t_offset i_t_nextByte i_t_begin i_t_value i_t_token i_t_got i_t_orders i_t_outputMany i_t_w) q := by
  intro sz
  refine jk_body (by decide +kernel) (fun p e s m args below meth c hsz hz hin C => ?_) (Nat.le_of_ble_eq_true rfl)
  subst hsz
  unfold fn_Md_ofTopic at hf
  refine jk_aload_n C rd_Md_ofTopic_0 (k := 0) rfl ?_
  refine jk_get C in_Md (ci := 11) rfl 0 (by decide) tm_1263 0 rfl rfl rd_Md_ofTopic_1 ?_
  refine jk_iconst C rd_Md_ofTopic_4 ?_
  refine jk_bipush C rd_Md_ofTopic_5 (by decide +kernel) ?_
  refine jk_iload_n C rd_Md_ofTopic_7 (k := 1) rfl ?_
  refine jk_imul C rd_Md_ofTopic_8 ?_
  refine jk_iadd C rd_Md_ofTopic_9 ?_
  refine jk_iload_n C rd_Md_ofTopic_10 (k := 2) rfl ?_
  refine jk_iadd C rd_Md_ofTopic_11 ?_
  refine jk_iald C 1 0 rfl rfl (Nat.le_of_ble_eq_true rfl) rd_Md_ofTopic_12 hf (fun hf => ?_)
  cases hf
  exact jk_iret C rfl rd_Md_ofTopic_13 rfl
def wd_Md_of (cI : ClassId) (a_t a_t_w a_t_wKept a_t_saved a_t_past a_t_input a_t_n a_t_order a_t_numbers a_t_output : Nat) (i_t_pastMany : Int) (i_t_isSaved : Int) (i_t_thrown : Int) (i_t_inputMany : Int) (i_t_lastError : Int) (i_t_lastOffset : Int) (i_t_error : Int) (i_t_offset : Int) (i_t_nextByte : Int) (i_t_begin : Int) (i_t_value : Int) (i_t_token : Int) (i_t_got : Int) (i_t_orders : Int) (i_t_outputMany : Int) (i_t_w : (Int → Int)) : va_W := [(a_t, .inr (11, [.ref a_t_w, .ref a_t_wKept, .ref a_t_saved, .ref a_t_past, jk_V i_t_pastMany, jk_V i_t_isSaved, jk_V i_t_thrown, .ref a_t_input, jk_V i_t_inputMany, jk_V i_t_lastError, jk_V i_t_lastOffset, jk_V i_t_error, jk_V i_t_offset, jk_V i_t_nextByte, jk_V i_t_begin, jk_V i_t_value, jk_V i_t_token, jk_V i_t_got, .ref a_t_n, .ref a_t_order, .ref a_t_numbers, jk_V i_t_orders, .ref a_t_output, jk_V i_t_outputMany])), (a_t_w, jk_W cI 259 i_t_w)]
set_option maxHeartbeats 4000000 in
set_option maxRecDepth 20000 in
theorem ct_Md_of (l : Launch) (D : va_G) (Z : (Nat → Prop) → State → Heap → Prop) (sq : Nat → Nat) (hZ : jk_ZK Z sq) (cI cR : ClassId) (a_t a_t_w a_t_wKept a_t_saved a_t_past a_t_input a_t_n a_t_order a_t_numbers a_t_output : Nat) (i_t_pastMany : Int) (i_t_isSaved : Int) (i_t_thrown : Int) (i_t_inputMany : Int) (i_t_lastError : Int) (i_t_lastOffset : Int) (i_t_error : Int) (i_t_offset : Int) (i_t_nextByte : Int) (i_t_begin : Int) (i_t_value : Int) (i_t_token : Int) (i_t_got : Int) (i_t_orders : Int) (i_t_outputMany : Int) (i_t_w : (Int → Int)) (x1 : Int) (x2 : Int) (q : Int) (hf : fn_Md_of i_t_w x1 x2 = some q) : jk_MI l D jk_cl (jk_ty cI cR) Z mn_Md_of (.code mn_Md_of mb_Md_of 3 (some .int) :: jk_WA) (jk_rm 0 0) [.ref a_t, jk_V x1, jk_V x2] (wd_Md_of cI a_t a_t_w a_t_wKept a_t_saved a_t_past a_t_input a_t_n a_t_order a_t_numbers a_t_output i_t_pastMany i_t_isSaved i_t_thrown i_t_inputMany i_t_lastError i_t_lastOffset i_t_error i_t_offset i_t_nextByte i_t_begin i_t_value i_t_token i_t_got i_t_orders i_t_outputMany i_t_w) (wd_Md_of cI a_t a_t_w a_t_wKept a_t_saved a_t_past a_t_input a_t_n a_t_order a_t_numbers a_t_output i_t_pastMany i_t_isSaved i_t_thrown i_t_inputMany i_t_lastError i_t_lastOffset i_t_error i_t_offset i_t_nextByte i_t_begin i_t_value i_t_token i_t_got i_t_orders i_t_outputMany i_t_w) q := by
  intro sz
  refine jk_body (by decide +kernel) (fun p e s m args below meth c hsz hz hin C => ?_) (Nat.le_of_ble_eq_true rfl)
  subst hsz
  unfold fn_Md_of at hf
  refine jk_aload_n C rd_Md_of_0 (k := 0) rfl ?_
  refine jk_get C in_Md (ci := 11) rfl 0 (by decide) tm_1263 0 rfl rfl rd_Md_of_1 ?_
  refine jk_bipush C rd_Md_of_4 (by decide +kernel) ?_
  refine jk_iconst C rd_Md_of_6 ?_
  refine jk_iload_n C rd_Md_of_7 (k := 1) rfl ?_
  refine jk_imul C rd_Md_of_8 ?_
  refine jk_iadd C rd_Md_of_9 ?_
  refine jk_iload_n C rd_Md_of_10 (k := 2) rfl ?_
  refine jk_iadd C rd_Md_of_11 ?_
  refine jk_iald C 1 0 rfl rfl (Nat.le_of_ble_eq_true rfl) rd_Md_of_12 hf (fun hf => ?_)
  cases hf
  exact jk_iret C rfl rd_Md_of_13 rfl
def wd_Md_puts (cI : ClassId) (a_t a_t_w a_t_wKept a_t_saved a_t_past a_t_input a_t_n a_t_order a_t_numbers a_t_output : Nat) (i_t_pastMany : Int) (i_t_isSaved : Int) (i_t_thrown : Int) (i_t_inputMany : Int) (i_t_lastError : Int) (i_t_lastOffset : Int) (i_t_error : Int) (i_t_offset : Int) (i_t_nextByte : Int) (i_t_begin : Int) (i_t_value : Int) (i_t_token : Int) (i_t_got : Int) (i_t_orders : Int) (i_t_outputMany : Int) (i_t_w : (Int → Int)) : va_W := [(a_t, .inr (11, [.ref a_t_w, .ref a_t_wKept, .ref a_t_saved, .ref a_t_past, jk_V i_t_pastMany, jk_V i_t_isSaved, jk_V i_t_thrown, .ref a_t_input, jk_V i_t_inputMany, jk_V i_t_lastError, jk_V i_t_lastOffset, jk_V i_t_error, jk_V i_t_offset, jk_V i_t_nextByte, jk_V i_t_begin, jk_V i_t_value, jk_V i_t_token, jk_V i_t_got, .ref a_t_n, .ref a_t_order, .ref a_t_numbers, jk_V i_t_orders, .ref a_t_output, jk_V i_t_outputMany])), (a_t_w, jk_W cI 259 i_t_w)]
set_option maxHeartbeats 4000000 in
set_option maxRecDepth 20000 in
theorem ct_Md_puts (l : Launch) (D : va_G) (Z : (Nat → Prop) → State → Heap → Prop) (sq : Nat → Nat) (hZ : jk_ZK Z sq) (cI cR : ClassId) (a_t a_t_w a_t_wKept a_t_saved a_t_past a_t_input a_t_n a_t_order a_t_numbers a_t_output : Nat) (i_t_pastMany : Int) (i_t_isSaved : Int) (i_t_thrown : Int) (i_t_inputMany : Int) (i_t_lastError : Int) (i_t_lastOffset : Int) (i_t_error : Int) (i_t_offset : Int) (i_t_nextByte : Int) (i_t_begin : Int) (i_t_value : Int) (i_t_token : Int) (i_t_got : Int) (i_t_orders : Int) (i_t_outputMany : Int) (i_t_w : (Int → Int)) (x1 : Int) (x2 : Int) (x3 : Int) (q : (Int → Int)) (hf : fn_Md_puts i_t_w x1 x2 x3 = some q) : jk_MV l D jk_cl (jk_ty cI cR) Z mn_Md_puts (.code mn_Md_puts mb_Md_puts 4 none :: jk_WA) (jk_rm 0 0) [.ref a_t, jk_V x1, jk_V x2, jk_V x3] (wd_Md_puts cI a_t a_t_w a_t_wKept a_t_saved a_t_past a_t_input a_t_n a_t_order a_t_numbers a_t_output i_t_pastMany i_t_isSaved i_t_thrown i_t_inputMany i_t_lastError i_t_lastOffset i_t_error i_t_offset i_t_nextByte i_t_begin i_t_value i_t_token i_t_got i_t_orders i_t_outputMany i_t_w) (wd_Md_puts cI a_t a_t_w a_t_wKept a_t_saved a_t_past a_t_input a_t_n a_t_order a_t_numbers a_t_output i_t_pastMany i_t_isSaved i_t_thrown i_t_inputMany i_t_lastError i_t_lastOffset i_t_error i_t_offset i_t_nextByte i_t_begin i_t_value i_t_token i_t_got i_t_orders i_t_outputMany q) := by
  intro sz
  refine jk_body (by decide +kernel) (fun p e s m args below meth c hsz hz hin C => ?_) (Nat.le_of_ble_eq_true rfl)
  subst hsz
  unfold fn_Md_puts at hf
  refine jk_aload_n C rd_Md_puts_0 (k := 0) rfl ?_
  refine jk_get C in_Md (ci := 11) rfl 0 (by decide) tm_1263 0 rfl rfl rd_Md_puts_1 ?_
  refine jk_bipush C rd_Md_puts_4 (by decide +kernel) ?_
  refine jk_iconst C rd_Md_puts_6 ?_
  refine jk_iload_n C rd_Md_puts_7 (k := 1) rfl ?_
  refine jk_imul C rd_Md_puts_8 ?_
  refine jk_iadd C rd_Md_puts_9 ?_
  refine jk_iload_n C rd_Md_puts_10 (k := 2) rfl ?_
  refine jk_iadd C rd_Md_puts_11 ?_
  refine jk_iload_n C rd_Md_puts_12 (k := 3) rfl ?_
  refine jk_iast C 1 0 rfl rfl (Nat.le_of_ble_eq_true rfl) rd_Md_puts_13 hf (ws' := wd_Md_puts cI a_t a_t_w a_t_wKept a_t_saved a_t_past a_t_input a_t_n a_t_order a_t_numbers a_t_output i_t_pastMany i_t_isSaved i_t_thrown i_t_inputMany i_t_lastError i_t_lastOffset i_t_error i_t_offset i_t_nextByte i_t_begin i_t_value i_t_token i_t_got i_t_orders i_t_outputMany (jk_up i_t_w ((59 + (5 * x1)) + x2) x3)) rfl (fun hf => ?_)
  cases hf
  exact jk_vret C rfl rd_Md_puts_14 rfl
def wd_Md_inserts (cI : ClassId) (a_t a_t_w a_t_wKept a_t_saved a_t_past a_t_input a_t_n a_t_order a_t_numbers a_t_output : Nat) (i_t_pastMany : Int) (i_t_isSaved : Int) (i_t_thrown : Int) (i_t_inputMany : Int) (i_t_lastError : Int) (i_t_lastOffset : Int) (i_t_error : Int) (i_t_offset : Int) (i_t_nextByte : Int) (i_t_begin : Int) (i_t_value : Int) (i_t_token : Int) (i_t_got : Int) (i_t_orders : Int) (i_t_outputMany : Int) (i_t_w : (Int → Int)) : va_W := [(a_t, .inr (11, [.ref a_t_w, .ref a_t_wKept, .ref a_t_saved, .ref a_t_past, jk_V i_t_pastMany, jk_V i_t_isSaved, jk_V i_t_thrown, .ref a_t_input, jk_V i_t_inputMany, jk_V i_t_lastError, jk_V i_t_lastOffset, jk_V i_t_error, jk_V i_t_offset, jk_V i_t_nextByte, jk_V i_t_begin, jk_V i_t_value, jk_V i_t_token, jk_V i_t_got, .ref a_t_n, .ref a_t_order, .ref a_t_numbers, jk_V i_t_orders, .ref a_t_output, jk_V i_t_outputMany])), (a_t_w, jk_W cI 259 i_t_w)]
set_option maxHeartbeats 4000000 in
set_option maxRecDepth 20000 in
theorem ct_Md_inserts (l : Launch) (D : va_G) (Z : (Nat → Prop) → State → Heap → Prop) (sq : Nat → Nat) (hZ : jk_ZK Z sq) (cI cR : ClassId) (a_t a_t_w a_t_wKept a_t_saved a_t_past a_t_input a_t_n a_t_order a_t_numbers a_t_output : Nat) (i_t_pastMany : Int) (i_t_isSaved : Int) (i_t_thrown : Int) (i_t_inputMany : Int) (i_t_lastError : Int) (i_t_lastOffset : Int) (i_t_error : Int) (i_t_offset : Int) (i_t_nextByte : Int) (i_t_begin : Int) (i_t_value : Int) (i_t_token : Int) (i_t_got : Int) (i_t_orders : Int) (i_t_outputMany : Int) (i_t_w : (Int → Int)) (x1 : Int) (x2 : Int) (x3 : Int) (x4 : Int) (x5 : Int) (q : Int × (Int → Int)) (hf : fn_Md_inserts i_t_w x1 x2 x3 x4 x5 = some q) : jk_MI l D jk_cl (jk_ty cI cR) Z mn_Md_inserts (.code mn_Md_inserts mb_Md_inserts 7 (some .int) :: jk_WA) (jk_rm 1 23) [.ref a_t, jk_V x1, jk_V x2, jk_V x3, jk_V x4, jk_V x5] (wd_Md_inserts cI a_t a_t_w a_t_wKept a_t_saved a_t_past a_t_input a_t_n a_t_order a_t_numbers a_t_output i_t_pastMany i_t_isSaved i_t_thrown i_t_inputMany i_t_lastError i_t_lastOffset i_t_error i_t_offset i_t_nextByte i_t_begin i_t_value i_t_token i_t_got i_t_orders i_t_outputMany i_t_w) (wd_Md_inserts cI a_t a_t_w a_t_wKept a_t_saved a_t_past a_t_input a_t_n a_t_order a_t_numbers a_t_output i_t_pastMany i_t_isSaved i_t_thrown i_t_inputMany i_t_lastError i_t_lastOffset i_t_error i_t_offset i_t_nextByte i_t_begin i_t_value i_t_token i_t_got i_t_orders i_t_outputMany q.2) q.1 := by
  intro sz
  refine jk_body (by decide +kernel) (fun p e s m args below meth c hsz hz hin C => ?_) (Nat.le_of_ble_eq_true rfl)
  subst hsz
  unfold fn_Md_inserts at hf
  have bk_17 : ∀ (n : Nat) (t_w : (Int → Int)) (v1 : Int) (v2 : Int) (v3 : Int) (v4 : Int) (v5 : Int) (v6 : Int), fn_Md_inserts_b17 n t_w v1 v2 v3 v4 v5 v6 = some q → jk_J p l e (jk_rm 1 23) s m args below meth c 0 0 (jk_QI below D jk_cl (jk_ty cI cR) (wd_Md_inserts cI a_t a_t_w a_t_wKept a_t_saved a_t_past a_t_input a_t_n a_t_order a_t_numbers a_t_output i_t_pastMany i_t_isSaved i_t_thrown i_t_inputMany i_t_lastError i_t_lastOffset i_t_error i_t_offset i_t_nextByte i_t_begin i_t_value i_t_token i_t_got i_t_orders i_t_outputMany i_t_w) (wd_Md_inserts cI a_t a_t_w a_t_wKept a_t_saved a_t_past a_t_input a_t_n a_t_order a_t_numbers a_t_output i_t_pastMany i_t_isSaved i_t_thrown i_t_inputMany i_t_lastError i_t_lastOffset i_t_error i_t_offset i_t_nextByte i_t_begin i_t_value i_t_token i_t_got i_t_orders i_t_outputMany q.2) args s q.1) D jk_cl (va_A (wd_Md_inserts cI a_t a_t_w a_t_wKept a_t_saved a_t_past a_t_input a_t_n a_t_order a_t_numbers a_t_output i_t_pastMany i_t_isSaved i_t_thrown i_t_inputMany i_t_lastError i_t_lastOffset i_t_error i_t_offset i_t_nextByte i_t_begin i_t_value i_t_token i_t_got i_t_orders i_t_outputMany i_t_w) s.heap.size) 7 (wd_Md_inserts cI a_t a_t_w a_t_wKept a_t_saved a_t_past a_t_input a_t_n a_t_order a_t_numbers a_t_output i_t_pastMany i_t_isSaved i_t_thrown i_t_inputMany i_t_lastError i_t_lastOffset i_t_error i_t_offset i_t_nextByte i_t_begin i_t_value i_t_token i_t_got i_t_orders i_t_outputMany t_w) [(0, .ref a_t), (1, jk_V v1), (2, jk_V v2), (3, jk_V v3), (4, jk_V v4), (5, jk_V v5), (6, jk_V v6)] 17 [] := by
    intro n
    induction n with
    | zero => intro t_w v1 v2 v3 v4 v5 v6 hf; exact nomatch (show none = some q from hf)
    | succ n ih =>
      intro t_w v1 v2 v3 v4 v5 v6 hf
      rw [fn_Md_inserts_b17] at hf
      refine jk_iload C rd_Md_inserts_17 (k := 6) rfl ?_
      refine jk_bipush C rd_Md_inserts_19 (by decide +kernel) ?_
      refine jk_iconst C rd_Md_inserts_21 ?_
      refine jk_iload_n C rd_Md_inserts_22 (k := 1) rfl ?_
      refine jk_iconst C rd_Md_inserts_23 ?_
      refine jk_iadd C rd_Md_inserts_24 ?_
      refine jk_imul C rd_Md_inserts_25 ?_
      refine jk_iadd C rd_Md_inserts_26 ?_
      refine jk_icmp_lt (tgt := 52) C rd_Md_inserts_27 (by decide) hf (fun _ hf => ?_) (fun _ hf => ?_)
      · refine jk_aload_n C rd_Md_inserts_52 (k := 0) rfl ?_
        refine jk_iload_n C rd_Md_inserts_53 (k := 1) rfl ?_
        refine jk_iconst C rd_Md_inserts_54 ?_
        refine jk_iload_n C rd_Md_inserts_55 (k := 2) rfl ?_
        obtain ⟨q56, hq56, hf⟩ := jk_bind_h hf
        refine jk_callVv C hZ.1 hz (ct_Md_puts l D Z sq hZ cI cR a_t a_t_w a_t_wKept a_t_saved a_t_past a_t_input a_t_n a_t_order a_t_numbers a_t_output i_t_pastMany i_t_isSaved i_t_thrown i_t_inputMany i_t_lastError i_t_lastOffset i_t_error i_t_offset i_t_nextByte i_t_begin i_t_value i_t_token i_t_got i_t_orders i_t_outputMany t_w v1 0 v2 q56 hq56) tm_1240 tm_1242 sl_22 tm_15 tm_1243 na_Md_puts ⟨Nat.le_of_ble_eq_true rfl, Nat.le_of_ble_eq_true rfl⟩ rfl [0, 1] rfl rfl rfl (ws' := wd_Md_inserts cI a_t a_t_w a_t_wKept a_t_saved a_t_past a_t_input a_t_n a_t_order a_t_numbers a_t_output i_t_pastMany i_t_isSaved i_t_thrown i_t_inputMany i_t_lastError i_t_lastOffset i_t_error i_t_offset i_t_nextByte i_t_begin i_t_value i_t_token i_t_got i_t_orders i_t_outputMany q56) rfl 0 11 rfl rfl rfl (st := []) rfl (Nat.le_of_ble_eq_true rfl) rd_Md_inserts_56 ?_ ⟨Nat.le_of_ble_eq_true rfl, Nat.le_of_ble_eq_true rfl⟩
        refine jk_aload_n C rd_Md_inserts_59 (k := 0) rfl ?_
        refine jk_iload_n C rd_Md_inserts_60 (k := 1) rfl ?_
        refine jk_iconst C rd_Md_inserts_61 ?_
        refine jk_iload_n C rd_Md_inserts_62 (k := 3) rfl ?_
        obtain ⟨q63, hq63, hf⟩ := jk_bind_h hf
        refine jk_callVv C hZ.1 hz (ct_Md_puts l D Z sq hZ cI cR a_t a_t_w a_t_wKept a_t_saved a_t_past a_t_input a_t_n a_t_order a_t_numbers a_t_output i_t_pastMany i_t_isSaved i_t_thrown i_t_inputMany i_t_lastError i_t_lastOffset i_t_error i_t_offset i_t_nextByte i_t_begin i_t_value i_t_token i_t_got i_t_orders i_t_outputMany q56 v1 1 v3 q63 hq63) tm_1240 tm_1242 sl_22 tm_15 tm_1243 na_Md_puts ⟨Nat.le_of_ble_eq_true rfl, Nat.le_of_ble_eq_true rfl⟩ rfl [0, 1] rfl rfl rfl (ws' := wd_Md_inserts cI a_t a_t_w a_t_wKept a_t_saved a_t_past a_t_input a_t_n a_t_order a_t_numbers a_t_output i_t_pastMany i_t_isSaved i_t_thrown i_t_inputMany i_t_lastError i_t_lastOffset i_t_error i_t_offset i_t_nextByte i_t_begin i_t_value i_t_token i_t_got i_t_orders i_t_outputMany q63) rfl 0 11 rfl rfl rfl (st := []) rfl (Nat.le_of_ble_eq_true rfl) rd_Md_inserts_63 ?_ ⟨Nat.le_of_ble_eq_true rfl, Nat.le_of_ble_eq_true rfl⟩
        refine jk_aload_n C rd_Md_inserts_66 (k := 0) rfl ?_
        refine jk_iload_n C rd_Md_inserts_67 (k := 1) rfl ?_
        refine jk_iconst C rd_Md_inserts_68 ?_
        refine jk_iload C rd_Md_inserts_69 (k := 4) rfl ?_
        obtain ⟨q71, hq71, hf⟩ := jk_bind_h hf
        refine jk_callVv C hZ.1 hz (ct_Md_puts l D Z sq hZ cI cR a_t a_t_w a_t_wKept a_t_saved a_t_past a_t_input a_t_n a_t_order a_t_numbers a_t_output i_t_pastMany i_t_isSaved i_t_thrown i_t_inputMany i_t_lastError i_t_lastOffset i_t_error i_t_offset i_t_nextByte i_t_begin i_t_value i_t_token i_t_got i_t_orders i_t_outputMany q63 v1 2 v4 q71 hq71) tm_1240 tm_1242 sl_22 tm_15 tm_1243 na_Md_puts ⟨Nat.le_of_ble_eq_true rfl, Nat.le_of_ble_eq_true rfl⟩ rfl [0, 1] rfl rfl rfl (ws' := wd_Md_inserts cI a_t a_t_w a_t_wKept a_t_saved a_t_past a_t_input a_t_n a_t_order a_t_numbers a_t_output i_t_pastMany i_t_isSaved i_t_thrown i_t_inputMany i_t_lastError i_t_lastOffset i_t_error i_t_offset i_t_nextByte i_t_begin i_t_value i_t_token i_t_got i_t_orders i_t_outputMany q71) rfl 0 11 rfl rfl rfl (st := []) rfl (Nat.le_of_ble_eq_true rfl) rd_Md_inserts_71 ?_ ⟨Nat.le_of_ble_eq_true rfl, Nat.le_of_ble_eq_true rfl⟩
        refine jk_aload_n C rd_Md_inserts_74 (k := 0) rfl ?_
        refine jk_iload_n C rd_Md_inserts_75 (k := 1) rfl ?_
        refine jk_iconst C rd_Md_inserts_76 ?_
        refine jk_iload C rd_Md_inserts_77 (k := 5) rfl ?_
        obtain ⟨q79, hq79, hf⟩ := jk_bind_h hf
        refine jk_callVv C hZ.1 hz (ct_Md_puts l D Z sq hZ cI cR a_t a_t_w a_t_wKept a_t_saved a_t_past a_t_input a_t_n a_t_order a_t_numbers a_t_output i_t_pastMany i_t_isSaved i_t_thrown i_t_inputMany i_t_lastError i_t_lastOffset i_t_error i_t_offset i_t_nextByte i_t_begin i_t_value i_t_token i_t_got i_t_orders i_t_outputMany q71 v1 3 v5 q79 hq79) tm_1240 tm_1242 sl_22 tm_15 tm_1243 na_Md_puts ⟨Nat.le_of_ble_eq_true rfl, Nat.le_of_ble_eq_true rfl⟩ rfl [0, 1] rfl rfl rfl (ws' := wd_Md_inserts cI a_t a_t_w a_t_wKept a_t_saved a_t_past a_t_input a_t_n a_t_order a_t_numbers a_t_output i_t_pastMany i_t_isSaved i_t_thrown i_t_inputMany i_t_lastError i_t_lastOffset i_t_error i_t_offset i_t_nextByte i_t_begin i_t_value i_t_token i_t_got i_t_orders i_t_outputMany q79) rfl 0 11 rfl rfl rfl (st := []) rfl (Nat.le_of_ble_eq_true rfl) rd_Md_inserts_79 ?_ ⟨Nat.le_of_ble_eq_true rfl, Nat.le_of_ble_eq_true rfl⟩
        refine jk_aload_n C rd_Md_inserts_82 (k := 0) rfl ?_
        refine jk_iload_n C rd_Md_inserts_83 (k := 1) rfl ?_
        refine jk_iconst C rd_Md_inserts_84 ?_
        refine jk_iconst C rd_Md_inserts_85 ?_
        obtain ⟨q86, hq86, hf⟩ := jk_bind_h hf
        refine jk_callVv C hZ.1 hz (ct_Md_puts l D Z sq hZ cI cR a_t a_t_w a_t_wKept a_t_saved a_t_past a_t_input a_t_n a_t_order a_t_numbers a_t_output i_t_pastMany i_t_isSaved i_t_thrown i_t_inputMany i_t_lastError i_t_lastOffset i_t_error i_t_offset i_t_nextByte i_t_begin i_t_value i_t_token i_t_got i_t_orders i_t_outputMany q79 v1 4 0 q86 hq86) tm_1240 tm_1242 sl_22 tm_15 tm_1243 na_Md_puts ⟨Nat.le_of_ble_eq_true rfl, Nat.le_of_ble_eq_true rfl⟩ rfl [0, 1] rfl rfl rfl (ws' := wd_Md_inserts cI a_t a_t_w a_t_wKept a_t_saved a_t_past a_t_input a_t_n a_t_order a_t_numbers a_t_output i_t_pastMany i_t_isSaved i_t_thrown i_t_inputMany i_t_lastError i_t_lastOffset i_t_error i_t_offset i_t_nextByte i_t_begin i_t_value i_t_token i_t_got i_t_orders i_t_outputMany q86) rfl 0 11 rfl rfl rfl (st := []) rfl (Nat.le_of_ble_eq_true rfl) rd_Md_inserts_86 ?_ ⟨Nat.le_of_ble_eq_true rfl, Nat.le_of_ble_eq_true rfl⟩
        refine jk_aload_n C rd_Md_inserts_89 (k := 0) rfl ?_
        refine jk_get C in_Md (ci := 11) rfl 0 (by decide) tm_1263 0 rfl rfl rd_Md_inserts_90 ?_
        refine jk_iconst C rd_Md_inserts_93 ?_
        refine jk_dup2 C rd_Md_inserts_94 rfl rfl ?_
        refine jk_iald C 1 0 rfl rfl (Nat.le_of_ble_eq_true rfl) rd_Md_inserts_95 hf (fun hf => ?_)
        refine jk_iconst C rd_Md_inserts_96 ?_
        refine jk_iadd C rd_Md_inserts_97 ?_
        refine jk_iast C 1 0 rfl rfl (Nat.le_of_ble_eq_true rfl) rd_Md_inserts_98 hf (ws' := wd_Md_inserts cI a_t a_t_w a_t_wKept a_t_saved a_t_past a_t_input a_t_n a_t_order a_t_numbers a_t_output i_t_pastMany i_t_isSaved i_t_thrown i_t_inputMany i_t_lastError i_t_lastOffset i_t_error i_t_offset i_t_nextByte i_t_begin i_t_value i_t_token i_t_got i_t_orders i_t_outputMany (jk_up q86 2 ((q86 2) + 1))) rfl (fun hf => ?_)
        refine jk_iload_n C rd_Md_inserts_99 (k := 1) rfl ?_
        cases hf
        exact jk_iret C rfl rd_Md_inserts_100 rfl
      · refine jk_aload_n C rd_Md_inserts_30 (k := 0) rfl ?_
        refine jk_get C in_Md (ci := 11) rfl 0 (by decide) tm_1263 0 rfl rfl rd_Md_inserts_31 ?_
        refine jk_iload C rd_Md_inserts_34 (k := 6) rfl ?_
        refine jk_aload_n C rd_Md_inserts_36 (k := 0) rfl ?_
        refine jk_get C in_Md (ci := 11) rfl 0 (by decide) tm_1263 0 rfl rfl rd_Md_inserts_37 ?_
        refine jk_iload C rd_Md_inserts_40 (k := 6) rfl ?_
        refine jk_iconst C rd_Md_inserts_42 ?_
        refine jk_isub C rd_Md_inserts_43 ?_
        refine jk_iald C 1 0 rfl rfl (Nat.le_of_ble_eq_true rfl) rd_Md_inserts_44 hf (fun hf => ?_)
        refine jk_iast C 1 0 rfl rfl (Nat.le_of_ble_eq_true rfl) rd_Md_inserts_45 hf (ws' := wd_Md_inserts cI a_t a_t_w a_t_wKept a_t_saved a_t_past a_t_input a_t_n a_t_order a_t_numbers a_t_output i_t_pastMany i_t_isSaved i_t_thrown i_t_inputMany i_t_lastError i_t_lastOffset i_t_error i_t_offset i_t_nextByte i_t_begin i_t_value i_t_token i_t_got i_t_orders i_t_outputMany (jk_up t_w v6 (t_w (v6 - 5)))) rfl (fun hf => ?_)
        refine jk_iinc C rd_Md_inserts_46 (k := 6) rfl (by decide) (lv' := [(6, jk_V (v6 + (-1))), (0, .ref a_t), (1, jk_V v1), (2, jk_V v2), (3, jk_V v3), (4, jk_V v4), (5, jk_V v5)]) rfl ?_
        refine jk_goto (tgt := 17) C rd_Md_inserts_49 (by decide) ?_
        refine jk_lv (lv' := [(0, .ref a_t), (1, jk_V v1), (2, jk_V v2), (3, jk_V v3), (4, jk_V v4), (5, jk_V v5), (6, jk_V (v6 + (-1)))]) [1, 2, 3, 4, 5, 6, 0] rfl ?_
        exact ih (jk_up t_w v6 (t_w (v6 - 5))) v1 v2 v3 v4 v5 (v6 + (-1)) hf
  refine jk_bipush C rd_Md_inserts_0 (by decide +kernel) ?_
  refine jk_iconst C rd_Md_inserts_2 ?_
  refine jk_aload_n C rd_Md_inserts_3 (k := 0) rfl ?_
  refine jk_get C in_Md (ci := 11) rfl 0 (by decide) tm_1263 0 rfl rfl rd_Md_inserts_4 ?_
  refine jk_iconst C rd_Md_inserts_7 ?_
  refine jk_iald C 1 0 rfl rfl (Nat.le_of_ble_eq_true rfl) rd_Md_inserts_8 hf (fun hf => ?_)
  refine jk_iconst C rd_Md_inserts_9 ?_
  refine jk_iadd C rd_Md_inserts_10 ?_
  refine jk_imul C rd_Md_inserts_11 ?_
  refine jk_iadd C rd_Md_inserts_12 ?_
  refine jk_iconst C rd_Md_inserts_13 ?_
  refine jk_isub C rd_Md_inserts_14 ?_
  refine jk_istore C rd_Md_inserts_15 (by decide) (lv' := [(6, jk_V ((59 + (5 * ((i_t_w 2) + 1))) - 1)), (0, .ref a_t), (1, jk_V x1), (2, jk_V x2), (3, jk_V x3), (4, jk_V x4), (5, jk_V x5)]) rfl ?_
  refine jk_lv (lv' := [(0, .ref a_t), (1, jk_V x1), (2, jk_V x2), (3, jk_V x3), (4, jk_V x4), (5, jk_V x5), (6, jk_V ((59 + (5 * ((i_t_w 2) + 1))) - 1))]) [1, 2, 3, 4, 5, 6, 0] rfl ?_
  exact bk_17 jk_F i_t_w x1 x2 x3 x4 x5 ((59 + (5 * ((i_t_w 2) + 1))) - 1) hf
def wd_Md_removes (cI : ClassId) (a_t a_t_w a_t_wKept a_t_saved a_t_past a_t_input a_t_n a_t_order a_t_numbers a_t_output : Nat) (i_t_pastMany : Int) (i_t_isSaved : Int) (i_t_thrown : Int) (i_t_inputMany : Int) (i_t_lastError : Int) (i_t_lastOffset : Int) (i_t_error : Int) (i_t_offset : Int) (i_t_nextByte : Int) (i_t_begin : Int) (i_t_value : Int) (i_t_token : Int) (i_t_got : Int) (i_t_orders : Int) (i_t_outputMany : Int) (i_t_w : (Int → Int)) : va_W := [(a_t, .inr (11, [.ref a_t_w, .ref a_t_wKept, .ref a_t_saved, .ref a_t_past, jk_V i_t_pastMany, jk_V i_t_isSaved, jk_V i_t_thrown, .ref a_t_input, jk_V i_t_inputMany, jk_V i_t_lastError, jk_V i_t_lastOffset, jk_V i_t_error, jk_V i_t_offset, jk_V i_t_nextByte, jk_V i_t_begin, jk_V i_t_value, jk_V i_t_token, jk_V i_t_got, .ref a_t_n, .ref a_t_order, .ref a_t_numbers, jk_V i_t_orders, .ref a_t_output, jk_V i_t_outputMany])), (a_t_w, jk_W cI 259 i_t_w)]
set_option maxHeartbeats 4000000 in
set_option maxRecDepth 20000 in
theorem ct_Md_removes (l : Launch) (D : va_G) (Z : (Nat → Prop) → State → Heap → Prop) (sq : Nat → Nat) (hZ : jk_ZK Z sq) (cI cR : ClassId) (a_t a_t_w a_t_wKept a_t_saved a_t_past a_t_input a_t_n a_t_order a_t_numbers a_t_output : Nat) (i_t_pastMany : Int) (i_t_isSaved : Int) (i_t_thrown : Int) (i_t_inputMany : Int) (i_t_lastError : Int) (i_t_lastOffset : Int) (i_t_error : Int) (i_t_offset : Int) (i_t_nextByte : Int) (i_t_begin : Int) (i_t_value : Int) (i_t_token : Int) (i_t_got : Int) (i_t_orders : Int) (i_t_outputMany : Int) (i_t_w : (Int → Int)) (x1 : Int) (x2 : Int) (q : Int × (Int → Int)) (hf : fn_Md_removes i_t_w x1 x2 = some q) : jk_MI l D jk_cl (jk_ty cI cR) Z mn_Md_removes (.code mn_Md_removes mb_Md_removes 4 (some .int) :: jk_WA) (jk_rm 0 0) [.ref a_t, jk_V x1, jk_V x2] (wd_Md_removes cI a_t a_t_w a_t_wKept a_t_saved a_t_past a_t_input a_t_n a_t_order a_t_numbers a_t_output i_t_pastMany i_t_isSaved i_t_thrown i_t_inputMany i_t_lastError i_t_lastOffset i_t_error i_t_offset i_t_nextByte i_t_begin i_t_value i_t_token i_t_got i_t_orders i_t_outputMany i_t_w) (wd_Md_removes cI a_t a_t_w a_t_wKept a_t_saved a_t_past a_t_input a_t_n a_t_order a_t_numbers a_t_output i_t_pastMany i_t_isSaved i_t_thrown i_t_inputMany i_t_lastError i_t_lastOffset i_t_error i_t_offset i_t_nextByte i_t_begin i_t_value i_t_token i_t_got i_t_orders i_t_outputMany q.2) q.1 := by
  intro sz
  refine jk_body (by decide +kernel) (fun p e s m args below meth c hsz hz hin C => ?_) (Nat.le_of_ble_eq_true rfl)
  subst hsz
  unfold fn_Md_removes at hf
  have bk_17 : ∀ (n : Nat) (t_w : (Int → Int)) (v2 : Int) (v3 : Int), fn_Md_removes_b17 n t_w v2 v3 = some q → jk_J p l e (jk_rm 0 0) s m args below meth c 0 0 (jk_QI below D jk_cl (jk_ty cI cR) (wd_Md_removes cI a_t a_t_w a_t_wKept a_t_saved a_t_past a_t_input a_t_n a_t_order a_t_numbers a_t_output i_t_pastMany i_t_isSaved i_t_thrown i_t_inputMany i_t_lastError i_t_lastOffset i_t_error i_t_offset i_t_nextByte i_t_begin i_t_value i_t_token i_t_got i_t_orders i_t_outputMany i_t_w) (wd_Md_removes cI a_t a_t_w a_t_wKept a_t_saved a_t_past a_t_input a_t_n a_t_order a_t_numbers a_t_output i_t_pastMany i_t_isSaved i_t_thrown i_t_inputMany i_t_lastError i_t_lastOffset i_t_error i_t_offset i_t_nextByte i_t_begin i_t_value i_t_token i_t_got i_t_orders i_t_outputMany q.2) args s q.1) D jk_cl (va_A (wd_Md_removes cI a_t a_t_w a_t_wKept a_t_saved a_t_past a_t_input a_t_n a_t_order a_t_numbers a_t_output i_t_pastMany i_t_isSaved i_t_thrown i_t_inputMany i_t_lastError i_t_lastOffset i_t_error i_t_offset i_t_nextByte i_t_begin i_t_value i_t_token i_t_got i_t_orders i_t_outputMany i_t_w) s.heap.size) 4 (wd_Md_removes cI a_t a_t_w a_t_wKept a_t_saved a_t_past a_t_input a_t_n a_t_order a_t_numbers a_t_output i_t_pastMany i_t_isSaved i_t_thrown i_t_inputMany i_t_lastError i_t_lastOffset i_t_error i_t_offset i_t_nextByte i_t_begin i_t_value i_t_token i_t_got i_t_orders i_t_outputMany t_w) [(0, .ref a_t), (2, jk_V v2), (3, jk_V v3)] 17 [] := by
    intro n
    induction n with
    | zero => intro t_w v2 v3 hf; exact nomatch (show none = some q from hf)
    | succ n ih =>
      intro t_w v2 v3 hf
      rw [fn_Md_removes_b17] at hf
      refine jk_iload_n C rd_Md_removes_17 (k := 2) rfl ?_
      refine jk_bipush C rd_Md_removes_18 (by decide +kernel) ?_
      refine jk_iconst C rd_Md_removes_20 ?_
      refine jk_aload_n C rd_Md_removes_21 (k := 0) rfl ?_
      refine jk_get C in_Md (ci := 11) rfl 0 (by decide) tm_1263 0 rfl rfl rd_Md_removes_22 ?_
      refine jk_iconst C rd_Md_removes_25 ?_
      refine jk_iald C 1 0 rfl rfl (Nat.le_of_ble_eq_true rfl) rd_Md_removes_26 hf (fun hf => ?_)
      refine jk_imul C rd_Md_removes_27 ?_
      refine jk_iadd C rd_Md_removes_28 ?_
      refine jk_icmp_ge (tgt := 54) C rd_Md_removes_29 (by decide) hf (fun _ hf => ?_) (fun _ hf => ?_)
      · refine jk_iload_n C rd_Md_removes_54 (k := 1) rfl ?_
        cases hf
        exact jk_iret C rfl rd_Md_removes_55 rfl
      · refine jk_aload_n C rd_Md_removes_32 (k := 0) rfl ?_
        refine jk_get C in_Md (ci := 11) rfl 0 (by decide) tm_1263 0 rfl rfl rd_Md_removes_33 ?_
        refine jk_iload_n C rd_Md_removes_36 (k := 2) rfl ?_
        refine jk_aload_n C rd_Md_removes_37 (k := 0) rfl ?_
        refine jk_get C in_Md (ci := 11) rfl 0 (by decide) tm_1263 0 rfl rfl rd_Md_removes_38 ?_
        refine jk_iload_n C rd_Md_removes_41 (k := 2) rfl ?_
        refine jk_iconst C rd_Md_removes_42 ?_
        refine jk_iload_n C rd_Md_removes_43 (k := 1) rfl ?_
        refine jk_imul C rd_Md_removes_44 ?_
        refine jk_iadd C rd_Md_removes_45 ?_
        refine jk_iald C 1 0 rfl rfl (Nat.le_of_ble_eq_true rfl) rd_Md_removes_46 hf (fun hf => ?_)
        refine jk_iast C 1 0 rfl rfl (Nat.le_of_ble_eq_true rfl) rd_Md_removes_47 hf (ws' := wd_Md_removes cI a_t a_t_w a_t_wKept a_t_saved a_t_past a_t_input a_t_n a_t_order a_t_numbers a_t_output i_t_pastMany i_t_isSaved i_t_thrown i_t_inputMany i_t_lastError i_t_lastOffset i_t_error i_t_offset i_t_nextByte i_t_begin i_t_value i_t_token i_t_got i_t_orders i_t_outputMany (jk_up t_w v3 (t_w (v3 + (5 * v2))))) rfl (fun hf => ?_)
        refine jk_iinc C rd_Md_removes_48 (k := 2) rfl (by decide) (lv' := [(3, jk_V (v3 + 1)), (0, .ref a_t), (2, jk_V v2)]) rfl ?_
        refine jk_goto (tgt := 17) C rd_Md_removes_51 (by decide) ?_
        refine jk_lv (lv' := [(0, .ref a_t), (2, jk_V v2), (3, jk_V (v3 + 1))]) [1, 2, 0] rfl ?_
        exact ih (jk_up t_w v3 (t_w (v3 + (5 * v2)))) v2 (v3 + 1) hf
  refine jk_aload_n C rd_Md_removes_0 (k := 0) rfl ?_
  refine jk_get C in_Md (ci := 11) rfl 0 (by decide) tm_1263 0 rfl rfl rd_Md_removes_1 ?_
  refine jk_iconst C rd_Md_removes_4 ?_
  refine jk_dup2 C rd_Md_removes_5 rfl rfl ?_
  refine jk_iald C 1 0 rfl rfl (Nat.le_of_ble_eq_true rfl) rd_Md_removes_6 hf (fun hf => ?_)
  refine jk_iload_n C rd_Md_removes_7 (k := 2) rfl ?_
  refine jk_isub C rd_Md_removes_8 ?_
  refine jk_iast C 1 0 rfl rfl (Nat.le_of_ble_eq_true rfl) rd_Md_removes_9 hf (ws' := wd_Md_removes cI a_t a_t_w a_t_wKept a_t_saved a_t_past a_t_input a_t_n a_t_order a_t_numbers a_t_output i_t_pastMany i_t_isSaved i_t_thrown i_t_inputMany i_t_lastError i_t_lastOffset i_t_error i_t_offset i_t_nextByte i_t_begin i_t_value i_t_token i_t_got i_t_orders i_t_outputMany (jk_up i_t_w 2 ((i_t_w 2) - x2))) rfl (fun hf => ?_)
  refine jk_bipush C rd_Md_removes_10 (by decide +kernel) ?_
  refine jk_iconst C rd_Md_removes_12 ?_
  refine jk_iload_n C rd_Md_removes_13 (k := 1) rfl ?_
  refine jk_imul C rd_Md_removes_14 ?_
  refine jk_iadd C rd_Md_removes_15 ?_
  refine jk_istore_n C rd_Md_removes_16 (by decide) (lv' := [(3, jk_V (59 + (5 * x1))), (0, .ref a_t), (1, jk_V x1), (2, jk_V x2)]) rfl ?_
  refine jk_lv (lv' := [(0, .ref a_t), (2, jk_V x2), (3, jk_V (59 + (5 * x1)))]) [1, 3, 0] rfl ?_
  exact bk_17 jk_F (jk_up i_t_w 2 ((i_t_w 2) - x2)) x2 (59 + (5 * x1)) hf
def wd_Md_power (cI : ClassId)  : va_W := []
set_option maxHeartbeats 4000000 in
set_option maxRecDepth 20000 in
theorem ct_Md_power (l : Launch) (D : va_G) (Z : (Nat → Prop) → State → Heap → Prop) (sq : Nat → Nat) (hZ : jk_ZK Z sq) (cI cR : ClassId) (x0 : Int) (q : Int) (hf : fn_Md_power x0 = some q) : jk_MI l D jk_cl (jk_ty cI cR) Z mn_Md_power (.code mn_Md_power mb_Md_power 3 (some .int) :: jk_WA) (jk_rm 0 0) [jk_V x0] (wd_Md_power cI) (wd_Md_power cI) q := by
  intro sz
  refine jk_body (by decide +kernel) (fun p e s m args below meth c hsz hz hin C => ?_) (Nat.le_of_ble_eq_true rfl)
  subst hsz
  unfold fn_Md_power at hf
  have bk_4 : ∀ (n : Nat) (v0 : Int) (v1 : Int) (v2 : Int), fn_Md_power_b4 n v0 v1 v2 = some q → jk_J p l e (jk_rm 0 0) s m args below meth c 0 0 (jk_QI below D jk_cl (jk_ty cI cR) (wd_Md_power cI) (wd_Md_power cI) args s q) D jk_cl (va_A (wd_Md_power cI) s.heap.size) 3 (wd_Md_power cI) [(0, jk_V v0), (1, jk_V v1), (2, jk_V v2)] 4 [] := by
    intro n
    induction n with
    | zero => intro v0 v1 v2 hf; exact nomatch (show none = some q from hf)
    | succ n ih =>
      intro v0 v1 v2 hf
      rw [fn_Md_power_b4] at hf
      refine jk_iload_n C rd_Md_power_4 (k := 2) rfl ?_
      refine jk_iload_n C rd_Md_power_5 (k := 0) rfl ?_
      refine jk_icmp_ge (tgt := 20) C rd_Md_power_6 (by decide) hf (fun _ hf => ?_) (fun _ hf => ?_)
      · refine jk_iload_n C rd_Md_power_20 (k := 1) rfl ?_
        cases hf
        exact jk_iret C rfl rd_Md_power_21 rfl
      · refine jk_iload_n C rd_Md_power_9 (k := 1) rfl ?_
        refine jk_bipush C rd_Md_power_10 (by decide +kernel) ?_
        refine jk_imul C rd_Md_power_12 ?_
        refine jk_istore_n C rd_Md_power_13 (by decide) (lv' := [(1, jk_V (v1 * 10)), (0, jk_V v0), (2, jk_V v2)]) rfl ?_
        refine jk_iinc C rd_Md_power_14 (k := 2) rfl (by decide) (lv' := [(2, jk_V (v2 + 1)), (1, jk_V (v1 * 10)), (0, jk_V v0)]) rfl ?_
        refine jk_goto (tgt := 4) C rd_Md_power_17 (by decide) ?_
        refine jk_lv (lv' := [(0, jk_V v0), (1, jk_V (v1 * 10)), (2, jk_V (v2 + 1))]) [2, 1, 0] rfl ?_
        exact ih v0 (v1 * 10) (v2 + 1) hf
  refine jk_iconst C rd_Md_power_0 ?_
  refine jk_istore_n C rd_Md_power_1 (by decide) (lv' := [(1, jk_V 1), (0, jk_V x0)]) rfl ?_
  refine jk_iconst C rd_Md_power_2 ?_
  refine jk_istore_n C rd_Md_power_3 (by decide) (lv' := [(2, jk_V 0), (1, jk_V 1), (0, jk_V x0)]) rfl ?_
  refine jk_lv (lv' := [(0, jk_V x0), (1, jk_V 1), (2, jk_V 0)]) [2, 1, 0] rfl ?_
  exact bk_4 jk_F x0 1 0 hf
def wd_Md_knots (cI : ClassId) (a_t a_t_w a_t_wKept a_t_saved a_t_past a_t_input a_t_n a_t_order a_t_numbers a_t_output : Nat) (i_t_pastMany : Int) (i_t_isSaved : Int) (i_t_thrown : Int) (i_t_inputMany : Int) (i_t_lastError : Int) (i_t_lastOffset : Int) (i_t_error : Int) (i_t_offset : Int) (i_t_nextByte : Int) (i_t_begin : Int) (i_t_value : Int) (i_t_token : Int) (i_t_got : Int) (i_t_orders : Int) (i_t_outputMany : Int) (i_t_w : (Int → Int)) : va_W := [(a_t, .inr (11, [.ref a_t_w, .ref a_t_wKept, .ref a_t_saved, .ref a_t_past, jk_V i_t_pastMany, jk_V i_t_isSaved, jk_V i_t_thrown, .ref a_t_input, jk_V i_t_inputMany, jk_V i_t_lastError, jk_V i_t_lastOffset, jk_V i_t_error, jk_V i_t_offset, jk_V i_t_nextByte, jk_V i_t_begin, jk_V i_t_value, jk_V i_t_token, jk_V i_t_got, .ref a_t_n, .ref a_t_order, .ref a_t_numbers, jk_V i_t_orders, .ref a_t_output, jk_V i_t_outputMany])), (a_t_w, jk_W cI 259 i_t_w)]
set_option maxHeartbeats 4000000 in
set_option maxRecDepth 20000 in
theorem ct_Md_knots (l : Launch) (D : va_G) (Z : (Nat → Prop) → State → Heap → Prop) (sq : Nat → Nat) (hZ : jk_ZK Z sq) (cI cR : ClassId) (a_t a_t_w a_t_wKept a_t_saved a_t_past a_t_input a_t_n a_t_order a_t_numbers a_t_output : Nat) (i_t_pastMany : Int) (i_t_isSaved : Int) (i_t_thrown : Int) (i_t_inputMany : Int) (i_t_lastError : Int) (i_t_lastOffset : Int) (i_t_error : Int) (i_t_offset : Int) (i_t_nextByte : Int) (i_t_begin : Int) (i_t_value : Int) (i_t_token : Int) (i_t_got : Int) (i_t_orders : Int) (i_t_outputMany : Int) (i_t_w : (Int → Int)) (x1 : Int) (x2 : Int) (q : Int) (hf : fn_Md_knots i_t_w x1 x2 = some q) : jk_MI l D jk_cl (jk_ty cI cR) Z mn_Md_knots (.code mn_Md_knots mb_Md_knots 3 (some .int) :: jk_WA) (jk_rm 1 22) [.ref a_t, jk_V x1, jk_V x2] (wd_Md_knots cI a_t a_t_w a_t_wKept a_t_saved a_t_past a_t_input a_t_n a_t_order a_t_numbers a_t_output i_t_pastMany i_t_isSaved i_t_thrown i_t_inputMany i_t_lastError i_t_lastOffset i_t_error i_t_offset i_t_nextByte i_t_begin i_t_value i_t_token i_t_got i_t_orders i_t_outputMany i_t_w) (wd_Md_knots cI a_t a_t_w a_t_wKept a_t_saved a_t_past a_t_input a_t_n a_t_order a_t_numbers a_t_output i_t_pastMany i_t_isSaved i_t_thrown i_t_inputMany i_t_lastError i_t_lastOffset i_t_error i_t_offset i_t_nextByte i_t_begin i_t_value i_t_token i_t_got i_t_orders i_t_outputMany i_t_w) q := by
  intro sz
  refine jk_body (by decide +kernel) (fun p e s m args below meth c hsz hz hin C => ?_) (Nat.le_of_ble_eq_true rfl)
  subst hsz
  unfold fn_Md_knots at hf
  refine jk_aload_n C rd_Md_knots_0 (k := 0) rfl ?_
  refine jk_iload_n C rd_Md_knots_1 (k := 1) rfl ?_
  refine jk_iconst C rd_Md_knots_2 ?_
  obtain ⟨q3, hq3, hf⟩ := jk_bind_h hf
  refine jk_callVi C hZ.1 hz (ct_Md_of l D Z sq hZ cI cR a_t a_t_w a_t_wKept a_t_saved a_t_past a_t_input a_t_n a_t_order a_t_numbers a_t_output i_t_pastMany i_t_isSaved i_t_thrown i_t_inputMany i_t_lastError i_t_lastOffset i_t_error i_t_offset i_t_nextByte i_t_begin i_t_value i_t_token i_t_got i_t_orders i_t_outputMany i_t_w x1 3 q3 hq3) tm_1256 tm_1258 sl_26 tm_15 tm_1259 na_Md_of ⟨Nat.le_of_ble_eq_true rfl, Nat.le_of_ble_eq_true rfl⟩ rfl [0, 1] rfl rfl rfl (ws' := wd_Md_knots cI a_t a_t_w a_t_wKept a_t_saved a_t_past a_t_input a_t_n a_t_order a_t_numbers a_t_output i_t_pastMany i_t_isSaved i_t_thrown i_t_inputMany i_t_lastError i_t_lastOffset i_t_error i_t_offset i_t_nextByte i_t_begin i_t_value i_t_token i_t_got i_t_orders i_t_outputMany i_t_w) rfl 0 11 rfl rfl rfl (st := []) rfl (Nat.le_of_ble_eq_true rfl) rd_Md_knots_3 ?_ ⟨Nat.le_of_ble_eq_true rfl, Nat.le_of_ble_eq_true rfl⟩
  refine jk_iload_n C rd_Md_knots_6 (k := 2) rfl ?_
  obtain ⟨q7, hq7, hf⟩ := jk_bind_h hf
  refine jk_callSi C hZ.1 hz (ct_Md_power l D Z sq hZ cI cR x2 q7 hq7) tm_1260 tm_1261 tm_15 tm_1262 na_Md_power ⟨Nat.le_of_ble_eq_true rfl, Nat.le_of_ble_eq_true rfl⟩ rfl [] rfl rfl rfl (ws' := wd_Md_knots cI a_t a_t_w a_t_wKept a_t_saved a_t_past a_t_input a_t_n a_t_order a_t_numbers a_t_output i_t_pastMany i_t_isSaved i_t_thrown i_t_inputMany i_t_lastError i_t_lastOffset i_t_error i_t_offset i_t_nextByte i_t_begin i_t_value i_t_token i_t_got i_t_orders i_t_outputMany i_t_w) rfl (st := [jk_V q3]) rfl (Nat.le_of_ble_eq_true rfl) rd_Md_knots_7 ?_ ⟨Nat.le_of_ble_eq_true rfl, Nat.le_of_ble_eq_true rfl⟩
  refine jk_idiv C rd_Md_knots_10 hf (fun hf => ?_)
  refine jk_bipush C rd_Md_knots_11 (by decide +kernel) ?_
  refine jk_irem C rd_Md_knots_13 hf (fun hf => ?_)
  cases hf
  exact jk_iret C rfl rd_Md_knots_14 rfl
def wd_Md_knotsOf (cI : ClassId) (a_t a_t_w a_t_wKept a_t_saved a_t_past a_t_input a_t_n a_t_order a_t_numbers a_t_output : Nat) (i_t_pastMany : Int) (i_t_isSaved : Int) (i_t_thrown : Int) (i_t_inputMany : Int) (i_t_lastError : Int) (i_t_lastOffset : Int) (i_t_error : Int) (i_t_offset : Int) (i_t_nextByte : Int) (i_t_begin : Int) (i_t_value : Int) (i_t_token : Int) (i_t_got : Int) (i_t_orders : Int) (i_t_outputMany : Int) (i_t_w : (Int → Int)) : va_W := [(a_t, .inr (11, [.ref a_t_w, .ref a_t_wKept, .ref a_t_saved, .ref a_t_past, jk_V i_t_pastMany, jk_V i_t_isSaved, jk_V i_t_thrown, .ref a_t_input, jk_V i_t_inputMany, jk_V i_t_lastError, jk_V i_t_lastOffset, jk_V i_t_error, jk_V i_t_offset, jk_V i_t_nextByte, jk_V i_t_begin, jk_V i_t_value, jk_V i_t_token, jk_V i_t_got, .ref a_t_n, .ref a_t_order, .ref a_t_numbers, jk_V i_t_orders, .ref a_t_output, jk_V i_t_outputMany])), (a_t_w, jk_W cI 259 i_t_w)]
set_option maxHeartbeats 4000000 in
set_option maxRecDepth 20000 in
theorem ct_Md_knotsOf (l : Launch) (D : va_G) (Z : (Nat → Prop) → State → Heap → Prop) (sq : Nat → Nat) (hZ : jk_ZK Z sq) (cI cR : ClassId) (a_t a_t_w a_t_wKept a_t_saved a_t_past a_t_input a_t_n a_t_order a_t_numbers a_t_output : Nat) (i_t_pastMany : Int) (i_t_isSaved : Int) (i_t_thrown : Int) (i_t_inputMany : Int) (i_t_lastError : Int) (i_t_lastOffset : Int) (i_t_error : Int) (i_t_offset : Int) (i_t_nextByte : Int) (i_t_begin : Int) (i_t_value : Int) (i_t_token : Int) (i_t_got : Int) (i_t_orders : Int) (i_t_outputMany : Int) (i_t_w : (Int → Int)) (x1 : Int) (q : Int) (hf : fn_Md_knotsOf i_t_w x1 = some q) : jk_MI l D jk_cl (jk_ty cI cR) Z mn_Md_knotsOf (.code mn_Md_knotsOf mb_Md_knotsOf 4 (some .int) :: jk_WA) (jk_rm 2 44) [.ref a_t, jk_V x1] (wd_Md_knotsOf cI a_t a_t_w a_t_wKept a_t_saved a_t_past a_t_input a_t_n a_t_order a_t_numbers a_t_output i_t_pastMany i_t_isSaved i_t_thrown i_t_inputMany i_t_lastError i_t_lastOffset i_t_error i_t_offset i_t_nextByte i_t_begin i_t_value i_t_token i_t_got i_t_orders i_t_outputMany i_t_w) (wd_Md_knotsOf cI a_t a_t_w a_t_wKept a_t_saved a_t_past a_t_input a_t_n a_t_order a_t_numbers a_t_output i_t_pastMany i_t_isSaved i_t_thrown i_t_inputMany i_t_lastError i_t_lastOffset i_t_error i_t_offset i_t_nextByte i_t_begin i_t_value i_t_token i_t_got i_t_orders i_t_outputMany i_t_w) q := by
  intro sz
  refine jk_body (by decide +kernel) (fun p e s m args below meth c hsz hz hin C => ?_) (Nat.le_of_ble_eq_true rfl)
  subst hsz
  unfold fn_Md_knotsOf at hf
  have bk_4 : ∀ (n : Nat) (v1 : Int) (v2 : Int) (v3 : Int), fn_Md_knotsOf_b4 n i_t_w v1 v2 v3 = some q → jk_J p l e (jk_rm 2 44) s m args below meth c 0 0 (jk_QI below D jk_cl (jk_ty cI cR) (wd_Md_knotsOf cI a_t a_t_w a_t_wKept a_t_saved a_t_past a_t_input a_t_n a_t_order a_t_numbers a_t_output i_t_pastMany i_t_isSaved i_t_thrown i_t_inputMany i_t_lastError i_t_lastOffset i_t_error i_t_offset i_t_nextByte i_t_begin i_t_value i_t_token i_t_got i_t_orders i_t_outputMany i_t_w) (wd_Md_knotsOf cI a_t a_t_w a_t_wKept a_t_saved a_t_past a_t_input a_t_n a_t_order a_t_numbers a_t_output i_t_pastMany i_t_isSaved i_t_thrown i_t_inputMany i_t_lastError i_t_lastOffset i_t_error i_t_offset i_t_nextByte i_t_begin i_t_value i_t_token i_t_got i_t_orders i_t_outputMany i_t_w) args s q) D jk_cl (va_A (wd_Md_knotsOf cI a_t a_t_w a_t_wKept a_t_saved a_t_past a_t_input a_t_n a_t_order a_t_numbers a_t_output i_t_pastMany i_t_isSaved i_t_thrown i_t_inputMany i_t_lastError i_t_lastOffset i_t_error i_t_offset i_t_nextByte i_t_begin i_t_value i_t_token i_t_got i_t_orders i_t_outputMany i_t_w) s.heap.size) 4 (wd_Md_knotsOf cI a_t a_t_w a_t_wKept a_t_saved a_t_past a_t_input a_t_n a_t_order a_t_numbers a_t_output i_t_pastMany i_t_isSaved i_t_thrown i_t_inputMany i_t_lastError i_t_lastOffset i_t_error i_t_offset i_t_nextByte i_t_begin i_t_value i_t_token i_t_got i_t_orders i_t_outputMany i_t_w) [(0, .ref a_t), (1, jk_V v1), (2, jk_V v2), (3, jk_V v3)] 4 [] := by
    intro n
    induction n with
    | zero => intro v1 v2 v3 hf; exact nomatch (show none = some q from hf)
    | succ n ih =>
      intro v1 v2 v3 hf
      rw [fn_Md_knotsOf_b4] at hf
      refine jk_iload_n C rd_Md_knotsOf_4 (k := 3) rfl ?_
      refine jk_iconst C rd_Md_knotsOf_5 ?_
      refine jk_icmp_ge (tgt := 24) C rd_Md_knotsOf_6 (by decide) hf (fun _ hf => ?_) (fun _ hf => ?_)
      · refine jk_iload_n C rd_Md_knotsOf_24 (k := 2) rfl ?_
        cases hf
        exact jk_iret C rfl rd_Md_knotsOf_25 rfl
      · refine jk_iload_n C rd_Md_knotsOf_9 (k := 2) rfl ?_
        refine jk_aload_n C rd_Md_knotsOf_10 (k := 0) rfl ?_
        refine jk_iload_n C rd_Md_knotsOf_11 (k := 1) rfl ?_
        refine jk_iload_n C rd_Md_knotsOf_12 (k := 3) rfl ?_
        obtain ⟨q13, hq13, hf⟩ := jk_bind_h hf
        refine jk_callVi C hZ.1 hz (ct_Md_knots l D Z sq hZ cI cR a_t a_t_w a_t_wKept a_t_saved a_t_past a_t_input a_t_n a_t_order a_t_numbers a_t_output i_t_pastMany i_t_isSaved i_t_thrown i_t_inputMany i_t_lastError i_t_lastOffset i_t_error i_t_offset i_t_nextByte i_t_begin i_t_value i_t_token i_t_got i_t_orders i_t_outputMany i_t_w v1 v3 q13 hq13) tm_1252 tm_1254 sl_25 tm_15 tm_1255 na_Md_knots ⟨Nat.le_of_ble_eq_true rfl, Nat.le_of_ble_eq_true rfl⟩ rfl [0, 1] rfl rfl rfl (ws' := wd_Md_knotsOf cI a_t a_t_w a_t_wKept a_t_saved a_t_past a_t_input a_t_n a_t_order a_t_numbers a_t_output i_t_pastMany i_t_isSaved i_t_thrown i_t_inputMany i_t_lastError i_t_lastOffset i_t_error i_t_offset i_t_nextByte i_t_begin i_t_value i_t_token i_t_got i_t_orders i_t_outputMany i_t_w) rfl 0 11 rfl rfl rfl (st := [jk_V v2]) rfl (Nat.le_of_ble_eq_true rfl) rd_Md_knotsOf_13 ?_ ⟨Nat.le_of_ble_eq_true rfl, Nat.le_of_ble_eq_true rfl⟩
        refine jk_iadd C rd_Md_knotsOf_16 ?_
        refine jk_istore_n C rd_Md_knotsOf_17 (by decide) (lv' := [(2, jk_V (v2 + q13)), (0, .ref a_t), (1, jk_V v1), (3, jk_V v3)]) rfl ?_
        refine jk_iinc C rd_Md_knotsOf_18 (k := 3) rfl (by decide) (lv' := [(3, jk_V (v3 + 1)), (2, jk_V (v2 + q13)), (0, .ref a_t), (1, jk_V v1)]) rfl ?_
        refine jk_goto (tgt := 4) C rd_Md_knotsOf_21 (by decide) ?_
        refine jk_lv (lv' := [(0, .ref a_t), (1, jk_V v1), (2, jk_V (v2 + q13)), (3, jk_V (v3 + 1))]) [2, 3, 1, 0] rfl ?_
        exact ih v1 (v2 + q13) (v3 + 1) hf
  refine jk_iconst C rd_Md_knotsOf_0 ?_
  refine jk_istore_n C rd_Md_knotsOf_1 (by decide) (lv' := [(2, jk_V 0), (0, .ref a_t), (1, jk_V x1)]) rfl ?_
  refine jk_iconst C rd_Md_knotsOf_2 ?_
  refine jk_istore_n C rd_Md_knotsOf_3 (by decide) (lv' := [(3, jk_V 0), (2, jk_V 0), (0, .ref a_t), (1, jk_V x1)]) rfl ?_
  refine jk_lv (lv' := [(0, .ref a_t), (1, jk_V x1), (2, jk_V 0), (3, jk_V 0)]) [2, 3, 1, 0] rfl ?_
  exact bk_4 jk_F x1 0 0 hf
def wd_Md_isNibbled (cI : ClassId) (a_t a_t_w a_t_wKept a_t_saved a_t_past a_t_input a_t_n a_t_order a_t_numbers a_t_output : Nat) (i_t_pastMany : Int) (i_t_isSaved : Int) (i_t_thrown : Int) (i_t_inputMany : Int) (i_t_lastError : Int) (i_t_lastOffset : Int) (i_t_error : Int) (i_t_offset : Int) (i_t_nextByte : Int) (i_t_begin : Int) (i_t_value : Int) (i_t_token : Int) (i_t_got : Int) (i_t_orders : Int) (i_t_outputMany : Int) (i_t_w : (Int → Int)) : va_W := [(a_t, .inr (11, [.ref a_t_w, .ref a_t_wKept, .ref a_t_saved, .ref a_t_past, jk_V i_t_pastMany, jk_V i_t_isSaved, jk_V i_t_thrown, .ref a_t_input, jk_V i_t_inputMany, jk_V i_t_lastError, jk_V i_t_lastOffset, jk_V i_t_error, jk_V i_t_offset, jk_V i_t_nextByte, jk_V i_t_begin, jk_V i_t_value, jk_V i_t_token, jk_V i_t_got, .ref a_t_n, .ref a_t_order, .ref a_t_numbers, jk_V i_t_orders, .ref a_t_output, jk_V i_t_outputMany])), (a_t_w, jk_W cI 259 i_t_w)]
set_option maxHeartbeats 4000000 in
set_option maxRecDepth 20000 in
theorem ct_Md_isNibbled (l : Launch) (D : va_G) (Z : (Nat → Prop) → State → Heap → Prop) (sq : Nat → Nat) (hZ : jk_ZK Z sq) (cI cR : ClassId) (a_t a_t_w a_t_wKept a_t_saved a_t_past a_t_input a_t_n a_t_order a_t_numbers a_t_output : Nat) (i_t_pastMany : Int) (i_t_isSaved : Int) (i_t_thrown : Int) (i_t_inputMany : Int) (i_t_lastError : Int) (i_t_lastOffset : Int) (i_t_error : Int) (i_t_offset : Int) (i_t_nextByte : Int) (i_t_begin : Int) (i_t_value : Int) (i_t_token : Int) (i_t_got : Int) (i_t_orders : Int) (i_t_outputMany : Int) (i_t_w : (Int → Int)) (x1 : Int) (q : Int) (hf : fn_Md_isNibbled i_t_w x1 = some q) : jk_MI l D jk_cl (jk_ty cI cR) Z mn_Md_isNibbled (.code mn_Md_isNibbled mb_Md_isNibbled 2 (some .boolean) :: jk_WA) (jk_rm 1 22) [.ref a_t, jk_V x1] (wd_Md_isNibbled cI a_t a_t_w a_t_wKept a_t_saved a_t_past a_t_input a_t_n a_t_order a_t_numbers a_t_output i_t_pastMany i_t_isSaved i_t_thrown i_t_inputMany i_t_lastError i_t_lastOffset i_t_error i_t_offset i_t_nextByte i_t_begin i_t_value i_t_token i_t_got i_t_orders i_t_outputMany i_t_w) (wd_Md_isNibbled cI a_t a_t_w a_t_wKept a_t_saved a_t_past a_t_input a_t_n a_t_order a_t_numbers a_t_output i_t_pastMany i_t_isSaved i_t_thrown i_t_inputMany i_t_lastError i_t_lastOffset i_t_error i_t_offset i_t_nextByte i_t_begin i_t_value i_t_token i_t_got i_t_orders i_t_outputMany i_t_w) q := by
  intro sz
  refine jk_body (by decide +kernel) (fun p e s m args below meth c hsz hz hin C => ?_) (Nat.le_of_ble_eq_true rfl)
  subst hsz
  unfold fn_Md_isNibbled at hf
  refine jk_aload_n C rd_Md_isNibbled_0 (k := 0) rfl ?_
  refine jk_iload_n C rd_Md_isNibbled_1 (k := 1) rfl ?_
  refine jk_iconst C rd_Md_isNibbled_2 ?_
  obtain ⟨q3, hq3, hf⟩ := jk_bind_h hf
  refine jk_callVi C hZ.1 hz (ct_Md_of l D Z sq hZ cI cR a_t a_t_w a_t_wKept a_t_saved a_t_past a_t_input a_t_n a_t_order a_t_numbers a_t_output i_t_pastMany i_t_isSaved i_t_thrown i_t_inputMany i_t_lastError i_t_lastOffset i_t_error i_t_offset i_t_nextByte i_t_begin i_t_value i_t_token i_t_got i_t_orders i_t_outputMany i_t_w x1 4 q3 hq3) tm_1256 tm_1258 sl_26 tm_15 tm_1259 na_Md_of ⟨Nat.le_of_ble_eq_true rfl, Nat.le_of_ble_eq_true rfl⟩ rfl [0, 1] rfl rfl rfl (ws' := wd_Md_isNibbled cI a_t a_t_w a_t_wKept a_t_saved a_t_past a_t_input a_t_n a_t_order a_t_numbers a_t_output i_t_pastMany i_t_isSaved i_t_thrown i_t_inputMany i_t_lastError i_t_lastOffset i_t_error i_t_offset i_t_nextByte i_t_begin i_t_value i_t_token i_t_got i_t_orders i_t_outputMany i_t_w) rfl 0 11 rfl rfl rfl (st := []) rfl (Nat.le_of_ble_eq_true rfl) rd_Md_isNibbled_3 ?_ ⟨Nat.le_of_ble_eq_true rfl, Nat.le_of_ble_eq_true rfl⟩
  refine jk_if_le (tgt := 13) C rd_Md_isNibbled_6 (by decide) hf (fun _ hf => ?_) (fun _ hf => ?_)
  · refine jk_iconst C rd_Md_isNibbled_13 ?_
    cases hf
    exact jk_zret C (Or.inl rfl) rfl rd_Md_isNibbled_14 rfl
  · refine jk_iconst C rd_Md_isNibbled_9 ?_
    refine jk_goto (tgt := 14) C rd_Md_isNibbled_10 (by decide) ?_
    cases hf
    exact jk_zret C (Or.inr rfl) rfl rd_Md_isNibbled_14 rfl
def wd_Md_loses (cI : ClassId) (a_t a_t_w a_t_wKept a_t_saved a_t_past a_t_input a_t_n a_t_order a_t_numbers a_t_output : Nat) (i_t_pastMany : Int) (i_t_isSaved : Int) (i_t_thrown : Int) (i_t_inputMany : Int) (i_t_lastError : Int) (i_t_lastOffset : Int) (i_t_error : Int) (i_t_offset : Int) (i_t_nextByte : Int) (i_t_begin : Int) (i_t_value : Int) (i_t_token : Int) (i_t_got : Int) (i_t_orders : Int) (i_t_outputMany : Int) (i_t_w : (Int → Int)) : va_W := [(a_t, .inr (11, [.ref a_t_w, .ref a_t_wKept, .ref a_t_saved, .ref a_t_past, jk_V i_t_pastMany, jk_V i_t_isSaved, jk_V i_t_thrown, .ref a_t_input, jk_V i_t_inputMany, jk_V i_t_lastError, jk_V i_t_lastOffset, jk_V i_t_error, jk_V i_t_offset, jk_V i_t_nextByte, jk_V i_t_begin, jk_V i_t_value, jk_V i_t_token, jk_V i_t_got, .ref a_t_n, .ref a_t_order, .ref a_t_numbers, jk_V i_t_orders, .ref a_t_output, jk_V i_t_outputMany])), (a_t_w, jk_W cI 259 i_t_w)]
set_option maxHeartbeats 4000000 in
set_option maxRecDepth 20000 in
theorem ct_Md_loses (l : Launch) (D : va_G) (Z : (Nat → Prop) → State → Heap → Prop) (sq : Nat → Nat) (hZ : jk_ZK Z sq) (cI cR : ClassId) (a_t a_t_w a_t_wKept a_t_saved a_t_past a_t_input a_t_n a_t_order a_t_numbers a_t_output : Nat) (i_t_pastMany : Int) (i_t_isSaved : Int) (i_t_thrown : Int) (i_t_inputMany : Int) (i_t_lastError : Int) (i_t_lastOffset : Int) (i_t_error : Int) (i_t_offset : Int) (i_t_nextByte : Int) (i_t_begin : Int) (i_t_value : Int) (i_t_token : Int) (i_t_got : Int) (i_t_orders : Int) (i_t_outputMany : Int) (i_t_w : (Int → Int)) (x1 : Int) (x2 : Int) (q : Int × (Int → Int)) (hf : fn_Md_loses i_t_w x1 x2 = some q) : jk_MI l D jk_cl (jk_ty cI cR) Z mn_Md_loses (.code mn_Md_loses mb_Md_loses 5 (some .int) :: jk_WA) (jk_rm 3 67) [.ref a_t, jk_V x1, jk_V x2] (wd_Md_loses cI a_t a_t_w a_t_wKept a_t_saved a_t_past a_t_input a_t_n a_t_order a_t_numbers a_t_output i_t_pastMany i_t_isSaved i_t_thrown i_t_inputMany i_t_lastError i_t_lastOffset i_t_error i_t_offset i_t_nextByte i_t_begin i_t_value i_t_token i_t_got i_t_orders i_t_outputMany i_t_w) (wd_Md_loses cI a_t a_t_w a_t_wKept a_t_saved a_t_past a_t_input a_t_n a_t_order a_t_numbers a_t_output i_t_pastMany i_t_isSaved i_t_thrown i_t_inputMany i_t_lastError i_t_lastOffset i_t_error i_t_offset i_t_nextByte i_t_begin i_t_value i_t_token i_t_got i_t_orders i_t_outputMany q.2) q.1 := by
  intro sz
  refine jk_body (by decide +kernel) (fun p e s m args below meth c hsz hz hin C => ?_) (Nat.le_of_ble_eq_true rfl)
  subst hsz
  unfold fn_Md_loses at hf
  refine jk_aload_n C rd_Md_loses_0 (k := 0) rfl ?_
  refine jk_iload_n C rd_Md_loses_1 (k := 1) rfl ?_
  obtain ⟨q2, hq2, hf⟩ := jk_bind_h hf
  refine jk_callVi C hZ.1 hz (ct_Md_knotsOf l D Z sq hZ cI cR a_t a_t_w a_t_wKept a_t_saved a_t_past a_t_input a_t_n a_t_order a_t_numbers a_t_output i_t_pastMany i_t_isSaved i_t_thrown i_t_inputMany i_t_lastError i_t_lastOffset i_t_error i_t_offset i_t_nextByte i_t_begin i_t_value i_t_token i_t_got i_t_orders i_t_outputMany i_t_w x1 q2 hq2) tm_1248 tm_1250 sl_24 tm_15 tm_1251 na_Md_knotsOf ⟨Nat.le_of_ble_eq_true rfl, Nat.le_of_ble_eq_true rfl⟩ rfl [0, 1] rfl rfl rfl (ws' := wd_Md_loses cI a_t a_t_w a_t_wKept a_t_saved a_t_past a_t_input a_t_n a_t_order a_t_numbers a_t_output i_t_pastMany i_t_isSaved i_t_thrown i_t_inputMany i_t_lastError i_t_lastOffset i_t_error i_t_offset i_t_nextByte i_t_begin i_t_value i_t_token i_t_got i_t_orders i_t_outputMany i_t_w) rfl 0 11 rfl rfl rfl (st := []) rfl (Nat.le_of_ble_eq_true rfl) rd_Md_loses_2 ?_ ⟨Nat.le_of_ble_eq_true rfl, Nat.le_of_ble_eq_true rfl⟩
  refine jk_istore_n C rd_Md_loses_5 (by decide) (lv' := [(3, jk_V q2), (0, .ref a_t), (1, jk_V x1), (2, jk_V x2)]) rfl ?_
  refine jk_iload_n C rd_Md_loses_6 (k := 3) rfl ?_
  obtain ⟨q7, hq7, hf⟩ := jk_bind_h hf
  refine jk_callSi C hZ.1 hz (ct_Md_power l D Z sq hZ cI cR x2 q7 hq7) tm_1260 tm_1261 tm_15 tm_1262 na_Md_power ⟨Nat.le_of_ble_eq_true rfl, Nat.le_of_ble_eq_true rfl⟩ rfl [] rfl rfl rfl (ws' := wd_Md_loses cI a_t a_t_w a_t_wKept a_t_saved a_t_past a_t_input a_t_n a_t_order a_t_numbers a_t_output i_t_pastMany i_t_isSaved i_t_thrown i_t_inputMany i_t_lastError i_t_lastOffset i_t_error i_t_offset i_t_nextByte i_t_begin i_t_value i_t_token i_t_got i_t_orders i_t_outputMany i_t_w) rfl (st := []) rfl (Nat.le_of_ble_eq_true rfl) rd_Md_loses_7 ?_ ⟨Nat.le_of_ble_eq_true rfl, Nat.le_of_ble_eq_true rfl⟩
  refine jk_istore C rd_Md_loses_10 (by decide) (lv' := [(4, jk_V q7), (3, jk_V q2), (0, .ref a_t), (1, jk_V x1), (2, jk_V x2)]) rfl ?_
  refine jk_aload_n C rd_Md_loses_12 (k := 2) rfl ?_
  refine jk_iload_n C rd_Md_loses_13 (k := 3) rfl ?_
  refine jk_iconst C rd_Md_loses_14 ?_
  refine jk_aload_n C rd_Md_loses_15 (k := 2) rfl ?_
  refine jk_iload_n C rd_Md_loses_16 (k := 3) rfl ?_
  refine jk_iconst C rd_Md_loses_17 ?_
  obtain ⟨q18, hq18, hf⟩ := jk_bind_h hf
  refine jk_callVi C hZ.1 hz (ct_Md_of l D Z sq hZ cI cR a_t a_t_w a_t_wKept a_t_saved a_t_past a_t_input a_t_n a_t_order a_t_numbers a_t_output i_t_pastMany i_t_isSaved i_t_thrown i_t_inputMany i_t_lastError i_t_lastOffset i_t_error i_t_offset i_t_nextByte i_t_begin i_t_value i_t_token i_t_got i_t_orders i_t_outputMany i_t_w x1 3 q18 hq18) tm_1256 tm_1258 sl_26 tm_15 tm_1259 na_Md_of ⟨Nat.le_of_ble_eq_true rfl, Nat.le_of_ble_eq_true rfl⟩ rfl [0, 1] rfl rfl rfl (ws' := wd_Md_loses cI a_t a_t_w a_t_wKept a_t_saved a_t_past a_t_input a_t_n a_t_order a_t_numbers a_t_output i_t_pastMany i_t_isSaved i_t_thrown i_t_inputMany i_t_lastError i_t_lastOffset i_t_error i_t_offset i_t_nextByte i_t_begin i_t_value i_t_token i_t_got i_t_orders i_t_outputMany i_t_w) rfl 0 11 rfl rfl rfl (st := [jk_V 3, jk_V x1, .ref a_t]) rfl (Nat.le_of_ble_eq_true rfl) rd_Md_loses_18 ?_ ⟨Nat.le_of_ble_eq_true rfl, Nat.le_of_ble_eq_true rfl⟩
  refine jk_iload C rd_Md_loses_21 (k := 0) rfl ?_
  refine jk_idiv C rd_Md_loses_23 hf (fun hf => ?_)
  refine jk_iload C rd_Md_loses_24 (k := 0) rfl ?_
  refine jk_imul C rd_Md_loses_26 ?_
  obtain ⟨q27, hq27, hf⟩ := jk_bind_h hf
  refine jk_callVv C hZ.1 hz (ct_Md_puts l D Z sq hZ cI cR a_t a_t_w a_t_wKept a_t_saved a_t_past a_t_input a_t_n a_t_order a_t_numbers a_t_output i_t_pastMany i_t_isSaved i_t_thrown i_t_inputMany i_t_lastError i_t_lastOffset i_t_error i_t_offset i_t_nextByte i_t_begin i_t_value i_t_token i_t_got i_t_orders i_t_outputMany i_t_w x1 3 ((q18 / q7) * q7) q27 hq27) tm_1240 tm_1242 sl_22 tm_15 tm_1243 na_Md_puts ⟨Nat.le_of_ble_eq_true rfl, Nat.le_of_ble_eq_true rfl⟩ rfl [0, 1] rfl rfl rfl (ws' := wd_Md_loses cI a_t a_t_w a_t_wKept a_t_saved a_t_past a_t_input a_t_n a_t_order a_t_numbers a_t_output i_t_pastMany i_t_isSaved i_t_thrown i_t_inputMany i_t_lastError i_t_lastOffset i_t_error i_t_offset i_t_nextByte i_t_begin i_t_value i_t_token i_t_got i_t_orders i_t_outputMany q27) rfl 0 11 rfl rfl rfl (st := []) rfl (Nat.le_of_ble_eq_true rfl) rd_Md_loses_27 ?_ ⟨Nat.le_of_ble_eq_true rfl, Nat.le_of_ble_eq_true rfl⟩
  refine jk_aload_n C rd_Md_loses_30 (k := 2) rfl ?_
  refine jk_iload_n C rd_Md_loses_31 (k := 3) rfl ?_
  refine jk_iconst C rd_Md_loses_32 ?_
  refine jk_iload_n C rd_Md_loses_33 (k := 4) rfl ?_
  obtain ⟨q34, hq34, hf⟩ := jk_bind_h hf
  refine jk_callVv C hZ.1 hz (ct_Md_puts l D Z sq hZ cI cR a_t a_t_w a_t_wKept a_t_saved a_t_past a_t_input a_t_n a_t_order a_t_numbers a_t_output i_t_pastMany i_t_isSaved i_t_thrown i_t_inputMany i_t_lastError i_t_lastOffset i_t_error i_t_offset i_t_nextByte i_t_begin i_t_value i_t_token i_t_got i_t_orders i_t_outputMany q27 x1 4 x2 q34 hq34) tm_1240 tm_1242 sl_22 tm_15 tm_1243 na_Md_puts ⟨Nat.le_of_ble_eq_true rfl, Nat.le_of_ble_eq_true rfl⟩ rfl [0, 1] rfl rfl rfl (ws' := wd_Md_loses cI a_t a_t_w a_t_wKept a_t_saved a_t_past a_t_input a_t_n a_t_order a_t_numbers a_t_output i_t_pastMany i_t_isSaved i_t_thrown i_t_inputMany i_t_lastError i_t_lastOffset i_t_error i_t_offset i_t_nextByte i_t_begin i_t_value i_t_token i_t_got i_t_orders i_t_outputMany q34) rfl 0 11 rfl rfl rfl (st := []) rfl (Nat.le_of_ble_eq_true rfl) rd_Md_loses_34 ?_ ⟨Nat.le_of_ble_eq_true rfl, Nat.le_of_ble_eq_true rfl⟩
  refine jk_iload_n C rd_Md_loses_37 (k := 1) rfl ?_
  refine jk_aload_n C rd_Md_loses_38 (k := 2) rfl ?_
  refine jk_iload_n C rd_Md_loses_39 (k := 3) rfl ?_
  obtain ⟨q40, hq40, hf⟩ := jk_bind_h hf
  refine jk_callVi C hZ.1 hz (ct_Md_knotsOf l D Z sq hZ cI cR a_t a_t_w a_t_wKept a_t_saved a_t_past a_t_input a_t_n a_t_order a_t_numbers a_t_output i_t_pastMany i_t_isSaved i_t_thrown i_t_inputMany i_t_lastError i_t_lastOffset i_t_error i_t_offset i_t_nextByte i_t_begin i_t_value i_t_token i_t_got i_t_orders i_t_outputMany q34 x1 q40 hq40) tm_1248 tm_1250 sl_24 tm_15 tm_1251 na_Md_knotsOf ⟨Nat.le_of_ble_eq_true rfl, Nat.le_of_ble_eq_true rfl⟩ rfl [0, 1] rfl rfl rfl (ws' := wd_Md_loses cI a_t a_t_w a_t_wKept a_t_saved a_t_past a_t_input a_t_n a_t_order a_t_numbers a_t_output i_t_pastMany i_t_isSaved i_t_thrown i_t_inputMany i_t_lastError i_t_lastOffset i_t_error i_t_offset i_t_nextByte i_t_begin i_t_value i_t_token i_t_got i_t_orders i_t_outputMany q34) rfl 0 11 rfl rfl rfl (st := [jk_V q2]) rfl (Nat.le_of_ble_eq_true rfl) rd_Md_loses_40 ?_ ⟨Nat.le_of_ble_eq_true rfl, Nat.le_of_ble_eq_true rfl⟩
  refine jk_isub C rd_Md_loses_43 ?_
  cases hf
  exact jk_iret C rfl rd_Md_loses_44 rfl
def wd_Md_behind (cI : ClassId) (a_t a_t_w a_t_wKept a_t_saved a_t_past a_t_input a_t_n a_t_order a_t_numbers a_t_output : Nat) (i_t_pastMany : Int) (i_t_isSaved : Int) (i_t_thrown : Int) (i_t_inputMany : Int) (i_t_lastError : Int) (i_t_lastOffset : Int) (i_t_error : Int) (i_t_offset : Int) (i_t_nextByte : Int) (i_t_begin : Int) (i_t_value : Int) (i_t_token : Int) (i_t_got : Int) (i_t_orders : Int) (i_t_outputMany : Int) (i_t_w : (Int → Int)) : va_W := [(a_t, .inr (11, [.ref a_t_w, .ref a_t_wKept, .ref a_t_saved, .ref a_t_past, jk_V i_t_pastMany, jk_V i_t_isSaved, jk_V i_t_thrown, .ref a_t_input, jk_V i_t_inputMany, jk_V i_t_lastError, jk_V i_t_lastOffset, jk_V i_t_error, jk_V i_t_offset, jk_V i_t_nextByte, jk_V i_t_begin, jk_V i_t_value, jk_V i_t_token, jk_V i_t_got, .ref a_t_n, .ref a_t_order, .ref a_t_numbers, jk_V i_t_orders, .ref a_t_output, jk_V i_t_outputMany])), (a_t_w, jk_W cI 259 i_t_w)]
set_option maxHeartbeats 4000000 in
set_option maxRecDepth 20000 in
theorem ct_Md_behind (l : Launch) (D : va_G) (Z : (Nat → Prop) → State → Heap → Prop) (sq : Nat → Nat) (hZ : jk_ZK Z sq) (cI cR : ClassId) (a_t a_t_w a_t_wKept a_t_saved a_t_past a_t_input a_t_n a_t_order a_t_numbers a_t_output : Nat) (i_t_pastMany : Int) (i_t_isSaved : Int) (i_t_thrown : Int) (i_t_inputMany : Int) (i_t_lastError : Int) (i_t_lastOffset : Int) (i_t_error : Int) (i_t_offset : Int) (i_t_nextByte : Int) (i_t_begin : Int) (i_t_value : Int) (i_t_token : Int) (i_t_got : Int) (i_t_orders : Int) (i_t_outputMany : Int) (i_t_w : (Int → Int)) (x1 : Int) (q : Int) (hf : fn_Md_behind i_t_w x1 = some q) : jk_MI l D jk_cl (jk_ty cI cR) Z mn_Md_behind (.code mn_Md_behind mb_Md_behind 3 (some .int) :: jk_WA) (jk_rm 1 22) [.ref a_t, jk_V x1] (wd_Md_behind cI a_t a_t_w a_t_wKept a_t_saved a_t_past a_t_input a_t_n a_t_order a_t_numbers a_t_output i_t_pastMany i_t_isSaved i_t_thrown i_t_inputMany i_t_lastError i_t_lastOffset i_t_error i_t_offset i_t_nextByte i_t_begin i_t_value i_t_token i_t_got i_t_orders i_t_outputMany i_t_w) (wd_Md_behind cI a_t a_t_w a_t_wKept a_t_saved a_t_past a_t_input a_t_n a_t_order a_t_numbers a_t_output i_t_pastMany i_t_isSaved i_t_thrown i_t_inputMany i_t_lastError i_t_lastOffset i_t_error i_t_offset i_t_nextByte i_t_begin i_t_value i_t_token i_t_got i_t_orders i_t_outputMany i_t_w) q := by
  intro sz
  refine jk_body (by decide +kernel) (fun p e s m args below meth c hsz hz hin C => ?_) (Nat.le_of_ble_eq_true rfl)
  subst hsz
  unfold fn_Md_behind at hf
  have bk_4 : ∀ (n : Nat) (v1 : Int) (v2 : Int), fn_Md_behind_b4 n i_t_w v1 v2 = some q → jk_J p l e (jk_rm 1 22) s m args below meth c 0 0 (jk_QI below D jk_cl (jk_ty cI cR) (wd_Md_behind cI a_t a_t_w a_t_wKept a_t_saved a_t_past a_t_input a_t_n a_t_order a_t_numbers a_t_output i_t_pastMany i_t_isSaved i_t_thrown i_t_inputMany i_t_lastError i_t_lastOffset i_t_error i_t_offset i_t_nextByte i_t_begin i_t_value i_t_token i_t_got i_t_orders i_t_outputMany i_t_w) (wd_Md_behind cI a_t a_t_w a_t_wKept a_t_saved a_t_past a_t_input a_t_n a_t_order a_t_numbers a_t_output i_t_pastMany i_t_isSaved i_t_thrown i_t_inputMany i_t_lastError i_t_lastOffset i_t_error i_t_offset i_t_nextByte i_t_begin i_t_value i_t_token i_t_got i_t_orders i_t_outputMany i_t_w) args s q) D jk_cl (va_A (wd_Md_behind cI a_t a_t_w a_t_wKept a_t_saved a_t_past a_t_input a_t_n a_t_order a_t_numbers a_t_output i_t_pastMany i_t_isSaved i_t_thrown i_t_inputMany i_t_lastError i_t_lastOffset i_t_error i_t_offset i_t_nextByte i_t_begin i_t_value i_t_token i_t_got i_t_orders i_t_outputMany i_t_w) s.heap.size) 3 (wd_Md_behind cI a_t a_t_w a_t_wKept a_t_saved a_t_past a_t_input a_t_n a_t_order a_t_numbers a_t_output i_t_pastMany i_t_isSaved i_t_thrown i_t_inputMany i_t_lastError i_t_lastOffset i_t_error i_t_offset i_t_nextByte i_t_begin i_t_value i_t_token i_t_got i_t_orders i_t_outputMany i_t_w) [(0, .ref a_t), (1, jk_V v1), (2, jk_V v2)] 4 [] := by
    intro n
    induction n with
    | zero => intro v1 v2 hf; exact nomatch (show none = some q from hf)
    | succ n ih =>
      intro v1 v2 hf
      rw [fn_Md_behind_b4] at hf
      refine jk_iload_n C rd_Md_behind_4 (k := 2) rfl ?_
      refine jk_aload_n C rd_Md_behind_5 (k := 0) rfl ?_
      refine jk_get C in_Md (ci := 11) rfl 0 (by decide) tm_1263 0 rfl rfl rd_Md_behind_6 ?_
      refine jk_iconst C rd_Md_behind_9 ?_
      refine jk_iald C 1 0 rfl rfl (Nat.le_of_ble_eq_true rfl) rd_Md_behind_10 hf (fun hf => ?_)
      refine jk_icmp_ge (tgt := 59) C rd_Md_behind_11 (by decide) hf (fun _ hf => ?_) (fun _ hf => ?_)
      · refine jk_iload_n C rd_Md_behind_59 (k := 2) rfl ?_
        cases hf
        exact jk_iret C rfl rd_Md_behind_60 rfl
      · refine jk_aload_n C rd_Md_behind_14 (k := 0) rfl ?_
        refine jk_iload_n C rd_Md_behind_15 (k := 1) rfl ?_
        refine jk_iconst C rd_Md_behind_16 ?_
        obtain ⟨q17, hq17, hf⟩ := jk_bind_h hf
        refine jk_callVi C hZ.1 hz (ct_Md_of l D Z sq hZ cI cR a_t a_t_w a_t_wKept a_t_saved a_t_past a_t_input a_t_n a_t_order a_t_numbers a_t_output i_t_pastMany i_t_isSaved i_t_thrown i_t_inputMany i_t_lastError i_t_lastOffset i_t_error i_t_offset i_t_nextByte i_t_begin i_t_value i_t_token i_t_got i_t_orders i_t_outputMany i_t_w v1 1 q17 hq17) tm_1256 tm_1258 sl_26 tm_15 tm_1259 na_Md_of ⟨Nat.le_of_ble_eq_true rfl, Nat.le_of_ble_eq_true rfl⟩ rfl [0, 1] rfl rfl rfl (ws' := wd_Md_behind cI a_t a_t_w a_t_wKept a_t_saved a_t_past a_t_input a_t_n a_t_order a_t_numbers a_t_output i_t_pastMany i_t_isSaved i_t_thrown i_t_inputMany i_t_lastError i_t_lastOffset i_t_error i_t_offset i_t_nextByte i_t_begin i_t_value i_t_token i_t_got i_t_orders i_t_outputMany i_t_w) rfl 0 11 rfl rfl rfl (st := []) rfl (Nat.le_of_ble_eq_true rfl) rd_Md_behind_17 ?_ ⟨Nat.le_of_ble_eq_true rfl, Nat.le_of_ble_eq_true rfl⟩
        refine jk_if_le (tgt := 59) C rd_Md_behind_20 (by decide) hf (fun _ hf => ?_) (fun _ hf => ?_)
        · refine jk_iload_n C rd_Md_behind_59 (k := 2) rfl ?_
          cases hf
          exact jk_iret C rfl rd_Md_behind_60 rfl
        · refine jk_aload_n C rd_Md_behind_23 (k := 0) rfl ?_
          refine jk_iload_n C rd_Md_behind_24 (k := 2) rfl ?_
          refine jk_iconst C rd_Md_behind_25 ?_
          obtain ⟨q26, hq26, hf⟩ := jk_bind_h hf
          refine jk_callVi C hZ.1 hz (ct_Md_of l D Z sq hZ cI cR a_t a_t_w a_t_wKept a_t_saved a_t_past a_t_input a_t_n a_t_order a_t_numbers a_t_output i_t_pastMany i_t_isSaved i_t_thrown i_t_inputMany i_t_lastError i_t_lastOffset i_t_error i_t_offset i_t_nextByte i_t_begin i_t_value i_t_token i_t_got i_t_orders i_t_outputMany i_t_w v2 1 q26 hq26) tm_1256 tm_1258 sl_26 tm_15 tm_1259 na_Md_of ⟨Nat.le_of_ble_eq_true rfl, Nat.le_of_ble_eq_true rfl⟩ rfl [0, 1] rfl rfl rfl (ws' := wd_Md_behind cI a_t a_t_w a_t_wKept a_t_saved a_t_past a_t_input a_t_n a_t_order a_t_numbers a_t_output i_t_pastMany i_t_isSaved i_t_thrown i_t_inputMany i_t_lastError i_t_lastOffset i_t_error i_t_offset i_t_nextByte i_t_begin i_t_value i_t_token i_t_got i_t_orders i_t_outputMany i_t_w) rfl 0 11 rfl rfl rfl (st := []) rfl (Nat.le_of_ble_eq_true rfl) rd_Md_behind_26 ?_ ⟨Nat.le_of_ble_eq_true rfl, Nat.le_of_ble_eq_true rfl⟩
          refine jk_aload_n C rd_Md_behind_29 (k := 0) rfl ?_
          refine jk_iload_n C rd_Md_behind_30 (k := 1) rfl ?_
          refine jk_iconst C rd_Md_behind_31 ?_
          obtain ⟨q32, hq32, hf⟩ := jk_bind_h hf
          refine jk_callVi C hZ.1 hz (ct_Md_of l D Z sq hZ cI cR a_t a_t_w a_t_wKept a_t_saved a_t_past a_t_input a_t_n a_t_order a_t_numbers a_t_output i_t_pastMany i_t_isSaved i_t_thrown i_t_inputMany i_t_lastError i_t_lastOffset i_t_error i_t_offset i_t_nextByte i_t_begin i_t_value i_t_token i_t_got i_t_orders i_t_outputMany i_t_w v1 1 q32 hq32) tm_1256 tm_1258 sl_26 tm_15 tm_1259 na_Md_of ⟨Nat.le_of_ble_eq_true rfl, Nat.le_of_ble_eq_true rfl⟩ rfl [0, 1] rfl rfl rfl (ws' := wd_Md_behind cI a_t a_t_w a_t_wKept a_t_saved a_t_past a_t_input a_t_n a_t_order a_t_numbers a_t_output i_t_pastMany i_t_isSaved i_t_thrown i_t_inputMany i_t_lastError i_t_lastOffset i_t_error i_t_offset i_t_nextByte i_t_begin i_t_value i_t_token i_t_got i_t_orders i_t_outputMany i_t_w) rfl 0 11 rfl rfl rfl (st := [jk_V q26]) rfl (Nat.le_of_ble_eq_true rfl) rd_Md_behind_32 ?_ ⟨Nat.le_of_ble_eq_true rfl, Nat.le_of_ble_eq_true rfl⟩
          refine jk_icmp_le (tgt := 59) C rd_Md_behind_35 (by decide) hf (fun _ hf => ?_) (fun _ hf => ?_)
          · refine jk_iload_n C rd_Md_behind_59 (k := 2) rfl ?_
            cases hf
            exact jk_iret C rfl rd_Md_behind_60 rfl
          · refine jk_aload_n C rd_Md_behind_38 (k := 0) rfl ?_
            refine jk_iload_n C rd_Md_behind_39 (k := 2) rfl ?_
            refine jk_iconst C rd_Md_behind_40 ?_
            obtain ⟨q41, hq41, hf⟩ := jk_bind_h hf
            refine jk_callVi C hZ.1 hz (ct_Md_of l D Z sq hZ cI cR a_t a_t_w a_t_wKept a_t_saved a_t_past a_t_input a_t_n a_t_order a_t_numbers a_t_output i_t_pastMany i_t_isSaved i_t_thrown i_t_inputMany i_t_lastError i_t_lastOffset i_t_error i_t_offset i_t_nextByte i_t_begin i_t_value i_t_token i_t_got i_t_orders i_t_outputMany i_t_w v2 0 q41 hq41) tm_1256 tm_1258 sl_26 tm_15 tm_1259 na_Md_of ⟨Nat.le_of_ble_eq_true rfl, Nat.le_of_ble_eq_true rfl⟩ rfl [0, 1] rfl rfl rfl (ws' := wd_Md_behind cI a_t a_t_w a_t_wKept a_t_saved a_t_past a_t_input a_t_n a_t_order a_t_numbers a_t_output i_t_pastMany i_t_isSaved i_t_thrown i_t_inputMany i_t_lastError i_t_lastOffset i_t_error i_t_offset i_t_nextByte i_t_begin i_t_value i_t_token i_t_got i_t_orders i_t_outputMany i_t_w) rfl 0 11 rfl rfl rfl (st := []) rfl (Nat.le_of_ble_eq_true rfl) rd_Md_behind_41 ?_ ⟨Nat.le_of_ble_eq_true rfl, Nat.le_of_ble_eq_true rfl⟩
            refine jk_aload_n C rd_Md_behind_44 (k := 0) rfl ?_
            refine jk_iload_n C rd_Md_behind_45 (k := 1) rfl ?_
            refine jk_iconst C rd_Md_behind_46 ?_
            obtain ⟨q47, hq47, hf⟩ := jk_bind_h hf
            refine jk_callVi C hZ.1 hz (ct_Md_of l D Z sq hZ cI cR a_t a_t_w a_t_wKept a_t_saved a_t_past a_t_input a_t_n a_t_order a_t_numbers a_t_output i_t_pastMany i_t_isSaved i_t_thrown i_t_inputMany i_t_lastError i_t_lastOffset i_t_error i_t_offset i_t_nextByte i_t_begin i_t_value i_t_token i_t_got i_t_orders i_t_outputMany i_t_w v1 0 q47 hq47) tm_1256 tm_1258 sl_26 tm_15 tm_1259 na_Md_of ⟨Nat.le_of_ble_eq_true rfl, Nat.le_of_ble_eq_true rfl⟩ rfl [0, 1] rfl rfl rfl (ws' := wd_Md_behind cI a_t a_t_w a_t_wKept a_t_saved a_t_past a_t_input a_t_n a_t_order a_t_numbers a_t_output i_t_pastMany i_t_isSaved i_t_thrown i_t_inputMany i_t_lastError i_t_lastOffset i_t_error i_t_offset i_t_nextByte i_t_begin i_t_value i_t_token i_t_got i_t_orders i_t_outputMany i_t_w) rfl 0 11 rfl rfl rfl (st := [jk_V q41]) rfl (Nat.le_of_ble_eq_true rfl) rd_Md_behind_47 ?_ ⟨Nat.le_of_ble_eq_true rfl, Nat.le_of_ble_eq_true rfl⟩
            refine jk_icmp_ne (tgt := 59) C rd_Md_behind_50 (by decide) hf (fun _ hf => ?_) (fun _ hf => ?_)
            · refine jk_iload_n C rd_Md_behind_59 (k := 2) rfl ?_
              cases hf
              exact jk_iret C rfl rd_Md_behind_60 rfl
            · refine jk_iinc C rd_Md_behind_53 (k := 2) rfl (by decide) (lv' := [(2, jk_V (v2 + 1)), (0, .ref a_t), (1, jk_V v1)]) rfl ?_
              refine jk_goto (tgt := 4) C rd_Md_behind_56 (by decide) ?_
              refine jk_lv (lv' := [(0, .ref a_t), (1, jk_V v1), (2, jk_V (v2 + 1))]) [1, 2, 0] rfl ?_
              exact ih v1 (v2 + 1) hf
  refine jk_iload_n C rd_Md_behind_0 (k := 1) rfl ?_
  refine jk_iconst C rd_Md_behind_1 ?_
  refine jk_iadd C rd_Md_behind_2 ?_
  refine jk_istore_n C rd_Md_behind_3 (by decide) (lv' := [(2, jk_V (x1 + 1)), (0, .ref a_t), (1, jk_V x1)]) rfl ?_
  refine jk_lv (lv' := [(0, .ref a_t), (1, jk_V x1), (2, jk_V (x1 + 1))]) [1, 2, 0] rfl ?_
  exact bk_4 jk_F x1 (x1 + 1) hf
def wd_Md_parent (cI : ClassId) (a_t a_t_w a_t_wKept a_t_saved a_t_past a_t_input a_t_n a_t_order a_t_numbers a_t_output : Nat) (i_t_pastMany : Int) (i_t_isSaved : Int) (i_t_thrown : Int) (i_t_inputMany : Int) (i_t_lastError : Int) (i_t_lastOffset : Int) (i_t_error : Int) (i_t_offset : Int) (i_t_nextByte : Int) (i_t_begin : Int) (i_t_value : Int) (i_t_token : Int) (i_t_got : Int) (i_t_orders : Int) (i_t_outputMany : Int) (i_t_w : (Int → Int)) : va_W := [(a_t, .inr (11, [.ref a_t_w, .ref a_t_wKept, .ref a_t_saved, .ref a_t_past, jk_V i_t_pastMany, jk_V i_t_isSaved, jk_V i_t_thrown, .ref a_t_input, jk_V i_t_inputMany, jk_V i_t_lastError, jk_V i_t_lastOffset, jk_V i_t_error, jk_V i_t_offset, jk_V i_t_nextByte, jk_V i_t_begin, jk_V i_t_value, jk_V i_t_token, jk_V i_t_got, .ref a_t_n, .ref a_t_order, .ref a_t_numbers, jk_V i_t_orders, .ref a_t_output, jk_V i_t_outputMany])), (a_t_w, jk_W cI 259 i_t_w)]
set_option maxHeartbeats 4000000 in
set_option maxRecDepth 20000 in
theorem ct_Md_parent (l : Launch) (D : va_G) (Z : (Nat → Prop) → State → Heap → Prop) (sq : Nat → Nat) (hZ : jk_ZK Z sq) (cI cR : ClassId) (a_t a_t_w a_t_wKept a_t_saved a_t_past a_t_input a_t_n a_t_order a_t_numbers a_t_output : Nat) (i_t_pastMany : Int) (i_t_isSaved : Int) (i_t_thrown : Int) (i_t_inputMany : Int) (i_t_lastError : Int) (i_t_lastOffset : Int) (i_t_error : Int) (i_t_offset : Int) (i_t_nextByte : Int) (i_t_begin : Int) (i_t_value : Int) (i_t_token : Int) (i_t_got : Int) (i_t_orders : Int) (i_t_outputMany : Int) (i_t_w : (Int → Int)) (x1 : Int) (q : Int) (hf : fn_Md_parent i_t_w x1 = some q) : jk_MI l D jk_cl (jk_ty cI cR) Z mn_Md_parent (.code mn_Md_parent mb_Md_parent 3 (some .int) :: jk_WA) (jk_rm 1 22) [.ref a_t, jk_V x1] (wd_Md_parent cI a_t a_t_w a_t_wKept a_t_saved a_t_past a_t_input a_t_n a_t_order a_t_numbers a_t_output i_t_pastMany i_t_isSaved i_t_thrown i_t_inputMany i_t_lastError i_t_lastOffset i_t_error i_t_offset i_t_nextByte i_t_begin i_t_value i_t_token i_t_got i_t_orders i_t_outputMany i_t_w) (wd_Md_parent cI a_t a_t_w a_t_wKept a_t_saved a_t_past a_t_input a_t_n a_t_order a_t_numbers a_t_output i_t_pastMany i_t_isSaved i_t_thrown i_t_inputMany i_t_lastError i_t_lastOffset i_t_error i_t_offset i_t_nextByte i_t_begin i_t_value i_t_token i_t_got i_t_orders i_t_outputMany i_t_w) q := by
  intro sz
  refine jk_body (by decide +kernel) (fun p e s m args below meth c hsz hz hin C => ?_) (Nat.le_of_ble_eq_true rfl)
  subst hsz
  unfold fn_Md_parent at hf
  have bk_16 : ∀ (n : Nat) (v1 : Int) (v2 : Int), fn_Md_parent_b16 n i_t_w v1 v2 = some q → jk_J p l e (jk_rm 1 22) s m args below meth c 0 0 (jk_QI below D jk_cl (jk_ty cI cR) (wd_Md_parent cI a_t a_t_w a_t_wKept a_t_saved a_t_past a_t_input a_t_n a_t_order a_t_numbers a_t_output i_t_pastMany i_t_isSaved i_t_thrown i_t_inputMany i_t_lastError i_t_lastOffset i_t_error i_t_offset i_t_nextByte i_t_begin i_t_value i_t_token i_t_got i_t_orders i_t_outputMany i_t_w) (wd_Md_parent cI a_t a_t_w a_t_wKept a_t_saved a_t_past a_t_input a_t_n a_t_order a_t_numbers a_t_output i_t_pastMany i_t_isSaved i_t_thrown i_t_inputMany i_t_lastError i_t_lastOffset i_t_error i_t_offset i_t_nextByte i_t_begin i_t_value i_t_token i_t_got i_t_orders i_t_outputMany i_t_w) args s q) D jk_cl (va_A (wd_Md_parent cI a_t a_t_w a_t_wKept a_t_saved a_t_past a_t_input a_t_n a_t_order a_t_numbers a_t_output i_t_pastMany i_t_isSaved i_t_thrown i_t_inputMany i_t_lastError i_t_lastOffset i_t_error i_t_offset i_t_nextByte i_t_begin i_t_value i_t_token i_t_got i_t_orders i_t_outputMany i_t_w) s.heap.size) 3 (wd_Md_parent cI a_t a_t_w a_t_wKept a_t_saved a_t_past a_t_input a_t_n a_t_order a_t_numbers a_t_output i_t_pastMany i_t_isSaved i_t_thrown i_t_inputMany i_t_lastError i_t_lastOffset i_t_error i_t_offset i_t_nextByte i_t_begin i_t_value i_t_token i_t_got i_t_orders i_t_outputMany i_t_w) [(0, .ref a_t), (1, jk_V v1), (2, jk_V v2)] 16 [] := by
    intro n
    induction n with
    | zero => intro v1 v2 hf; exact nomatch (show none = some q from hf)
    | succ n ih =>
      intro v1 v2 hf
      rw [fn_Md_parent_b16] at hf
      refine jk_aload_n C rd_Md_parent_16 (k := 0) rfl ?_
      refine jk_iload_n C rd_Md_parent_17 (k := 2) rfl ?_
      refine jk_iconst C rd_Md_parent_18 ?_
      obtain ⟨q19, hq19, hf⟩ := jk_bind_h hf
      refine jk_callVi C hZ.1 hz (ct_Md_of l D Z sq hZ cI cR a_t a_t_w a_t_wKept a_t_saved a_t_past a_t_input a_t_n a_t_order a_t_numbers a_t_output i_t_pastMany i_t_isSaved i_t_thrown i_t_inputMany i_t_lastError i_t_lastOffset i_t_error i_t_offset i_t_nextByte i_t_begin i_t_value i_t_token i_t_got i_t_orders i_t_outputMany i_t_w v2 1 q19 hq19) tm_1256 tm_1258 sl_26 tm_15 tm_1259 na_Md_of ⟨Nat.le_of_ble_eq_true rfl, Nat.le_of_ble_eq_true rfl⟩ rfl [0, 1] rfl rfl rfl (ws' := wd_Md_parent cI a_t a_t_w a_t_wKept a_t_saved a_t_past a_t_input a_t_n a_t_order a_t_numbers a_t_output i_t_pastMany i_t_isSaved i_t_thrown i_t_inputMany i_t_lastError i_t_lastOffset i_t_error i_t_offset i_t_nextByte i_t_begin i_t_value i_t_token i_t_got i_t_orders i_t_outputMany i_t_w) rfl 0 11 rfl rfl rfl (st := []) rfl (Nat.le_of_ble_eq_true rfl) rd_Md_parent_19 ?_ ⟨Nat.le_of_ble_eq_true rfl, Nat.le_of_ble_eq_true rfl⟩
      refine jk_aload_n C rd_Md_parent_22 (k := 0) rfl ?_
      refine jk_iload_n C rd_Md_parent_23 (k := 1) rfl ?_
      refine jk_iconst C rd_Md_parent_24 ?_
      obtain ⟨q25, hq25, hf⟩ := jk_bind_h hf
      refine jk_callVi C hZ.1 hz (ct_Md_of l D Z sq hZ cI cR a_t a_t_w a_t_wKept a_t_saved a_t_past a_t_input a_t_n a_t_order a_t_numbers a_t_output i_t_pastMany i_t_isSaved i_t_thrown i_t_inputMany i_t_lastError i_t_lastOffset i_t_error i_t_offset i_t_nextByte i_t_begin i_t_value i_t_token i_t_got i_t_orders i_t_outputMany i_t_w v1 1 q25 hq25) tm_1256 tm_1258 sl_26 tm_15 tm_1259 na_Md_of ⟨Nat.le_of_ble_eq_true rfl, Nat.le_of_ble_eq_true rfl⟩ rfl [0, 1] rfl rfl rfl (ws' := wd_Md_parent cI a_t a_t_w a_t_wKept a_t_saved a_t_past a_t_input a_t_n a_t_order a_t_numbers a_t_output i_t_pastMany i_t_isSaved i_t_thrown i_t_inputMany i_t_lastError i_t_lastOffset i_t_error i_t_offset i_t_nextByte i_t_begin i_t_value i_t_token i_t_got i_t_orders i_t_outputMany i_t_w) rfl 0 11 rfl rfl rfl (st := [jk_V q19]) rfl (Nat.le_of_ble_eq_true rfl) rd_Md_parent_25 ?_ ⟨Nat.le_of_ble_eq_true rfl, Nat.le_of_ble_eq_true rfl⟩
      refine jk_icmp_lt (tgt := 37) C rd_Md_parent_28 (by decide) hf (fun _ hf => ?_) (fun _ hf => ?_)
      · refine jk_iload_n C rd_Md_parent_37 (k := 2) rfl ?_
        cases hf
        exact jk_iret C rfl rd_Md_parent_38 rfl
      · refine jk_iinc C rd_Md_parent_31 (k := 2) rfl (by decide) (lv' := [(2, jk_V (v2 + (-1))), (0, .ref a_t), (1, jk_V v1)]) rfl ?_
        refine jk_goto (tgt := 16) C rd_Md_parent_34 (by decide) ?_
        refine jk_lv (lv' := [(0, .ref a_t), (1, jk_V v1), (2, jk_V (v2 + (-1)))]) [1, 2, 0] rfl ?_
        exact ih v1 (v2 + (-1)) hf
  refine jk_aload_n C rd_Md_parent_0 (k := 0) rfl ?_
  refine jk_iload_n C rd_Md_parent_1 (k := 1) rfl ?_
  refine jk_iconst C rd_Md_parent_2 ?_
  obtain ⟨q3, hq3, hf⟩ := jk_bind_h hf
  refine jk_callVi C hZ.1 hz (ct_Md_of l D Z sq hZ cI cR a_t a_t_w a_t_wKept a_t_saved a_t_past a_t_input a_t_n a_t_order a_t_numbers a_t_output i_t_pastMany i_t_isSaved i_t_thrown i_t_inputMany i_t_lastError i_t_lastOffset i_t_error i_t_offset i_t_nextByte i_t_begin i_t_value i_t_token i_t_got i_t_orders i_t_outputMany i_t_w x1 1 q3 hq3) tm_1256 tm_1258 sl_26 tm_15 tm_1259 na_Md_of ⟨Nat.le_of_ble_eq_true rfl, Nat.le_of_ble_eq_true rfl⟩ rfl [0, 1] rfl rfl rfl (ws' := wd_Md_parent cI a_t a_t_w a_t_wKept a_t_saved a_t_past a_t_input a_t_n a_t_order a_t_numbers a_t_output i_t_pastMany i_t_isSaved i_t_thrown i_t_inputMany i_t_lastError i_t_lastOffset i_t_error i_t_offset i_t_nextByte i_t_begin i_t_value i_t_token i_t_got i_t_orders i_t_outputMany i_t_w) rfl 0 11 rfl rfl rfl (st := []) rfl (Nat.le_of_ble_eq_true rfl) rd_Md_parent_3 ?_ ⟨Nat.le_of_ble_eq_true rfl, Nat.le_of_ble_eq_true rfl⟩
  refine jk_iconst C rd_Md_parent_6 ?_
  refine jk_icmp_ge (tgt := 12) C rd_Md_parent_7 (by decide) hf (fun _ hf => ?_) (fun _ hf => ?_)
  · refine jk_iload_n C rd_Md_parent_12 (k := 1) rfl ?_
    refine jk_iconst C rd_Md_parent_13 ?_
    refine jk_isub C rd_Md_parent_14 ?_
    refine jk_istore_n C rd_Md_parent_15 (by decide) (lv' := [(2, jk_V (x1 - 1)), (0, .ref a_t), (1, jk_V x1)]) rfl ?_
    refine jk_lv (lv' := [(0, .ref a_t), (1, jk_V x1), (2, jk_V (x1 - 1))]) [1, 2, 0] rfl ?_
    exact bk_16 jk_F x1 (x1 - 1) hf
  · refine jk_iconst C rd_Md_parent_10 ?_
    cases hf
    exact jk_iret C rfl rd_Md_parent_11 rfl
def wd_Md_subsidiaries (cI : ClassId) (a_t a_t_w a_t_wKept a_t_saved a_t_past a_t_input a_t_n a_t_order a_t_numbers a_t_output : Nat) (i_t_pastMany : Int) (i_t_isSaved : Int) (i_t_thrown : Int) (i_t_inputMany : Int) (i_t_lastError : Int) (i_t_lastOffset : Int) (i_t_error : Int) (i_t_offset : Int) (i_t_nextByte : Int) (i_t_begin : Int) (i_t_value : Int) (i_t_token : Int) (i_t_got : Int) (i_t_orders : Int) (i_t_outputMany : Int) (i_t_w : (Int → Int)) : va_W := [(a_t, .inr (11, [.ref a_t_w, .ref a_t_wKept, .ref a_t_saved, .ref a_t_past, jk_V i_t_pastMany, jk_V i_t_isSaved, jk_V i_t_thrown, .ref a_t_input, jk_V i_t_inputMany, jk_V i_t_lastError, jk_V i_t_lastOffset, jk_V i_t_error, jk_V i_t_offset, jk_V i_t_nextByte, jk_V i_t_begin, jk_V i_t_value, jk_V i_t_token, jk_V i_t_got, .ref a_t_n, .ref a_t_order, .ref a_t_numbers, jk_V i_t_orders, .ref a_t_output, jk_V i_t_outputMany])), (a_t_w, jk_W cI 259 i_t_w)]
set_option maxHeartbeats 4000000 in
set_option maxRecDepth 20000 in
theorem ct_Md_subsidiaries (l : Launch) (D : va_G) (Z : (Nat → Prop) → State → Heap → Prop) (sq : Nat → Nat) (hZ : jk_ZK Z sq) (cI cR : ClassId) (a_t a_t_w a_t_wKept a_t_saved a_t_past a_t_input a_t_n a_t_order a_t_numbers a_t_output : Nat) (i_t_pastMany : Int) (i_t_isSaved : Int) (i_t_thrown : Int) (i_t_inputMany : Int) (i_t_lastError : Int) (i_t_lastOffset : Int) (i_t_error : Int) (i_t_offset : Int) (i_t_nextByte : Int) (i_t_begin : Int) (i_t_value : Int) (i_t_token : Int) (i_t_got : Int) (i_t_orders : Int) (i_t_outputMany : Int) (i_t_w : (Int → Int)) (x1 : Int) (q : Int) (hf : fn_Md_subsidiaries i_t_w x1 = some q) : jk_MI l D jk_cl (jk_ty cI cR) Z mn_Md_subsidiaries (.code mn_Md_subsidiaries mb_Md_subsidiaries 4 (some .int) :: jk_WA) (jk_rm 2 44) [.ref a_t, jk_V x1] (wd_Md_subsidiaries cI a_t a_t_w a_t_wKept a_t_saved a_t_past a_t_input a_t_n a_t_order a_t_numbers a_t_output i_t_pastMany i_t_isSaved i_t_thrown i_t_inputMany i_t_lastError i_t_lastOffset i_t_error i_t_offset i_t_nextByte i_t_begin i_t_value i_t_token i_t_got i_t_orders i_t_outputMany i_t_w) (wd_Md_subsidiaries cI a_t a_t_w a_t_wKept a_t_saved a_t_past a_t_input a_t_n a_t_order a_t_numbers a_t_output i_t_pastMany i_t_isSaved i_t_thrown i_t_inputMany i_t_lastError i_t_lastOffset i_t_error i_t_offset i_t_nextByte i_t_begin i_t_value i_t_token i_t_got i_t_orders i_t_outputMany i_t_w) q := by
  intro sz
  refine jk_body (by decide +kernel) (fun p e s m args below meth c hsz hz hin C => ?_) (Nat.le_of_ble_eq_true rfl)
  subst hsz
  unfold fn_Md_subsidiaries at hf
  have bk_6 : ∀ (n : Nat) (v1 : Int) (v2 : Int) (v3 : Int), fn_Md_subsidiaries_b6 n i_t_w v1 v2 v3 = some q → jk_J p l e (jk_rm 2 44) s m args below meth c 0 0 (jk_QI below D jk_cl (jk_ty cI cR) (wd_Md_subsidiaries cI a_t a_t_w a_t_wKept a_t_saved a_t_past a_t_input a_t_n a_t_order a_t_numbers a_t_output i_t_pastMany i_t_isSaved i_t_thrown i_t_inputMany i_t_lastError i_t_lastOffset i_t_error i_t_offset i_t_nextByte i_t_begin i_t_value i_t_token i_t_got i_t_orders i_t_outputMany i_t_w) (wd_Md_subsidiaries cI a_t a_t_w a_t_wKept a_t_saved a_t_past a_t_input a_t_n a_t_order a_t_numbers a_t_output i_t_pastMany i_t_isSaved i_t_thrown i_t_inputMany i_t_lastError i_t_lastOffset i_t_error i_t_offset i_t_nextByte i_t_begin i_t_value i_t_token i_t_got i_t_orders i_t_outputMany i_t_w) args s q) D jk_cl (va_A (wd_Md_subsidiaries cI a_t a_t_w a_t_wKept a_t_saved a_t_past a_t_input a_t_n a_t_order a_t_numbers a_t_output i_t_pastMany i_t_isSaved i_t_thrown i_t_inputMany i_t_lastError i_t_lastOffset i_t_error i_t_offset i_t_nextByte i_t_begin i_t_value i_t_token i_t_got i_t_orders i_t_outputMany i_t_w) s.heap.size) 4 (wd_Md_subsidiaries cI a_t a_t_w a_t_wKept a_t_saved a_t_past a_t_input a_t_n a_t_order a_t_numbers a_t_output i_t_pastMany i_t_isSaved i_t_thrown i_t_inputMany i_t_lastError i_t_lastOffset i_t_error i_t_offset i_t_nextByte i_t_begin i_t_value i_t_token i_t_got i_t_orders i_t_outputMany i_t_w) [(0, .ref a_t), (1, jk_V v1), (2, jk_V v2), (3, jk_V v3)] 6 [] := by
    intro n
    induction n with
    | zero => intro v1 v2 v3 hf; exact nomatch (show none = some q from hf)
    | succ n ih =>
      intro v1 v2 v3 hf
      rw [fn_Md_subsidiaries_b6] at hf
      refine jk_iload_n C rd_Md_subsidiaries_6 (k := 3) rfl ?_
      refine jk_aload_n C rd_Md_subsidiaries_7 (k := 0) rfl ?_
      refine jk_iload_n C rd_Md_subsidiaries_8 (k := 1) rfl ?_
      obtain ⟨q9, hq9, hf⟩ := jk_bind_h hf
      refine jk_callVi C hZ.1 hz (ct_Md_behind l D Z sq hZ cI cR a_t a_t_w a_t_wKept a_t_saved a_t_past a_t_input a_t_n a_t_order a_t_numbers a_t_output i_t_pastMany i_t_isSaved i_t_thrown i_t_inputMany i_t_lastError i_t_lastOffset i_t_error i_t_offset i_t_nextByte i_t_begin i_t_value i_t_token i_t_got i_t_orders i_t_outputMany i_t_w v1 q9 hq9) tm_1457 tm_1459 sl_50 tm_15 tm_1460 na_Md_behind ⟨Nat.le_of_ble_eq_true rfl, Nat.le_of_ble_eq_true rfl⟩ rfl [0, 1] rfl rfl rfl (ws' := wd_Md_subsidiaries cI a_t a_t_w a_t_wKept a_t_saved a_t_past a_t_input a_t_n a_t_order a_t_numbers a_t_output i_t_pastMany i_t_isSaved i_t_thrown i_t_inputMany i_t_lastError i_t_lastOffset i_t_error i_t_offset i_t_nextByte i_t_begin i_t_value i_t_token i_t_got i_t_orders i_t_outputMany i_t_w) rfl 0 11 rfl rfl rfl (st := [jk_V v3]) rfl (Nat.le_of_ble_eq_true rfl) rd_Md_subsidiaries_9 ?_ ⟨Nat.le_of_ble_eq_true rfl, Nat.le_of_ble_eq_true rfl⟩
      refine jk_icmp_ge (tgt := 49) C rd_Md_subsidiaries_12 (by decide) hf (fun _ hf => ?_) (fun _ hf => ?_)
      · refine jk_iload_n C rd_Md_subsidiaries_49 (k := 2) rfl ?_
        cases hf
        exact jk_iret C rfl rd_Md_subsidiaries_50 rfl
      · refine jk_iload_n C rd_Md_subsidiaries_15 (k := 2) rfl ?_
        refine jk_aload_n C rd_Md_subsidiaries_16 (k := 0) rfl ?_
        refine jk_iload_n C rd_Md_subsidiaries_17 (k := 3) rfl ?_
        refine jk_iconst C rd_Md_subsidiaries_18 ?_
        obtain ⟨q19, hq19, hf⟩ := jk_bind_h hf
        refine jk_callVi C hZ.1 hz (ct_Md_of l D Z sq hZ cI cR a_t a_t_w a_t_wKept a_t_saved a_t_past a_t_input a_t_n a_t_order a_t_numbers a_t_output i_t_pastMany i_t_isSaved i_t_thrown i_t_inputMany i_t_lastError i_t_lastOffset i_t_error i_t_offset i_t_nextByte i_t_begin i_t_value i_t_token i_t_got i_t_orders i_t_outputMany i_t_w v3 1 q19 hq19) tm_1256 tm_1258 sl_26 tm_15 tm_1259 na_Md_of ⟨Nat.le_of_ble_eq_true rfl, Nat.le_of_ble_eq_true rfl⟩ rfl [0, 1] rfl rfl rfl (ws' := wd_Md_subsidiaries cI a_t a_t_w a_t_wKept a_t_saved a_t_past a_t_input a_t_n a_t_order a_t_numbers a_t_output i_t_pastMany i_t_isSaved i_t_thrown i_t_inputMany i_t_lastError i_t_lastOffset i_t_error i_t_offset i_t_nextByte i_t_begin i_t_value i_t_token i_t_got i_t_orders i_t_outputMany i_t_w) rfl 0 11 rfl rfl rfl (st := [jk_V v2]) rfl (Nat.le_of_ble_eq_true rfl) rd_Md_subsidiaries_19 ?_ ⟨Nat.le_of_ble_eq_true rfl, Nat.le_of_ble_eq_true rfl⟩
        refine jk_aload_n C rd_Md_subsidiaries_22 (k := 0) rfl ?_
        refine jk_iload_n C rd_Md_subsidiaries_23 (k := 1) rfl ?_
        refine jk_iconst C rd_Md_subsidiaries_24 ?_
        obtain ⟨q25, hq25, hf⟩ := jk_bind_h hf
        refine jk_callVi C hZ.1 hz (ct_Md_of l D Z sq hZ cI cR a_t a_t_w a_t_wKept a_t_saved a_t_past a_t_input a_t_n a_t_order a_t_numbers a_t_output i_t_pastMany i_t_isSaved i_t_thrown i_t_inputMany i_t_lastError i_t_lastOffset i_t_error i_t_offset i_t_nextByte i_t_begin i_t_value i_t_token i_t_got i_t_orders i_t_outputMany i_t_w v1 1 q25 hq25) tm_1256 tm_1258 sl_26 tm_15 tm_1259 na_Md_of ⟨Nat.le_of_ble_eq_true rfl, Nat.le_of_ble_eq_true rfl⟩ rfl [0, 1] rfl rfl rfl (ws' := wd_Md_subsidiaries cI a_t a_t_w a_t_wKept a_t_saved a_t_past a_t_input a_t_n a_t_order a_t_numbers a_t_output i_t_pastMany i_t_isSaved i_t_thrown i_t_inputMany i_t_lastError i_t_lastOffset i_t_error i_t_offset i_t_nextByte i_t_begin i_t_value i_t_token i_t_got i_t_orders i_t_outputMany i_t_w) rfl 0 11 rfl rfl rfl (st := [jk_V q19, jk_V v2]) rfl (Nat.le_of_ble_eq_true rfl) rd_Md_subsidiaries_25 ?_ ⟨Nat.le_of_ble_eq_true rfl, Nat.le_of_ble_eq_true rfl⟩
        refine jk_iconst C rd_Md_subsidiaries_28 ?_
        refine jk_iadd C rd_Md_subsidiaries_29 ?_
        refine jk_icmp_ne (tgt := 37) C rd_Md_subsidiaries_30 (by decide) hf (fun _ hf => ?_) (fun _ hf => ?_)
        · refine jk_iconst C rd_Md_subsidiaries_37 ?_
          obtain ⟨q38, hq38, hf⟩ := jk_bind_h hf
          refine jk_callSi C hZ.1 hz (ct_Md_one l D Z sq hZ cI cR 0 q38 hq38) tm_1560 tm_1561 tm_15 tm_1562 na_Md_one ⟨Nat.le_of_ble_eq_true rfl, Nat.le_of_ble_eq_true rfl⟩ rfl [] rfl rfl rfl (ws' := wd_Md_subsidiaries cI a_t a_t_w a_t_wKept a_t_saved a_t_past a_t_input a_t_n a_t_order a_t_numbers a_t_output i_t_pastMany i_t_isSaved i_t_thrown i_t_inputMany i_t_lastError i_t_lastOffset i_t_error i_t_offset i_t_nextByte i_t_begin i_t_value i_t_token i_t_got i_t_orders i_t_outputMany i_t_w) rfl (st := [jk_V v2]) rfl (Nat.le_of_ble_eq_true rfl) rd_Md_subsidiaries_38 ?_ ⟨Nat.le_of_ble_eq_true rfl, Nat.le_of_ble_eq_true rfl⟩
          refine jk_iadd C rd_Md_subsidiaries_41 ?_
          refine jk_istore_n C rd_Md_subsidiaries_42 (by decide) (lv' := [(2, jk_V (v2 + q38)), (0, .ref a_t), (1, jk_V v1), (3, jk_V v3)]) rfl ?_
          refine jk_iinc C rd_Md_subsidiaries_43 (k := 3) rfl (by decide) (lv' := [(3, jk_V (v3 + 1)), (2, jk_V (v2 + q38)), (0, .ref a_t), (1, jk_V v1)]) rfl ?_
          refine jk_goto (tgt := 6) C rd_Md_subsidiaries_46 (by decide) ?_
          refine jk_lv (lv' := [(0, .ref a_t), (1, jk_V v1), (2, jk_V (v2 + q38)), (3, jk_V (v3 + 1))]) [2, 3, 1, 0] rfl ?_
          exact ih v1 (v2 + q38) (v3 + 1) hf
        · refine jk_iconst C rd_Md_subsidiaries_33 ?_
          refine jk_goto (tgt := 38) C rd_Md_subsidiaries_34 (by decide) ?_
          obtain ⟨q38, hq38, hf⟩ := jk_bind_h hf
          refine jk_callSi C hZ.1 hz (ct_Md_one l D Z sq hZ cI cR 1 q38 hq38) tm_1560 tm_1561 tm_15 tm_1562 na_Md_one ⟨Nat.le_of_ble_eq_true rfl, Nat.le_of_ble_eq_true rfl⟩ rfl [] rfl rfl rfl (ws' := wd_Md_subsidiaries cI a_t a_t_w a_t_wKept a_t_saved a_t_past a_t_input a_t_n a_t_order a_t_numbers a_t_output i_t_pastMany i_t_isSaved i_t_thrown i_t_inputMany i_t_lastError i_t_lastOffset i_t_error i_t_offset i_t_nextByte i_t_begin i_t_value i_t_token i_t_got i_t_orders i_t_outputMany i_t_w) rfl (st := [jk_V v2]) rfl (Nat.le_of_ble_eq_true rfl) rd_Md_subsidiaries_38 ?_ ⟨Nat.le_of_ble_eq_true rfl, Nat.le_of_ble_eq_true rfl⟩
          refine jk_iadd C rd_Md_subsidiaries_41 ?_
          refine jk_istore_n C rd_Md_subsidiaries_42 (by decide) (lv' := [(2, jk_V (v2 + q38)), (0, .ref a_t), (1, jk_V v1), (3, jk_V v3)]) rfl ?_
          refine jk_iinc C rd_Md_subsidiaries_43 (k := 3) rfl (by decide) (lv' := [(3, jk_V (v3 + 1)), (2, jk_V (v2 + q38)), (0, .ref a_t), (1, jk_V v1)]) rfl ?_
          refine jk_goto (tgt := 6) C rd_Md_subsidiaries_46 (by decide) ?_
          refine jk_lv (lv' := [(0, .ref a_t), (1, jk_V v1), (2, jk_V (v2 + q38)), (3, jk_V (v3 + 1))]) [2, 3, 1, 0] rfl ?_
          exact ih v1 (v2 + q38) (v3 + 1) hf
  refine jk_iconst C rd_Md_subsidiaries_0 ?_
  refine jk_istore_n C rd_Md_subsidiaries_1 (by decide) (lv' := [(2, jk_V 0), (0, .ref a_t), (1, jk_V x1)]) rfl ?_
  refine jk_iload_n C rd_Md_subsidiaries_2 (k := 2) rfl ?_
  refine jk_iconst C rd_Md_subsidiaries_3 ?_
  refine jk_iadd C rd_Md_subsidiaries_4 ?_
  refine jk_istore_n C rd_Md_subsidiaries_5 (by decide) (lv' := [(3, jk_V (x1 + 1)), (2, jk_V 0), (0, .ref a_t), (1, jk_V x1)]) rfl ?_
  refine jk_lv (lv' := [(0, .ref a_t), (1, jk_V x1), (2, jk_V 0), (3, jk_V (x1 + 1))]) [2, 3, 1, 0] rfl ?_
  exact bk_6 jk_F x1 0 (x1 + 1) hf
