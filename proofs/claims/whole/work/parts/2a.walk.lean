theorem rd_Md_nibble_0 : decode mb_Md_nibble 0 = .ok (.aload_n 0, 1) := by decide +kernel
theorem rd_Md_nibble_1 : decode mb_Md_nibble 1 = .ok (.iconst 0, 1) := by decide +kernel
theorem rd_Md_nibble_2 : decode mb_Md_nibble 2 = .ok (.putfield 56, 3) := by decide +kernel
theorem rd_Md_nibble_5 : decode mb_Md_nibble 5 = .ok (.aload_n 0, 1) := by decide +kernel
theorem rd_Md_nibble_6 : decode mb_Md_nibble 6 = .ok (.iload_n 1, 1) := by decide +kernel
theorem rd_Md_nibble_7 : decode mb_Md_nibble 7 = .ok (.invokevirtual 349, 3) := by decide +kernel
theorem rd_Md_nibble_10 : decode mb_Md_nibble 10 = .ok (.ifCond .ne 48, 3) := by decide +kernel
theorem rd_Md_nibble_13 : decode mb_Md_nibble 13 = .ok (.aload_n 0, 1) := by decide +kernel
theorem rd_Md_nibble_14 : decode mb_Md_nibble 14 = .ok (.iload_n 2, 1) := by decide +kernel
theorem rd_Md_nibble_15 : decode mb_Md_nibble 15 = .ok (.iconst 1, 1) := by decide +kernel
theorem rd_Md_nibble_16 : decode mb_Md_nibble 16 = .ok (.iconst 4, 1) := by decide +kernel
theorem rd_Md_nibble_17 : decode mb_Md_nibble 17 = .ok (.invokestatic 115, 3) := by decide +kernel
theorem rd_Md_nibble_20 : decode mb_Md_nibble 20 = .ok (.ifCond .ne 7, 3) := by decide +kernel
theorem rd_Md_nibble_23 : decode mb_Md_nibble 23 = .ok (.iconst 1, 1) := by decide +kernel
theorem rd_Md_nibble_24 : decode mb_Md_nibble 24 = .ok (.goto 4, 3) := by decide +kernel
theorem rd_Md_nibble_27 : decode mb_Md_nibble 27 = .ok (.iconst 0, 1) := by decide +kernel
theorem rd_Md_nibble_28 : decode mb_Md_nibble 28 = .ok (.iconst 2, 1) := by decide +kernel
theorem rd_Md_nibble_29 : decode mb_Md_nibble 29 = .ok (.invokevirtual 345, 3) := by decide +kernel
theorem rd_Md_nibble_32 : decode mb_Md_nibble 32 = .ok (.ifCond .ne 26, 3) := by decide +kernel
theorem rd_Md_nibble_35 : decode mb_Md_nibble 35 = .ok (.aload_n 0, 1) := by decide +kernel
theorem rd_Md_nibble_36 : decode mb_Md_nibble 36 = .ok (.iload_n 2, 1) := by decide +kernel
theorem rd_Md_nibble_37 : decode mb_Md_nibble 37 = .ok (.aload_n 0, 1) := by decide +kernel
theorem rd_Md_nibble_38 : decode mb_Md_nibble 38 = .ok (.iload_n 1, 1) := by decide +kernel
theorem rd_Md_nibble_39 : decode mb_Md_nibble 39 = .ok (.iconst 4, 1) := by decide +kernel
theorem rd_Md_nibble_40 : decode mb_Md_nibble 40 = .ok (.invokevirtual 63, 3) := by decide +kernel
theorem rd_Md_nibble_43 : decode mb_Md_nibble 43 = .ok (.if_icmp .ge 7, 3) := by decide +kernel
theorem rd_Md_nibble_46 : decode mb_Md_nibble 46 = .ok (.iconst 1, 1) := by decide +kernel
theorem rd_Md_nibble_47 : decode mb_Md_nibble 47 = .ok (.goto 4, 3) := by decide +kernel
theorem rd_Md_nibble_50 : decode mb_Md_nibble 50 = .ok (.iconst 0, 1) := by decide +kernel
theorem rd_Md_nibble_51 : decode mb_Md_nibble 51 = .ok (.iconst 3, 1) := by decide +kernel
theorem rd_Md_nibble_52 : decode mb_Md_nibble 52 = .ok (.invokevirtual 345, 3) := by decide +kernel
theorem rd_Md_nibble_55 : decode mb_Md_nibble 55 = .ok (.ifCond .eq 5, 3) := by decide +kernel
theorem rd_Md_nibble_58 : decode mb_Md_nibble 58 = .ok (.iconst 0, 1) := by decide +kernel
theorem rd_Md_nibble_59 : decode mb_Md_nibble 59 = .ok (.ireturn, 1) := by decide +kernel
theorem rd_Md_nibble_60 : decode mb_Md_nibble 60 = .ok (.aload_n 0, 1) := by decide +kernel
theorem rd_Md_nibble_61 : decode mb_Md_nibble 61 = .ok (.invokevirtual 336, 3) := by decide +kernel
theorem rd_Md_nibble_64 : decode mb_Md_nibble 64 = .ok (.aload_n 0, 1) := by decide +kernel
theorem rd_Md_nibble_65 : decode mb_Md_nibble 65 = .ok (.iload_n 1, 1) := by decide +kernel
theorem rd_Md_nibble_66 : decode mb_Md_nibble 66 = .ok (.iload_n 2, 1) := by decide +kernel
theorem rd_Md_nibble_67 : decode mb_Md_nibble 67 = .ok (.invokevirtual 52, 3) := by decide +kernel
theorem rd_Md_nibble_70 : decode mb_Md_nibble 70 = .ok (.ireturn, 1) := by decide +kernel
theorem rd_Md_dye_0 : decode mb_Md_dye 0 = .ok (.aload_n 0, 1) := by decide +kernel
theorem rd_Md_dye_1 : decode mb_Md_dye 1 = .ok (.iconst 0, 1) := by decide +kernel
theorem rd_Md_dye_2 : decode mb_Md_dye 2 = .ok (.putfield 56, 3) := by decide +kernel
theorem rd_Md_dye_5 : decode mb_Md_dye 5 = .ok (.aload_n 0, 1) := by decide +kernel
theorem rd_Md_dye_6 : decode mb_Md_dye 6 = .ok (.iload_n 1, 1) := by decide +kernel
theorem rd_Md_dye_7 : decode mb_Md_dye 7 = .ok (.invokevirtual 349, 3) := by decide +kernel
theorem rd_Md_dye_10 : decode mb_Md_dye 10 = .ok (.ifCond .ne 11, 3) := by decide +kernel
theorem rd_Md_dye_13 : decode mb_Md_dye 13 = .ok (.aload_n 0, 1) := by decide +kernel
theorem rd_Md_dye_14 : decode mb_Md_dye 14 = .ok (.iload_n 2, 1) := by decide +kernel
theorem rd_Md_dye_15 : decode mb_Md_dye 15 = .ok (.invokevirtual 372, 3) := by decide +kernel
theorem rd_Md_dye_18 : decode mb_Md_dye 18 = .ok (.ifCond .eq 5, 3) := by decide +kernel
theorem rd_Md_dye_21 : decode mb_Md_dye 21 = .ok (.iconst 0, 1) := by decide +kernel
theorem rd_Md_dye_22 : decode mb_Md_dye 22 = .ok (.ireturn, 1) := by decide +kernel
theorem rd_Md_dye_23 : decode mb_Md_dye 23 = .ok (.aload_n 0, 1) := by decide +kernel
theorem rd_Md_dye_24 : decode mb_Md_dye 24 = .ok (.invokevirtual 336, 3) := by decide +kernel
theorem rd_Md_dye_27 : decode mb_Md_dye 27 = .ok (.aload_n 0, 1) := by decide +kernel
theorem rd_Md_dye_28 : decode mb_Md_dye 28 = .ok (.iload_n 1, 1) := by decide +kernel
theorem rd_Md_dye_29 : decode mb_Md_dye 29 = .ok (.iload_n 2, 1) := by decide +kernel
theorem rd_Md_dye_30 : decode mb_Md_dye 30 = .ok (.invokevirtual 324, 3) := by decide +kernel
theorem rd_Md_dye_33 : decode mb_Md_dye 33 = .ok (.ireturn, 1) := by decide +kernel
theorem rd_Md_repair_0 : decode mb_Md_repair 0 = .ok (.aload_n 0, 1) := by decide +kernel
theorem rd_Md_repair_1 : decode mb_Md_repair 1 = .ok (.iconst 0, 1) := by decide +kernel
theorem rd_Md_repair_2 : decode mb_Md_repair 2 = .ok (.putfield 56, 3) := by decide +kernel
theorem rd_Md_repair_5 : decode mb_Md_repair 5 = .ok (.aload_n 0, 1) := by decide +kernel
theorem rd_Md_repair_6 : decode mb_Md_repair 6 = .ok (.iload_n 1, 1) := by decide +kernel
theorem rd_Md_repair_7 : decode mb_Md_repair 7 = .ok (.invokevirtual 364, 3) := by decide +kernel
theorem rd_Md_repair_10 : decode mb_Md_repair 10 = .ok (.ifCond .ne 24, 3) := by decide +kernel
theorem rd_Md_repair_13 : decode mb_Md_repair 13 = .ok (.aload_n 0, 1) := by decide +kernel
theorem rd_Md_repair_14 : decode mb_Md_repair 14 = .ok (.aload_n 0, 1) := by decide +kernel
theorem rd_Md_repair_15 : decode mb_Md_repair 15 = .ok (.iload_n 1, 1) := by decide +kernel
theorem rd_Md_repair_16 : decode mb_Md_repair 16 = .ok (.invokevirtual 327, 3) := by decide +kernel
theorem rd_Md_repair_19 : decode mb_Md_repair 19 = .ok (.ifCond .eq 7, 3) := by decide +kernel
theorem rd_Md_repair_22 : decode mb_Md_repair 22 = .ok (.iconst 1, 1) := by decide +kernel
theorem rd_Md_repair_23 : decode mb_Md_repair 23 = .ok (.goto 4, 3) := by decide +kernel
theorem rd_Md_repair_26 : decode mb_Md_repair 26 = .ok (.iconst 0, 1) := by decide +kernel
theorem rd_Md_repair_27 : decode mb_Md_repair 27 = .ok (.iconst 2, 1) := by decide +kernel
theorem rd_Md_repair_28 : decode mb_Md_repair 28 = .ok (.invokevirtual 345, 3) := by decide +kernel
theorem rd_Md_repair_31 : decode mb_Md_repair 31 = .ok (.ifCond .eq 5, 3) := by decide +kernel
theorem rd_Md_repair_34 : decode mb_Md_repair 34 = .ok (.iconst 0, 1) := by decide +kernel
theorem rd_Md_repair_35 : decode mb_Md_repair 35 = .ok (.ireturn, 1) := by decide +kernel
theorem rd_Md_repair_36 : decode mb_Md_repair 36 = .ok (.aload_n 0, 1) := by decide +kernel
theorem rd_Md_repair_37 : decode mb_Md_repair 37 = .ok (.invokevirtual 336, 3) := by decide +kernel
theorem rd_Md_repair_40 : decode mb_Md_repair 40 = .ok (.aload_n 0, 1) := by decide +kernel
theorem rd_Md_repair_41 : decode mb_Md_repair 41 = .ok (.iload_n 1, 1) := by decide +kernel
theorem rd_Md_repair_42 : decode mb_Md_repair 42 = .ok (.invokevirtual 330, 3) := by decide +kernel
theorem rd_Md_repair_45 : decode mb_Md_repair 45 = .ok (.ireturn, 1) := by decide +kernel
theorem rd_Md_undo_0 : decode mb_Md_undo 0 = .ok (.aload_n 0, 1) := by decide +kernel
theorem rd_Md_undo_1 : decode mb_Md_undo 1 = .ok (.iconst 0, 1) := by decide +kernel
theorem rd_Md_undo_2 : decode mb_Md_undo 2 = .ok (.putfield 56, 3) := by decide +kernel
theorem rd_Md_undo_5 : decode mb_Md_undo 5 = .ok (.aload_n 0, 1) := by decide +kernel
theorem rd_Md_undo_6 : decode mb_Md_undo 6 = .ok (.aload_n 0, 1) := by decide +kernel
theorem rd_Md_undo_7 : decode mb_Md_undo 7 = .ok (.getfield 132, 3) := by decide +kernel
theorem rd_Md_undo_10 : decode mb_Md_undo 10 = .ok (.ifCond .ne 7, 3) := by decide +kernel
theorem rd_Md_undo_13 : decode mb_Md_undo 13 = .ok (.iconst 1, 1) := by decide +kernel
theorem rd_Md_undo_14 : decode mb_Md_undo 14 = .ok (.goto 4, 3) := by decide +kernel
theorem rd_Md_undo_17 : decode mb_Md_undo 17 = .ok (.iconst 0, 1) := by decide +kernel
theorem rd_Md_undo_18 : decode mb_Md_undo 18 = .ok (.iconst 1, 1) := by decide +kernel
theorem rd_Md_undo_19 : decode mb_Md_undo 19 = .ok (.invokevirtual 345, 3) := by decide +kernel
theorem rd_Md_undo_22 : decode mb_Md_undo 22 = .ok (.ifCond .eq 5, 3) := by decide +kernel
theorem rd_Md_undo_25 : decode mb_Md_undo 25 = .ok (.iconst 0, 1) := by decide +kernel
theorem rd_Md_undo_26 : decode mb_Md_undo 26 = .ok (.ireturn, 1) := by decide +kernel
theorem rd_Md_undo_27 : decode mb_Md_undo 27 = .ok (.aload_n 0, 1) := by decide +kernel
theorem rd_Md_undo_28 : decode mb_Md_undo 28 = .ok (.dup, 1) := by decide +kernel
theorem rd_Md_undo_29 : decode mb_Md_undo 29 = .ok (.getfield 132, 3) := by decide +kernel
theorem rd_Md_undo_32 : decode mb_Md_undo 32 = .ok (.iconst 1, 1) := by decide +kernel
theorem rd_Md_undo_33 : decode mb_Md_undo 33 = .ok (.isub, 1) := by decide +kernel
theorem rd_Md_undo_34 : decode mb_Md_undo 34 = .ok (.putfield 132, 3) := by decide +kernel
theorem rd_Md_undo_37 : decode mb_Md_undo 37 = .ok (.aload_n 0, 1) := by decide +kernel
theorem rd_Md_undo_38 : decode mb_Md_undo 38 = .ok (.getfield 19, 3) := by decide +kernel
theorem rd_Md_undo_41 : decode mb_Md_undo 41 = .ok (.sipush 259, 3) := by decide +kernel
theorem rd_Md_undo_44 : decode mb_Md_undo 44 = .ok (.aload_n 0, 1) := by decide +kernel
theorem rd_Md_undo_45 : decode mb_Md_undo 45 = .ok (.getfield 132, 3) := by decide +kernel
theorem rd_Md_undo_48 : decode mb_Md_undo 48 = .ok (.imul, 1) := by decide +kernel
theorem rd_Md_undo_49 : decode mb_Md_undo 49 = .ok (.aload_n 0, 1) := by decide +kernel
theorem rd_Md_undo_50 : decode mb_Md_undo 50 = .ok (.getfield 7, 3) := by decide +kernel
theorem rd_Md_undo_53 : decode mb_Md_undo 53 = .ok (.iconst 0, 1) := by decide +kernel
theorem rd_Md_undo_54 : decode mb_Md_undo 54 = .ok (.invokestatic 135, 3) := by decide +kernel
theorem rd_Md_undo_57 : decode mb_Md_undo 57 = .ok (.aload_n 0, 1) := by decide +kernel
theorem rd_Md_undo_58 : decode mb_Md_undo 58 = .ok (.getfield 132, 3) := by decide +kernel
theorem rd_Md_undo_61 : decode mb_Md_undo 61 = .ok (.ireturn, 1) := by decide +kernel
theorem rd_Md_write_0 : decode mb_Md_write 0 = .ok (.aload_n 0, 1) := by decide +kernel
theorem rd_Md_write_1 : decode mb_Md_write 1 = .ok (.getfield 38, 3) := by decide +kernel
theorem rd_Md_write_4 : decode mb_Md_write 4 = .ok (.aload_n 0, 1) := by decide +kernel
theorem rd_Md_write_5 : decode mb_Md_write 5 = .ok (.getfield 396, 3) := by decide +kernel
theorem rd_Md_write_8 : decode mb_Md_write 8 = .ok (.iload_n 1, 1) := by decide +kernel
theorem rd_Md_write_9 : decode mb_Md_write 9 = .ok (.iastore, 1) := by decide +kernel
theorem rd_Md_write_10 : decode mb_Md_write 10 = .ok (.aload_n 0, 1) := by decide +kernel
theorem rd_Md_write_11 : decode mb_Md_write 11 = .ok (.dup, 1) := by decide +kernel
theorem rd_Md_write_12 : decode mb_Md_write 12 = .ok (.getfield 396, 3) := by decide +kernel
theorem rd_Md_write_15 : decode mb_Md_write 15 = .ok (.iconst 1, 1) := by decide +kernel
theorem rd_Md_write_16 : decode mb_Md_write 16 = .ok (.iadd, 1) := by decide +kernel
theorem rd_Md_write_17 : decode mb_Md_write 17 = .ok (.putfield 396, 3) := by decide +kernel
theorem rd_Md_write_20 : decode mb_Md_write 20 = .ok (.return_, 1) := by decide +kernel
theorem rd_Md_writeCord_0 : decode mb_Md_writeCord 0 = .ok (.aload_n 0, 1) := by decide +kernel
theorem rd_Md_writeCord_1 : decode mb_Md_writeCord 1 = .ok (.aload_n 0, 1) := by decide +kernel
theorem rd_Md_writeCord_2 : decode mb_Md_writeCord 2 = .ok (.aload_n 0, 1) := by decide +kernel
theorem rd_Md_writeCord_3 : decode mb_Md_writeCord 3 = .ok (.iload_n 1, 1) := by decide +kernel
theorem rd_Md_writeCord_4 : decode mb_Md_writeCord 4 = .ok (.iconst 2, 1) := by decide +kernel
theorem rd_Md_writeCord_5 : decode mb_Md_writeCord 5 = .ok (.invokevirtual 63, 3) := by decide +kernel
theorem rd_Md_writeCord_8 : decode mb_Md_writeCord 8 = .ok (.iconst 1, 1) := by decide +kernel
theorem rd_Md_writeCord_9 : decode mb_Md_writeCord 9 = .ok (.invokevirtual 375, 3) := by decide +kernel
theorem rd_Md_writeCord_12 : decode mb_Md_writeCord 12 = .ok (.invokevirtual 399, 3) := by decide +kernel
theorem rd_Md_writeCord_15 : decode mb_Md_writeCord 15 = .ok (.iconst 3, 1) := by decide +kernel
theorem rd_Md_writeCord_16 : decode mb_Md_writeCord 16 = .ok (.istore_n 2, 1) := by decide +kernel
theorem rd_Md_writeCord_17 : decode mb_Md_writeCord 17 = .ok (.iload_n 2, 1) := by decide +kernel
theorem rd_Md_writeCord_18 : decode mb_Md_writeCord 18 = .ok (.ifCond .lt 37, 3) := by decide +kernel
theorem rd_Md_writeCord_21 : decode mb_Md_writeCord 21 = .ok (.aload_n 0, 1) := by decide +kernel
theorem rd_Md_writeCord_22 : decode mb_Md_writeCord 22 = .ok (.iload_n 2, 1) := by decide +kernel
theorem rd_Md_writeCord_23 : decode mb_Md_writeCord 23 = .ok (.aload_n 0, 1) := by decide +kernel
theorem rd_Md_writeCord_24 : decode mb_Md_writeCord 24 = .ok (.iload_n 1, 1) := by decide +kernel
theorem rd_Md_writeCord_25 : decode mb_Md_writeCord 25 = .ok (.iconst 4, 1) := by decide +kernel
theorem rd_Md_writeCord_26 : decode mb_Md_writeCord 26 = .ok (.invokevirtual 63, 3) := by decide +kernel
theorem rd_Md_writeCord_29 : decode mb_Md_writeCord 29 = .ok (.if_icmp .ge 8, 3) := by decide +kernel
theorem rd_Md_writeCord_32 : decode mb_Md_writeCord 32 = .ok (.bipush 63, 2) := by decide +kernel
theorem rd_Md_writeCord_34 : decode mb_Md_writeCord 34 = .ok (.goto 12, 3) := by decide +kernel
theorem rd_Md_writeCord_37 : decode mb_Md_writeCord 37 = .ok (.bipush 48, 2) := by decide +kernel
theorem rd_Md_writeCord_39 : decode mb_Md_writeCord 39 = .ok (.aload_n 0, 1) := by decide +kernel
theorem rd_Md_writeCord_40 : decode mb_Md_writeCord 40 = .ok (.iload_n 1, 1) := by decide +kernel
theorem rd_Md_writeCord_41 : decode mb_Md_writeCord 41 = .ok (.iload_n 2, 1) := by decide +kernel
theorem rd_Md_writeCord_42 : decode mb_Md_writeCord 42 = .ok (.invokevirtual 70, 3) := by decide +kernel
theorem rd_Md_writeCord_45 : decode mb_Md_writeCord 45 = .ok (.iadd, 1) := by decide +kernel
theorem rd_Md_writeCord_46 : decode mb_Md_writeCord 46 = .ok (.invokevirtual 399, 3) := by decide +kernel
theorem rd_Md_writeCord_49 : decode mb_Md_writeCord 49 = .ok (.iinc 2 (-1), 3) := by decide +kernel
theorem rd_Md_writeCord_52 : decode mb_Md_writeCord 52 = .ok (.goto (-35), 3) := by decide +kernel
theorem rd_Md_writeCord_55 : decode mb_Md_writeCord 55 = .ok (.iload_n 1, 1) := by decide +kernel
theorem rd_Md_writeCord_56 : decode mb_Md_writeCord 56 = .ok (.iconst 1, 1) := by decide +kernel
theorem rd_Md_writeCord_57 : decode mb_Md_writeCord 57 = .ok (.iadd, 1) := by decide +kernel
theorem rd_Md_writeCord_58 : decode mb_Md_writeCord 58 = .ok (.istore_n 2, 1) := by decide +kernel
theorem rd_Md_writeCord_59 : decode mb_Md_writeCord 59 = .ok (.aload_n 0, 1) := by decide +kernel
theorem rd_Md_writeCord_60 : decode mb_Md_writeCord 60 = .ok (.iload_n 1, 1) := by decide +kernel
theorem rd_Md_writeCord_61 : decode mb_Md_writeCord 61 = .ok (.invokevirtual 76, 3) := by decide +kernel
theorem rd_Md_writeCord_64 : decode mb_Md_writeCord 64 = .ok (.istore_n 3, 1) := by decide +kernel
theorem rd_Md_writeCord_65 : decode mb_Md_writeCord 65 = .ok (.iload_n 2, 1) := by decide +kernel
theorem rd_Md_writeCord_66 : decode mb_Md_writeCord 66 = .ok (.iload_n 3, 1) := by decide +kernel
theorem rd_Md_writeCord_67 : decode mb_Md_writeCord 67 = .ok (.if_icmp .ne 4, 3) := by decide +kernel
theorem rd_Md_writeCord_70 : decode mb_Md_writeCord 70 = .ok (.return_, 1) := by decide +kernel
theorem rd_Md_writeCord_71 : decode mb_Md_writeCord 71 = .ok (.aload_n 0, 1) := by decide +kernel
theorem rd_Md_writeCord_72 : decode mb_Md_writeCord 72 = .ok (.bipush 40, 2) := by decide +kernel
theorem rd_Md_writeCord_74 : decode mb_Md_writeCord 74 = .ok (.invokevirtual 399, 3) := by decide +kernel
theorem rd_Md_writeCord_77 : decode mb_Md_writeCord 77 = .ok (.iload_n 2, 1) := by decide +kernel
theorem rd_Md_writeCord_78 : decode mb_Md_writeCord 78 = .ok (.iload_n 3, 1) := by decide +kernel
theorem rd_Md_writeCord_79 : decode mb_Md_writeCord 79 = .ok (.if_icmp .ge 30, 3) := by decide +kernel
theorem rd_Md_writeCord_82 : decode mb_Md_writeCord 82 = .ok (.iload_n 2, 1) := by decide +kernel
theorem rd_Md_writeCord_83 : decode mb_Md_writeCord 83 = .ok (.iload_n 1, 1) := by decide +kernel
theorem rd_Md_writeCord_84 : decode mb_Md_writeCord 84 = .ok (.iconst 1, 1) := by decide +kernel
theorem rd_Md_writeCord_85 : decode mb_Md_writeCord 85 = .ok (.iadd, 1) := by decide +kernel
theorem rd_Md_writeCord_86 : decode mb_Md_writeCord 86 = .ok (.if_icmp .le 9, 3) := by decide +kernel
theorem rd_Md_writeCord_89 : decode mb_Md_writeCord 89 = .ok (.aload_n 0, 1) := by decide +kernel
theorem rd_Md_writeCord_90 : decode mb_Md_writeCord 90 = .ok (.bipush 44, 2) := by decide +kernel
theorem rd_Md_writeCord_92 : decode mb_Md_writeCord 92 = .ok (.invokevirtual 399, 3) := by decide +kernel
theorem rd_Md_writeCord_95 : decode mb_Md_writeCord 95 = .ok (.aload_n 0, 1) := by decide +kernel
theorem rd_Md_writeCord_96 : decode mb_Md_writeCord 96 = .ok (.iload_n 2, 1) := by decide +kernel
theorem rd_Md_writeCord_97 : decode mb_Md_writeCord 97 = .ok (.invokevirtual 402, 3) := by decide +kernel
theorem rd_Md_writeCord_100 : decode mb_Md_writeCord 100 = .ok (.aload_n 0, 1) := by decide +kernel
theorem rd_Md_writeCord_101 : decode mb_Md_writeCord 101 = .ok (.iload_n 2, 1) := by decide +kernel
theorem rd_Md_writeCord_102 : decode mb_Md_writeCord 102 = .ok (.invokevirtual 76, 3) := by decide +kernel
theorem rd_Md_writeCord_105 : decode mb_Md_writeCord 105 = .ok (.istore_n 2, 1) := by decide +kernel
theorem rd_Md_writeCord_106 : decode mb_Md_writeCord 106 = .ok (.goto (-29), 3) := by decide +kernel
theorem rd_Md_writeCord_109 : decode mb_Md_writeCord 109 = .ok (.aload_n 0, 1) := by decide +kernel
theorem rd_Md_writeCord_110 : decode mb_Md_writeCord 110 = .ok (.bipush 41, 2) := by decide +kernel
theorem rd_Md_writeCord_112 : decode mb_Md_writeCord 112 = .ok (.invokevirtual 399, 3) := by decide +kernel
theorem rd_Md_writeCord_115 : decode mb_Md_writeCord 115 = .ok (.return_, 1) := by decide +kernel
theorem rd_Md_writeCluster_0 : decode mb_Md_writeCluster 0 = .ok (.aload_n 0, 1) := by decide +kernel
theorem rd_Md_writeCluster_1 : decode mb_Md_writeCluster 1 = .ok (.iconst 0, 1) := by decide +kernel
theorem rd_Md_writeCluster_2 : decode mb_Md_writeCluster 2 = .ok (.putfield 56, 3) := by decide +kernel
theorem rd_Md_writeCluster_5 : decode mb_Md_writeCluster 5 = .ok (.aload_n 0, 1) := by decide +kernel
theorem rd_Md_writeCluster_6 : decode mb_Md_writeCluster 6 = .ok (.iload_n 1, 1) := by decide +kernel
theorem rd_Md_writeCluster_7 : decode mb_Md_writeCluster 7 = .ok (.invokevirtual 364, 3) := by decide +kernel
theorem rd_Md_writeCluster_10 : decode mb_Md_writeCluster 10 = .ok (.ifCond .eq 5, 3) := by decide +kernel
theorem rd_Md_writeCluster_13 : decode mb_Md_writeCluster 13 = .ok (.iconst 0, 1) := by decide +kernel
theorem rd_Md_writeCluster_14 : decode mb_Md_writeCluster 14 = .ok (.ireturn, 1) := by decide +kernel
theorem rd_Md_writeCluster_15 : decode mb_Md_writeCluster 15 = .ok (.aload_n 0, 1) := by decide +kernel
theorem rd_Md_writeCluster_16 : decode mb_Md_writeCluster 16 = .ok (.iconst 0, 1) := by decide +kernel
theorem rd_Md_writeCluster_17 : decode mb_Md_writeCluster 17 = .ok (.putfield 396, 3) := by decide +kernel
theorem rd_Md_writeCluster_20 : decode mb_Md_writeCluster 20 = .ok (.aload_n 0, 1) := by decide +kernel
theorem rd_Md_writeCluster_21 : decode mb_Md_writeCluster 21 = .ok (.iload_n 1, 1) := by decide +kernel
theorem rd_Md_writeCluster_22 : decode mb_Md_writeCluster 22 = .ok (.invokevirtual 97, 3) := by decide +kernel
theorem rd_Md_writeCluster_25 : decode mb_Md_writeCluster 25 = .ok (.ifCond .eq 18, 3) := by decide +kernel
theorem rd_Md_writeCluster_28 : decode mb_Md_writeCluster 28 = .ok (.aload_n 0, 1) := by decide +kernel
theorem rd_Md_writeCluster_29 : decode mb_Md_writeCluster 29 = .ok (.aload_n 0, 1) := by decide +kernel
theorem rd_Md_writeCluster_30 : decode mb_Md_writeCluster 30 = .ok (.iload_n 1, 1) := by decide +kernel
theorem rd_Md_writeCluster_31 : decode mb_Md_writeCluster 31 = .ok (.invokevirtual 91, 3) := by decide +kernel
theorem rd_Md_writeCluster_34 : decode mb_Md_writeCluster 34 = .ok (.invokevirtual 402, 3) := by decide +kernel
theorem rd_Md_writeCluster_37 : decode mb_Md_writeCluster 37 = .ok (.aload_n 0, 1) := by decide +kernel
theorem rd_Md_writeCluster_38 : decode mb_Md_writeCluster 38 = .ok (.bipush 61, 2) := by decide +kernel
theorem rd_Md_writeCluster_40 : decode mb_Md_writeCluster 40 = .ok (.invokevirtual 399, 3) := by decide +kernel
theorem rd_Md_writeCluster_43 : decode mb_Md_writeCluster 43 = .ok (.aload_n 0, 1) := by decide +kernel
theorem rd_Md_writeCluster_44 : decode mb_Md_writeCluster 44 = .ok (.iload_n 1, 1) := by decide +kernel
theorem rd_Md_writeCluster_45 : decode mb_Md_writeCluster 45 = .ok (.invokevirtual 100, 3) := by decide +kernel
theorem rd_Md_writeCluster_48 : decode mb_Md_writeCluster 48 = .ok (.istore_n 2, 1) := by decide +kernel
theorem rd_Md_writeCluster_49 : decode mb_Md_writeCluster 49 = .ok (.iload_n 2, 1) := by decide +kernel
theorem rd_Md_writeCluster_50 : decode mb_Md_writeCluster 50 = .ok (.istore_n 3, 1) := by decide +kernel
theorem rd_Md_writeCluster_51 : decode mb_Md_writeCluster 51 = .ok (.iload_n 3, 1) := by decide +kernel
theorem rd_Md_writeCluster_52 : decode mb_Md_writeCluster 52 = .ok (.aload_n 0, 1) := by decide +kernel
theorem rd_Md_writeCluster_53 : decode mb_Md_writeCluster 53 = .ok (.iload_n 1, 1) := by decide +kernel
theorem rd_Md_writeCluster_54 : decode mb_Md_writeCluster 54 = .ok (.invokevirtual 94, 3) := by decide +kernel
theorem rd_Md_writeCluster_57 : decode mb_Md_writeCluster 57 = .ok (.if_icmp .ge 28, 3) := by decide +kernel
theorem rd_Md_writeCluster_60 : decode mb_Md_writeCluster 60 = .ok (.iload_n 3, 1) := by decide +kernel
theorem rd_Md_writeCluster_61 : decode mb_Md_writeCluster 61 = .ok (.iload_n 2, 1) := by decide +kernel
theorem rd_Md_writeCluster_62 : decode mb_Md_writeCluster 62 = .ok (.if_icmp .le 9, 3) := by decide +kernel
theorem rd_Md_writeCluster_65 : decode mb_Md_writeCluster 65 = .ok (.aload_n 0, 1) := by decide +kernel
theorem rd_Md_writeCluster_66 : decode mb_Md_writeCluster 66 = .ok (.bipush 43, 2) := by decide +kernel
theorem rd_Md_writeCluster_68 : decode mb_Md_writeCluster 68 = .ok (.invokevirtual 399, 3) := by decide +kernel
theorem rd_Md_writeCluster_71 : decode mb_Md_writeCluster 71 = .ok (.aload_n 0, 1) := by decide +kernel
theorem rd_Md_writeCluster_72 : decode mb_Md_writeCluster 72 = .ok (.iload_n 3, 1) := by decide +kernel
theorem rd_Md_writeCluster_73 : decode mb_Md_writeCluster 73 = .ok (.invokevirtual 402, 3) := by decide +kernel
theorem rd_Md_writeCluster_76 : decode mb_Md_writeCluster 76 = .ok (.aload_n 0, 1) := by decide +kernel
theorem rd_Md_writeCluster_77 : decode mb_Md_writeCluster 77 = .ok (.iload_n 3, 1) := by decide +kernel
theorem rd_Md_writeCluster_78 : decode mb_Md_writeCluster 78 = .ok (.invokevirtual 76, 3) := by decide +kernel
theorem rd_Md_writeCluster_81 : decode mb_Md_writeCluster 81 = .ok (.istore_n 3, 1) := by decide +kernel
theorem rd_Md_writeCluster_82 : decode mb_Md_writeCluster 82 = .ok (.goto (-31), 3) := by decide +kernel
theorem rd_Md_writeCluster_85 : decode mb_Md_writeCluster 85 = .ok (.aload_n 0, 1) := by decide +kernel
theorem rd_Md_writeCluster_86 : decode mb_Md_writeCluster 86 = .ok (.getfield 396, 3) := by decide +kernel
theorem rd_Md_writeCluster_89 : decode mb_Md_writeCluster 89 = .ok (.ireturn, 1) := by decide +kernel
theorem rd_Md_outputByte_0 : decode mb_Md_outputByte 0 = .ok (.aload_n 0, 1) := by decide +kernel
theorem rd_Md_outputByte_1 : decode mb_Md_outputByte 1 = .ok (.iconst 0, 1) := by decide +kernel
theorem rd_Md_outputByte_2 : decode mb_Md_outputByte 2 = .ok (.putfield 56, 3) := by decide +kernel
theorem rd_Md_outputByte_5 : decode mb_Md_outputByte 5 = .ok (.iload_n 1, 1) := by decide +kernel
theorem rd_Md_outputByte_6 : decode mb_Md_outputByte 6 = .ok (.iconst 0, 1) := by decide +kernel
theorem rd_Md_outputByte_7 : decode mb_Md_outputByte 7 = .ok (.aload_n 0, 1) := by decide +kernel
theorem rd_Md_outputByte_8 : decode mb_Md_outputByte 8 = .ok (.getfield 396, 3) := by decide +kernel
theorem rd_Md_outputByte_11 : decode mb_Md_outputByte 11 = .ok (.iconst 1, 1) := by decide +kernel
theorem rd_Md_outputByte_12 : decode mb_Md_outputByte 12 = .ok (.isub, 1) := by decide +kernel
theorem rd_Md_outputByte_13 : decode mb_Md_outputByte 13 = .ok (.invokestatic 115, 3) := by decide +kernel
theorem rd_Md_outputByte_16 : decode mb_Md_outputByte 16 = .ok (.ifCond .eq 12, 3) := by decide +kernel
theorem rd_Md_outputByte_19 : decode mb_Md_outputByte 19 = .ok (.aload_n 0, 1) := by decide +kernel
theorem rd_Md_outputByte_20 : decode mb_Md_outputByte 20 = .ok (.getfield 38, 3) := by decide +kernel
theorem rd_Md_outputByte_23 : decode mb_Md_outputByte 23 = .ok (.iload_n 1, 1) := by decide +kernel
theorem rd_Md_outputByte_24 : decode mb_Md_outputByte 24 = .ok (.iaload, 1) := by decide +kernel
theorem rd_Md_outputByte_25 : decode mb_Md_outputByte 25 = .ok (.goto 4, 3) := by decide +kernel
theorem rd_Md_outputByte_28 : decode mb_Md_outputByte 28 = .ok (.iconst (-1), 1) := by decide +kernel
theorem rd_Md_outputByte_29 : decode mb_Md_outputByte 29 = .ok (.ireturn, 1) := by decide +kernel
theorem rd_Md_saveState_0 : decode mb_Md_saveState 0 = .ok (.aload_n 0, 1) := by decide +kernel
theorem rd_Md_saveState_1 : decode mb_Md_saveState 1 = .ok (.iconst 0, 1) := by decide +kernel
theorem rd_Md_saveState_2 : decode mb_Md_saveState 2 = .ok (.putfield 56, 3) := by decide +kernel
theorem rd_Md_saveState_5 : decode mb_Md_saveState 5 = .ok (.aload_n 0, 1) := by decide +kernel
theorem rd_Md_saveState_6 : decode mb_Md_saveState 6 = .ok (.getfield 7, 3) := by decide +kernel
theorem rd_Md_saveState_9 : decode mb_Md_saveState 9 = .ok (.iconst 0, 1) := by decide +kernel
theorem rd_Md_saveState_10 : decode mb_Md_saveState 10 = .ok (.aload_n 0, 1) := by decide +kernel
theorem rd_Md_saveState_11 : decode mb_Md_saveState 11 = .ok (.getfield 16, 3) := by decide +kernel
theorem rd_Md_saveState_14 : decode mb_Md_saveState 14 = .ok (.iconst 0, 1) := by decide +kernel
theorem rd_Md_saveState_15 : decode mb_Md_saveState 15 = .ok (.invokestatic 135, 3) := by decide +kernel
theorem rd_Md_saveState_18 : decode mb_Md_saveState 18 = .ok (.aload_n 0, 1) := by decide +kernel
theorem rd_Md_saveState_19 : decode mb_Md_saveState 19 = .ok (.iconst 1, 1) := by decide +kernel
theorem rd_Md_saveState_20 : decode mb_Md_saveState 20 = .ok (.putfield 265, 3) := by decide +kernel
theorem rd_Md_saveState_23 : decode mb_Md_saveState 23 = .ok (.aload_n 0, 1) := by decide +kernel
theorem rd_Md_saveState_24 : decode mb_Md_saveState 24 = .ok (.getfield 7, 3) := by decide +kernel
theorem rd_Md_saveState_27 : decode mb_Md_saveState 27 = .ok (.iconst 2, 1) := by decide +kernel
theorem rd_Md_saveState_28 : decode mb_Md_saveState 28 = .ok (.iaload, 1) := by decide +kernel
theorem rd_Md_saveState_29 : decode mb_Md_saveState 29 = .ok (.ireturn, 1) := by decide +kernel
theorem rd_Md_restoreState_0 : decode mb_Md_restoreState 0 = .ok (.aload_n 0, 1) := by decide +kernel
theorem rd_Md_restoreState_1 : decode mb_Md_restoreState 1 = .ok (.iconst 0, 1) := by decide +kernel
theorem rd_Md_restoreState_2 : decode mb_Md_restoreState 2 = .ok (.putfield 56, 3) := by decide +kernel
theorem rd_Md_restoreState_5 : decode mb_Md_restoreState 5 = .ok (.aload_n 0, 1) := by decide +kernel
theorem rd_Md_restoreState_6 : decode mb_Md_restoreState 6 = .ok (.aload_n 0, 1) := by decide +kernel
theorem rd_Md_restoreState_7 : decode mb_Md_restoreState 7 = .ok (.getfield 265, 3) := by decide +kernel
theorem rd_Md_restoreState_10 : decode mb_Md_restoreState 10 = .ok (.ifCond .ne 7, 3) := by decide +kernel
theorem rd_Md_restoreState_13 : decode mb_Md_restoreState 13 = .ok (.iconst 1, 1) := by decide +kernel
theorem rd_Md_restoreState_14 : decode mb_Md_restoreState 14 = .ok (.goto 4, 3) := by decide +kernel
theorem rd_Md_restoreState_17 : decode mb_Md_restoreState 17 = .ok (.iconst 0, 1) := by decide +kernel
theorem rd_Md_restoreState_18 : decode mb_Md_restoreState 18 = .ok (.iconst 1, 1) := by decide +kernel
theorem rd_Md_restoreState_19 : decode mb_Md_restoreState 19 = .ok (.invokevirtual 345, 3) := by decide +kernel
theorem rd_Md_restoreState_22 : decode mb_Md_restoreState 22 = .ok (.ifCond .eq 5, 3) := by decide +kernel
theorem rd_Md_restoreState_25 : decode mb_Md_restoreState 25 = .ok (.iconst 0, 1) := by decide +kernel
theorem rd_Md_restoreState_26 : decode mb_Md_restoreState 26 = .ok (.ireturn, 1) := by decide +kernel
theorem rd_Md_restoreState_27 : decode mb_Md_restoreState 27 = .ok (.aload_n 0, 1) := by decide +kernel
theorem rd_Md_restoreState_28 : decode mb_Md_restoreState 28 = .ok (.getfield 16, 3) := by decide +kernel
theorem rd_Md_restoreState_31 : decode mb_Md_restoreState 31 = .ok (.iconst 0, 1) := by decide +kernel
theorem rd_Md_restoreState_32 : decode mb_Md_restoreState 32 = .ok (.aload_n 0, 1) := by decide +kernel
theorem rd_Md_restoreState_33 : decode mb_Md_restoreState 33 = .ok (.getfield 7, 3) := by decide +kernel
theorem rd_Md_restoreState_36 : decode mb_Md_restoreState 36 = .ok (.iconst 0, 1) := by decide +kernel
theorem rd_Md_restoreState_37 : decode mb_Md_restoreState 37 = .ok (.invokestatic 135, 3) := by decide +kernel
theorem rd_Md_restoreState_40 : decode mb_Md_restoreState 40 = .ok (.aload_n 0, 1) := by decide +kernel
theorem rd_Md_restoreState_41 : decode mb_Md_restoreState 41 = .ok (.iconst 0, 1) := by decide +kernel
theorem rd_Md_restoreState_42 : decode mb_Md_restoreState 42 = .ok (.putfield 132, 3) := by decide +kernel
theorem rd_Md_restoreState_45 : decode mb_Md_restoreState 45 = .ok (.aload_n 0, 1) := by decide +kernel
theorem rd_Md_restoreState_46 : decode mb_Md_restoreState 46 = .ok (.getfield 7, 3) := by decide +kernel
theorem rd_Md_restoreState_49 : decode mb_Md_restoreState 49 = .ok (.iconst 2, 1) := by decide +kernel
theorem rd_Md_restoreState_50 : decode mb_Md_restoreState 50 = .ok (.iaload, 1) := by decide +kernel
theorem rd_Md_restoreState_51 : decode mb_Md_restoreState 51 = .ok (.ireturn, 1) := by decide +kernel
def wd_Md_nibble (cI : ClassId) (a_t a_t_w a_t_wKept a_t_saved a_t_past a_t_input a_t_n a_t_order a_t_numbers a_t_output : Nat) (i_t_pastMany : Int) (i_t_isSaved : Int) (i_t_thrown : Int) (i_t_inputMany : Int) (i_t_lastError : Int) (i_t_lastOffset : Int) (i_t_error : Int) (i_t_offset : Int) (i_t_nextByte : Int) (i_t_begin : Int) (i_t_value : Int) (i_t_token : Int) (i_t_got : Int) (i_t_orders : Int) (i_t_outputMany : Int) (i_t_w : (Int → Int)) (i_t_past : (Int → Int)) : va_W := [(a_t, .inr (11, [.ref a_t_w, .ref a_t_wKept, .ref a_t_saved, .ref a_t_past, jk_V i_t_pastMany, jk_V i_t_isSaved, jk_V i_t_thrown, .ref a_t_input, jk_V i_t_inputMany, jk_V i_t_lastError, jk_V i_t_lastOffset, jk_V i_t_error, jk_V i_t_offset, jk_V i_t_nextByte, jk_V i_t_begin, jk_V i_t_value, jk_V i_t_token, jk_V i_t_got, .ref a_t_n, .ref a_t_order, .ref a_t_numbers, jk_V i_t_orders, .ref a_t_output, jk_V i_t_outputMany])), (a_t_w, jk_W cI 259 i_t_w), (a_t_past, jk_W cI 2072 i_t_past)]
set_option maxHeartbeats 4000000 in
set_option maxRecDepth 20000 in
theorem ct_Md_nibble (l : Launch) (D : va_G) (Z : (Nat → Prop) → State → Heap → Prop) (sq : Nat → Nat) (hZ : jk_ZK Z sq) (cI cR : ClassId) (a_t a_t_w a_t_wKept a_t_saved a_t_past a_t_input a_t_n a_t_order a_t_numbers a_t_output : Nat) (i_t_pastMany : Int) (i_t_isSaved : Int) (i_t_thrown : Int) (i_t_inputMany : Int) (i_t_lastError : Int) (i_t_lastOffset : Int) (i_t_error : Int) (i_t_offset : Int) (i_t_nextByte : Int) (i_t_begin : Int) (i_t_value : Int) (i_t_token : Int) (i_t_got : Int) (i_t_orders : Int) (i_t_outputMany : Int) (i_t_w : (Int → Int)) (i_t_past : (Int → Int)) (x1 : Int) (x2 : Int) (q : Int × (Int → Int) × (Int → Int) × Int × Int) (hf : fn_Md_nibble i_t_w i_t_past i_t_pastMany i_t_thrown x1 x2 = some q) : jk_MI l D jk_cl (jk_ty cI cR) Z mn_Md_nibble (.code mn_Md_nibble mb_Md_nibble 3 (some .int) :: jk_WA) (jk_rm 4 91) [.ref a_t, jk_V x1, jk_V x2] (wd_Md_nibble cI a_t a_t_w a_t_wKept a_t_saved a_t_past a_t_input a_t_n a_t_order a_t_numbers a_t_output i_t_pastMany i_t_isSaved i_t_thrown i_t_inputMany i_t_lastError i_t_lastOffset i_t_error i_t_offset i_t_nextByte i_t_begin i_t_value i_t_token i_t_got i_t_orders i_t_outputMany i_t_w i_t_past) (wd_Md_nibble cI a_t a_t_w a_t_wKept a_t_saved a_t_past a_t_input a_t_n a_t_order a_t_numbers a_t_output q.2.2.2.1 i_t_isSaved q.2.2.2.2 i_t_inputMany i_t_lastError i_t_lastOffset i_t_error i_t_offset i_t_nextByte i_t_begin i_t_value i_t_token i_t_got i_t_orders i_t_outputMany q.2.1 q.2.2.1) q.1 := by
  intro sz
  refine jk_body (by decide +kernel) (fun p e s m args below meth c hsz hz hin C => ?_) (Nat.le_of_ble_eq_true rfl)
  subst hsz
  unfold fn_Md_nibble at hf
  have bk_51 : ∀ (t_w : (Int → Int)) (t_past : (Int → Int)) (t_pastMany : Int) (t_thrown : Int) (v1 : Int) (v2 : Int) (s0 : Int), fn_Md_nibble_b51 t_w t_past t_pastMany t_thrown v1 v2 s0 = some q → jk_J p l e (jk_rm 4 91) s m args below meth c 0 0 (jk_QI below D jk_cl (jk_ty cI cR) (wd_Md_nibble cI a_t a_t_w a_t_wKept a_t_saved a_t_past a_t_input a_t_n a_t_order a_t_numbers a_t_output i_t_pastMany i_t_isSaved i_t_thrown i_t_inputMany i_t_lastError i_t_lastOffset i_t_error i_t_offset i_t_nextByte i_t_begin i_t_value i_t_token i_t_got i_t_orders i_t_outputMany i_t_w i_t_past) (wd_Md_nibble cI a_t a_t_w a_t_wKept a_t_saved a_t_past a_t_input a_t_n a_t_order a_t_numbers a_t_output q.2.2.2.1 i_t_isSaved q.2.2.2.2 i_t_inputMany i_t_lastError i_t_lastOffset i_t_error i_t_offset i_t_nextByte i_t_begin i_t_value i_t_token i_t_got i_t_orders i_t_outputMany q.2.1 q.2.2.1) args s q.1) D jk_cl (va_A (wd_Md_nibble cI a_t a_t_w a_t_wKept a_t_saved a_t_past a_t_input a_t_n a_t_order a_t_numbers a_t_output i_t_pastMany i_t_isSaved i_t_thrown i_t_inputMany i_t_lastError i_t_lastOffset i_t_error i_t_offset i_t_nextByte i_t_begin i_t_value i_t_token i_t_got i_t_orders i_t_outputMany i_t_w i_t_past) s.heap.size) 3 (wd_Md_nibble cI a_t a_t_w a_t_wKept a_t_saved a_t_past a_t_input a_t_n a_t_order a_t_numbers a_t_output t_pastMany i_t_isSaved t_thrown i_t_inputMany i_t_lastError i_t_lastOffset i_t_error i_t_offset i_t_nextByte i_t_begin i_t_value i_t_token i_t_got i_t_orders i_t_outputMany t_w t_past) [(0, .ref a_t), (1, jk_V v1), (2, jk_V v2)] 51 [jk_V s0, .ref a_t] := by
    intro t_w t_past t_pastMany t_thrown v1 v2 s0 hf
    unfold fn_Md_nibble_b51 at hf
    refine jk_iconst C rd_Md_nibble_51 ?_
    obtain ⟨q52, hq52, hf⟩ := jk_bind_h hf
    refine jk_callVi C hZ.1 hz (ct_Md_fails l D Z sq hZ cI cR a_t a_t_w a_t_wKept a_t_saved a_t_past a_t_input a_t_n a_t_order a_t_numbers a_t_output t_pastMany i_t_isSaved t_thrown i_t_inputMany i_t_lastError i_t_lastOffset i_t_error i_t_offset i_t_nextByte i_t_begin i_t_value i_t_token i_t_got i_t_orders i_t_outputMany s0 3 q52 hq52) tm_1643 tm_1645 sl_87 tm_15 tm_1646 na_Md_fails ⟨Nat.le_of_ble_eq_true rfl, Nat.le_of_ble_eq_true rfl⟩ rfl [0] rfl rfl rfl (ws' := wd_Md_nibble cI a_t a_t_w a_t_wKept a_t_saved a_t_past a_t_input a_t_n a_t_order a_t_numbers a_t_output t_pastMany i_t_isSaved q52.2 i_t_inputMany i_t_lastError i_t_lastOffset i_t_error i_t_offset i_t_nextByte i_t_begin i_t_value i_t_token i_t_got i_t_orders i_t_outputMany t_w t_past) rfl 0 11 rfl rfl rfl (st := []) rfl (Nat.le_of_ble_eq_true rfl) rd_Md_nibble_52 ?_ ⟨Nat.le_of_ble_eq_true rfl, Nat.le_of_ble_eq_true rfl⟩
    refine jk_if_eq (tgt := 60) C rd_Md_nibble_55 (by decide) hf (fun _ hf => ?_) (fun _ hf => ?_)
    · refine jk_aload_n C rd_Md_nibble_60 (k := 0) rfl ?_
      obtain ⟨q61, hq61, hf⟩ := jk_bind_h hf
      refine jk_callVv C hZ.1 hz (ct_Md_remembers l D Z sq hZ cI cR a_t a_t_w a_t_wKept a_t_saved a_t_past a_t_input a_t_n a_t_order a_t_numbers a_t_output t_pastMany i_t_isSaved q52.2 i_t_inputMany i_t_lastError i_t_lastOffset i_t_error i_t_offset i_t_nextByte i_t_begin i_t_value i_t_token i_t_got i_t_orders i_t_outputMany t_w t_past q61 hq61) tm_1512 tm_1514 sl_61 tm_15 tm_1515 na_Md_remembers ⟨Nat.le_of_ble_eq_true rfl, Nat.le_of_ble_eq_true rfl⟩ rfl [0, 1, 2] rfl rfl rfl (ws' := wd_Md_nibble cI a_t a_t_w a_t_wKept a_t_saved a_t_past a_t_input a_t_n a_t_order a_t_numbers a_t_output q61.2 i_t_isSaved q52.2 i_t_inputMany i_t_lastError i_t_lastOffset i_t_error i_t_offset i_t_nextByte i_t_begin i_t_value i_t_token i_t_got i_t_orders i_t_outputMany t_w q61.1) rfl 0 11 rfl rfl rfl (st := []) rfl (Nat.le_of_ble_eq_true rfl) rd_Md_nibble_61 ?_ ⟨Nat.le_of_ble_eq_true rfl, Nat.le_of_ble_eq_true rfl⟩
      refine jk_aload_n C rd_Md_nibble_64 (k := 0) rfl ?_
      refine jk_iload_n C rd_Md_nibble_65 (k := 1) rfl ?_
      refine jk_iload_n C rd_Md_nibble_66 (k := 2) rfl ?_
      obtain ⟨q67, hq67, hf⟩ := jk_bind_h hf
      refine jk_callVi C hZ.1 hz (ct_Md_loses l D Z sq hZ cI cR a_t a_t_w a_t_wKept a_t_saved a_t_past a_t_input a_t_n a_t_order a_t_numbers a_t_output q61.2 i_t_isSaved q52.2 i_t_inputMany i_t_lastError i_t_lastOffset i_t_error i_t_offset i_t_nextByte i_t_begin i_t_value i_t_token i_t_got i_t_orders i_t_outputMany t_w v1 v2 q67 hq67) tm_1244 tm_1246 sl_23 tm_15 tm_1247 na_Md_loses ⟨Nat.le_of_ble_eq_true rfl, Nat.le_of_ble_eq_true rfl⟩ rfl [0, 1] rfl rfl rfl (ws' := wd_Md_nibble cI a_t a_t_w a_t_wKept a_t_saved a_t_past a_t_input a_t_n a_t_order a_t_numbers a_t_output q61.2 i_t_isSaved q52.2 i_t_inputMany i_t_lastError i_t_lastOffset i_t_error i_t_offset i_t_nextByte i_t_begin i_t_value i_t_token i_t_got i_t_orders i_t_outputMany q67.2 q61.1) rfl 0 11 rfl rfl rfl (st := []) rfl (Nat.le_of_ble_eq_true rfl) rd_Md_nibble_67 ?_ ⟨Nat.le_of_ble_eq_true rfl, Nat.le_of_ble_eq_true rfl⟩
      cases hf
      exact jk_iret C rfl rd_Md_nibble_70 rfl
    · refine jk_iconst C rd_Md_nibble_58 ?_
      cases hf
      exact jk_iret C rfl rd_Md_nibble_59 rfl
  have bk_28 : ∀ (t_w : (Int → Int)) (t_past : (Int → Int)) (t_pastMany : Int) (t_thrown : Int) (v1 : Int) (v2 : Int) (s0 : Int), fn_Md_nibble_b28 t_w t_past t_pastMany t_thrown v1 v2 s0 = some q → jk_J p l e (jk_rm 4 91) s m args below meth c 0 0 (jk_QI below D jk_cl (jk_ty cI cR) (wd_Md_nibble cI a_t a_t_w a_t_wKept a_t_saved a_t_past a_t_input a_t_n a_t_order a_t_numbers a_t_output i_t_pastMany i_t_isSaved i_t_thrown i_t_inputMany i_t_lastError i_t_lastOffset i_t_error i_t_offset i_t_nextByte i_t_begin i_t_value i_t_token i_t_got i_t_orders i_t_outputMany i_t_w i_t_past) (wd_Md_nibble cI a_t a_t_w a_t_wKept a_t_saved a_t_past a_t_input a_t_n a_t_order a_t_numbers a_t_output q.2.2.2.1 i_t_isSaved q.2.2.2.2 i_t_inputMany i_t_lastError i_t_lastOffset i_t_error i_t_offset i_t_nextByte i_t_begin i_t_value i_t_token i_t_got i_t_orders i_t_outputMany q.2.1 q.2.2.1) args s q.1) D jk_cl (va_A (wd_Md_nibble cI a_t a_t_w a_t_wKept a_t_saved a_t_past a_t_input a_t_n a_t_order a_t_numbers a_t_output i_t_pastMany i_t_isSaved i_t_thrown i_t_inputMany i_t_lastError i_t_lastOffset i_t_error i_t_offset i_t_nextByte i_t_begin i_t_value i_t_token i_t_got i_t_orders i_t_outputMany i_t_w i_t_past) s.heap.size) 3 (wd_Md_nibble cI a_t a_t_w a_t_wKept a_t_saved a_t_past a_t_input a_t_n a_t_order a_t_numbers a_t_output t_pastMany i_t_isSaved t_thrown i_t_inputMany i_t_lastError i_t_lastOffset i_t_error i_t_offset i_t_nextByte i_t_begin i_t_value i_t_token i_t_got i_t_orders i_t_outputMany t_w t_past) [(0, .ref a_t), (1, jk_V v1), (2, jk_V v2)] 28 [jk_V s0, .ref a_t] := by
    intro t_w t_past t_pastMany t_thrown v1 v2 s0 hf
    unfold fn_Md_nibble_b28 at hf
    refine jk_iconst C rd_Md_nibble_28 ?_
    obtain ⟨q29, hq29, hf⟩ := jk_bind_h hf
    refine jk_callVi C hZ.1 hz (ct_Md_fails l D Z sq hZ cI cR a_t a_t_w a_t_wKept a_t_saved a_t_past a_t_input a_t_n a_t_order a_t_numbers a_t_output t_pastMany i_t_isSaved t_thrown i_t_inputMany i_t_lastError i_t_lastOffset i_t_error i_t_offset i_t_nextByte i_t_begin i_t_value i_t_token i_t_got i_t_orders i_t_outputMany s0 2 q29 hq29) tm_1643 tm_1645 sl_87 tm_15 tm_1646 na_Md_fails ⟨Nat.le_of_ble_eq_true rfl, Nat.le_of_ble_eq_true rfl⟩ rfl [0] rfl rfl rfl (ws' := wd_Md_nibble cI a_t a_t_w a_t_wKept a_t_saved a_t_past a_t_input a_t_n a_t_order a_t_numbers a_t_output t_pastMany i_t_isSaved q29.2 i_t_inputMany i_t_lastError i_t_lastOffset i_t_error i_t_offset i_t_nextByte i_t_begin i_t_value i_t_token i_t_got i_t_orders i_t_outputMany t_w t_past) rfl 0 11 rfl rfl rfl (st := []) rfl (Nat.le_of_ble_eq_true rfl) rd_Md_nibble_29 ?_ ⟨Nat.le_of_ble_eq_true rfl, Nat.le_of_ble_eq_true rfl⟩
    refine jk_if_ne (tgt := 58) C rd_Md_nibble_32 (by decide) hf (fun _ hf => ?_) (fun _ hf => ?_)
    · refine jk_iconst C rd_Md_nibble_58 ?_
      cases hf
      exact jk_iret C rfl rd_Md_nibble_59 rfl
    · refine jk_aload_n C rd_Md_nibble_35 (k := 0) rfl ?_
      refine jk_iload_n C rd_Md_nibble_36 (k := 2) rfl ?_
      refine jk_aload_n C rd_Md_nibble_37 (k := 0) rfl ?_
      refine jk_iload_n C rd_Md_nibble_38 (k := 1) rfl ?_
      refine jk_iconst C rd_Md_nibble_39 ?_
      obtain ⟨q40, hq40, hf⟩ := jk_bind_h hf
      refine jk_callVi C hZ.1 hz (ct_Md_of l D Z sq hZ cI cR a_t a_t_w a_t_wKept a_t_saved a_t_past a_t_input a_t_n a_t_order a_t_numbers a_t_output t_pastMany i_t_isSaved q29.2 i_t_inputMany i_t_lastError i_t_lastOffset i_t_error i_t_offset i_t_nextByte i_t_begin i_t_value i_t_token i_t_got i_t_orders i_t_outputMany t_w v1 4 q40 hq40) tm_1256 tm_1258 sl_26 tm_15 tm_1259 na_Md_of ⟨Nat.le_of_ble_eq_true rfl, Nat.le_of_ble_eq_true rfl⟩ rfl [0, 1] rfl rfl rfl (ws' := wd_Md_nibble cI a_t a_t_w a_t_wKept a_t_saved a_t_past a_t_input a_t_n a_t_order a_t_numbers a_t_output t_pastMany i_t_isSaved q29.2 i_t_inputMany i_t_lastError i_t_lastOffset i_t_error i_t_offset i_t_nextByte i_t_begin i_t_value i_t_token i_t_got i_t_orders i_t_outputMany t_w t_past) rfl 0 11 rfl rfl rfl (st := [jk_V v2, .ref a_t]) rfl (Nat.le_of_ble_eq_true rfl) rd_Md_nibble_40 ?_ ⟨Nat.le_of_ble_eq_true rfl, Nat.le_of_ble_eq_true rfl⟩
      refine jk_icmp_ge (tgt := 50) C rd_Md_nibble_43 (by decide) hf (fun _ hf => ?_) (fun _ hf => ?_)
      · refine jk_iconst C rd_Md_nibble_50 ?_
        refine jk_lv (lv' := [(0, .ref a_t), (1, jk_V v1), (2, jk_V v2)]) [0, 1, 2] rfl ?_
        exact bk_51 t_w t_past t_pastMany q29.2 v1 v2 0 hf
      · refine jk_iconst C rd_Md_nibble_46 ?_
        refine jk_goto (tgt := 51) C rd_Md_nibble_47 (by decide) ?_
        refine jk_lv (lv' := [(0, .ref a_t), (1, jk_V v1), (2, jk_V v2)]) [0, 1, 2] rfl ?_
        exact bk_51 t_w t_past t_pastMany q29.2 v1 v2 1 hf
  refine jk_aload_n C rd_Md_nibble_0 (k := 0) rfl ?_
  refine jk_iconst C rd_Md_nibble_1 ?_
  refine jk_putf C in_Md ty_Md nm_Md (ci := 11) rfl 6 (by decide) tm_1269 rfl rfl rfl 0 rfl (Nat.le_of_ble_eq_true rfl) rd_Md_nibble_2 (ws' := wd_Md_nibble cI a_t a_t_w a_t_wKept a_t_saved a_t_past a_t_input a_t_n a_t_order a_t_numbers a_t_output i_t_pastMany i_t_isSaved 0 i_t_inputMany i_t_lastError i_t_lastOffset i_t_error i_t_offset i_t_nextByte i_t_begin i_t_value i_t_token i_t_got i_t_orders i_t_outputMany i_t_w i_t_past) rfl ?_
  refine jk_aload_n C rd_Md_nibble_5 (k := 0) rfl ?_
  refine jk_iload_n C rd_Md_nibble_6 (k := 1) rfl ?_
  obtain ⟨q7, hq7, hf⟩ := jk_bind_h hf
  refine jk_callVi C hZ.1 hz (ct_Md_noCord l D Z sq hZ cI cR a_t a_t_w a_t_wKept a_t_saved a_t_past a_t_input a_t_n a_t_order a_t_numbers a_t_output i_t_pastMany i_t_isSaved 0 i_t_inputMany i_t_lastError i_t_lastOffset i_t_error i_t_offset i_t_nextByte i_t_begin i_t_value i_t_token i_t_got i_t_orders i_t_outputMany i_t_w x1 q7 hq7) tm_1639 tm_1641 sl_86 tm_15 tm_1642 na_Md_noCord ⟨Nat.le_of_ble_eq_true rfl, Nat.le_of_ble_eq_true rfl⟩ rfl [0, 1] rfl rfl rfl (ws' := wd_Md_nibble cI a_t a_t_w a_t_wKept a_t_saved a_t_past a_t_input a_t_n a_t_order a_t_numbers a_t_output i_t_pastMany i_t_isSaved q7.2 i_t_inputMany i_t_lastError i_t_lastOffset i_t_error i_t_offset i_t_nextByte i_t_begin i_t_value i_t_token i_t_got i_t_orders i_t_outputMany i_t_w i_t_past) rfl 0 11 rfl rfl rfl (st := []) rfl (Nat.le_of_ble_eq_true rfl) rd_Md_nibble_7 ?_ ⟨Nat.le_of_ble_eq_true rfl, Nat.le_of_ble_eq_true rfl⟩
  refine jk_if_ne (tgt := 58) C rd_Md_nibble_10 (by decide) hf (fun _ hf => ?_) (fun _ hf => ?_)
  · refine jk_iconst C rd_Md_nibble_58 ?_
    cases hf
    exact jk_iret C rfl rd_Md_nibble_59 rfl
  · refine jk_aload_n C rd_Md_nibble_13 (k := 0) rfl ?_
    refine jk_iload_n C rd_Md_nibble_14 (k := 2) rfl ?_
    refine jk_iconst C rd_Md_nibble_15 ?_
    refine jk_iconst C rd_Md_nibble_16 ?_
    obtain ⟨q17, hq17, hf⟩ := jk_bind_h hf
    refine jk_callSi C hZ.1 hz (ct_Md_inRange l D Z sq hZ cI cR x2 1 4 q17 hq17) tm_1352 tm_1353 tm_15 tm_1354 na_Md_inRange ⟨Nat.le_of_ble_eq_true rfl, Nat.le_of_ble_eq_true rfl⟩ rfl [] rfl rfl rfl (ws' := wd_Md_nibble cI a_t a_t_w a_t_wKept a_t_saved a_t_past a_t_input a_t_n a_t_order a_t_numbers a_t_output i_t_pastMany i_t_isSaved q7.2 i_t_inputMany i_t_lastError i_t_lastOffset i_t_error i_t_offset i_t_nextByte i_t_begin i_t_value i_t_token i_t_got i_t_orders i_t_outputMany i_t_w i_t_past) rfl (st := [.ref a_t]) rfl (Nat.le_of_ble_eq_true rfl) rd_Md_nibble_17 ?_ ⟨Nat.le_of_ble_eq_true rfl, Nat.le_of_ble_eq_true rfl⟩
    refine jk_if_ne (tgt := 27) C rd_Md_nibble_20 (by decide) hf (fun _ hf => ?_) (fun _ hf => ?_)
    · refine jk_iconst C rd_Md_nibble_27 ?_
      refine jk_lv (lv' := [(0, .ref a_t), (1, jk_V x1), (2, jk_V x2)]) [0, 1, 2] rfl ?_
      exact bk_28 i_t_w i_t_past i_t_pastMany q7.2 x1 x2 0 hf
    · refine jk_iconst C rd_Md_nibble_23 ?_
      refine jk_goto (tgt := 28) C rd_Md_nibble_24 (by decide) ?_
      refine jk_lv (lv' := [(0, .ref a_t), (1, jk_V x1), (2, jk_V x2)]) [0, 1, 2] rfl ?_
      exact bk_28 i_t_w i_t_past i_t_pastMany q7.2 x1 x2 1 hf
def wd_Md_dye (cI : ClassId) (a_t a_t_w a_t_wKept a_t_saved a_t_past a_t_input a_t_n a_t_order a_t_numbers a_t_output : Nat) (i_t_pastMany : Int) (i_t_isSaved : Int) (i_t_thrown : Int) (i_t_inputMany : Int) (i_t_lastError : Int) (i_t_lastOffset : Int) (i_t_error : Int) (i_t_offset : Int) (i_t_nextByte : Int) (i_t_begin : Int) (i_t_value : Int) (i_t_token : Int) (i_t_got : Int) (i_t_orders : Int) (i_t_outputMany : Int) (i_t_w : (Int → Int)) (i_t_past : (Int → Int)) : va_W := [(a_t, .inr (11, [.ref a_t_w, .ref a_t_wKept, .ref a_t_saved, .ref a_t_past, jk_V i_t_pastMany, jk_V i_t_isSaved, jk_V i_t_thrown, .ref a_t_input, jk_V i_t_inputMany, jk_V i_t_lastError, jk_V i_t_lastOffset, jk_V i_t_error, jk_V i_t_offset, jk_V i_t_nextByte, jk_V i_t_begin, jk_V i_t_value, jk_V i_t_token, jk_V i_t_got, .ref a_t_n, .ref a_t_order, .ref a_t_numbers, jk_V i_t_orders, .ref a_t_output, jk_V i_t_outputMany])), (a_t_w, jk_W cI 259 i_t_w), (a_t_past, jk_W cI 2072 i_t_past)]
set_option maxHeartbeats 4000000 in
set_option maxRecDepth 20000 in
theorem ct_Md_dye (l : Launch) (D : va_G) (Z : (Nat → Prop) → State → Heap → Prop) (sq : Nat → Nat) (hZ : jk_ZK Z sq) (cI cR : ClassId) (a_t a_t_w a_t_wKept a_t_saved a_t_past a_t_input a_t_n a_t_order a_t_numbers a_t_output : Nat) (i_t_pastMany : Int) (i_t_isSaved : Int) (i_t_thrown : Int) (i_t_inputMany : Int) (i_t_lastError : Int) (i_t_lastOffset : Int) (i_t_error : Int) (i_t_offset : Int) (i_t_nextByte : Int) (i_t_begin : Int) (i_t_value : Int) (i_t_token : Int) (i_t_got : Int) (i_t_orders : Int) (i_t_outputMany : Int) (i_t_w : (Int → Int)) (i_t_past : (Int → Int)) (x1 : Int) (x2 : Int) (q : Int × (Int → Int) × (Int → Int) × Int × Int) (hf : fn_Md_dye i_t_w i_t_past i_t_pastMany i_t_thrown x1 x2 = some q) : jk_MI l D jk_cl (jk_ty cI cR) Z mn_Md_dye (.code mn_Md_dye mb_Md_dye 3 (some .int) :: jk_WA) (jk_rm 3 64) [.ref a_t, jk_V x1, jk_V x2] (wd_Md_dye cI a_t a_t_w a_t_wKept a_t_saved a_t_past a_t_input a_t_n a_t_order a_t_numbers a_t_output i_t_pastMany i_t_isSaved i_t_thrown i_t_inputMany i_t_lastError i_t_lastOffset i_t_error i_t_offset i_t_nextByte i_t_begin i_t_value i_t_token i_t_got i_t_orders i_t_outputMany i_t_w i_t_past) (wd_Md_dye cI a_t a_t_w a_t_wKept a_t_saved a_t_past a_t_input a_t_n a_t_order a_t_numbers a_t_output q.2.2.2.1 i_t_isSaved q.2.2.2.2 i_t_inputMany i_t_lastError i_t_lastOffset i_t_error i_t_offset i_t_nextByte i_t_begin i_t_value i_t_token i_t_got i_t_orders i_t_outputMany q.2.1 q.2.2.1) q.1 := by
  intro sz
  refine jk_body (by decide +kernel) (fun p e s m args below meth c hsz hz hin C => ?_) (Nat.le_of_ble_eq_true rfl)
  subst hsz
  unfold fn_Md_dye at hf
  refine jk_aload_n C rd_Md_dye_0 (k := 0) rfl ?_
  refine jk_iconst C rd_Md_dye_1 ?_
  refine jk_putf C in_Md ty_Md nm_Md (ci := 11) rfl 6 (by decide) tm_1269 rfl rfl rfl 0 rfl (Nat.le_of_ble_eq_true rfl) rd_Md_dye_2 (ws' := wd_Md_dye cI a_t a_t_w a_t_wKept a_t_saved a_t_past a_t_input a_t_n a_t_order a_t_numbers a_t_output i_t_pastMany i_t_isSaved 0 i_t_inputMany i_t_lastError i_t_lastOffset i_t_error i_t_offset i_t_nextByte i_t_begin i_t_value i_t_token i_t_got i_t_orders i_t_outputMany i_t_w i_t_past) rfl ?_
  refine jk_aload_n C rd_Md_dye_5 (k := 0) rfl ?_
  refine jk_iload_n C rd_Md_dye_6 (k := 1) rfl ?_
  obtain ⟨q7, hq7, hf⟩ := jk_bind_h hf
  refine jk_callVi C hZ.1 hz (ct_Md_noCord l D Z sq hZ cI cR a_t a_t_w a_t_wKept a_t_saved a_t_past a_t_input a_t_n a_t_order a_t_numbers a_t_output i_t_pastMany i_t_isSaved 0 i_t_inputMany i_t_lastError i_t_lastOffset i_t_error i_t_offset i_t_nextByte i_t_begin i_t_value i_t_token i_t_got i_t_orders i_t_outputMany i_t_w x1 q7 hq7) tm_1639 tm_1641 sl_86 tm_15 tm_1642 na_Md_noCord ⟨Nat.le_of_ble_eq_true rfl, Nat.le_of_ble_eq_true rfl⟩ rfl [0, 1] rfl rfl rfl (ws' := wd_Md_dye cI a_t a_t_w a_t_wKept a_t_saved a_t_past a_t_input a_t_n a_t_order a_t_numbers a_t_output i_t_pastMany i_t_isSaved q7.2 i_t_inputMany i_t_lastError i_t_lastOffset i_t_error i_t_offset i_t_nextByte i_t_begin i_t_value i_t_token i_t_got i_t_orders i_t_outputMany i_t_w i_t_past) rfl 0 11 rfl rfl rfl (st := []) rfl (Nat.le_of_ble_eq_true rfl) rd_Md_dye_7 ?_ ⟨Nat.le_of_ble_eq_true rfl, Nat.le_of_ble_eq_true rfl⟩
  refine jk_if_ne (tgt := 21) C rd_Md_dye_10 (by decide) hf (fun _ hf => ?_) (fun _ hf => ?_)
  · refine jk_iconst C rd_Md_dye_21 ?_
    cases hf
    exact jk_iret C rfl rd_Md_dye_22 rfl
  · refine jk_aload_n C rd_Md_dye_13 (k := 0) rfl ?_
    refine jk_iload_n C rd_Md_dye_14 (k := 2) rfl ?_
    obtain ⟨q15, hq15, hf⟩ := jk_bind_h hf
    refine jk_callVi C hZ.1 hz (ct_Md_noTopic l D Z sq hZ cI cR a_t a_t_w a_t_wKept a_t_saved a_t_past a_t_input a_t_n a_t_order a_t_numbers a_t_output i_t_pastMany i_t_isSaved q7.2 i_t_inputMany i_t_lastError i_t_lastOffset i_t_error i_t_offset i_t_nextByte i_t_begin i_t_value i_t_token i_t_got i_t_orders i_t_outputMany i_t_w x2 q15 hq15) tm_1751 tm_1753 sl_95 tm_15 tm_1754 na_Md_noTopic ⟨Nat.le_of_ble_eq_true rfl, Nat.le_of_ble_eq_true rfl⟩ rfl [0, 1] rfl rfl rfl (ws' := wd_Md_dye cI a_t a_t_w a_t_wKept a_t_saved a_t_past a_t_input a_t_n a_t_order a_t_numbers a_t_output i_t_pastMany i_t_isSaved q15.2 i_t_inputMany i_t_lastError i_t_lastOffset i_t_error i_t_offset i_t_nextByte i_t_begin i_t_value i_t_token i_t_got i_t_orders i_t_outputMany i_t_w i_t_past) rfl 0 11 rfl rfl rfl (st := []) rfl (Nat.le_of_ble_eq_true rfl) rd_Md_dye_15 ?_ ⟨Nat.le_of_ble_eq_true rfl, Nat.le_of_ble_eq_true rfl⟩
    refine jk_if_eq (tgt := 23) C rd_Md_dye_18 (by decide) hf (fun _ hf => ?_) (fun _ hf => ?_)
    · refine jk_aload_n C rd_Md_dye_23 (k := 0) rfl ?_
      obtain ⟨q24, hq24, hf⟩ := jk_bind_h hf
      refine jk_callVv C hZ.1 hz (ct_Md_remembers l D Z sq hZ cI cR a_t a_t_w a_t_wKept a_t_saved a_t_past a_t_input a_t_n a_t_order a_t_numbers a_t_output i_t_pastMany i_t_isSaved q15.2 i_t_inputMany i_t_lastError i_t_lastOffset i_t_error i_t_offset i_t_nextByte i_t_begin i_t_value i_t_token i_t_got i_t_orders i_t_outputMany i_t_w i_t_past q24 hq24) tm_1512 tm_1514 sl_61 tm_15 tm_1515 na_Md_remembers ⟨Nat.le_of_ble_eq_true rfl, Nat.le_of_ble_eq_true rfl⟩ rfl [0, 1, 2] rfl rfl rfl (ws' := wd_Md_dye cI a_t a_t_w a_t_wKept a_t_saved a_t_past a_t_input a_t_n a_t_order a_t_numbers a_t_output q24.2 i_t_isSaved q15.2 i_t_inputMany i_t_lastError i_t_lastOffset i_t_error i_t_offset i_t_nextByte i_t_begin i_t_value i_t_token i_t_got i_t_orders i_t_outputMany i_t_w q24.1) rfl 0 11 rfl rfl rfl (st := []) rfl (Nat.le_of_ble_eq_true rfl) rd_Md_dye_24 ?_ ⟨Nat.le_of_ble_eq_true rfl, Nat.le_of_ble_eq_true rfl⟩
      refine jk_aload_n C rd_Md_dye_27 (k := 0) rfl ?_
      refine jk_iload_n C rd_Md_dye_28 (k := 1) rfl ?_
      refine jk_iload_n C rd_Md_dye_29 (k := 2) rfl ?_
      obtain ⟨q30, hq30, hf⟩ := jk_bind_h hf
      refine jk_callVi C hZ.1 hz (ct_Md_dyes l D Z sq hZ cI cR a_t a_t_w a_t_wKept a_t_saved a_t_past a_t_input a_t_n a_t_order a_t_numbers a_t_output q24.2 i_t_isSaved q15.2 i_t_inputMany i_t_lastError i_t_lastOffset i_t_error i_t_offset i_t_nextByte i_t_begin i_t_value i_t_token i_t_got i_t_orders i_t_outputMany i_t_w x1 x2 q30 hq30) tm_1587 tm_1589 sl_79 tm_15 tm_1590 na_Md_dyes ⟨Nat.le_of_ble_eq_true rfl, Nat.le_of_ble_eq_true rfl⟩ rfl [0, 1] rfl rfl rfl (ws' := wd_Md_dye cI a_t a_t_w a_t_wKept a_t_saved a_t_past a_t_input a_t_n a_t_order a_t_numbers a_t_output q24.2 i_t_isSaved q15.2 i_t_inputMany i_t_lastError i_t_lastOffset i_t_error i_t_offset i_t_nextByte i_t_begin i_t_value i_t_token i_t_got i_t_orders i_t_outputMany q30.2 q24.1) rfl 0 11 rfl rfl rfl (st := []) rfl (Nat.le_of_ble_eq_true rfl) rd_Md_dye_30 ?_ ⟨Nat.le_of_ble_eq_true rfl, Nat.le_of_ble_eq_true rfl⟩
      cases hf
      exact jk_iret C rfl rd_Md_dye_33 rfl
    · refine jk_iconst C rd_Md_dye_21 ?_
      cases hf
      exact jk_iret C rfl rd_Md_dye_22 rfl
def wd_Md_repair (cI : ClassId) (a_t a_t_w a_t_wKept a_t_saved a_t_past a_t_input a_t_n a_t_order a_t_numbers a_t_output : Nat) (i_t_pastMany : Int) (i_t_isSaved : Int) (i_t_thrown : Int) (i_t_inputMany : Int) (i_t_lastError : Int) (i_t_lastOffset : Int) (i_t_error : Int) (i_t_offset : Int) (i_t_nextByte : Int) (i_t_begin : Int) (i_t_value : Int) (i_t_token : Int) (i_t_got : Int) (i_t_orders : Int) (i_t_outputMany : Int) (i_t_w : (Int → Int)) (i_t_past : (Int → Int)) : va_W := [(a_t, .inr (11, [.ref a_t_w, .ref a_t_wKept, .ref a_t_saved, .ref a_t_past, jk_V i_t_pastMany, jk_V i_t_isSaved, jk_V i_t_thrown, .ref a_t_input, jk_V i_t_inputMany, jk_V i_t_lastError, jk_V i_t_lastOffset, jk_V i_t_error, jk_V i_t_offset, jk_V i_t_nextByte, jk_V i_t_begin, jk_V i_t_value, jk_V i_t_token, jk_V i_t_got, .ref a_t_n, .ref a_t_order, .ref a_t_numbers, jk_V i_t_orders, .ref a_t_output, jk_V i_t_outputMany])), (a_t_w, jk_W cI 259 i_t_w), (a_t_past, jk_W cI 2072 i_t_past)]
set_option maxHeartbeats 4000000 in
set_option maxRecDepth 20000 in
theorem ct_Md_repair (l : Launch) (D : va_G) (Z : (Nat → Prop) → State → Heap → Prop) (sq : Nat → Nat) (hZ : jk_ZK Z sq) (cI cR : ClassId) (a_t a_t_w a_t_wKept a_t_saved a_t_past a_t_input a_t_n a_t_order a_t_numbers a_t_output : Nat) (i_t_pastMany : Int) (i_t_isSaved : Int) (i_t_thrown : Int) (i_t_inputMany : Int) (i_t_lastError : Int) (i_t_lastOffset : Int) (i_t_error : Int) (i_t_offset : Int) (i_t_nextByte : Int) (i_t_begin : Int) (i_t_value : Int) (i_t_token : Int) (i_t_got : Int) (i_t_orders : Int) (i_t_outputMany : Int) (i_t_w : (Int → Int)) (i_t_past : (Int → Int)) (x1 : Int) (q : Int × (Int → Int) × (Int → Int) × Int × Int) (hf : fn_Md_repair i_t_w i_t_past i_t_pastMany i_t_thrown x1 = some q) : jk_MI l D jk_cl (jk_ty cI cR) Z mn_Md_repair (.code mn_Md_repair mb_Md_repair 2 (some .int) :: jk_WA) (jk_rm 9 199) [.ref a_t, jk_V x1] (wd_Md_repair cI a_t a_t_w a_t_wKept a_t_saved a_t_past a_t_input a_t_n a_t_order a_t_numbers a_t_output i_t_pastMany i_t_isSaved i_t_thrown i_t_inputMany i_t_lastError i_t_lastOffset i_t_error i_t_offset i_t_nextByte i_t_begin i_t_value i_t_token i_t_got i_t_orders i_t_outputMany i_t_w i_t_past) (wd_Md_repair cI a_t a_t_w a_t_wKept a_t_saved a_t_past a_t_input a_t_n a_t_order a_t_numbers a_t_output q.2.2.2.1 i_t_isSaved q.2.2.2.2 i_t_inputMany i_t_lastError i_t_lastOffset i_t_error i_t_offset i_t_nextByte i_t_begin i_t_value i_t_token i_t_got i_t_orders i_t_outputMany q.2.1 q.2.2.1) q.1 := by
  intro sz
  refine jk_body (by decide +kernel) (fun p e s m args below meth c hsz hz hin C => ?_) (Nat.le_of_ble_eq_true rfl)
  subst hsz
  unfold fn_Md_repair at hf
  have bk_27 : ∀ (t_w : (Int → Int)) (t_past : (Int → Int)) (t_pastMany : Int) (t_thrown : Int) (v1 : Int) (s0 : Int), fn_Md_repair_b27 t_w t_past t_pastMany t_thrown v1 s0 = some q → jk_J p l e (jk_rm 9 199) s m args below meth c 0 0 (jk_QI below D jk_cl (jk_ty cI cR) (wd_Md_repair cI a_t a_t_w a_t_wKept a_t_saved a_t_past a_t_input a_t_n a_t_order a_t_numbers a_t_output i_t_pastMany i_t_isSaved i_t_thrown i_t_inputMany i_t_lastError i_t_lastOffset i_t_error i_t_offset i_t_nextByte i_t_begin i_t_value i_t_token i_t_got i_t_orders i_t_outputMany i_t_w i_t_past) (wd_Md_repair cI a_t a_t_w a_t_wKept a_t_saved a_t_past a_t_input a_t_n a_t_order a_t_numbers a_t_output q.2.2.2.1 i_t_isSaved q.2.2.2.2 i_t_inputMany i_t_lastError i_t_lastOffset i_t_error i_t_offset i_t_nextByte i_t_begin i_t_value i_t_token i_t_got i_t_orders i_t_outputMany q.2.1 q.2.2.1) args s q.1) D jk_cl (va_A (wd_Md_repair cI a_t a_t_w a_t_wKept a_t_saved a_t_past a_t_input a_t_n a_t_order a_t_numbers a_t_output i_t_pastMany i_t_isSaved i_t_thrown i_t_inputMany i_t_lastError i_t_lastOffset i_t_error i_t_offset i_t_nextByte i_t_begin i_t_value i_t_token i_t_got i_t_orders i_t_outputMany i_t_w i_t_past) s.heap.size) 2 (wd_Md_repair cI a_t a_t_w a_t_wKept a_t_saved a_t_past a_t_input a_t_n a_t_order a_t_numbers a_t_output t_pastMany i_t_isSaved t_thrown i_t_inputMany i_t_lastError i_t_lastOffset i_t_error i_t_offset i_t_nextByte i_t_begin i_t_value i_t_token i_t_got i_t_orders i_t_outputMany t_w t_past) [(0, .ref a_t), (1, jk_V v1)] 27 [jk_V s0, .ref a_t] := by
    intro t_w t_past t_pastMany t_thrown v1 s0 hf
    unfold fn_Md_repair_b27 at hf
    refine jk_iconst C rd_Md_repair_27 ?_
    obtain ⟨q28, hq28, hf⟩ := jk_bind_h hf
    refine jk_callVi C hZ.1 hz (ct_Md_fails l D Z sq hZ cI cR a_t a_t_w a_t_wKept a_t_saved a_t_past a_t_input a_t_n a_t_order a_t_numbers a_t_output t_pastMany i_t_isSaved t_thrown i_t_inputMany i_t_lastError i_t_lastOffset i_t_error i_t_offset i_t_nextByte i_t_begin i_t_value i_t_token i_t_got i_t_orders i_t_outputMany s0 2 q28 hq28) tm_1643 tm_1645 sl_87 tm_15 tm_1646 na_Md_fails ⟨Nat.le_of_ble_eq_true rfl, Nat.le_of_ble_eq_true rfl⟩ rfl [0] rfl rfl rfl (ws' := wd_Md_repair cI a_t a_t_w a_t_wKept a_t_saved a_t_past a_t_input a_t_n a_t_order a_t_numbers a_t_output t_pastMany i_t_isSaved q28.2 i_t_inputMany i_t_lastError i_t_lastOffset i_t_error i_t_offset i_t_nextByte i_t_begin i_t_value i_t_token i_t_got i_t_orders i_t_outputMany t_w t_past) rfl 0 11 rfl rfl rfl (st := []) rfl (Nat.le_of_ble_eq_true rfl) rd_Md_repair_28 ?_ ⟨Nat.le_of_ble_eq_true rfl, Nat.le_of_ble_eq_true rfl⟩
    refine jk_if_eq (tgt := 36) C rd_Md_repair_31 (by decide) hf (fun _ hf => ?_) (fun _ hf => ?_)
    · refine jk_aload_n C rd_Md_repair_36 (k := 0) rfl ?_
      obtain ⟨q37, hq37, hf⟩ := jk_bind_h hf
      refine jk_callVv C hZ.1 hz (ct_Md_remembers l D Z sq hZ cI cR a_t a_t_w a_t_wKept a_t_saved a_t_past a_t_input a_t_n a_t_order a_t_numbers a_t_output t_pastMany i_t_isSaved q28.2 i_t_inputMany i_t_lastError i_t_lastOffset i_t_error i_t_offset i_t_nextByte i_t_begin i_t_value i_t_token i_t_got i_t_orders i_t_outputMany t_w t_past q37 hq37) tm_1512 tm_1514 sl_61 tm_15 tm_1515 na_Md_remembers ⟨Nat.le_of_ble_eq_true rfl, Nat.le_of_ble_eq_true rfl⟩ rfl [0, 1, 2] rfl rfl rfl (ws' := wd_Md_repair cI a_t a_t_w a_t_wKept a_t_saved a_t_past a_t_input a_t_n a_t_order a_t_numbers a_t_output q37.2 i_t_isSaved q28.2 i_t_inputMany i_t_lastError i_t_lastOffset i_t_error i_t_offset i_t_nextByte i_t_begin i_t_value i_t_token i_t_got i_t_orders i_t_outputMany t_w q37.1) rfl 0 11 rfl rfl rfl (st := []) rfl (Nat.le_of_ble_eq_true rfl) rd_Md_repair_37 ?_ ⟨Nat.le_of_ble_eq_true rfl, Nat.le_of_ble_eq_true rfl⟩
      refine jk_aload_n C rd_Md_repair_40 (k := 0) rfl ?_
      refine jk_iload_n C rd_Md_repair_41 (k := 1) rfl ?_
      obtain ⟨q42, hq42, hf⟩ := jk_bind_h hf
      refine jk_callVi C hZ.1 hz (ct_Md_repairs l D Z sq hZ cI cR a_t a_t_w a_t_wKept a_t_saved a_t_past a_t_input a_t_n a_t_order a_t_numbers a_t_output q37.2 i_t_isSaved q28.2 i_t_inputMany i_t_lastError i_t_lastOffset i_t_error i_t_offset i_t_nextByte i_t_begin i_t_value i_t_token i_t_got i_t_orders i_t_outputMany t_w v1 q42 hq42) tm_1611 tm_1613 sl_85 tm_15 tm_1614 na_Md_repairs ⟨Nat.le_of_ble_eq_true rfl, Nat.le_of_ble_eq_true rfl⟩ rfl [0, 1] rfl rfl rfl (ws' := wd_Md_repair cI a_t a_t_w a_t_wKept a_t_saved a_t_past a_t_input a_t_n a_t_order a_t_numbers a_t_output q37.2 i_t_isSaved q28.2 i_t_inputMany i_t_lastError i_t_lastOffset i_t_error i_t_offset i_t_nextByte i_t_begin i_t_value i_t_token i_t_got i_t_orders i_t_outputMany q42.2 q37.1) rfl 0 11 rfl rfl rfl (st := []) rfl (Nat.le_of_ble_eq_true rfl) rd_Md_repair_42 ?_ ⟨Nat.le_of_ble_eq_true rfl, Nat.le_of_ble_eq_true rfl⟩
      cases hf
      exact jk_iret C rfl rd_Md_repair_45 rfl
    · refine jk_iconst C rd_Md_repair_34 ?_
      cases hf
      exact jk_iret C rfl rd_Md_repair_35 rfl
  refine jk_aload_n C rd_Md_repair_0 (k := 0) rfl ?_
  refine jk_iconst C rd_Md_repair_1 ?_
  refine jk_putf C in_Md ty_Md nm_Md (ci := 11) rfl 6 (by decide) tm_1269 rfl rfl rfl 0 rfl (Nat.le_of_ble_eq_true rfl) rd_Md_repair_2 (ws' := wd_Md_repair cI a_t a_t_w a_t_wKept a_t_saved a_t_past a_t_input a_t_n a_t_order a_t_numbers a_t_output i_t_pastMany i_t_isSaved 0 i_t_inputMany i_t_lastError i_t_lastOffset i_t_error i_t_offset i_t_nextByte i_t_begin i_t_value i_t_token i_t_got i_t_orders i_t_outputMany i_t_w i_t_past) rfl ?_
  refine jk_aload_n C rd_Md_repair_5 (k := 0) rfl ?_
  refine jk_iload_n C rd_Md_repair_6 (k := 1) rfl ?_
  obtain ⟨q7, hq7, hf⟩ := jk_bind_h hf
  refine jk_callVi C hZ.1 hz (ct_Md_noCluster l D Z sq hZ cI cR a_t a_t_w a_t_wKept a_t_saved a_t_past a_t_input a_t_n a_t_order a_t_numbers a_t_output i_t_pastMany i_t_isSaved 0 i_t_inputMany i_t_lastError i_t_lastOffset i_t_error i_t_offset i_t_nextByte i_t_begin i_t_value i_t_token i_t_got i_t_orders i_t_outputMany i_t_w x1 q7 hq7) tm_1699 tm_1701 sl_92 tm_15 tm_1702 na_Md_noCluster ⟨Nat.le_of_ble_eq_true rfl, Nat.le_of_ble_eq_true rfl⟩ rfl [0, 1] rfl rfl rfl (ws' := wd_Md_repair cI a_t a_t_w a_t_wKept a_t_saved a_t_past a_t_input a_t_n a_t_order a_t_numbers a_t_output i_t_pastMany i_t_isSaved q7.2 i_t_inputMany i_t_lastError i_t_lastOffset i_t_error i_t_offset i_t_nextByte i_t_begin i_t_value i_t_token i_t_got i_t_orders i_t_outputMany i_t_w i_t_past) rfl 0 11 rfl rfl rfl (st := []) rfl (Nat.le_of_ble_eq_true rfl) rd_Md_repair_7 ?_ ⟨Nat.le_of_ble_eq_true rfl, Nat.le_of_ble_eq_true rfl⟩
  refine jk_if_ne (tgt := 34) C rd_Md_repair_10 (by decide) hf (fun _ hf => ?_) (fun _ hf => ?_)
  · refine jk_iconst C rd_Md_repair_34 ?_
    cases hf
    exact jk_iret C rfl rd_Md_repair_35 rfl
  · refine jk_aload_n C rd_Md_repair_13 (k := 0) rfl ?_
    refine jk_aload_n C rd_Md_repair_14 (k := 0) rfl ?_
    refine jk_iload_n C rd_Md_repair_15 (k := 1) rfl ?_
    obtain ⟨q16, hq16, hf⟩ := jk_bind_h hf
    refine jk_callVi C hZ.1 hz (ct_Md_guessReason l D Z sq hZ cI cR a_t a_t_w a_t_wKept a_t_saved a_t_past a_t_input a_t_n a_t_order a_t_numbers a_t_output i_t_pastMany i_t_isSaved q7.2 i_t_inputMany i_t_lastError i_t_lastOffset i_t_error i_t_offset i_t_nextByte i_t_begin i_t_value i_t_token i_t_got i_t_orders i_t_outputMany i_t_w x1 q16 hq16) tm_1591 tm_1593 sl_80 tm_15 tm_1594 na_Md_guessReason ⟨Nat.le_of_ble_eq_true rfl, Nat.le_of_ble_eq_true rfl⟩ rfl [0, 1] rfl rfl rfl (ws' := wd_Md_repair cI a_t a_t_w a_t_wKept a_t_saved a_t_past a_t_input a_t_n a_t_order a_t_numbers a_t_output i_t_pastMany i_t_isSaved q7.2 i_t_inputMany i_t_lastError i_t_lastOffset i_t_error i_t_offset i_t_nextByte i_t_begin i_t_value i_t_token i_t_got i_t_orders i_t_outputMany i_t_w i_t_past) rfl 0 11 rfl rfl rfl (st := [.ref a_t]) rfl (Nat.le_of_ble_eq_true rfl) rd_Md_repair_16 ?_ ⟨Nat.le_of_ble_eq_true rfl, Nat.le_of_ble_eq_true rfl⟩
    refine jk_if_eq (tgt := 26) C rd_Md_repair_19 (by decide) hf (fun _ hf => ?_) (fun _ hf => ?_)
    · refine jk_iconst C rd_Md_repair_26 ?_
      refine jk_lv (lv' := [(0, .ref a_t), (1, jk_V x1)]) [0, 1] rfl ?_
      exact bk_27 i_t_w i_t_past i_t_pastMany q7.2 x1 0 hf
    · refine jk_iconst C rd_Md_repair_22 ?_
      refine jk_goto (tgt := 27) C rd_Md_repair_23 (by decide) ?_
      refine jk_lv (lv' := [(0, .ref a_t), (1, jk_V x1)]) [0, 1] rfl ?_
      exact bk_27 i_t_w i_t_past i_t_pastMany q7.2 x1 1 hf
def wd_Md_undo (cI : ClassId) (a_t a_t_w a_t_wKept a_t_saved a_t_past a_t_input a_t_n a_t_order a_t_numbers a_t_output : Nat) (i_t_pastMany : Int) (i_t_isSaved : Int) (i_t_thrown : Int) (i_t_inputMany : Int) (i_t_lastError : Int) (i_t_lastOffset : Int) (i_t_error : Int) (i_t_offset : Int) (i_t_nextByte : Int) (i_t_begin : Int) (i_t_value : Int) (i_t_token : Int) (i_t_got : Int) (i_t_orders : Int) (i_t_outputMany : Int) (i_t_w : (Int → Int)) (i_t_past : (Int → Int)) : va_W := [(a_t, .inr (11, [.ref a_t_w, .ref a_t_wKept, .ref a_t_saved, .ref a_t_past, jk_V i_t_pastMany, jk_V i_t_isSaved, jk_V i_t_thrown, .ref a_t_input, jk_V i_t_inputMany, jk_V i_t_lastError, jk_V i_t_lastOffset, jk_V i_t_error, jk_V i_t_offset, jk_V i_t_nextByte, jk_V i_t_begin, jk_V i_t_value, jk_V i_t_token, jk_V i_t_got, .ref a_t_n, .ref a_t_order, .ref a_t_numbers, jk_V i_t_orders, .ref a_t_output, jk_V i_t_outputMany])), (a_t_w, jk_W cI 259 i_t_w), (a_t_past, jk_W cI 2072 i_t_past)]
set_option maxHeartbeats 4000000 in
set_option maxRecDepth 20000 in
theorem ct_Md_undo (l : Launch) (D : va_G) (Z : (Nat → Prop) → State → Heap → Prop) (sq : Nat → Nat) (hZ : jk_ZK Z sq) (cI cR : ClassId) (a_t a_t_w a_t_wKept a_t_saved a_t_past a_t_input a_t_n a_t_order a_t_numbers a_t_output : Nat) (i_t_pastMany : Int) (i_t_isSaved : Int) (i_t_thrown : Int) (i_t_inputMany : Int) (i_t_lastError : Int) (i_t_lastOffset : Int) (i_t_error : Int) (i_t_offset : Int) (i_t_nextByte : Int) (i_t_begin : Int) (i_t_value : Int) (i_t_token : Int) (i_t_got : Int) (i_t_orders : Int) (i_t_outputMany : Int) (i_t_w : (Int → Int)) (i_t_past : (Int → Int)) (q : Int × (Int → Int) × Int × Int) (hf : fn_Md_undo i_t_w i_t_past i_t_pastMany i_t_thrown = some q) : jk_MI l D jk_cl (jk_ty cI cR) Z mn_Md_undo (.code mn_Md_undo mb_Md_undo 1 (some .int) :: jk_WA) (jk_rm 1 24) [.ref a_t] (wd_Md_undo cI a_t a_t_w a_t_wKept a_t_saved a_t_past a_t_input a_t_n a_t_order a_t_numbers a_t_output i_t_pastMany i_t_isSaved i_t_thrown i_t_inputMany i_t_lastError i_t_lastOffset i_t_error i_t_offset i_t_nextByte i_t_begin i_t_value i_t_token i_t_got i_t_orders i_t_outputMany i_t_w i_t_past) (wd_Md_undo cI a_t a_t_w a_t_wKept a_t_saved a_t_past a_t_input a_t_n a_t_order a_t_numbers a_t_output q.2.2.1 i_t_isSaved q.2.2.2 i_t_inputMany i_t_lastError i_t_lastOffset i_t_error i_t_offset i_t_nextByte i_t_begin i_t_value i_t_token i_t_got i_t_orders i_t_outputMany q.2.1 i_t_past) q.1 := by
  intro sz
  refine jk_body (by decide +kernel) (fun p e s m args below meth c hsz hz hin C => ?_) (Nat.le_of_ble_eq_true rfl)
  subst hsz
  unfold fn_Md_undo at hf
  have bk_18 : ∀ (t_w : (Int → Int)) (t_pastMany : Int) (t_thrown : Int) (s0 : Int), fn_Md_undo_b18 t_w i_t_past t_pastMany t_thrown s0 = some q → jk_J p l e (jk_rm 1 24) s m args below meth c 0 0 (jk_QI below D jk_cl (jk_ty cI cR) (wd_Md_undo cI a_t a_t_w a_t_wKept a_t_saved a_t_past a_t_input a_t_n a_t_order a_t_numbers a_t_output i_t_pastMany i_t_isSaved i_t_thrown i_t_inputMany i_t_lastError i_t_lastOffset i_t_error i_t_offset i_t_nextByte i_t_begin i_t_value i_t_token i_t_got i_t_orders i_t_outputMany i_t_w i_t_past) (wd_Md_undo cI a_t a_t_w a_t_wKept a_t_saved a_t_past a_t_input a_t_n a_t_order a_t_numbers a_t_output q.2.2.1 i_t_isSaved q.2.2.2 i_t_inputMany i_t_lastError i_t_lastOffset i_t_error i_t_offset i_t_nextByte i_t_begin i_t_value i_t_token i_t_got i_t_orders i_t_outputMany q.2.1 i_t_past) args s q.1) D jk_cl (va_A (wd_Md_undo cI a_t a_t_w a_t_wKept a_t_saved a_t_past a_t_input a_t_n a_t_order a_t_numbers a_t_output i_t_pastMany i_t_isSaved i_t_thrown i_t_inputMany i_t_lastError i_t_lastOffset i_t_error i_t_offset i_t_nextByte i_t_begin i_t_value i_t_token i_t_got i_t_orders i_t_outputMany i_t_w i_t_past) s.heap.size) 1 (wd_Md_undo cI a_t a_t_w a_t_wKept a_t_saved a_t_past a_t_input a_t_n a_t_order a_t_numbers a_t_output t_pastMany i_t_isSaved t_thrown i_t_inputMany i_t_lastError i_t_lastOffset i_t_error i_t_offset i_t_nextByte i_t_begin i_t_value i_t_token i_t_got i_t_orders i_t_outputMany t_w i_t_past) [(0, .ref a_t)] 18 [jk_V s0, .ref a_t] := by
    intro t_w t_pastMany t_thrown s0 hf
    unfold fn_Md_undo_b18 at hf
    refine jk_iconst C rd_Md_undo_18 ?_
    obtain ⟨q19, hq19, hf⟩ := jk_bind_h hf
    refine jk_callVi C hZ.1 hz (ct_Md_fails l D Z sq hZ cI cR a_t a_t_w a_t_wKept a_t_saved a_t_past a_t_input a_t_n a_t_order a_t_numbers a_t_output t_pastMany i_t_isSaved t_thrown i_t_inputMany i_t_lastError i_t_lastOffset i_t_error i_t_offset i_t_nextByte i_t_begin i_t_value i_t_token i_t_got i_t_orders i_t_outputMany s0 1 q19 hq19) tm_1643 tm_1645 sl_87 tm_15 tm_1646 na_Md_fails ⟨Nat.le_of_ble_eq_true rfl, Nat.le_of_ble_eq_true rfl⟩ rfl [0] rfl rfl rfl (ws' := wd_Md_undo cI a_t a_t_w a_t_wKept a_t_saved a_t_past a_t_input a_t_n a_t_order a_t_numbers a_t_output t_pastMany i_t_isSaved q19.2 i_t_inputMany i_t_lastError i_t_lastOffset i_t_error i_t_offset i_t_nextByte i_t_begin i_t_value i_t_token i_t_got i_t_orders i_t_outputMany t_w i_t_past) rfl 0 11 rfl rfl rfl (st := []) rfl (Nat.le_of_ble_eq_true rfl) rd_Md_undo_19 ?_ ⟨Nat.le_of_ble_eq_true rfl, Nat.le_of_ble_eq_true rfl⟩
    refine jk_if_eq (tgt := 27) C rd_Md_undo_22 (by decide) hf (fun _ hf => ?_) (fun _ hf => ?_)
    · refine jk_aload_n C rd_Md_undo_27 (k := 0) rfl ?_
      refine jk_dup C rd_Md_undo_28 rfl ?_
      refine jk_get C in_Md (ci := 11) rfl 4 (by decide) tm_1267 0 rfl rfl rd_Md_undo_29 ?_
      refine jk_iconst C rd_Md_undo_32 ?_
      refine jk_isub C rd_Md_undo_33 ?_
      refine jk_putf C in_Md ty_Md nm_Md (ci := 11) rfl 4 (by decide) tm_1267 rfl rfl rfl 0 rfl (Nat.le_of_ble_eq_true rfl) rd_Md_undo_34 (ws' := wd_Md_undo cI a_t a_t_w a_t_wKept a_t_saved a_t_past a_t_input a_t_n a_t_order a_t_numbers a_t_output (t_pastMany - 1) i_t_isSaved q19.2 i_t_inputMany i_t_lastError i_t_lastOffset i_t_error i_t_offset i_t_nextByte i_t_begin i_t_value i_t_token i_t_got i_t_orders i_t_outputMany t_w i_t_past) rfl ?_
      refine jk_aload_n C rd_Md_undo_37 (k := 0) rfl ?_
      refine jk_get C in_Md (ci := 11) rfl 3 (by decide) tm_1266 0 rfl rfl rd_Md_undo_38 ?_
      refine jk_sipush C rd_Md_undo_41 (by decide +kernel) ?_
      refine jk_aload_n C rd_Md_undo_44 (k := 0) rfl ?_
      refine jk_get C in_Md (ci := 11) rfl 4 (by decide) tm_1267 0 rfl rfl rd_Md_undo_45 ?_
      refine jk_imul C rd_Md_undo_48 ?_
      refine jk_aload_n C rd_Md_undo_49 (k := 0) rfl ?_
      refine jk_get C in_Md (ci := 11) rfl 0 (by decide) tm_1263 0 rfl rfl rd_Md_undo_50 ?_
      refine jk_iconst C rd_Md_undo_53 ?_
      obtain ⟨q54, hq54, hf⟩ := jk_bind_h hf
      refine jk_callSv C hZ.1 hz (ct_Md_copies l D Z sq hZ cI cR (n_a := 2072) (n_b := 259) (Nat.le_of_ble_eq_true rfl) (Nat.le_of_ble_eq_true rfl) a_t_past a_t_w i_t_past t_w (259 * (t_pastMany - 1)) 0 q54 hq54) tm_1359 tm_1360 tm_15 tm_1361 na_Md_copies ⟨Nat.le_of_ble_eq_true rfl, Nat.le_of_ble_eq_true rfl⟩ rfl [2, 1] rfl rfl rfl (ws' := wd_Md_undo cI a_t a_t_w a_t_wKept a_t_saved a_t_past a_t_input a_t_n a_t_order a_t_numbers a_t_output (t_pastMany - 1) i_t_isSaved q19.2 i_t_inputMany i_t_lastError i_t_lastOffset i_t_error i_t_offset i_t_nextByte i_t_begin i_t_value i_t_token i_t_got i_t_orders i_t_outputMany q54 i_t_past) rfl (st := []) rfl (Nat.le_of_ble_eq_true rfl) rd_Md_undo_54 ?_ ⟨Nat.le_of_ble_eq_true rfl, Nat.le_of_ble_eq_true rfl⟩
      refine jk_aload_n C rd_Md_undo_57 (k := 0) rfl ?_
      refine jk_get C in_Md (ci := 11) rfl 4 (by decide) tm_1267 0 rfl rfl rd_Md_undo_58 ?_
      cases hf
      exact jk_iret C rfl rd_Md_undo_61 rfl
    · refine jk_iconst C rd_Md_undo_25 ?_
      cases hf
      exact jk_iret C rfl rd_Md_undo_26 rfl
  refine jk_aload_n C rd_Md_undo_0 (k := 0) rfl ?_
  refine jk_iconst C rd_Md_undo_1 ?_
  refine jk_putf C in_Md ty_Md nm_Md (ci := 11) rfl 6 (by decide) tm_1269 rfl rfl rfl 0 rfl (Nat.le_of_ble_eq_true rfl) rd_Md_undo_2 (ws' := wd_Md_undo cI a_t a_t_w a_t_wKept a_t_saved a_t_past a_t_input a_t_n a_t_order a_t_numbers a_t_output i_t_pastMany i_t_isSaved 0 i_t_inputMany i_t_lastError i_t_lastOffset i_t_error i_t_offset i_t_nextByte i_t_begin i_t_value i_t_token i_t_got i_t_orders i_t_outputMany i_t_w i_t_past) rfl ?_
  refine jk_aload_n C rd_Md_undo_5 (k := 0) rfl ?_
  refine jk_aload_n C rd_Md_undo_6 (k := 0) rfl ?_
  refine jk_get C in_Md (ci := 11) rfl 4 (by decide) tm_1267 0 rfl rfl rd_Md_undo_7 ?_
  refine jk_if_ne (tgt := 17) C rd_Md_undo_10 (by decide) hf (fun _ hf => ?_) (fun _ hf => ?_)
  · refine jk_iconst C rd_Md_undo_17 ?_
    refine jk_lv (lv' := [(0, .ref a_t)]) [0] rfl ?_
    exact bk_18 i_t_w i_t_pastMany 0 0 hf
  · refine jk_iconst C rd_Md_undo_13 ?_
    refine jk_goto (tgt := 18) C rd_Md_undo_14 (by decide) ?_
    refine jk_lv (lv' := [(0, .ref a_t)]) [0] rfl ?_
    exact bk_18 i_t_w i_t_pastMany 0 1 hf
def wd_Md_write (cI : ClassId) (a_t a_t_w a_t_wKept a_t_saved a_t_past a_t_input a_t_n a_t_order a_t_numbers a_t_output : Nat) (i_t_pastMany : Int) (i_t_isSaved : Int) (i_t_thrown : Int) (i_t_inputMany : Int) (i_t_lastError : Int) (i_t_lastOffset : Int) (i_t_error : Int) (i_t_offset : Int) (i_t_nextByte : Int) (i_t_begin : Int) (i_t_value : Int) (i_t_token : Int) (i_t_got : Int) (i_t_orders : Int) (i_t_outputMany : Int) (i_t_output : (Int → Int)) : va_W := [(a_t, .inr (11, [.ref a_t_w, .ref a_t_wKept, .ref a_t_saved, .ref a_t_past, jk_V i_t_pastMany, jk_V i_t_isSaved, jk_V i_t_thrown, .ref a_t_input, jk_V i_t_inputMany, jk_V i_t_lastError, jk_V i_t_lastOffset, jk_V i_t_error, jk_V i_t_offset, jk_V i_t_nextByte, jk_V i_t_begin, jk_V i_t_value, jk_V i_t_token, jk_V i_t_got, .ref a_t_n, .ref a_t_order, .ref a_t_numbers, jk_V i_t_orders, .ref a_t_output, jk_V i_t_outputMany])), (a_t_output, jk_W cI 500 i_t_output)]
set_option maxHeartbeats 4000000 in
set_option maxRecDepth 20000 in
theorem ct_Md_write (l : Launch) (D : va_G) (Z : (Nat → Prop) → State → Heap → Prop) (sq : Nat → Nat) (hZ : jk_ZK Z sq) (cI cR : ClassId) (a_t a_t_w a_t_wKept a_t_saved a_t_past a_t_input a_t_n a_t_order a_t_numbers a_t_output : Nat) (i_t_pastMany : Int) (i_t_isSaved : Int) (i_t_thrown : Int) (i_t_inputMany : Int) (i_t_lastError : Int) (i_t_lastOffset : Int) (i_t_error : Int) (i_t_offset : Int) (i_t_nextByte : Int) (i_t_begin : Int) (i_t_value : Int) (i_t_token : Int) (i_t_got : Int) (i_t_orders : Int) (i_t_outputMany : Int) (i_t_output : (Int → Int)) (x1 : Int) (q : (Int → Int) × Int) (hf : fn_Md_write i_t_output i_t_outputMany x1 = some q) : jk_MV l D jk_cl (jk_ty cI cR) Z mn_Md_write (.code mn_Md_write mb_Md_write 2 none :: jk_WA) (jk_rm 0 0) [.ref a_t, jk_V x1] (wd_Md_write cI a_t a_t_w a_t_wKept a_t_saved a_t_past a_t_input a_t_n a_t_order a_t_numbers a_t_output i_t_pastMany i_t_isSaved i_t_thrown i_t_inputMany i_t_lastError i_t_lastOffset i_t_error i_t_offset i_t_nextByte i_t_begin i_t_value i_t_token i_t_got i_t_orders i_t_outputMany i_t_output) (wd_Md_write cI a_t a_t_w a_t_wKept a_t_saved a_t_past a_t_input a_t_n a_t_order a_t_numbers a_t_output i_t_pastMany i_t_isSaved i_t_thrown i_t_inputMany i_t_lastError i_t_lastOffset i_t_error i_t_offset i_t_nextByte i_t_begin i_t_value i_t_token i_t_got i_t_orders q.2 q.1) := by
  intro sz
  refine jk_body (by decide +kernel) (fun p e s m args below meth c hsz hz hin C => ?_) (Nat.le_of_ble_eq_true rfl)
  subst hsz
  unfold fn_Md_write at hf
  refine jk_aload_n C rd_Md_write_0 (k := 0) rfl ?_
  refine jk_get C in_Md (ci := 11) rfl 22 (by decide) tm_1285 0 rfl rfl rd_Md_write_1 ?_
  refine jk_aload_n C rd_Md_write_4 (k := 0) rfl ?_
  refine jk_get C in_Md (ci := 11) rfl 23 (by decide) tm_1286 0 rfl rfl rd_Md_write_5 ?_
  refine jk_iload_n C rd_Md_write_8 (k := 1) rfl ?_
  refine jk_iast C 1 0 rfl rfl (Nat.le_of_ble_eq_true rfl) rd_Md_write_9 hf (ws' := wd_Md_write cI a_t a_t_w a_t_wKept a_t_saved a_t_past a_t_input a_t_n a_t_order a_t_numbers a_t_output i_t_pastMany i_t_isSaved i_t_thrown i_t_inputMany i_t_lastError i_t_lastOffset i_t_error i_t_offset i_t_nextByte i_t_begin i_t_value i_t_token i_t_got i_t_orders i_t_outputMany (jk_up i_t_output i_t_outputMany x1)) rfl (fun hf => ?_)
  refine jk_aload_n C rd_Md_write_10 (k := 0) rfl ?_
  refine jk_dup C rd_Md_write_11 rfl ?_
  refine jk_get C in_Md (ci := 11) rfl 23 (by decide) tm_1286 0 rfl rfl rd_Md_write_12 ?_
  refine jk_iconst C rd_Md_write_15 ?_
  refine jk_iadd C rd_Md_write_16 ?_
  refine jk_putf C in_Md ty_Md nm_Md (ci := 11) rfl 23 (by decide) tm_1286 rfl rfl rfl 0 rfl (Nat.le_of_ble_eq_true rfl) rd_Md_write_17 (ws' := wd_Md_write cI a_t a_t_w a_t_wKept a_t_saved a_t_past a_t_input a_t_n a_t_order a_t_numbers a_t_output i_t_pastMany i_t_isSaved i_t_thrown i_t_inputMany i_t_lastError i_t_lastOffset i_t_error i_t_offset i_t_nextByte i_t_begin i_t_value i_t_token i_t_got i_t_orders (i_t_outputMany + 1) (jk_up i_t_output i_t_outputMany x1)) rfl ?_
  cases hf
  exact jk_vret C rfl rd_Md_write_20 rfl
def wd_Md_writeCord (cI : ClassId) (a_t a_t_w a_t_wKept a_t_saved a_t_past a_t_input a_t_n a_t_order a_t_numbers a_t_output : Nat) (i_t_pastMany : Int) (i_t_isSaved : Int) (i_t_thrown : Int) (i_t_inputMany : Int) (i_t_lastError : Int) (i_t_lastOffset : Int) (i_t_error : Int) (i_t_offset : Int) (i_t_nextByte : Int) (i_t_begin : Int) (i_t_value : Int) (i_t_token : Int) (i_t_got : Int) (i_t_orders : Int) (i_t_outputMany : Int) (i_t_w : (Int → Int)) (i_t_output : (Int → Int)) : va_W := [(a_t, .inr (11, [.ref a_t_w, .ref a_t_wKept, .ref a_t_saved, .ref a_t_past, jk_V i_t_pastMany, jk_V i_t_isSaved, jk_V i_t_thrown, .ref a_t_input, jk_V i_t_inputMany, jk_V i_t_lastError, jk_V i_t_lastOffset, jk_V i_t_error, jk_V i_t_offset, jk_V i_t_nextByte, jk_V i_t_begin, jk_V i_t_value, jk_V i_t_token, jk_V i_t_got, .ref a_t_n, .ref a_t_order, .ref a_t_numbers, jk_V i_t_orders, .ref a_t_output, jk_V i_t_outputMany])), (a_t_w, jk_W cI 259 i_t_w), (a_t_output, jk_W cI 500 i_t_output)]
set_option maxHeartbeats 4000000 in
set_option maxRecDepth 20000 in
theorem ct_Md_writeCord (l : Launch) (D : va_G) (Z : (Nat → Prop) → State → Heap → Prop) (sq : Nat → Nat) (hZ : jk_ZK Z sq) (cI cR : ClassId) (a_t a_t_w a_t_wKept a_t_saved a_t_past a_t_input a_t_n a_t_order a_t_numbers a_t_output : Nat) : ∀ (d : Nat) (i_t_pastMany : Int) (i_t_isSaved : Int) (i_t_thrown : Int) (i_t_inputMany : Int) (i_t_lastError : Int) (i_t_lastOffset : Int) (i_t_error : Int) (i_t_offset : Int) (i_t_nextByte : Int) (i_t_begin : Int) (i_t_value : Int) (i_t_token : Int) (i_t_got : Int) (i_t_orders : Int) (i_t_outputMany : Int) (i_t_w : (Int → Int)) (i_t_output : (Int → Int)) (x1 : Int) (q : (Int → Int) × Int), fn_Md_writeCord d i_t_w i_t_output i_t_outputMany x1 = some q → jk_MV l D jk_cl (jk_ty cI cR) Z mn_Md_writeCord (.code mn_Md_writeCord mb_Md_writeCord 4 none :: jk_WA) (jk_rm (2 + d) (44 + d * 23)) [.ref a_t, jk_V x1] (wd_Md_writeCord cI a_t a_t_w a_t_wKept a_t_saved a_t_past a_t_input a_t_n a_t_order a_t_numbers a_t_output i_t_pastMany i_t_isSaved i_t_thrown i_t_inputMany i_t_lastError i_t_lastOffset i_t_error i_t_offset i_t_nextByte i_t_begin i_t_value i_t_token i_t_got i_t_orders i_t_outputMany i_t_w i_t_output) (wd_Md_writeCord cI a_t a_t_w a_t_wKept a_t_saved a_t_past a_t_input a_t_n a_t_order a_t_numbers a_t_output i_t_pastMany i_t_isSaved i_t_thrown i_t_inputMany i_t_lastError i_t_lastOffset i_t_error i_t_offset i_t_nextByte i_t_begin i_t_value i_t_token i_t_got i_t_orders q.2 i_t_w q.1) := by
  intro d
  induction d with
  | zero => intro i_t_pastMany i_t_isSaved i_t_thrown i_t_inputMany i_t_lastError i_t_lastOffset i_t_error i_t_offset i_t_nextByte i_t_begin i_t_value i_t_token i_t_got i_t_orders i_t_outputMany i_t_w i_t_output x1 q hf; exact nomatch (show none = some q from hf)
  | succ d ihd =>
  intro i_t_pastMany i_t_isSaved i_t_thrown i_t_inputMany i_t_lastError i_t_lastOffset i_t_error i_t_offset i_t_nextByte i_t_begin i_t_value i_t_token i_t_got i_t_orders i_t_outputMany i_t_w i_t_output x1 q hf
  intro sz
  refine jk_body (by decide +kernel) (fun p e s m args below meth c hsz hz hin C => ?_) (Nat.le_of_ble_eq_true rfl)
  subst hsz
  rw [fn_Md_writeCord] at hf
  have bk_77 : ∀ (n : Nat) (t_output : (Int → Int)) (t_outputMany : Int) (v1 : Int) (v2 : Int) (v3 : Int), fn_Md_writeCord_b77 (fn_Md_writeCord d) n i_t_w t_output t_outputMany v1 v2 v3 = some q → jk_J p l e (jk_rm (2 + (d + 1)) (44 + (d + 1) * 23)) s m args below meth c 0 0 (jk_QV below D jk_cl (jk_ty cI cR) (wd_Md_writeCord cI a_t a_t_w a_t_wKept a_t_saved a_t_past a_t_input a_t_n a_t_order a_t_numbers a_t_output i_t_pastMany i_t_isSaved i_t_thrown i_t_inputMany i_t_lastError i_t_lastOffset i_t_error i_t_offset i_t_nextByte i_t_begin i_t_value i_t_token i_t_got i_t_orders i_t_outputMany i_t_w i_t_output) (wd_Md_writeCord cI a_t a_t_w a_t_wKept a_t_saved a_t_past a_t_input a_t_n a_t_order a_t_numbers a_t_output i_t_pastMany i_t_isSaved i_t_thrown i_t_inputMany i_t_lastError i_t_lastOffset i_t_error i_t_offset i_t_nextByte i_t_begin i_t_value i_t_token i_t_got i_t_orders q.2 i_t_w q.1) args s) D jk_cl (va_A (wd_Md_writeCord cI a_t a_t_w a_t_wKept a_t_saved a_t_past a_t_input a_t_n a_t_order a_t_numbers a_t_output i_t_pastMany i_t_isSaved i_t_thrown i_t_inputMany i_t_lastError i_t_lastOffset i_t_error i_t_offset i_t_nextByte i_t_begin i_t_value i_t_token i_t_got i_t_orders i_t_outputMany i_t_w i_t_output) s.heap.size) 4 (wd_Md_writeCord cI a_t a_t_w a_t_wKept a_t_saved a_t_past a_t_input a_t_n a_t_order a_t_numbers a_t_output i_t_pastMany i_t_isSaved i_t_thrown i_t_inputMany i_t_lastError i_t_lastOffset i_t_error i_t_offset i_t_nextByte i_t_begin i_t_value i_t_token i_t_got i_t_orders t_outputMany i_t_w t_output) [(0, .ref a_t), (1, jk_V v1), (2, jk_V v2), (3, jk_V v3)] 77 [] := by
    intro n
    induction n with
    | zero => intro t_output t_outputMany v1 v2 v3 hf; exact nomatch (show none = some q from hf)
    | succ n ih =>
      intro t_output t_outputMany v1 v2 v3 hf
      rw [fn_Md_writeCord_b77] at hf
      refine jk_iload_n C rd_Md_writeCord_77 (k := 2) rfl ?_
      refine jk_iload_n C rd_Md_writeCord_78 (k := 3) rfl ?_
      refine jk_icmp_ge (tgt := 109) C rd_Md_writeCord_79 (by decide) hf (fun _ hf => ?_) (fun _ hf => ?_)
      · refine jk_aload_n C rd_Md_writeCord_109 (k := 0) rfl ?_
        refine jk_bipush C rd_Md_writeCord_110 (by decide +kernel) ?_
        obtain ⟨q112, hq112, hf⟩ := jk_bind_h hf
        refine jk_callVv C hZ.1 hz (ct_Md_write l D Z sq hZ cI cR a_t a_t_w a_t_wKept a_t_saved a_t_past a_t_input a_t_n a_t_order a_t_numbers a_t_output i_t_pastMany i_t_isSaved i_t_thrown i_t_inputMany i_t_lastError i_t_lastOffset i_t_error i_t_offset i_t_nextByte i_t_begin i_t_value i_t_token i_t_got i_t_orders t_outputMany t_output 41 q112 hq112) tm_1883 tm_1885 sl_105 tm_15 tm_1886 na_Md_write ⟨by dsimp only [jk_rm]; omega, by dsimp only [jk_rm]; omega⟩ rfl [0, 2] rfl rfl rfl (ws' := wd_Md_writeCord cI a_t a_t_w a_t_wKept a_t_saved a_t_past a_t_input a_t_n a_t_order a_t_numbers a_t_output i_t_pastMany i_t_isSaved i_t_thrown i_t_inputMany i_t_lastError i_t_lastOffset i_t_error i_t_offset i_t_nextByte i_t_begin i_t_value i_t_token i_t_got i_t_orders q112.2 i_t_w q112.1) rfl 0 11 rfl rfl rfl (st := []) rfl (Nat.le_of_ble_eq_true rfl) rd_Md_writeCord_112 ?_ ⟨Nat.le_of_ble_eq_true rfl, Nat.le_of_ble_eq_true rfl⟩
        cases hf
        exact jk_vret C rfl rd_Md_writeCord_115 rfl
      · refine jk_iload_n C rd_Md_writeCord_82 (k := 2) rfl ?_
        refine jk_iload_n C rd_Md_writeCord_83 (k := 1) rfl ?_
        refine jk_iconst C rd_Md_writeCord_84 ?_
        refine jk_iadd C rd_Md_writeCord_85 ?_
        refine jk_icmp_le (tgt := 95) C rd_Md_writeCord_86 (by decide) hf (fun _ hf => ?_) (fun _ hf => ?_)
        · refine jk_aload_n C rd_Md_writeCord_95 (k := 0) rfl ?_
          refine jk_iload_n C rd_Md_writeCord_96 (k := 2) rfl ?_
          obtain ⟨q97, hq97, hf⟩ := jk_bind_h hf
          refine jk_callVv C hZ.1 hz (ihd i_t_pastMany i_t_isSaved i_t_thrown i_t_inputMany i_t_lastError i_t_lastOffset i_t_error i_t_offset i_t_nextByte i_t_begin i_t_value i_t_token i_t_got i_t_orders t_outputMany i_t_w t_output v2 q97 hq97) tm_1879 tm_1881 sl_104 tm_15 tm_1882 na_Md_writeCord ⟨by dsimp only [jk_rm]; omega, by dsimp only [jk_rm]; omega⟩ rfl [0, 1, 2] rfl rfl rfl (ws' := wd_Md_writeCord cI a_t a_t_w a_t_wKept a_t_saved a_t_past a_t_input a_t_n a_t_order a_t_numbers a_t_output i_t_pastMany i_t_isSaved i_t_thrown i_t_inputMany i_t_lastError i_t_lastOffset i_t_error i_t_offset i_t_nextByte i_t_begin i_t_value i_t_token i_t_got i_t_orders q97.2 i_t_w q97.1) rfl 0 11 rfl rfl rfl (st := []) rfl (Nat.le_of_ble_eq_true rfl) rd_Md_writeCord_97 ?_ ⟨Nat.le_of_ble_eq_true rfl, Nat.le_of_ble_eq_true rfl⟩
          refine jk_aload_n C rd_Md_writeCord_100 (k := 0) rfl ?_
          refine jk_iload_n C rd_Md_writeCord_101 (k := 2) rfl ?_
          obtain ⟨q102, hq102, hf⟩ := jk_bind_h hf
          refine jk_callVi C hZ.1 hz (ct_Md_behind l D Z sq hZ cI cR a_t a_t_w a_t_wKept a_t_saved a_t_past a_t_input a_t_n a_t_order a_t_numbers a_t_output i_t_pastMany i_t_isSaved i_t_thrown i_t_inputMany i_t_lastError i_t_lastOffset i_t_error i_t_offset i_t_nextByte i_t_begin i_t_value i_t_token i_t_got i_t_orders q97.2 i_t_w v2 q102 hq102) tm_1457 tm_1459 sl_50 tm_15 tm_1460 na_Md_behind ⟨by dsimp only [jk_rm]; omega, by dsimp only [jk_rm]; omega⟩ rfl [0, 1] rfl rfl rfl (ws' := wd_Md_writeCord cI a_t a_t_w a_t_wKept a_t_saved a_t_past a_t_input a_t_n a_t_order a_t_numbers a_t_output i_t_pastMany i_t_isSaved i_t_thrown i_t_inputMany i_t_lastError i_t_lastOffset i_t_error i_t_offset i_t_nextByte i_t_begin i_t_value i_t_token i_t_got i_t_orders q97.2 i_t_w q97.1) rfl 0 11 rfl rfl rfl (st := []) rfl (Nat.le_of_ble_eq_true rfl) rd_Md_writeCord_102 ?_ ⟨Nat.le_of_ble_eq_true rfl, Nat.le_of_ble_eq_true rfl⟩
          refine jk_istore_n C rd_Md_writeCord_105 (by decide) (lv' := [(2, jk_V q102), (0, .ref a_t), (1, jk_V v1), (3, jk_V v3)]) rfl ?_
          refine jk_goto (tgt := 77) C rd_Md_writeCord_106 (by decide) ?_
          refine jk_lv (lv' := [(0, .ref a_t), (1, jk_V v1), (2, jk_V q102), (3, jk_V v3)]) [1, 2, 0, 3] rfl ?_
          exact ih q97.1 q97.2 v1 q102 v3 hf
        · refine jk_aload_n C rd_Md_writeCord_89 (k := 0) rfl ?_
          refine jk_bipush C rd_Md_writeCord_90 (by decide +kernel) ?_
          obtain ⟨q92, hq92, hf⟩ := jk_bind_h hf
          refine jk_callVv C hZ.1 hz (ct_Md_write l D Z sq hZ cI cR a_t a_t_w a_t_wKept a_t_saved a_t_past a_t_input a_t_n a_t_order a_t_numbers a_t_output i_t_pastMany i_t_isSaved i_t_thrown i_t_inputMany i_t_lastError i_t_lastOffset i_t_error i_t_offset i_t_nextByte i_t_begin i_t_value i_t_token i_t_got i_t_orders t_outputMany t_output 44 q92 hq92) tm_1883 tm_1885 sl_105 tm_15 tm_1886 na_Md_write ⟨by dsimp only [jk_rm]; omega, by dsimp only [jk_rm]; omega⟩ rfl [0, 2] rfl rfl rfl (ws' := wd_Md_writeCord cI a_t a_t_w a_t_wKept a_t_saved a_t_past a_t_input a_t_n a_t_order a_t_numbers a_t_output i_t_pastMany i_t_isSaved i_t_thrown i_t_inputMany i_t_lastError i_t_lastOffset i_t_error i_t_offset i_t_nextByte i_t_begin i_t_value i_t_token i_t_got i_t_orders q92.2 i_t_w q92.1) rfl 0 11 rfl rfl rfl (st := []) rfl (Nat.le_of_ble_eq_true rfl) rd_Md_writeCord_92 ?_ ⟨Nat.le_of_ble_eq_true rfl, Nat.le_of_ble_eq_true rfl⟩
          refine jk_aload_n C rd_Md_writeCord_95 (k := 0) rfl ?_
          refine jk_iload_n C rd_Md_writeCord_96 (k := 2) rfl ?_
          obtain ⟨q97, hq97, hf⟩ := jk_bind_h hf
          refine jk_callVv C hZ.1 hz (ihd i_t_pastMany i_t_isSaved i_t_thrown i_t_inputMany i_t_lastError i_t_lastOffset i_t_error i_t_offset i_t_nextByte i_t_begin i_t_value i_t_token i_t_got i_t_orders q92.2 i_t_w q92.1 v2 q97 hq97) tm_1879 tm_1881 sl_104 tm_15 tm_1882 na_Md_writeCord ⟨by dsimp only [jk_rm]; omega, by dsimp only [jk_rm]; omega⟩ rfl [0, 1, 2] rfl rfl rfl (ws' := wd_Md_writeCord cI a_t a_t_w a_t_wKept a_t_saved a_t_past a_t_input a_t_n a_t_order a_t_numbers a_t_output i_t_pastMany i_t_isSaved i_t_thrown i_t_inputMany i_t_lastError i_t_lastOffset i_t_error i_t_offset i_t_nextByte i_t_begin i_t_value i_t_token i_t_got i_t_orders q97.2 i_t_w q97.1) rfl 0 11 rfl rfl rfl (st := []) rfl (Nat.le_of_ble_eq_true rfl) rd_Md_writeCord_97 ?_ ⟨Nat.le_of_ble_eq_true rfl, Nat.le_of_ble_eq_true rfl⟩
          refine jk_aload_n C rd_Md_writeCord_100 (k := 0) rfl ?_
          refine jk_iload_n C rd_Md_writeCord_101 (k := 2) rfl ?_
          obtain ⟨q102, hq102, hf⟩ := jk_bind_h hf
          refine jk_callVi C hZ.1 hz (ct_Md_behind l D Z sq hZ cI cR a_t a_t_w a_t_wKept a_t_saved a_t_past a_t_input a_t_n a_t_order a_t_numbers a_t_output i_t_pastMany i_t_isSaved i_t_thrown i_t_inputMany i_t_lastError i_t_lastOffset i_t_error i_t_offset i_t_nextByte i_t_begin i_t_value i_t_token i_t_got i_t_orders q97.2 i_t_w v2 q102 hq102) tm_1457 tm_1459 sl_50 tm_15 tm_1460 na_Md_behind ⟨by dsimp only [jk_rm]; omega, by dsimp only [jk_rm]; omega⟩ rfl [0, 1] rfl rfl rfl (ws' := wd_Md_writeCord cI a_t a_t_w a_t_wKept a_t_saved a_t_past a_t_input a_t_n a_t_order a_t_numbers a_t_output i_t_pastMany i_t_isSaved i_t_thrown i_t_inputMany i_t_lastError i_t_lastOffset i_t_error i_t_offset i_t_nextByte i_t_begin i_t_value i_t_token i_t_got i_t_orders q97.2 i_t_w q97.1) rfl 0 11 rfl rfl rfl (st := []) rfl (Nat.le_of_ble_eq_true rfl) rd_Md_writeCord_102 ?_ ⟨Nat.le_of_ble_eq_true rfl, Nat.le_of_ble_eq_true rfl⟩
          refine jk_istore_n C rd_Md_writeCord_105 (by decide) (lv' := [(2, jk_V q102), (0, .ref a_t), (1, jk_V v1), (3, jk_V v3)]) rfl ?_
          refine jk_goto (tgt := 77) C rd_Md_writeCord_106 (by decide) ?_
          refine jk_lv (lv' := [(0, .ref a_t), (1, jk_V v1), (2, jk_V q102), (3, jk_V v3)]) [1, 2, 0, 3] rfl ?_
          exact ih q97.1 q97.2 v1 q102 v3 hf
  have bk_17 : ∀ (n : Nat) (t_output : (Int → Int)) (t_outputMany : Int) (v1 : Int) (v2 : Int), fn_Md_writeCord_b17 (fn_Md_writeCord d) n i_t_w t_output t_outputMany v1 v2 = some q → jk_J p l e (jk_rm (2 + (d + 1)) (44 + (d + 1) * 23)) s m args below meth c 0 0 (jk_QV below D jk_cl (jk_ty cI cR) (wd_Md_writeCord cI a_t a_t_w a_t_wKept a_t_saved a_t_past a_t_input a_t_n a_t_order a_t_numbers a_t_output i_t_pastMany i_t_isSaved i_t_thrown i_t_inputMany i_t_lastError i_t_lastOffset i_t_error i_t_offset i_t_nextByte i_t_begin i_t_value i_t_token i_t_got i_t_orders i_t_outputMany i_t_w i_t_output) (wd_Md_writeCord cI a_t a_t_w a_t_wKept a_t_saved a_t_past a_t_input a_t_n a_t_order a_t_numbers a_t_output i_t_pastMany i_t_isSaved i_t_thrown i_t_inputMany i_t_lastError i_t_lastOffset i_t_error i_t_offset i_t_nextByte i_t_begin i_t_value i_t_token i_t_got i_t_orders q.2 i_t_w q.1) args s) D jk_cl (va_A (wd_Md_writeCord cI a_t a_t_w a_t_wKept a_t_saved a_t_past a_t_input a_t_n a_t_order a_t_numbers a_t_output i_t_pastMany i_t_isSaved i_t_thrown i_t_inputMany i_t_lastError i_t_lastOffset i_t_error i_t_offset i_t_nextByte i_t_begin i_t_value i_t_token i_t_got i_t_orders i_t_outputMany i_t_w i_t_output) s.heap.size) 4 (wd_Md_writeCord cI a_t a_t_w a_t_wKept a_t_saved a_t_past a_t_input a_t_n a_t_order a_t_numbers a_t_output i_t_pastMany i_t_isSaved i_t_thrown i_t_inputMany i_t_lastError i_t_lastOffset i_t_error i_t_offset i_t_nextByte i_t_begin i_t_value i_t_token i_t_got i_t_orders t_outputMany i_t_w t_output) [(0, .ref a_t), (1, jk_V v1), (2, jk_V v2)] 17 [] := by
    intro n
    induction n with
    | zero => intro t_output t_outputMany v1 v2 hf; exact nomatch (show none = some q from hf)
    | succ n ih =>
      intro t_output t_outputMany v1 v2 hf
      rw [fn_Md_writeCord_b17] at hf
      refine jk_iload_n C rd_Md_writeCord_17 (k := 2) rfl ?_
      refine jk_if_lt (tgt := 55) C rd_Md_writeCord_18 (by decide) hf (fun _ hf => ?_) (fun _ hf => ?_)
      · refine jk_iload_n C rd_Md_writeCord_55 (k := 1) rfl ?_
        refine jk_iconst C rd_Md_writeCord_56 ?_
        refine jk_iadd C rd_Md_writeCord_57 ?_
        refine jk_istore_n C rd_Md_writeCord_58 (by decide) (lv' := [(2, jk_V (v1 + 1)), (0, .ref a_t), (1, jk_V v1)]) rfl ?_
        refine jk_aload_n C rd_Md_writeCord_59 (k := 1) rfl ?_
        refine jk_iload_n C rd_Md_writeCord_60 (k := 2) rfl ?_
        obtain ⟨q61, hq61, hf⟩ := jk_bind_h hf
        refine jk_callVi C hZ.1 hz (ct_Md_behind l D Z sq hZ cI cR a_t a_t_w a_t_wKept a_t_saved a_t_past a_t_input a_t_n a_t_order a_t_numbers a_t_output i_t_pastMany i_t_isSaved i_t_thrown i_t_inputMany i_t_lastError i_t_lastOffset i_t_error i_t_offset i_t_nextByte i_t_begin i_t_value i_t_token i_t_got i_t_orders t_outputMany i_t_w v1 q61 hq61) tm_1457 tm_1459 sl_50 tm_15 tm_1460 na_Md_behind ⟨by dsimp only [jk_rm]; omega, by dsimp only [jk_rm]; omega⟩ rfl [0, 1] rfl rfl rfl (ws' := wd_Md_writeCord cI a_t a_t_w a_t_wKept a_t_saved a_t_past a_t_input a_t_n a_t_order a_t_numbers a_t_output i_t_pastMany i_t_isSaved i_t_thrown i_t_inputMany i_t_lastError i_t_lastOffset i_t_error i_t_offset i_t_nextByte i_t_begin i_t_value i_t_token i_t_got i_t_orders t_outputMany i_t_w t_output) rfl 0 11 rfl rfl rfl (st := []) rfl (Nat.le_of_ble_eq_true rfl) rd_Md_writeCord_61 ?_ ⟨Nat.le_of_ble_eq_true rfl, Nat.le_of_ble_eq_true rfl⟩
        refine jk_istore_n C rd_Md_writeCord_64 (by decide) (lv' := [(3, jk_V q61), (2, jk_V (v1 + 1)), (0, .ref a_t), (1, jk_V v1)]) rfl ?_
        refine jk_iload_n C rd_Md_writeCord_65 (k := 1) rfl ?_
        refine jk_iload_n C rd_Md_writeCord_66 (k := 0) rfl ?_
        refine jk_icmp_ne (tgt := 71) C rd_Md_writeCord_67 (by decide) hf (fun _ hf => ?_) (fun _ hf => ?_)
        · refine jk_aload_n C rd_Md_writeCord_71 (k := 2) rfl ?_
          refine jk_bipush C rd_Md_writeCord_72 (by decide +kernel) ?_
          obtain ⟨q74, hq74, hf⟩ := jk_bind_h hf
          refine jk_callVv C hZ.1 hz (ct_Md_write l D Z sq hZ cI cR a_t a_t_w a_t_wKept a_t_saved a_t_past a_t_input a_t_n a_t_order a_t_numbers a_t_output i_t_pastMany i_t_isSaved i_t_thrown i_t_inputMany i_t_lastError i_t_lastOffset i_t_error i_t_offset i_t_nextByte i_t_begin i_t_value i_t_token i_t_got i_t_orders t_outputMany t_output 40 q74 hq74) tm_1883 tm_1885 sl_105 tm_15 tm_1886 na_Md_write ⟨by dsimp only [jk_rm]; omega, by dsimp only [jk_rm]; omega⟩ rfl [0, 2] rfl rfl rfl (ws' := wd_Md_writeCord cI a_t a_t_w a_t_wKept a_t_saved a_t_past a_t_input a_t_n a_t_order a_t_numbers a_t_output i_t_pastMany i_t_isSaved i_t_thrown i_t_inputMany i_t_lastError i_t_lastOffset i_t_error i_t_offset i_t_nextByte i_t_begin i_t_value i_t_token i_t_got i_t_orders q74.2 i_t_w q74.1) rfl 0 11 rfl rfl rfl (st := []) rfl (Nat.le_of_ble_eq_true rfl) rd_Md_writeCord_74 ?_ ⟨Nat.le_of_ble_eq_true rfl, Nat.le_of_ble_eq_true rfl⟩
          refine jk_lv (lv' := [(0, .ref a_t), (1, jk_V v1), (2, jk_V (v1 + 1)), (3, jk_V q61)]) [2, 3, 1, 0] rfl ?_
          exact bk_77 jk_F q74.1 q74.2 v1 (v1 + 1) q61 hf
        · cases hf
          exact jk_vret C rfl rd_Md_writeCord_70 rfl
      · refine jk_aload_n C rd_Md_writeCord_21 (k := 0) rfl ?_
        refine jk_iload_n C rd_Md_writeCord_22 (k := 2) rfl ?_
        refine jk_aload_n C rd_Md_writeCord_23 (k := 0) rfl ?_
        refine jk_iload_n C rd_Md_writeCord_24 (k := 1) rfl ?_
        refine jk_iconst C rd_Md_writeCord_25 ?_
        obtain ⟨q26, hq26, hf⟩ := jk_bind_h hf
        refine jk_callVi C hZ.1 hz (ct_Md_of l D Z sq hZ cI cR a_t a_t_w a_t_wKept a_t_saved a_t_past a_t_input a_t_n a_t_order a_t_numbers a_t_output i_t_pastMany i_t_isSaved i_t_thrown i_t_inputMany i_t_lastError i_t_lastOffset i_t_error i_t_offset i_t_nextByte i_t_begin i_t_value i_t_token i_t_got i_t_orders t_outputMany i_t_w v1 4 q26 hq26) tm_1256 tm_1258 sl_26 tm_15 tm_1259 na_Md_of ⟨by dsimp only [jk_rm]; omega, by dsimp only [jk_rm]; omega⟩ rfl [0, 1] rfl rfl rfl (ws' := wd_Md_writeCord cI a_t a_t_w a_t_wKept a_t_saved a_t_past a_t_input a_t_n a_t_order a_t_numbers a_t_output i_t_pastMany i_t_isSaved i_t_thrown i_t_inputMany i_t_lastError i_t_lastOffset i_t_error i_t_offset i_t_nextByte i_t_begin i_t_value i_t_token i_t_got i_t_orders t_outputMany i_t_w t_output) rfl 0 11 rfl rfl rfl (st := [jk_V v2, .ref a_t]) rfl (Nat.le_of_ble_eq_true rfl) rd_Md_writeCord_26 ?_ ⟨Nat.le_of_ble_eq_true rfl, Nat.le_of_ble_eq_true rfl⟩
        refine jk_icmp_ge (tgt := 37) C rd_Md_writeCord_29 (by decide) hf (fun _ hf => ?_) (fun _ hf => ?_)
        · refine jk_bipush C rd_Md_writeCord_37 (by decide +kernel) ?_
          refine jk_aload_n C rd_Md_writeCord_39 (k := 0) rfl ?_
          refine jk_iload_n C rd_Md_writeCord_40 (k := 1) rfl ?_
          refine jk_iload_n C rd_Md_writeCord_41 (k := 2) rfl ?_
          obtain ⟨q42, hq42, hf⟩ := jk_bind_h hf
          refine jk_callVi C hZ.1 hz (ct_Md_knots l D Z sq hZ cI cR a_t a_t_w a_t_wKept a_t_saved a_t_past a_t_input a_t_n a_t_order a_t_numbers a_t_output i_t_pastMany i_t_isSaved i_t_thrown i_t_inputMany i_t_lastError i_t_lastOffset i_t_error i_t_offset i_t_nextByte i_t_begin i_t_value i_t_token i_t_got i_t_orders t_outputMany i_t_w v1 v2 q42 hq42) tm_1252 tm_1254 sl_25 tm_15 tm_1255 na_Md_knots ⟨by dsimp only [jk_rm]; omega, by dsimp only [jk_rm]; omega⟩ rfl [0, 1] rfl rfl rfl (ws' := wd_Md_writeCord cI a_t a_t_w a_t_wKept a_t_saved a_t_past a_t_input a_t_n a_t_order a_t_numbers a_t_output i_t_pastMany i_t_isSaved i_t_thrown i_t_inputMany i_t_lastError i_t_lastOffset i_t_error i_t_offset i_t_nextByte i_t_begin i_t_value i_t_token i_t_got i_t_orders t_outputMany i_t_w t_output) rfl 0 11 rfl rfl rfl (st := [jk_V 48, .ref a_t]) rfl (Nat.le_of_ble_eq_true rfl) rd_Md_writeCord_42 ?_ ⟨Nat.le_of_ble_eq_true rfl, Nat.le_of_ble_eq_true rfl⟩
          refine jk_iadd C rd_Md_writeCord_45 ?_
          obtain ⟨q46, hq46, hf⟩ := jk_bind_h hf
          refine jk_callVv C hZ.1 hz (ct_Md_write l D Z sq hZ cI cR a_t a_t_w a_t_wKept a_t_saved a_t_past a_t_input a_t_n a_t_order a_t_numbers a_t_output i_t_pastMany i_t_isSaved i_t_thrown i_t_inputMany i_t_lastError i_t_lastOffset i_t_error i_t_offset i_t_nextByte i_t_begin i_t_value i_t_token i_t_got i_t_orders t_outputMany t_output (48 + q42) q46 hq46) tm_1883 tm_1885 sl_105 tm_15 tm_1886 na_Md_write ⟨by dsimp only [jk_rm]; omega, by dsimp only [jk_rm]; omega⟩ rfl [0, 2] rfl rfl rfl (ws' := wd_Md_writeCord cI a_t a_t_w a_t_wKept a_t_saved a_t_past a_t_input a_t_n a_t_order a_t_numbers a_t_output i_t_pastMany i_t_isSaved i_t_thrown i_t_inputMany i_t_lastError i_t_lastOffset i_t_error i_t_offset i_t_nextByte i_t_begin i_t_value i_t_token i_t_got i_t_orders q46.2 i_t_w q46.1) rfl 0 11 rfl rfl rfl (st := []) rfl (Nat.le_of_ble_eq_true rfl) rd_Md_writeCord_46 ?_ ⟨Nat.le_of_ble_eq_true rfl, Nat.le_of_ble_eq_true rfl⟩
          refine jk_iinc C rd_Md_writeCord_49 (k := 2) rfl (by decide) (lv' := [(2, jk_V (v2 + (-1))), (0, .ref a_t), (1, jk_V v1)]) rfl ?_
          refine jk_goto (tgt := 17) C rd_Md_writeCord_52 (by decide) ?_
          refine jk_lv (lv' := [(0, .ref a_t), (1, jk_V v1), (2, jk_V (v2 + (-1)))]) [1, 2, 0] rfl ?_
          exact ih q46.1 q46.2 v1 (v2 + (-1)) hf
        · refine jk_bipush C rd_Md_writeCord_32 (by decide +kernel) ?_
          refine jk_goto (tgt := 46) C rd_Md_writeCord_34 (by decide) ?_
          obtain ⟨q46, hq46, hf⟩ := jk_bind_h hf
          refine jk_callVv C hZ.1 hz (ct_Md_write l D Z sq hZ cI cR a_t a_t_w a_t_wKept a_t_saved a_t_past a_t_input a_t_n a_t_order a_t_numbers a_t_output i_t_pastMany i_t_isSaved i_t_thrown i_t_inputMany i_t_lastError i_t_lastOffset i_t_error i_t_offset i_t_nextByte i_t_begin i_t_value i_t_token i_t_got i_t_orders t_outputMany t_output 63 q46 hq46) tm_1883 tm_1885 sl_105 tm_15 tm_1886 na_Md_write ⟨by dsimp only [jk_rm]; omega, by dsimp only [jk_rm]; omega⟩ rfl [0, 2] rfl rfl rfl (ws' := wd_Md_writeCord cI a_t a_t_w a_t_wKept a_t_saved a_t_past a_t_input a_t_n a_t_order a_t_numbers a_t_output i_t_pastMany i_t_isSaved i_t_thrown i_t_inputMany i_t_lastError i_t_lastOffset i_t_error i_t_offset i_t_nextByte i_t_begin i_t_value i_t_token i_t_got i_t_orders q46.2 i_t_w q46.1) rfl 0 11 rfl rfl rfl (st := []) rfl (Nat.le_of_ble_eq_true rfl) rd_Md_writeCord_46 ?_ ⟨Nat.le_of_ble_eq_true rfl, Nat.le_of_ble_eq_true rfl⟩
          refine jk_iinc C rd_Md_writeCord_49 (k := 2) rfl (by decide) (lv' := [(2, jk_V (v2 + (-1))), (0, .ref a_t), (1, jk_V v1)]) rfl ?_
          refine jk_goto (tgt := 17) C rd_Md_writeCord_52 (by decide) ?_
          refine jk_lv (lv' := [(0, .ref a_t), (1, jk_V v1), (2, jk_V (v2 + (-1)))]) [1, 2, 0] rfl ?_
          exact ih q46.1 q46.2 v1 (v2 + (-1)) hf
  refine jk_aload_n C rd_Md_writeCord_0 (k := 0) rfl ?_
  refine jk_aload_n C rd_Md_writeCord_1 (k := 0) rfl ?_
  refine jk_aload_n C rd_Md_writeCord_2 (k := 0) rfl ?_
  refine jk_iload_n C rd_Md_writeCord_3 (k := 1) rfl ?_
  refine jk_iconst C rd_Md_writeCord_4 ?_
  obtain ⟨q5, hq5, hf⟩ := jk_bind_h hf
  refine jk_callVi C hZ.1 hz (ct_Md_of l D Z sq hZ cI cR a_t a_t_w a_t_wKept a_t_saved a_t_past a_t_input a_t_n a_t_order a_t_numbers a_t_output i_t_pastMany i_t_isSaved i_t_thrown i_t_inputMany i_t_lastError i_t_lastOffset i_t_error i_t_offset i_t_nextByte i_t_begin i_t_value i_t_token i_t_got i_t_orders i_t_outputMany i_t_w x1 2 q5 hq5) tm_1256 tm_1258 sl_26 tm_15 tm_1259 na_Md_of ⟨by dsimp only [jk_rm]; omega, by dsimp only [jk_rm]; omega⟩ rfl [0, 1] rfl rfl rfl (ws' := wd_Md_writeCord cI a_t a_t_w a_t_wKept a_t_saved a_t_past a_t_input a_t_n a_t_order a_t_numbers a_t_output i_t_pastMany i_t_isSaved i_t_thrown i_t_inputMany i_t_lastError i_t_lastOffset i_t_error i_t_offset i_t_nextByte i_t_begin i_t_value i_t_token i_t_got i_t_orders i_t_outputMany i_t_w i_t_output) rfl 0 11 rfl rfl rfl (st := [.ref a_t, .ref a_t]) rfl (Nat.le_of_ble_eq_true rfl) rd_Md_writeCord_5 ?_ ⟨Nat.le_of_ble_eq_true rfl, Nat.le_of_ble_eq_true rfl⟩
  refine jk_iconst C rd_Md_writeCord_8 ?_
  obtain ⟨q9, hq9, hf⟩ := jk_bind_h hf
  refine jk_callVi C hZ.1 hz (ct_Md_ofTopic l D Z sq hZ cI cR a_t a_t_w a_t_wKept a_t_saved a_t_past a_t_input a_t_n a_t_order a_t_numbers a_t_output i_t_pastMany i_t_isSaved i_t_thrown i_t_inputMany i_t_lastError i_t_lastOffset i_t_error i_t_offset i_t_nextByte i_t_begin i_t_value i_t_token i_t_got i_t_orders i_t_outputMany i_t_w q5 1 q9 hq9) tm_1759 tm_1761 sl_97 tm_15 tm_1762 na_Md_ofTopic ⟨by dsimp only [jk_rm]; omega, by dsimp only [jk_rm]; omega⟩ rfl [0, 1] rfl rfl rfl (ws' := wd_Md_writeCord cI a_t a_t_w a_t_wKept a_t_saved a_t_past a_t_input a_t_n a_t_order a_t_numbers a_t_output i_t_pastMany i_t_isSaved i_t_thrown i_t_inputMany i_t_lastError i_t_lastOffset i_t_error i_t_offset i_t_nextByte i_t_begin i_t_value i_t_token i_t_got i_t_orders i_t_outputMany i_t_w i_t_output) rfl 0 11 rfl rfl rfl (st := [.ref a_t]) rfl (Nat.le_of_ble_eq_true rfl) rd_Md_writeCord_9 ?_ ⟨Nat.le_of_ble_eq_true rfl, Nat.le_of_ble_eq_true rfl⟩
  obtain ⟨q12, hq12, hf⟩ := jk_bind_h hf
  refine jk_callVv C hZ.1 hz (ct_Md_write l D Z sq hZ cI cR a_t a_t_w a_t_wKept a_t_saved a_t_past a_t_input a_t_n a_t_order a_t_numbers a_t_output i_t_pastMany i_t_isSaved i_t_thrown i_t_inputMany i_t_lastError i_t_lastOffset i_t_error i_t_offset i_t_nextByte i_t_begin i_t_value i_t_token i_t_got i_t_orders i_t_outputMany i_t_output q9 q12 hq12) tm_1883 tm_1885 sl_105 tm_15 tm_1886 na_Md_write ⟨by dsimp only [jk_rm]; omega, by dsimp only [jk_rm]; omega⟩ rfl [0, 2] rfl rfl rfl (ws' := wd_Md_writeCord cI a_t a_t_w a_t_wKept a_t_saved a_t_past a_t_input a_t_n a_t_order a_t_numbers a_t_output i_t_pastMany i_t_isSaved i_t_thrown i_t_inputMany i_t_lastError i_t_lastOffset i_t_error i_t_offset i_t_nextByte i_t_begin i_t_value i_t_token i_t_got i_t_orders q12.2 i_t_w q12.1) rfl 0 11 rfl rfl rfl (st := []) rfl (Nat.le_of_ble_eq_true rfl) rd_Md_writeCord_12 ?_ ⟨Nat.le_of_ble_eq_true rfl, Nat.le_of_ble_eq_true rfl⟩
  refine jk_iconst C rd_Md_writeCord_15 ?_
  refine jk_istore_n C rd_Md_writeCord_16 (by decide) (lv' := [(2, jk_V 3), (0, .ref a_t), (1, jk_V x1)]) rfl ?_
  refine jk_lv (lv' := [(0, .ref a_t), (1, jk_V x1), (2, jk_V 3)]) [1, 2, 0] rfl ?_
  exact bk_17 jk_F q12.1 q12.2 x1 3 hf
def wd_Md_writeCluster (cI : ClassId) (a_t a_t_w a_t_wKept a_t_saved a_t_past a_t_input a_t_n a_t_order a_t_numbers a_t_output : Nat) (i_t_pastMany : Int) (i_t_isSaved : Int) (i_t_thrown : Int) (i_t_inputMany : Int) (i_t_lastError : Int) (i_t_lastOffset : Int) (i_t_error : Int) (i_t_offset : Int) (i_t_nextByte : Int) (i_t_begin : Int) (i_t_value : Int) (i_t_token : Int) (i_t_got : Int) (i_t_orders : Int) (i_t_outputMany : Int) (i_t_w : (Int → Int)) (i_t_output : (Int → Int)) : va_W := [(a_t, .inr (11, [.ref a_t_w, .ref a_t_wKept, .ref a_t_saved, .ref a_t_past, jk_V i_t_pastMany, jk_V i_t_isSaved, jk_V i_t_thrown, .ref a_t_input, jk_V i_t_inputMany, jk_V i_t_lastError, jk_V i_t_lastOffset, jk_V i_t_error, jk_V i_t_offset, jk_V i_t_nextByte, jk_V i_t_begin, jk_V i_t_value, jk_V i_t_token, jk_V i_t_got, .ref a_t_n, .ref a_t_order, .ref a_t_numbers, jk_V i_t_orders, .ref a_t_output, jk_V i_t_outputMany])), (a_t_w, jk_W cI 259 i_t_w), (a_t_output, jk_W cI 500 i_t_output)]
set_option maxHeartbeats 4000000 in
set_option maxRecDepth 20000 in
theorem ct_Md_writeCluster (l : Launch) (D : va_G) (Z : (Nat → Prop) → State → Heap → Prop) (sq : Nat → Nat) (hZ : jk_ZK Z sq) (cI cR : ClassId) (a_t a_t_w a_t_wKept a_t_saved a_t_past a_t_input a_t_n a_t_order a_t_numbers a_t_output : Nat) (i_t_pastMany : Int) (i_t_isSaved : Int) (i_t_thrown : Int) (i_t_inputMany : Int) (i_t_lastError : Int) (i_t_lastOffset : Int) (i_t_error : Int) (i_t_offset : Int) (i_t_nextByte : Int) (i_t_begin : Int) (i_t_value : Int) (i_t_token : Int) (i_t_got : Int) (i_t_orders : Int) (i_t_outputMany : Int) (i_t_w : (Int → Int)) (i_t_output : (Int → Int)) (x1 : Int) (q : Int × Int × (Int → Int) × Int) (hf : fn_Md_writeCluster i_t_w i_t_thrown i_t_output i_t_outputMany x1 = some q) : jk_MI l D jk_cl (jk_ty cI cR) Z mn_Md_writeCluster (.code mn_Md_writeCluster mb_Md_writeCluster 4 (some .int) :: jk_WA) (jk_rm 11 251) [.ref a_t, jk_V x1] (wd_Md_writeCluster cI a_t a_t_w a_t_wKept a_t_saved a_t_past a_t_input a_t_n a_t_order a_t_numbers a_t_output i_t_pastMany i_t_isSaved i_t_thrown i_t_inputMany i_t_lastError i_t_lastOffset i_t_error i_t_offset i_t_nextByte i_t_begin i_t_value i_t_token i_t_got i_t_orders i_t_outputMany i_t_w i_t_output) (wd_Md_writeCluster cI a_t a_t_w a_t_wKept a_t_saved a_t_past a_t_input a_t_n a_t_order a_t_numbers a_t_output i_t_pastMany i_t_isSaved q.2.1 i_t_inputMany i_t_lastError i_t_lastOffset i_t_error i_t_offset i_t_nextByte i_t_begin i_t_value i_t_token i_t_got i_t_orders q.2.2.2 i_t_w q.2.2.1) q.1 := by
  intro sz
  refine jk_body (by decide +kernel) (fun p e s m args below meth c hsz hz hin C => ?_) (Nat.le_of_ble_eq_true rfl)
  subst hsz
  unfold fn_Md_writeCluster at hf
  have bk_51 : ∀ (n : Nat) (t_thrown : Int) (t_output : (Int → Int)) (t_outputMany : Int) (v1 : Int) (v2 : Int) (v3 : Int), fn_Md_writeCluster_b51 n i_t_w t_thrown t_output t_outputMany v1 v2 v3 = some q → jk_J p l e (jk_rm 11 251) s m args below meth c 0 0 (jk_QI below D jk_cl (jk_ty cI cR) (wd_Md_writeCluster cI a_t a_t_w a_t_wKept a_t_saved a_t_past a_t_input a_t_n a_t_order a_t_numbers a_t_output i_t_pastMany i_t_isSaved i_t_thrown i_t_inputMany i_t_lastError i_t_lastOffset i_t_error i_t_offset i_t_nextByte i_t_begin i_t_value i_t_token i_t_got i_t_orders i_t_outputMany i_t_w i_t_output) (wd_Md_writeCluster cI a_t a_t_w a_t_wKept a_t_saved a_t_past a_t_input a_t_n a_t_order a_t_numbers a_t_output i_t_pastMany i_t_isSaved q.2.1 i_t_inputMany i_t_lastError i_t_lastOffset i_t_error i_t_offset i_t_nextByte i_t_begin i_t_value i_t_token i_t_got i_t_orders q.2.2.2 i_t_w q.2.2.1) args s q.1) D jk_cl (va_A (wd_Md_writeCluster cI a_t a_t_w a_t_wKept a_t_saved a_t_past a_t_input a_t_n a_t_order a_t_numbers a_t_output i_t_pastMany i_t_isSaved i_t_thrown i_t_inputMany i_t_lastError i_t_lastOffset i_t_error i_t_offset i_t_nextByte i_t_begin i_t_value i_t_token i_t_got i_t_orders i_t_outputMany i_t_w i_t_output) s.heap.size) 4 (wd_Md_writeCluster cI a_t a_t_w a_t_wKept a_t_saved a_t_past a_t_input a_t_n a_t_order a_t_numbers a_t_output i_t_pastMany i_t_isSaved t_thrown i_t_inputMany i_t_lastError i_t_lastOffset i_t_error i_t_offset i_t_nextByte i_t_begin i_t_value i_t_token i_t_got i_t_orders t_outputMany i_t_w t_output) [(0, .ref a_t), (1, jk_V v1), (2, jk_V v2), (3, jk_V v3)] 51 [] := by
    intro n
    induction n with
    | zero => intro t_thrown t_output t_outputMany v1 v2 v3 hf; exact nomatch (show none = some q from hf)
    | succ n ih =>
      intro t_thrown t_output t_outputMany v1 v2 v3 hf
      rw [fn_Md_writeCluster_b51] at hf
      refine jk_iload_n C rd_Md_writeCluster_51 (k := 3) rfl ?_
      refine jk_aload_n C rd_Md_writeCluster_52 (k := 0) rfl ?_
      refine jk_iload_n C rd_Md_writeCluster_53 (k := 1) rfl ?_
      obtain ⟨q54, hq54, hf⟩ := jk_bind_h hf
      refine jk_callVi C hZ.1 hz (ct_Md_end l D Z sq hZ cI cR a_t a_t_w a_t_wKept a_t_saved a_t_past a_t_input a_t_n a_t_order a_t_numbers a_t_output i_t_pastMany i_t_isSaved t_thrown i_t_inputMany i_t_lastError i_t_lastOffset i_t_error i_t_offset i_t_nextByte i_t_begin i_t_value i_t_token i_t_got i_t_orders t_outputMany i_t_w v1 q54 hq54) tm_1437 tm_1439 sl_45 tm_15 tm_1440 na_Md_end ⟨Nat.le_of_ble_eq_true rfl, Nat.le_of_ble_eq_true rfl⟩ rfl [0, 1] rfl rfl rfl (ws' := wd_Md_writeCluster cI a_t a_t_w a_t_wKept a_t_saved a_t_past a_t_input a_t_n a_t_order a_t_numbers a_t_output i_t_pastMany i_t_isSaved t_thrown i_t_inputMany i_t_lastError i_t_lastOffset i_t_error i_t_offset i_t_nextByte i_t_begin i_t_value i_t_token i_t_got i_t_orders t_outputMany i_t_w t_output) rfl 0 11 rfl rfl rfl (st := [jk_V v3]) rfl (Nat.le_of_ble_eq_true rfl) rd_Md_writeCluster_54 ?_ ⟨Nat.le_of_ble_eq_true rfl, Nat.le_of_ble_eq_true rfl⟩
      refine jk_icmp_ge (tgt := 85) C rd_Md_writeCluster_57 (by decide) hf (fun _ hf => ?_) (fun _ hf => ?_)
      · refine jk_aload_n C rd_Md_writeCluster_85 (k := 0) rfl ?_
        refine jk_get C in_Md (ci := 11) rfl 23 (by decide) tm_1286 0 rfl rfl rd_Md_writeCluster_86 ?_
        cases hf
        exact jk_iret C rfl rd_Md_writeCluster_89 rfl
      · refine jk_iload_n C rd_Md_writeCluster_60 (k := 3) rfl ?_
        refine jk_iload_n C rd_Md_writeCluster_61 (k := 2) rfl ?_
        refine jk_icmp_le (tgt := 71) C rd_Md_writeCluster_62 (by decide) hf (fun _ hf => ?_) (fun _ hf => ?_)
        · refine jk_aload_n C rd_Md_writeCluster_71 (k := 0) rfl ?_
          refine jk_iload_n C rd_Md_writeCluster_72 (k := 3) rfl ?_
          obtain ⟨q73, hq73, hf⟩ := jk_bind_h hf
          refine jk_callVv C hZ.1 hz (ct_Md_writeCord l D Z sq hZ cI cR a_t a_t_w a_t_wKept a_t_saved a_t_past a_t_input a_t_n a_t_order a_t_numbers a_t_output 8 i_t_pastMany i_t_isSaved t_thrown i_t_inputMany i_t_lastError i_t_lastOffset i_t_error i_t_offset i_t_nextByte i_t_begin i_t_value i_t_token i_t_got i_t_orders t_outputMany i_t_w t_output v3 q73 hq73) tm_1879 tm_1881 sl_104 tm_15 tm_1882 na_Md_writeCord ⟨Nat.le_of_ble_eq_true rfl, Nat.le_of_ble_eq_true rfl⟩ rfl [0, 1, 2] rfl rfl rfl (ws' := wd_Md_writeCluster cI a_t a_t_w a_t_wKept a_t_saved a_t_past a_t_input a_t_n a_t_order a_t_numbers a_t_output i_t_pastMany i_t_isSaved t_thrown i_t_inputMany i_t_lastError i_t_lastOffset i_t_error i_t_offset i_t_nextByte i_t_begin i_t_value i_t_token i_t_got i_t_orders q73.2 i_t_w q73.1) rfl 0 11 rfl rfl rfl (st := []) rfl (Nat.le_of_ble_eq_true rfl) rd_Md_writeCluster_73 ?_ ⟨Nat.le_of_ble_eq_true rfl, Nat.le_of_ble_eq_true rfl⟩
          refine jk_aload_n C rd_Md_writeCluster_76 (k := 0) rfl ?_
          refine jk_iload_n C rd_Md_writeCluster_77 (k := 3) rfl ?_
          obtain ⟨q78, hq78, hf⟩ := jk_bind_h hf
          refine jk_callVi C hZ.1 hz (ct_Md_behind l D Z sq hZ cI cR a_t a_t_w a_t_wKept a_t_saved a_t_past a_t_input a_t_n a_t_order a_t_numbers a_t_output i_t_pastMany i_t_isSaved t_thrown i_t_inputMany i_t_lastError i_t_lastOffset i_t_error i_t_offset i_t_nextByte i_t_begin i_t_value i_t_token i_t_got i_t_orders q73.2 i_t_w v3 q78 hq78) tm_1457 tm_1459 sl_50 tm_15 tm_1460 na_Md_behind ⟨Nat.le_of_ble_eq_true rfl, Nat.le_of_ble_eq_true rfl⟩ rfl [0, 1] rfl rfl rfl (ws' := wd_Md_writeCluster cI a_t a_t_w a_t_wKept a_t_saved a_t_past a_t_input a_t_n a_t_order a_t_numbers a_t_output i_t_pastMany i_t_isSaved t_thrown i_t_inputMany i_t_lastError i_t_lastOffset i_t_error i_t_offset i_t_nextByte i_t_begin i_t_value i_t_token i_t_got i_t_orders q73.2 i_t_w q73.1) rfl 0 11 rfl rfl rfl (st := []) rfl (Nat.le_of_ble_eq_true rfl) rd_Md_writeCluster_78 ?_ ⟨Nat.le_of_ble_eq_true rfl, Nat.le_of_ble_eq_true rfl⟩
          refine jk_istore_n C rd_Md_writeCluster_81 (by decide) (lv' := [(3, jk_V q78), (0, .ref a_t), (1, jk_V v1), (2, jk_V v2)]) rfl ?_
          refine jk_goto (tgt := 51) C rd_Md_writeCluster_82 (by decide) ?_
          refine jk_lv (lv' := [(0, .ref a_t), (1, jk_V v1), (2, jk_V v2), (3, jk_V q78)]) [1, 2, 3, 0] rfl ?_
          exact ih t_thrown q73.1 q73.2 v1 v2 q78 hf
        · refine jk_aload_n C rd_Md_writeCluster_65 (k := 0) rfl ?_
          refine jk_bipush C rd_Md_writeCluster_66 (by decide +kernel) ?_
          obtain ⟨q68, hq68, hf⟩ := jk_bind_h hf
          refine jk_callVv C hZ.1 hz (ct_Md_write l D Z sq hZ cI cR a_t a_t_w a_t_wKept a_t_saved a_t_past a_t_input a_t_n a_t_order a_t_numbers a_t_output i_t_pastMany i_t_isSaved t_thrown i_t_inputMany i_t_lastError i_t_lastOffset i_t_error i_t_offset i_t_nextByte i_t_begin i_t_value i_t_token i_t_got i_t_orders t_outputMany t_output 43 q68 hq68) tm_1883 tm_1885 sl_105 tm_15 tm_1886 na_Md_write ⟨Nat.le_of_ble_eq_true rfl, Nat.le_of_ble_eq_true rfl⟩ rfl [0, 2] rfl rfl rfl (ws' := wd_Md_writeCluster cI a_t a_t_w a_t_wKept a_t_saved a_t_past a_t_input a_t_n a_t_order a_t_numbers a_t_output i_t_pastMany i_t_isSaved t_thrown i_t_inputMany i_t_lastError i_t_lastOffset i_t_error i_t_offset i_t_nextByte i_t_begin i_t_value i_t_token i_t_got i_t_orders q68.2 i_t_w q68.1) rfl 0 11 rfl rfl rfl (st := []) rfl (Nat.le_of_ble_eq_true rfl) rd_Md_writeCluster_68 ?_ ⟨Nat.le_of_ble_eq_true rfl, Nat.le_of_ble_eq_true rfl⟩
          refine jk_aload_n C rd_Md_writeCluster_71 (k := 0) rfl ?_
          refine jk_iload_n C rd_Md_writeCluster_72 (k := 3) rfl ?_
          obtain ⟨q73, hq73, hf⟩ := jk_bind_h hf
          refine jk_callVv C hZ.1 hz (ct_Md_writeCord l D Z sq hZ cI cR a_t a_t_w a_t_wKept a_t_saved a_t_past a_t_input a_t_n a_t_order a_t_numbers a_t_output 8 i_t_pastMany i_t_isSaved t_thrown i_t_inputMany i_t_lastError i_t_lastOffset i_t_error i_t_offset i_t_nextByte i_t_begin i_t_value i_t_token i_t_got i_t_orders q68.2 i_t_w q68.1 v3 q73 hq73) tm_1879 tm_1881 sl_104 tm_15 tm_1882 na_Md_writeCord ⟨Nat.le_of_ble_eq_true rfl, Nat.le_of_ble_eq_true rfl⟩ rfl [0, 1, 2] rfl rfl rfl (ws' := wd_Md_writeCluster cI a_t a_t_w a_t_wKept a_t_saved a_t_past a_t_input a_t_n a_t_order a_t_numbers a_t_output i_t_pastMany i_t_isSaved t_thrown i_t_inputMany i_t_lastError i_t_lastOffset i_t_error i_t_offset i_t_nextByte i_t_begin i_t_value i_t_token i_t_got i_t_orders q73.2 i_t_w q73.1) rfl 0 11 rfl rfl rfl (st := []) rfl (Nat.le_of_ble_eq_true rfl) rd_Md_writeCluster_73 ?_ ⟨Nat.le_of_ble_eq_true rfl, Nat.le_of_ble_eq_true rfl⟩
          refine jk_aload_n C rd_Md_writeCluster_76 (k := 0) rfl ?_
          refine jk_iload_n C rd_Md_writeCluster_77 (k := 3) rfl ?_
          obtain ⟨q78, hq78, hf⟩ := jk_bind_h hf
          refine jk_callVi C hZ.1 hz (ct_Md_behind l D Z sq hZ cI cR a_t a_t_w a_t_wKept a_t_saved a_t_past a_t_input a_t_n a_t_order a_t_numbers a_t_output i_t_pastMany i_t_isSaved t_thrown i_t_inputMany i_t_lastError i_t_lastOffset i_t_error i_t_offset i_t_nextByte i_t_begin i_t_value i_t_token i_t_got i_t_orders q73.2 i_t_w v3 q78 hq78) tm_1457 tm_1459 sl_50 tm_15 tm_1460 na_Md_behind ⟨Nat.le_of_ble_eq_true rfl, Nat.le_of_ble_eq_true rfl⟩ rfl [0, 1] rfl rfl rfl (ws' := wd_Md_writeCluster cI a_t a_t_w a_t_wKept a_t_saved a_t_past a_t_input a_t_n a_t_order a_t_numbers a_t_output i_t_pastMany i_t_isSaved t_thrown i_t_inputMany i_t_lastError i_t_lastOffset i_t_error i_t_offset i_t_nextByte i_t_begin i_t_value i_t_token i_t_got i_t_orders q73.2 i_t_w q73.1) rfl 0 11 rfl rfl rfl (st := []) rfl (Nat.le_of_ble_eq_true rfl) rd_Md_writeCluster_78 ?_ ⟨Nat.le_of_ble_eq_true rfl, Nat.le_of_ble_eq_true rfl⟩
          refine jk_istore_n C rd_Md_writeCluster_81 (by decide) (lv' := [(3, jk_V q78), (0, .ref a_t), (1, jk_V v1), (2, jk_V v2)]) rfl ?_
          refine jk_goto (tgt := 51) C rd_Md_writeCluster_82 (by decide) ?_
          refine jk_lv (lv' := [(0, .ref a_t), (1, jk_V v1), (2, jk_V v2), (3, jk_V q78)]) [1, 2, 3, 0] rfl ?_
          exact ih t_thrown q73.1 q73.2 v1 v2 q78 hf
  refine jk_aload_n C rd_Md_writeCluster_0 (k := 0) rfl ?_
  refine jk_iconst C rd_Md_writeCluster_1 ?_
  refine jk_putf C in_Md ty_Md nm_Md (ci := 11) rfl 6 (by decide) tm_1269 rfl rfl rfl 0 rfl (Nat.le_of_ble_eq_true rfl) rd_Md_writeCluster_2 (ws' := wd_Md_writeCluster cI a_t a_t_w a_t_wKept a_t_saved a_t_past a_t_input a_t_n a_t_order a_t_numbers a_t_output i_t_pastMany i_t_isSaved 0 i_t_inputMany i_t_lastError i_t_lastOffset i_t_error i_t_offset i_t_nextByte i_t_begin i_t_value i_t_token i_t_got i_t_orders i_t_outputMany i_t_w i_t_output) rfl ?_
  refine jk_aload_n C rd_Md_writeCluster_5 (k := 0) rfl ?_
  refine jk_iload_n C rd_Md_writeCluster_6 (k := 1) rfl ?_
  obtain ⟨q7, hq7, hf⟩ := jk_bind_h hf
  refine jk_callVi C hZ.1 hz (ct_Md_noCluster l D Z sq hZ cI cR a_t a_t_w a_t_wKept a_t_saved a_t_past a_t_input a_t_n a_t_order a_t_numbers a_t_output i_t_pastMany i_t_isSaved 0 i_t_inputMany i_t_lastError i_t_lastOffset i_t_error i_t_offset i_t_nextByte i_t_begin i_t_value i_t_token i_t_got i_t_orders i_t_outputMany i_t_w x1 q7 hq7) tm_1699 tm_1701 sl_92 tm_15 tm_1702 na_Md_noCluster ⟨Nat.le_of_ble_eq_true rfl, Nat.le_of_ble_eq_true rfl⟩ rfl [0, 1] rfl rfl rfl (ws' := wd_Md_writeCluster cI a_t a_t_w a_t_wKept a_t_saved a_t_past a_t_input a_t_n a_t_order a_t_numbers a_t_output i_t_pastMany i_t_isSaved q7.2 i_t_inputMany i_t_lastError i_t_lastOffset i_t_error i_t_offset i_t_nextByte i_t_begin i_t_value i_t_token i_t_got i_t_orders i_t_outputMany i_t_w i_t_output) rfl 0 11 rfl rfl rfl (st := []) rfl (Nat.le_of_ble_eq_true rfl) rd_Md_writeCluster_7 ?_ ⟨Nat.le_of_ble_eq_true rfl, Nat.le_of_ble_eq_true rfl⟩
  refine jk_if_eq (tgt := 15) C rd_Md_writeCluster_10 (by decide) hf (fun _ hf => ?_) (fun _ hf => ?_)
  · refine jk_aload_n C rd_Md_writeCluster_15 (k := 0) rfl ?_
    refine jk_iconst C rd_Md_writeCluster_16 ?_
    refine jk_putf C in_Md ty_Md nm_Md (ci := 11) rfl 23 (by decide) tm_1286 rfl rfl rfl 0 rfl (Nat.le_of_ble_eq_true rfl) rd_Md_writeCluster_17 (ws' := wd_Md_writeCluster cI a_t a_t_w a_t_wKept a_t_saved a_t_past a_t_input a_t_n a_t_order a_t_numbers a_t_output i_t_pastMany i_t_isSaved q7.2 i_t_inputMany i_t_lastError i_t_lastOffset i_t_error i_t_offset i_t_nextByte i_t_begin i_t_value i_t_token i_t_got i_t_orders 0 i_t_w i_t_output) rfl ?_
    refine jk_aload_n C rd_Md_writeCluster_20 (k := 0) rfl ?_
    refine jk_iload_n C rd_Md_writeCluster_21 (k := 1) rfl ?_
    obtain ⟨q22, hq22, hf⟩ := jk_bind_h hf
    refine jk_callVi C hZ.1 hz (ct_Md_hasTop l D Z sq hZ cI cR a_t a_t_w a_t_wKept a_t_saved a_t_past a_t_input a_t_n a_t_order a_t_numbers a_t_output i_t_pastMany i_t_isSaved q7.2 i_t_inputMany i_t_lastError i_t_lastOffset i_t_error i_t_offset i_t_nextByte i_t_begin i_t_value i_t_token i_t_got i_t_orders 0 i_t_w x1 q22 hq22) tm_1429 tm_1431 sl_43 tm_15 tm_1432 na_Md_hasTop ⟨Nat.le_of_ble_eq_true rfl, Nat.le_of_ble_eq_true rfl⟩ rfl [0, 1] rfl rfl rfl (ws' := wd_Md_writeCluster cI a_t a_t_w a_t_wKept a_t_saved a_t_past a_t_input a_t_n a_t_order a_t_numbers a_t_output i_t_pastMany i_t_isSaved q7.2 i_t_inputMany i_t_lastError i_t_lastOffset i_t_error i_t_offset i_t_nextByte i_t_begin i_t_value i_t_token i_t_got i_t_orders 0 i_t_w i_t_output) rfl 0 11 rfl rfl rfl (st := []) rfl (Nat.le_of_ble_eq_true rfl) rd_Md_writeCluster_22 ?_ ⟨Nat.le_of_ble_eq_true rfl, Nat.le_of_ble_eq_true rfl⟩
    refine jk_if_eq (tgt := 43) C rd_Md_writeCluster_25 (by decide) hf (fun _ hf => ?_) (fun _ hf => ?_)
    · refine jk_aload_n C rd_Md_writeCluster_43 (k := 0) rfl ?_
      refine jk_iload_n C rd_Md_writeCluster_44 (k := 1) rfl ?_
      obtain ⟨q45, hq45, hf⟩ := jk_bind_h hf
      refine jk_callVi C hZ.1 hz (ct_Md_pendantsFrom l D Z sq hZ cI cR a_t a_t_w a_t_wKept a_t_saved a_t_past a_t_input a_t_n a_t_order a_t_numbers a_t_output i_t_pastMany i_t_isSaved q7.2 i_t_inputMany i_t_lastError i_t_lastOffset i_t_error i_t_offset i_t_nextByte i_t_begin i_t_value i_t_token i_t_got i_t_orders 0 i_t_w x1 q45 hq45) tm_1575 tm_1577 sl_76 tm_15 tm_1578 na_Md_pendantsFrom ⟨Nat.le_of_ble_eq_true rfl, Nat.le_of_ble_eq_true rfl⟩ rfl [0, 1] rfl rfl rfl (ws' := wd_Md_writeCluster cI a_t a_t_w a_t_wKept a_t_saved a_t_past a_t_input a_t_n a_t_order a_t_numbers a_t_output i_t_pastMany i_t_isSaved q7.2 i_t_inputMany i_t_lastError i_t_lastOffset i_t_error i_t_offset i_t_nextByte i_t_begin i_t_value i_t_token i_t_got i_t_orders 0 i_t_w i_t_output) rfl 0 11 rfl rfl rfl (st := []) rfl (Nat.le_of_ble_eq_true rfl) rd_Md_writeCluster_45 ?_ ⟨Nat.le_of_ble_eq_true rfl, Nat.le_of_ble_eq_true rfl⟩
      refine jk_istore_n C rd_Md_writeCluster_48 (by decide) (lv' := [(2, jk_V q45), (0, .ref a_t), (1, jk_V x1)]) rfl ?_
      refine jk_iload_n C rd_Md_writeCluster_49 (k := 0) rfl ?_
      refine jk_istore_n C rd_Md_writeCluster_50 (by decide) (lv' := [(3, jk_V q45), (2, jk_V q45), (0, .ref a_t), (1, jk_V x1)]) rfl ?_
      refine jk_lv (lv' := [(0, .ref a_t), (1, jk_V x1), (2, jk_V q45), (3, jk_V q45)]) [2, 3, 1, 0] rfl ?_
      exact bk_51 jk_F q7.2 i_t_output 0 x1 q45 q45 hf
    · refine jk_aload_n C rd_Md_writeCluster_28 (k := 0) rfl ?_
      refine jk_aload_n C rd_Md_writeCluster_29 (k := 0) rfl ?_
      refine jk_iload_n C rd_Md_writeCluster_30 (k := 1) rfl ?_
      obtain ⟨q31, hq31, hf⟩ := jk_bind_h hf
      refine jk_callVi C hZ.1 hz (ct_Md_first l D Z sq hZ cI cR a_t a_t_w a_t_wKept a_t_saved a_t_past a_t_input a_t_n a_t_order a_t_numbers a_t_output i_t_pastMany i_t_isSaved q7.2 i_t_inputMany i_t_lastError i_t_lastOffset i_t_error i_t_offset i_t_nextByte i_t_begin i_t_value i_t_token i_t_got i_t_orders 0 i_t_w x1 q31 hq31) tm_1433 tm_1435 sl_44 tm_15 tm_1436 na_Md_first ⟨Nat.le_of_ble_eq_true rfl, Nat.le_of_ble_eq_true rfl⟩ rfl [0, 1] rfl rfl rfl (ws' := wd_Md_writeCluster cI a_t a_t_w a_t_wKept a_t_saved a_t_past a_t_input a_t_n a_t_order a_t_numbers a_t_output i_t_pastMany i_t_isSaved q7.2 i_t_inputMany i_t_lastError i_t_lastOffset i_t_error i_t_offset i_t_nextByte i_t_begin i_t_value i_t_token i_t_got i_t_orders 0 i_t_w i_t_output) rfl 0 11 rfl rfl rfl (st := [.ref a_t]) rfl (Nat.le_of_ble_eq_true rfl) rd_Md_writeCluster_31 ?_ ⟨Nat.le_of_ble_eq_true rfl, Nat.le_of_ble_eq_true rfl⟩
      obtain ⟨q34, hq34, hf⟩ := jk_bind_h hf
      refine jk_callVv C hZ.1 hz (ct_Md_writeCord l D Z sq hZ cI cR a_t a_t_w a_t_wKept a_t_saved a_t_past a_t_input a_t_n a_t_order a_t_numbers a_t_output 8 i_t_pastMany i_t_isSaved q7.2 i_t_inputMany i_t_lastError i_t_lastOffset i_t_error i_t_offset i_t_nextByte i_t_begin i_t_value i_t_token i_t_got i_t_orders 0 i_t_w i_t_output q31 q34 hq34) tm_1879 tm_1881 sl_104 tm_15 tm_1882 na_Md_writeCord ⟨Nat.le_of_ble_eq_true rfl, Nat.le_of_ble_eq_true rfl⟩ rfl [0, 1, 2] rfl rfl rfl (ws' := wd_Md_writeCluster cI a_t a_t_w a_t_wKept a_t_saved a_t_past a_t_input a_t_n a_t_order a_t_numbers a_t_output i_t_pastMany i_t_isSaved q7.2 i_t_inputMany i_t_lastError i_t_lastOffset i_t_error i_t_offset i_t_nextByte i_t_begin i_t_value i_t_token i_t_got i_t_orders q34.2 i_t_w q34.1) rfl 0 11 rfl rfl rfl (st := []) rfl (Nat.le_of_ble_eq_true rfl) rd_Md_writeCluster_34 ?_ ⟨Nat.le_of_ble_eq_true rfl, Nat.le_of_ble_eq_true rfl⟩
      refine jk_aload_n C rd_Md_writeCluster_37 (k := 0) rfl ?_
      refine jk_bipush C rd_Md_writeCluster_38 (by decide +kernel) ?_
      obtain ⟨q40, hq40, hf⟩ := jk_bind_h hf
      refine jk_callVv C hZ.1 hz (ct_Md_write l D Z sq hZ cI cR a_t a_t_w a_t_wKept a_t_saved a_t_past a_t_input a_t_n a_t_order a_t_numbers a_t_output i_t_pastMany i_t_isSaved q7.2 i_t_inputMany i_t_lastError i_t_lastOffset i_t_error i_t_offset i_t_nextByte i_t_begin i_t_value i_t_token i_t_got i_t_orders q34.2 q34.1 61 q40 hq40) tm_1883 tm_1885 sl_105 tm_15 tm_1886 na_Md_write ⟨Nat.le_of_ble_eq_true rfl, Nat.le_of_ble_eq_true rfl⟩ rfl [0, 2] rfl rfl rfl (ws' := wd_Md_writeCluster cI a_t a_t_w a_t_wKept a_t_saved a_t_past a_t_input a_t_n a_t_order a_t_numbers a_t_output i_t_pastMany i_t_isSaved q7.2 i_t_inputMany i_t_lastError i_t_lastOffset i_t_error i_t_offset i_t_nextByte i_t_begin i_t_value i_t_token i_t_got i_t_orders q40.2 i_t_w q40.1) rfl 0 11 rfl rfl rfl (st := []) rfl (Nat.le_of_ble_eq_true rfl) rd_Md_writeCluster_40 ?_ ⟨Nat.le_of_ble_eq_true rfl, Nat.le_of_ble_eq_true rfl⟩
      refine jk_aload_n C rd_Md_writeCluster_43 (k := 0) rfl ?_
      refine jk_iload_n C rd_Md_writeCluster_44 (k := 1) rfl ?_
      obtain ⟨q45, hq45, hf⟩ := jk_bind_h hf
      refine jk_callVi C hZ.1 hz (ct_Md_pendantsFrom l D Z sq hZ cI cR a_t a_t_w a_t_wKept a_t_saved a_t_past a_t_input a_t_n a_t_order a_t_numbers a_t_output i_t_pastMany i_t_isSaved q7.2 i_t_inputMany i_t_lastError i_t_lastOffset i_t_error i_t_offset i_t_nextByte i_t_begin i_t_value i_t_token i_t_got i_t_orders q40.2 i_t_w x1 q45 hq45) tm_1575 tm_1577 sl_76 tm_15 tm_1578 na_Md_pendantsFrom ⟨Nat.le_of_ble_eq_true rfl, Nat.le_of_ble_eq_true rfl⟩ rfl [0, 1] rfl rfl rfl (ws' := wd_Md_writeCluster cI a_t a_t_w a_t_wKept a_t_saved a_t_past a_t_input a_t_n a_t_order a_t_numbers a_t_output i_t_pastMany i_t_isSaved q7.2 i_t_inputMany i_t_lastError i_t_lastOffset i_t_error i_t_offset i_t_nextByte i_t_begin i_t_value i_t_token i_t_got i_t_orders q40.2 i_t_w q40.1) rfl 0 11 rfl rfl rfl (st := []) rfl (Nat.le_of_ble_eq_true rfl) rd_Md_writeCluster_45 ?_ ⟨Nat.le_of_ble_eq_true rfl, Nat.le_of_ble_eq_true rfl⟩
      refine jk_istore_n C rd_Md_writeCluster_48 (by decide) (lv' := [(2, jk_V q45), (0, .ref a_t), (1, jk_V x1)]) rfl ?_
      refine jk_iload_n C rd_Md_writeCluster_49 (k := 0) rfl ?_
      refine jk_istore_n C rd_Md_writeCluster_50 (by decide) (lv' := [(3, jk_V q45), (2, jk_V q45), (0, .ref a_t), (1, jk_V x1)]) rfl ?_
      refine jk_lv (lv' := [(0, .ref a_t), (1, jk_V x1), (2, jk_V q45), (3, jk_V q45)]) [2, 3, 1, 0] rfl ?_
      exact bk_51 jk_F q7.2 q40.1 q40.2 x1 q45 q45 hf
  · refine jk_iconst C rd_Md_writeCluster_13 ?_
    cases hf
    exact jk_iret C rfl rd_Md_writeCluster_14 rfl
def wd_Md_outputByte (cI : ClassId) (a_t a_t_w a_t_wKept a_t_saved a_t_past a_t_input a_t_n a_t_order a_t_numbers a_t_output : Nat) (i_t_pastMany : Int) (i_t_isSaved : Int) (i_t_thrown : Int) (i_t_inputMany : Int) (i_t_lastError : Int) (i_t_lastOffset : Int) (i_t_error : Int) (i_t_offset : Int) (i_t_nextByte : Int) (i_t_begin : Int) (i_t_value : Int) (i_t_token : Int) (i_t_got : Int) (i_t_orders : Int) (i_t_outputMany : Int) (i_t_output : (Int → Int)) : va_W := [(a_t, .inr (11, [.ref a_t_w, .ref a_t_wKept, .ref a_t_saved, .ref a_t_past, jk_V i_t_pastMany, jk_V i_t_isSaved, jk_V i_t_thrown, .ref a_t_input, jk_V i_t_inputMany, jk_V i_t_lastError, jk_V i_t_lastOffset, jk_V i_t_error, jk_V i_t_offset, jk_V i_t_nextByte, jk_V i_t_begin, jk_V i_t_value, jk_V i_t_token, jk_V i_t_got, .ref a_t_n, .ref a_t_order, .ref a_t_numbers, jk_V i_t_orders, .ref a_t_output, jk_V i_t_outputMany])), (a_t_output, jk_W cI 500 i_t_output)]
set_option maxHeartbeats 4000000 in
set_option maxRecDepth 20000 in
theorem ct_Md_outputByte (l : Launch) (D : va_G) (Z : (Nat → Prop) → State → Heap → Prop) (sq : Nat → Nat) (hZ : jk_ZK Z sq) (cI cR : ClassId) (a_t a_t_w a_t_wKept a_t_saved a_t_past a_t_input a_t_n a_t_order a_t_numbers a_t_output : Nat) (i_t_pastMany : Int) (i_t_isSaved : Int) (i_t_thrown : Int) (i_t_inputMany : Int) (i_t_lastError : Int) (i_t_lastOffset : Int) (i_t_error : Int) (i_t_offset : Int) (i_t_nextByte : Int) (i_t_begin : Int) (i_t_value : Int) (i_t_token : Int) (i_t_got : Int) (i_t_orders : Int) (i_t_outputMany : Int) (i_t_output : (Int → Int)) (x1 : Int) (q : Int × Int) (hf : fn_Md_outputByte i_t_thrown i_t_output i_t_outputMany x1 = some q) : jk_MI l D jk_cl (jk_ty cI cR) Z mn_Md_outputByte (.code mn_Md_outputByte mb_Md_outputByte 2 (some .int) :: jk_WA) (jk_rm 1 22) [.ref a_t, jk_V x1] (wd_Md_outputByte cI a_t a_t_w a_t_wKept a_t_saved a_t_past a_t_input a_t_n a_t_order a_t_numbers a_t_output i_t_pastMany i_t_isSaved i_t_thrown i_t_inputMany i_t_lastError i_t_lastOffset i_t_error i_t_offset i_t_nextByte i_t_begin i_t_value i_t_token i_t_got i_t_orders i_t_outputMany i_t_output) (wd_Md_outputByte cI a_t a_t_w a_t_wKept a_t_saved a_t_past a_t_input a_t_n a_t_order a_t_numbers a_t_output i_t_pastMany i_t_isSaved q.2 i_t_inputMany i_t_lastError i_t_lastOffset i_t_error i_t_offset i_t_nextByte i_t_begin i_t_value i_t_token i_t_got i_t_orders i_t_outputMany i_t_output) q.1 := by
  intro sz
  refine jk_body (by decide +kernel) (fun p e s m args below meth c hsz hz hin C => ?_) (Nat.le_of_ble_eq_true rfl)
  subst hsz
  unfold fn_Md_outputByte at hf
  refine jk_aload_n C rd_Md_outputByte_0 (k := 0) rfl ?_
  refine jk_iconst C rd_Md_outputByte_1 ?_
  refine jk_putf C in_Md ty_Md nm_Md (ci := 11) rfl 6 (by decide) tm_1269 rfl rfl rfl 0 rfl (Nat.le_of_ble_eq_true rfl) rd_Md_outputByte_2 (ws' := wd_Md_outputByte cI a_t a_t_w a_t_wKept a_t_saved a_t_past a_t_input a_t_n a_t_order a_t_numbers a_t_output i_t_pastMany i_t_isSaved 0 i_t_inputMany i_t_lastError i_t_lastOffset i_t_error i_t_offset i_t_nextByte i_t_begin i_t_value i_t_token i_t_got i_t_orders i_t_outputMany i_t_output) rfl ?_
  refine jk_iload_n C rd_Md_outputByte_5 (k := 1) rfl ?_
  refine jk_iconst C rd_Md_outputByte_6 ?_
  refine jk_aload_n C rd_Md_outputByte_7 (k := 0) rfl ?_
  refine jk_get C in_Md (ci := 11) rfl 23 (by decide) tm_1286 0 rfl rfl rd_Md_outputByte_8 ?_
  refine jk_iconst C rd_Md_outputByte_11 ?_
  refine jk_isub C rd_Md_outputByte_12 ?_
  obtain ⟨q13, hq13, hf⟩ := jk_bind_h hf
  refine jk_callSi C hZ.1 hz (ct_Md_inRange l D Z sq hZ cI cR x1 0 (i_t_outputMany - 1) q13 hq13) tm_1352 tm_1353 tm_15 tm_1354 na_Md_inRange ⟨Nat.le_of_ble_eq_true rfl, Nat.le_of_ble_eq_true rfl⟩ rfl [] rfl rfl rfl (ws' := wd_Md_outputByte cI a_t a_t_w a_t_wKept a_t_saved a_t_past a_t_input a_t_n a_t_order a_t_numbers a_t_output i_t_pastMany i_t_isSaved 0 i_t_inputMany i_t_lastError i_t_lastOffset i_t_error i_t_offset i_t_nextByte i_t_begin i_t_value i_t_token i_t_got i_t_orders i_t_outputMany i_t_output) rfl (st := []) rfl (Nat.le_of_ble_eq_true rfl) rd_Md_outputByte_13 ?_ ⟨Nat.le_of_ble_eq_true rfl, Nat.le_of_ble_eq_true rfl⟩
  refine jk_if_eq (tgt := 28) C rd_Md_outputByte_16 (by decide) hf (fun _ hf => ?_) (fun _ hf => ?_)
  · refine jk_iconst C rd_Md_outputByte_28 ?_
    cases hf
    exact jk_iret C rfl rd_Md_outputByte_29 rfl
  · refine jk_aload_n C rd_Md_outputByte_19 (k := 0) rfl ?_
    refine jk_get C in_Md (ci := 11) rfl 22 (by decide) tm_1285 0 rfl rfl rd_Md_outputByte_20 ?_
    refine jk_iload_n C rd_Md_outputByte_23 (k := 1) rfl ?_
    refine jk_iald C 1 0 rfl rfl (Nat.le_of_ble_eq_true rfl) rd_Md_outputByte_24 hf (fun hf => ?_)
    refine jk_goto (tgt := 29) C rd_Md_outputByte_25 (by decide) ?_
    cases hf
    exact jk_iret C rfl rd_Md_outputByte_29 rfl
def wd_Md_saveState (cI : ClassId) (a_t a_t_w a_t_wKept a_t_saved a_t_past a_t_input a_t_n a_t_order a_t_numbers a_t_output : Nat) (i_t_pastMany : Int) (i_t_isSaved : Int) (i_t_thrown : Int) (i_t_inputMany : Int) (i_t_lastError : Int) (i_t_lastOffset : Int) (i_t_error : Int) (i_t_offset : Int) (i_t_nextByte : Int) (i_t_begin : Int) (i_t_value : Int) (i_t_token : Int) (i_t_got : Int) (i_t_orders : Int) (i_t_outputMany : Int) (i_t_w : (Int → Int)) (i_t_saved : (Int → Int)) : va_W := [(a_t, .inr (11, [.ref a_t_w, .ref a_t_wKept, .ref a_t_saved, .ref a_t_past, jk_V i_t_pastMany, jk_V i_t_isSaved, jk_V i_t_thrown, .ref a_t_input, jk_V i_t_inputMany, jk_V i_t_lastError, jk_V i_t_lastOffset, jk_V i_t_error, jk_V i_t_offset, jk_V i_t_nextByte, jk_V i_t_begin, jk_V i_t_value, jk_V i_t_token, jk_V i_t_got, .ref a_t_n, .ref a_t_order, .ref a_t_numbers, jk_V i_t_orders, .ref a_t_output, jk_V i_t_outputMany])), (a_t_w, jk_W cI 259 i_t_w), (a_t_saved, jk_W cI 259 i_t_saved)]
set_option maxHeartbeats 4000000 in
set_option maxRecDepth 20000 in
theorem ct_Md_saveState (l : Launch) (D : va_G) (Z : (Nat → Prop) → State → Heap → Prop) (sq : Nat → Nat) (hZ : jk_ZK Z sq) (cI cR : ClassId) (a_t a_t_w a_t_wKept a_t_saved a_t_past a_t_input a_t_n a_t_order a_t_numbers a_t_output : Nat) (i_t_pastMany : Int) (i_t_isSaved : Int) (i_t_thrown : Int) (i_t_inputMany : Int) (i_t_lastError : Int) (i_t_lastOffset : Int) (i_t_error : Int) (i_t_offset : Int) (i_t_nextByte : Int) (i_t_begin : Int) (i_t_value : Int) (i_t_token : Int) (i_t_got : Int) (i_t_orders : Int) (i_t_outputMany : Int) (i_t_w : (Int → Int)) (i_t_saved : (Int → Int)) (q : Int × (Int → Int) × Int × Int) (hf : fn_Md_saveState i_t_w i_t_saved i_t_isSaved i_t_thrown = some q) : jk_MI l D jk_cl (jk_ty cI cR) Z mn_Md_saveState (.code mn_Md_saveState mb_Md_saveState 1 (some .int) :: jk_WA) (jk_rm 1 24) [.ref a_t] (wd_Md_saveState cI a_t a_t_w a_t_wKept a_t_saved a_t_past a_t_input a_t_n a_t_order a_t_numbers a_t_output i_t_pastMany i_t_isSaved i_t_thrown i_t_inputMany i_t_lastError i_t_lastOffset i_t_error i_t_offset i_t_nextByte i_t_begin i_t_value i_t_token i_t_got i_t_orders i_t_outputMany i_t_w i_t_saved) (wd_Md_saveState cI a_t a_t_w a_t_wKept a_t_saved a_t_past a_t_input a_t_n a_t_order a_t_numbers a_t_output i_t_pastMany q.2.2.1 q.2.2.2 i_t_inputMany i_t_lastError i_t_lastOffset i_t_error i_t_offset i_t_nextByte i_t_begin i_t_value i_t_token i_t_got i_t_orders i_t_outputMany i_t_w q.2.1) q.1 := by
  intro sz
  refine jk_body (by decide +kernel) (fun p e s m args below meth c hsz hz hin C => ?_) (Nat.le_of_ble_eq_true rfl)
  subst hsz
  unfold fn_Md_saveState at hf
  refine jk_aload_n C rd_Md_saveState_0 (k := 0) rfl ?_
  refine jk_iconst C rd_Md_saveState_1 ?_
  refine jk_putf C in_Md ty_Md nm_Md (ci := 11) rfl 6 (by decide) tm_1269 rfl rfl rfl 0 rfl (Nat.le_of_ble_eq_true rfl) rd_Md_saveState_2 (ws' := wd_Md_saveState cI a_t a_t_w a_t_wKept a_t_saved a_t_past a_t_input a_t_n a_t_order a_t_numbers a_t_output i_t_pastMany i_t_isSaved 0 i_t_inputMany i_t_lastError i_t_lastOffset i_t_error i_t_offset i_t_nextByte i_t_begin i_t_value i_t_token i_t_got i_t_orders i_t_outputMany i_t_w i_t_saved) rfl ?_
  refine jk_aload_n C rd_Md_saveState_5 (k := 0) rfl ?_
  refine jk_get C in_Md (ci := 11) rfl 0 (by decide) tm_1263 0 rfl rfl rd_Md_saveState_6 ?_
  refine jk_iconst C rd_Md_saveState_9 ?_
  refine jk_aload_n C rd_Md_saveState_10 (k := 0) rfl ?_
  refine jk_get C in_Md (ci := 11) rfl 2 (by decide) tm_1265 0 rfl rfl rd_Md_saveState_11 ?_
  refine jk_iconst C rd_Md_saveState_14 ?_
  obtain ⟨q15, hq15, hf⟩ := jk_bind_h hf
  refine jk_callSv C hZ.1 hz (ct_Md_copies l D Z sq hZ cI cR (n_a := 259) (n_b := 259) (Nat.le_of_ble_eq_true rfl) (Nat.le_of_ble_eq_true rfl) a_t_w a_t_saved i_t_w i_t_saved 0 0 q15 hq15) tm_1359 tm_1360 tm_15 tm_1361 na_Md_copies ⟨Nat.le_of_ble_eq_true rfl, Nat.le_of_ble_eq_true rfl⟩ rfl [1, 2] rfl rfl rfl (ws' := wd_Md_saveState cI a_t a_t_w a_t_wKept a_t_saved a_t_past a_t_input a_t_n a_t_order a_t_numbers a_t_output i_t_pastMany i_t_isSaved 0 i_t_inputMany i_t_lastError i_t_lastOffset i_t_error i_t_offset i_t_nextByte i_t_begin i_t_value i_t_token i_t_got i_t_orders i_t_outputMany i_t_w q15) rfl (st := []) rfl (Nat.le_of_ble_eq_true rfl) rd_Md_saveState_15 ?_ ⟨Nat.le_of_ble_eq_true rfl, Nat.le_of_ble_eq_true rfl⟩
  refine jk_aload_n C rd_Md_saveState_18 (k := 0) rfl ?_
  refine jk_iconst C rd_Md_saveState_19 ?_
  refine jk_putf C in_Md ty_Md nm_Md (ci := 11) rfl 5 (by decide) tm_1268 rfl (jk_narrow_bool (Or.inr rfl)) (by decide +kernel) 0 rfl (Nat.le_of_ble_eq_true rfl) rd_Md_saveState_20 (ws' := wd_Md_saveState cI a_t a_t_w a_t_wKept a_t_saved a_t_past a_t_input a_t_n a_t_order a_t_numbers a_t_output i_t_pastMany 1 0 i_t_inputMany i_t_lastError i_t_lastOffset i_t_error i_t_offset i_t_nextByte i_t_begin i_t_value i_t_token i_t_got i_t_orders i_t_outputMany i_t_w q15) rfl ?_
  refine jk_aload_n C rd_Md_saveState_23 (k := 0) rfl ?_
  refine jk_get C in_Md (ci := 11) rfl 0 (by decide) tm_1263 0 rfl rfl rd_Md_saveState_24 ?_
  refine jk_iconst C rd_Md_saveState_27 ?_
  refine jk_iald C 1 0 rfl rfl (Nat.le_of_ble_eq_true rfl) rd_Md_saveState_28 hf (fun hf => ?_)
  cases hf
  exact jk_iret C rfl rd_Md_saveState_29 rfl
def wd_Md_restoreState (cI : ClassId) (a_t a_t_w a_t_wKept a_t_saved a_t_past a_t_input a_t_n a_t_order a_t_numbers a_t_output : Nat) (i_t_pastMany : Int) (i_t_isSaved : Int) (i_t_thrown : Int) (i_t_inputMany : Int) (i_t_lastError : Int) (i_t_lastOffset : Int) (i_t_error : Int) (i_t_offset : Int) (i_t_nextByte : Int) (i_t_begin : Int) (i_t_value : Int) (i_t_token : Int) (i_t_got : Int) (i_t_orders : Int) (i_t_outputMany : Int) (i_t_w : (Int → Int)) (i_t_saved : (Int → Int)) : va_W := [(a_t, .inr (11, [.ref a_t_w, .ref a_t_wKept, .ref a_t_saved, .ref a_t_past, jk_V i_t_pastMany, jk_V i_t_isSaved, jk_V i_t_thrown, .ref a_t_input, jk_V i_t_inputMany, jk_V i_t_lastError, jk_V i_t_lastOffset, jk_V i_t_error, jk_V i_t_offset, jk_V i_t_nextByte, jk_V i_t_begin, jk_V i_t_value, jk_V i_t_token, jk_V i_t_got, .ref a_t_n, .ref a_t_order, .ref a_t_numbers, jk_V i_t_orders, .ref a_t_output, jk_V i_t_outputMany])), (a_t_w, jk_W cI 259 i_t_w), (a_t_saved, jk_W cI 259 i_t_saved)]
set_option maxHeartbeats 4000000 in
set_option maxRecDepth 20000 in
theorem ct_Md_restoreState (l : Launch) (D : va_G) (Z : (Nat → Prop) → State → Heap → Prop) (sq : Nat → Nat) (hZ : jk_ZK Z sq) (cI cR : ClassId) (a_t a_t_w a_t_wKept a_t_saved a_t_past a_t_input a_t_n a_t_order a_t_numbers a_t_output : Nat) (i_t_pastMany : Int) (i_t_isSaved : Int) (i_t_thrown : Int) (i_t_inputMany : Int) (i_t_lastError : Int) (i_t_lastOffset : Int) (i_t_error : Int) (i_t_offset : Int) (i_t_nextByte : Int) (i_t_begin : Int) (i_t_value : Int) (i_t_token : Int) (i_t_got : Int) (i_t_orders : Int) (i_t_outputMany : Int) (i_t_w : (Int → Int)) (i_t_saved : (Int → Int)) (q : Int × (Int → Int) × Int × Int) (hf : fn_Md_restoreState i_t_w i_t_saved i_t_pastMany i_t_isSaved i_t_thrown = some q) : jk_MI l D jk_cl (jk_ty cI cR) Z mn_Md_restoreState (.code mn_Md_restoreState mb_Md_restoreState 1 (some .int) :: jk_WA) (jk_rm 1 24) [.ref a_t] (wd_Md_restoreState cI a_t a_t_w a_t_wKept a_t_saved a_t_past a_t_input a_t_n a_t_order a_t_numbers a_t_output i_t_pastMany i_t_isSaved i_t_thrown i_t_inputMany i_t_lastError i_t_lastOffset i_t_error i_t_offset i_t_nextByte i_t_begin i_t_value i_t_token i_t_got i_t_orders i_t_outputMany i_t_w i_t_saved) (wd_Md_restoreState cI a_t a_t_w a_t_wKept a_t_saved a_t_past a_t_input a_t_n a_t_order a_t_numbers a_t_output q.2.2.1 i_t_isSaved q.2.2.2 i_t_inputMany i_t_lastError i_t_lastOffset i_t_error i_t_offset i_t_nextByte i_t_begin i_t_value i_t_token i_t_got i_t_orders i_t_outputMany q.2.1 i_t_saved) q.1 := by
  intro sz
  refine jk_body (by decide +kernel) (fun p e s m args below meth c hsz hz hin C => ?_) (Nat.le_of_ble_eq_true rfl)
  subst hsz
  unfold fn_Md_restoreState at hf
  have bk_18 : ∀ (t_w : (Int → Int)) (t_pastMany : Int) (t_thrown : Int) (s0 : Int), fn_Md_restoreState_b18 t_w i_t_saved t_pastMany t_thrown s0 = some q → jk_J p l e (jk_rm 1 24) s m args below meth c 0 0 (jk_QI below D jk_cl (jk_ty cI cR) (wd_Md_restoreState cI a_t a_t_w a_t_wKept a_t_saved a_t_past a_t_input a_t_n a_t_order a_t_numbers a_t_output i_t_pastMany i_t_isSaved i_t_thrown i_t_inputMany i_t_lastError i_t_lastOffset i_t_error i_t_offset i_t_nextByte i_t_begin i_t_value i_t_token i_t_got i_t_orders i_t_outputMany i_t_w i_t_saved) (wd_Md_restoreState cI a_t a_t_w a_t_wKept a_t_saved a_t_past a_t_input a_t_n a_t_order a_t_numbers a_t_output q.2.2.1 i_t_isSaved q.2.2.2 i_t_inputMany i_t_lastError i_t_lastOffset i_t_error i_t_offset i_t_nextByte i_t_begin i_t_value i_t_token i_t_got i_t_orders i_t_outputMany q.2.1 i_t_saved) args s q.1) D jk_cl (va_A (wd_Md_restoreState cI a_t a_t_w a_t_wKept a_t_saved a_t_past a_t_input a_t_n a_t_order a_t_numbers a_t_output i_t_pastMany i_t_isSaved i_t_thrown i_t_inputMany i_t_lastError i_t_lastOffset i_t_error i_t_offset i_t_nextByte i_t_begin i_t_value i_t_token i_t_got i_t_orders i_t_outputMany i_t_w i_t_saved) s.heap.size) 1 (wd_Md_restoreState cI a_t a_t_w a_t_wKept a_t_saved a_t_past a_t_input a_t_n a_t_order a_t_numbers a_t_output t_pastMany i_t_isSaved t_thrown i_t_inputMany i_t_lastError i_t_lastOffset i_t_error i_t_offset i_t_nextByte i_t_begin i_t_value i_t_token i_t_got i_t_orders i_t_outputMany t_w i_t_saved) [(0, .ref a_t)] 18 [jk_V s0, .ref a_t] := by
    intro t_w t_pastMany t_thrown s0 hf
    unfold fn_Md_restoreState_b18 at hf
    refine jk_iconst C rd_Md_restoreState_18 ?_
    obtain ⟨q19, hq19, hf⟩ := jk_bind_h hf
    refine jk_callVi C hZ.1 hz (ct_Md_fails l D Z sq hZ cI cR a_t a_t_w a_t_wKept a_t_saved a_t_past a_t_input a_t_n a_t_order a_t_numbers a_t_output t_pastMany i_t_isSaved t_thrown i_t_inputMany i_t_lastError i_t_lastOffset i_t_error i_t_offset i_t_nextByte i_t_begin i_t_value i_t_token i_t_got i_t_orders i_t_outputMany s0 1 q19 hq19) tm_1643 tm_1645 sl_87 tm_15 tm_1646 na_Md_fails ⟨Nat.le_of_ble_eq_true rfl, Nat.le_of_ble_eq_true rfl⟩ rfl [0] rfl rfl rfl (ws' := wd_Md_restoreState cI a_t a_t_w a_t_wKept a_t_saved a_t_past a_t_input a_t_n a_t_order a_t_numbers a_t_output t_pastMany i_t_isSaved q19.2 i_t_inputMany i_t_lastError i_t_lastOffset i_t_error i_t_offset i_t_nextByte i_t_begin i_t_value i_t_token i_t_got i_t_orders i_t_outputMany t_w i_t_saved) rfl 0 11 rfl rfl rfl (st := []) rfl (Nat.le_of_ble_eq_true rfl) rd_Md_restoreState_19 ?_ ⟨Nat.le_of_ble_eq_true rfl, Nat.le_of_ble_eq_true rfl⟩
    refine jk_if_eq (tgt := 27) C rd_Md_restoreState_22 (by decide) hf (fun _ hf => ?_) (fun _ hf => ?_)
    · refine jk_aload_n C rd_Md_restoreState_27 (k := 0) rfl ?_
      refine jk_get C in_Md (ci := 11) rfl 2 (by decide) tm_1265 0 rfl rfl rd_Md_restoreState_28 ?_
      refine jk_iconst C rd_Md_restoreState_31 ?_
      refine jk_aload_n C rd_Md_restoreState_32 (k := 0) rfl ?_
      refine jk_get C in_Md (ci := 11) rfl 0 (by decide) tm_1263 0 rfl rfl rd_Md_restoreState_33 ?_
      refine jk_iconst C rd_Md_restoreState_36 ?_
      obtain ⟨q37, hq37, hf⟩ := jk_bind_h hf
      refine jk_callSv C hZ.1 hz (ct_Md_copies l D Z sq hZ cI cR (n_a := 259) (n_b := 259) (Nat.le_of_ble_eq_true rfl) (Nat.le_of_ble_eq_true rfl) a_t_saved a_t_w i_t_saved t_w 0 0 q37 hq37) tm_1359 tm_1360 tm_15 tm_1361 na_Md_copies ⟨Nat.le_of_ble_eq_true rfl, Nat.le_of_ble_eq_true rfl⟩ rfl [2, 1] rfl rfl rfl (ws' := wd_Md_restoreState cI a_t a_t_w a_t_wKept a_t_saved a_t_past a_t_input a_t_n a_t_order a_t_numbers a_t_output t_pastMany i_t_isSaved q19.2 i_t_inputMany i_t_lastError i_t_lastOffset i_t_error i_t_offset i_t_nextByte i_t_begin i_t_value i_t_token i_t_got i_t_orders i_t_outputMany q37 i_t_saved) rfl (st := []) rfl (Nat.le_of_ble_eq_true rfl) rd_Md_restoreState_37 ?_ ⟨Nat.le_of_ble_eq_true rfl, Nat.le_of_ble_eq_true rfl⟩
      refine jk_aload_n C rd_Md_restoreState_40 (k := 0) rfl ?_
      refine jk_iconst C rd_Md_restoreState_41 ?_
      refine jk_putf C in_Md ty_Md nm_Md (ci := 11) rfl 4 (by decide) tm_1267 rfl rfl rfl 0 rfl (Nat.le_of_ble_eq_true rfl) rd_Md_restoreState_42 (ws' := wd_Md_restoreState cI a_t a_t_w a_t_wKept a_t_saved a_t_past a_t_input a_t_n a_t_order a_t_numbers a_t_output 0 i_t_isSaved q19.2 i_t_inputMany i_t_lastError i_t_lastOffset i_t_error i_t_offset i_t_nextByte i_t_begin i_t_value i_t_token i_t_got i_t_orders i_t_outputMany q37 i_t_saved) rfl ?_
      refine jk_aload_n C rd_Md_restoreState_45 (k := 0) rfl ?_
      refine jk_get C in_Md (ci := 11) rfl 0 (by decide) tm_1263 0 rfl rfl rd_Md_restoreState_46 ?_
      refine jk_iconst C rd_Md_restoreState_49 ?_
      refine jk_iald C 1 0 rfl rfl (Nat.le_of_ble_eq_true rfl) rd_Md_restoreState_50 hf (fun hf => ?_)
      cases hf
      exact jk_iret C rfl rd_Md_restoreState_51 rfl
    · refine jk_iconst C rd_Md_restoreState_25 ?_
      cases hf
      exact jk_iret C rfl rd_Md_restoreState_26 rfl
  refine jk_aload_n C rd_Md_restoreState_0 (k := 0) rfl ?_
  refine jk_iconst C rd_Md_restoreState_1 ?_
  refine jk_putf C in_Md ty_Md nm_Md (ci := 11) rfl 6 (by decide) tm_1269 rfl rfl rfl 0 rfl (Nat.le_of_ble_eq_true rfl) rd_Md_restoreState_2 (ws' := wd_Md_restoreState cI a_t a_t_w a_t_wKept a_t_saved a_t_past a_t_input a_t_n a_t_order a_t_numbers a_t_output i_t_pastMany i_t_isSaved 0 i_t_inputMany i_t_lastError i_t_lastOffset i_t_error i_t_offset i_t_nextByte i_t_begin i_t_value i_t_token i_t_got i_t_orders i_t_outputMany i_t_w i_t_saved) rfl ?_
  refine jk_aload_n C rd_Md_restoreState_5 (k := 0) rfl ?_
  refine jk_aload_n C rd_Md_restoreState_6 (k := 0) rfl ?_
  refine jk_get C in_Md (ci := 11) rfl 5 (by decide) tm_1268 0 rfl rfl rd_Md_restoreState_7 ?_
  refine jk_if_ne (tgt := 17) C rd_Md_restoreState_10 (by decide) hf (fun _ hf => ?_) (fun _ hf => ?_)
  · refine jk_iconst C rd_Md_restoreState_17 ?_
    refine jk_lv (lv' := [(0, .ref a_t)]) [0] rfl ?_
    exact bk_18 i_t_w i_t_pastMany 0 0 hf
  · refine jk_iconst C rd_Md_restoreState_13 ?_
    refine jk_goto (tgt := 18) C rd_Md_restoreState_14 (by decide) ?_
    refine jk_lv (lv' := [(0, .ref a_t)]) [0] rfl ?_
    exact bk_18 i_t_w i_t_pastMany 0 1 hf
