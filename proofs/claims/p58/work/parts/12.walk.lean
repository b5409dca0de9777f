theorem rd_Cords_resize_0 : decode mb_Cords_resize 0 = .ok (.aload_n 0, 1) := by decide +kernel
theorem rd_Cords_resize_1 : decode mb_Cords_resize 1 = .ok (.dup, 1) := by decide +kernel
theorem rd_Cords_resize_2 : decode mb_Cords_resize 2 = .ok (.getfield 15, 3) := by decide +kernel
theorem rd_Cords_resize_5 : decode mb_Cords_resize 5 = .ok (.iload_n 2, 1) := by decide +kernel
theorem rd_Cords_resize_6 : decode mb_Cords_resize 6 = .ok (.iadd, 1) := by decide +kernel
theorem rd_Cords_resize_7 : decode mb_Cords_resize 7 = .ok (.putfield 15, 3) := by decide +kernel
theorem rd_Cords_resize_10 : decode mb_Cords_resize 10 = .ok (.iload_n 1, 1) := by decide +kernel
theorem rd_Cords_resize_11 : decode mb_Cords_resize 11 = .ok (.iconst 1, 1) := by decide +kernel
theorem rd_Cords_resize_12 : decode mb_Cords_resize 12 = .ok (.iadd, 1) := by decide +kernel
theorem rd_Cords_resize_13 : decode mb_Cords_resize 13 = .ok (.istore_n 3, 1) := by decide +kernel
theorem rd_Cords_resize_14 : decode mb_Cords_resize 14 = .ok (.iload_n 3, 1) := by decide +kernel
theorem rd_Cords_resize_15 : decode mb_Cords_resize 15 = .ok (.aload_n 0, 1) := by decide +kernel
theorem rd_Cords_resize_16 : decode mb_Cords_resize 16 = .ok (.getfield 9, 3) := by decide +kernel
theorem rd_Cords_resize_19 : decode mb_Cords_resize 19 = .ok (.if_icmp .gt 27, 3) := by decide +kernel
theorem rd_Cords_resize_22 : decode mb_Cords_resize 22 = .ok (.aload_n 0, 1) := by decide +kernel
theorem rd_Cords_resize_23 : decode mb_Cords_resize 23 = .ok (.getfield 23, 3) := by decide +kernel
theorem rd_Cords_resize_26 : decode mb_Cords_resize 26 = .ok (.iload_n 3, 1) := by decide +kernel
theorem rd_Cords_resize_27 : decode mb_Cords_resize 27 = .ok (.aload_n 0, 1) := by decide +kernel
theorem rd_Cords_resize_28 : decode mb_Cords_resize 28 = .ok (.getfield 23, 3) := by decide +kernel
theorem rd_Cords_resize_31 : decode mb_Cords_resize 31 = .ok (.iload_n 3, 1) := by decide +kernel
theorem rd_Cords_resize_32 : decode mb_Cords_resize 32 = .ok (.invokevirtual 43, 3) := by decide +kernel
theorem rd_Cords_resize_35 : decode mb_Cords_resize 35 = .ok (.iload_n 2, 1) := by decide +kernel
theorem rd_Cords_resize_36 : decode mb_Cords_resize 36 = .ok (.iadd, 1) := by decide +kernel
theorem rd_Cords_resize_37 : decode mb_Cords_resize 37 = .ok (.invokevirtual 95, 3) := by decide +kernel
theorem rd_Cords_resize_40 : decode mb_Cords_resize 40 = .ok (.iinc 3 1, 3) := by decide +kernel
theorem rd_Cords_resize_43 : decode mb_Cords_resize 43 = .ok (.goto (-29), 3) := by decide +kernel
theorem rd_Cords_resize_46 : decode mb_Cords_resize 46 = .ok (.return_, 1) := by decide +kernel
theorem rd_Row_insert_0 : decode mb_Row_insert 0 = .ok (.iload_n 3, 1) := by decide +kernel
theorem rd_Row_insert_1 : decode mb_Row_insert 1 = .ok (.istore 4, 2) := by decide +kernel
theorem rd_Row_insert_3 : decode mb_Row_insert 3 = .ok (.iload 4, 2) := by decide +kernel
theorem rd_Row_insert_5 : decode mb_Row_insert 5 = .ok (.iload_n 1, 1) := by decide +kernel
theorem rd_Row_insert_6 : decode mb_Row_insert 6 = .ok (.if_icmp .le 23, 3) := by decide +kernel
theorem rd_Row_insert_9 : decode mb_Row_insert 9 = .ok (.aload_n 0, 1) := by decide +kernel
theorem rd_Row_insert_10 : decode mb_Row_insert 10 = .ok (.iload 4, 2) := by decide +kernel
theorem rd_Row_insert_12 : decode mb_Row_insert 12 = .ok (.aload_n 0, 1) := by decide +kernel
theorem rd_Row_insert_13 : decode mb_Row_insert 13 = .ok (.iload 4, 2) := by decide +kernel
theorem rd_Row_insert_15 : decode mb_Row_insert 15 = .ok (.iconst 1, 1) := by decide +kernel
theorem rd_Row_insert_16 : decode mb_Row_insert 16 = .ok (.isub, 1) := by decide +kernel
theorem rd_Row_insert_17 : decode mb_Row_insert 17 = .ok (.invokevirtual 13, 3) := by decide +kernel
theorem rd_Row_insert_20 : decode mb_Row_insert 20 = .ok (.invokevirtual 17, 3) := by decide +kernel
theorem rd_Row_insert_23 : decode mb_Row_insert 23 = .ok (.iinc 4 (-1), 3) := by decide +kernel
theorem rd_Row_insert_26 : decode mb_Row_insert 26 = .ok (.goto (-23), 3) := by decide +kernel
theorem rd_Row_insert_29 : decode mb_Row_insert 29 = .ok (.aload_n 0, 1) := by decide +kernel
theorem rd_Row_insert_30 : decode mb_Row_insert 30 = .ok (.iload_n 1, 1) := by decide +kernel
theorem rd_Row_insert_31 : decode mb_Row_insert 31 = .ok (.iload_n 2, 1) := by decide +kernel
theorem rd_Row_insert_32 : decode mb_Row_insert 32 = .ok (.invokevirtual 17, 3) := by decide +kernel
theorem rd_Row_insert_35 : decode mb_Row_insert 35 = .ok (.return_, 1) := by decide +kernel
theorem rd_Cords_insert_0 : decode mb_Cords_insert 0 = .ok (.aload_n 0, 1) := by decide +kernel
theorem rd_Cords_insert_1 : decode mb_Cords_insert 1 = .ok (.getfield 15, 3) := by decide +kernel
theorem rd_Cords_insert_4 : decode mb_Cords_insert 4 = .ok (.bipush 40, 2) := by decide +kernel
theorem rd_Cords_insert_6 : decode mb_Cords_insert 6 = .ok (.if_icmp .lt 5, 3) := by decide +kernel
theorem rd_Cords_insert_9 : decode mb_Cords_insert 9 = .ok (.iconst (-1), 1) := by decide +kernel
theorem rd_Cords_insert_10 : decode mb_Cords_insert 10 = .ok (.ireturn, 1) := by decide +kernel
theorem rd_Cords_insert_11 : decode mb_Cords_insert 11 = .ok (.aload_n 0, 1) := by decide +kernel
theorem rd_Cords_insert_12 : decode mb_Cords_insert 12 = .ok (.getfield 27, 3) := by decide +kernel
theorem rd_Cords_insert_15 : decode mb_Cords_insert 15 = .ok (.iload_n 1, 1) := by decide +kernel
theorem rd_Cords_insert_16 : decode mb_Cords_insert 16 = .ok (.iload_n 3, 1) := by decide +kernel
theorem rd_Cords_insert_17 : decode mb_Cords_insert 17 = .ok (.aload_n 0, 1) := by decide +kernel
theorem rd_Cords_insert_18 : decode mb_Cords_insert 18 = .ok (.getfield 15, 3) := by decide +kernel
theorem rd_Cords_insert_21 : decode mb_Cords_insert 21 = .ok (.invokevirtual 99, 3) := by decide +kernel
theorem rd_Cords_insert_24 : decode mb_Cords_insert 24 = .ok (.aload_n 0, 1) := by decide +kernel
theorem rd_Cords_insert_25 : decode mb_Cords_insert 25 = .ok (.getfield 30, 3) := by decide +kernel
theorem rd_Cords_insert_28 : decode mb_Cords_insert 28 = .ok (.iload_n 1, 1) := by decide +kernel
theorem rd_Cords_insert_29 : decode mb_Cords_insert 29 = .ok (.iload 4, 2) := by decide +kernel
theorem rd_Cords_insert_31 : decode mb_Cords_insert 31 = .ok (.aload_n 0, 1) := by decide +kernel
theorem rd_Cords_insert_32 : decode mb_Cords_insert 32 = .ok (.getfield 15, 3) := by decide +kernel
theorem rd_Cords_insert_35 : decode mb_Cords_insert 35 = .ok (.invokevirtual 99, 3) := by decide +kernel
theorem rd_Cords_insert_38 : decode mb_Cords_insert 38 = .ok (.aload_n 0, 1) := by decide +kernel
theorem rd_Cords_insert_39 : decode mb_Cords_insert 39 = .ok (.getfield 33, 3) := by decide +kernel
theorem rd_Cords_insert_42 : decode mb_Cords_insert 42 = .ok (.iload_n 1, 1) := by decide +kernel
theorem rd_Cords_insert_43 : decode mb_Cords_insert 43 = .ok (.iload 5, 2) := by decide +kernel
theorem rd_Cords_insert_45 : decode mb_Cords_insert 45 = .ok (.aload_n 0, 1) := by decide +kernel
theorem rd_Cords_insert_46 : decode mb_Cords_insert 46 = .ok (.getfield 15, 3) := by decide +kernel
theorem rd_Cords_insert_49 : decode mb_Cords_insert 49 = .ok (.invokevirtual 99, 3) := by decide +kernel
theorem rd_Cords_insert_52 : decode mb_Cords_insert 52 = .ok (.aload_n 0, 1) := by decide +kernel
theorem rd_Cords_insert_53 : decode mb_Cords_insert 53 = .ok (.getfield 36, 3) := by decide +kernel
theorem rd_Cords_insert_56 : decode mb_Cords_insert 56 = .ok (.iload_n 1, 1) := by decide +kernel
theorem rd_Cords_insert_57 : decode mb_Cords_insert 57 = .ok (.iconst 0, 1) := by decide +kernel
theorem rd_Cords_insert_58 : decode mb_Cords_insert 58 = .ok (.aload_n 0, 1) := by decide +kernel
theorem rd_Cords_insert_59 : decode mb_Cords_insert 59 = .ok (.getfield 15, 3) := by decide +kernel
theorem rd_Cords_insert_62 : decode mb_Cords_insert 62 = .ok (.invokevirtual 99, 3) := by decide +kernel
theorem rd_Cords_insert_65 : decode mb_Cords_insert 65 = .ok (.aload_n 0, 1) := by decide +kernel
theorem rd_Cords_insert_66 : decode mb_Cords_insert 66 = .ok (.iload_n 2, 1) := by decide +kernel
theorem rd_Cords_insert_67 : decode mb_Cords_insert 67 = .ok (.iconst 1, 1) := by decide +kernel
theorem rd_Cords_insert_68 : decode mb_Cords_insert 68 = .ok (.invokevirtual 103, 3) := by decide +kernel
theorem rd_Cords_insert_71 : decode mb_Cords_insert 71 = .ok (.iload_n 1, 1) := by decide +kernel
theorem rd_Cords_insert_72 : decode mb_Cords_insert 72 = .ok (.ireturn, 1) := by decide +kernel
theorem rd_Row_remove_0 : decode mb_Row_remove 0 = .ok (.iconst 0, 1) := by decide +kernel
theorem rd_Row_remove_1 : decode mb_Row_remove 1 = .ok (.istore 4, 2) := by decide +kernel
theorem rd_Row_remove_3 : decode mb_Row_remove 3 = .ok (.iload 4, 2) := by decide +kernel
theorem rd_Row_remove_5 : decode mb_Row_remove 5 = .ok (.iload_n 3, 1) := by decide +kernel
theorem rd_Row_remove_6 : decode mb_Row_remove 6 = .ok (.iload_n 2, 1) := by decide +kernel
theorem rd_Row_remove_7 : decode mb_Row_remove 7 = .ok (.isub, 1) := by decide +kernel
theorem rd_Row_remove_8 : decode mb_Row_remove 8 = .ok (.if_icmp .ge 25, 3) := by decide +kernel
theorem rd_Row_remove_11 : decode mb_Row_remove 11 = .ok (.aload_n 0, 1) := by decide +kernel
theorem rd_Row_remove_12 : decode mb_Row_remove 12 = .ok (.iload_n 1, 1) := by decide +kernel
theorem rd_Row_remove_13 : decode mb_Row_remove 13 = .ok (.iload 4, 2) := by decide +kernel
theorem rd_Row_remove_15 : decode mb_Row_remove 15 = .ok (.iadd, 1) := by decide +kernel
theorem rd_Row_remove_16 : decode mb_Row_remove 16 = .ok (.aload_n 0, 1) := by decide +kernel
theorem rd_Row_remove_17 : decode mb_Row_remove 17 = .ok (.iload_n 2, 1) := by decide +kernel
theorem rd_Row_remove_18 : decode mb_Row_remove 18 = .ok (.iload 4, 2) := by decide +kernel
theorem rd_Row_remove_20 : decode mb_Row_remove 20 = .ok (.iadd, 1) := by decide +kernel
theorem rd_Row_remove_21 : decode mb_Row_remove 21 = .ok (.invokevirtual 13, 3) := by decide +kernel
theorem rd_Row_remove_24 : decode mb_Row_remove 24 = .ok (.invokevirtual 17, 3) := by decide +kernel
theorem rd_Row_remove_27 : decode mb_Row_remove 27 = .ok (.iinc 4 1, 3) := by decide +kernel
theorem rd_Row_remove_30 : decode mb_Row_remove 30 = .ok (.goto (-27), 3) := by decide +kernel
theorem rd_Row_remove_33 : decode mb_Row_remove 33 = .ok (.return_, 1) := by decide +kernel
theorem rd_Cords_remove_0 : decode mb_Cords_remove 0 = .ok (.aload_n 0, 1) := by decide +kernel
theorem rd_Cords_remove_1 : decode mb_Cords_remove 1 = .ok (.iload_n 1, 1) := by decide +kernel
theorem rd_Cords_remove_2 : decode mb_Cords_remove 2 = .ok (.invokevirtual 106, 3) := by decide +kernel
theorem rd_Cords_remove_5 : decode mb_Cords_remove 5 = .ok (.istore_n 3, 1) := by decide +kernel
theorem rd_Cords_remove_6 : decode mb_Cords_remove 6 = .ok (.aload_n 0, 1) := by decide +kernel
theorem rd_Cords_remove_7 : decode mb_Cords_remove 7 = .ok (.getfield 27, 3) := by decide +kernel
theorem rd_Cords_remove_10 : decode mb_Cords_remove 10 = .ok (.iload_n 1, 1) := by decide +kernel
theorem rd_Cords_remove_11 : decode mb_Cords_remove 11 = .ok (.iload_n 2, 1) := by decide +kernel
theorem rd_Cords_remove_12 : decode mb_Cords_remove 12 = .ok (.aload_n 0, 1) := by decide +kernel
theorem rd_Cords_remove_13 : decode mb_Cords_remove 13 = .ok (.getfield 15, 3) := by decide +kernel
theorem rd_Cords_remove_16 : decode mb_Cords_remove 16 = .ok (.invokevirtual 109, 3) := by decide +kernel
theorem rd_Cords_remove_19 : decode mb_Cords_remove 19 = .ok (.aload_n 0, 1) := by decide +kernel
theorem rd_Cords_remove_20 : decode mb_Cords_remove 20 = .ok (.getfield 30, 3) := by decide +kernel
theorem rd_Cords_remove_23 : decode mb_Cords_remove 23 = .ok (.iload_n 1, 1) := by decide +kernel
theorem rd_Cords_remove_24 : decode mb_Cords_remove 24 = .ok (.iload_n 2, 1) := by decide +kernel
theorem rd_Cords_remove_25 : decode mb_Cords_remove 25 = .ok (.aload_n 0, 1) := by decide +kernel
theorem rd_Cords_remove_26 : decode mb_Cords_remove 26 = .ok (.getfield 15, 3) := by decide +kernel
theorem rd_Cords_remove_29 : decode mb_Cords_remove 29 = .ok (.invokevirtual 109, 3) := by decide +kernel
theorem rd_Cords_remove_32 : decode mb_Cords_remove 32 = .ok (.aload_n 0, 1) := by decide +kernel
theorem rd_Cords_remove_33 : decode mb_Cords_remove 33 = .ok (.getfield 33, 3) := by decide +kernel
theorem rd_Cords_remove_36 : decode mb_Cords_remove 36 = .ok (.iload_n 1, 1) := by decide +kernel
theorem rd_Cords_remove_37 : decode mb_Cords_remove 37 = .ok (.iload_n 2, 1) := by decide +kernel
theorem rd_Cords_remove_38 : decode mb_Cords_remove 38 = .ok (.aload_n 0, 1) := by decide +kernel
theorem rd_Cords_remove_39 : decode mb_Cords_remove 39 = .ok (.getfield 15, 3) := by decide +kernel
theorem rd_Cords_remove_42 : decode mb_Cords_remove 42 = .ok (.invokevirtual 109, 3) := by decide +kernel
theorem rd_Cords_remove_45 : decode mb_Cords_remove 45 = .ok (.aload_n 0, 1) := by decide +kernel
theorem rd_Cords_remove_46 : decode mb_Cords_remove 46 = .ok (.getfield 36, 3) := by decide +kernel
theorem rd_Cords_remove_49 : decode mb_Cords_remove 49 = .ok (.iload_n 1, 1) := by decide +kernel
theorem rd_Cords_remove_50 : decode mb_Cords_remove 50 = .ok (.iload_n 2, 1) := by decide +kernel
theorem rd_Cords_remove_51 : decode mb_Cords_remove 51 = .ok (.aload_n 0, 1) := by decide +kernel
theorem rd_Cords_remove_52 : decode mb_Cords_remove 52 = .ok (.getfield 15, 3) := by decide +kernel
theorem rd_Cords_remove_55 : decode mb_Cords_remove 55 = .ok (.invokevirtual 109, 3) := by decide +kernel
theorem rd_Cords_remove_58 : decode mb_Cords_remove 58 = .ok (.aload_n 0, 1) := by decide +kernel
theorem rd_Cords_remove_59 : decode mb_Cords_remove 59 = .ok (.iload_n 3, 1) := by decide +kernel
theorem rd_Cords_remove_60 : decode mb_Cords_remove 60 = .ok (.iload_n 1, 1) := by decide +kernel
theorem rd_Cords_remove_61 : decode mb_Cords_remove 61 = .ok (.iload_n 2, 1) := by decide +kernel
theorem rd_Cords_remove_62 : decode mb_Cords_remove 62 = .ok (.isub, 1) := by decide +kernel
theorem rd_Cords_remove_63 : decode mb_Cords_remove 63 = .ok (.invokevirtual 103, 3) := by decide +kernel
theorem rd_Cords_remove_66 : decode mb_Cords_remove 66 = .ok (.iload_n 2, 1) := by decide +kernel
theorem rd_Cords_remove_67 : decode mb_Cords_remove 67 = .ok (.iload_n 1, 1) := by decide +kernel
theorem rd_Cords_remove_68 : decode mb_Cords_remove 68 = .ok (.isub, 1) := by decide +kernel
theorem rd_Cords_remove_69 : decode mb_Cords_remove 69 = .ok (.ireturn, 1) := by decide +kernel
theorem rd_Cords_tie_0 : decode mb_Cords_tie 0 = .ok (.aload_n 0, 1) := by decide +kernel
theorem rd_Cords_tie_1 : decode mb_Cords_tie 1 = .ok (.iload_n 1, 1) := by decide +kernel
theorem rd_Cords_tie_2 : decode mb_Cords_tie 2 = .ok (.invokevirtual 76, 3) := by decide +kernel
theorem rd_Cords_tie_5 : decode mb_Cords_tie 5 = .ok (.istore_n 3, 1) := by decide +kernel
theorem rd_Cords_tie_6 : decode mb_Cords_tie 6 = .ok (.aload_n 0, 1) := by decide +kernel
theorem rd_Cords_tie_7 : decode mb_Cords_tie 7 = .ok (.aload_n 0, 1) := by decide +kernel
theorem rd_Cords_tie_8 : decode mb_Cords_tie 8 = .ok (.iload_n 1, 1) := by decide +kernel
theorem rd_Cords_tie_9 : decode mb_Cords_tie 9 = .ok (.invokevirtual 73, 3) := by decide +kernel
theorem rd_Cords_tie_12 : decode mb_Cords_tie 12 = .ok (.iload_n 1, 1) := by decide +kernel
theorem rd_Cords_tie_13 : decode mb_Cords_tie 13 = .ok (.iconst 0, 1) := by decide +kernel
theorem rd_Cords_tie_14 : decode mb_Cords_tie 14 = .ok (.iload_n 2, 1) := by decide +kernel
theorem rd_Cords_tie_15 : decode mb_Cords_tie 15 = .ok (.iload_n 3, 1) := by decide +kernel
theorem rd_Cords_tie_16 : decode mb_Cords_tie 16 = .ok (.invokevirtual 112, 3) := by decide +kernel
theorem rd_Cords_tie_19 : decode mb_Cords_tie 19 = .ok (.pop, 1) := by decide +kernel
theorem rd_Cords_tie_20 : decode mb_Cords_tie 20 = .ok (.iload_n 3, 1) := by decide +kernel
theorem rd_Cords_tie_21 : decode mb_Cords_tie 21 = .ok (.ireturn, 1) := by decide +kernel
theorem rd_Knots_at_0 : decode mb_Knots_at 0 = .ok (.iload_n 0, 1) := by decide +kernel
theorem rd_Knots_at_1 : decode mb_Knots_at 1 = .ok (.iload_n 1, 1) := by decide +kernel
theorem rd_Knots_at_2 : decode mb_Knots_at 2 = .ok (.invokestatic 9, 3) := by decide +kernel
theorem rd_Knots_at_5 : decode mb_Knots_at 5 = .ok (.bipush 10, 2) := by decide +kernel
theorem rd_Knots_at_7 : decode mb_Knots_at 7 = .ok (.irem, 1) := by decide +kernel
theorem rd_Knots_at_8 : decode mb_Knots_at 8 = .ok (.ireturn, 1) := by decide +kernel
theorem rd_Cords_knot_0 : decode mb_Cords_knot 0 = .ok (.aload_n 0, 1) := by decide +kernel
theorem rd_Cords_knot_1 : decode mb_Cords_knot 1 = .ok (.getfield 33, 3) := by decide +kernel
theorem rd_Cords_knot_4 : decode mb_Cords_knot 4 = .ok (.iload_n 1, 1) := by decide +kernel
theorem rd_Cords_knot_5 : decode mb_Cords_knot 5 = .ok (.invokevirtual 43, 3) := by decide +kernel
theorem rd_Cords_knot_8 : decode mb_Cords_knot 8 = .ok (.iload_n 2, 1) := by decide +kernel
theorem rd_Cords_knot_9 : decode mb_Cords_knot 9 = .ok (.invokestatic 115, 3) := by decide +kernel
theorem rd_Cords_knot_12 : decode mb_Cords_knot 12 = .ok (.istore 4, 2) := by decide +kernel
theorem rd_Cords_knot_14 : decode mb_Cords_knot 14 = .ok (.aload_n 0, 1) := by decide +kernel
theorem rd_Cords_knot_15 : decode mb_Cords_knot 15 = .ok (.getfield 33, 3) := by decide +kernel
theorem rd_Cords_knot_18 : decode mb_Cords_knot 18 = .ok (.iload_n 1, 1) := by decide +kernel
theorem rd_Cords_knot_19 : decode mb_Cords_knot 19 = .ok (.aload_n 0, 1) := by decide +kernel
theorem rd_Cords_knot_20 : decode mb_Cords_knot 20 = .ok (.getfield 33, 3) := by decide +kernel
theorem rd_Cords_knot_23 : decode mb_Cords_knot 23 = .ok (.iload_n 1, 1) := by decide +kernel
theorem rd_Cords_knot_24 : decode mb_Cords_knot 24 = .ok (.invokevirtual 43, 3) := by decide +kernel
theorem rd_Cords_knot_27 : decode mb_Cords_knot 27 = .ok (.iload_n 3, 1) := by decide +kernel
theorem rd_Cords_knot_28 : decode mb_Cords_knot 28 = .ok (.iload 4, 2) := by decide +kernel
theorem rd_Cords_knot_30 : decode mb_Cords_knot 30 = .ok (.isub, 1) := by decide +kernel
theorem rd_Cords_knot_31 : decode mb_Cords_knot 31 = .ok (.iload_n 2, 1) := by decide +kernel
theorem rd_Cords_knot_32 : decode mb_Cords_knot 32 = .ok (.invokestatic 54, 3) := by decide +kernel
theorem rd_Cords_knot_35 : decode mb_Cords_knot 35 = .ok (.imul, 1) := by decide +kernel
theorem rd_Cords_knot_36 : decode mb_Cords_knot 36 = .ok (.iadd, 1) := by decide +kernel
theorem rd_Cords_knot_37 : decode mb_Cords_knot 37 = .ok (.invokevirtual 95, 3) := by decide +kernel
theorem rd_Cords_knot_40 : decode mb_Cords_knot 40 = .ok (.iload 4, 2) := by decide +kernel
theorem rd_Cords_knot_42 : decode mb_Cords_knot 42 = .ok (.ireturn, 1) := by decide +kernel
theorem rd_Knots_sum_0 : decode mb_Knots_sum 0 = .ok (.iconst 0, 1) := by decide +kernel
theorem rd_Knots_sum_1 : decode mb_Knots_sum 1 = .ok (.istore_n 1, 1) := by decide +kernel
theorem rd_Knots_sum_2 : decode mb_Knots_sum 2 = .ok (.iconst 0, 1) := by decide +kernel
theorem rd_Knots_sum_3 : decode mb_Knots_sum 3 = .ok (.istore_n 2, 1) := by decide +kernel
theorem rd_Knots_sum_4 : decode mb_Knots_sum 4 = .ok (.iload_n 2, 1) := by decide +kernel
theorem rd_Knots_sum_5 : decode mb_Knots_sum 5 = .ok (.iconst 4, 1) := by decide +kernel
theorem rd_Knots_sum_6 : decode mb_Knots_sum 6 = .ok (.if_icmp .ge 17, 3) := by decide +kernel
theorem rd_Knots_sum_9 : decode mb_Knots_sum 9 = .ok (.iload_n 1, 1) := by decide +kernel
theorem rd_Knots_sum_10 : decode mb_Knots_sum 10 = .ok (.iload_n 0, 1) := by decide +kernel
theorem rd_Knots_sum_11 : decode mb_Knots_sum 11 = .ok (.iload_n 2, 1) := by decide +kernel
theorem rd_Knots_sum_12 : decode mb_Knots_sum 12 = .ok (.invokestatic 15, 3) := by decide +kernel
theorem rd_Knots_sum_15 : decode mb_Knots_sum 15 = .ok (.iadd, 1) := by decide +kernel
theorem rd_Knots_sum_16 : decode mb_Knots_sum 16 = .ok (.istore_n 1, 1) := by decide +kernel
theorem rd_Knots_sum_17 : decode mb_Knots_sum 17 = .ok (.iinc 2 1, 3) := by decide +kernel
theorem rd_Knots_sum_20 : decode mb_Knots_sum 20 = .ok (.goto (-16), 3) := by decide +kernel
theorem rd_Knots_sum_23 : decode mb_Knots_sum 23 = .ok (.iload_n 1, 1) := by decide +kernel
theorem rd_Knots_sum_24 : decode mb_Knots_sum 24 = .ok (.ireturn, 1) := by decide +kernel
theorem rd_Cords_loseKnots_0 : decode mb_Cords_loseKnots 0 = .ok (.aload_n 0, 1) := by decide +kernel
theorem rd_Cords_loseKnots_1 : decode mb_Cords_loseKnots 1 = .ok (.getfield 33, 3) := by decide +kernel
theorem rd_Cords_loseKnots_4 : decode mb_Cords_loseKnots 4 = .ok (.iload_n 1, 1) := by decide +kernel
theorem rd_Cords_loseKnots_5 : decode mb_Cords_loseKnots 5 = .ok (.invokevirtual 43, 3) := by decide +kernel
theorem rd_Cords_loseKnots_8 : decode mb_Cords_loseKnots 8 = .ok (.invokestatic 118, 3) := by decide +kernel
theorem rd_Cords_loseKnots_11 : decode mb_Cords_loseKnots 11 = .ok (.istore_n 3, 1) := by decide +kernel
theorem rd_Cords_loseKnots_12 : decode mb_Cords_loseKnots 12 = .ok (.aload_n 0, 1) := by decide +kernel
theorem rd_Cords_loseKnots_13 : decode mb_Cords_loseKnots 13 = .ok (.getfield 33, 3) := by decide +kernel
theorem rd_Cords_loseKnots_16 : decode mb_Cords_loseKnots 16 = .ok (.iload_n 1, 1) := by decide +kernel
theorem rd_Cords_loseKnots_17 : decode mb_Cords_loseKnots 17 = .ok (.aload_n 0, 1) := by decide +kernel
theorem rd_Cords_loseKnots_18 : decode mb_Cords_loseKnots 18 = .ok (.getfield 33, 3) := by decide +kernel
theorem rd_Cords_loseKnots_21 : decode mb_Cords_loseKnots 21 = .ok (.iload_n 1, 1) := by decide +kernel
theorem rd_Cords_loseKnots_22 : decode mb_Cords_loseKnots 22 = .ok (.invokevirtual 43, 3) := by decide +kernel
theorem rd_Cords_loseKnots_25 : decode mb_Cords_loseKnots 25 = .ok (.iload_n 2, 1) := by decide +kernel
theorem rd_Cords_loseKnots_26 : decode mb_Cords_loseKnots 26 = .ok (.invokestatic 92, 3) := by decide +kernel
theorem rd_Cords_loseKnots_29 : decode mb_Cords_loseKnots 29 = .ok (.invokevirtual 95, 3) := by decide +kernel
theorem rd_Cords_loseKnots_32 : decode mb_Cords_loseKnots 32 = .ok (.aload_n 0, 1) := by decide +kernel
theorem rd_Cords_loseKnots_33 : decode mb_Cords_loseKnots 33 = .ok (.getfield 36, 3) := by decide +kernel
theorem rd_Cords_loseKnots_36 : decode mb_Cords_loseKnots 36 = .ok (.iload_n 1, 1) := by decide +kernel
theorem rd_Cords_loseKnots_37 : decode mb_Cords_loseKnots 37 = .ok (.iload_n 2, 1) := by decide +kernel
theorem rd_Cords_loseKnots_38 : decode mb_Cords_loseKnots 38 = .ok (.invokevirtual 95, 3) := by decide +kernel
theorem rd_Cords_loseKnots_41 : decode mb_Cords_loseKnots 41 = .ok (.iload_n 3, 1) := by decide +kernel
theorem rd_Cords_loseKnots_42 : decode mb_Cords_loseKnots 42 = .ok (.aload_n 0, 1) := by decide +kernel
theorem rd_Cords_loseKnots_43 : decode mb_Cords_loseKnots 43 = .ok (.getfield 33, 3) := by decide +kernel
theorem rd_Cords_loseKnots_46 : decode mb_Cords_loseKnots 46 = .ok (.iload_n 1, 1) := by decide +kernel
theorem rd_Cords_loseKnots_47 : decode mb_Cords_loseKnots 47 = .ok (.invokevirtual 43, 3) := by decide +kernel
theorem rd_Cords_loseKnots_50 : decode mb_Cords_loseKnots 50 = .ok (.invokestatic 118, 3) := by decide +kernel
theorem rd_Cords_loseKnots_53 : decode mb_Cords_loseKnots 53 = .ok (.isub, 1) := by decide +kernel
theorem rd_Cords_loseKnots_54 : decode mb_Cords_loseKnots 54 = .ok (.ireturn, 1) := by decide +kernel
theorem rd_History_clear_0 : decode mb_History_clear 0 = .ok (.aload_n 0, 1) := by decide +kernel
theorem rd_History_clear_1 : decode mb_History_clear 1 = .ok (.iconst 0, 1) := by decide +kernel
theorem rd_History_clear_2 : decode mb_History_clear 2 = .ok (.putfield 21, 3) := by decide +kernel
theorem rd_History_clear_5 : decode mb_History_clear 5 = .ok (.return_, 1) := by decide +kernel
theorem rd_History_push_0 : decode mb_History_push 0 = .ok (.aload_n 0, 1) := by decide +kernel
theorem rd_History_push_1 : decode mb_History_push 1 = .ok (.aload_n 0, 1) := by decide +kernel
theorem rd_History_push_2 : decode mb_History_push 2 = .ok (.getfield 17, 3) := by decide +kernel
theorem rd_History_push_5 : decode mb_History_push 5 = .ok (.iconst 1, 1) := by decide +kernel
theorem rd_History_push_6 : decode mb_History_push 6 = .ok (.iadd, 1) := by decide +kernel
theorem rd_History_push_7 : decode mb_History_push 7 = .ok (.bipush 8, 2) := by decide +kernel
theorem rd_History_push_9 : decode mb_History_push 9 = .ok (.irem, 1) := by decide +kernel
theorem rd_History_push_10 : decode mb_History_push 10 = .ok (.putfield 17, 3) := by decide +kernel
theorem rd_History_push_13 : decode mb_History_push 13 = .ok (.aload_n 0, 1) := by decide +kernel
theorem rd_History_push_14 : decode mb_History_push 14 = .ok (.aload_n 0, 1) := by decide +kernel
theorem rd_History_push_15 : decode mb_History_push 15 = .ok (.getfield 21, 3) := by decide +kernel
theorem rd_History_push_18 : decode mb_History_push 18 = .ok (.bipush 8, 2) := by decide +kernel
theorem rd_History_push_20 : decode mb_History_push 20 = .ok (.if_icmp .ge 12, 3) := by decide +kernel
theorem rd_History_push_23 : decode mb_History_push 23 = .ok (.aload_n 0, 1) := by decide +kernel
theorem rd_History_push_24 : decode mb_History_push 24 = .ok (.getfield 21, 3) := by decide +kernel
theorem rd_History_push_27 : decode mb_History_push 27 = .ok (.iconst 1, 1) := by decide +kernel
theorem rd_History_push_28 : decode mb_History_push 28 = .ok (.iadd, 1) := by decide +kernel
theorem rd_History_push_29 : decode mb_History_push 29 = .ok (.goto 5, 3) := by decide +kernel
theorem rd_History_push_32 : decode mb_History_push 32 = .ok (.bipush 8, 2) := by decide +kernel
theorem rd_History_push_34 : decode mb_History_push 34 = .ok (.putfield 21, 3) := by decide +kernel
theorem rd_History_push_37 : decode mb_History_push 37 = .ok (.aload_n 0, 1) := by decide +kernel
theorem rd_History_push_38 : decode mb_History_push 38 = .ok (.aload_n 0, 1) := by decide +kernel
theorem rd_History_push_39 : decode mb_History_push 39 = .ok (.getfield 17, 3) := by decide +kernel
theorem rd_History_push_42 : decode mb_History_push 42 = .ok (.invokevirtual 25, 3) := by decide +kernel
theorem rd_History_push_45 : decode mb_History_push 45 = .ok (.astore_n 2, 1) := by decide +kernel
theorem rd_History_push_46 : decode mb_History_push 46 = .ok (.aload_n 2, 1) := by decide +kernel
theorem rd_History_push_47 : decode mb_History_push 47 = .ok (.ifnull 8, 3) := by decide +kernel
theorem rd_History_push_50 : decode mb_History_push 50 = .ok (.aload_n 2, 1) := by decide +kernel
theorem rd_History_push_51 : decode mb_History_push 51 = .ok (.aload_n 1, 1) := by decide +kernel
theorem rd_History_push_52 : decode mb_History_push 52 = .ok (.invokevirtual 29, 3) := by decide +kernel
theorem rd_History_push_55 : decode mb_History_push 55 = .ok (.return_, 1) := by decide +kernel
theorem rd_Row_replace_0 : decode mb_Row_replace 0 = .ok (.aload_n 0, 1) := by decide +kernel
theorem rd_Row_replace_1 : decode mb_Row_replace 1 = .ok (.iload_n 1, 1) := by decide +kernel
theorem rd_Row_replace_2 : decode mb_Row_replace 2 = .ok (.invokevirtual 13, 3) := by decide +kernel
theorem rd_Row_replace_5 : decode mb_Row_replace 5 = .ok (.istore_n 3, 1) := by decide +kernel
theorem rd_Row_replace_6 : decode mb_Row_replace 6 = .ok (.aload_n 0, 1) := by decide +kernel
theorem rd_Row_replace_7 : decode mb_Row_replace 7 = .ok (.iload_n 1, 1) := by decide +kernel
theorem rd_Row_replace_8 : decode mb_Row_replace 8 = .ok (.iload_n 2, 1) := by decide +kernel
theorem rd_Row_replace_9 : decode mb_Row_replace 9 = .ok (.invokevirtual 17, 3) := by decide +kernel
theorem rd_Row_replace_12 : decode mb_Row_replace 12 = .ok (.iload_n 3, 1) := by decide +kernel
theorem rd_Row_replace_13 : decode mb_Row_replace 13 = .ok (.ireturn, 1) := by decide +kernel
theorem rd_Text_fail_0 : decode mb_Text_fail 0 = .ok (.aload_n 0, 1) := by decide +kernel
theorem rd_Text_fail_1 : decode mb_Text_fail 1 = .ok (.getfield 33, 3) := by decide +kernel
theorem rd_Text_fail_4 : decode mb_Text_fail 4 = .ok (.ifCond .ne 16, 3) := by decide +kernel
theorem rd_Text_fail_7 : decode mb_Text_fail 7 = .ok (.aload_n 0, 1) := by decide +kernel
theorem rd_Text_fail_8 : decode mb_Text_fail 8 = .ok (.iload_n 1, 1) := by decide +kernel
theorem rd_Text_fail_9 : decode mb_Text_fail 9 = .ok (.putfield 33, 3) := by decide +kernel
theorem rd_Text_fail_12 : decode mb_Text_fail 12 = .ok (.aload_n 0, 1) := by decide +kernel
theorem rd_Text_fail_13 : decode mb_Text_fail 13 = .ok (.aload_n 0, 1) := by decide +kernel
theorem rd_Text_fail_14 : decode mb_Text_fail 14 = .ok (.getfield 27, 3) := by decide +kernel
theorem rd_Text_fail_17 : decode mb_Text_fail 17 = .ok (.putfield 36, 3) := by decide +kernel
theorem rd_Text_fail_20 : decode mb_Text_fail 20 = .ok (.return_, 1) := by decide +kernel
theorem rd_Text_hasFailed_0 : decode mb_Text_hasFailed 0 = .ok (.aload_n 0, 1) := by decide +kernel
theorem rd_Text_hasFailed_1 : decode mb_Text_hasFailed 1 = .ok (.getfield 33, 3) := by decide +kernel
theorem rd_Text_hasFailed_4 : decode mb_Text_hasFailed 4 = .ok (.ifCond .eq 7, 3) := by decide +kernel
theorem rd_Text_hasFailed_7 : decode mb_Text_hasFailed 7 = .ok (.iconst 1, 1) := by decide +kernel
theorem rd_Text_hasFailed_8 : decode mb_Text_hasFailed 8 = .ok (.goto 4, 3) := by decide +kernel
theorem rd_Text_hasFailed_11 : decode mb_Text_hasFailed 11 = .ok (.iconst 0, 1) := by decide +kernel
theorem rd_Text_hasFailed_12 : decode mb_Text_hasFailed 12 = .ok (.ireturn, 1) := by decide +kernel
theorem rd_Text_sortAt_0 : decode mb_Text_sortAt 0 = .ok (.iload_n 1, 1) := by decide +kernel
theorem rd_Text_sortAt_1 : decode mb_Text_sortAt 1 = .ok (.aload_n 0, 1) := by decide +kernel
theorem rd_Text_sortAt_2 : decode mb_Text_sortAt 2 = .ok (.getfield 20, 3) := by decide +kernel
theorem rd_Text_sortAt_5 : decode mb_Text_sortAt 5 = .ok (.if_icmp .lt 5, 3) := by decide +kernel
theorem rd_Text_sortAt_8 : decode mb_Text_sortAt 8 = .ok (.iconst 0, 1) := by decide +kernel
theorem rd_Text_sortAt_9 : decode mb_Text_sortAt 9 = .ok (.ireturn, 1) := by decide +kernel
theorem rd_Text_sortAt_10 : decode mb_Text_sortAt 10 = .ok (.aload_n 0, 1) := by decide +kernel
theorem rd_Text_sortAt_11 : decode mb_Text_sortAt 11 = .ok (.getfield 14, 3) := by decide +kernel
theorem rd_Text_sortAt_14 : decode mb_Text_sortAt 14 = .ok (.iload_n 1, 1) := by decide +kernel
theorem rd_Text_sortAt_15 : decode mb_Text_sortAt 15 = .ok (.invokevirtual 59, 3) := by decide +kernel
theorem rd_Text_sortAt_18 : decode mb_Text_sortAt 18 = .ok (.istore_n 2, 1) := by decide +kernel
theorem rd_Text_sortAt_19 : decode mb_Text_sortAt 19 = .ok (.iload_n 2, 1) := by decide +kernel
theorem rd_Text_sortAt_20 : decode mb_Text_sortAt 20 = .ok (.bipush 32, 2) := by decide +kernel
theorem rd_Text_sortAt_22 : decode mb_Text_sortAt 22 = .ok (.if_icmp .eq 9, 3) := by decide +kernel
theorem rd_Text_sortAt_25 : decode mb_Text_sortAt 25 = .ok (.iload_n 2, 1) := by decide +kernel
theorem rd_Text_sortAt_26 : decode mb_Text_sortAt 26 = .ok (.bipush 10, 2) := by decide +kernel
theorem rd_Text_sortAt_28 : decode mb_Text_sortAt 28 = .ok (.if_icmp .ne 5, 3) := by decide +kernel
theorem rd_Text_sortAt_31 : decode mb_Text_sortAt 31 = .ok (.iconst 1, 1) := by decide +kernel
theorem rd_Text_sortAt_32 : decode mb_Text_sortAt 32 = .ok (.ireturn, 1) := by decide +kernel
theorem rd_Text_sortAt_33 : decode mb_Text_sortAt 33 = .ok (.iload_n 2, 1) := by decide +kernel
theorem rd_Text_sortAt_34 : decode mb_Text_sortAt 34 = .ok (.bipush 97, 2) := by decide +kernel
theorem rd_Text_sortAt_36 : decode mb_Text_sortAt 36 = .ok (.if_icmp .lt 11, 3) := by decide +kernel
theorem rd_Text_sortAt_39 : decode mb_Text_sortAt 39 = .ok (.iload_n 2, 1) := by decide +kernel
theorem rd_Text_sortAt_40 : decode mb_Text_sortAt 40 = .ok (.bipush 122, 2) := by decide +kernel
theorem rd_Text_sortAt_42 : decode mb_Text_sortAt 42 = .ok (.if_icmp .gt 5, 3) := by decide +kernel
theorem rd_Text_sortAt_45 : decode mb_Text_sortAt 45 = .ok (.iconst 2, 1) := by decide +kernel
theorem rd_Text_sortAt_46 : decode mb_Text_sortAt 46 = .ok (.ireturn, 1) := by decide +kernel
theorem rd_Text_sortAt_47 : decode mb_Text_sortAt 47 = .ok (.iload_n 2, 1) := by decide +kernel
theorem rd_Text_sortAt_48 : decode mb_Text_sortAt 48 = .ok (.bipush 48, 2) := by decide +kernel
theorem rd_Text_sortAt_50 : decode mb_Text_sortAt 50 = .ok (.if_icmp .lt 11, 3) := by decide +kernel
theorem rd_Text_sortAt_53 : decode mb_Text_sortAt 53 = .ok (.iload_n 2, 1) := by decide +kernel
theorem rd_Text_sortAt_54 : decode mb_Text_sortAt 54 = .ok (.bipush 57, 2) := by decide +kernel
theorem rd_Text_sortAt_56 : decode mb_Text_sortAt 56 = .ok (.if_icmp .gt 5, 3) := by decide +kernel
theorem rd_Text_sortAt_59 : decode mb_Text_sortAt 59 = .ok (.iconst 3, 1) := by decide +kernel
theorem rd_Text_sortAt_60 : decode mb_Text_sortAt 60 = .ok (.ireturn, 1) := by decide +kernel
theorem rd_Text_sortAt_61 : decode mb_Text_sortAt 61 = .ok (.iload_n 2, 1) := by decide +kernel
theorem rd_Text_sortAt_62 : decode mb_Text_sortAt 62 = .ok (.bipush 59, 2) := by decide +kernel
theorem rd_Text_sortAt_64 : decode mb_Text_sortAt 64 = .ok (.if_icmp .ne 7, 3) := by decide +kernel
theorem rd_Text_sortAt_67 : decode mb_Text_sortAt 67 = .ok (.iconst 4, 1) := by decide +kernel
theorem rd_Text_sortAt_68 : decode mb_Text_sortAt 68 = .ok (.goto 4, 3) := by decide +kernel
theorem rd_Text_sortAt_71 : decode mb_Text_sortAt 71 = .ok (.iconst 5, 1) := by decide +kernel
theorem rd_Text_sortAt_72 : decode mb_Text_sortAt 72 = .ok (.ireturn, 1) := by decide +kernel
theorem rd_Text_next_0 : decode mb_Text_next 0 = .ok (.aload_n 0, 1) := by decide +kernel
theorem rd_Text_next_1 : decode mb_Text_next 1 = .ok (.aload_n 0, 1) := by decide +kernel
theorem rd_Text_next_2 : decode mb_Text_next 2 = .ok (.getfield 30, 3) := by decide +kernel
theorem rd_Text_next_5 : decode mb_Text_next 5 = .ok (.putfield 27, 3) := by decide +kernel
theorem rd_Text_next_8 : decode mb_Text_next 8 = .ok (.aload_n 0, 1) := by decide +kernel
theorem rd_Text_next_9 : decode mb_Text_next 9 = .ok (.getfield 27, 3) := by decide +kernel
theorem rd_Text_next_12 : decode mb_Text_next 12 = .ok (.aload_n 0, 1) := by decide +kernel
theorem rd_Text_next_13 : decode mb_Text_next 13 = .ok (.getfield 20, 3) := by decide +kernel
theorem rd_Text_next_16 : decode mb_Text_next 16 = .ok (.if_icmp .ge 28, 3) := by decide +kernel
theorem rd_Text_next_19 : decode mb_Text_next 19 = .ok (.aload_n 0, 1) := by decide +kernel
theorem rd_Text_next_20 : decode mb_Text_next 20 = .ok (.aload_n 0, 1) := by decide +kernel
theorem rd_Text_next_21 : decode mb_Text_next 21 = .ok (.getfield 27, 3) := by decide +kernel
theorem rd_Text_next_24 : decode mb_Text_next 24 = .ok (.invokevirtual 55, 3) := by decide +kernel
theorem rd_Text_next_27 : decode mb_Text_next 27 = .ok (.iconst 1, 1) := by decide +kernel
theorem rd_Text_next_28 : decode mb_Text_next 28 = .ok (.if_icmp .ne 16, 3) := by decide +kernel
theorem rd_Text_next_31 : decode mb_Text_next 31 = .ok (.aload_n 0, 1) := by decide +kernel
theorem rd_Text_next_32 : decode mb_Text_next 32 = .ok (.dup, 1) := by decide +kernel
theorem rd_Text_next_33 : decode mb_Text_next 33 = .ok (.getfield 27, 3) := by decide +kernel
theorem rd_Text_next_36 : decode mb_Text_next 36 = .ok (.iconst 1, 1) := by decide +kernel
theorem rd_Text_next_37 : decode mb_Text_next 37 = .ok (.iadd, 1) := by decide +kernel
theorem rd_Text_next_38 : decode mb_Text_next 38 = .ok (.putfield 27, 3) := by decide +kernel
theorem rd_Text_next_41 : decode mb_Text_next 41 = .ok (.goto (-33), 3) := by decide +kernel
theorem rd_Text_next_44 : decode mb_Text_next 44 = .ok (.aload_n 0, 1) := by decide +kernel
theorem rd_Text_next_45 : decode mb_Text_next 45 = .ok (.aload_n 0, 1) := by decide +kernel
theorem rd_Text_next_46 : decode mb_Text_next 46 = .ok (.aload_n 0, 1) := by decide +kernel
theorem rd_Text_next_47 : decode mb_Text_next 47 = .ok (.getfield 27, 3) := by decide +kernel
theorem rd_Text_next_50 : decode mb_Text_next 50 = .ok (.invokevirtual 55, 3) := by decide +kernel
theorem rd_Text_next_53 : decode mb_Text_next 53 = .ok (.putfield 24, 3) := by decide +kernel
theorem rd_Text_next_56 : decode mb_Text_next 56 = .ok (.aload_n 0, 1) := by decide +kernel
theorem rd_Text_next_57 : decode mb_Text_next 57 = .ok (.aload_n 0, 1) := by decide +kernel
theorem rd_Text_next_58 : decode mb_Text_next 58 = .ok (.getfield 27, 3) := by decide +kernel
theorem rd_Text_next_61 : decode mb_Text_next 61 = .ok (.aload_n 0, 1) := by decide +kernel
theorem rd_Text_next_62 : decode mb_Text_next 62 = .ok (.getfield 20, 3) := by decide +kernel
theorem rd_Text_next_65 : decode mb_Text_next 65 = .ok (.if_icmp .ge 12, 3) := by decide +kernel
theorem rd_Text_next_68 : decode mb_Text_next 68 = .ok (.aload_n 0, 1) := by decide +kernel
theorem rd_Text_next_69 : decode mb_Text_next 69 = .ok (.getfield 27, 3) := by decide +kernel
theorem rd_Text_next_72 : decode mb_Text_next 72 = .ok (.iconst 1, 1) := by decide +kernel
theorem rd_Text_next_73 : decode mb_Text_next 73 = .ok (.iadd, 1) := by decide +kernel
theorem rd_Text_next_74 : decode mb_Text_next 74 = .ok (.goto 7, 3) := by decide +kernel
theorem rd_Text_next_77 : decode mb_Text_next 77 = .ok (.aload_n 0, 1) := by decide +kernel
theorem rd_Text_next_78 : decode mb_Text_next 78 = .ok (.getfield 27, 3) := by decide +kernel
theorem rd_Text_next_81 : decode mb_Text_next 81 = .ok (.putfield 30, 3) := by decide +kernel
theorem rd_Text_next_84 : decode mb_Text_next 84 = .ok (.aload_n 0, 1) := by decide +kernel
theorem rd_Text_next_85 : decode mb_Text_next 85 = .ok (.getfield 24, 3) := by decide +kernel
theorem rd_Text_next_88 : decode mb_Text_next 88 = .ok (.iconst 2, 1) := by decide +kernel
theorem rd_Text_next_89 : decode mb_Text_next 89 = .ok (.if_icmp .eq 11, 3) := by decide +kernel
theorem rd_Text_next_92 : decode mb_Text_next 92 = .ok (.aload_n 0, 1) := by decide +kernel
theorem rd_Text_next_93 : decode mb_Text_next 93 = .ok (.getfield 24, 3) := by decide +kernel
theorem rd_Text_next_96 : decode mb_Text_next 96 = .ok (.iconst 3, 1) := by decide +kernel
theorem rd_Text_next_97 : decode mb_Text_next 97 = .ok (.if_icmp .ne 7, 3) := by decide +kernel
theorem rd_Text_next_100 : decode mb_Text_next 100 = .ok (.iconst 1, 1) := by decide +kernel
theorem rd_Text_next_101 : decode mb_Text_next 101 = .ok (.goto 4, 3) := by decide +kernel
theorem rd_Text_next_104 : decode mb_Text_next 104 = .ok (.iconst 0, 1) := by decide +kernel
theorem rd_Text_next_105 : decode mb_Text_next 105 = .ok (.istore_n 1, 1) := by decide +kernel
theorem rd_Text_next_106 : decode mb_Text_next 106 = .ok (.iload_n 1, 1) := by decide +kernel
theorem rd_Text_next_107 : decode mb_Text_next 107 = .ok (.ifCond .eq 42, 3) := by decide +kernel
theorem rd_Text_next_110 : decode mb_Text_next 110 = .ok (.aload_n 0, 1) := by decide +kernel
theorem rd_Text_next_111 : decode mb_Text_next 111 = .ok (.getfield 30, 3) := by decide +kernel
theorem rd_Text_next_114 : decode mb_Text_next 114 = .ok (.aload_n 0, 1) := by decide +kernel
theorem rd_Text_next_115 : decode mb_Text_next 115 = .ok (.getfield 20, 3) := by decide +kernel
theorem rd_Text_next_118 : decode mb_Text_next 118 = .ok (.if_icmp .ge 31, 3) := by decide +kernel
theorem rd_Text_next_121 : decode mb_Text_next 121 = .ok (.aload_n 0, 1) := by decide +kernel
theorem rd_Text_next_122 : decode mb_Text_next 122 = .ok (.aload_n 0, 1) := by decide +kernel
theorem rd_Text_next_123 : decode mb_Text_next 123 = .ok (.getfield 30, 3) := by decide +kernel
theorem rd_Text_next_126 : decode mb_Text_next 126 = .ok (.invokevirtual 55, 3) := by decide +kernel
theorem rd_Text_next_129 : decode mb_Text_next 129 = .ok (.aload_n 0, 1) := by decide +kernel
theorem rd_Text_next_130 : decode mb_Text_next 130 = .ok (.getfield 24, 3) := by decide +kernel
theorem rd_Text_next_133 : decode mb_Text_next 133 = .ok (.if_icmp .ne 16, 3) := by decide +kernel
theorem rd_Text_next_136 : decode mb_Text_next 136 = .ok (.aload_n 0, 1) := by decide +kernel
theorem rd_Text_next_137 : decode mb_Text_next 137 = .ok (.dup, 1) := by decide +kernel
theorem rd_Text_next_138 : decode mb_Text_next 138 = .ok (.getfield 30, 3) := by decide +kernel
theorem rd_Text_next_141 : decode mb_Text_next 141 = .ok (.iconst 1, 1) := by decide +kernel
theorem rd_Text_next_142 : decode mb_Text_next 142 = .ok (.iadd, 1) := by decide +kernel
theorem rd_Text_next_143 : decode mb_Text_next 143 = .ok (.putfield 30, 3) := by decide +kernel
theorem rd_Text_next_146 : decode mb_Text_next 146 = .ok (.goto (-40), 3) := by decide +kernel
theorem rd_Text_next_149 : decode mb_Text_next 149 = .ok (.iload_n 1, 1) := by decide +kernel
theorem rd_Text_next_150 : decode mb_Text_next 150 = .ok (.ifCond .eq 34, 3) := by decide +kernel
theorem rd_Text_next_153 : decode mb_Text_next 153 = .ok (.aload_n 0, 1) := by decide +kernel
theorem rd_Text_next_154 : decode mb_Text_next 154 = .ok (.getfield 30, 3) := by decide +kernel
theorem rd_Text_next_157 : decode mb_Text_next 157 = .ok (.aload_n 0, 1) := by decide +kernel
theorem rd_Text_next_158 : decode mb_Text_next 158 = .ok (.getfield 27, 3) := by decide +kernel
theorem rd_Text_next_161 : decode mb_Text_next 161 = .ok (.isub, 1) := by decide +kernel
theorem rd_Text_next_162 : decode mb_Text_next 162 = .ok (.aload_n 0, 1) := by decide +kernel
theorem rd_Text_next_163 : decode mb_Text_next 163 = .ok (.getfield 24, 3) := by decide +kernel
theorem rd_Text_next_166 : decode mb_Text_next 166 = .ok (.iconst 2, 1) := by decide +kernel
theorem rd_Text_next_167 : decode mb_Text_next 167 = .ok (.if_icmp .ne 8, 3) := by decide +kernel
theorem rd_Text_next_170 : decode mb_Text_next 170 = .ok (.bipush 8, 2) := by decide +kernel
theorem rd_Text_next_172 : decode mb_Text_next 172 = .ok (.goto 4, 3) := by decide +kernel
theorem rd_Text_next_175 : decode mb_Text_next 175 = .ok (.iconst 4, 1) := by decide +kernel
theorem rd_Text_next_176 : decode mb_Text_next 176 = .ok (.if_icmp .le 8, 3) := by decide +kernel
theorem rd_Text_next_179 : decode mb_Text_next 179 = .ok (.aload_n 0, 1) := by decide +kernel
theorem rd_Text_next_180 : decode mb_Text_next 180 = .ok (.iconst 5, 1) := by decide +kernel
theorem rd_Text_next_181 : decode mb_Text_next 181 = .ok (.putfield 24, 3) := by decide +kernel
theorem rd_Text_next_184 : decode mb_Text_next 184 = .ok (.return_, 1) := by decide +kernel
theorem rd_Text_readSemicolon_0 : decode mb_Text_readSemicolon 0 = .ok (.aload_n 0, 1) := by decide +kernel
theorem rd_Text_readSemicolon_1 : decode mb_Text_readSemicolon 1 = .ok (.invokevirtual 62, 3) := by decide +kernel
theorem rd_Text_readSemicolon_4 : decode mb_Text_readSemicolon 4 = .ok (.ifCond .eq 4, 3) := by decide +kernel
theorem rd_Text_readSemicolon_7 : decode mb_Text_readSemicolon 7 = .ok (.return_, 1) := by decide +kernel
theorem rd_Text_readSemicolon_8 : decode mb_Text_readSemicolon 8 = .ok (.aload_n 0, 1) := by decide +kernel
theorem rd_Text_readSemicolon_9 : decode mb_Text_readSemicolon 9 = .ok (.invokevirtual 66, 3) := by decide +kernel
theorem rd_Text_readSemicolon_12 : decode mb_Text_readSemicolon 12 = .ok (.aload_n 0, 1) := by decide +kernel
theorem rd_Text_readSemicolon_13 : decode mb_Text_readSemicolon 13 = .ok (.getfield 24, 3) := by decide +kernel
theorem rd_Text_readSemicolon_16 : decode mb_Text_readSemicolon 16 = .ok (.iconst 4, 1) := by decide +kernel
theorem rd_Text_readSemicolon_17 : decode mb_Text_readSemicolon 17 = .ok (.if_icmp .eq 8, 3) := by decide +kernel
theorem rd_Text_readSemicolon_20 : decode mb_Text_readSemicolon 20 = .ok (.aload_n 0, 1) := by decide +kernel
theorem rd_Text_readSemicolon_21 : decode mb_Text_readSemicolon 21 = .ok (.iconst 1, 1) := by decide +kernel
theorem rd_Text_readSemicolon_22 : decode mb_Text_readSemicolon 22 = .ok (.invokevirtual 69, 3) := by decide +kernel
theorem rd_Text_readSemicolon_25 : decode mb_Text_readSemicolon 25 = .ok (.return_, 1) := by decide +kernel
theorem rd_Setup_readCluster_0 : decode mb_Setup_readCluster 0 = .ok (.aload_n 1, 1) := by decide +kernel
theorem rd_Setup_readCluster_1 : decode mb_Setup_readCluster 1 = .ok (.getfield 63, 3) := by decide +kernel
theorem rd_Setup_readCluster_4 : decode mb_Setup_readCluster 4 = .ok (.bipush 6, 2) := by decide +kernel
theorem rd_Setup_readCluster_6 : decode mb_Setup_readCluster 6 = .ok (.if_icmp .lt 9, 3) := by decide +kernel
theorem rd_Setup_readCluster_9 : decode mb_Setup_readCluster 9 = .ok (.aload_n 0, 1) := by decide +kernel
theorem rd_Setup_readCluster_10 : decode mb_Setup_readCluster 10 = .ok (.bipush 6, 2) := by decide +kernel
theorem rd_Setup_readCluster_12 : decode mb_Setup_readCluster 12 = .ok (.invokevirtual 52, 3) := by decide +kernel
theorem rd_Setup_readCluster_15 : decode mb_Setup_readCluster 15 = .ok (.aload_n 1, 1) := by decide +kernel
theorem rd_Setup_readCluster_16 : decode mb_Setup_readCluster 16 = .ok (.invokevirtual 66, 3) := by decide +kernel
theorem rd_Setup_readCluster_19 : decode mb_Setup_readCluster 19 = .ok (.pop, 1) := by decide +kernel
theorem rd_Setup_readCluster_20 : decode mb_Setup_readCluster 20 = .ok (.aload_n 0, 1) := by decide +kernel
theorem rd_Setup_readCluster_21 : decode mb_Setup_readCluster 21 = .ok (.invokevirtual 60, 3) := by decide +kernel
theorem rd_Setup_readCluster_24 : decode mb_Setup_readCluster 24 = .ok (.return_, 1) := by decide +kernel
def wd_Cords_resize (cI : ClassId) (a_t a_t_starts a_t_depth a_t_topic a_t_value a_t_nibbled a_t_starts_k : Nat) (i_t_clusters : Int) (i_t_size : Int) (i_t_starts : (Int → Int)) : va_W := [(a_t, .inr (5, [jk_V i_t_clusters, jk_V i_t_size, .ref a_t_starts, .ref a_t_depth, .ref a_t_topic, .ref a_t_value, .ref a_t_nibbled])), (a_t_starts, .inr (0, [.ref a_t_starts_k])), (a_t_starts_k, jk_W cI 7 i_t_starts)]
set_option maxHeartbeats 4000000 in
set_option maxRecDepth 20000 in
theorem ct_Cords_resize (l : Launch) (D : va_G) (Z : (Nat → Prop) → State → Heap → Prop) (sq : Nat → Nat) (hZ : jk_ZK Z sq) (cI cR : ClassId) (a_t a_t_starts a_t_depth a_t_topic a_t_value a_t_nibbled a_t_starts_k : Nat) (i_t_clusters : Int) (i_t_size : Int) (i_t_starts : (Int → Int)) (x1 : Int) (x2 : Int) (q : Int × (Int → Int)) (hf : fn_Cords_resize i_t_clusters i_t_size i_t_starts x1 x2 = some q) : jk_MV l D jk_cl (jk_ty cI cR) Z mn_Cords_resize (.code mn_Cords_resize mb_Cords_resize 4 none :: jk_WA) (jk_rm 1 22) [.ref a_t, jk_V x1, jk_V x2] (wd_Cords_resize cI a_t a_t_starts a_t_depth a_t_topic a_t_value a_t_nibbled a_t_starts_k i_t_clusters i_t_size i_t_starts) (wd_Cords_resize cI a_t a_t_starts a_t_depth a_t_topic a_t_value a_t_nibbled a_t_starts_k i_t_clusters q.1 q.2) := by
  intro sz
  refine jk_body (by decide +kernel) (fun p e s m args below meth c hsz hz hin C => ?_) (Nat.le_of_ble_eq_true rfl)
  subst hsz
  unfold fn_Cords_resize at hf
  have bk_14 : ∀ (n : Nat) (t_size : Int) (t_starts : (Int → Int)) (v2 : Int) (v3 : Int), fn_Cords_resize_b14 n i_t_clusters t_size t_starts v2 v3 = some q → jk_J p l e (jk_rm 1 22) s m args below meth c 0 0 (jk_QV below D jk_cl (jk_ty cI cR) (wd_Cords_resize cI a_t a_t_starts a_t_depth a_t_topic a_t_value a_t_nibbled a_t_starts_k i_t_clusters i_t_size i_t_starts) (wd_Cords_resize cI a_t a_t_starts a_t_depth a_t_topic a_t_value a_t_nibbled a_t_starts_k i_t_clusters q.1 q.2) args s) D jk_cl (va_A (wd_Cords_resize cI a_t a_t_starts a_t_depth a_t_topic a_t_value a_t_nibbled a_t_starts_k i_t_clusters i_t_size i_t_starts) s.heap.size) 4 (wd_Cords_resize cI a_t a_t_starts a_t_depth a_t_topic a_t_value a_t_nibbled a_t_starts_k i_t_clusters t_size t_starts) [(0, .ref a_t), (2, jk_V v2), (3, jk_V v3)] 14 [] := by
    intro n
    induction n with
    | zero => intro t_size t_starts v2 v3 hf; exact nomatch (show none = some q from hf)
    | succ n ih =>
      intro t_size t_starts v2 v3 hf
      rw [fn_Cords_resize_b14] at hf
      refine jk_iload_n C rd_Cords_resize_14 (k := 2) rfl ?_
      refine jk_aload_n C rd_Cords_resize_15 (k := 0) rfl ?_
      refine jk_get C in_Cords (ci := 5) rfl 0 (by decide) tm_129 0 rfl rfl rd_Cords_resize_16 ?_
      refine jk_icmp_gt (tgt := 46) C rd_Cords_resize_19 (by decide) hf (fun _ hf => ?_) (fun _ hf => ?_)
      · cases hf
        exact jk_vret C rfl rd_Cords_resize_46 rfl
      · refine jk_aload_n C rd_Cords_resize_22 (k := 0) rfl ?_
        refine jk_get C in_Cords (ci := 5) rfl 2 (by decide) tm_137 0 rfl rfl rd_Cords_resize_23 ?_
        refine jk_iload_n C rd_Cords_resize_26 (k := 2) rfl ?_
        refine jk_aload_n C rd_Cords_resize_27 (k := 0) rfl ?_
        refine jk_get C in_Cords (ci := 5) rfl 2 (by decide) tm_137 0 rfl rfl rd_Cords_resize_28 ?_
        refine jk_iload_n C rd_Cords_resize_31 (k := 2) rfl ?_
        obtain ⟨q32, hq32, hf⟩ := jk_bind_h hf
        refine jk_callVi C hZ.1 hz (ct_Row_get l D Z sq hZ cI cR (n_t := 7) (Nat.le_of_ble_eq_true rfl) a_t_starts a_t_starts_k t_starts v3 q32 hq32) tm_363 tm_299 tm_300 tm_3 tm_301 na_Row_get ⟨Nat.le_of_ble_eq_true rfl, Nat.le_of_ble_eq_true rfl⟩ rfl [1, 2] rfl rfl rfl (ws' := wd_Cords_resize cI a_t a_t_starts a_t_depth a_t_topic a_t_value a_t_nibbled a_t_starts_k i_t_clusters t_size t_starts) rfl 1 0 rfl rfl rfl (st := [jk_V v3, .ref a_t_starts]) rfl (Nat.le_of_ble_eq_true rfl) rd_Cords_resize_32 ?_ ⟨Nat.le_of_ble_eq_true rfl, Nat.le_of_ble_eq_true rfl⟩
        refine jk_iload_n C rd_Cords_resize_35 (k := 1) rfl ?_
        refine jk_iadd C rd_Cords_resize_36 ?_
        obtain ⟨q37, hq37, hf⟩ := jk_bind_h hf
        refine jk_callVv C hZ.1 hz (ct_Row_set l D Z sq hZ cI cR (n_t := 7) (Nat.le_of_ble_eq_true rfl) a_t_starts a_t_starts_k t_starts v3 (q32 + v2) q37 hq37) tm_345 tm_264 tm_265 tm_3 tm_266 na_Row_set ⟨Nat.le_of_ble_eq_true rfl, Nat.le_of_ble_eq_true rfl⟩ rfl [1, 2] rfl rfl rfl (ws' := wd_Cords_resize cI a_t a_t_starts a_t_depth a_t_topic a_t_value a_t_nibbled a_t_starts_k i_t_clusters t_size q37) rfl 1 0 rfl rfl rfl (st := []) rfl (Nat.le_of_ble_eq_true rfl) rd_Cords_resize_37 ?_ ⟨Nat.le_of_ble_eq_true rfl, Nat.le_of_ble_eq_true rfl⟩
        refine jk_iinc C rd_Cords_resize_40 (k := 2) rfl (by decide) (lv' := [(3, jk_V (v3 + 1)), (0, .ref a_t), (2, jk_V v2)]) rfl ?_
        refine jk_goto (tgt := 14) C rd_Cords_resize_43 (by decide) ?_
        refine jk_lv (lv' := [(0, .ref a_t), (2, jk_V v2), (3, jk_V (v3 + 1))]) [1, 2, 0] rfl ?_
        exact ih t_size q37 v2 (v3 + 1) hf
  refine jk_aload_n C rd_Cords_resize_0 (k := 0) rfl ?_
  refine jk_dup C rd_Cords_resize_1 rfl ?_
  refine jk_get C in_Cords (ci := 5) rfl 1 (by decide) tm_133 0 rfl rfl rd_Cords_resize_2 ?_
  refine jk_iload_n C rd_Cords_resize_5 (k := 2) rfl ?_
  refine jk_iadd C rd_Cords_resize_6 ?_
  refine jk_putf C in_Cords ty_Cords nm_Cords (ci := 5) rfl 1 (by decide) tm_133 rfl rfl rfl 0 rfl (Nat.le_of_ble_eq_true rfl) rd_Cords_resize_7 (ws' := wd_Cords_resize cI a_t a_t_starts a_t_depth a_t_topic a_t_value a_t_nibbled a_t_starts_k i_t_clusters (i_t_size + x2) i_t_starts) rfl ?_
  refine jk_iload_n C rd_Cords_resize_10 (k := 1) rfl ?_
  refine jk_iconst C rd_Cords_resize_11 ?_
  refine jk_iadd C rd_Cords_resize_12 ?_
  refine jk_istore_n C rd_Cords_resize_13 (by decide) (lv' := [(3, jk_V (x1 + 1)), (0, .ref a_t), (1, jk_V x1), (2, jk_V x2)]) rfl ?_
  refine jk_lv (lv' := [(0, .ref a_t), (2, jk_V x2), (3, jk_V (x1 + 1))]) [1, 3, 0] rfl ?_
  exact bk_14 jk_F (i_t_size + x2) i_t_starts x2 (x1 + 1) hf
def wd_Row_insert (cI : ClassId) (n_t : Nat) (a_t a_t_k : Nat) (i_t_cells : (Int → Int)) : va_W := [(a_t, .inr (0, [.ref a_t_k])), (a_t_k, jk_W cI n_t i_t_cells)]
set_option maxHeartbeats 4000000 in
set_option maxRecDepth 20000 in
theorem ct_Row_insert (l : Launch) (D : va_G) (Z : (Nat → Prop) → State → Heap → Prop) (sq : Nat → Nat) (hZ : jk_ZK Z sq) (cI cR : ClassId) {n_t : Nat} (hn_t : n_t < 2147483648) (a_t a_t_k : Nat) (i_t_cells : (Int → Int)) (x1 : Int) (x2 : Int) (x3 : Int) (q : (Int → Int)) (hf : fn_Row_insert (n_t : Int) i_t_cells x1 x2 x3 = some q) : jk_MV l D jk_cl (jk_ty cI cR) Z mn_Row_insert (.code mn_Row_insert mb_Row_insert 5 none :: jk_WA) (jk_rm 1 22) [.ref a_t, jk_V x1, jk_V x2, jk_V x3] (wd_Row_insert cI n_t a_t a_t_k i_t_cells) (wd_Row_insert cI n_t a_t a_t_k q) := by
  intro sz
  refine jk_body (by decide +kernel) (fun p e s m args below meth c hsz hz hin C => ?_) (Nat.le_of_ble_eq_true rfl)
  subst hsz
  unfold fn_Row_insert at hf
  have bk_3 : ∀ (n : Nat) (t_cells : (Int → Int)) (v1 : Int) (v2 : Int) (v4 : Int), fn_Row_insert_b3 n (n_t : Int) t_cells v1 v2 v4 = some q → jk_J p l e (jk_rm 1 22) s m args below meth c 0 0 (jk_QV below D jk_cl (jk_ty cI cR) (wd_Row_insert cI n_t a_t a_t_k i_t_cells) (wd_Row_insert cI n_t a_t a_t_k q) args s) D jk_cl (va_A (wd_Row_insert cI n_t a_t a_t_k i_t_cells) s.heap.size) 5 (wd_Row_insert cI n_t a_t a_t_k t_cells) [(0, .ref a_t), (1, jk_V v1), (2, jk_V v2), (4, jk_V v4)] 3 [] := by
    intro n
    induction n with
    | zero => intro t_cells v1 v2 v4 hf; exact nomatch (show none = some q from hf)
    | succ n ih =>
      intro t_cells v1 v2 v4 hf
      rw [fn_Row_insert_b3] at hf
      refine jk_iload C rd_Row_insert_3 (k := 3) rfl ?_
      refine jk_iload_n C rd_Row_insert_5 (k := 1) rfl ?_
      refine jk_icmp_le (tgt := 29) C rd_Row_insert_6 (by decide) hf (fun _ hf => ?_) (fun _ hf => ?_)
      · refine jk_aload_n C rd_Row_insert_29 (k := 0) rfl ?_
        refine jk_iload_n C rd_Row_insert_30 (k := 1) rfl ?_
        refine jk_iload_n C rd_Row_insert_31 (k := 2) rfl ?_
        obtain ⟨q32, hq32, hf⟩ := jk_bind_h hf
        refine jk_callVv C hZ.1 hz (ct_Row_set l D Z sq hZ cI cR (n_t := n_t) hn_t a_t a_t_k t_cells v1 v2 q32 hq32) tm_403 tm_264 tm_265 tm_3 tm_266 na_Row_set ⟨Nat.le_of_ble_eq_true rfl, Nat.le_of_ble_eq_true rfl⟩ rfl [0, 1] rfl rfl rfl (ws' := wd_Row_insert cI n_t a_t a_t_k q32) rfl 0 0 rfl rfl rfl (st := []) rfl (Nat.le_of_ble_eq_true rfl) rd_Row_insert_32 ?_ ⟨Nat.le_of_ble_eq_true rfl, Nat.le_of_ble_eq_true rfl⟩
        cases hf
        exact jk_vret C rfl rd_Row_insert_35 rfl
      · refine jk_aload_n C rd_Row_insert_9 (k := 0) rfl ?_
        refine jk_iload C rd_Row_insert_10 (k := 3) rfl ?_
        refine jk_aload_n C rd_Row_insert_12 (k := 0) rfl ?_
        refine jk_iload C rd_Row_insert_13 (k := 3) rfl ?_
        refine jk_iconst C rd_Row_insert_15 ?_
        refine jk_isub C rd_Row_insert_16 ?_
        obtain ⟨q17, hq17, hf⟩ := jk_bind_h hf
        refine jk_callVi C hZ.1 hz (ct_Row_get l D Z sq hZ cI cR (n_t := n_t) hn_t a_t a_t_k t_cells (v4 - 1) q17 hq17) tm_402 tm_299 tm_300 tm_3 tm_301 na_Row_get ⟨Nat.le_of_ble_eq_true rfl, Nat.le_of_ble_eq_true rfl⟩ rfl [0, 1] rfl rfl rfl (ws' := wd_Row_insert cI n_t a_t a_t_k t_cells) rfl 0 0 rfl rfl rfl (st := [jk_V v4, .ref a_t]) rfl (Nat.le_of_ble_eq_true rfl) rd_Row_insert_17 ?_ ⟨Nat.le_of_ble_eq_true rfl, Nat.le_of_ble_eq_true rfl⟩
        obtain ⟨q20, hq20, hf⟩ := jk_bind_h hf
        refine jk_callVv C hZ.1 hz (ct_Row_set l D Z sq hZ cI cR (n_t := n_t) hn_t a_t a_t_k t_cells v4 q17 q20 hq20) tm_403 tm_264 tm_265 tm_3 tm_266 na_Row_set ⟨Nat.le_of_ble_eq_true rfl, Nat.le_of_ble_eq_true rfl⟩ rfl [0, 1] rfl rfl rfl (ws' := wd_Row_insert cI n_t a_t a_t_k q20) rfl 0 0 rfl rfl rfl (st := []) rfl (Nat.le_of_ble_eq_true rfl) rd_Row_insert_20 ?_ ⟨Nat.le_of_ble_eq_true rfl, Nat.le_of_ble_eq_true rfl⟩
        refine jk_iinc C rd_Row_insert_23 (k := 3) rfl (by decide) (lv' := [(4, jk_V (v4 + (-1))), (0, .ref a_t), (1, jk_V v1), (2, jk_V v2)]) rfl ?_
        refine jk_goto (tgt := 3) C rd_Row_insert_26 (by decide) ?_
        refine jk_lv (lv' := [(0, .ref a_t), (1, jk_V v1), (2, jk_V v2), (4, jk_V (v4 + (-1)))]) [1, 2, 3, 0] rfl ?_
        exact ih q20 v1 v2 (v4 + (-1)) hf
  refine jk_iload_n C rd_Row_insert_0 (k := 3) rfl ?_
  refine jk_istore C rd_Row_insert_1 (by decide) (lv' := [(4, jk_V x3), (0, .ref a_t), (1, jk_V x1), (2, jk_V x2), (3, jk_V x3)]) rfl ?_
  refine jk_lv (lv' := [(0, .ref a_t), (1, jk_V x1), (2, jk_V x2), (4, jk_V x3)]) [1, 2, 3, 0] rfl ?_
  exact bk_3 jk_F i_t_cells x1 x2 x3 hf
def wd_Cords_insert (cI : ClassId) (a_t a_t_starts a_t_depth a_t_topic a_t_value a_t_nibbled a_t_starts_k a_t_depth_k a_t_topic_k a_t_value_k a_t_nibbled_k : Nat) (i_t_clusters : Int) (i_t_size : Int) (i_t_starts : (Int → Int)) (i_t_depth : (Int → Int)) (i_t_topic : (Int → Int)) (i_t_value : (Int → Int)) (i_t_nibbled : (Int → Int)) : va_W := [(a_t, .inr (5, [jk_V i_t_clusters, jk_V i_t_size, .ref a_t_starts, .ref a_t_depth, .ref a_t_topic, .ref a_t_value, .ref a_t_nibbled])), (a_t_starts, .inr (0, [.ref a_t_starts_k])), (a_t_starts_k, jk_W cI 7 i_t_starts), (a_t_depth, .inr (0, [.ref a_t_depth_k])), (a_t_depth_k, jk_W cI 40 i_t_depth), (a_t_topic, .inr (0, [.ref a_t_topic_k])), (a_t_topic_k, jk_W cI 40 i_t_topic), (a_t_value, .inr (0, [.ref a_t_value_k])), (a_t_value_k, jk_W cI 40 i_t_value), (a_t_nibbled, .inr (0, [.ref a_t_nibbled_k])), (a_t_nibbled_k, jk_W cI 40 i_t_nibbled)]
set_option maxHeartbeats 4000000 in
set_option maxRecDepth 20000 in
theorem ct_Cords_insert (l : Launch) (D : va_G) (Z : (Nat → Prop) → State → Heap → Prop) (sq : Nat → Nat) (hZ : jk_ZK Z sq) (cI cR : ClassId) (a_t a_t_starts a_t_depth a_t_topic a_t_value a_t_nibbled a_t_starts_k a_t_depth_k a_t_topic_k a_t_value_k a_t_nibbled_k : Nat) (i_t_clusters : Int) (i_t_size : Int) (i_t_starts : (Int → Int)) (i_t_depth : (Int → Int)) (i_t_topic : (Int → Int)) (i_t_value : (Int → Int)) (i_t_nibbled : (Int → Int)) (x1 : Int) (x2 : Int) (x3 : Int) (x4 : Int) (x5 : Int) (q : Int × Int × (Int → Int) × (Int → Int) × (Int → Int) × (Int → Int) × (Int → Int)) (hf : fn_Cords_insert i_t_clusters i_t_size i_t_starts i_t_depth i_t_topic i_t_value i_t_nibbled x1 x2 x3 x4 x5 = some q) : jk_MI l D jk_cl (jk_ty cI cR) Z mn_Cords_insert (.code mn_Cords_insert mb_Cords_insert 6 (some .int) :: jk_WA) (jk_rm 2 46) [.ref a_t, jk_V x1, jk_V x2, jk_V x3, jk_V x4, jk_V x5] (wd_Cords_insert cI a_t a_t_starts a_t_depth a_t_topic a_t_value a_t_nibbled a_t_starts_k a_t_depth_k a_t_topic_k a_t_value_k a_t_nibbled_k i_t_clusters i_t_size i_t_starts i_t_depth i_t_topic i_t_value i_t_nibbled) (wd_Cords_insert cI a_t a_t_starts a_t_depth a_t_topic a_t_value a_t_nibbled a_t_starts_k a_t_depth_k a_t_topic_k a_t_value_k a_t_nibbled_k i_t_clusters q.2.1 q.2.2.1 q.2.2.2.1 q.2.2.2.2.1 q.2.2.2.2.2.1 q.2.2.2.2.2.2) q.1 := by
  intro sz
  refine jk_body (by decide +kernel) (fun p e s m args below meth c hsz hz hin C => ?_) (Nat.le_of_ble_eq_true rfl)
  subst hsz
  unfold fn_Cords_insert at hf
  refine jk_aload_n C rd_Cords_insert_0 (k := 0) rfl ?_
  refine jk_get C in_Cords (ci := 5) rfl 1 (by decide) tm_133 0 rfl rfl rd_Cords_insert_1 ?_
  refine jk_bipush C rd_Cords_insert_4 (by decide +kernel) ?_
  refine jk_icmp_lt (tgt := 11) C rd_Cords_insert_6 (by decide) hf (fun _ hf => ?_) (fun _ hf => ?_)
  · refine jk_aload_n C rd_Cords_insert_11 (k := 0) rfl ?_
    refine jk_get C in_Cords (ci := 5) rfl 3 (by decide) tm_138 0 rfl rfl rd_Cords_insert_12 ?_
    refine jk_iload_n C rd_Cords_insert_15 (k := 1) rfl ?_
    refine jk_iload_n C rd_Cords_insert_16 (k := 3) rfl ?_
    refine jk_aload_n C rd_Cords_insert_17 (k := 0) rfl ?_
    refine jk_get C in_Cords (ci := 5) rfl 1 (by decide) tm_133 0 rfl rfl rd_Cords_insert_18 ?_
    obtain ⟨q21, hq21, hf⟩ := jk_bind_h hf
    refine jk_callVv C hZ.1 hz (ct_Row_insert l D Z sq hZ cI cR (n_t := 40) (Nat.le_of_ble_eq_true rfl) a_t_depth a_t_depth_k i_t_depth x1 x3 i_t_size q21 hq21) tm_398 tm_399 tm_400 tm_3 tm_401 na_Row_insert ⟨Nat.le_of_ble_eq_true rfl, Nat.le_of_ble_eq_true rfl⟩ rfl [3, 4] rfl rfl rfl (ws' := wd_Cords_insert cI a_t a_t_starts a_t_depth a_t_topic a_t_value a_t_nibbled a_t_starts_k a_t_depth_k a_t_topic_k a_t_value_k a_t_nibbled_k i_t_clusters i_t_size i_t_starts q21 i_t_topic i_t_value i_t_nibbled) rfl 3 0 rfl rfl rfl (st := []) rfl (Nat.le_of_ble_eq_true rfl) rd_Cords_insert_21 ?_ ⟨Nat.le_of_ble_eq_true rfl, Nat.le_of_ble_eq_true rfl⟩
    refine jk_aload_n C rd_Cords_insert_24 (k := 0) rfl ?_
    refine jk_get C in_Cords (ci := 5) rfl 4 (by decide) tm_141 0 rfl rfl rd_Cords_insert_25 ?_
    refine jk_iload_n C rd_Cords_insert_28 (k := 1) rfl ?_
    refine jk_iload C rd_Cords_insert_29 (k := 4) rfl ?_
    refine jk_aload_n C rd_Cords_insert_31 (k := 0) rfl ?_
    refine jk_get C in_Cords (ci := 5) rfl 1 (by decide) tm_133 0 rfl rfl rd_Cords_insert_32 ?_
    obtain ⟨q35, hq35, hf⟩ := jk_bind_h hf
    refine jk_callVv C hZ.1 hz (ct_Row_insert l D Z sq hZ cI cR (n_t := 40) (Nat.le_of_ble_eq_true rfl) a_t_topic a_t_topic_k i_t_topic x1 x4 i_t_size q35 hq35) tm_398 tm_399 tm_400 tm_3 tm_401 na_Row_insert ⟨Nat.le_of_ble_eq_true rfl, Nat.le_of_ble_eq_true rfl⟩ rfl [5, 6] rfl rfl rfl (ws' := wd_Cords_insert cI a_t a_t_starts a_t_depth a_t_topic a_t_value a_t_nibbled a_t_starts_k a_t_depth_k a_t_topic_k a_t_value_k a_t_nibbled_k i_t_clusters i_t_size i_t_starts q21 q35 i_t_value i_t_nibbled) rfl 5 0 rfl rfl rfl (st := []) rfl (Nat.le_of_ble_eq_true rfl) rd_Cords_insert_35 ?_ ⟨Nat.le_of_ble_eq_true rfl, Nat.le_of_ble_eq_true rfl⟩
    refine jk_aload_n C rd_Cords_insert_38 (k := 0) rfl ?_
    refine jk_get C in_Cords (ci := 5) rfl 5 (by decide) tm_143 0 rfl rfl rd_Cords_insert_39 ?_
    refine jk_iload_n C rd_Cords_insert_42 (k := 1) rfl ?_
    refine jk_iload C rd_Cords_insert_43 (k := 5) rfl ?_
    refine jk_aload_n C rd_Cords_insert_45 (k := 0) rfl ?_
    refine jk_get C in_Cords (ci := 5) rfl 1 (by decide) tm_133 0 rfl rfl rd_Cords_insert_46 ?_
    obtain ⟨q49, hq49, hf⟩ := jk_bind_h hf
    refine jk_callVv C hZ.1 hz (ct_Row_insert l D Z sq hZ cI cR (n_t := 40) (Nat.le_of_ble_eq_true rfl) a_t_value a_t_value_k i_t_value x1 x5 i_t_size q49 hq49) tm_398 tm_399 tm_400 tm_3 tm_401 na_Row_insert ⟨Nat.le_of_ble_eq_true rfl, Nat.le_of_ble_eq_true rfl⟩ rfl [7, 8] rfl rfl rfl (ws' := wd_Cords_insert cI a_t a_t_starts a_t_depth a_t_topic a_t_value a_t_nibbled a_t_starts_k a_t_depth_k a_t_topic_k a_t_value_k a_t_nibbled_k i_t_clusters i_t_size i_t_starts q21 q35 q49 i_t_nibbled) rfl 7 0 rfl rfl rfl (st := []) rfl (Nat.le_of_ble_eq_true rfl) rd_Cords_insert_49 ?_ ⟨Nat.le_of_ble_eq_true rfl, Nat.le_of_ble_eq_true rfl⟩
    refine jk_aload_n C rd_Cords_insert_52 (k := 0) rfl ?_
    refine jk_get C in_Cords (ci := 5) rfl 6 (by decide) tm_146 0 rfl rfl rd_Cords_insert_53 ?_
    refine jk_iload_n C rd_Cords_insert_56 (k := 1) rfl ?_
    refine jk_iconst C rd_Cords_insert_57 ?_
    refine jk_aload_n C rd_Cords_insert_58 (k := 0) rfl ?_
    refine jk_get C in_Cords (ci := 5) rfl 1 (by decide) tm_133 0 rfl rfl rd_Cords_insert_59 ?_
    obtain ⟨q62, hq62, hf⟩ := jk_bind_h hf
    refine jk_callVv C hZ.1 hz (ct_Row_insert l D Z sq hZ cI cR (n_t := 40) (Nat.le_of_ble_eq_true rfl) a_t_nibbled a_t_nibbled_k i_t_nibbled x1 0 i_t_size q62 hq62) tm_398 tm_399 tm_400 tm_3 tm_401 na_Row_insert ⟨Nat.le_of_ble_eq_true rfl, Nat.le_of_ble_eq_true rfl⟩ rfl [9, 10] rfl rfl rfl (ws' := wd_Cords_insert cI a_t a_t_starts a_t_depth a_t_topic a_t_value a_t_nibbled a_t_starts_k a_t_depth_k a_t_topic_k a_t_value_k a_t_nibbled_k i_t_clusters i_t_size i_t_starts q21 q35 q49 q62) rfl 9 0 rfl rfl rfl (st := []) rfl (Nat.le_of_ble_eq_true rfl) rd_Cords_insert_62 ?_ ⟨Nat.le_of_ble_eq_true rfl, Nat.le_of_ble_eq_true rfl⟩
    refine jk_aload_n C rd_Cords_insert_65 (k := 0) rfl ?_
    refine jk_iload_n C rd_Cords_insert_66 (k := 2) rfl ?_
    refine jk_iconst C rd_Cords_insert_67 ?_
    obtain ⟨q68, hq68, hf⟩ := jk_bind_h hf
    refine jk_callVv C hZ.1 hz (ct_Cords_resize l D Z sq hZ cI cR a_t a_t_starts a_t_depth a_t_topic a_t_value a_t_nibbled a_t_starts_k i_t_clusters i_t_size i_t_starts x2 1 q68 hq68) tm_404 tm_406 sl_3 tm_6 tm_407 na_Cords_resize ⟨Nat.le_of_ble_eq_true rfl, Nat.le_of_ble_eq_true rfl⟩ rfl [0, 1, 2] rfl rfl rfl (ws' := wd_Cords_insert cI a_t a_t_starts a_t_depth a_t_topic a_t_value a_t_nibbled a_t_starts_k a_t_depth_k a_t_topic_k a_t_value_k a_t_nibbled_k i_t_clusters q68.1 q68.2 q21 q35 q49 q62) rfl 0 5 rfl rfl rfl (st := []) rfl (Nat.le_of_ble_eq_true rfl) rd_Cords_insert_68 ?_ ⟨Nat.le_of_ble_eq_true rfl, Nat.le_of_ble_eq_true rfl⟩
    refine jk_iload_n C rd_Cords_insert_71 (k := 1) rfl ?_
    cases hf
    exact jk_iret C rfl rd_Cords_insert_72 rfl
  · refine jk_iconst C rd_Cords_insert_9 ?_
    cases hf
    exact jk_iret C rfl rd_Cords_insert_10 rfl
def wd_Row_remove (cI : ClassId) (n_t : Nat) (a_t a_t_k : Nat) (i_t_cells : (Int → Int)) : va_W := [(a_t, .inr (0, [.ref a_t_k])), (a_t_k, jk_W cI n_t i_t_cells)]
set_option maxHeartbeats 4000000 in
set_option maxRecDepth 20000 in
theorem ct_Row_remove (l : Launch) (D : va_G) (Z : (Nat → Prop) → State → Heap → Prop) (sq : Nat → Nat) (hZ : jk_ZK Z sq) (cI cR : ClassId) {n_t : Nat} (hn_t : n_t < 2147483648) (a_t a_t_k : Nat) (i_t_cells : (Int → Int)) (x1 : Int) (x2 : Int) (x3 : Int) (q : (Int → Int)) (hf : fn_Row_remove (n_t : Int) i_t_cells x1 x2 x3 = some q) : jk_MV l D jk_cl (jk_ty cI cR) Z mn_Row_remove (.code mn_Row_remove mb_Row_remove 5 none :: jk_WA) (jk_rm 1 22) [.ref a_t, jk_V x1, jk_V x2, jk_V x3] (wd_Row_remove cI n_t a_t a_t_k i_t_cells) (wd_Row_remove cI n_t a_t a_t_k q) := by
  intro sz
  refine jk_body (by decide +kernel) (fun p e s m args below meth c hsz hz hin C => ?_) (Nat.le_of_ble_eq_true rfl)
  subst hsz
  unfold fn_Row_remove at hf
  have bk_3 : ∀ (n : Nat) (t_cells : (Int → Int)) (v1 : Int) (v2 : Int) (v3 : Int) (v4 : Int), fn_Row_remove_b3 n (n_t : Int) t_cells v1 v2 v3 v4 = some q → jk_J p l e (jk_rm 1 22) s m args below meth c 0 0 (jk_QV below D jk_cl (jk_ty cI cR) (wd_Row_remove cI n_t a_t a_t_k i_t_cells) (wd_Row_remove cI n_t a_t a_t_k q) args s) D jk_cl (va_A (wd_Row_remove cI n_t a_t a_t_k i_t_cells) s.heap.size) 5 (wd_Row_remove cI n_t a_t a_t_k t_cells) [(0, .ref a_t), (1, jk_V v1), (2, jk_V v2), (3, jk_V v3), (4, jk_V v4)] 3 [] := by
    intro n
    induction n with
    | zero => intro t_cells v1 v2 v3 v4 hf; exact nomatch (show none = some q from hf)
    | succ n ih =>
      intro t_cells v1 v2 v3 v4 hf
      rw [fn_Row_remove_b3] at hf
      refine jk_iload C rd_Row_remove_3 (k := 4) rfl ?_
      refine jk_iload_n C rd_Row_remove_5 (k := 3) rfl ?_
      refine jk_iload_n C rd_Row_remove_6 (k := 2) rfl ?_
      refine jk_isub C rd_Row_remove_7 ?_
      refine jk_icmp_ge (tgt := 33) C rd_Row_remove_8 (by decide) hf (fun _ hf => ?_) (fun _ hf => ?_)
      · cases hf
        exact jk_vret C rfl rd_Row_remove_33 rfl
      · refine jk_aload_n C rd_Row_remove_11 (k := 0) rfl ?_
        refine jk_iload_n C rd_Row_remove_12 (k := 1) rfl ?_
        refine jk_iload C rd_Row_remove_13 (k := 4) rfl ?_
        refine jk_iadd C rd_Row_remove_15 ?_
        refine jk_aload_n C rd_Row_remove_16 (k := 0) rfl ?_
        refine jk_iload_n C rd_Row_remove_17 (k := 2) rfl ?_
        refine jk_iload C rd_Row_remove_18 (k := 4) rfl ?_
        refine jk_iadd C rd_Row_remove_20 ?_
        obtain ⟨q21, hq21, hf⟩ := jk_bind_h hf
        refine jk_callVi C hZ.1 hz (ct_Row_get l D Z sq hZ cI cR (n_t := n_t) hn_t a_t a_t_k t_cells (v2 + v4) q21 hq21) tm_402 tm_299 tm_300 tm_3 tm_301 na_Row_get ⟨Nat.le_of_ble_eq_true rfl, Nat.le_of_ble_eq_true rfl⟩ rfl [0, 1] rfl rfl rfl (ws' := wd_Row_remove cI n_t a_t a_t_k t_cells) rfl 0 0 rfl rfl rfl (st := [jk_V (v1 + v4), .ref a_t]) rfl (Nat.le_of_ble_eq_true rfl) rd_Row_remove_21 ?_ ⟨Nat.le_of_ble_eq_true rfl, Nat.le_of_ble_eq_true rfl⟩
        obtain ⟨q24, hq24, hf⟩ := jk_bind_h hf
        refine jk_callVv C hZ.1 hz (ct_Row_set l D Z sq hZ cI cR (n_t := n_t) hn_t a_t a_t_k t_cells (v1 + v4) q21 q24 hq24) tm_403 tm_264 tm_265 tm_3 tm_266 na_Row_set ⟨Nat.le_of_ble_eq_true rfl, Nat.le_of_ble_eq_true rfl⟩ rfl [0, 1] rfl rfl rfl (ws' := wd_Row_remove cI n_t a_t a_t_k q24) rfl 0 0 rfl rfl rfl (st := []) rfl (Nat.le_of_ble_eq_true rfl) rd_Row_remove_24 ?_ ⟨Nat.le_of_ble_eq_true rfl, Nat.le_of_ble_eq_true rfl⟩
        refine jk_iinc C rd_Row_remove_27 (k := 4) rfl (by decide) (lv' := [(4, jk_V (v4 + 1)), (0, .ref a_t), (1, jk_V v1), (2, jk_V v2), (3, jk_V v3)]) rfl ?_
        refine jk_goto (tgt := 3) C rd_Row_remove_30 (by decide) ?_
        refine jk_lv (lv' := [(0, .ref a_t), (1, jk_V v1), (2, jk_V v2), (3, jk_V v3), (4, jk_V (v4 + 1))]) [1, 2, 3, 4, 0] rfl ?_
        exact ih q24 v1 v2 v3 (v4 + 1) hf
  refine jk_iconst C rd_Row_remove_0 ?_
  refine jk_istore C rd_Row_remove_1 (by decide) (lv' := [(4, jk_V 0), (0, .ref a_t), (1, jk_V x1), (2, jk_V x2), (3, jk_V x3)]) rfl ?_
  refine jk_lv (lv' := [(0, .ref a_t), (1, jk_V x1), (2, jk_V x2), (3, jk_V x3), (4, jk_V 0)]) [1, 2, 3, 4, 0] rfl ?_
  exact bk_3 jk_F i_t_cells x1 x2 x3 0 hf
def wd_Cords_remove (cI : ClassId) (a_t a_t_starts a_t_depth a_t_topic a_t_value a_t_nibbled a_t_starts_k a_t_depth_k a_t_topic_k a_t_value_k a_t_nibbled_k : Nat) (i_t_clusters : Int) (i_t_size : Int) (i_t_starts : (Int → Int)) (i_t_depth : (Int → Int)) (i_t_topic : (Int → Int)) (i_t_value : (Int → Int)) (i_t_nibbled : (Int → Int)) : va_W := [(a_t, .inr (5, [jk_V i_t_clusters, jk_V i_t_size, .ref a_t_starts, .ref a_t_depth, .ref a_t_topic, .ref a_t_value, .ref a_t_nibbled])), (a_t_starts, .inr (0, [.ref a_t_starts_k])), (a_t_starts_k, jk_W cI 7 i_t_starts), (a_t_depth, .inr (0, [.ref a_t_depth_k])), (a_t_depth_k, jk_W cI 40 i_t_depth), (a_t_topic, .inr (0, [.ref a_t_topic_k])), (a_t_topic_k, jk_W cI 40 i_t_topic), (a_t_value, .inr (0, [.ref a_t_value_k])), (a_t_value_k, jk_W cI 40 i_t_value), (a_t_nibbled, .inr (0, [.ref a_t_nibbled_k])), (a_t_nibbled_k, jk_W cI 40 i_t_nibbled)]
set_option maxHeartbeats 4000000 in
set_option maxRecDepth 20000 in
theorem ct_Cords_remove (l : Launch) (D : va_G) (Z : (Nat → Prop) → State → Heap → Prop) (sq : Nat → Nat) (hZ : jk_ZK Z sq) (cI cR : ClassId) (a_t a_t_starts a_t_depth a_t_topic a_t_value a_t_nibbled a_t_starts_k a_t_depth_k a_t_topic_k a_t_value_k a_t_nibbled_k : Nat) (i_t_clusters : Int) (i_t_size : Int) (i_t_starts : (Int → Int)) (i_t_depth : (Int → Int)) (i_t_topic : (Int → Int)) (i_t_value : (Int → Int)) (i_t_nibbled : (Int → Int)) (x1 : Int) (x2 : Int) (q : Int × Int × (Int → Int) × (Int → Int) × (Int → Int) × (Int → Int) × (Int → Int)) (hf : fn_Cords_remove i_t_clusters i_t_size i_t_starts i_t_depth i_t_topic i_t_value i_t_nibbled x1 x2 = some q) : jk_MI l D jk_cl (jk_ty cI cR) Z mn_Cords_remove (.code mn_Cords_remove mb_Cords_remove 4 (some .int) :: jk_WA) (jk_rm 2 46) [.ref a_t, jk_V x1, jk_V x2] (wd_Cords_remove cI a_t a_t_starts a_t_depth a_t_topic a_t_value a_t_nibbled a_t_starts_k a_t_depth_k a_t_topic_k a_t_value_k a_t_nibbled_k i_t_clusters i_t_size i_t_starts i_t_depth i_t_topic i_t_value i_t_nibbled) (wd_Cords_remove cI a_t a_t_starts a_t_depth a_t_topic a_t_value a_t_nibbled a_t_starts_k a_t_depth_k a_t_topic_k a_t_value_k a_t_nibbled_k i_t_clusters q.2.1 q.2.2.1 q.2.2.2.1 q.2.2.2.2.1 q.2.2.2.2.2.1 q.2.2.2.2.2.2) q.1 := by
  intro sz
  refine jk_body (by decide +kernel) (fun p e s m args below meth c hsz hz hin C => ?_) (Nat.le_of_ble_eq_true rfl)
  subst hsz
  unfold fn_Cords_remove at hf
  refine jk_aload_n C rd_Cords_remove_0 (k := 0) rfl ?_
  refine jk_iload_n C rd_Cords_remove_1 (k := 1) rfl ?_
  obtain ⟨q2, hq2, hf⟩ := jk_bind_h hf
  refine jk_callVi C hZ.1 hz (ct_Cords_clusterAt l D Z sq hZ cI cR a_t a_t_starts a_t_depth a_t_topic a_t_value a_t_nibbled a_t_starts_k i_t_clusters i_t_size i_t_starts x1 q2 hq2) tm_1271 tm_510 tm_511 tm_6 tm_512 na_Cords_clusterAt ⟨Nat.le_of_ble_eq_true rfl, Nat.le_of_ble_eq_true rfl⟩ rfl [0, 1, 2] rfl rfl rfl (ws' := wd_Cords_remove cI a_t a_t_starts a_t_depth a_t_topic a_t_value a_t_nibbled a_t_starts_k a_t_depth_k a_t_topic_k a_t_value_k a_t_nibbled_k i_t_clusters i_t_size i_t_starts i_t_depth i_t_topic i_t_value i_t_nibbled) rfl 0 5 rfl rfl rfl (st := []) rfl (Nat.le_of_ble_eq_true rfl) rd_Cords_remove_2 ?_ ⟨Nat.le_of_ble_eq_true rfl, Nat.le_of_ble_eq_true rfl⟩
  refine jk_istore_n C rd_Cords_remove_5 (by decide) (lv' := [(3, jk_V q2), (0, .ref a_t), (1, jk_V x1), (2, jk_V x2)]) rfl ?_
  refine jk_aload_n C rd_Cords_remove_6 (k := 1) rfl ?_
  refine jk_get C in_Cords (ci := 5) rfl 3 (by decide) tm_138 0 rfl rfl rd_Cords_remove_7 ?_
  refine jk_iload_n C rd_Cords_remove_10 (k := 2) rfl ?_
  refine jk_iload_n C rd_Cords_remove_11 (k := 3) rfl ?_
  refine jk_aload_n C rd_Cords_remove_12 (k := 1) rfl ?_
  refine jk_get C in_Cords (ci := 5) rfl 1 (by decide) tm_133 0 rfl rfl rd_Cords_remove_13 ?_
  obtain ⟨q16, hq16, hf⟩ := jk_bind_h hf
  refine jk_callVv C hZ.1 hz (ct_Row_remove l D Z sq hZ cI cR (n_t := 40) (Nat.le_of_ble_eq_true rfl) a_t_depth a_t_depth_k i_t_depth x1 x2 i_t_size q16 hq16) tm_1272 tm_1273 tm_1274 tm_3 tm_1275 na_Row_remove ⟨Nat.le_of_ble_eq_true rfl, Nat.le_of_ble_eq_true rfl⟩ rfl [3, 4] rfl rfl rfl (ws' := wd_Cords_remove cI a_t a_t_starts a_t_depth a_t_topic a_t_value a_t_nibbled a_t_starts_k a_t_depth_k a_t_topic_k a_t_value_k a_t_nibbled_k i_t_clusters i_t_size i_t_starts q16 i_t_topic i_t_value i_t_nibbled) rfl 3 0 rfl rfl rfl (st := []) rfl (Nat.le_of_ble_eq_true rfl) rd_Cords_remove_16 ?_ ⟨Nat.le_of_ble_eq_true rfl, Nat.le_of_ble_eq_true rfl⟩
  refine jk_aload_n C rd_Cords_remove_19 (k := 1) rfl ?_
  refine jk_get C in_Cords (ci := 5) rfl 4 (by decide) tm_141 0 rfl rfl rd_Cords_remove_20 ?_
  refine jk_iload_n C rd_Cords_remove_23 (k := 2) rfl ?_
  refine jk_iload_n C rd_Cords_remove_24 (k := 3) rfl ?_
  refine jk_aload_n C rd_Cords_remove_25 (k := 1) rfl ?_
  refine jk_get C in_Cords (ci := 5) rfl 1 (by decide) tm_133 0 rfl rfl rd_Cords_remove_26 ?_
  obtain ⟨q29, hq29, hf⟩ := jk_bind_h hf
  refine jk_callVv C hZ.1 hz (ct_Row_remove l D Z sq hZ cI cR (n_t := 40) (Nat.le_of_ble_eq_true rfl) a_t_topic a_t_topic_k i_t_topic x1 x2 i_t_size q29 hq29) tm_1272 tm_1273 tm_1274 tm_3 tm_1275 na_Row_remove ⟨Nat.le_of_ble_eq_true rfl, Nat.le_of_ble_eq_true rfl⟩ rfl [5, 6] rfl rfl rfl (ws' := wd_Cords_remove cI a_t a_t_starts a_t_depth a_t_topic a_t_value a_t_nibbled a_t_starts_k a_t_depth_k a_t_topic_k a_t_value_k a_t_nibbled_k i_t_clusters i_t_size i_t_starts q16 q29 i_t_value i_t_nibbled) rfl 5 0 rfl rfl rfl (st := []) rfl (Nat.le_of_ble_eq_true rfl) rd_Cords_remove_29 ?_ ⟨Nat.le_of_ble_eq_true rfl, Nat.le_of_ble_eq_true rfl⟩
  refine jk_aload_n C rd_Cords_remove_32 (k := 1) rfl ?_
  refine jk_get C in_Cords (ci := 5) rfl 5 (by decide) tm_143 0 rfl rfl rd_Cords_remove_33 ?_
  refine jk_iload_n C rd_Cords_remove_36 (k := 2) rfl ?_
  refine jk_iload_n C rd_Cords_remove_37 (k := 3) rfl ?_
  refine jk_aload_n C rd_Cords_remove_38 (k := 1) rfl ?_
  refine jk_get C in_Cords (ci := 5) rfl 1 (by decide) tm_133 0 rfl rfl rd_Cords_remove_39 ?_
  obtain ⟨q42, hq42, hf⟩ := jk_bind_h hf
  refine jk_callVv C hZ.1 hz (ct_Row_remove l D Z sq hZ cI cR (n_t := 40) (Nat.le_of_ble_eq_true rfl) a_t_value a_t_value_k i_t_value x1 x2 i_t_size q42 hq42) tm_1272 tm_1273 tm_1274 tm_3 tm_1275 na_Row_remove ⟨Nat.le_of_ble_eq_true rfl, Nat.le_of_ble_eq_true rfl⟩ rfl [7, 8] rfl rfl rfl (ws' := wd_Cords_remove cI a_t a_t_starts a_t_depth a_t_topic a_t_value a_t_nibbled a_t_starts_k a_t_depth_k a_t_topic_k a_t_value_k a_t_nibbled_k i_t_clusters i_t_size i_t_starts q16 q29 q42 i_t_nibbled) rfl 7 0 rfl rfl rfl (st := []) rfl (Nat.le_of_ble_eq_true rfl) rd_Cords_remove_42 ?_ ⟨Nat.le_of_ble_eq_true rfl, Nat.le_of_ble_eq_true rfl⟩
  refine jk_aload_n C rd_Cords_remove_45 (k := 1) rfl ?_
  refine jk_get C in_Cords (ci := 5) rfl 6 (by decide) tm_146 0 rfl rfl rd_Cords_remove_46 ?_
  refine jk_iload_n C rd_Cords_remove_49 (k := 2) rfl ?_
  refine jk_iload_n C rd_Cords_remove_50 (k := 3) rfl ?_
  refine jk_aload_n C rd_Cords_remove_51 (k := 1) rfl ?_
  refine jk_get C in_Cords (ci := 5) rfl 1 (by decide) tm_133 0 rfl rfl rd_Cords_remove_52 ?_
  obtain ⟨q55, hq55, hf⟩ := jk_bind_h hf
  refine jk_callVv C hZ.1 hz (ct_Row_remove l D Z sq hZ cI cR (n_t := 40) (Nat.le_of_ble_eq_true rfl) a_t_nibbled a_t_nibbled_k i_t_nibbled x1 x2 i_t_size q55 hq55) tm_1272 tm_1273 tm_1274 tm_3 tm_1275 na_Row_remove ⟨Nat.le_of_ble_eq_true rfl, Nat.le_of_ble_eq_true rfl⟩ rfl [9, 10] rfl rfl rfl (ws' := wd_Cords_remove cI a_t a_t_starts a_t_depth a_t_topic a_t_value a_t_nibbled a_t_starts_k a_t_depth_k a_t_topic_k a_t_value_k a_t_nibbled_k i_t_clusters i_t_size i_t_starts q16 q29 q42 q55) rfl 9 0 rfl rfl rfl (st := []) rfl (Nat.le_of_ble_eq_true rfl) rd_Cords_remove_55 ?_ ⟨Nat.le_of_ble_eq_true rfl, Nat.le_of_ble_eq_true rfl⟩
  refine jk_aload_n C rd_Cords_remove_58 (k := 1) rfl ?_
  refine jk_iload_n C rd_Cords_remove_59 (k := 0) rfl ?_
  refine jk_iload_n C rd_Cords_remove_60 (k := 2) rfl ?_
  refine jk_iload_n C rd_Cords_remove_61 (k := 3) rfl ?_
  refine jk_isub C rd_Cords_remove_62 ?_
  obtain ⟨q63, hq63, hf⟩ := jk_bind_h hf
  refine jk_callVv C hZ.1 hz (ct_Cords_resize l D Z sq hZ cI cR a_t a_t_starts a_t_depth a_t_topic a_t_value a_t_nibbled a_t_starts_k i_t_clusters i_t_size i_t_starts q2 (x1 - x2) q63 hq63) tm_404 tm_406 sl_3 tm_6 tm_407 na_Cords_resize ⟨Nat.le_of_ble_eq_true rfl, Nat.le_of_ble_eq_true rfl⟩ rfl [0, 1, 2] rfl rfl rfl (ws' := wd_Cords_remove cI a_t a_t_starts a_t_depth a_t_topic a_t_value a_t_nibbled a_t_starts_k a_t_depth_k a_t_topic_k a_t_value_k a_t_nibbled_k i_t_clusters q63.1 q63.2 q16 q29 q42 q55) rfl 0 5 rfl rfl rfl (st := []) rfl (Nat.le_of_ble_eq_true rfl) rd_Cords_remove_63 ?_ ⟨Nat.le_of_ble_eq_true rfl, Nat.le_of_ble_eq_true rfl⟩
  refine jk_iload_n C rd_Cords_remove_66 (k := 3) rfl ?_
  refine jk_iload_n C rd_Cords_remove_67 (k := 2) rfl ?_
  refine jk_isub C rd_Cords_remove_68 ?_
  cases hf
  exact jk_iret C rfl rd_Cords_remove_69 rfl
def wd_Cords_tie (cI : ClassId) (a_t a_t_starts a_t_depth a_t_topic a_t_value a_t_nibbled a_t_starts_k a_t_depth_k a_t_topic_k a_t_value_k a_t_nibbled_k : Nat) (i_t_clusters : Int) (i_t_size : Int) (i_t_starts : (Int → Int)) (i_t_depth : (Int → Int)) (i_t_topic : (Int → Int)) (i_t_value : (Int → Int)) (i_t_nibbled : (Int → Int)) : va_W := [(a_t, .inr (5, [jk_V i_t_clusters, jk_V i_t_size, .ref a_t_starts, .ref a_t_depth, .ref a_t_topic, .ref a_t_value, .ref a_t_nibbled])), (a_t_starts, .inr (0, [.ref a_t_starts_k])), (a_t_starts_k, jk_W cI 7 i_t_starts), (a_t_depth, .inr (0, [.ref a_t_depth_k])), (a_t_depth_k, jk_W cI 40 i_t_depth), (a_t_topic, .inr (0, [.ref a_t_topic_k])), (a_t_topic_k, jk_W cI 40 i_t_topic), (a_t_value, .inr (0, [.ref a_t_value_k])), (a_t_value_k, jk_W cI 40 i_t_value), (a_t_nibbled, .inr (0, [.ref a_t_nibbled_k])), (a_t_nibbled_k, jk_W cI 40 i_t_nibbled)]
set_option maxHeartbeats 4000000 in
set_option maxRecDepth 20000 in
theorem ct_Cords_tie (l : Launch) (D : va_G) (Z : (Nat → Prop) → State → Heap → Prop) (sq : Nat → Nat) (hZ : jk_ZK Z sq) (cI cR : ClassId) (a_t a_t_starts a_t_depth a_t_topic a_t_value a_t_nibbled a_t_starts_k a_t_depth_k a_t_topic_k a_t_value_k a_t_nibbled_k : Nat) (i_t_clusters : Int) (i_t_size : Int) (i_t_starts : (Int → Int)) (i_t_depth : (Int → Int)) (i_t_topic : (Int → Int)) (i_t_value : (Int → Int)) (i_t_nibbled : (Int → Int)) (x1 : Int) (x2 : Int) (q : Int × Int × (Int → Int) × (Int → Int) × (Int → Int) × (Int → Int) × (Int → Int)) (hf : fn_Cords_tie i_t_clusters i_t_size i_t_starts i_t_depth i_t_topic i_t_value i_t_nibbled x1 x2 = some q) : jk_MI l D jk_cl (jk_ty cI cR) Z mn_Cords_tie (.code mn_Cords_tie mb_Cords_tie 4 (some .int) :: jk_WA) (jk_rm 3 71) [.ref a_t, jk_V x1, jk_V x2] (wd_Cords_tie cI a_t a_t_starts a_t_depth a_t_topic a_t_value a_t_nibbled a_t_starts_k a_t_depth_k a_t_topic_k a_t_value_k a_t_nibbled_k i_t_clusters i_t_size i_t_starts i_t_depth i_t_topic i_t_value i_t_nibbled) (wd_Cords_tie cI a_t a_t_starts a_t_depth a_t_topic a_t_value a_t_nibbled a_t_starts_k a_t_depth_k a_t_topic_k a_t_value_k a_t_nibbled_k i_t_clusters q.2.1 q.2.2.1 q.2.2.2.1 q.2.2.2.2.1 q.2.2.2.2.2.1 q.2.2.2.2.2.2) q.1 := by
  intro sz
  refine jk_body (by decide +kernel) (fun p e s m args below meth c hsz hz hin C => ?_) (Nat.le_of_ble_eq_true rfl)
  subst hsz
  unfold fn_Cords_tie at hf
  refine jk_aload_n C rd_Cords_tie_0 (k := 0) rfl ?_
  refine jk_iload_n C rd_Cords_tie_1 (k := 1) rfl ?_
  obtain ⟨q2, hq2, hf⟩ := jk_bind_h hf
  refine jk_callVi C hZ.1 hz (ct_Cords_sum l D Z sq hZ cI cR a_t a_t_starts a_t_depth a_t_topic a_t_value a_t_nibbled a_t_starts_k a_t_depth_k a_t_value_k i_t_clusters i_t_size i_t_starts i_t_depth i_t_value x1 q2 hq2) tm_584 tm_544 tm_545 tm_6 tm_546 na_Cords_sum ⟨Nat.le_of_ble_eq_true rfl, Nat.le_of_ble_eq_true rfl⟩ rfl [0, 1, 2, 3, 4, 7, 8] rfl rfl rfl (ws' := wd_Cords_tie cI a_t a_t_starts a_t_depth a_t_topic a_t_value a_t_nibbled a_t_starts_k a_t_depth_k a_t_topic_k a_t_value_k a_t_nibbled_k i_t_clusters i_t_size i_t_starts i_t_depth i_t_topic i_t_value i_t_nibbled) rfl 0 5 rfl rfl rfl (st := []) rfl (Nat.le_of_ble_eq_true rfl) rd_Cords_tie_2 ?_ ⟨Nat.le_of_ble_eq_true rfl, Nat.le_of_ble_eq_true rfl⟩
  refine jk_istore_n C rd_Cords_tie_5 (by decide) (lv' := [(3, jk_V q2), (0, .ref a_t), (1, jk_V x1), (2, jk_V x2)]) rfl ?_
  refine jk_aload_n C rd_Cords_tie_6 (k := 1) rfl ?_
  refine jk_aload_n C rd_Cords_tie_7 (k := 1) rfl ?_
  refine jk_iload_n C rd_Cords_tie_8 (k := 2) rfl ?_
  obtain ⟨q9, hq9, hf⟩ := jk_bind_h hf
  refine jk_callVi C hZ.1 hz (ct_Cords_start l D Z sq hZ cI cR a_t a_t_starts a_t_depth a_t_topic a_t_value a_t_nibbled a_t_starts_k i_t_clusters i_t_size i_t_starts x1 q9 hq9) tm_559 tm_372 tm_373 tm_6 tm_374 na_Cords_start ⟨Nat.le_of_ble_eq_true rfl, Nat.le_of_ble_eq_true rfl⟩ rfl [0, 1, 2] rfl rfl rfl (ws' := wd_Cords_tie cI a_t a_t_starts a_t_depth a_t_topic a_t_value a_t_nibbled a_t_starts_k a_t_depth_k a_t_topic_k a_t_value_k a_t_nibbled_k i_t_clusters i_t_size i_t_starts i_t_depth i_t_topic i_t_value i_t_nibbled) rfl 0 5 rfl rfl rfl (st := [.ref a_t]) rfl (Nat.le_of_ble_eq_true rfl) rd_Cords_tie_9 ?_ ⟨Nat.le_of_ble_eq_true rfl, Nat.le_of_ble_eq_true rfl⟩
  refine jk_iload_n C rd_Cords_tie_12 (k := 2) rfl ?_
  refine jk_iconst C rd_Cords_tie_13 ?_
  refine jk_iload_n C rd_Cords_tie_14 (k := 3) rfl ?_
  refine jk_iload_n C rd_Cords_tie_15 (k := 0) rfl ?_
  obtain ⟨q16, hq16, hf⟩ := jk_bind_h hf
  refine jk_callVi C hZ.1 hz (ct_Cords_insert l D Z sq hZ cI cR a_t a_t_starts a_t_depth a_t_topic a_t_value a_t_nibbled a_t_starts_k a_t_depth_k a_t_topic_k a_t_value_k a_t_nibbled_k i_t_clusters i_t_size i_t_starts i_t_depth i_t_topic i_t_value i_t_nibbled q9 x1 0 x2 q2 q16 hq16) tm_1280 tm_395 tm_396 tm_6 tm_397 na_Cords_insert ⟨Nat.le_of_ble_eq_true rfl, Nat.le_of_ble_eq_true rfl⟩ rfl [0, 1, 2, 3, 4, 5, 6, 7, 8, 9, 10] rfl rfl rfl (ws' := wd_Cords_tie cI a_t a_t_starts a_t_depth a_t_topic a_t_value a_t_nibbled a_t_starts_k a_t_depth_k a_t_topic_k a_t_value_k a_t_nibbled_k i_t_clusters q16.2.1 q16.2.2.1 q16.2.2.2.1 q16.2.2.2.2.1 q16.2.2.2.2.2.1 q16.2.2.2.2.2.2) rfl 0 5 rfl rfl rfl (st := []) rfl (Nat.le_of_ble_eq_true rfl) rd_Cords_tie_16 ?_ ⟨Nat.le_of_ble_eq_true rfl, Nat.le_of_ble_eq_true rfl⟩
  refine jk_pop C rd_Cords_tie_19 rfl ?_
  refine jk_iload_n C rd_Cords_tie_20 (k := 0) rfl ?_
  cases hf
  exact jk_iret C rfl rd_Cords_tie_21 rfl
def wd_Knots_at (cI : ClassId)  : va_W := []
set_option maxHeartbeats 4000000 in
set_option maxRecDepth 20000 in
theorem ct_Knots_at (l : Launch) (D : va_G) (Z : (Nat → Prop) → State → Heap → Prop) (sq : Nat → Nat) (hZ : jk_ZK Z sq) (cI cR : ClassId) (x0 : Int) (x1 : Int) (q : Int) (hf : fn_Knots_at x0 x1 = some q) : jk_MI l D jk_cl (jk_ty cI cR) Z mn_Knots_at (.code mn_Knots_at mb_Knots_at 2 (some .int) :: jk_WA) (jk_rm 1 23) [jk_V x0, jk_V x1] (wd_Knots_at cI) (wd_Knots_at cI) q := by
  intro sz
  refine jk_body (by decide +kernel) (fun p e s m args below meth c hsz hz hin C => ?_) (Nat.le_of_ble_eq_true rfl)
  subst hsz
  unfold fn_Knots_at at hf
  refine jk_iload_n C rd_Knots_at_0 (k := 0) rfl ?_
  refine jk_iload_n C rd_Knots_at_1 (k := 1) rfl ?_
  obtain ⟨q2, hq2, hf⟩ := jk_bind_h hf
  refine jk_callSi C hZ.1 hz (ct_Knots_withoutLast l D Z sq hZ cI cR x0 x1 q2 hq2) tm_418 tm_419 tm_14 tm_420 na_Knots_withoutLast ⟨Nat.le_of_ble_eq_true rfl, Nat.le_of_ble_eq_true rfl⟩ rfl [] rfl rfl rfl (ws' := wd_Knots_at cI) rfl (st := []) rfl (Nat.le_of_ble_eq_true rfl) rd_Knots_at_2 ?_ ⟨Nat.le_of_ble_eq_true rfl, Nat.le_of_ble_eq_true rfl⟩
  refine jk_bipush C rd_Knots_at_5 (by decide +kernel) ?_
  refine jk_irem C rd_Knots_at_7 hf (fun hf => ?_)
  cases hf
  exact jk_iret C rfl rd_Knots_at_8 rfl
def wd_Cords_knot (cI : ClassId) (a_t a_t_starts a_t_depth a_t_topic a_t_value a_t_nibbled a_t_value_k : Nat) (i_t_clusters : Int) (i_t_size : Int) (i_t_value : (Int → Int)) : va_W := [(a_t, .inr (5, [jk_V i_t_clusters, jk_V i_t_size, .ref a_t_starts, .ref a_t_depth, .ref a_t_topic, .ref a_t_value, .ref a_t_nibbled])), (a_t_value, .inr (0, [.ref a_t_value_k])), (a_t_value_k, jk_W cI 40 i_t_value)]
set_option maxHeartbeats 4000000 in
set_option maxRecDepth 20000 in
theorem ct_Cords_knot (l : Launch) (D : va_G) (Z : (Nat → Prop) → State → Heap → Prop) (sq : Nat → Nat) (hZ : jk_ZK Z sq) (cI cR : ClassId) (a_t a_t_starts a_t_depth a_t_topic a_t_value a_t_nibbled a_t_value_k : Nat) (i_t_clusters : Int) (i_t_size : Int) (i_t_value : (Int → Int)) (x1 : Int) (x2 : Int) (x3 : Int) (q : Int × (Int → Int)) (hf : fn_Cords_knot i_t_value x1 x2 x3 = some q) : jk_MI l D jk_cl (jk_ty cI cR) Z mn_Cords_knot (.code mn_Cords_knot mb_Cords_knot 5 (some .int) :: jk_WA) (jk_rm 2 44) [.ref a_t, jk_V x1, jk_V x2, jk_V x3] (wd_Cords_knot cI a_t a_t_starts a_t_depth a_t_topic a_t_value a_t_nibbled a_t_value_k i_t_clusters i_t_size i_t_value) (wd_Cords_knot cI a_t a_t_starts a_t_depth a_t_topic a_t_value a_t_nibbled a_t_value_k i_t_clusters i_t_size q.2) q.1 := by
  intro sz
  refine jk_body (by decide +kernel) (fun p e s m args below meth c hsz hz hin C => ?_) (Nat.le_of_ble_eq_true rfl)
  subst hsz
  unfold fn_Cords_knot at hf
  refine jk_aload_n C rd_Cords_knot_0 (k := 0) rfl ?_
  refine jk_get C in_Cords (ci := 5) rfl 5 (by decide) tm_143 0 rfl rfl rd_Cords_knot_1 ?_
  refine jk_iload_n C rd_Cords_knot_4 (k := 1) rfl ?_
  obtain ⟨q5, hq5, hf⟩ := jk_bind_h hf
  refine jk_callVi C hZ.1 hz (ct_Row_get l D Z sq hZ cI cR (n_t := 40) (Nat.le_of_ble_eq_true rfl) a_t_value a_t_value_k i_t_value x1 q5 hq5) tm_363 tm_299 tm_300 tm_3 tm_301 na_Row_get ⟨Nat.le_of_ble_eq_true rfl, Nat.le_of_ble_eq_true rfl⟩ rfl [1, 2] rfl rfl rfl (ws' := wd_Cords_knot cI a_t a_t_starts a_t_depth a_t_topic a_t_value a_t_nibbled a_t_value_k i_t_clusters i_t_size i_t_value) rfl 1 0 rfl rfl rfl (st := []) rfl (Nat.le_of_ble_eq_true rfl) rd_Cords_knot_5 ?_ ⟨Nat.le_of_ble_eq_true rfl, Nat.le_of_ble_eq_true rfl⟩
  refine jk_iload_n C rd_Cords_knot_8 (k := 2) rfl ?_
  obtain ⟨q9, hq9, hf⟩ := jk_bind_h hf
  refine jk_callSi C hZ.1 hz (ct_Knots_at l D Z sq hZ cI cR q5 x2 q9 hq9) tm_1285 tm_416 tm_14 tm_417 na_Knots_at ⟨Nat.le_of_ble_eq_true rfl, Nat.le_of_ble_eq_true rfl⟩ rfl [] rfl rfl rfl (ws' := wd_Cords_knot cI a_t a_t_starts a_t_depth a_t_topic a_t_value a_t_nibbled a_t_value_k i_t_clusters i_t_size i_t_value) rfl (st := []) rfl (Nat.le_of_ble_eq_true rfl) rd_Cords_knot_9 ?_ ⟨Nat.le_of_ble_eq_true rfl, Nat.le_of_ble_eq_true rfl⟩
  refine jk_istore C rd_Cords_knot_12 (by decide) (lv' := [(4, jk_V q9), (0, .ref a_t), (1, jk_V x1), (2, jk_V x2), (3, jk_V x3)]) rfl ?_
  refine jk_aload_n C rd_Cords_knot_14 (k := 1) rfl ?_
  refine jk_get C in_Cords (ci := 5) rfl 5 (by decide) tm_143 0 rfl rfl rd_Cords_knot_15 ?_
  refine jk_iload_n C rd_Cords_knot_18 (k := 2) rfl ?_
  refine jk_aload_n C rd_Cords_knot_19 (k := 1) rfl ?_
  refine jk_get C in_Cords (ci := 5) rfl 5 (by decide) tm_143 0 rfl rfl rd_Cords_knot_20 ?_
  refine jk_iload_n C rd_Cords_knot_23 (k := 2) rfl ?_
  obtain ⟨q24, hq24, hf⟩ := jk_bind_h hf
  refine jk_callVi C hZ.1 hz (ct_Row_get l D Z sq hZ cI cR (n_t := 40) (Nat.le_of_ble_eq_true rfl) a_t_value a_t_value_k i_t_value x1 q24 hq24) tm_363 tm_299 tm_300 tm_3 tm_301 na_Row_get ⟨Nat.le_of_ble_eq_true rfl, Nat.le_of_ble_eq_true rfl⟩ rfl [1, 2] rfl rfl rfl (ws' := wd_Cords_knot cI a_t a_t_starts a_t_depth a_t_topic a_t_value a_t_nibbled a_t_value_k i_t_clusters i_t_size i_t_value) rfl 1 0 rfl rfl rfl (st := [jk_V x1, .ref a_t_value]) rfl (Nat.le_of_ble_eq_true rfl) rd_Cords_knot_24 ?_ ⟨Nat.le_of_ble_eq_true rfl, Nat.le_of_ble_eq_true rfl⟩
  refine jk_iload_n C rd_Cords_knot_27 (k := 4) rfl ?_
  refine jk_iload C rd_Cords_knot_28 (k := 0) rfl ?_
  refine jk_isub C rd_Cords_knot_30 ?_
  refine jk_iload_n C rd_Cords_knot_31 (k := 3) rfl ?_
  obtain ⟨q32, hq32, hf⟩ := jk_bind_h hf
  refine jk_callSi C hZ.1 hz (ct_Knots_power l D Z sq hZ cI cR x2 q32 hq32) tm_530 tm_425 tm_14 tm_426 na_Knots_power ⟨Nat.le_of_ble_eq_true rfl, Nat.le_of_ble_eq_true rfl⟩ rfl [] rfl rfl rfl (ws' := wd_Cords_knot cI a_t a_t_starts a_t_depth a_t_topic a_t_value a_t_nibbled a_t_value_k i_t_clusters i_t_size i_t_value) rfl (st := [jk_V (x3 - q9), jk_V q24, jk_V x1, .ref a_t_value]) rfl (Nat.le_of_ble_eq_true rfl) rd_Cords_knot_32 ?_ ⟨Nat.le_of_ble_eq_true rfl, Nat.le_of_ble_eq_true rfl⟩
  refine jk_imul C rd_Cords_knot_35 ?_
  refine jk_iadd C rd_Cords_knot_36 ?_
  obtain ⟨q37, hq37, hf⟩ := jk_bind_h hf
  refine jk_callVv C hZ.1 hz (ct_Row_set l D Z sq hZ cI cR (n_t := 40) (Nat.le_of_ble_eq_true rfl) a_t_value a_t_value_k i_t_value x1 (q24 + ((x3 - q9) * q32)) q37 hq37) tm_345 tm_264 tm_265 tm_3 tm_266 na_Row_set ⟨Nat.le_of_ble_eq_true rfl, Nat.le_of_ble_eq_true rfl⟩ rfl [1, 2] rfl rfl rfl (ws' := wd_Cords_knot cI a_t a_t_starts a_t_depth a_t_topic a_t_value a_t_nibbled a_t_value_k i_t_clusters i_t_size q37) rfl 1 0 rfl rfl rfl (st := []) rfl (Nat.le_of_ble_eq_true rfl) rd_Cords_knot_37 ?_ ⟨Nat.le_of_ble_eq_true rfl, Nat.le_of_ble_eq_true rfl⟩
  refine jk_iload C rd_Cords_knot_40 (k := 0) rfl ?_
  cases hf
  exact jk_iret C rfl rd_Cords_knot_42 rfl
def wd_Knots_sum (cI : ClassId)  : va_W := []
set_option maxHeartbeats 4000000 in
set_option maxRecDepth 20000 in
theorem ct_Knots_sum (l : Launch) (D : va_G) (Z : (Nat → Prop) → State → Heap → Prop) (sq : Nat → Nat) (hZ : jk_ZK Z sq) (cI cR : ClassId) (x0 : Int) (q : Int) (hf : fn_Knots_sum x0 = some q) : jk_MI l D jk_cl (jk_ty cI cR) Z mn_Knots_sum (.code mn_Knots_sum mb_Knots_sum 3 (some .int) :: jk_WA) (jk_rm 2 44) [jk_V x0] (wd_Knots_sum cI) (wd_Knots_sum cI) q := by
  intro sz
  refine jk_body (by decide +kernel) (fun p e s m args below meth c hsz hz hin C => ?_) (Nat.le_of_ble_eq_true rfl)
  subst hsz
  unfold fn_Knots_sum at hf
  have bk_4 : ∀ (n : Nat) (v0 : Int) (v1 : Int) (v2 : Int), fn_Knots_sum_b4 n v0 v1 v2 = some q → jk_J p l e (jk_rm 2 44) s m args below meth c 0 0 (jk_QI below D jk_cl (jk_ty cI cR) (wd_Knots_sum cI) (wd_Knots_sum cI) args s q) D jk_cl (va_A (wd_Knots_sum cI) s.heap.size) 3 (wd_Knots_sum cI) [(0, jk_V v0), (1, jk_V v1), (2, jk_V v2)] 4 [] := by
    intro n
    induction n with
    | zero => intro v0 v1 v2 hf; exact nomatch (show none = some q from hf)
    | succ n ih =>
      intro v0 v1 v2 hf
      rw [fn_Knots_sum_b4] at hf
      refine jk_iload_n C rd_Knots_sum_4 (k := 2) rfl ?_
      refine jk_iconst C rd_Knots_sum_5 ?_
      refine jk_icmp_ge (tgt := 23) C rd_Knots_sum_6 (by decide) hf (fun _ hf => ?_) (fun _ hf => ?_)
      · refine jk_iload_n C rd_Knots_sum_23 (k := 1) rfl ?_
        cases hf
        exact jk_iret C rfl rd_Knots_sum_24 rfl
      · refine jk_iload_n C rd_Knots_sum_9 (k := 1) rfl ?_
        refine jk_iload_n C rd_Knots_sum_10 (k := 0) rfl ?_
        refine jk_iload_n C rd_Knots_sum_11 (k := 2) rfl ?_
        obtain ⟨q12, hq12, hf⟩ := jk_bind_h hf
        refine jk_callSi C hZ.1 hz (ct_Knots_at l D Z sq hZ cI cR v0 v2 q12 hq12) tm_415 tm_416 tm_14 tm_417 na_Knots_at ⟨Nat.le_of_ble_eq_true rfl, Nat.le_of_ble_eq_true rfl⟩ rfl [] rfl rfl rfl (ws' := wd_Knots_sum cI) rfl (st := [jk_V v1]) rfl (Nat.le_of_ble_eq_true rfl) rd_Knots_sum_12 ?_ ⟨Nat.le_of_ble_eq_true rfl, Nat.le_of_ble_eq_true rfl⟩
        refine jk_iadd C rd_Knots_sum_15 ?_
        refine jk_istore_n C rd_Knots_sum_16 (by decide) (lv' := [(1, jk_V (v1 + q12)), (0, jk_V v0), (2, jk_V v2)]) rfl ?_
        refine jk_iinc C rd_Knots_sum_17 (k := 2) rfl (by decide) (lv' := [(2, jk_V (v2 + 1)), (1, jk_V (v1 + q12)), (0, jk_V v0)]) rfl ?_
        refine jk_goto (tgt := 4) C rd_Knots_sum_20 (by decide) ?_
        refine jk_lv (lv' := [(0, jk_V v0), (1, jk_V (v1 + q12)), (2, jk_V (v2 + 1))]) [2, 1, 0] rfl ?_
        exact ih v0 (v1 + q12) (v2 + 1) hf
  refine jk_iconst C rd_Knots_sum_0 ?_
  refine jk_istore_n C rd_Knots_sum_1 (by decide) (lv' := [(1, jk_V 0), (0, jk_V x0)]) rfl ?_
  refine jk_iconst C rd_Knots_sum_2 ?_
  refine jk_istore_n C rd_Knots_sum_3 (by decide) (lv' := [(2, jk_V 0), (1, jk_V 0), (0, jk_V x0)]) rfl ?_
  refine jk_lv (lv' := [(0, jk_V x0), (1, jk_V 0), (2, jk_V 0)]) [2, 1, 0] rfl ?_
  exact bk_4 jk_F x0 0 0 hf
def wd_Cords_loseKnots (cI : ClassId) (a_t a_t_starts a_t_depth a_t_topic a_t_value a_t_nibbled a_t_value_k a_t_nibbled_k : Nat) (i_t_clusters : Int) (i_t_size : Int) (i_t_value : (Int → Int)) (i_t_nibbled : (Int → Int)) : va_W := [(a_t, .inr (5, [jk_V i_t_clusters, jk_V i_t_size, .ref a_t_starts, .ref a_t_depth, .ref a_t_topic, .ref a_t_value, .ref a_t_nibbled])), (a_t_value, .inr (0, [.ref a_t_value_k])), (a_t_value_k, jk_W cI 40 i_t_value), (a_t_nibbled, .inr (0, [.ref a_t_nibbled_k])), (a_t_nibbled_k, jk_W cI 40 i_t_nibbled)]
set_option maxHeartbeats 4000000 in
set_option maxRecDepth 20000 in
theorem ct_Cords_loseKnots (l : Launch) (D : va_G) (Z : (Nat → Prop) → State → Heap → Prop) (sq : Nat → Nat) (hZ : jk_ZK Z sq) (cI cR : ClassId) (a_t a_t_starts a_t_depth a_t_topic a_t_value a_t_nibbled a_t_value_k a_t_nibbled_k : Nat) (i_t_clusters : Int) (i_t_size : Int) (i_t_value : (Int → Int)) (i_t_nibbled : (Int → Int)) (x1 : Int) (x2 : Int) (q : Int × (Int → Int) × (Int → Int)) (hf : fn_Cords_loseKnots i_t_value i_t_nibbled x1 x2 = some q) : jk_MI l D jk_cl (jk_ty cI cR) Z mn_Cords_loseKnots (.code mn_Cords_loseKnots mb_Cords_loseKnots 4 (some .int) :: jk_WA) (jk_rm 3 66) [.ref a_t, jk_V x1, jk_V x2] (wd_Cords_loseKnots cI a_t a_t_starts a_t_depth a_t_topic a_t_value a_t_nibbled a_t_value_k a_t_nibbled_k i_t_clusters i_t_size i_t_value i_t_nibbled) (wd_Cords_loseKnots cI a_t a_t_starts a_t_depth a_t_topic a_t_value a_t_nibbled a_t_value_k a_t_nibbled_k i_t_clusters i_t_size q.2.1 q.2.2) q.1 := by
  intro sz
  refine jk_body (by decide +kernel) (fun p e s m args below meth c hsz hz hin C => ?_) (Nat.le_of_ble_eq_true rfl)
  subst hsz
  unfold fn_Cords_loseKnots at hf
  refine jk_aload_n C rd_Cords_loseKnots_0 (k := 0) rfl ?_
  refine jk_get C in_Cords (ci := 5) rfl 5 (by decide) tm_143 0 rfl rfl rd_Cords_loseKnots_1 ?_
  refine jk_iload_n C rd_Cords_loseKnots_4 (k := 1) rfl ?_
  obtain ⟨q5, hq5, hf⟩ := jk_bind_h hf
  refine jk_callVi C hZ.1 hz (ct_Row_get l D Z sq hZ cI cR (n_t := 40) (Nat.le_of_ble_eq_true rfl) a_t_value a_t_value_k i_t_value x1 q5 hq5) tm_363 tm_299 tm_300 tm_3 tm_301 na_Row_get ⟨Nat.le_of_ble_eq_true rfl, Nat.le_of_ble_eq_true rfl⟩ rfl [1, 2] rfl rfl rfl (ws' := wd_Cords_loseKnots cI a_t a_t_starts a_t_depth a_t_topic a_t_value a_t_nibbled a_t_value_k a_t_nibbled_k i_t_clusters i_t_size i_t_value i_t_nibbled) rfl 1 0 rfl rfl rfl (st := []) rfl (Nat.le_of_ble_eq_true rfl) rd_Cords_loseKnots_5 ?_ ⟨Nat.le_of_ble_eq_true rfl, Nat.le_of_ble_eq_true rfl⟩
  obtain ⟨q8, hq8, hf⟩ := jk_bind_h hf
  refine jk_callSi C hZ.1 hz (ct_Knots_sum l D Z sq hZ cI cR q5 q8 hq8) tm_412 tm_413 tm_14 tm_414 na_Knots_sum ⟨Nat.le_of_ble_eq_true rfl, Nat.le_of_ble_eq_true rfl⟩ rfl [] rfl rfl rfl (ws' := wd_Cords_loseKnots cI a_t a_t_starts a_t_depth a_t_topic a_t_value a_t_nibbled a_t_value_k a_t_nibbled_k i_t_clusters i_t_size i_t_value i_t_nibbled) rfl (st := []) rfl (Nat.le_of_ble_eq_true rfl) rd_Cords_loseKnots_8 ?_ ⟨Nat.le_of_ble_eq_true rfl, Nat.le_of_ble_eq_true rfl⟩
  refine jk_istore_n C rd_Cords_loseKnots_11 (by decide) (lv' := [(3, jk_V q8), (0, .ref a_t), (1, jk_V x1), (2, jk_V x2)]) rfl ?_
  refine jk_aload_n C rd_Cords_loseKnots_12 (k := 1) rfl ?_
  refine jk_get C in_Cords (ci := 5) rfl 5 (by decide) tm_143 0 rfl rfl rd_Cords_loseKnots_13 ?_
  refine jk_iload_n C rd_Cords_loseKnots_16 (k := 2) rfl ?_
  refine jk_aload_n C rd_Cords_loseKnots_17 (k := 1) rfl ?_
  refine jk_get C in_Cords (ci := 5) rfl 5 (by decide) tm_143 0 rfl rfl rd_Cords_loseKnots_18 ?_
  refine jk_iload_n C rd_Cords_loseKnots_21 (k := 2) rfl ?_
  obtain ⟨q22, hq22, hf⟩ := jk_bind_h hf
  refine jk_callVi C hZ.1 hz (ct_Row_get l D Z sq hZ cI cR (n_t := 40) (Nat.le_of_ble_eq_true rfl) a_t_value a_t_value_k i_t_value x1 q22 hq22) tm_363 tm_299 tm_300 tm_3 tm_301 na_Row_get ⟨Nat.le_of_ble_eq_true rfl, Nat.le_of_ble_eq_true rfl⟩ rfl [1, 2] rfl rfl rfl (ws' := wd_Cords_loseKnots cI a_t a_t_starts a_t_depth a_t_topic a_t_value a_t_nibbled a_t_value_k a_t_nibbled_k i_t_clusters i_t_size i_t_value i_t_nibbled) rfl 1 0 rfl rfl rfl (st := [jk_V x1, .ref a_t_value]) rfl (Nat.le_of_ble_eq_true rfl) rd_Cords_loseKnots_22 ?_ ⟨Nat.le_of_ble_eq_true rfl, Nat.le_of_ble_eq_true rfl⟩
  refine jk_iload_n C rd_Cords_loseKnots_25 (k := 3) rfl ?_
  obtain ⟨q26, hq26, hf⟩ := jk_bind_h hf
  refine jk_callSi C hZ.1 hz (ct_Knots_lose l D Z sq hZ cI cR q22 x2 q26 hq26) tm_421 tm_422 tm_14 tm_423 na_Knots_lose ⟨Nat.le_of_ble_eq_true rfl, Nat.le_of_ble_eq_true rfl⟩ rfl [] rfl rfl rfl (ws' := wd_Cords_loseKnots cI a_t a_t_starts a_t_depth a_t_topic a_t_value a_t_nibbled a_t_value_k a_t_nibbled_k i_t_clusters i_t_size i_t_value i_t_nibbled) rfl (st := [jk_V x1, .ref a_t_value]) rfl (Nat.le_of_ble_eq_true rfl) rd_Cords_loseKnots_26 ?_ ⟨Nat.le_of_ble_eq_true rfl, Nat.le_of_ble_eq_true rfl⟩
  obtain ⟨q29, hq29, hf⟩ := jk_bind_h hf
  refine jk_callVv C hZ.1 hz (ct_Row_set l D Z sq hZ cI cR (n_t := 40) (Nat.le_of_ble_eq_true rfl) a_t_value a_t_value_k i_t_value x1 q26 q29 hq29) tm_345 tm_264 tm_265 tm_3 tm_266 na_Row_set ⟨Nat.le_of_ble_eq_true rfl, Nat.le_of_ble_eq_true rfl⟩ rfl [1, 2] rfl rfl rfl (ws' := wd_Cords_loseKnots cI a_t a_t_starts a_t_depth a_t_topic a_t_value a_t_nibbled a_t_value_k a_t_nibbled_k i_t_clusters i_t_size q29 i_t_nibbled) rfl 1 0 rfl rfl rfl (st := []) rfl (Nat.le_of_ble_eq_true rfl) rd_Cords_loseKnots_29 ?_ ⟨Nat.le_of_ble_eq_true rfl, Nat.le_of_ble_eq_true rfl⟩
  refine jk_aload_n C rd_Cords_loseKnots_32 (k := 1) rfl ?_
  refine jk_get C in_Cords (ci := 5) rfl 6 (by decide) tm_146 0 rfl rfl rd_Cords_loseKnots_33 ?_
  refine jk_iload_n C rd_Cords_loseKnots_36 (k := 2) rfl ?_
  refine jk_iload_n C rd_Cords_loseKnots_37 (k := 3) rfl ?_
  obtain ⟨q38, hq38, hf⟩ := jk_bind_h hf
  refine jk_callVv C hZ.1 hz (ct_Row_set l D Z sq hZ cI cR (n_t := 40) (Nat.le_of_ble_eq_true rfl) a_t_nibbled a_t_nibbled_k i_t_nibbled x1 x2 q38 hq38) tm_345 tm_264 tm_265 tm_3 tm_266 na_Row_set ⟨Nat.le_of_ble_eq_true rfl, Nat.le_of_ble_eq_true rfl⟩ rfl [3, 4] rfl rfl rfl (ws' := wd_Cords_loseKnots cI a_t a_t_starts a_t_depth a_t_topic a_t_value a_t_nibbled a_t_value_k a_t_nibbled_k i_t_clusters i_t_size q29 q38) rfl 3 0 rfl rfl rfl (st := []) rfl (Nat.le_of_ble_eq_true rfl) rd_Cords_loseKnots_38 ?_ ⟨Nat.le_of_ble_eq_true rfl, Nat.le_of_ble_eq_true rfl⟩
  refine jk_iload_n C rd_Cords_loseKnots_41 (k := 0) rfl ?_
  refine jk_aload_n C rd_Cords_loseKnots_42 (k := 1) rfl ?_
  refine jk_get C in_Cords (ci := 5) rfl 5 (by decide) tm_143 0 rfl rfl rd_Cords_loseKnots_43 ?_
  refine jk_iload_n C rd_Cords_loseKnots_46 (k := 2) rfl ?_
  obtain ⟨q47, hq47, hf⟩ := jk_bind_h hf
  refine jk_callVi C hZ.1 hz (ct_Row_get l D Z sq hZ cI cR (n_t := 40) (Nat.le_of_ble_eq_true rfl) a_t_value a_t_value_k q29 x1 q47 hq47) tm_363 tm_299 tm_300 tm_3 tm_301 na_Row_get ⟨Nat.le_of_ble_eq_true rfl, Nat.le_of_ble_eq_true rfl⟩ rfl [1, 2] rfl rfl rfl (ws' := wd_Cords_loseKnots cI a_t a_t_starts a_t_depth a_t_topic a_t_value a_t_nibbled a_t_value_k a_t_nibbled_k i_t_clusters i_t_size q29 q38) rfl 1 0 rfl rfl rfl (st := [jk_V q8]) rfl (Nat.le_of_ble_eq_true rfl) rd_Cords_loseKnots_47 ?_ ⟨Nat.le_of_ble_eq_true rfl, Nat.le_of_ble_eq_true rfl⟩
  obtain ⟨q50, hq50, hf⟩ := jk_bind_h hf
  refine jk_callSi C hZ.1 hz (ct_Knots_sum l D Z sq hZ cI cR q47 q50 hq50) tm_412 tm_413 tm_14 tm_414 na_Knots_sum ⟨Nat.le_of_ble_eq_true rfl, Nat.le_of_ble_eq_true rfl⟩ rfl [] rfl rfl rfl (ws' := wd_Cords_loseKnots cI a_t a_t_starts a_t_depth a_t_topic a_t_value a_t_nibbled a_t_value_k a_t_nibbled_k i_t_clusters i_t_size q29 q38) rfl (st := [jk_V q8]) rfl (Nat.le_of_ble_eq_true rfl) rd_Cords_loseKnots_50 ?_ ⟨Nat.le_of_ble_eq_true rfl, Nat.le_of_ble_eq_true rfl⟩
  refine jk_isub C rd_Cords_loseKnots_53 ?_
  cases hf
  exact jk_iret C rfl rd_Cords_loseKnots_54 rfl
def wd_History_clear (cI : ClassId) (a_t a_t_ring : Nat) (i_t_latest : Int) (i_t_size : Int) : va_W := [(a_t, .inr (6, [.ref a_t_ring, jk_V i_t_latest, jk_V i_t_size]))]
set_option maxHeartbeats 4000000 in
set_option maxRecDepth 20000 in
theorem ct_History_clear (l : Launch) (D : va_G) (Z : (Nat → Prop) → State → Heap → Prop) (sq : Nat → Nat) (hZ : jk_ZK Z sq) (cI cR : ClassId) (a_t a_t_ring : Nat) (i_t_latest : Int) (i_t_size : Int) (q : Int) (hf : fn_History_clear i_t_size = some q) : jk_MV l D jk_cl (jk_ty cI cR) Z mn_History_clear (.code mn_History_clear mb_History_clear 1 none :: jk_WA) (jk_rm 0 0) [.ref a_t] (wd_History_clear cI a_t a_t_ring i_t_latest i_t_size) (wd_History_clear cI a_t a_t_ring i_t_latest q) := by
  intro sz
  refine jk_body (by decide +kernel) (fun p e s m args below meth c hsz hz hin C => ?_) (Nat.le_of_ble_eq_true rfl)
  subst hsz
  unfold fn_History_clear at hf
  refine jk_aload_n C rd_History_clear_0 (k := 0) rfl ?_
  refine jk_iconst C rd_History_clear_1 ?_
  refine jk_putf C in_History ty_History nm_History (ci := 6) rfl 2 (by decide) tm_174 rfl rfl rfl 0 rfl (Nat.le_of_ble_eq_true rfl) rd_History_clear_2 (ws' := wd_History_clear cI a_t a_t_ring i_t_latest 0) rfl ?_
  cases hf
  exact jk_vret C rfl rd_History_clear_5 rfl
def wd_History_push (cI : ClassId) (cR : ClassId) (g_t_ring : Nat → Option Nat) (a_t a_t_ring a_t_slot a_t_slot_starts a_t_slot_depth a_t_slot_topic a_t_slot_value a_t_slot_nibbled a_t_slot_starts_k a_t_slot_depth_k a_t_slot_topic_k a_t_slot_value_k a_t_slot_nibbled_k a_a a_a_starts a_a_depth a_a_topic a_a_value a_a_nibbled a_a_starts_k a_a_depth_k a_a_topic_k a_a_value_k a_a_nibbled_k : Nat) (i_t_latest : Int) (i_t_size : Int) (i_t_slot_clusters : Int) (i_t_slot_size : Int) (i_t_slot_starts : (Int → Int)) (i_t_slot_depth : (Int → Int)) (i_t_slot_topic : (Int → Int)) (i_t_slot_value : (Int → Int)) (i_t_slot_nibbled : (Int → Int)) (i_a_clusters : Int) (i_a_size : Int) (i_a_starts : (Int → Int)) (i_a_depth : (Int → Int)) (i_a_topic : (Int → Int)) (i_a_value : (Int → Int)) (i_a_nibbled : (Int → Int)) : va_W := [(a_t, .inr (6, [.ref a_t_ring, jk_V i_t_latest, jk_V i_t_size])), (a_t_ring, .inl (cR, 8, .inr (.inr (.inr (.inr g_t_ring))))), (a_t_slot, .inr (5, [jk_V i_t_slot_clusters, jk_V i_t_slot_size, .ref a_t_slot_starts, .ref a_t_slot_depth, .ref a_t_slot_topic, .ref a_t_slot_value, .ref a_t_slot_nibbled])), (a_t_slot_starts, .inr (0, [.ref a_t_slot_starts_k])), (a_t_slot_starts_k, jk_W cI 7 i_t_slot_starts), (a_t_slot_depth, .inr (0, [.ref a_t_slot_depth_k])), (a_t_slot_depth_k, jk_W cI 40 i_t_slot_depth), (a_t_slot_topic, .inr (0, [.ref a_t_slot_topic_k])), (a_t_slot_topic_k, jk_W cI 40 i_t_slot_topic), (a_t_slot_value, .inr (0, [.ref a_t_slot_value_k])), (a_t_slot_value_k, jk_W cI 40 i_t_slot_value), (a_t_slot_nibbled, .inr (0, [.ref a_t_slot_nibbled_k])), (a_t_slot_nibbled_k, jk_W cI 40 i_t_slot_nibbled), (a_a, .inr (5, [jk_V i_a_clusters, jk_V i_a_size, .ref a_a_starts, .ref a_a_depth, .ref a_a_topic, .ref a_a_value, .ref a_a_nibbled])), (a_a_starts, .inr (0, [.ref a_a_starts_k])), (a_a_starts_k, jk_W cI 7 i_a_starts), (a_a_depth, .inr (0, [.ref a_a_depth_k])), (a_a_depth_k, jk_W cI 40 i_a_depth), (a_a_topic, .inr (0, [.ref a_a_topic_k])), (a_a_topic_k, jk_W cI 40 i_a_topic), (a_a_value, .inr (0, [.ref a_a_value_k])), (a_a_value_k, jk_W cI 40 i_a_value), (a_a_nibbled, .inr (0, [.ref a_a_nibbled_k])), (a_a_nibbled_k, jk_W cI 40 i_a_nibbled)]
set_option maxHeartbeats 4000000 in
set_option maxRecDepth 20000 in
theorem ct_History_push (l : Launch) (D : va_G) (Z : (Nat → Prop) → State → Heap → Prop) (sq : Nat → Nat) (hZ : jk_ZK Z sq) (cI cR : ClassId) (g_t_ring : Nat → Option Nat) (a_t a_t_ring a_t_slot a_t_slot_starts a_t_slot_depth a_t_slot_topic a_t_slot_value a_t_slot_nibbled a_t_slot_starts_k a_t_slot_depth_k a_t_slot_topic_k a_t_slot_value_k a_t_slot_nibbled_k a_a a_a_starts a_a_depth a_a_topic a_a_value a_a_nibbled a_a_starts_k a_a_depth_k a_a_topic_k a_a_value_k a_a_nibbled_k : Nat) (i_t_latest : Int) (i_t_size : Int) (i_t_slot_clusters : Int) (i_t_slot_size : Int) (i_t_slot_starts : (Int → Int)) (i_t_slot_depth : (Int → Int)) (i_t_slot_topic : (Int → Int)) (i_t_slot_value : (Int → Int)) (i_t_slot_nibbled : (Int → Int)) (i_a_clusters : Int) (i_a_size : Int) (i_a_starts : (Int → Int)) (i_a_depth : (Int → Int)) (i_a_topic : (Int → Int)) (i_a_value : (Int → Int)) (i_a_nibbled : (Int → Int)) (hg : g_t_ring ((i_t_latest + 1) % 8).toNat = some a_t_slot) (q : Int × Int × Int × Int × (Int → Int) × (Int → Int) × (Int → Int) × (Int → Int) × (Int → Int)) (hf : fn_History_push i_t_latest i_t_size i_t_slot_clusters i_t_slot_size i_t_slot_starts i_t_slot_depth i_t_slot_topic i_t_slot_value i_t_slot_nibbled i_a_clusters i_a_size i_a_starts i_a_depth i_a_topic i_a_value i_a_nibbled = some q) : jk_MV l D jk_cl (jk_ty cI cR) Z mn_History_push (.code mn_History_push mb_History_push 3 none :: jk_WA) (jk_rm 3 64) [.ref a_t, .ref a_a] (wd_History_push cI cR g_t_ring a_t a_t_ring a_t_slot a_t_slot_starts a_t_slot_depth a_t_slot_topic a_t_slot_value a_t_slot_nibbled a_t_slot_starts_k a_t_slot_depth_k a_t_slot_topic_k a_t_slot_value_k a_t_slot_nibbled_k a_a a_a_starts a_a_depth a_a_topic a_a_value a_a_nibbled a_a_starts_k a_a_depth_k a_a_topic_k a_a_value_k a_a_nibbled_k i_t_latest i_t_size i_t_slot_clusters i_t_slot_size i_t_slot_starts i_t_slot_depth i_t_slot_topic i_t_slot_value i_t_slot_nibbled i_a_clusters i_a_size i_a_starts i_a_depth i_a_topic i_a_value i_a_nibbled) (wd_History_push cI cR g_t_ring a_t a_t_ring a_t_slot a_t_slot_starts a_t_slot_depth a_t_slot_topic a_t_slot_value a_t_slot_nibbled a_t_slot_starts_k a_t_slot_depth_k a_t_slot_topic_k a_t_slot_value_k a_t_slot_nibbled_k a_a a_a_starts a_a_depth a_a_topic a_a_value a_a_nibbled a_a_starts_k a_a_depth_k a_a_topic_k a_a_value_k a_a_nibbled_k q.1 q.2.1 q.2.2.1 q.2.2.2.1 q.2.2.2.2.1 q.2.2.2.2.2.1 q.2.2.2.2.2.2.1 q.2.2.2.2.2.2.2.1 q.2.2.2.2.2.2.2.2 i_a_clusters i_a_size i_a_starts i_a_depth i_a_topic i_a_value i_a_nibbled) := by
  intro sz
  refine jk_body (by decide +kernel) (fun p e s m args below meth c hsz hz hin C => ?_) (Nat.le_of_ble_eq_true rfl)
  subst hsz
  unfold fn_History_push at hf
  refine jk_aload_n C rd_History_push_0 (k := 0) rfl ?_
  refine jk_aload_n C rd_History_push_1 (k := 0) rfl ?_
  refine jk_get C in_History (ci := 6) rfl 1 (by decide) tm_173 0 rfl rfl rd_History_push_2 ?_
  refine jk_iconst C rd_History_push_5 ?_
  refine jk_iadd C rd_History_push_6 ?_
  refine jk_bipush C rd_History_push_7 (by decide +kernel) ?_
  refine jk_irem C rd_History_push_9 hf (fun hf => ?_)
  refine jk_putf C in_History ty_History nm_History (ci := 6) rfl 1 (by decide) tm_173 rfl rfl rfl 0 rfl (Nat.le_of_ble_eq_true rfl) rd_History_push_10 (ws' := wd_History_push cI cR g_t_ring a_t a_t_ring a_t_slot a_t_slot_starts a_t_slot_depth a_t_slot_topic a_t_slot_value a_t_slot_nibbled a_t_slot_starts_k a_t_slot_depth_k a_t_slot_topic_k a_t_slot_value_k a_t_slot_nibbled_k a_a a_a_starts a_a_depth a_a_topic a_a_value a_a_nibbled a_a_starts_k a_a_depth_k a_a_topic_k a_a_value_k a_a_nibbled_k ((i_t_latest + 1) % 8) i_t_size i_t_slot_clusters i_t_slot_size i_t_slot_starts i_t_slot_depth i_t_slot_topic i_t_slot_value i_t_slot_nibbled i_a_clusters i_a_size i_a_starts i_a_depth i_a_topic i_a_value i_a_nibbled) rfl ?_
  refine jk_aload_n C rd_History_push_13 (k := 0) rfl ?_
  refine jk_aload_n C rd_History_push_14 (k := 0) rfl ?_
  refine jk_get C in_History (ci := 6) rfl 2 (by decide) tm_174 0 rfl rfl rd_History_push_15 ?_
  refine jk_bipush C rd_History_push_18 (by decide +kernel) ?_
  refine jk_icmp_ge (tgt := 32) C rd_History_push_20 (by decide) hf (fun _ hf => ?_) (fun _ hf => ?_)
  · refine jk_bipush C rd_History_push_32 (by decide +kernel) ?_
    refine jk_putf C in_History ty_History nm_History (ci := 6) rfl 2 (by decide) tm_174 rfl rfl rfl 0 rfl (Nat.le_of_ble_eq_true rfl) rd_History_push_34 (ws' := wd_History_push cI cR g_t_ring a_t a_t_ring a_t_slot a_t_slot_starts a_t_slot_depth a_t_slot_topic a_t_slot_value a_t_slot_nibbled a_t_slot_starts_k a_t_slot_depth_k a_t_slot_topic_k a_t_slot_value_k a_t_slot_nibbled_k a_a a_a_starts a_a_depth a_a_topic a_a_value a_a_nibbled a_a_starts_k a_a_depth_k a_a_topic_k a_a_value_k a_a_nibbled_k ((i_t_latest + 1) % 8) 8 i_t_slot_clusters i_t_slot_size i_t_slot_starts i_t_slot_depth i_t_slot_topic i_t_slot_value i_t_slot_nibbled i_a_clusters i_a_size i_a_starts i_a_depth i_a_topic i_a_value i_a_nibbled) rfl ?_
    refine jk_aload_n C rd_History_push_37 (k := 0) rfl ?_
    refine jk_aload_n C rd_History_push_38 (k := 0) rfl ?_
    refine jk_get C in_History (ci := 6) rfl 1 (by decide) tm_173 0 rfl rfl rd_History_push_39 ?_
    obtain ⟨hix, hf⟩ := jk_ix_h hf
    refine jk_callVq C hZ.1 hz (ct_History_at l D Z sq hZ cI cR a_t a_t_ring ((i_t_latest + 1) % 8) 8 g_t_ring ((i_t_latest + 1) % 8) hix.1 hix.2) tm_1256 tm_1258 sl_19 tm_7 tm_1259 na_History_at ⟨Nat.le_of_ble_eq_true rfl, Nat.le_of_ble_eq_true rfl⟩ rfl [0, 1] rfl rfl rfl (ws' := wd_History_push cI cR g_t_ring a_t a_t_ring a_t_slot a_t_slot_starts a_t_slot_depth a_t_slot_topic a_t_slot_value a_t_slot_nibbled a_t_slot_starts_k a_t_slot_depth_k a_t_slot_topic_k a_t_slot_value_k a_t_slot_nibbled_k a_a a_a_starts a_a_depth a_a_topic a_a_value a_a_nibbled a_a_starts_k a_a_depth_k a_a_topic_k a_a_value_k a_a_nibbled_k ((i_t_latest + 1) % 8) 8 i_t_slot_clusters i_t_slot_size i_t_slot_starts i_t_slot_depth i_t_slot_topic i_t_slot_value i_t_slot_nibbled i_a_clusters i_a_size i_a_starts i_a_depth i_a_topic i_a_value i_a_nibbled) rfl 0 6 rfl rfl rfl (st := []) rfl (Nat.le_of_ble_eq_true rfl) rd_History_push_42 ?_ ⟨Nat.le_of_ble_eq_true rfl, Nat.le_of_ble_eq_true rfl⟩
    rw [hg]
    refine jk_astore_n C rd_History_push_45 (by decide) (lv' := [(2, .ref a_t_slot), (0, .ref a_t), (1, .ref a_a)]) rfl ?_
    refine jk_aload_n C rd_History_push_46 (k := 0) rfl ?_
    refine jk_ifnull C rd_History_push_47 ?_
    refine jk_aload_n C rd_History_push_50 (k := 0) rfl ?_
    refine jk_aload_n C rd_History_push_51 (k := 2) rfl ?_
    obtain ⟨q52, hq52, hf⟩ := jk_bind_h hf
    refine jk_callVv C hZ.1 hz (ct_Cords_copyFrom l D Z sq hZ cI cR a_t_slot a_t_slot_starts a_t_slot_depth a_t_slot_topic a_t_slot_value a_t_slot_nibbled a_t_slot_starts_k a_t_slot_depth_k a_t_slot_topic_k a_t_slot_value_k a_t_slot_nibbled_k a_a a_a_starts a_a_depth a_a_topic a_a_value a_a_nibbled a_a_starts_k a_a_depth_k a_a_topic_k a_a_value_k a_a_nibbled_k i_t_slot_clusters i_t_slot_size i_t_slot_starts i_t_slot_depth i_t_slot_topic i_t_slot_value i_t_slot_nibbled i_a_clusters i_a_size i_a_starts i_a_depth i_a_topic i_a_value i_a_nibbled q52 hq52) tm_1260 tm_486 tm_487 tm_6 tm_488 na_Cords_copyFrom ⟨Nat.le_of_ble_eq_true rfl, Nat.le_of_ble_eq_true rfl⟩ rfl [2, 3, 4, 5, 6, 7, 8, 9, 10, 11, 12, 13, 14, 15, 16, 17, 18, 19, 20, 21, 22, 23] rfl rfl rfl (ws' := wd_History_push cI cR g_t_ring a_t a_t_ring a_t_slot a_t_slot_starts a_t_slot_depth a_t_slot_topic a_t_slot_value a_t_slot_nibbled a_t_slot_starts_k a_t_slot_depth_k a_t_slot_topic_k a_t_slot_value_k a_t_slot_nibbled_k a_a a_a_starts a_a_depth a_a_topic a_a_value a_a_nibbled a_a_starts_k a_a_depth_k a_a_topic_k a_a_value_k a_a_nibbled_k ((i_t_latest + 1) % 8) 8 q52.1 q52.2.1 q52.2.2.1 q52.2.2.2.1 q52.2.2.2.2.1 q52.2.2.2.2.2.1 q52.2.2.2.2.2.2 i_a_clusters i_a_size i_a_starts i_a_depth i_a_topic i_a_value i_a_nibbled) rfl 2 5 rfl rfl rfl (st := []) rfl (Nat.le_of_ble_eq_true rfl) rd_History_push_52 ?_ ⟨Nat.le_of_ble_eq_true rfl, Nat.le_of_ble_eq_true rfl⟩
    cases hf
    exact jk_vret C rfl rd_History_push_55 rfl
  · refine jk_aload_n C rd_History_push_23 (k := 0) rfl ?_
    refine jk_get C in_History (ci := 6) rfl 2 (by decide) tm_174 0 rfl rfl rd_History_push_24 ?_
    refine jk_iconst C rd_History_push_27 ?_
    refine jk_iadd C rd_History_push_28 ?_
    refine jk_goto (tgt := 34) C rd_History_push_29 (by decide) ?_
    refine jk_putf C in_History ty_History nm_History (ci := 6) rfl 2 (by decide) tm_174 rfl rfl rfl 0 rfl (Nat.le_of_ble_eq_true rfl) rd_History_push_34 (ws' := wd_History_push cI cR g_t_ring a_t a_t_ring a_t_slot a_t_slot_starts a_t_slot_depth a_t_slot_topic a_t_slot_value a_t_slot_nibbled a_t_slot_starts_k a_t_slot_depth_k a_t_slot_topic_k a_t_slot_value_k a_t_slot_nibbled_k a_a a_a_starts a_a_depth a_a_topic a_a_value a_a_nibbled a_a_starts_k a_a_depth_k a_a_topic_k a_a_value_k a_a_nibbled_k ((i_t_latest + 1) % 8) (i_t_size + 1) i_t_slot_clusters i_t_slot_size i_t_slot_starts i_t_slot_depth i_t_slot_topic i_t_slot_value i_t_slot_nibbled i_a_clusters i_a_size i_a_starts i_a_depth i_a_topic i_a_value i_a_nibbled) rfl ?_
    refine jk_aload_n C rd_History_push_37 (k := 0) rfl ?_
    refine jk_aload_n C rd_History_push_38 (k := 0) rfl ?_
    refine jk_get C in_History (ci := 6) rfl 1 (by decide) tm_173 0 rfl rfl rd_History_push_39 ?_
    obtain ⟨hix, hf⟩ := jk_ix_h hf
    refine jk_callVq C hZ.1 hz (ct_History_at l D Z sq hZ cI cR a_t a_t_ring ((i_t_latest + 1) % 8) (i_t_size + 1) g_t_ring ((i_t_latest + 1) % 8) hix.1 hix.2) tm_1256 tm_1258 sl_19 tm_7 tm_1259 na_History_at ⟨Nat.le_of_ble_eq_true rfl, Nat.le_of_ble_eq_true rfl⟩ rfl [0, 1] rfl rfl rfl (ws' := wd_History_push cI cR g_t_ring a_t a_t_ring a_t_slot a_t_slot_starts a_t_slot_depth a_t_slot_topic a_t_slot_value a_t_slot_nibbled a_t_slot_starts_k a_t_slot_depth_k a_t_slot_topic_k a_t_slot_value_k a_t_slot_nibbled_k a_a a_a_starts a_a_depth a_a_topic a_a_value a_a_nibbled a_a_starts_k a_a_depth_k a_a_topic_k a_a_value_k a_a_nibbled_k ((i_t_latest + 1) % 8) (i_t_size + 1) i_t_slot_clusters i_t_slot_size i_t_slot_starts i_t_slot_depth i_t_slot_topic i_t_slot_value i_t_slot_nibbled i_a_clusters i_a_size i_a_starts i_a_depth i_a_topic i_a_value i_a_nibbled) rfl 0 6 rfl rfl rfl (st := []) rfl (Nat.le_of_ble_eq_true rfl) rd_History_push_42 ?_ ⟨Nat.le_of_ble_eq_true rfl, Nat.le_of_ble_eq_true rfl⟩
    rw [hg]
    refine jk_astore_n C rd_History_push_45 (by decide) (lv' := [(2, .ref a_t_slot), (0, .ref a_t), (1, .ref a_a)]) rfl ?_
    refine jk_aload_n C rd_History_push_46 (k := 0) rfl ?_
    refine jk_ifnull C rd_History_push_47 ?_
    refine jk_aload_n C rd_History_push_50 (k := 0) rfl ?_
    refine jk_aload_n C rd_History_push_51 (k := 2) rfl ?_
    obtain ⟨q52, hq52, hf⟩ := jk_bind_h hf
    refine jk_callVv C hZ.1 hz (ct_Cords_copyFrom l D Z sq hZ cI cR a_t_slot a_t_slot_starts a_t_slot_depth a_t_slot_topic a_t_slot_value a_t_slot_nibbled a_t_slot_starts_k a_t_slot_depth_k a_t_slot_topic_k a_t_slot_value_k a_t_slot_nibbled_k a_a a_a_starts a_a_depth a_a_topic a_a_value a_a_nibbled a_a_starts_k a_a_depth_k a_a_topic_k a_a_value_k a_a_nibbled_k i_t_slot_clusters i_t_slot_size i_t_slot_starts i_t_slot_depth i_t_slot_topic i_t_slot_value i_t_slot_nibbled i_a_clusters i_a_size i_a_starts i_a_depth i_a_topic i_a_value i_a_nibbled q52 hq52) tm_1260 tm_486 tm_487 tm_6 tm_488 na_Cords_copyFrom ⟨Nat.le_of_ble_eq_true rfl, Nat.le_of_ble_eq_true rfl⟩ rfl [2, 3, 4, 5, 6, 7, 8, 9, 10, 11, 12, 13, 14, 15, 16, 17, 18, 19, 20, 21, 22, 23] rfl rfl rfl (ws' := wd_History_push cI cR g_t_ring a_t a_t_ring a_t_slot a_t_slot_starts a_t_slot_depth a_t_slot_topic a_t_slot_value a_t_slot_nibbled a_t_slot_starts_k a_t_slot_depth_k a_t_slot_topic_k a_t_slot_value_k a_t_slot_nibbled_k a_a a_a_starts a_a_depth a_a_topic a_a_value a_a_nibbled a_a_starts_k a_a_depth_k a_a_topic_k a_a_value_k a_a_nibbled_k ((i_t_latest + 1) % 8) (i_t_size + 1) q52.1 q52.2.1 q52.2.2.1 q52.2.2.2.1 q52.2.2.2.2.1 q52.2.2.2.2.2.1 q52.2.2.2.2.2.2 i_a_clusters i_a_size i_a_starts i_a_depth i_a_topic i_a_value i_a_nibbled) rfl 2 5 rfl rfl rfl (st := []) rfl (Nat.le_of_ble_eq_true rfl) rd_History_push_52 ?_ ⟨Nat.le_of_ble_eq_true rfl, Nat.le_of_ble_eq_true rfl⟩
    cases hf
    exact jk_vret C rfl rd_History_push_55 rfl
def wd_Row_replace (cI : ClassId) (n_t : Nat) (a_t a_t_k : Nat) (i_t_cells : (Int → Int)) : va_W := [(a_t, .inr (0, [.ref a_t_k])), (a_t_k, jk_W cI n_t i_t_cells)]
set_option maxHeartbeats 4000000 in
set_option maxRecDepth 20000 in
theorem ct_Row_replace (l : Launch) (D : va_G) (Z : (Nat → Prop) → State → Heap → Prop) (sq : Nat → Nat) (hZ : jk_ZK Z sq) (cI cR : ClassId) {n_t : Nat} (hn_t : n_t < 2147483648) (a_t a_t_k : Nat) (i_t_cells : (Int → Int)) (x1 : Int) (x2 : Int) (q : Int × (Int → Int)) (hf : fn_Row_replace (n_t : Int) i_t_cells x1 x2 = some q) : jk_MI l D jk_cl (jk_ty cI cR) Z mn_Row_replace (.code mn_Row_replace mb_Row_replace 4 (some .int) :: jk_WA) (jk_rm 1 22) [.ref a_t, jk_V x1, jk_V x2] (wd_Row_replace cI n_t a_t a_t_k i_t_cells) (wd_Row_replace cI n_t a_t a_t_k q.2) q.1 := by
  intro sz
  refine jk_body (by decide +kernel) (fun p e s m args below meth c hsz hz hin C => ?_) (Nat.le_of_ble_eq_true rfl)
  subst hsz
  unfold fn_Row_replace at hf
  refine jk_aload_n C rd_Row_replace_0 (k := 0) rfl ?_
  refine jk_iload_n C rd_Row_replace_1 (k := 1) rfl ?_
  obtain ⟨q2, hq2, hf⟩ := jk_bind_h hf
  refine jk_callVi C hZ.1 hz (ct_Row_get l D Z sq hZ cI cR (n_t := n_t) hn_t a_t a_t_k i_t_cells x1 q2 hq2) tm_402 tm_299 tm_300 tm_3 tm_301 na_Row_get ⟨Nat.le_of_ble_eq_true rfl, Nat.le_of_ble_eq_true rfl⟩ rfl [0, 1] rfl rfl rfl (ws' := wd_Row_replace cI n_t a_t a_t_k i_t_cells) rfl 0 0 rfl rfl rfl (st := []) rfl (Nat.le_of_ble_eq_true rfl) rd_Row_replace_2 ?_ ⟨Nat.le_of_ble_eq_true rfl, Nat.le_of_ble_eq_true rfl⟩
  refine jk_istore_n C rd_Row_replace_5 (by decide) (lv' := [(3, jk_V q2), (0, .ref a_t), (1, jk_V x1), (2, jk_V x2)]) rfl ?_
  refine jk_aload_n C rd_Row_replace_6 (k := 1) rfl ?_
  refine jk_iload_n C rd_Row_replace_7 (k := 2) rfl ?_
  refine jk_iload_n C rd_Row_replace_8 (k := 3) rfl ?_
  obtain ⟨q9, hq9, hf⟩ := jk_bind_h hf
  refine jk_callVv C hZ.1 hz (ct_Row_set l D Z sq hZ cI cR (n_t := n_t) hn_t a_t a_t_k i_t_cells x1 x2 q9 hq9) tm_403 tm_264 tm_265 tm_3 tm_266 na_Row_set ⟨Nat.le_of_ble_eq_true rfl, Nat.le_of_ble_eq_true rfl⟩ rfl [0, 1] rfl rfl rfl (ws' := wd_Row_replace cI n_t a_t a_t_k q9) rfl 0 0 rfl rfl rfl (st := []) rfl (Nat.le_of_ble_eq_true rfl) rd_Row_replace_9 ?_ ⟨Nat.le_of_ble_eq_true rfl, Nat.le_of_ble_eq_true rfl⟩
  refine jk_iload_n C rd_Row_replace_12 (k := 0) rfl ?_
  cases hf
  exact jk_iret C rfl rd_Row_replace_13 rfl
def wd_Text_fail (cI : ClassId) (a_t a_t_bytes : Nat) (i_t_length : Int) (i_t_kind : Int) (i_t_start : Int) (i_t_end : Int) (i_t_code : Int) (i_t_offset : Int) : va_W := [(a_t, .inr (3, [.ref a_t_bytes, jk_V i_t_length, jk_V i_t_kind, jk_V i_t_start, jk_V i_t_end, jk_V i_t_code, jk_V i_t_offset]))]
set_option maxHeartbeats 4000000 in
set_option maxRecDepth 20000 in
theorem ct_Text_fail (l : Launch) (D : va_G) (Z : (Nat → Prop) → State → Heap → Prop) (sq : Nat → Nat) (hZ : jk_ZK Z sq) (cI cR : ClassId) (a_t a_t_bytes : Nat) (i_t_length : Int) (i_t_kind : Int) (i_t_start : Int) (i_t_end : Int) (i_t_code : Int) (i_t_offset : Int) (x1 : Int) (q : Int × Int) (hf : fn_Text_fail i_t_start i_t_code i_t_offset x1 = some q) : jk_MV l D jk_cl (jk_ty cI cR) Z mn_Text_fail (.code mn_Text_fail mb_Text_fail 2 none :: jk_WA) (jk_rm 0 0) [.ref a_t, jk_V x1] (wd_Text_fail cI a_t a_t_bytes i_t_length i_t_kind i_t_start i_t_end i_t_code i_t_offset) (wd_Text_fail cI a_t a_t_bytes i_t_length i_t_kind i_t_start i_t_end q.1 q.2) := by
  intro sz
  refine jk_body (by decide +kernel) (fun p e s m args below meth c hsz hz hin C => ?_) (Nat.le_of_ble_eq_true rfl)
  subst hsz
  unfold fn_Text_fail at hf
  refine jk_aload_n C rd_Text_fail_0 (k := 0) rfl ?_
  refine jk_get C in_Text (ci := 3) rfl 5 (by decide) tm_71 0 rfl rfl rd_Text_fail_1 ?_
  refine jk_if_ne (tgt := 20) C rd_Text_fail_4 (by decide) hf (fun _ hf => ?_) (fun _ hf => ?_)
  · cases hf
    exact jk_vret C rfl rd_Text_fail_20 rfl
  · refine jk_aload_n C rd_Text_fail_7 (k := 0) rfl ?_
    refine jk_iload_n C rd_Text_fail_8 (k := 1) rfl ?_
    refine jk_putf C in_Text ty_Text nm_Text (ci := 3) rfl 5 (by decide) tm_71 rfl rfl rfl 0 rfl (Nat.le_of_ble_eq_true rfl) rd_Text_fail_9 (ws' := wd_Text_fail cI a_t a_t_bytes i_t_length i_t_kind i_t_start i_t_end x1 i_t_offset) rfl ?_
    refine jk_aload_n C rd_Text_fail_12 (k := 0) rfl ?_
    refine jk_aload_n C rd_Text_fail_13 (k := 0) rfl ?_
    refine jk_get C in_Text (ci := 3) rfl 3 (by decide) tm_69 0 rfl rfl rd_Text_fail_14 ?_
    refine jk_putf C in_Text ty_Text nm_Text (ci := 3) rfl 6 (by decide) tm_73 rfl rfl rfl 0 rfl (Nat.le_of_ble_eq_true rfl) rd_Text_fail_17 (ws' := wd_Text_fail cI a_t a_t_bytes i_t_length i_t_kind i_t_start i_t_end x1 i_t_start) rfl ?_
    cases hf
    exact jk_vret C rfl rd_Text_fail_20 rfl
def wd_Text_hasFailed (cI : ClassId) (a_t a_t_bytes : Nat) (i_t_length : Int) (i_t_kind : Int) (i_t_start : Int) (i_t_end : Int) (i_t_code : Int) (i_t_offset : Int) : va_W := [(a_t, .inr (3, [.ref a_t_bytes, jk_V i_t_length, jk_V i_t_kind, jk_V i_t_start, jk_V i_t_end, jk_V i_t_code, jk_V i_t_offset]))]
set_option maxHeartbeats 4000000 in
set_option maxRecDepth 20000 in
theorem ct_Text_hasFailed (l : Launch) (D : va_G) (Z : (Nat → Prop) → State → Heap → Prop) (sq : Nat → Nat) (hZ : jk_ZK Z sq) (cI cR : ClassId) (a_t a_t_bytes : Nat) (i_t_length : Int) (i_t_kind : Int) (i_t_start : Int) (i_t_end : Int) (i_t_code : Int) (i_t_offset : Int) (q : Int) (hf : fn_Text_hasFailed i_t_code = some q) : jk_MI l D jk_cl (jk_ty cI cR) Z mn_Text_hasFailed (.code mn_Text_hasFailed mb_Text_hasFailed 1 (some .boolean) :: jk_WA) (jk_rm 0 0) [.ref a_t] (wd_Text_hasFailed cI a_t a_t_bytes i_t_length i_t_kind i_t_start i_t_end i_t_code i_t_offset) (wd_Text_hasFailed cI a_t a_t_bytes i_t_length i_t_kind i_t_start i_t_end i_t_code i_t_offset) q := by
  intro sz
  refine jk_body (by decide +kernel) (fun p e s m args below meth c hsz hz hin C => ?_) (Nat.le_of_ble_eq_true rfl)
  subst hsz
  unfold fn_Text_hasFailed at hf
  refine jk_aload_n C rd_Text_hasFailed_0 (k := 0) rfl ?_
  refine jk_get C in_Text (ci := 3) rfl 5 (by decide) tm_71 0 rfl rfl rd_Text_hasFailed_1 ?_
  refine jk_if_eq (tgt := 11) C rd_Text_hasFailed_4 (by decide) hf (fun _ hf => ?_) (fun _ hf => ?_)
  · refine jk_iconst C rd_Text_hasFailed_11 ?_
    cases hf
    exact jk_zret C (Or.inl rfl) rfl rd_Text_hasFailed_12 rfl
  · refine jk_iconst C rd_Text_hasFailed_7 ?_
    refine jk_goto (tgt := 12) C rd_Text_hasFailed_8 (by decide) ?_
    cases hf
    exact jk_zret C (Or.inr rfl) rfl rd_Text_hasFailed_12 rfl
def wd_Text_sortAt (cI : ClassId) (a_t a_t_bytes a_t_bytes_k : Nat) (i_t_length : Int) (i_t_kind : Int) (i_t_start : Int) (i_t_end : Int) (i_t_code : Int) (i_t_offset : Int) (i_t_bytes : (Int → Int)) : va_W := [(a_t, .inr (3, [.ref a_t_bytes, jk_V i_t_length, jk_V i_t_kind, jk_V i_t_start, jk_V i_t_end, jk_V i_t_code, jk_V i_t_offset])), (a_t_bytes, .inr (0, [.ref a_t_bytes_k])), (a_t_bytes_k, jk_W cI 700 i_t_bytes)]
set_option maxHeartbeats 4000000 in
set_option maxRecDepth 20000 in
theorem ct_Text_sortAt (l : Launch) (D : va_G) (Z : (Nat → Prop) → State → Heap → Prop) (sq : Nat → Nat) (hZ : jk_ZK Z sq) (cI cR : ClassId) (a_t a_t_bytes a_t_bytes_k : Nat) (i_t_length : Int) (i_t_kind : Int) (i_t_start : Int) (i_t_end : Int) (i_t_code : Int) (i_t_offset : Int) (i_t_bytes : (Int → Int)) (x1 : Int) (q : Int) (hf : fn_Text_sortAt i_t_bytes i_t_length x1 = some q) : jk_MI l D jk_cl (jk_ty cI cR) Z mn_Text_sortAt (.code mn_Text_sortAt mb_Text_sortAt 3 (some .int) :: jk_WA) (jk_rm 1 21) [.ref a_t, jk_V x1] (wd_Text_sortAt cI a_t a_t_bytes a_t_bytes_k i_t_length i_t_kind i_t_start i_t_end i_t_code i_t_offset i_t_bytes) (wd_Text_sortAt cI a_t a_t_bytes a_t_bytes_k i_t_length i_t_kind i_t_start i_t_end i_t_code i_t_offset i_t_bytes) q := by
  intro sz
  refine jk_body (by decide +kernel) (fun p e s m args below meth c hsz hz hin C => ?_) (Nat.le_of_ble_eq_true rfl)
  subst hsz
  unfold fn_Text_sortAt at hf
  have bk_47 : ∀ (v2 : Int), fn_Text_sortAt_b47 v2 = some q → jk_J p l e (jk_rm 1 21) s m args below meth c 0 0 (jk_QI below D jk_cl (jk_ty cI cR) (wd_Text_sortAt cI a_t a_t_bytes a_t_bytes_k i_t_length i_t_kind i_t_start i_t_end i_t_code i_t_offset i_t_bytes) (wd_Text_sortAt cI a_t a_t_bytes a_t_bytes_k i_t_length i_t_kind i_t_start i_t_end i_t_code i_t_offset i_t_bytes) args s q) D jk_cl (va_A (wd_Text_sortAt cI a_t a_t_bytes a_t_bytes_k i_t_length i_t_kind i_t_start i_t_end i_t_code i_t_offset i_t_bytes) s.heap.size) 3 (wd_Text_sortAt cI a_t a_t_bytes a_t_bytes_k i_t_length i_t_kind i_t_start i_t_end i_t_code i_t_offset i_t_bytes) [(2, jk_V v2)] 47 [] := by
    intro v2 hf
    unfold fn_Text_sortAt_b47 at hf
    refine jk_iload_n C rd_Text_sortAt_47 (k := 0) rfl ?_
    refine jk_bipush C rd_Text_sortAt_48 (by decide +kernel) ?_
    refine jk_icmp_lt (tgt := 61) C rd_Text_sortAt_50 (by decide) hf (fun _ hf => ?_) (fun _ hf => ?_)
    · refine jk_iload_n C rd_Text_sortAt_61 (k := 0) rfl ?_
      refine jk_bipush C rd_Text_sortAt_62 (by decide +kernel) ?_
      refine jk_icmp_ne (tgt := 71) C rd_Text_sortAt_64 (by decide) hf (fun _ hf => ?_) (fun _ hf => ?_)
      · refine jk_iconst C rd_Text_sortAt_71 ?_
        cases hf
        exact jk_iret C rfl rd_Text_sortAt_72 rfl
      · refine jk_iconst C rd_Text_sortAt_67 ?_
        refine jk_goto (tgt := 72) C rd_Text_sortAt_68 (by decide) ?_
        cases hf
        exact jk_iret C rfl rd_Text_sortAt_72 rfl
    · refine jk_iload_n C rd_Text_sortAt_53 (k := 0) rfl ?_
      refine jk_bipush C rd_Text_sortAt_54 (by decide +kernel) ?_
      refine jk_icmp_gt (tgt := 61) C rd_Text_sortAt_56 (by decide) hf (fun _ hf => ?_) (fun _ hf => ?_)
      · refine jk_iload_n C rd_Text_sortAt_61 (k := 0) rfl ?_
        refine jk_bipush C rd_Text_sortAt_62 (by decide +kernel) ?_
        refine jk_icmp_ne (tgt := 71) C rd_Text_sortAt_64 (by decide) hf (fun _ hf => ?_) (fun _ hf => ?_)
        · refine jk_iconst C rd_Text_sortAt_71 ?_
          cases hf
          exact jk_iret C rfl rd_Text_sortAt_72 rfl
        · refine jk_iconst C rd_Text_sortAt_67 ?_
          refine jk_goto (tgt := 72) C rd_Text_sortAt_68 (by decide) ?_
          cases hf
          exact jk_iret C rfl rd_Text_sortAt_72 rfl
      · refine jk_iconst C rd_Text_sortAt_59 ?_
        cases hf
        exact jk_iret C rfl rd_Text_sortAt_60 rfl
  refine jk_iload_n C rd_Text_sortAt_0 (k := 1) rfl ?_
  refine jk_aload_n C rd_Text_sortAt_1 (k := 0) rfl ?_
  refine jk_get C in_Text (ci := 3) rfl 1 (by decide) tm_66 0 rfl rfl rd_Text_sortAt_2 ?_
  refine jk_icmp_lt (tgt := 10) C rd_Text_sortAt_5 (by decide) hf (fun _ hf => ?_) (fun _ hf => ?_)
  · refine jk_aload_n C rd_Text_sortAt_10 (k := 0) rfl ?_
    refine jk_get C in_Text (ci := 3) rfl 0 (by decide) tm_65 0 rfl rfl rd_Text_sortAt_11 ?_
    refine jk_iload_n C rd_Text_sortAt_14 (k := 1) rfl ?_
    obtain ⟨q15, hq15, hf⟩ := jk_bind_h hf
    refine jk_callVi C hZ.1 hz (ct_Row_get l D Z sq hZ cI cR (n_t := 700) (Nat.le_of_ble_eq_true rfl) a_t_bytes a_t_bytes_k i_t_bytes x1 q15 hq15) tm_298 tm_299 tm_300 tm_3 tm_301 na_Row_get ⟨Nat.le_of_ble_eq_true rfl, Nat.le_of_ble_eq_true rfl⟩ rfl [1, 2] rfl rfl rfl (ws' := wd_Text_sortAt cI a_t a_t_bytes a_t_bytes_k i_t_length i_t_kind i_t_start i_t_end i_t_code i_t_offset i_t_bytes) rfl 1 0 rfl rfl rfl (st := []) rfl (Nat.le_of_ble_eq_true rfl) rd_Text_sortAt_15 ?_ ⟨Nat.le_of_ble_eq_true rfl, Nat.le_of_ble_eq_true rfl⟩
    refine jk_istore_n C rd_Text_sortAt_18 (by decide) (lv' := [(2, jk_V q15), (0, .ref a_t), (1, jk_V x1)]) rfl ?_
    refine jk_iload_n C rd_Text_sortAt_19 (k := 0) rfl ?_
    refine jk_bipush C rd_Text_sortAt_20 (by decide +kernel) ?_
    refine jk_icmp_eq (tgt := 31) C rd_Text_sortAt_22 (by decide) hf (fun _ hf => ?_) (fun _ hf => ?_)
    · refine jk_iconst C rd_Text_sortAt_31 ?_
      cases hf
      exact jk_iret C rfl rd_Text_sortAt_32 rfl
    · refine jk_iload_n C rd_Text_sortAt_25 (k := 0) rfl ?_
      refine jk_bipush C rd_Text_sortAt_26 (by decide +kernel) ?_
      refine jk_icmp_ne (tgt := 33) C rd_Text_sortAt_28 (by decide) hf (fun _ hf => ?_) (fun _ hf => ?_)
      · refine jk_iload_n C rd_Text_sortAt_33 (k := 0) rfl ?_
        refine jk_bipush C rd_Text_sortAt_34 (by decide +kernel) ?_
        refine jk_icmp_lt (tgt := 47) C rd_Text_sortAt_36 (by decide) hf (fun _ hf => ?_) (fun _ hf => ?_)
        · refine jk_lv (lv' := [(2, jk_V q15)]) [0] rfl ?_
          exact bk_47 q15 hf
        · refine jk_iload_n C rd_Text_sortAt_39 (k := 0) rfl ?_
          refine jk_bipush C rd_Text_sortAt_40 (by decide +kernel) ?_
          refine jk_icmp_gt (tgt := 47) C rd_Text_sortAt_42 (by decide) hf (fun _ hf => ?_) (fun _ hf => ?_)
          · refine jk_lv (lv' := [(2, jk_V q15)]) [0] rfl ?_
            exact bk_47 q15 hf
          · refine jk_iconst C rd_Text_sortAt_45 ?_
            cases hf
            exact jk_iret C rfl rd_Text_sortAt_46 rfl
      · refine jk_iconst C rd_Text_sortAt_31 ?_
        cases hf
        exact jk_iret C rfl rd_Text_sortAt_32 rfl
  · refine jk_iconst C rd_Text_sortAt_8 ?_
    cases hf
    exact jk_iret C rfl rd_Text_sortAt_9 rfl
def wd_Text_next (cI : ClassId) (a_t a_t_bytes a_t_bytes_k : Nat) (i_t_length : Int) (i_t_kind : Int) (i_t_start : Int) (i_t_end : Int) (i_t_code : Int) (i_t_offset : Int) (i_t_bytes : (Int → Int)) : va_W := [(a_t, .inr (3, [.ref a_t_bytes, jk_V i_t_length, jk_V i_t_kind, jk_V i_t_start, jk_V i_t_end, jk_V i_t_code, jk_V i_t_offset])), (a_t_bytes, .inr (0, [.ref a_t_bytes_k])), (a_t_bytes_k, jk_W cI 700 i_t_bytes)]
set_option maxHeartbeats 4000000 in
set_option maxRecDepth 20000 in
theorem ct_Text_next (l : Launch) (D : va_G) (Z : (Nat → Prop) → State → Heap → Prop) (sq : Nat → Nat) (hZ : jk_ZK Z sq) (cI cR : ClassId) (a_t a_t_bytes a_t_bytes_k : Nat) (i_t_length : Int) (i_t_kind : Int) (i_t_start : Int) (i_t_end : Int) (i_t_code : Int) (i_t_offset : Int) (i_t_bytes : (Int → Int)) (q : Int × Int × Int) (hf : fn_Text_next i_t_bytes i_t_length i_t_kind i_t_start i_t_end = some q) : jk_MV l D jk_cl (jk_ty cI cR) Z mn_Text_next (.code mn_Text_next mb_Text_next 2 none :: jk_WA) (jk_rm 2 43) [.ref a_t] (wd_Text_next cI a_t a_t_bytes a_t_bytes_k i_t_length i_t_kind i_t_start i_t_end i_t_code i_t_offset i_t_bytes) (wd_Text_next cI a_t a_t_bytes a_t_bytes_k i_t_length q.1 q.2.1 q.2.2 i_t_code i_t_offset i_t_bytes) := by
  intro sz
  refine jk_body (by decide +kernel) (fun p e s m args below meth c hsz hz hin C => ?_) (Nat.le_of_ble_eq_true rfl)
  subst hsz
  unfold fn_Text_next at hf
  have bk_149 : ∀ (t_kind : Int) (t_start : Int) (t_end : Int) (v1 : Int), fn_Text_next_b149 t_kind t_start t_end v1 = some q → jk_J p l e (jk_rm 2 43) s m args below meth c 0 0 (jk_QV below D jk_cl (jk_ty cI cR) (wd_Text_next cI a_t a_t_bytes a_t_bytes_k i_t_length i_t_kind i_t_start i_t_end i_t_code i_t_offset i_t_bytes) (wd_Text_next cI a_t a_t_bytes a_t_bytes_k i_t_length q.1 q.2.1 q.2.2 i_t_code i_t_offset i_t_bytes) args s) D jk_cl (va_A (wd_Text_next cI a_t a_t_bytes a_t_bytes_k i_t_length i_t_kind i_t_start i_t_end i_t_code i_t_offset i_t_bytes) s.heap.size) 2 (wd_Text_next cI a_t a_t_bytes a_t_bytes_k i_t_length t_kind t_start t_end i_t_code i_t_offset i_t_bytes) [(0, .ref a_t), (1, jk_V v1)] 149 [] := by
    intro t_kind t_start t_end v1 hf
    unfold fn_Text_next_b149 at hf
    refine jk_iload_n C rd_Text_next_149 (k := 1) rfl ?_
    refine jk_if_eq (tgt := 184) C rd_Text_next_150 (by decide) hf (fun _ hf => ?_) (fun _ hf => ?_)
    · cases hf
      exact jk_vret C rfl rd_Text_next_184 rfl
    · refine jk_aload_n C rd_Text_next_153 (k := 0) rfl ?_
      refine jk_get C in_Text (ci := 3) rfl 4 (by decide) tm_70 0 rfl rfl rd_Text_next_154 ?_
      refine jk_aload_n C rd_Text_next_157 (k := 0) rfl ?_
      refine jk_get C in_Text (ci := 3) rfl 3 (by decide) tm_69 0 rfl rfl rd_Text_next_158 ?_
      refine jk_isub C rd_Text_next_161 ?_
      refine jk_aload_n C rd_Text_next_162 (k := 0) rfl ?_
      refine jk_get C in_Text (ci := 3) rfl 2 (by decide) tm_68 0 rfl rfl rd_Text_next_163 ?_
      refine jk_iconst C rd_Text_next_166 ?_
      refine jk_icmp_ne (tgt := 175) C rd_Text_next_167 (by decide) hf (fun _ hf => ?_) (fun _ hf => ?_)
      · refine jk_iconst C rd_Text_next_175 ?_
        refine jk_icmp_le (tgt := 184) C rd_Text_next_176 (by decide) hf (fun _ hf => ?_) (fun _ hf => ?_)
        · cases hf
          exact jk_vret C rfl rd_Text_next_184 rfl
        · refine jk_aload_n C rd_Text_next_179 (k := 0) rfl ?_
          refine jk_iconst C rd_Text_next_180 ?_
          refine jk_putf C in_Text ty_Text nm_Text (ci := 3) rfl 2 (by decide) tm_68 rfl rfl rfl 0 rfl (Nat.le_of_ble_eq_true rfl) rd_Text_next_181 (ws' := wd_Text_next cI a_t a_t_bytes a_t_bytes_k i_t_length 5 t_start t_end i_t_code i_t_offset i_t_bytes) rfl ?_
          cases hf
          exact jk_vret C rfl rd_Text_next_184 rfl
      · refine jk_bipush C rd_Text_next_170 (by decide +kernel) ?_
        refine jk_goto (tgt := 176) C rd_Text_next_172 (by decide) ?_
        refine jk_icmp_le (tgt := 184) C rd_Text_next_176 (by decide) hf (fun _ hf => ?_) (fun _ hf => ?_)
        · cases hf
          exact jk_vret C rfl rd_Text_next_184 rfl
        · refine jk_aload_n C rd_Text_next_179 (k := 0) rfl ?_
          refine jk_iconst C rd_Text_next_180 ?_
          refine jk_putf C in_Text ty_Text nm_Text (ci := 3) rfl 2 (by decide) tm_68 rfl rfl rfl 0 rfl (Nat.le_of_ble_eq_true rfl) rd_Text_next_181 (ws' := wd_Text_next cI a_t a_t_bytes a_t_bytes_k i_t_length 5 t_start t_end i_t_code i_t_offset i_t_bytes) rfl ?_
          cases hf
          exact jk_vret C rfl rd_Text_next_184 rfl
  have bk_106 : ∀ (n : Nat) (t_kind : Int) (t_start : Int) (t_end : Int) (v1 : Int), fn_Text_next_b106 n i_t_bytes i_t_length t_kind t_start t_end v1 = some q → jk_J p l e (jk_rm 2 43) s m args below meth c 0 0 (jk_QV below D jk_cl (jk_ty cI cR) (wd_Text_next cI a_t a_t_bytes a_t_bytes_k i_t_length i_t_kind i_t_start i_t_end i_t_code i_t_offset i_t_bytes) (wd_Text_next cI a_t a_t_bytes a_t_bytes_k i_t_length q.1 q.2.1 q.2.2 i_t_code i_t_offset i_t_bytes) args s) D jk_cl (va_A (wd_Text_next cI a_t a_t_bytes a_t_bytes_k i_t_length i_t_kind i_t_start i_t_end i_t_code i_t_offset i_t_bytes) s.heap.size) 2 (wd_Text_next cI a_t a_t_bytes a_t_bytes_k i_t_length t_kind t_start t_end i_t_code i_t_offset i_t_bytes) [(0, .ref a_t), (1, jk_V v1)] 106 [] := by
    intro n
    induction n with
    | zero => intro t_kind t_start t_end v1 hf; exact nomatch (show none = some q from hf)
    | succ n ih =>
      intro t_kind t_start t_end v1 hf
      rw [fn_Text_next_b106] at hf
      refine jk_iload_n C rd_Text_next_106 (k := 1) rfl ?_
      refine jk_if_eq (tgt := 149) C rd_Text_next_107 (by decide) hf (fun _ hf => ?_) (fun _ hf => ?_)
      · refine jk_lv (lv' := [(0, .ref a_t), (1, jk_V v1)]) [0, 1] rfl ?_
        exact bk_149 t_kind t_start t_end v1 hf
      · refine jk_aload_n C rd_Text_next_110 (k := 0) rfl ?_
        refine jk_get C in_Text (ci := 3) rfl 4 (by decide) tm_70 0 rfl rfl rd_Text_next_111 ?_
        refine jk_aload_n C rd_Text_next_114 (k := 0) rfl ?_
        refine jk_get C in_Text (ci := 3) rfl 1 (by decide) tm_66 0 rfl rfl rd_Text_next_115 ?_
        refine jk_icmp_ge (tgt := 149) C rd_Text_next_118 (by decide) hf (fun _ hf => ?_) (fun _ hf => ?_)
        · refine jk_lv (lv' := [(0, .ref a_t), (1, jk_V v1)]) [0, 1] rfl ?_
          exact bk_149 t_kind t_start t_end v1 hf
        · refine jk_aload_n C rd_Text_next_121 (k := 0) rfl ?_
          refine jk_aload_n C rd_Text_next_122 (k := 0) rfl ?_
          refine jk_get C in_Text (ci := 3) rfl 4 (by decide) tm_70 0 rfl rfl rd_Text_next_123 ?_
          obtain ⟨q126, hq126, hf⟩ := jk_bind_h hf
          refine jk_callVi C hZ.1 hz (ct_Text_sortAt l D Z sq hZ cI cR a_t a_t_bytes a_t_bytes_k i_t_length t_kind t_start t_end i_t_code i_t_offset i_t_bytes t_end q126 hq126) tm_294 tm_296 sl_1 tm_2 tm_297 na_Text_sortAt ⟨Nat.le_of_ble_eq_true rfl, Nat.le_of_ble_eq_true rfl⟩ rfl [0, 1, 2] rfl rfl rfl (ws' := wd_Text_next cI a_t a_t_bytes a_t_bytes_k i_t_length t_kind t_start t_end i_t_code i_t_offset i_t_bytes) rfl 0 3 rfl rfl rfl (st := []) rfl (Nat.le_of_ble_eq_true rfl) rd_Text_next_126 ?_ ⟨Nat.le_of_ble_eq_true rfl, Nat.le_of_ble_eq_true rfl⟩
          refine jk_aload_n C rd_Text_next_129 (k := 0) rfl ?_
          refine jk_get C in_Text (ci := 3) rfl 2 (by decide) tm_68 0 rfl rfl rd_Text_next_130 ?_
          refine jk_icmp_ne (tgt := 149) C rd_Text_next_133 (by decide) hf (fun _ hf => ?_) (fun _ hf => ?_)
          · refine jk_lv (lv' := [(0, .ref a_t), (1, jk_V v1)]) [0, 1] rfl ?_
            exact bk_149 t_kind t_start t_end v1 hf
          · refine jk_aload_n C rd_Text_next_136 (k := 0) rfl ?_
            refine jk_dup C rd_Text_next_137 rfl ?_
            refine jk_get C in_Text (ci := 3) rfl 4 (by decide) tm_70 0 rfl rfl rd_Text_next_138 ?_
            refine jk_iconst C rd_Text_next_141 ?_
            refine jk_iadd C rd_Text_next_142 ?_
            refine jk_putf C in_Text ty_Text nm_Text (ci := 3) rfl 4 (by decide) tm_70 rfl rfl rfl 0 rfl (Nat.le_of_ble_eq_true rfl) rd_Text_next_143 (ws' := wd_Text_next cI a_t a_t_bytes a_t_bytes_k i_t_length t_kind t_start (t_end + 1) i_t_code i_t_offset i_t_bytes) rfl ?_
            refine jk_goto (tgt := 106) C rd_Text_next_146 (by decide) ?_
            refine jk_lv (lv' := [(0, .ref a_t), (1, jk_V v1)]) [0, 1] rfl ?_
            exact ih t_kind t_start (t_end + 1) v1 hf
  have bk_81 : ∀ (t_kind : Int) (t_start : Int) (t_end : Int) (s0 : Int), fn_Text_next_b81 i_t_bytes i_t_length t_kind t_start t_end s0 = some q → jk_J p l e (jk_rm 2 43) s m args below meth c 0 0 (jk_QV below D jk_cl (jk_ty cI cR) (wd_Text_next cI a_t a_t_bytes a_t_bytes_k i_t_length i_t_kind i_t_start i_t_end i_t_code i_t_offset i_t_bytes) (wd_Text_next cI a_t a_t_bytes a_t_bytes_k i_t_length q.1 q.2.1 q.2.2 i_t_code i_t_offset i_t_bytes) args s) D jk_cl (va_A (wd_Text_next cI a_t a_t_bytes a_t_bytes_k i_t_length i_t_kind i_t_start i_t_end i_t_code i_t_offset i_t_bytes) s.heap.size) 2 (wd_Text_next cI a_t a_t_bytes a_t_bytes_k i_t_length t_kind t_start t_end i_t_code i_t_offset i_t_bytes) [(0, .ref a_t)] 81 [jk_V s0, .ref a_t] := by
    intro t_kind t_start t_end s0 hf
    unfold fn_Text_next_b81 at hf
    refine jk_putf C in_Text ty_Text nm_Text (ci := 3) rfl 4 (by decide) tm_70 rfl rfl rfl 0 rfl (Nat.le_of_ble_eq_true rfl) rd_Text_next_81 (ws' := wd_Text_next cI a_t a_t_bytes a_t_bytes_k i_t_length t_kind t_start s0 i_t_code i_t_offset i_t_bytes) rfl ?_
    refine jk_aload_n C rd_Text_next_84 (k := 0) rfl ?_
    refine jk_get C in_Text (ci := 3) rfl 2 (by decide) tm_68 0 rfl rfl rd_Text_next_85 ?_
    refine jk_iconst C rd_Text_next_88 ?_
    refine jk_icmp_eq (tgt := 100) C rd_Text_next_89 (by decide) hf (fun _ hf => ?_) (fun _ hf => ?_)
    · refine jk_iconst C rd_Text_next_100 ?_
      refine jk_goto (tgt := 105) C rd_Text_next_101 (by decide) ?_
      refine jk_istore_n C rd_Text_next_105 (by decide) (lv' := [(1, jk_V 1), (0, .ref a_t)]) rfl ?_
      refine jk_lv (lv' := [(0, .ref a_t), (1, jk_V 1)]) [1, 0] rfl ?_
      exact bk_106 jk_F t_kind t_start s0 1 hf
    · refine jk_aload_n C rd_Text_next_92 (k := 0) rfl ?_
      refine jk_get C in_Text (ci := 3) rfl 2 (by decide) tm_68 0 rfl rfl rd_Text_next_93 ?_
      refine jk_iconst C rd_Text_next_96 ?_
      refine jk_icmp_ne (tgt := 104) C rd_Text_next_97 (by decide) hf (fun _ hf => ?_) (fun _ hf => ?_)
      · refine jk_iconst C rd_Text_next_104 ?_
        refine jk_istore_n C rd_Text_next_105 (by decide) (lv' := [(1, jk_V 0), (0, .ref a_t)]) rfl ?_
        refine jk_lv (lv' := [(0, .ref a_t), (1, jk_V 0)]) [1, 0] rfl ?_
        exact bk_106 jk_F t_kind t_start s0 0 hf
      · refine jk_iconst C rd_Text_next_100 ?_
        refine jk_goto (tgt := 105) C rd_Text_next_101 (by decide) ?_
        refine jk_istore_n C rd_Text_next_105 (by decide) (lv' := [(1, jk_V 1), (0, .ref a_t)]) rfl ?_
        refine jk_lv (lv' := [(0, .ref a_t), (1, jk_V 1)]) [1, 0] rfl ?_
        exact bk_106 jk_F t_kind t_start s0 1 hf
  have bk_44 : ∀ (t_kind : Int) (t_start : Int) (t_end : Int), fn_Text_next_b44 i_t_bytes i_t_length t_kind t_start t_end = some q → jk_J p l e (jk_rm 2 43) s m args below meth c 0 0 (jk_QV below D jk_cl (jk_ty cI cR) (wd_Text_next cI a_t a_t_bytes a_t_bytes_k i_t_length i_t_kind i_t_start i_t_end i_t_code i_t_offset i_t_bytes) (wd_Text_next cI a_t a_t_bytes a_t_bytes_k i_t_length q.1 q.2.1 q.2.2 i_t_code i_t_offset i_t_bytes) args s) D jk_cl (va_A (wd_Text_next cI a_t a_t_bytes a_t_bytes_k i_t_length i_t_kind i_t_start i_t_end i_t_code i_t_offset i_t_bytes) s.heap.size) 2 (wd_Text_next cI a_t a_t_bytes a_t_bytes_k i_t_length t_kind t_start t_end i_t_code i_t_offset i_t_bytes) [(0, .ref a_t)] 44 [] := by
    intro t_kind t_start t_end hf
    unfold fn_Text_next_b44 at hf
    refine jk_aload_n C rd_Text_next_44 (k := 0) rfl ?_
    refine jk_aload_n C rd_Text_next_45 (k := 0) rfl ?_
    refine jk_aload_n C rd_Text_next_46 (k := 0) rfl ?_
    refine jk_get C in_Text (ci := 3) rfl 3 (by decide) tm_69 0 rfl rfl rd_Text_next_47 ?_
    obtain ⟨q50, hq50, hf⟩ := jk_bind_h hf
    refine jk_callVi C hZ.1 hz (ct_Text_sortAt l D Z sq hZ cI cR a_t a_t_bytes a_t_bytes_k i_t_length t_kind t_start t_end i_t_code i_t_offset i_t_bytes t_start q50 hq50) tm_294 tm_296 sl_1 tm_2 tm_297 na_Text_sortAt ⟨Nat.le_of_ble_eq_true rfl, Nat.le_of_ble_eq_true rfl⟩ rfl [0, 1, 2] rfl rfl rfl (ws' := wd_Text_next cI a_t a_t_bytes a_t_bytes_k i_t_length t_kind t_start t_end i_t_code i_t_offset i_t_bytes) rfl 0 3 rfl rfl rfl (st := [.ref a_t]) rfl (Nat.le_of_ble_eq_true rfl) rd_Text_next_50 ?_ ⟨Nat.le_of_ble_eq_true rfl, Nat.le_of_ble_eq_true rfl⟩
    refine jk_putf C in_Text ty_Text nm_Text (ci := 3) rfl 2 (by decide) tm_68 rfl rfl rfl 0 rfl (Nat.le_of_ble_eq_true rfl) rd_Text_next_53 (ws' := wd_Text_next cI a_t a_t_bytes a_t_bytes_k i_t_length q50 t_start t_end i_t_code i_t_offset i_t_bytes) rfl ?_
    refine jk_aload_n C rd_Text_next_56 (k := 0) rfl ?_
    refine jk_aload_n C rd_Text_next_57 (k := 0) rfl ?_
    refine jk_get C in_Text (ci := 3) rfl 3 (by decide) tm_69 0 rfl rfl rd_Text_next_58 ?_
    refine jk_aload_n C rd_Text_next_61 (k := 0) rfl ?_
    refine jk_get C in_Text (ci := 3) rfl 1 (by decide) tm_66 0 rfl rfl rd_Text_next_62 ?_
    refine jk_icmp_ge (tgt := 77) C rd_Text_next_65 (by decide) hf (fun _ hf => ?_) (fun _ hf => ?_)
    · refine jk_aload_n C rd_Text_next_77 (k := 0) rfl ?_
      refine jk_get C in_Text (ci := 3) rfl 3 (by decide) tm_69 0 rfl rfl rd_Text_next_78 ?_
      refine jk_lv (lv' := [(0, .ref a_t)]) [0] rfl ?_
      exact bk_81 q50 t_start t_end t_start hf
    · refine jk_aload_n C rd_Text_next_68 (k := 0) rfl ?_
      refine jk_get C in_Text (ci := 3) rfl 3 (by decide) tm_69 0 rfl rfl rd_Text_next_69 ?_
      refine jk_iconst C rd_Text_next_72 ?_
      refine jk_iadd C rd_Text_next_73 ?_
      refine jk_goto (tgt := 81) C rd_Text_next_74 (by decide) ?_
      refine jk_lv (lv' := [(0, .ref a_t)]) [0] rfl ?_
      exact bk_81 q50 t_start t_end (t_start + 1) hf
  have bk_8 : ∀ (n : Nat) (t_kind : Int) (t_start : Int) (t_end : Int), fn_Text_next_b8 n i_t_bytes i_t_length t_kind t_start t_end = some q → jk_J p l e (jk_rm 2 43) s m args below meth c 0 0 (jk_QV below D jk_cl (jk_ty cI cR) (wd_Text_next cI a_t a_t_bytes a_t_bytes_k i_t_length i_t_kind i_t_start i_t_end i_t_code i_t_offset i_t_bytes) (wd_Text_next cI a_t a_t_bytes a_t_bytes_k i_t_length q.1 q.2.1 q.2.2 i_t_code i_t_offset i_t_bytes) args s) D jk_cl (va_A (wd_Text_next cI a_t a_t_bytes a_t_bytes_k i_t_length i_t_kind i_t_start i_t_end i_t_code i_t_offset i_t_bytes) s.heap.size) 2 (wd_Text_next cI a_t a_t_bytes a_t_bytes_k i_t_length t_kind t_start t_end i_t_code i_t_offset i_t_bytes) [(0, .ref a_t)] 8 [] := by
    intro n
    induction n with
    | zero => intro t_kind t_start t_end hf; exact nomatch (show none = some q from hf)
    | succ n ih =>
      intro t_kind t_start t_end hf
      rw [fn_Text_next_b8] at hf
      refine jk_aload_n C rd_Text_next_8 (k := 0) rfl ?_
      refine jk_get C in_Text (ci := 3) rfl 3 (by decide) tm_69 0 rfl rfl rd_Text_next_9 ?_
      refine jk_aload_n C rd_Text_next_12 (k := 0) rfl ?_
      refine jk_get C in_Text (ci := 3) rfl 1 (by decide) tm_66 0 rfl rfl rd_Text_next_13 ?_
      refine jk_icmp_ge (tgt := 44) C rd_Text_next_16 (by decide) hf (fun _ hf => ?_) (fun _ hf => ?_)
      · refine jk_lv (lv' := [(0, .ref a_t)]) [0] rfl ?_
        exact bk_44 t_kind t_start t_end hf
      · refine jk_aload_n C rd_Text_next_19 (k := 0) rfl ?_
        refine jk_aload_n C rd_Text_next_20 (k := 0) rfl ?_
        refine jk_get C in_Text (ci := 3) rfl 3 (by decide) tm_69 0 rfl rfl rd_Text_next_21 ?_
        obtain ⟨q24, hq24, hf⟩ := jk_bind_h hf
        refine jk_callVi C hZ.1 hz (ct_Text_sortAt l D Z sq hZ cI cR a_t a_t_bytes a_t_bytes_k i_t_length t_kind t_start t_end i_t_code i_t_offset i_t_bytes t_start q24 hq24) tm_294 tm_296 sl_1 tm_2 tm_297 na_Text_sortAt ⟨Nat.le_of_ble_eq_true rfl, Nat.le_of_ble_eq_true rfl⟩ rfl [0, 1, 2] rfl rfl rfl (ws' := wd_Text_next cI a_t a_t_bytes a_t_bytes_k i_t_length t_kind t_start t_end i_t_code i_t_offset i_t_bytes) rfl 0 3 rfl rfl rfl (st := []) rfl (Nat.le_of_ble_eq_true rfl) rd_Text_next_24 ?_ ⟨Nat.le_of_ble_eq_true rfl, Nat.le_of_ble_eq_true rfl⟩
        refine jk_iconst C rd_Text_next_27 ?_
        refine jk_icmp_ne (tgt := 44) C rd_Text_next_28 (by decide) hf (fun _ hf => ?_) (fun _ hf => ?_)
        · refine jk_lv (lv' := [(0, .ref a_t)]) [0] rfl ?_
          exact bk_44 t_kind t_start t_end hf
        · refine jk_aload_n C rd_Text_next_31 (k := 0) rfl ?_
          refine jk_dup C rd_Text_next_32 rfl ?_
          refine jk_get C in_Text (ci := 3) rfl 3 (by decide) tm_69 0 rfl rfl rd_Text_next_33 ?_
          refine jk_iconst C rd_Text_next_36 ?_
          refine jk_iadd C rd_Text_next_37 ?_
          refine jk_putf C in_Text ty_Text nm_Text (ci := 3) rfl 3 (by decide) tm_69 rfl rfl rfl 0 rfl (Nat.le_of_ble_eq_true rfl) rd_Text_next_38 (ws' := wd_Text_next cI a_t a_t_bytes a_t_bytes_k i_t_length t_kind (t_start + 1) t_end i_t_code i_t_offset i_t_bytes) rfl ?_
          refine jk_goto (tgt := 8) C rd_Text_next_41 (by decide) ?_
          refine jk_lv (lv' := [(0, .ref a_t)]) [0] rfl ?_
          exact ih t_kind (t_start + 1) t_end hf
  refine jk_aload_n C rd_Text_next_0 (k := 0) rfl ?_
  refine jk_aload_n C rd_Text_next_1 (k := 0) rfl ?_
  refine jk_get C in_Text (ci := 3) rfl 4 (by decide) tm_70 0 rfl rfl rd_Text_next_2 ?_
  refine jk_putf C in_Text ty_Text nm_Text (ci := 3) rfl 3 (by decide) tm_69 rfl rfl rfl 0 rfl (Nat.le_of_ble_eq_true rfl) rd_Text_next_5 (ws' := wd_Text_next cI a_t a_t_bytes a_t_bytes_k i_t_length i_t_kind i_t_end i_t_end i_t_code i_t_offset i_t_bytes) rfl ?_
  refine jk_lv (lv' := [(0, .ref a_t)]) [0] rfl ?_
  exact bk_8 jk_F i_t_kind i_t_end i_t_end hf
def wd_Text_readSemicolon (cI : ClassId) (a_t a_t_bytes a_t_bytes_k : Nat) (i_t_length : Int) (i_t_kind : Int) (i_t_start : Int) (i_t_end : Int) (i_t_code : Int) (i_t_offset : Int) (i_t_bytes : (Int → Int)) : va_W := [(a_t, .inr (3, [.ref a_t_bytes, jk_V i_t_length, jk_V i_t_kind, jk_V i_t_start, jk_V i_t_end, jk_V i_t_code, jk_V i_t_offset])), (a_t_bytes, .inr (0, [.ref a_t_bytes_k])), (a_t_bytes_k, jk_W cI 700 i_t_bytes)]
set_option maxHeartbeats 4000000 in
set_option maxRecDepth 20000 in
theorem ct_Text_readSemicolon (l : Launch) (D : va_G) (Z : (Nat → Prop) → State → Heap → Prop) (sq : Nat → Nat) (hZ : jk_ZK Z sq) (cI cR : ClassId) (a_t a_t_bytes a_t_bytes_k : Nat) (i_t_length : Int) (i_t_kind : Int) (i_t_start : Int) (i_t_end : Int) (i_t_code : Int) (i_t_offset : Int) (i_t_bytes : (Int → Int)) (q : Int × Int × Int × Int × Int) (hf : fn_Text_readSemicolon i_t_bytes i_t_length i_t_kind i_t_start i_t_end i_t_code i_t_offset = some q) : jk_MV l D jk_cl (jk_ty cI cR) Z mn_Text_readSemicolon (.code mn_Text_readSemicolon mb_Text_readSemicolon 1 none :: jk_WA) (jk_rm 3 64) [.ref a_t] (wd_Text_readSemicolon cI a_t a_t_bytes a_t_bytes_k i_t_length i_t_kind i_t_start i_t_end i_t_code i_t_offset i_t_bytes) (wd_Text_readSemicolon cI a_t a_t_bytes a_t_bytes_k i_t_length q.1 q.2.1 q.2.2.1 q.2.2.2.1 q.2.2.2.2 i_t_bytes) := by
  intro sz
  refine jk_body (by decide +kernel) (fun p e s m args below meth c hsz hz hin C => ?_) (Nat.le_of_ble_eq_true rfl)
  subst hsz
  unfold fn_Text_readSemicolon at hf
  refine jk_aload_n C rd_Text_readSemicolon_0 (k := 0) rfl ?_
  obtain ⟨q1, hq1, hf⟩ := jk_bind_h hf
  refine jk_callVi C hZ.1 hz (ct_Text_hasFailed l D Z sq hZ cI cR a_t a_t_bytes i_t_length i_t_kind i_t_start i_t_end i_t_code i_t_offset q1 hq1) tm_286 tm_287 tm_288 tm_2 tm_289 na_Text_hasFailed ⟨Nat.le_of_ble_eq_true rfl, Nat.le_of_ble_eq_true rfl⟩ rfl [0] rfl rfl rfl (ws' := wd_Text_readSemicolon cI a_t a_t_bytes a_t_bytes_k i_t_length i_t_kind i_t_start i_t_end i_t_code i_t_offset i_t_bytes) rfl 0 3 rfl rfl rfl (st := []) rfl (Nat.le_of_ble_eq_true rfl) rd_Text_readSemicolon_1 ?_ ⟨Nat.le_of_ble_eq_true rfl, Nat.le_of_ble_eq_true rfl⟩
  refine jk_if_eq (tgt := 8) C rd_Text_readSemicolon_4 (by decide) hf (fun _ hf => ?_) (fun _ hf => ?_)
  · refine jk_aload_n C rd_Text_readSemicolon_8 (k := 0) rfl ?_
    obtain ⟨q9, hq9, hf⟩ := jk_bind_h hf
    refine jk_callVv C hZ.1 hz (ct_Text_next l D Z sq hZ cI cR a_t a_t_bytes a_t_bytes_k i_t_length i_t_kind i_t_start i_t_end i_t_code i_t_offset i_t_bytes q9 hq9) tm_290 tm_291 tm_292 tm_2 tm_293 na_Text_next ⟨Nat.le_of_ble_eq_true rfl, Nat.le_of_ble_eq_true rfl⟩ rfl [0, 1, 2] rfl rfl rfl (ws' := wd_Text_readSemicolon cI a_t a_t_bytes a_t_bytes_k i_t_length q9.1 q9.2.1 q9.2.2 i_t_code i_t_offset i_t_bytes) rfl 0 3 rfl rfl rfl (st := []) rfl (Nat.le_of_ble_eq_true rfl) rd_Text_readSemicolon_9 ?_ ⟨Nat.le_of_ble_eq_true rfl, Nat.le_of_ble_eq_true rfl⟩
    refine jk_aload_n C rd_Text_readSemicolon_12 (k := 0) rfl ?_
    refine jk_get C in_Text (ci := 3) rfl 2 (by decide) tm_68 0 rfl rfl rd_Text_readSemicolon_13 ?_
    refine jk_iconst C rd_Text_readSemicolon_16 ?_
    refine jk_icmp_eq (tgt := 25) C rd_Text_readSemicolon_17 (by decide) hf (fun _ hf => ?_) (fun _ hf => ?_)
    · cases hf
      exact jk_vret C rfl rd_Text_readSemicolon_25 rfl
    · refine jk_aload_n C rd_Text_readSemicolon_20 (k := 0) rfl ?_
      refine jk_iconst C rd_Text_readSemicolon_21 ?_
      obtain ⟨q22, hq22, hf⟩ := jk_bind_h hf
      refine jk_callVv C hZ.1 hz (ct_Text_fail l D Z sq hZ cI cR a_t a_t_bytes i_t_length q9.1 q9.2.1 q9.2.2 i_t_code i_t_offset 1 q22 hq22) tm_322 tm_311 tm_312 tm_2 tm_313 na_Text_fail ⟨Nat.le_of_ble_eq_true rfl, Nat.le_of_ble_eq_true rfl⟩ rfl [0] rfl rfl rfl (ws' := wd_Text_readSemicolon cI a_t a_t_bytes a_t_bytes_k i_t_length q9.1 q9.2.1 q9.2.2 q22.1 q22.2 i_t_bytes) rfl 0 3 rfl rfl rfl (st := []) rfl (Nat.le_of_ble_eq_true rfl) rd_Text_readSemicolon_22 ?_ ⟨Nat.le_of_ble_eq_true rfl, Nat.le_of_ble_eq_true rfl⟩
      cases hf
      exact jk_vret C rfl rd_Text_readSemicolon_25 rfl
  · cases hf
    exact jk_vret C rfl rd_Text_readSemicolon_7 rfl
def wd_Setup_readCluster (cI : ClassId) (a_a a_a_bytes a_a_bytes_k a_b a_b_starts a_b_depth a_b_topic a_b_value a_b_nibbled a_b_starts_k : Nat) (i_a_length : Int) (i_a_kind : Int) (i_a_start : Int) (i_a_end : Int) (i_a_code : Int) (i_a_offset : Int) (i_a_bytes : (Int → Int)) (i_b_clusters : Int) (i_b_size : Int) (i_b_starts : (Int → Int)) : va_W := [(a_a, .inr (3, [.ref a_a_bytes, jk_V i_a_length, jk_V i_a_kind, jk_V i_a_start, jk_V i_a_end, jk_V i_a_code, jk_V i_a_offset])), (a_a_bytes, .inr (0, [.ref a_a_bytes_k])), (a_a_bytes_k, jk_W cI 700 i_a_bytes), (a_b, .inr (5, [jk_V i_b_clusters, jk_V i_b_size, .ref a_b_starts, .ref a_b_depth, .ref a_b_topic, .ref a_b_value, .ref a_b_nibbled])), (a_b_starts, .inr (0, [.ref a_b_starts_k])), (a_b_starts_k, jk_W cI 7 i_b_starts)]
set_option maxHeartbeats 4000000 in
set_option maxRecDepth 20000 in
theorem ct_Setup_readCluster (l : Launch) (D : va_G) (Z : (Nat → Prop) → State → Heap → Prop) (sq : Nat → Nat) (hZ : jk_ZK Z sq) (cI cR : ClassId) (a_a a_a_bytes a_a_bytes_k a_b a_b_starts a_b_depth a_b_topic a_b_value a_b_nibbled a_b_starts_k : Nat) (i_a_length : Int) (i_a_kind : Int) (i_a_start : Int) (i_a_end : Int) (i_a_code : Int) (i_a_offset : Int) (i_a_bytes : (Int → Int)) (i_b_clusters : Int) (i_b_size : Int) (i_b_starts : (Int → Int)) (q : Int × Int × Int × Int × Int × Int × (Int → Int)) (hf : fn_Setup_readCluster i_a_bytes i_a_length i_a_kind i_a_start i_a_end i_a_code i_a_offset i_b_clusters i_b_size i_b_starts = some q) : jk_MV l D jk_cl (jk_ty cI cR) Z mn_Setup_readCluster (.code mn_Setup_readCluster mb_Setup_readCluster 2 none :: jk_WA) (jk_rm 4 84) [.ref a_a, .ref a_b] (wd_Setup_readCluster cI a_a a_a_bytes a_a_bytes_k a_b a_b_starts a_b_depth a_b_topic a_b_value a_b_nibbled a_b_starts_k i_a_length i_a_kind i_a_start i_a_end i_a_code i_a_offset i_a_bytes i_b_clusters i_b_size i_b_starts) (wd_Setup_readCluster cI a_a a_a_bytes a_a_bytes_k a_b a_b_starts a_b_depth a_b_topic a_b_value a_b_nibbled a_b_starts_k i_a_length q.1 q.2.1 q.2.2.1 q.2.2.2.1 q.2.2.2.2.1 i_a_bytes q.2.2.2.2.2.1 i_b_size q.2.2.2.2.2.2) := by
  intro sz
  refine jk_body (by decide +kernel) (fun p e s m args below meth c hsz hz hin C => ?_) (Nat.le_of_ble_eq_true rfl)
  subst hsz
  unfold fn_Setup_readCluster at hf
  refine jk_aload_n C rd_Setup_readCluster_0 (k := 1) rfl ?_
  refine jk_getN C in_Cords (ci := 5) rfl 0 (by decide) (jk_nw hZ hz tn_9) 3 rfl rfl rd_Setup_readCluster_1 ?_
  refine jk_bipush C rd_Setup_readCluster_4 (by decide +kernel) ?_
  refine jk_icmp_lt (tgt := 15) C rd_Setup_readCluster_6 (by decide) hf (fun _ hf => ?_) (fun _ hf => ?_)
  · refine jk_aload_n C rd_Setup_readCluster_15 (k := 1) rfl ?_
    obtain ⟨q16, hq16, hf⟩ := jk_bind_h hf
    refine jk_callVi C hZ.1 hz (ct_Cords_openCluster l D Z sq hZ cI cR a_b a_b_starts a_b_depth a_b_topic a_b_value a_b_nibbled a_b_starts_k i_b_clusters i_b_size i_b_starts q16 hq16) tm_341 tm_342 tm_343 tm_6 tm_344 na_Cords_openCluster ⟨Nat.le_of_ble_eq_true rfl, Nat.le_of_ble_eq_true rfl⟩ rfl [3, 4, 5] rfl rfl rfl (ws' := wd_Setup_readCluster cI a_a a_a_bytes a_a_bytes_k a_b a_b_starts a_b_depth a_b_topic a_b_value a_b_nibbled a_b_starts_k i_a_length i_a_kind i_a_start i_a_end i_a_code i_a_offset i_a_bytes q16.2.1 i_b_size q16.2.2) rfl 3 5 rfl rfl rfl (st := []) rfl (Nat.le_of_ble_eq_true rfl) rd_Setup_readCluster_16 ?_ ⟨Nat.le_of_ble_eq_true rfl, Nat.le_of_ble_eq_true rfl⟩
    refine jk_pop C rd_Setup_readCluster_19 rfl ?_
    refine jk_aload_n C rd_Setup_readCluster_20 (k := 0) rfl ?_
    obtain ⟨q21, hq21, hf⟩ := jk_bind_h hf
    refine jk_callVv C hZ.1 hz (ct_Text_readSemicolon l D Z sq hZ cI cR a_a a_a_bytes a_a_bytes_k i_a_length i_a_kind i_a_start i_a_end i_a_code i_a_offset i_a_bytes q21 hq21) tm_333 tm_334 tm_335 tm_2 tm_336 na_Text_readSemicolon ⟨Nat.le_of_ble_eq_true rfl, Nat.le_of_ble_eq_true rfl⟩ rfl [0, 1, 2] rfl rfl rfl (ws' := wd_Setup_readCluster cI a_a a_a_bytes a_a_bytes_k a_b a_b_starts a_b_depth a_b_topic a_b_value a_b_nibbled a_b_starts_k i_a_length q21.1 q21.2.1 q21.2.2.1 q21.2.2.2.1 q21.2.2.2.2 i_a_bytes q16.2.1 i_b_size q16.2.2) rfl 0 3 rfl rfl rfl (st := []) rfl (Nat.le_of_ble_eq_true rfl) rd_Setup_readCluster_21 ?_ ⟨Nat.le_of_ble_eq_true rfl, Nat.le_of_ble_eq_true rfl⟩
    cases hf
    exact jk_vret C rfl rd_Setup_readCluster_24 rfl
  · refine jk_aload_n C rd_Setup_readCluster_9 (k := 0) rfl ?_
    refine jk_bipush C rd_Setup_readCluster_10 (by decide +kernel) ?_
    obtain ⟨q12, hq12, hf⟩ := jk_bind_h hf
    refine jk_callVv C hZ.1 hz (ct_Text_fail l D Z sq hZ cI cR a_a a_a_bytes i_a_length i_a_kind i_a_start i_a_end i_a_code i_a_offset 6 q12 hq12) tm_310 tm_311 tm_312 tm_2 tm_313 na_Text_fail ⟨Nat.le_of_ble_eq_true rfl, Nat.le_of_ble_eq_true rfl⟩ rfl [0] rfl rfl rfl (ws' := wd_Setup_readCluster cI a_a a_a_bytes a_a_bytes_k a_b a_b_starts a_b_depth a_b_topic a_b_value a_b_nibbled a_b_starts_k i_a_length i_a_kind i_a_start i_a_end q12.1 q12.2 i_a_bytes i_b_clusters i_b_size i_b_starts) rfl 0 3 rfl rfl rfl (st := []) rfl (Nat.le_of_ble_eq_true rfl) rd_Setup_readCluster_12 ?_ ⟨Nat.le_of_ble_eq_true rfl, Nat.le_of_ble_eq_true rfl⟩
    refine jk_aload_n C rd_Setup_readCluster_15 (k := 1) rfl ?_
    obtain ⟨q16, hq16, hf⟩ := jk_bind_h hf
    refine jk_callVi C hZ.1 hz (ct_Cords_openCluster l D Z sq hZ cI cR a_b a_b_starts a_b_depth a_b_topic a_b_value a_b_nibbled a_b_starts_k i_b_clusters i_b_size i_b_starts q16 hq16) tm_341 tm_342 tm_343 tm_6 tm_344 na_Cords_openCluster ⟨Nat.le_of_ble_eq_true rfl, Nat.le_of_ble_eq_true rfl⟩ rfl [3, 4, 5] rfl rfl rfl (ws' := wd_Setup_readCluster cI a_a a_a_bytes a_a_bytes_k a_b a_b_starts a_b_depth a_b_topic a_b_value a_b_nibbled a_b_starts_k i_a_length i_a_kind i_a_start i_a_end q12.1 q12.2 i_a_bytes q16.2.1 i_b_size q16.2.2) rfl 3 5 rfl rfl rfl (st := []) rfl (Nat.le_of_ble_eq_true rfl) rd_Setup_readCluster_16 ?_ ⟨Nat.le_of_ble_eq_true rfl, Nat.le_of_ble_eq_true rfl⟩
    refine jk_pop C rd_Setup_readCluster_19 rfl ?_
    refine jk_aload_n C rd_Setup_readCluster_20 (k := 0) rfl ?_
    obtain ⟨q21, hq21, hf⟩ := jk_bind_h hf
    refine jk_callVv C hZ.1 hz (ct_Text_readSemicolon l D Z sq hZ cI cR a_a a_a_bytes a_a_bytes_k i_a_length i_a_kind i_a_start i_a_end q12.1 q12.2 i_a_bytes q21 hq21) tm_333 tm_334 tm_335 tm_2 tm_336 na_Text_readSemicolon ⟨Nat.le_of_ble_eq_true rfl, Nat.le_of_ble_eq_true rfl⟩ rfl [0, 1, 2] rfl rfl rfl (ws' := wd_Setup_readCluster cI a_a a_a_bytes a_a_bytes_k a_b a_b_starts a_b_depth a_b_topic a_b_value a_b_nibbled a_b_starts_k i_a_length q21.1 q21.2.1 q21.2.2.1 q21.2.2.2.1 q21.2.2.2.2 i_a_bytes q16.2.1 i_b_size q16.2.2) rfl 0 3 rfl rfl rfl (st := []) rfl (Nat.le_of_ble_eq_true rfl) rd_Setup_readCluster_21 ?_ ⟨Nat.le_of_ble_eq_true rfl, Nat.le_of_ble_eq_true rfl⟩
    cases hf
    exact jk_vret C rfl rd_Setup_readCluster_24 rfl
