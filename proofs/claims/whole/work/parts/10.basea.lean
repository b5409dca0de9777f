theorem rd_Row_get_0 : decode mb_Row_get 0 = .ok (.iload_n 1, 1) := by decide +kernel
theorem rd_Row_get_1 : decode mb_Row_get 1 = .ok (.ifCond .lt 21, 3) := by decide +kernel
theorem rd_Row_get_4 : decode mb_Row_get 4 = .ok (.iload_n 1, 1) := by decide +kernel
theorem rd_Row_get_5 : decode mb_Row_get 5 = .ok (.aload_n 0, 1) := by decide +kernel
theorem rd_Row_get_6 : decode mb_Row_get 6 = .ok (.getfield 7, 3) := by decide +kernel
theorem rd_Row_get_9 : decode mb_Row_get 9 = .ok (.arraylength, 1) := by decide +kernel
theorem rd_Row_get_10 : decode mb_Row_get 10 = .ok (.if_icmp .ge 12, 3) := by decide +kernel
theorem rd_Row_get_13 : decode mb_Row_get 13 = .ok (.aload_n 0, 1) := by decide +kernel
theorem rd_Row_get_14 : decode mb_Row_get 14 = .ok (.getfield 7, 3) := by decide +kernel
theorem rd_Row_get_17 : decode mb_Row_get 17 = .ok (.iload_n 1, 1) := by decide +kernel
theorem rd_Row_get_18 : decode mb_Row_get 18 = .ok (.iaload, 1) := by decide +kernel
theorem rd_Row_get_19 : decode mb_Row_get 19 = .ok (.goto 4, 3) := by decide +kernel
theorem rd_Row_get_22 : decode mb_Row_get 22 = .ok (.iconst 0, 1) := by decide +kernel
theorem rd_Row_get_23 : decode mb_Row_get 23 = .ok (.ireturn, 1) := by decide +kernel
theorem rd_Knots_power_0 : decode mb_Knots_power 0 = .ok (.iload_n 0, 1) := by decide +kernel
theorem rd_Knots_power_1 : decode mb_Knots_power 1 = .ok (.tableswitch 43 0 3 #[31, 33, 36, 39], 31) := by decide +kernel
theorem rd_Knots_power_32 : decode mb_Knots_power 32 = .ok (.iconst 1, 1) := by decide +kernel
theorem rd_Knots_power_33 : decode mb_Knots_power 33 = .ok (.ireturn, 1) := by decide +kernel
theorem rd_Knots_power_34 : decode mb_Knots_power 34 = .ok (.bipush 10, 2) := by decide +kernel
theorem rd_Knots_power_36 : decode mb_Knots_power 36 = .ok (.ireturn, 1) := by decide +kernel
theorem rd_Knots_power_37 : decode mb_Knots_power 37 = .ok (.bipush 100, 2) := by decide +kernel
theorem rd_Knots_power_39 : decode mb_Knots_power 39 = .ok (.ireturn, 1) := by decide +kernel
theorem rd_Knots_power_40 : decode mb_Knots_power 40 = .ok (.sipush 1000, 3) := by decide +kernel
theorem rd_Knots_power_43 : decode mb_Knots_power 43 = .ok (.ireturn, 1) := by decide +kernel
theorem rd_Knots_power_44 : decode mb_Knots_power 44 = .ok (.sipush 10000, 3) := by decide +kernel
theorem rd_Knots_power_47 : decode mb_Knots_power 47 = .ok (.ireturn, 1) := by decide +kernel
theorem rd_Row_copyFrom_0 : decode mb_Row_copyFrom 0 = .ok (.iconst 0, 1) := by decide +kernel
theorem rd_Row_copyFrom_1 : decode mb_Row_copyFrom 1 = .ok (.istore_n 2, 1) := by decide +kernel
theorem rd_Row_copyFrom_2 : decode mb_Row_copyFrom 2 = .ok (.iload_n 2, 1) := by decide +kernel
theorem rd_Row_copyFrom_3 : decode mb_Row_copyFrom 3 = .ok (.aload_n 0, 1) := by decide +kernel
theorem rd_Row_copyFrom_4 : decode mb_Row_copyFrom 4 = .ok (.getfield 7, 3) := by decide +kernel
theorem rd_Row_copyFrom_7 : decode mb_Row_copyFrom 7 = .ok (.arraylength, 1) := by decide +kernel
theorem rd_Row_copyFrom_8 : decode mb_Row_copyFrom 8 = .ok (.if_icmp .ge 20, 3) := by decide +kernel
theorem rd_Row_copyFrom_11 : decode mb_Row_copyFrom 11 = .ok (.aload_n 0, 1) := by decide +kernel
theorem rd_Row_copyFrom_12 : decode mb_Row_copyFrom 12 = .ok (.getfield 7, 3) := by decide +kernel
theorem rd_Row_copyFrom_15 : decode mb_Row_copyFrom 15 = .ok (.iload_n 2, 1) := by decide +kernel
theorem rd_Row_copyFrom_16 : decode mb_Row_copyFrom 16 = .ok (.aload_n 1, 1) := by decide +kernel
theorem rd_Row_copyFrom_17 : decode mb_Row_copyFrom 17 = .ok (.iload_n 2, 1) := by decide +kernel
theorem rd_Row_copyFrom_18 : decode mb_Row_copyFrom 18 = .ok (.invokevirtual 13, 3) := by decide +kernel
theorem rd_Row_copyFrom_21 : decode mb_Row_copyFrom 21 = .ok (.iastore, 1) := by decide +kernel
theorem rd_Row_copyFrom_22 : decode mb_Row_copyFrom 22 = .ok (.iinc 2 1, 3) := by decide +kernel
theorem rd_Row_copyFrom_25 : decode mb_Row_copyFrom 25 = .ok (.goto (-23), 3) := by decide +kernel
theorem rd_Row_copyFrom_28 : decode mb_Row_copyFrom 28 = .ok (.return_, 1) := by decide +kernel
theorem rd_Row_set_0 : decode mb_Row_set 0 = .ok (.iload_n 1, 1) := by decide +kernel
theorem rd_Row_set_1 : decode mb_Row_set 1 = .ok (.ifCond .lt 19, 3) := by decide +kernel
theorem rd_Row_set_4 : decode mb_Row_set 4 = .ok (.iload_n 1, 1) := by decide +kernel
theorem rd_Row_set_5 : decode mb_Row_set 5 = .ok (.aload_n 0, 1) := by decide +kernel
theorem rd_Row_set_6 : decode mb_Row_set 6 = .ok (.getfield 7, 3) := by decide +kernel
theorem rd_Row_set_9 : decode mb_Row_set 9 = .ok (.arraylength, 1) := by decide +kernel
theorem rd_Row_set_10 : decode mb_Row_set 10 = .ok (.if_icmp .ge 10, 3) := by decide +kernel
theorem rd_Row_set_13 : decode mb_Row_set 13 = .ok (.aload_n 0, 1) := by decide +kernel
theorem rd_Row_set_14 : decode mb_Row_set 14 = .ok (.getfield 7, 3) := by decide +kernel
theorem rd_Row_set_17 : decode mb_Row_set 17 = .ok (.iload_n 1, 1) := by decide +kernel
theorem rd_Row_set_18 : decode mb_Row_set 18 = .ok (.iload_n 2, 1) := by decide +kernel
theorem rd_Row_set_19 : decode mb_Row_set 19 = .ok (.iastore, 1) := by decide +kernel
theorem rd_Row_set_20 : decode mb_Row_set 20 = .ok (.return_, 1) := by decide +kernel
theorem rd_Knots_withoutLast_0 : decode mb_Knots_withoutLast 0 = .ok (.iload_n 0, 1) := by decide +kernel
theorem rd_Knots_withoutLast_1 : decode mb_Knots_withoutLast 1 = .ok (.istore_n 2, 1) := by decide +kernel
theorem rd_Knots_withoutLast_2 : decode mb_Knots_withoutLast 2 = .ok (.iconst 0, 1) := by decide +kernel
theorem rd_Knots_withoutLast_3 : decode mb_Knots_withoutLast 3 = .ok (.istore_n 3, 1) := by decide +kernel
theorem rd_Knots_withoutLast_4 : decode mb_Knots_withoutLast 4 = .ok (.iload_n 3, 1) := by decide +kernel
theorem rd_Knots_withoutLast_5 : decode mb_Knots_withoutLast 5 = .ok (.iload_n 1, 1) := by decide +kernel
theorem rd_Knots_withoutLast_6 : decode mb_Knots_withoutLast 6 = .ok (.if_icmp .ge 14, 3) := by decide +kernel
theorem rd_Knots_withoutLast_9 : decode mb_Knots_withoutLast 9 = .ok (.iload_n 2, 1) := by decide +kernel
theorem rd_Knots_withoutLast_10 : decode mb_Knots_withoutLast 10 = .ok (.bipush 10, 2) := by decide +kernel
theorem rd_Knots_withoutLast_12 : decode mb_Knots_withoutLast 12 = .ok (.idiv, 1) := by decide +kernel
theorem rd_Knots_withoutLast_13 : decode mb_Knots_withoutLast 13 = .ok (.istore_n 2, 1) := by decide +kernel
theorem rd_Knots_withoutLast_14 : decode mb_Knots_withoutLast 14 = .ok (.iinc 3 1, 3) := by decide +kernel
theorem rd_Knots_withoutLast_17 : decode mb_Knots_withoutLast 17 = .ok (.goto (-13), 3) := by decide +kernel
theorem rd_Knots_withoutLast_20 : decode mb_Knots_withoutLast 20 = .ok (.iload_n 2, 1) := by decide +kernel
theorem rd_Knots_withoutLast_21 : decode mb_Knots_withoutLast 21 = .ok (.ireturn, 1) := by decide +kernel
theorem rd_Knots_lose_0 : decode mb_Knots_lose 0 = .ok (.iload_n 0, 1) := by decide +kernel
theorem rd_Knots_lose_1 : decode mb_Knots_lose 1 = .ok (.iload_n 1, 1) := by decide +kernel
theorem rd_Knots_lose_2 : decode mb_Knots_lose 2 = .ok (.invokestatic 9, 3) := by decide +kernel
theorem rd_Knots_lose_5 : decode mb_Knots_lose 5 = .ok (.iload_n 1, 1) := by decide +kernel
theorem rd_Knots_lose_6 : decode mb_Knots_lose 6 = .ok (.invokestatic 18, 3) := by decide +kernel
theorem rd_Knots_lose_9 : decode mb_Knots_lose 9 = .ok (.imul, 1) := by decide +kernel
theorem rd_Knots_lose_10 : decode mb_Knots_lose 10 = .ok (.ireturn, 1) := by decide +kernel
theorem rd_Row_insert_0 : decode mb_Row_insert 0 = .ok (.iload_n 3, 1) := by decide +kernel
theorem rd_Row_insert_1 : decode mb_Row_insert 1 = .ok (.istore 4, 2) := by decide +kernel
theorem rd_Row_insert_3 : decode mb_Row_insert 3 = .ok (.iload 4, 2) := by decide +kernel
theorem rd_Row_insert_5 : decode mb_Row_insert 5 = .ok (.iload_n 1, 1) := by decide +kernel
theorem rd_Row_insert_6 : decode mb_Row_insert 6 = .ok (.if_icmp .le 23, 3) := by decide +kernel
theorem rd_Row_insert_9 : decode mb_Row_insert 9 = .ok (.aload_n 0, 1) := by decide +kernel
theorem rd_Row_insert_10 : decode mb_Row_insert 10 = .ok (.iload 4, 2) := by decide +kernel
theorem rd_Row_insert_12 : decode mb_Row_insert 12 = .ok (.aload_n 0, 1) := by decide +kernel
theorem rd_Row_insert_13 : decode mb_Row_insert 13 = .ok (.iload 4, 2) := by decide +kernel
theorem rd_Row_insert_15 : decode mb_Row_insert 15 = .ok (.iconst 1, 1) := by decide +kernel
theorem rd_Row_insert_16 : decode mb_Row_insert 16 = .ok (.isub, 1) := by decide +kernel
theorem rd_Row_insert_17 : decode mb_Row_insert 17 = .ok (.invokevirtual 13, 3) := by decide +kernel
theorem rd_Row_insert_20 : decode mb_Row_insert 20 = .ok (.invokevirtual 17, 3) := by decide +kernel
theorem rd_Row_insert_23 : decode mb_Row_insert 23 = .ok (.iinc 4 (-1), 3) := by decide +kernel
theorem rd_Row_insert_26 : decode mb_Row_insert 26 = .ok (.goto (-23), 3) := by decide +kernel
theorem rd_Row_insert_29 : decode mb_Row_insert 29 = .ok (.aload_n 0, 1) := by decide +kernel
theorem rd_Row_insert_30 : decode mb_Row_insert 30 = .ok (.iload_n 1, 1) := by decide +kernel
theorem rd_Row_insert_31 : decode mb_Row_insert 31 = .ok (.iload_n 2, 1) := by decide +kernel
theorem rd_Row_insert_32 : decode mb_Row_insert 32 = .ok (.invokevirtual 17, 3) := by decide +kernel
theorem rd_Row_insert_35 : decode mb_Row_insert 35 = .ok (.return_, 1) := by decide +kernel
theorem rd_Row_remove_0 : decode mb_Row_remove 0 = .ok (.iconst 0, 1) := by decide +kernel
theorem rd_Row_remove_1 : decode mb_Row_remove 1 = .ok (.istore 4, 2) := by decide +kernel
theorem rd_Row_remove_3 : decode mb_Row_remove 3 = .ok (.iload 4, 2) := by decide +kernel
theorem rd_Row_remove_5 : decode mb_Row_remove 5 = .ok (.iload_n 3, 1) := by decide +kernel
theorem rd_Row_remove_6 : decode mb_Row_remove 6 = .ok (.iload_n 2, 1) := by decide +kernel
theorem rd_Row_remove_7 : decode mb_Row_remove 7 = .ok (.isub, 1) := by decide +kernel
theorem rd_Row_remove_8 : decode mb_Row_remove 8 = .ok (.if_icmp .ge 25, 3) := by decide +kernel
theorem rd_Row_remove_11 : decode mb_Row_remove 11 = .ok (.aload_n 0, 1) := by decide +kernel
theorem rd_Row_remove_12 : decode mb_Row_remove 12 = .ok (.iload_n 1, 1) := by decide +kernel
theorem rd_Row_remove_13 : decode mb_Row_remove 13 = .ok (.iload 4, 2) := by decide +kernel
theorem rd_Row_remove_15 : decode mb_Row_remove 15 = .ok (.iadd, 1) := by decide +kernel
theorem rd_Row_remove_16 : decode mb_Row_remove 16 = .ok (.aload_n 0, 1) := by decide +kernel
theorem rd_Row_remove_17 : decode mb_Row_remove 17 = .ok (.iload_n 2, 1) := by decide +kernel
theorem rd_Row_remove_18 : decode mb_Row_remove 18 = .ok (.iload 4, 2) := by decide +kernel
theorem rd_Row_remove_20 : decode mb_Row_remove 20 = .ok (.iadd, 1) := by decide +kernel
theorem rd_Row_remove_21 : decode mb_Row_remove 21 = .ok (.invokevirtual 13, 3) := by decide +kernel
theorem rd_Row_remove_24 : decode mb_Row_remove 24 = .ok (.invokevirtual 17, 3) := by decide +kernel
theorem rd_Row_remove_27 : decode mb_Row_remove 27 = .ok (.iinc 4 1, 3) := by decide +kernel
theorem rd_Row_remove_30 : decode mb_Row_remove 30 = .ok (.goto (-27), 3) := by decide +kernel
theorem rd_Row_remove_33 : decode mb_Row_remove 33 = .ok (.return_, 1) := by decide +kernel
theorem rd_Knots_at_0 : decode mb_Knots_at 0 = .ok (.iload_n 0, 1) := by decide +kernel
theorem rd_Knots_at_1 : decode mb_Knots_at 1 = .ok (.iload_n 1, 1) := by decide +kernel
theorem rd_Knots_at_2 : decode mb_Knots_at 2 = .ok (.invokestatic 9, 3) := by decide +kernel
theorem rd_Knots_at_5 : decode mb_Knots_at 5 = .ok (.bipush 10, 2) := by decide +kernel
theorem rd_Knots_at_7 : decode mb_Knots_at 7 = .ok (.irem, 1) := by decide +kernel
theorem rd_Knots_at_8 : decode mb_Knots_at 8 = .ok (.ireturn, 1) := by decide +kernel
theorem rd_Knots_sum_0 : decode mb_Knots_sum 0 = .ok (.iconst 0, 1) := by decide +kernel
theorem rd_Knots_sum_1 : decode mb_Knots_sum 1 = .ok (.istore_n 1, 1) := by decide +kernel
theorem rd_Knots_sum_2 : decode mb_Knots_sum 2 = .ok (.iconst 0, 1) := by decide +kernel
theorem rd_Knots_sum_3 : decode mb_Knots_sum 3 = .ok (.istore_n 2, 1) := by decide +kernel
theorem rd_Knots_sum_4 : decode mb_Knots_sum 4 = .ok (.iload_n 2, 1) := by decide +kernel
theorem rd_Knots_sum_5 : decode mb_Knots_sum 5 = .ok (.iconst 4, 1) := by decide +kernel
theorem rd_Knots_sum_6 : decode mb_Knots_sum 6 = .ok (.if_icmp .ge 17, 3) := by decide +kernel
theorem rd_Knots_sum_9 : decode mb_Knots_sum 9 = .ok (.iload_n 1, 1) := by decide +kernel
theorem rd_Knots_sum_10 : decode mb_Knots_sum 10 = .ok (.iload_n 0, 1) := by decide +kernel
theorem rd_Knots_sum_11 : decode mb_Knots_sum 11 = .ok (.iload_n 2, 1) := by decide +kernel
theorem rd_Knots_sum_12 : decode mb_Knots_sum 12 = .ok (.invokestatic 15, 3) := by decide +kernel
theorem rd_Knots_sum_15 : decode mb_Knots_sum 15 = .ok (.iadd, 1) := by decide +kernel
theorem rd_Knots_sum_16 : decode mb_Knots_sum 16 = .ok (.istore_n 1, 1) := by decide +kernel
theorem rd_Knots_sum_17 : decode mb_Knots_sum 17 = .ok (.iinc 2 1, 3) := by decide +kernel
theorem rd_Knots_sum_20 : decode mb_Knots_sum 20 = .ok (.goto (-16), 3) := by decide +kernel
theorem rd_Knots_sum_23 : decode mb_Knots_sum 23 = .ok (.iload_n 1, 1) := by decide +kernel
theorem rd_Knots_sum_24 : decode mb_Knots_sum 24 = .ok (.ireturn, 1) := by decide +kernel
theorem rd_Output_put_0 : decode mb_Output_put 0 = .ok (.aload_n 0, 1) := by decide +kernel
theorem rd_Output_put_1 : decode mb_Output_put 1 = .ok (.getfield 20, 3) := by decide +kernel
theorem rd_Output_put_4 : decode mb_Output_put 4 = .ok (.sipush 321, 3) := by decide +kernel
theorem rd_Output_put_7 : decode mb_Output_put 7 = .ok (.if_icmp .ge 25, 3) := by decide +kernel
theorem rd_Output_put_10 : decode mb_Output_put 10 = .ok (.aload_n 0, 1) := by decide +kernel
theorem rd_Output_put_11 : decode mb_Output_put 11 = .ok (.getfield 14, 3) := by decide +kernel
theorem rd_Output_put_14 : decode mb_Output_put 14 = .ok (.aload_n 0, 1) := by decide +kernel
theorem rd_Output_put_15 : decode mb_Output_put 15 = .ok (.getfield 20, 3) := by decide +kernel
theorem rd_Output_put_18 : decode mb_Output_put 18 = .ok (.iload_n 1, 1) := by decide +kernel
theorem rd_Output_put_19 : decode mb_Output_put 19 = .ok (.invokevirtual 24, 3) := by decide +kernel
theorem rd_Output_put_22 : decode mb_Output_put 22 = .ok (.aload_n 0, 1) := by decide +kernel
theorem rd_Output_put_23 : decode mb_Output_put 23 = .ok (.dup, 1) := by decide +kernel
theorem rd_Output_put_24 : decode mb_Output_put 24 = .ok (.getfield 20, 3) := by decide +kernel
theorem rd_Output_put_27 : decode mb_Output_put 27 = .ok (.iconst 1, 1) := by decide +kernel
theorem rd_Output_put_28 : decode mb_Output_put 28 = .ok (.iadd, 1) := by decide +kernel
theorem rd_Output_put_29 : decode mb_Output_put 29 = .ok (.putfield 20, 3) := by decide +kernel
theorem rd_Output_put_32 : decode mb_Output_put 32 = .ok (.return_, 1) := by decide +kernel
theorem rd_Output_closeTo_0 : decode mb_Output_closeTo 0 = .ok (.iload_n 2, 1) := by decide +kernel
theorem rd_Output_closeTo_1 : decode mb_Output_closeTo 1 = .ok (.istore_n 3, 1) := by decide +kernel
theorem rd_Output_closeTo_2 : decode mb_Output_closeTo 2 = .ok (.iload_n 3, 1) := by decide +kernel
theorem rd_Output_closeTo_3 : decode mb_Output_closeTo 3 = .ok (.iload_n 1, 1) := by decide +kernel
theorem rd_Output_closeTo_4 : decode mb_Output_closeTo 4 = .ok (.if_icmp .ge 15, 3) := by decide +kernel
theorem rd_Output_closeTo_7 : decode mb_Output_closeTo 7 = .ok (.aload_n 0, 1) := by decide +kernel
theorem rd_Output_closeTo_8 : decode mb_Output_closeTo 8 = .ok (.bipush 41, 2) := by decide +kernel
theorem rd_Output_closeTo_10 : decode mb_Output_closeTo 10 = .ok (.invokevirtual 28, 3) := by decide +kernel
theorem rd_Output_closeTo_13 : decode mb_Output_closeTo 13 = .ok (.iinc 3 1, 3) := by decide +kernel
theorem rd_Output_closeTo_16 : decode mb_Output_closeTo 16 = .ok (.goto (-14), 3) := by decide +kernel
theorem rd_Output_closeTo_19 : decode mb_Output_closeTo 19 = .ok (.return_, 1) := by decide +kernel
theorem rd_Output_putJoint_0 : decode mb_Output_putJoint 0 = .ok (.iload_n 1, 1) := by decide +kernel
theorem rd_Output_putJoint_1 : decode mb_Output_putJoint 1 = .ok (.ifCond .ne 4, 3) := by decide +kernel
theorem rd_Output_putJoint_4 : decode mb_Output_putJoint 4 = .ok (.return_, 1) := by decide +kernel
theorem rd_Output_putJoint_5 : decode mb_Output_putJoint 5 = .ok (.iload_n 2, 1) := by decide +kernel
theorem rd_Output_putJoint_6 : decode mb_Output_putJoint 6 = .ok (.iload_n 1, 1) := by decide +kernel
theorem rd_Output_putJoint_7 : decode mb_Output_putJoint 7 = .ok (.if_icmp .le 10, 3) := by decide +kernel
theorem rd_Output_putJoint_10 : decode mb_Output_putJoint 10 = .ok (.aload_n 0, 1) := by decide +kernel
theorem rd_Output_putJoint_11 : decode mb_Output_putJoint 11 = .ok (.bipush 40, 2) := by decide +kernel
theorem rd_Output_putJoint_13 : decode mb_Output_putJoint 13 = .ok (.invokevirtual 28, 3) := by decide +kernel
theorem rd_Output_putJoint_16 : decode mb_Output_putJoint 16 = .ok (.return_, 1) := by decide +kernel
theorem rd_Output_putJoint_17 : decode mb_Output_putJoint 17 = .ok (.aload_n 0, 1) := by decide +kernel
theorem rd_Output_putJoint_18 : decode mb_Output_putJoint 18 = .ok (.iload_n 1, 1) := by decide +kernel
theorem rd_Output_putJoint_19 : decode mb_Output_putJoint 19 = .ok (.iload_n 2, 1) := by decide +kernel
theorem rd_Output_putJoint_20 : decode mb_Output_putJoint 20 = .ok (.invokevirtual 31, 3) := by decide +kernel
theorem rd_Output_putJoint_23 : decode mb_Output_putJoint 23 = .ok (.aload_n 0, 1) := by decide +kernel
theorem rd_Output_putJoint_24 : decode mb_Output_putJoint 24 = .ok (.iload_n 2, 1) := by decide +kernel
theorem rd_Output_putJoint_25 : decode mb_Output_putJoint 25 = .ok (.iconst 1, 1) := by decide +kernel
theorem rd_Output_putJoint_26 : decode mb_Output_putJoint 26 = .ok (.if_icmp .ne 8, 3) := by decide +kernel
theorem rd_Output_putJoint_29 : decode mb_Output_putJoint 29 = .ok (.bipush 43, 2) := by decide +kernel
theorem rd_Output_putJoint_31 : decode mb_Output_putJoint 31 = .ok (.goto 5, 3) := by decide +kernel
theorem rd_Output_putJoint_34 : decode mb_Output_putJoint 34 = .ok (.bipush 44, 2) := by decide +kernel
theorem rd_Output_putJoint_36 : decode mb_Output_putJoint 36 = .ok (.invokevirtual 28, 3) := by decide +kernel
theorem rd_Output_putJoint_39 : decode mb_Output_putJoint 39 = .ok (.return_, 1) := by decide +kernel
theorem rd_Output_putPlaces_0 : decode mb_Output_putPlaces 0 = .ok (.iconst 3, 1) := by decide +kernel
theorem rd_Output_putPlaces_1 : decode mb_Output_putPlaces 1 = .ok (.istore_n 3, 1) := by decide +kernel
theorem rd_Output_putPlaces_2 : decode mb_Output_putPlaces 2 = .ok (.iload_n 3, 1) := by decide +kernel
theorem rd_Output_putPlaces_3 : decode mb_Output_putPlaces 3 = .ok (.ifCond .lt 31, 3) := by decide +kernel
theorem rd_Output_putPlaces_6 : decode mb_Output_putPlaces 6 = .ok (.aload_n 0, 1) := by decide +kernel
theorem rd_Output_putPlaces_7 : decode mb_Output_putPlaces 7 = .ok (.iload_n 3, 1) := by decide +kernel
theorem rd_Output_putPlaces_8 : decode mb_Output_putPlaces 8 = .ok (.iload_n 2, 1) := by decide +kernel
theorem rd_Output_putPlaces_9 : decode mb_Output_putPlaces 9 = .ok (.if_icmp .ge 8, 3) := by decide +kernel
theorem rd_Output_putPlaces_12 : decode mb_Output_putPlaces 12 = .ok (.bipush 63, 2) := by decide +kernel
theorem rd_Output_putPlaces_14 : decode mb_Output_putPlaces 14 = .ok (.goto 11, 3) := by decide +kernel
theorem rd_Output_putPlaces_17 : decode mb_Output_putPlaces 17 = .ok (.bipush 48, 2) := by decide +kernel
theorem rd_Output_putPlaces_19 : decode mb_Output_putPlaces 19 = .ok (.iload_n 1, 1) := by decide +kernel
theorem rd_Output_putPlaces_20 : decode mb_Output_putPlaces 20 = .ok (.iload_n 3, 1) := by decide +kernel
theorem rd_Output_putPlaces_21 : decode mb_Output_putPlaces 21 = .ok (.invokestatic 34, 3) := by decide +kernel
theorem rd_Output_putPlaces_24 : decode mb_Output_putPlaces 24 = .ok (.iadd, 1) := by decide +kernel
theorem rd_Output_putPlaces_25 : decode mb_Output_putPlaces 25 = .ok (.invokevirtual 28, 3) := by decide +kernel
theorem rd_Output_putPlaces_28 : decode mb_Output_putPlaces 28 = .ok (.iinc 3 (-1), 3) := by decide +kernel
theorem rd_Output_putPlaces_31 : decode mb_Output_putPlaces 31 = .ok (.goto (-29), 3) := by decide +kernel
theorem rd_Output_putPlaces_34 : decode mb_Output_putPlaces 34 = .ok (.return_, 1) := by decide +kernel
theorem rd_Row_replace_0 : decode mb_Row_replace 0 = .ok (.aload_n 0, 1) := by decide +kernel
theorem rd_Row_replace_1 : decode mb_Row_replace 1 = .ok (.iload_n 1, 1) := by decide +kernel
theorem rd_Row_replace_2 : decode mb_Row_replace 2 = .ok (.invokevirtual 13, 3) := by decide +kernel
theorem rd_Row_replace_5 : decode mb_Row_replace 5 = .ok (.istore_n 3, 1) := by decide +kernel
theorem rd_Row_replace_6 : decode mb_Row_replace 6 = .ok (.aload_n 0, 1) := by decide +kernel
theorem rd_Row_replace_7 : decode mb_Row_replace 7 = .ok (.iload_n 1, 1) := by decide +kernel
theorem rd_Row_replace_8 : decode mb_Row_replace 8 = .ok (.iload_n 2, 1) := by decide +kernel
theorem rd_Row_replace_9 : decode mb_Row_replace 9 = .ok (.invokevirtual 17, 3) := by decide +kernel
theorem rd_Row_replace_12 : decode mb_Row_replace 12 = .ok (.iload_n 3, 1) := by decide +kernel
theorem rd_Row_replace_13 : decode mb_Row_replace 13 = .ok (.ireturn, 1) := by decide +kernel
theorem rd_Topics_find_0 : decode mb_Topics_find 0 = .ok (.iconst 0, 1) := by decide +kernel
theorem rd_Topics_find_1 : decode mb_Topics_find 1 = .ok (.istore_n 2, 1) := by decide +kernel
theorem rd_Topics_find_2 : decode mb_Topics_find 2 = .ok (.iload_n 2, 1) := by decide +kernel
theorem rd_Topics_find_3 : decode mb_Topics_find 3 = .ok (.aload_n 0, 1) := by decide +kernel
theorem rd_Topics_find_4 : decode mb_Topics_find 4 = .ok (.getfield 9, 3) := by decide +kernel
theorem rd_Topics_find_7 : decode mb_Topics_find 7 = .ok (.if_icmp .ge 23, 3) := by decide +kernel
theorem rd_Topics_find_10 : decode mb_Topics_find 10 = .ok (.aload_n 0, 1) := by decide +kernel
theorem rd_Topics_find_11 : decode mb_Topics_find 11 = .ok (.getfield 20, 3) := by decide +kernel
theorem rd_Topics_find_14 : decode mb_Topics_find 14 = .ok (.iload_n 2, 1) := by decide +kernel
theorem rd_Topics_find_15 : decode mb_Topics_find 15 = .ok (.invokevirtual 28, 3) := by decide +kernel
theorem rd_Topics_find_18 : decode mb_Topics_find 18 = .ok (.iload_n 1, 1) := by decide +kernel
theorem rd_Topics_find_19 : decode mb_Topics_find 19 = .ok (.if_icmp .ne 5, 3) := by decide +kernel
theorem rd_Topics_find_22 : decode mb_Topics_find 22 = .ok (.iload_n 2, 1) := by decide +kernel
theorem rd_Topics_find_23 : decode mb_Topics_find 23 = .ok (.ireturn, 1) := by decide +kernel
theorem rd_Topics_find_24 : decode mb_Topics_find 24 = .ok (.iinc 2 1, 3) := by decide +kernel
theorem rd_Topics_find_27 : decode mb_Topics_find 27 = .ok (.goto (-25), 3) := by decide +kernel
theorem rd_Topics_find_30 : decode mb_Topics_find 30 = .ok (.iconst (-1), 1) := by decide +kernel
theorem rd_Topics_find_31 : decode mb_Topics_find 31 = .ok (.ireturn, 1) := by decide +kernel
theorem rd_Topics_add_0 : decode mb_Topics_add 0 = .ok (.aload_n 0, 1) := by decide +kernel
theorem rd_Topics_add_1 : decode mb_Topics_add 1 = .ok (.getfield 9, 3) := by decide +kernel
theorem rd_Topics_add_4 : decode mb_Topics_add 4 = .ok (.bipush 8, 2) := by decide +kernel
theorem rd_Topics_add_6 : decode mb_Topics_add 6 = .ok (.if_icmp .ge 25, 3) := by decide +kernel
theorem rd_Topics_add_9 : decode mb_Topics_add 9 = .ok (.aload_n 0, 1) := by decide +kernel
theorem rd_Topics_add_10 : decode mb_Topics_add 10 = .ok (.getfield 20, 3) := by decide +kernel
theorem rd_Topics_add_13 : decode mb_Topics_add 13 = .ok (.aload_n 0, 1) := by decide +kernel
theorem rd_Topics_add_14 : decode mb_Topics_add 14 = .ok (.getfield 9, 3) := by decide +kernel
theorem rd_Topics_add_17 : decode mb_Topics_add 17 = .ok (.iload_n 1, 1) := by decide +kernel
theorem rd_Topics_add_18 : decode mb_Topics_add 18 = .ok (.invokevirtual 32, 3) := by decide +kernel
theorem rd_Topics_add_21 : decode mb_Topics_add 21 = .ok (.aload_n 0, 1) := by decide +kernel
theorem rd_Topics_add_22 : decode mb_Topics_add 22 = .ok (.dup, 1) := by decide +kernel
theorem rd_Topics_add_23 : decode mb_Topics_add 23 = .ok (.getfield 9, 3) := by decide +kernel
theorem rd_Topics_add_26 : decode mb_Topics_add 26 = .ok (.iconst 1, 1) := by decide +kernel
theorem rd_Topics_add_27 : decode mb_Topics_add 27 = .ok (.iadd, 1) := by decide +kernel
theorem rd_Topics_add_28 : decode mb_Topics_add 28 = .ok (.putfield 9, 3) := by decide +kernel
theorem rd_Topics_add_31 : decode mb_Topics_add 31 = .ok (.return_, 1) := by decide +kernel
theorem rd_Topics_clear_0 : decode mb_Topics_clear 0 = .ok (.aload_n 0, 1) := by decide +kernel
theorem rd_Topics_clear_1 : decode mb_Topics_clear 1 = .ok (.iconst 0, 1) := by decide +kernel
theorem rd_Topics_clear_2 : decode mb_Topics_clear 2 = .ok (.putfield 9, 3) := by decide +kernel
theorem rd_Topics_clear_5 : decode mb_Topics_clear 5 = .ok (.return_, 1) := by decide +kernel
theorem rd_Topics_copyFrom_0 : decode mb_Topics_copyFrom 0 = .ok (.aload_n 0, 1) := by decide +kernel
theorem rd_Topics_copyFrom_1 : decode mb_Topics_copyFrom 1 = .ok (.aload_n 1, 1) := by decide +kernel
theorem rd_Topics_copyFrom_2 : decode mb_Topics_copyFrom 2 = .ok (.getfield 9, 3) := by decide +kernel
theorem rd_Topics_copyFrom_5 : decode mb_Topics_copyFrom 5 = .ok (.putfield 9, 3) := by decide +kernel
theorem rd_Topics_copyFrom_8 : decode mb_Topics_copyFrom 8 = .ok (.aload_n 0, 1) := by decide +kernel
theorem rd_Topics_copyFrom_9 : decode mb_Topics_copyFrom 9 = .ok (.getfield 20, 3) := by decide +kernel
theorem rd_Topics_copyFrom_12 : decode mb_Topics_copyFrom 12 = .ok (.aload_n 1, 1) := by decide +kernel
theorem rd_Topics_copyFrom_13 : decode mb_Topics_copyFrom 13 = .ok (.getfield 20, 3) := by decide +kernel
theorem rd_Topics_copyFrom_16 : decode mb_Topics_copyFrom 16 = .ok (.invokevirtual 24, 3) := by decide +kernel
theorem rd_Topics_copyFrom_19 : decode mb_Topics_copyFrom 19 = .ok (.return_, 1) := by decide +kernel
theorem rd_Topics_has_0 : decode mb_Topics_has 0 = .ok (.iload_n 1, 1) := by decide +kernel
theorem rd_Topics_has_1 : decode mb_Topics_has 1 = .ok (.ifCond .lt 15, 3) := by decide +kernel
theorem rd_Topics_has_4 : decode mb_Topics_has 4 = .ok (.iload_n 1, 1) := by decide +kernel
theorem rd_Topics_has_5 : decode mb_Topics_has 5 = .ok (.aload_n 0, 1) := by decide +kernel
theorem rd_Topics_has_6 : decode mb_Topics_has 6 = .ok (.getfield 9, 3) := by decide +kernel
theorem rd_Topics_has_9 : decode mb_Topics_has 9 = .ok (.if_icmp .ge 7, 3) := by decide +kernel
theorem rd_Topics_has_12 : decode mb_Topics_has 12 = .ok (.iconst 1, 1) := by decide +kernel
theorem rd_Topics_has_13 : decode mb_Topics_has 13 = .ok (.goto 4, 3) := by decide +kernel
theorem rd_Topics_has_16 : decode mb_Topics_has 16 = .ok (.iconst 0, 1) := by decide +kernel
theorem rd_Topics_has_17 : decode mb_Topics_has 17 = .ok (.ireturn, 1) := by decide +kernel
theorem rd_Topics_letter_0 : decode mb_Topics_letter 0 = .ok (.iload_n 2, 1) := by decide +kernel
theorem rd_Topics_letter_1 : decode mb_Topics_letter 1 = .ok (.ifCond .lt 9, 3) := by decide +kernel
theorem rd_Topics_letter_4 : decode mb_Topics_letter 4 = .ok (.iload_n 2, 1) := by decide +kernel
theorem rd_Topics_letter_5 : decode mb_Topics_letter 5 = .ok (.bipush 6, 2) := by decide +kernel
theorem rd_Topics_letter_7 : decode mb_Topics_letter 7 = .ok (.if_icmp .lt 5, 3) := by decide +kernel
theorem rd_Topics_letter_10 : decode mb_Topics_letter 10 = .ok (.iconst (-1), 1) := by decide +kernel
theorem rd_Topics_letter_11 : decode mb_Topics_letter 11 = .ok (.ireturn, 1) := by decide +kernel
theorem rd_Topics_letter_12 : decode mb_Topics_letter 12 = .ok (.aload_n 0, 1) := by decide +kernel
theorem rd_Topics_letter_13 : decode mb_Topics_letter 13 = .ok (.getfield 20, 3) := by decide +kernel
theorem rd_Topics_letter_16 : decode mb_Topics_letter 16 = .ok (.iload_n 1, 1) := by decide +kernel
theorem rd_Topics_letter_17 : decode mb_Topics_letter 17 = .ok (.invokevirtual 28, 3) := by decide +kernel
theorem rd_Topics_letter_20 : decode mb_Topics_letter 20 = .ok (.iconst 5, 1) := by decide +kernel
theorem rd_Topics_letter_21 : decode mb_Topics_letter 21 = .ok (.iload_n 2, 1) := by decide +kernel
theorem rd_Topics_letter_22 : decode mb_Topics_letter 22 = .ok (.imul, 1) := by decide +kernel
theorem rd_Topics_letter_23 : decode mb_Topics_letter 23 = .ok (.ishr, 1) := by decide +kernel
theorem rd_Topics_letter_24 : decode mb_Topics_letter 24 = .ok (.bipush 31, 2) := by decide +kernel
theorem rd_Topics_letter_26 : decode mb_Topics_letter 26 = .ok (.iand, 1) := by decide +kernel
theorem rd_Topics_letter_27 : decode mb_Topics_letter 27 = .ok (.istore_n 3, 1) := by decide +kernel
theorem rd_Topics_letter_28 : decode mb_Topics_letter 28 = .ok (.iload_n 3, 1) := by decide +kernel
theorem rd_Topics_letter_29 : decode mb_Topics_letter 29 = .ok (.ifCond .ne 7, 3) := by decide +kernel
theorem rd_Topics_letter_32 : decode mb_Topics_letter 32 = .ok (.iconst (-1), 1) := by decide +kernel
theorem rd_Topics_letter_33 : decode mb_Topics_letter 33 = .ok (.goto 7, 3) := by decide +kernel
theorem rd_Topics_letter_36 : decode mb_Topics_letter 36 = .ok (.bipush 96, 2) := by decide +kernel
theorem rd_Topics_letter_38 : decode mb_Topics_letter 38 = .ok (.iload_n 3, 1) := by decide +kernel
theorem rd_Topics_letter_39 : decode mb_Topics_letter 39 = .ok (.iadd, 1) := by decide +kernel
theorem rd_Topics_letter_40 : decode mb_Topics_letter 40 = .ok (.ireturn, 1) := by decide +kernel
def wd_Row_get (cI : ClassId) (n_t : Nat) (a_t a_t_k : Nat) (i_t_cells : (Int → Int)) : va_W := [(a_t, .inr (0, [.ref a_t_k])), (a_t_k, jk_W cI n_t i_t_cells)]
set_option maxHeartbeats 4000000 in
set_option maxRecDepth 20000 in
theorem ct_Row_get (l : Launch) (D : va_G) (Z : (Nat → Prop) → State → Heap → Prop) (sq : Nat → Nat) (hZ : jk_ZK Z sq) (cI cR : ClassId) {n_t : Nat} (hn_t : n_t < 2147483648) (a_t a_t_k : Nat) (i_t_cells : (Int → Int)) (x1 : Int) (q : Int) (hf : fn_Row_get (n_t : Int) i_t_cells x1 = some q) : jk_MI l D jk_cl (jk_ty cI cR) Z mn_Row_get (.code mn_Row_get mb_Row_get 2 (some .int) :: jk_WA) (jk_rm 0 0) [.ref a_t, jk_V x1] (wd_Row_get cI n_t a_t a_t_k i_t_cells) (wd_Row_get cI n_t a_t a_t_k i_t_cells) q := by
  intro sz
  refine jk_body (by decide +kernel) (fun p e s m args below meth c hsz hz hin C => ?_) (Nat.le_of_ble_eq_true rfl)
  subst hsz
  unfold fn_Row_get at hf
  refine jk_iload_n C rd_Row_get_0 (k := 1) rfl ?_
  refine jk_if_lt (tgt := 22) C rd_Row_get_1 (by decide) hf (fun _ hf => ?_) (fun _ hf => ?_)
  · refine jk_iconst C rd_Row_get_22 ?_
    cases hf
    exact jk_iret C rfl rd_Row_get_23 rfl
  · refine jk_iload_n C rd_Row_get_4 (k := 1) rfl ?_
    refine jk_aload_n C rd_Row_get_5 (k := 0) rfl ?_
    refine jk_get C in_Row (ci := 0) rfl 0 (by decide) tm_44 0 rfl rfl rd_Row_get_6 ?_
    refine jk_alen C 1 0 rfl rfl rd_Row_get_9 ?_
    refine jk_icmp_ge (tgt := 22) C rd_Row_get_10 (by decide) hf (fun _ hf => ?_) (fun _ hf => ?_)
    · refine jk_iconst C rd_Row_get_22 ?_
      cases hf
      exact jk_iret C rfl rd_Row_get_23 rfl
    · refine jk_aload_n C rd_Row_get_13 (k := 0) rfl ?_
      refine jk_get C in_Row (ci := 0) rfl 0 (by decide) tm_44 0 rfl rfl rd_Row_get_14 ?_
      refine jk_iload_n C rd_Row_get_17 (k := 1) rfl ?_
      refine jk_iald C 1 0 rfl rfl hn_t rd_Row_get_18 hf (fun hf => ?_)
      refine jk_goto (tgt := 23) C rd_Row_get_19 (by decide) ?_
      cases hf
      exact jk_iret C rfl rd_Row_get_23 rfl
def wd_Knots_power (cI : ClassId)  : va_W := []
set_option maxHeartbeats 4000000 in
set_option maxRecDepth 20000 in
theorem ct_Knots_power (l : Launch) (D : va_G) (Z : (Nat → Prop) → State → Heap → Prop) (sq : Nat → Nat) (hZ : jk_ZK Z sq) (cI cR : ClassId) (x0 : Int) (q : Int) (hf : fn_Knots_power x0 = some q) : jk_MI l D jk_cl (jk_ty cI cR) Z mn_Knots_power (.code mn_Knots_power mb_Knots_power 1 (some .int) :: jk_WA) (jk_rm 0 0) [jk_V x0] (wd_Knots_power cI) (wd_Knots_power cI) q := by
  intro sz
  refine jk_body (by decide +kernel) (fun p e s m args below meth c hsz hz hin C => ?_) (Nat.le_of_ble_eq_true rfl)
  subst hsz
  unfold fn_Knots_power at hf
  refine jk_iload_n C rd_Knots_power_0 (k := 0) rfl ?_
  refine jk_eqs_c hf (fun hx hf => ?_) (fun hx0 hf => ?_)
  · refine jk_tabIn (off := 31) (tgt := 32) C rd_Knots_power_1 (k := 0) hx (by decide +kernel) (by decide) ?_
    refine jk_iconst C rd_Knots_power_32 ?_
    cases hf
    exact jk_iret C rfl rd_Knots_power_33 rfl
  refine jk_eqs_c hf (fun hx hf => ?_) (fun hx1 hf => ?_)
  · refine jk_tabIn (off := 33) (tgt := 34) C rd_Knots_power_1 (k := 1) hx (by decide +kernel) (by decide) ?_
    refine jk_bipush C rd_Knots_power_34 (by decide +kernel) ?_
    cases hf
    exact jk_iret C rfl rd_Knots_power_36 rfl
  refine jk_eqs_c hf (fun hx hf => ?_) (fun hx2 hf => ?_)
  · refine jk_tabIn (off := 36) (tgt := 37) C rd_Knots_power_1 (k := 2) hx (by decide +kernel) (by decide) ?_
    refine jk_bipush C rd_Knots_power_37 (by decide +kernel) ?_
    cases hf
    exact jk_iret C rfl rd_Knots_power_39 rfl
  refine jk_eqs_c hf (fun hx hf => ?_) (fun hx3 hf => ?_)
  · refine jk_tabIn (off := 39) (tgt := 40) C rd_Knots_power_1 (k := 3) hx (by decide +kernel) (by decide) ?_
    refine jk_sipush C rd_Knots_power_40 (by decide +kernel) ?_
    cases hf
    exact jk_iret C rfl rd_Knots_power_43 rfl
  refine jk_tabOut (tgt := 44) C rd_Knots_power_1 (jk_rg_h hf).1 (by omega) (by decide) ?_
  replace hf := (jk_rg_h hf).2
  refine jk_sipush C rd_Knots_power_44 (by decide +kernel) ?_
  cases hf
  exact jk_iret C rfl rd_Knots_power_47 rfl
def wd_Row_copyFrom (cI : ClassId) (n_a : Nat) (n_t : Nat) (a_t a_t_k a_a a_a_k : Nat) (i_t_cells : (Int → Int)) (i_a_cells : (Int → Int)) : va_W := [(a_t, .inr (0, [.ref a_t_k])), (a_t_k, jk_W cI n_t i_t_cells), (a_a, .inr (0, [.ref a_a_k])), (a_a_k, jk_W cI n_a i_a_cells)]
set_option maxHeartbeats 4000000 in
set_option maxRecDepth 20000 in
theorem ct_Row_copyFrom (l : Launch) (D : va_G) (Z : (Nat → Prop) → State → Heap → Prop) (sq : Nat → Nat) (hZ : jk_ZK Z sq) (cI cR : ClassId) {n_a : Nat} (hn_a : n_a < 2147483648) {n_t : Nat} (hn_t : n_t < 2147483648) (a_t a_t_k a_a a_a_k : Nat) (i_t_cells : (Int → Int)) (i_a_cells : (Int → Int)) (q : (Int → Int)) (hf : fn_Row_copyFrom (n_a : Int) (n_t : Int) i_t_cells i_a_cells = some q) : jk_MV l D jk_cl (jk_ty cI cR) Z mn_Row_copyFrom (.code mn_Row_copyFrom mb_Row_copyFrom 3 none :: jk_WA) (jk_rm 1 21) [.ref a_t, .ref a_a] (wd_Row_copyFrom cI n_a n_t a_t a_t_k a_a a_a_k i_t_cells i_a_cells) (wd_Row_copyFrom cI n_a n_t a_t a_t_k a_a a_a_k q i_a_cells) := by
  intro sz
  refine jk_body (by decide +kernel) (fun p e s m args below meth c hsz hz hin C => ?_) (Nat.le_of_ble_eq_true rfl)
  subst hsz
  unfold fn_Row_copyFrom at hf
  have bk_2 : ∀ (n : Nat) (t_cells : (Int → Int)) (v2 : Int), fn_Row_copyFrom_b2 n (n_a : Int) (n_t : Int) t_cells i_a_cells v2 = some q → jk_J p l e (jk_rm 1 21) s m args below meth c 0 0 (jk_QV below D jk_cl (jk_ty cI cR) (wd_Row_copyFrom cI n_a n_t a_t a_t_k a_a a_a_k i_t_cells i_a_cells) (wd_Row_copyFrom cI n_a n_t a_t a_t_k a_a a_a_k q i_a_cells) args s) D jk_cl (va_A (wd_Row_copyFrom cI n_a n_t a_t a_t_k a_a a_a_k i_t_cells i_a_cells) s.heap.size) 3 (wd_Row_copyFrom cI n_a n_t a_t a_t_k a_a a_a_k t_cells i_a_cells) [(0, .ref a_t), (1, .ref a_a), (2, jk_V v2)] 2 [] := by
    intro n
    induction n with
    | zero => intro t_cells v2 hf; exact nomatch (show none = some q from hf)
    | succ n ih =>
      intro t_cells v2 hf
      rw [fn_Row_copyFrom_b2] at hf
      refine jk_iload_n C rd_Row_copyFrom_2 (k := 2) rfl ?_
      refine jk_aload_n C rd_Row_copyFrom_3 (k := 0) rfl ?_
      refine jk_get C in_Row (ci := 0) rfl 0 (by decide) tm_44 0 rfl rfl rd_Row_copyFrom_4 ?_
      refine jk_alen C 1 0 rfl rfl rd_Row_copyFrom_7 ?_
      refine jk_icmp_ge (tgt := 28) C rd_Row_copyFrom_8 (by decide) hf (fun _ hf => ?_) (fun _ hf => ?_)
      · cases hf
        exact jk_vret C rfl rd_Row_copyFrom_28 rfl
      · refine jk_aload_n C rd_Row_copyFrom_11 (k := 0) rfl ?_
        refine jk_get C in_Row (ci := 0) rfl 0 (by decide) tm_44 0 rfl rfl rd_Row_copyFrom_12 ?_
        refine jk_iload_n C rd_Row_copyFrom_15 (k := 2) rfl ?_
        refine jk_aload_n C rd_Row_copyFrom_16 (k := 1) rfl ?_
        refine jk_iload_n C rd_Row_copyFrom_17 (k := 2) rfl ?_
        obtain ⟨q18, hq18, hf⟩ := jk_bind_h hf
        refine jk_callVi C hZ.1 hz (ct_Row_get l D Z sq hZ cI cR (n_t := n_a) hn_a a_a a_a_k i_a_cells v2 q18 hq18) tm_395 tm_292 tm_293 tm_3 tm_294 na_Row_get ⟨Nat.le_of_ble_eq_true rfl, Nat.le_of_ble_eq_true rfl⟩ rfl [2, 3] rfl rfl rfl (ws' := wd_Row_copyFrom cI n_a n_t a_t a_t_k a_a a_a_k t_cells i_a_cells) rfl 2 0 rfl rfl rfl (st := [jk_V v2, .ref a_t_k]) rfl (Nat.le_of_ble_eq_true rfl) rd_Row_copyFrom_18 ?_ ⟨Nat.le_refl _, Nat.le_refl _⟩
        refine jk_iast C 1 0 rfl rfl hn_t rd_Row_copyFrom_21 hf (ws' := wd_Row_copyFrom cI n_a n_t a_t a_t_k a_a a_a_k (jk_up t_cells v2 q18) i_a_cells) rfl (fun hf => ?_)
        refine jk_iinc C rd_Row_copyFrom_22 (k := 2) rfl (by decide) (lv' := [(2, jk_V (v2 + 1)), (0, .ref a_t), (1, .ref a_a)]) rfl ?_
        refine jk_goto (tgt := 2) C rd_Row_copyFrom_25 (by decide) ?_
        refine jk_lv (lv' := [(0, .ref a_t), (1, .ref a_a), (2, jk_V (v2 + 1))]) [1, 2, 0] rfl ?_
        exact ih (jk_up t_cells v2 q18) (v2 + 1) hf
  refine jk_iconst C rd_Row_copyFrom_0 ?_
  refine jk_istore_n C rd_Row_copyFrom_1 (by decide) (lv' := [(2, jk_V 0), (0, .ref a_t), (1, .ref a_a)]) rfl ?_
  refine jk_lv (lv' := [(0, .ref a_t), (1, .ref a_a), (2, jk_V 0)]) [1, 2, 0] rfl ?_
  exact bk_2 jk_F i_t_cells 0 hf
def wd_Row_set (cI : ClassId) (n_t : Nat) (a_t a_t_k : Nat) (i_t_cells : (Int → Int)) : va_W := [(a_t, .inr (0, [.ref a_t_k])), (a_t_k, jk_W cI n_t i_t_cells)]
set_option maxHeartbeats 4000000 in
set_option maxRecDepth 20000 in
theorem ct_Row_set (l : Launch) (D : va_G) (Z : (Nat → Prop) → State → Heap → Prop) (sq : Nat → Nat) (hZ : jk_ZK Z sq) (cI cR : ClassId) {n_t : Nat} (hn_t : n_t < 2147483648) (a_t a_t_k : Nat) (i_t_cells : (Int → Int)) (x1 : Int) (x2 : Int) (q : (Int → Int)) (hf : fn_Row_set (n_t : Int) i_t_cells x1 x2 = some q) : jk_MV l D jk_cl (jk_ty cI cR) Z mn_Row_set (.code mn_Row_set mb_Row_set 3 none :: jk_WA) (jk_rm 0 0) [.ref a_t, jk_V x1, jk_V x2] (wd_Row_set cI n_t a_t a_t_k i_t_cells) (wd_Row_set cI n_t a_t a_t_k q) := by
  intro sz
  refine jk_body (by decide +kernel) (fun p e s m args below meth c hsz hz hin C => ?_) (Nat.le_of_ble_eq_true rfl)
  subst hsz
  unfold fn_Row_set at hf
  refine jk_iload_n C rd_Row_set_0 (k := 1) rfl ?_
  refine jk_if_lt (tgt := 20) C rd_Row_set_1 (by decide) hf (fun _ hf => ?_) (fun _ hf => ?_)
  · cases hf
    exact jk_vret C rfl rd_Row_set_20 rfl
  · refine jk_iload_n C rd_Row_set_4 (k := 1) rfl ?_
    refine jk_aload_n C rd_Row_set_5 (k := 0) rfl ?_
    refine jk_get C in_Row (ci := 0) rfl 0 (by decide) tm_44 0 rfl rfl rd_Row_set_6 ?_
    refine jk_alen C 1 0 rfl rfl rd_Row_set_9 ?_
    refine jk_icmp_ge (tgt := 20) C rd_Row_set_10 (by decide) hf (fun _ hf => ?_) (fun _ hf => ?_)
    · cases hf
      exact jk_vret C rfl rd_Row_set_20 rfl
    · refine jk_aload_n C rd_Row_set_13 (k := 0) rfl ?_
      refine jk_get C in_Row (ci := 0) rfl 0 (by decide) tm_44 0 rfl rfl rd_Row_set_14 ?_
      refine jk_iload_n C rd_Row_set_17 (k := 1) rfl ?_
      refine jk_iload_n C rd_Row_set_18 (k := 2) rfl ?_
      refine jk_iast C 1 0 rfl rfl hn_t rd_Row_set_19 hf (ws' := wd_Row_set cI n_t a_t a_t_k (jk_up i_t_cells x1 x2)) rfl (fun hf => ?_)
      cases hf
      exact jk_vret C rfl rd_Row_set_20 rfl
def wd_Knots_withoutLast (cI : ClassId)  : va_W := []
set_option maxHeartbeats 4000000 in
set_option maxRecDepth 20000 in
theorem ct_Knots_withoutLast (l : Launch) (D : va_G) (Z : (Nat → Prop) → State → Heap → Prop) (sq : Nat → Nat) (hZ : jk_ZK Z sq) (cI cR : ClassId) (x0 : Int) (x1 : Int) (q : Int) (hf : fn_Knots_withoutLast x0 x1 = some q) : jk_MI l D jk_cl (jk_ty cI cR) Z mn_Knots_withoutLast (.code mn_Knots_withoutLast mb_Knots_withoutLast 4 (some .int) :: jk_WA) (jk_rm 0 0) [jk_V x0, jk_V x1] (wd_Knots_withoutLast cI) (wd_Knots_withoutLast cI) q := by
  intro sz
  refine jk_body (by decide +kernel) (fun p e s m args below meth c hsz hz hin C => ?_) (Nat.le_of_ble_eq_true rfl)
  subst hsz
  unfold fn_Knots_withoutLast at hf
  have bk_4 : ∀ (n : Nat) (v1 : Int) (v2 : Int) (v3 : Int), fn_Knots_withoutLast_b4 n v1 v2 v3 = some q → jk_J p l e (jk_rm 0 0) s m args below meth c 0 0 (jk_QI below D jk_cl (jk_ty cI cR) (wd_Knots_withoutLast cI) (wd_Knots_withoutLast cI) args s q) D jk_cl (va_A (wd_Knots_withoutLast cI) s.heap.size) 4 (wd_Knots_withoutLast cI) [(1, jk_V v1), (2, jk_V v2), (3, jk_V v3)] 4 [] := by
    intro n
    induction n with
    | zero => intro v1 v2 v3 hf; exact nomatch (show none = some q from hf)
    | succ n ih =>
      intro v1 v2 v3 hf
      rw [fn_Knots_withoutLast_b4] at hf
      refine jk_iload_n C rd_Knots_withoutLast_4 (k := 2) rfl ?_
      refine jk_iload_n C rd_Knots_withoutLast_5 (k := 0) rfl ?_
      refine jk_icmp_ge (tgt := 20) C rd_Knots_withoutLast_6 (by decide) hf (fun _ hf => ?_) (fun _ hf => ?_)
      · refine jk_iload_n C rd_Knots_withoutLast_20 (k := 1) rfl ?_
        cases hf
        exact jk_iret C rfl rd_Knots_withoutLast_21 rfl
      · refine jk_iload_n C rd_Knots_withoutLast_9 (k := 1) rfl ?_
        refine jk_bipush C rd_Knots_withoutLast_10 (by decide +kernel) ?_
        refine jk_idiv C rd_Knots_withoutLast_12 hf (fun hf => ?_)
        refine jk_istore_n C rd_Knots_withoutLast_13 (by decide) (lv' := [(2, jk_V (v2 / 10)), (1, jk_V v1), (3, jk_V v3)]) rfl ?_
        refine jk_iinc C rd_Knots_withoutLast_14 (k := 2) rfl (by decide) (lv' := [(3, jk_V (v3 + 1)), (2, jk_V (v2 / 10)), (1, jk_V v1)]) rfl ?_
        refine jk_goto (tgt := 4) C rd_Knots_withoutLast_17 (by decide) ?_
        refine jk_lv (lv' := [(1, jk_V v1), (2, jk_V (v2 / 10)), (3, jk_V (v3 + 1))]) [2, 1, 0] rfl ?_
        exact ih v1 (v2 / 10) (v3 + 1) hf
  refine jk_iload_n C rd_Knots_withoutLast_0 (k := 0) rfl ?_
  refine jk_istore_n C rd_Knots_withoutLast_1 (by decide) (lv' := [(2, jk_V x0), (0, jk_V x0), (1, jk_V x1)]) rfl ?_
  refine jk_iconst C rd_Knots_withoutLast_2 ?_
  refine jk_istore_n C rd_Knots_withoutLast_3 (by decide) (lv' := [(3, jk_V 0), (2, jk_V x0), (0, jk_V x0), (1, jk_V x1)]) rfl ?_
  refine jk_lv (lv' := [(1, jk_V x1), (2, jk_V x0), (3, jk_V 0)]) [3, 1, 0] rfl ?_
  exact bk_4 jk_F x1 x0 0 hf
def wd_Knots_lose (cI : ClassId)  : va_W := []
set_option maxHeartbeats 4000000 in
set_option maxRecDepth 20000 in
theorem ct_Knots_lose (l : Launch) (D : va_G) (Z : (Nat → Prop) → State → Heap → Prop) (sq : Nat → Nat) (hZ : jk_ZK Z sq) (cI cR : ClassId) (x0 : Int) (x1 : Int) (q : Int) (hf : fn_Knots_lose x0 x1 = some q) : jk_MI l D jk_cl (jk_ty cI cR) Z mn_Knots_lose (.code mn_Knots_lose mb_Knots_lose 2 (some .int) :: jk_WA) (jk_rm 1 23) [jk_V x0, jk_V x1] (wd_Knots_lose cI) (wd_Knots_lose cI) q := by
  intro sz
  refine jk_body (by decide +kernel) (fun p e s m args below meth c hsz hz hin C => ?_) (Nat.le_of_ble_eq_true rfl)
  subst hsz
  unfold fn_Knots_lose at hf
  refine jk_iload_n C rd_Knots_lose_0 (k := 0) rfl ?_
  refine jk_iload_n C rd_Knots_lose_1 (k := 1) rfl ?_
  obtain ⟨q2, hq2, hf⟩ := jk_bind_h hf
  refine jk_callSi C hZ.1 hz (ct_Knots_withoutLast l D Z sq hZ cI cR x0 x1 q2 hq2) tm_411 tm_412 tm_14 tm_413 na_Knots_withoutLast ⟨Nat.le_of_ble_eq_true rfl, Nat.le_of_ble_eq_true rfl⟩ rfl [] rfl rfl rfl (ws' := wd_Knots_lose cI) rfl (st := []) rfl (Nat.le_of_ble_eq_true rfl) rd_Knots_lose_2 ?_ ⟨Nat.le_refl _, Nat.le_refl _⟩
  refine jk_iload_n C rd_Knots_lose_5 (k := 1) rfl ?_
  obtain ⟨q6, hq6, hf⟩ := jk_bind_h hf
  refine jk_callSi C hZ.1 hz (ct_Knots_power l D Z sq hZ cI cR x1 q6 hq6) tm_417 tm_418 tm_14 tm_419 na_Knots_power ⟨Nat.le_of_ble_eq_true rfl, Nat.le_of_ble_eq_true rfl⟩ rfl [] rfl rfl rfl (ws' := wd_Knots_lose cI) rfl (st := [jk_V q2]) rfl (Nat.le_of_ble_eq_true rfl) rd_Knots_lose_6 ?_ ⟨Nat.le_refl _, Nat.le_refl _⟩
  refine jk_imul C rd_Knots_lose_9 ?_
  cases hf
  exact jk_iret C rfl rd_Knots_lose_10 rfl
def wd_Row_insert (cI : ClassId) (n_t : Nat) (a_t a_t_k : Nat) (i_t_cells : (Int → Int)) : va_W := [(a_t, .inr (0, [.ref a_t_k])), (a_t_k, jk_W cI n_t i_t_cells)]
set_option maxHeartbeats 4000000 in
set_option maxRecDepth 20000 in
theorem ct_Row_insert (l : Launch) (D : va_G) (Z : (Nat → Prop) → State → Heap → Prop) (sq : Nat → Nat) (hZ : jk_ZK Z sq) (cI cR : ClassId) {n_t : Nat} (hn_t : n_t < 2147483648) (a_t a_t_k : Nat) (i_t_cells : (Int → Int)) (x1 : Int) (x2 : Int) (x3 : Int) (q : (Int → Int)) (hf : fn_Row_insert (n_t : Int) i_t_cells x1 x2 x3 = some q) : jk_MV l D jk_cl (jk_ty cI cR) Z mn_Row_insert (.code mn_Row_insert mb_Row_insert 5 none :: jk_WA) (jk_rm 1 22) [.ref a_t, jk_V x1, jk_V x2, jk_V x3] (wd_Row_insert cI n_t a_t a_t_k i_t_cells) (wd_Row_insert cI n_t a_t a_t_k q) := by
  intro sz
  refine jk_body (by decide +kernel) (fun p e s m args below meth c hsz hz hin C => ?_) (Nat.le_of_ble_eq_true rfl)
  subst hsz
  unfold fn_Row_insert at hf
  have bk_3 : ∀ (n : Nat) (t_cells : (Int → Int)) (v1 : Int) (v2 : Int) (v4 : Int), fn_Row_insert_b3 n (n_t : Int) t_cells v1 v2 v4 = some q → jk_J p l e (jk_rm 1 22) s m args below meth c 0 0 (jk_QV below D jk_cl (jk_ty cI cR) (wd_Row_insert cI n_t a_t a_t_k i_t_cells) (wd_Row_insert cI n_t a_t a_t_k q) args s) D jk_cl (va_A (wd_Row_insert cI n_t a_t a_t_k i_t_cells) s.heap.size) 5 (wd_Row_insert cI n_t a_t a_t_k t_cells) [(0, .ref a_t), (1, jk_V v1), (2, jk_V v2), (4, jk_V v4)] 3 [] := by
    intro n
    induction n with
    | zero => intro t_cells v1 v2 v4 hf; exact nomatch (show none = some q from hf)
    | succ n ih =>
      intro t_cells v1 v2 v4 hf
      rw [fn_Row_insert_b3] at hf
      refine jk_iload C rd_Row_insert_3 (k := 3) rfl ?_
      refine jk_iload_n C rd_Row_insert_5 (k := 1) rfl ?_
      refine jk_icmp_le (tgt := 29) C rd_Row_insert_6 (by decide) hf (fun _ hf => ?_) (fun _ hf => ?_)
      · refine jk_aload_n C rd_Row_insert_29 (k := 0) rfl ?_
        refine jk_iload_n C rd_Row_insert_30 (k := 1) rfl ?_
        refine jk_iload_n C rd_Row_insert_31 (k := 2) rfl ?_
        obtain ⟨q32, hq32, hf⟩ := jk_bind_h hf
        refine jk_callVv C hZ.1 hz (ct_Row_set l D Z sq hZ cI cR (n_t := n_t) hn_t a_t a_t_k t_cells v1 v2 q32 hq32) tm_396 tm_257 tm_258 tm_3 tm_259 na_Row_set ⟨Nat.le_of_ble_eq_true rfl, Nat.le_of_ble_eq_true rfl⟩ rfl [0, 1] rfl rfl rfl (ws' := wd_Row_insert cI n_t a_t a_t_k q32) rfl 0 0 rfl rfl rfl (st := []) rfl (Nat.le_of_ble_eq_true rfl) rd_Row_insert_32 ?_ ⟨Nat.le_refl _, Nat.le_refl _⟩
        cases hf
        exact jk_vret C rfl rd_Row_insert_35 rfl
      · refine jk_aload_n C rd_Row_insert_9 (k := 0) rfl ?_
        refine jk_iload C rd_Row_insert_10 (k := 3) rfl ?_
        refine jk_aload_n C rd_Row_insert_12 (k := 0) rfl ?_
        refine jk_iload C rd_Row_insert_13 (k := 3) rfl ?_
        refine jk_iconst C rd_Row_insert_15 ?_
        refine jk_isub C rd_Row_insert_16 ?_
        obtain ⟨q17, hq17, hf⟩ := jk_bind_h hf
        refine jk_callVi C hZ.1 hz (ct_Row_get l D Z sq hZ cI cR (n_t := n_t) hn_t a_t a_t_k t_cells (v4 - 1) q17 hq17) tm_395 tm_292 tm_293 tm_3 tm_294 na_Row_get ⟨Nat.le_of_ble_eq_true rfl, Nat.le_of_ble_eq_true rfl⟩ rfl [0, 1] rfl rfl rfl (ws' := wd_Row_insert cI n_t a_t a_t_k t_cells) rfl 0 0 rfl rfl rfl (st := [jk_V v4, .ref a_t]) rfl (Nat.le_of_ble_eq_true rfl) rd_Row_insert_17 ?_ ⟨Nat.le_refl _, Nat.le_refl _⟩
        obtain ⟨q20, hq20, hf⟩ := jk_bind_h hf
        refine jk_callVv C hZ.1 hz (ct_Row_set l D Z sq hZ cI cR (n_t := n_t) hn_t a_t a_t_k t_cells v4 q17 q20 hq20) tm_396 tm_257 tm_258 tm_3 tm_259 na_Row_set ⟨Nat.le_of_ble_eq_true rfl, Nat.le_of_ble_eq_true rfl⟩ rfl [0, 1] rfl rfl rfl (ws' := wd_Row_insert cI n_t a_t a_t_k q20) rfl 0 0 rfl rfl rfl (st := []) rfl (Nat.le_of_ble_eq_true rfl) rd_Row_insert_20 ?_ ⟨Nat.le_refl _, Nat.le_refl _⟩
        refine jk_iinc C rd_Row_insert_23 (k := 3) rfl (by decide) (lv' := [(4, jk_V (v4 + (-1))), (0, .ref a_t), (1, jk_V v1), (2, jk_V v2)]) rfl ?_
        refine jk_goto (tgt := 3) C rd_Row_insert_26 (by decide) ?_
        refine jk_lv (lv' := [(0, .ref a_t), (1, jk_V v1), (2, jk_V v2), (4, jk_V (v4 + (-1)))]) [1, 2, 3, 0] rfl ?_
        exact ih q20 v1 v2 (v4 + (-1)) hf
  refine jk_iload_n C rd_Row_insert_0 (k := 3) rfl ?_
  refine jk_istore C rd_Row_insert_1 (by decide) (lv' := [(4, jk_V x3), (0, .ref a_t), (1, jk_V x1), (2, jk_V x2), (3, jk_V x3)]) rfl ?_
  refine jk_lv (lv' := [(0, .ref a_t), (1, jk_V x1), (2, jk_V x2), (4, jk_V x3)]) [1, 2, 3, 0] rfl ?_
  exact bk_3 jk_F i_t_cells x1 x2 x3 hf
def wd_Row_remove (cI : ClassId) (n_t : Nat) (a_t a_t_k : Nat) (i_t_cells : (Int → Int)) : va_W := [(a_t, .inr (0, [.ref a_t_k])), (a_t_k, jk_W cI n_t i_t_cells)]
set_option maxHeartbeats 4000000 in
set_option maxRecDepth 20000 in
theorem ct_Row_remove (l : Launch) (D : va_G) (Z : (Nat → Prop) → State → Heap → Prop) (sq : Nat → Nat) (hZ : jk_ZK Z sq) (cI cR : ClassId) {n_t : Nat} (hn_t : n_t < 2147483648) (a_t a_t_k : Nat) (i_t_cells : (Int → Int)) (x1 : Int) (x2 : Int) (x3 : Int) (q : (Int → Int)) (hf : fn_Row_remove (n_t : Int) i_t_cells x1 x2 x3 = some q) : jk_MV l D jk_cl (jk_ty cI cR) Z mn_Row_remove (.code mn_Row_remove mb_Row_remove 5 none :: jk_WA) (jk_rm 1 22) [.ref a_t, jk_V x1, jk_V x2, jk_V x3] (wd_Row_remove cI n_t a_t a_t_k i_t_cells) (wd_Row_remove cI n_t a_t a_t_k q) := by
  intro sz
  refine jk_body (by decide +kernel) (fun p e s m args below meth c hsz hz hin C => ?_) (Nat.le_of_ble_eq_true rfl)
  subst hsz
  unfold fn_Row_remove at hf
  have bk_3 : ∀ (n : Nat) (t_cells : (Int → Int)) (v1 : Int) (v2 : Int) (v3 : Int) (v4 : Int), fn_Row_remove_b3 n (n_t : Int) t_cells v1 v2 v3 v4 = some q → jk_J p l e (jk_rm 1 22) s m args below meth c 0 0 (jk_QV below D jk_cl (jk_ty cI cR) (wd_Row_remove cI n_t a_t a_t_k i_t_cells) (wd_Row_remove cI n_t a_t a_t_k q) args s) D jk_cl (va_A (wd_Row_remove cI n_t a_t a_t_k i_t_cells) s.heap.size) 5 (wd_Row_remove cI n_t a_t a_t_k t_cells) [(0, .ref a_t), (1, jk_V v1), (2, jk_V v2), (3, jk_V v3), (4, jk_V v4)] 3 [] := by
    intro n
    induction n with
    | zero => intro t_cells v1 v2 v3 v4 hf; exact nomatch (show none = some q from hf)
    | succ n ih =>
      intro t_cells v1 v2 v3 v4 hf
      rw [fn_Row_remove_b3] at hf
      refine jk_iload C rd_Row_remove_3 (k := 4) rfl ?_
      refine jk_iload_n C rd_Row_remove_5 (k := 3) rfl ?_
      refine jk_iload_n C rd_Row_remove_6 (k := 2) rfl ?_
      refine jk_isub C rd_Row_remove_7 ?_
      refine jk_icmp_ge (tgt := 33) C rd_Row_remove_8 (by decide) hf (fun _ hf => ?_) (fun _ hf => ?_)
      · cases hf
        exact jk_vret C rfl rd_Row_remove_33 rfl
      · refine jk_aload_n C rd_Row_remove_11 (k := 0) rfl ?_
        refine jk_iload_n C rd_Row_remove_12 (k := 1) rfl ?_
        refine jk_iload C rd_Row_remove_13 (k := 4) rfl ?_
        refine jk_iadd C rd_Row_remove_15 ?_
        refine jk_aload_n C rd_Row_remove_16 (k := 0) rfl ?_
        refine jk_iload_n C rd_Row_remove_17 (k := 2) rfl ?_
        refine jk_iload C rd_Row_remove_18 (k := 4) rfl ?_
        refine jk_iadd C rd_Row_remove_20 ?_
        obtain ⟨q21, hq21, hf⟩ := jk_bind_h hf
        refine jk_callVi C hZ.1 hz (ct_Row_get l D Z sq hZ cI cR (n_t := n_t) hn_t a_t a_t_k t_cells (v2 + v4) q21 hq21) tm_395 tm_292 tm_293 tm_3 tm_294 na_Row_get ⟨Nat.le_of_ble_eq_true rfl, Nat.le_of_ble_eq_true rfl⟩ rfl [0, 1] rfl rfl rfl (ws' := wd_Row_remove cI n_t a_t a_t_k t_cells) rfl 0 0 rfl rfl rfl (st := [jk_V (v1 + v4), .ref a_t]) rfl (Nat.le_of_ble_eq_true rfl) rd_Row_remove_21 ?_ ⟨Nat.le_refl _, Nat.le_refl _⟩
        obtain ⟨q24, hq24, hf⟩ := jk_bind_h hf
        refine jk_callVv C hZ.1 hz (ct_Row_set l D Z sq hZ cI cR (n_t := n_t) hn_t a_t a_t_k t_cells (v1 + v4) q21 q24 hq24) tm_396 tm_257 tm_258 tm_3 tm_259 na_Row_set ⟨Nat.le_of_ble_eq_true rfl, Nat.le_of_ble_eq_true rfl⟩ rfl [0, 1] rfl rfl rfl (ws' := wd_Row_remove cI n_t a_t a_t_k q24) rfl 0 0 rfl rfl rfl (st := []) rfl (Nat.le_of_ble_eq_true rfl) rd_Row_remove_24 ?_ ⟨Nat.le_refl _, Nat.le_refl _⟩
        refine jk_iinc C rd_Row_remove_27 (k := 4) rfl (by decide) (lv' := [(4, jk_V (v4 + 1)), (0, .ref a_t), (1, jk_V v1), (2, jk_V v2), (3, jk_V v3)]) rfl ?_
        refine jk_goto (tgt := 3) C rd_Row_remove_30 (by decide) ?_
        refine jk_lv (lv' := [(0, .ref a_t), (1, jk_V v1), (2, jk_V v2), (3, jk_V v3), (4, jk_V (v4 + 1))]) [1, 2, 3, 4, 0] rfl ?_
        exact ih q24 v1 v2 v3 (v4 + 1) hf
  refine jk_iconst C rd_Row_remove_0 ?_
  refine jk_istore C rd_Row_remove_1 (by decide) (lv' := [(4, jk_V 0), (0, .ref a_t), (1, jk_V x1), (2, jk_V x2), (3, jk_V x3)]) rfl ?_
  refine jk_lv (lv' := [(0, .ref a_t), (1, jk_V x1), (2, jk_V x2), (3, jk_V x3), (4, jk_V 0)]) [1, 2, 3, 4, 0] rfl ?_
  exact bk_3 jk_F i_t_cells x1 x2 x3 0 hf
def wd_Knots_at (cI : ClassId)  : va_W := []
set_option maxHeartbeats 4000000 in
set_option maxRecDepth 20000 in
theorem ct_Knots_at (l : Launch) (D : va_G) (Z : (Nat → Prop) → State → Heap → Prop) (sq : Nat → Nat) (hZ : jk_ZK Z sq) (cI cR : ClassId) (x0 : Int) (x1 : Int) (q : Int) (hf : fn_Knots_at x0 x1 = some q) : jk_MI l D jk_cl (jk_ty cI cR) Z mn_Knots_at (.code mn_Knots_at mb_Knots_at 2 (some .int) :: jk_WA) (jk_rm 1 23) [jk_V x0, jk_V x1] (wd_Knots_at cI) (wd_Knots_at cI) q := by
  intro sz
  refine jk_body (by decide +kernel) (fun p e s m args below meth c hsz hz hin C => ?_) (Nat.le_of_ble_eq_true rfl)
  subst hsz
  unfold fn_Knots_at at hf
  refine jk_iload_n C rd_Knots_at_0 (k := 0) rfl ?_
  refine jk_iload_n C rd_Knots_at_1 (k := 1) rfl ?_
  obtain ⟨q2, hq2, hf⟩ := jk_bind_h hf
  refine jk_callSi C hZ.1 hz (ct_Knots_withoutLast l D Z sq hZ cI cR x0 x1 q2 hq2) tm_411 tm_412 tm_14 tm_413 na_Knots_withoutLast ⟨Nat.le_of_ble_eq_true rfl, Nat.le_of_ble_eq_true rfl⟩ rfl [] rfl rfl rfl (ws' := wd_Knots_at cI) rfl (st := []) rfl (Nat.le_of_ble_eq_true rfl) rd_Knots_at_2 ?_ ⟨Nat.le_refl _, Nat.le_refl _⟩
  refine jk_bipush C rd_Knots_at_5 (by decide +kernel) ?_
  refine jk_irem C rd_Knots_at_7 hf (fun hf => ?_)
  cases hf
  exact jk_iret C rfl rd_Knots_at_8 rfl
def wd_Knots_sum (cI : ClassId)  : va_W := []
set_option maxHeartbeats 4000000 in
set_option maxRecDepth 20000 in
theorem ct_Knots_sum (l : Launch) (D : va_G) (Z : (Nat → Prop) → State → Heap → Prop) (sq : Nat → Nat) (hZ : jk_ZK Z sq) (cI cR : ClassId) (x0 : Int) (q : Int) (hf : fn_Knots_sum x0 = some q) : jk_MI l D jk_cl (jk_ty cI cR) Z mn_Knots_sum (.code mn_Knots_sum mb_Knots_sum 3 (some .int) :: jk_WA) (jk_rm 2 44) [jk_V x0] (wd_Knots_sum cI) (wd_Knots_sum cI) q := by
  intro sz
  refine jk_body (by decide +kernel) (fun p e s m args below meth c hsz hz hin C => ?_) (Nat.le_of_ble_eq_true rfl)
  subst hsz
  unfold fn_Knots_sum at hf
  have bk_4 : ∀ (n : Nat) (v0 : Int) (v1 : Int) (v2 : Int), fn_Knots_sum_b4 n v0 v1 v2 = some q → jk_J p l e (jk_rm 2 44) s m args below meth c 0 0 (jk_QI below D jk_cl (jk_ty cI cR) (wd_Knots_sum cI) (wd_Knots_sum cI) args s q) D jk_cl (va_A (wd_Knots_sum cI) s.heap.size) 3 (wd_Knots_sum cI) [(0, jk_V v0), (1, jk_V v1), (2, jk_V v2)] 4 [] := by
    intro n
    induction n with
    | zero => intro v0 v1 v2 hf; exact nomatch (show none = some q from hf)
    | succ n ih =>
      intro v0 v1 v2 hf
      rw [fn_Knots_sum_b4] at hf
      refine jk_iload_n C rd_Knots_sum_4 (k := 2) rfl ?_
      refine jk_iconst C rd_Knots_sum_5 ?_
      refine jk_icmp_ge (tgt := 23) C rd_Knots_sum_6 (by decide) hf (fun _ hf => ?_) (fun _ hf => ?_)
      · refine jk_iload_n C rd_Knots_sum_23 (k := 1) rfl ?_
        cases hf
        exact jk_iret C rfl rd_Knots_sum_24 rfl
      · refine jk_iload_n C rd_Knots_sum_9 (k := 1) rfl ?_
        refine jk_iload_n C rd_Knots_sum_10 (k := 0) rfl ?_
        refine jk_iload_n C rd_Knots_sum_11 (k := 2) rfl ?_
        obtain ⟨q12, hq12, hf⟩ := jk_bind_h hf
        refine jk_callSi C hZ.1 hz (ct_Knots_at l D Z sq hZ cI cR v0 v2 q12 hq12) tm_408 tm_409 tm_14 tm_410 na_Knots_at ⟨Nat.le_of_ble_eq_true rfl, Nat.le_of_ble_eq_true rfl⟩ rfl [] rfl rfl rfl (ws' := wd_Knots_sum cI) rfl (st := [jk_V v1]) rfl (Nat.le_of_ble_eq_true rfl) rd_Knots_sum_12 ?_ ⟨Nat.le_refl _, Nat.le_refl _⟩
        refine jk_iadd C rd_Knots_sum_15 ?_
        refine jk_istore_n C rd_Knots_sum_16 (by decide) (lv' := [(1, jk_V (v1 + q12)), (0, jk_V v0), (2, jk_V v2)]) rfl ?_
        refine jk_iinc C rd_Knots_sum_17 (k := 2) rfl (by decide) (lv' := [(2, jk_V (v2 + 1)), (1, jk_V (v1 + q12)), (0, jk_V v0)]) rfl ?_
        refine jk_goto (tgt := 4) C rd_Knots_sum_20 (by decide) ?_
        refine jk_lv (lv' := [(0, jk_V v0), (1, jk_V (v1 + q12)), (2, jk_V (v2 + 1))]) [2, 1, 0] rfl ?_
        exact ih v0 (v1 + q12) (v2 + 1) hf
  refine jk_iconst C rd_Knots_sum_0 ?_
  refine jk_istore_n C rd_Knots_sum_1 (by decide) (lv' := [(1, jk_V 0), (0, jk_V x0)]) rfl ?_
  refine jk_iconst C rd_Knots_sum_2 ?_
  refine jk_istore_n C rd_Knots_sum_3 (by decide) (lv' := [(2, jk_V 0), (1, jk_V 0), (0, jk_V x0)]) rfl ?_
  refine jk_lv (lv' := [(0, jk_V x0), (1, jk_V 0), (2, jk_V 0)]) [2, 1, 0] rfl ?_
  exact bk_4 jk_F x0 0 0 hf
def wd_Output_put (cI : ClassId) (a_t a_t_bytes a_t_bytes_k : Nat) (i_t_length : Int) (i_t_bytes : (Int → Int)) : va_W := [(a_t, .inr (4, [.ref a_t_bytes, jk_V i_t_length])), (a_t_bytes, .inr (0, [.ref a_t_bytes_k])), (a_t_bytes_k, jk_W cI 321 i_t_bytes)]
set_option maxHeartbeats 4000000 in
set_option maxRecDepth 20000 in
theorem ct_Output_put (l : Launch) (D : va_G) (Z : (Nat → Prop) → State → Heap → Prop) (sq : Nat → Nat) (hZ : jk_ZK Z sq) (cI cR : ClassId) (a_t a_t_bytes a_t_bytes_k : Nat) (i_t_length : Int) (i_t_bytes : (Int → Int)) (x1 : Int) (q : (Int → Int) × Int) (hf : fn_Output_put i_t_bytes i_t_length x1 = some q) : jk_MV l D jk_cl (jk_ty cI cR) Z mn_Output_put (.code mn_Output_put mb_Output_put 2 none :: jk_WA) (jk_rm 1 22) [.ref a_t, jk_V x1] (wd_Output_put cI a_t a_t_bytes a_t_bytes_k i_t_length i_t_bytes) (wd_Output_put cI a_t a_t_bytes a_t_bytes_k q.2 q.1) := by
  intro sz
  refine jk_body (by decide +kernel) (fun p e s m args below meth c hsz hz hin C => ?_) (Nat.le_of_ble_eq_true rfl)
  subst hsz
  unfold fn_Output_put at hf
  refine jk_aload_n C rd_Output_put_0 (k := 0) rfl ?_
  refine jk_get C in_Output (ci := 4) rfl 1 (by decide) tm_84 0 rfl rfl rd_Output_put_1 ?_
  refine jk_sipush C rd_Output_put_4 (by decide +kernel) ?_
  refine jk_icmp_ge (tgt := 32) C rd_Output_put_7 (by decide) hf (fun _ hf => ?_) (fun _ hf => ?_)
  · cases hf
    exact jk_vret C rfl rd_Output_put_32 rfl
  · refine jk_aload_n C rd_Output_put_10 (k := 0) rfl ?_
    refine jk_get C in_Output (ci := 4) rfl 0 (by decide) tm_82 0 rfl rfl rd_Output_put_11 ?_
    refine jk_aload_n C rd_Output_put_14 (k := 0) rfl ?_
    refine jk_get C in_Output (ci := 4) rfl 1 (by decide) tm_84 0 rfl rfl rd_Output_put_15 ?_
    refine jk_iload_n C rd_Output_put_18 (k := 1) rfl ?_
    obtain ⟨q19, hq19, hf⟩ := jk_bind_h hf
    refine jk_callVv C hZ.1 hz (ct_Row_set l D Z sq hZ cI cR (n_t := 321) (Nat.le_of_ble_eq_true rfl) a_t_bytes a_t_bytes_k i_t_bytes i_t_length x1 q19 hq19) tm_1202 tm_257 tm_258 tm_3 tm_259 na_Row_set ⟨Nat.le_of_ble_eq_true rfl, Nat.le_of_ble_eq_true rfl⟩ rfl [1, 2] rfl rfl rfl (ws' := wd_Output_put cI a_t a_t_bytes a_t_bytes_k i_t_length q19) rfl 1 0 rfl rfl rfl (st := []) rfl (Nat.le_of_ble_eq_true rfl) rd_Output_put_19 ?_ ⟨Nat.le_refl _, Nat.le_refl _⟩
    refine jk_aload_n C rd_Output_put_22 (k := 0) rfl ?_
    refine jk_dup C rd_Output_put_23 rfl ?_
    refine jk_get C in_Output (ci := 4) rfl 1 (by decide) tm_84 0 rfl rfl rd_Output_put_24 ?_
    refine jk_iconst C rd_Output_put_27 ?_
    refine jk_iadd C rd_Output_put_28 ?_
    refine jk_putf C in_Output ty_Output nm_Output (ci := 4) rfl 1 (by decide) tm_84 rfl rfl rfl 0 rfl (Nat.le_of_ble_eq_true rfl) rd_Output_put_29 (ws' := wd_Output_put cI a_t a_t_bytes a_t_bytes_k (i_t_length + 1) q19) rfl ?_
    cases hf
    exact jk_vret C rfl rd_Output_put_32 rfl
def wd_Output_closeTo (cI : ClassId) (a_t a_t_bytes a_t_bytes_k : Nat) (i_t_length : Int) (i_t_bytes : (Int → Int)) : va_W := [(a_t, .inr (4, [.ref a_t_bytes, jk_V i_t_length])), (a_t_bytes, .inr (0, [.ref a_t_bytes_k])), (a_t_bytes_k, jk_W cI 321 i_t_bytes)]
set_option maxHeartbeats 4000000 in
set_option maxRecDepth 20000 in
theorem ct_Output_closeTo (l : Launch) (D : va_G) (Z : (Nat → Prop) → State → Heap → Prop) (sq : Nat → Nat) (hZ : jk_ZK Z sq) (cI cR : ClassId) (a_t a_t_bytes a_t_bytes_k : Nat) (i_t_length : Int) (i_t_bytes : (Int → Int)) (x1 : Int) (x2 : Int) (q : (Int → Int) × Int) (hf : fn_Output_closeTo i_t_bytes i_t_length x1 x2 = some q) : jk_MV l D jk_cl (jk_ty cI cR) Z mn_Output_closeTo (.code mn_Output_closeTo mb_Output_closeTo 4 none :: jk_WA) (jk_rm 2 43) [.ref a_t, jk_V x1, jk_V x2] (wd_Output_closeTo cI a_t a_t_bytes a_t_bytes_k i_t_length i_t_bytes) (wd_Output_closeTo cI a_t a_t_bytes a_t_bytes_k q.2 q.1) := by
  intro sz
  refine jk_body (by decide +kernel) (fun p e s m args below meth c hsz hz hin C => ?_) (Nat.le_of_ble_eq_true rfl)
  subst hsz
  unfold fn_Output_closeTo at hf
  have bk_2 : ∀ (n : Nat) (t_bytes : (Int → Int)) (t_length : Int) (v1 : Int) (v3 : Int), fn_Output_closeTo_b2 n t_bytes t_length v1 v3 = some q → jk_J p l e (jk_rm 2 43) s m args below meth c 0 0 (jk_QV below D jk_cl (jk_ty cI cR) (wd_Output_closeTo cI a_t a_t_bytes a_t_bytes_k i_t_length i_t_bytes) (wd_Output_closeTo cI a_t a_t_bytes a_t_bytes_k q.2 q.1) args s) D jk_cl (va_A (wd_Output_closeTo cI a_t a_t_bytes a_t_bytes_k i_t_length i_t_bytes) s.heap.size) 4 (wd_Output_closeTo cI a_t a_t_bytes a_t_bytes_k t_length t_bytes) [(0, .ref a_t), (1, jk_V v1), (3, jk_V v3)] 2 [] := by
    intro n
    induction n with
    | zero => intro t_bytes t_length v1 v3 hf; exact nomatch (show none = some q from hf)
    | succ n ih =>
      intro t_bytes t_length v1 v3 hf
      rw [fn_Output_closeTo_b2] at hf
      refine jk_iload_n C rd_Output_closeTo_2 (k := 2) rfl ?_
      refine jk_iload_n C rd_Output_closeTo_3 (k := 1) rfl ?_
      refine jk_icmp_ge (tgt := 19) C rd_Output_closeTo_4 (by decide) hf (fun _ hf => ?_) (fun _ hf => ?_)
      · cases hf
        exact jk_vret C rfl rd_Output_closeTo_19 rfl
      · refine jk_aload_n C rd_Output_closeTo_7 (k := 0) rfl ?_
        refine jk_bipush C rd_Output_closeTo_8 (by decide +kernel) ?_
        obtain ⟨q10, hq10, hf⟩ := jk_bind_h hf
        refine jk_callVv C hZ.1 hz (ct_Output_put l D Z sq hZ cI cR a_t a_t_bytes a_t_bytes_k t_length t_bytes 41 q10 hq10) tm_1198 tm_1199 tm_1200 tm_4 tm_1201 na_Output_put ⟨Nat.le_of_ble_eq_true rfl, Nat.le_of_ble_eq_true rfl⟩ rfl [0, 1, 2] rfl rfl rfl (ws' := wd_Output_closeTo cI a_t a_t_bytes a_t_bytes_k q10.2 q10.1) rfl 0 4 rfl rfl rfl (st := []) rfl (Nat.le_of_ble_eq_true rfl) rd_Output_closeTo_10 ?_ ⟨Nat.le_refl _, Nat.le_refl _⟩
        refine jk_iinc C rd_Output_closeTo_13 (k := 2) rfl (by decide) (lv' := [(3, jk_V (v3 + 1)), (0, .ref a_t), (1, jk_V v1)]) rfl ?_
        refine jk_goto (tgt := 2) C rd_Output_closeTo_16 (by decide) ?_
        refine jk_lv (lv' := [(0, .ref a_t), (1, jk_V v1), (3, jk_V (v3 + 1))]) [1, 2, 0] rfl ?_
        exact ih q10.1 q10.2 v1 (v3 + 1) hf
  refine jk_iload_n C rd_Output_closeTo_0 (k := 2) rfl ?_
  refine jk_istore_n C rd_Output_closeTo_1 (by decide) (lv' := [(3, jk_V x2), (0, .ref a_t), (1, jk_V x1), (2, jk_V x2)]) rfl ?_
  refine jk_lv (lv' := [(0, .ref a_t), (1, jk_V x1), (3, jk_V x2)]) [1, 2, 0] rfl ?_
  exact bk_2 jk_F i_t_bytes i_t_length x1 x2 hf
def wd_Output_putJoint (cI : ClassId) (a_t a_t_bytes a_t_bytes_k : Nat) (i_t_length : Int) (i_t_bytes : (Int → Int)) : va_W := [(a_t, .inr (4, [.ref a_t_bytes, jk_V i_t_length])), (a_t_bytes, .inr (0, [.ref a_t_bytes_k])), (a_t_bytes_k, jk_W cI 321 i_t_bytes)]
set_option maxHeartbeats 4000000 in
set_option maxRecDepth 20000 in
theorem ct_Output_putJoint (l : Launch) (D : va_G) (Z : (Nat → Prop) → State → Heap → Prop) (sq : Nat → Nat) (hZ : jk_ZK Z sq) (cI cR : ClassId) (a_t a_t_bytes a_t_bytes_k : Nat) (i_t_length : Int) (i_t_bytes : (Int → Int)) (x1 : Int) (x2 : Int) (q : (Int → Int) × Int) (hf : fn_Output_putJoint i_t_bytes i_t_length x1 x2 = some q) : jk_MV l D jk_cl (jk_ty cI cR) Z mn_Output_putJoint (.code mn_Output_putJoint mb_Output_putJoint 3 none :: jk_WA) (jk_rm 3 66) [.ref a_t, jk_V x1, jk_V x2] (wd_Output_putJoint cI a_t a_t_bytes a_t_bytes_k i_t_length i_t_bytes) (wd_Output_putJoint cI a_t a_t_bytes a_t_bytes_k q.2 q.1) := by
  intro sz
  refine jk_body (by decide +kernel) (fun p e s m args below meth c hsz hz hin C => ?_) (Nat.le_of_ble_eq_true rfl)
  subst hsz
  unfold fn_Output_putJoint at hf
  refine jk_iload_n C rd_Output_putJoint_0 (k := 1) rfl ?_
  refine jk_if_ne (tgt := 5) C rd_Output_putJoint_1 (by decide) hf (fun _ hf => ?_) (fun _ hf => ?_)
  · refine jk_iload_n C rd_Output_putJoint_5 (k := 2) rfl ?_
    refine jk_iload_n C rd_Output_putJoint_6 (k := 1) rfl ?_
    refine jk_icmp_le (tgt := 17) C rd_Output_putJoint_7 (by decide) hf (fun _ hf => ?_) (fun _ hf => ?_)
    · refine jk_aload_n C rd_Output_putJoint_17 (k := 0) rfl ?_
      refine jk_iload_n C rd_Output_putJoint_18 (k := 1) rfl ?_
      refine jk_iload_n C rd_Output_putJoint_19 (k := 2) rfl ?_
      obtain ⟨q20, hq20, hf⟩ := jk_bind_h hf
      refine jk_callVv C hZ.1 hz (ct_Output_closeTo l D Z sq hZ cI cR a_t a_t_bytes a_t_bytes_k i_t_length i_t_bytes x1 x2 q20 hq20) tm_1203 tm_1204 tm_1205 tm_4 tm_1206 na_Output_closeTo ⟨Nat.le_of_ble_eq_true rfl, Nat.le_of_ble_eq_true rfl⟩ rfl [0, 1, 2] rfl rfl rfl (ws' := wd_Output_putJoint cI a_t a_t_bytes a_t_bytes_k q20.2 q20.1) rfl 0 4 rfl rfl rfl (st := []) rfl (Nat.le_of_ble_eq_true rfl) rd_Output_putJoint_20 ?_ ⟨Nat.le_refl _, Nat.le_refl _⟩
      refine jk_aload_n C rd_Output_putJoint_23 (k := 0) rfl ?_
      refine jk_iload_n C rd_Output_putJoint_24 (k := 2) rfl ?_
      refine jk_iconst C rd_Output_putJoint_25 ?_
      refine jk_icmp_ne (tgt := 34) C rd_Output_putJoint_26 (by decide) hf (fun _ hf => ?_) (fun _ hf => ?_)
      · refine jk_bipush C rd_Output_putJoint_34 (by decide +kernel) ?_
        obtain ⟨q36, hq36, hf⟩ := jk_bind_h hf
        refine jk_callVv C hZ.1 hz (ct_Output_put l D Z sq hZ cI cR a_t a_t_bytes a_t_bytes_k q20.2 q20.1 44 q36 hq36) tm_1198 tm_1199 tm_1200 tm_4 tm_1201 na_Output_put ⟨Nat.le_of_ble_eq_true rfl, Nat.le_of_ble_eq_true rfl⟩ rfl [0, 1, 2] rfl rfl rfl (ws' := wd_Output_putJoint cI a_t a_t_bytes a_t_bytes_k q36.2 q36.1) rfl 0 4 rfl rfl rfl (st := []) rfl (Nat.le_of_ble_eq_true rfl) rd_Output_putJoint_36 ?_ ⟨Nat.le_refl _, Nat.le_refl _⟩
        cases hf
        exact jk_vret C rfl rd_Output_putJoint_39 rfl
      · refine jk_bipush C rd_Output_putJoint_29 (by decide +kernel) ?_
        refine jk_goto (tgt := 36) C rd_Output_putJoint_31 (by decide) ?_
        obtain ⟨q36, hq36, hf⟩ := jk_bind_h hf
        refine jk_callVv C hZ.1 hz (ct_Output_put l D Z sq hZ cI cR a_t a_t_bytes a_t_bytes_k q20.2 q20.1 43 q36 hq36) tm_1198 tm_1199 tm_1200 tm_4 tm_1201 na_Output_put ⟨Nat.le_of_ble_eq_true rfl, Nat.le_of_ble_eq_true rfl⟩ rfl [0, 1, 2] rfl rfl rfl (ws' := wd_Output_putJoint cI a_t a_t_bytes a_t_bytes_k q36.2 q36.1) rfl 0 4 rfl rfl rfl (st := []) rfl (Nat.le_of_ble_eq_true rfl) rd_Output_putJoint_36 ?_ ⟨Nat.le_refl _, Nat.le_refl _⟩
        cases hf
        exact jk_vret C rfl rd_Output_putJoint_39 rfl
    · refine jk_aload_n C rd_Output_putJoint_10 (k := 0) rfl ?_
      refine jk_bipush C rd_Output_putJoint_11 (by decide +kernel) ?_
      obtain ⟨q13, hq13, hf⟩ := jk_bind_h hf
      refine jk_callVv C hZ.1 hz (ct_Output_put l D Z sq hZ cI cR a_t a_t_bytes a_t_bytes_k i_t_length i_t_bytes 40 q13 hq13) tm_1198 tm_1199 tm_1200 tm_4 tm_1201 na_Output_put ⟨Nat.le_of_ble_eq_true rfl, Nat.le_of_ble_eq_true rfl⟩ rfl [0, 1, 2] rfl rfl rfl (ws' := wd_Output_putJoint cI a_t a_t_bytes a_t_bytes_k q13.2 q13.1) rfl 0 4 rfl rfl rfl (st := []) rfl (Nat.le_of_ble_eq_true rfl) rd_Output_putJoint_13 ?_ ⟨Nat.le_refl _, Nat.le_refl _⟩
      cases hf
      exact jk_vret C rfl rd_Output_putJoint_16 rfl
  · cases hf
    exact jk_vret C rfl rd_Output_putJoint_4 rfl
def wd_Output_putPlaces (cI : ClassId) (a_t a_t_bytes a_t_bytes_k : Nat) (i_t_length : Int) (i_t_bytes : (Int → Int)) : va_W := [(a_t, .inr (4, [.ref a_t_bytes, jk_V i_t_length])), (a_t_bytes, .inr (0, [.ref a_t_bytes_k])), (a_t_bytes_k, jk_W cI 321 i_t_bytes)]
set_option maxHeartbeats 4000000 in
set_option maxRecDepth 20000 in
theorem ct_Output_putPlaces (l : Launch) (D : va_G) (Z : (Nat → Prop) → State → Heap → Prop) (sq : Nat → Nat) (hZ : jk_ZK Z sq) (cI cR : ClassId) (a_t a_t_bytes a_t_bytes_k : Nat) (i_t_length : Int) (i_t_bytes : (Int → Int)) (x1 : Int) (x2 : Int) (q : (Int → Int) × Int) (hf : fn_Output_putPlaces i_t_bytes i_t_length x1 x2 = some q) : jk_MV l D jk_cl (jk_ty cI cR) Z mn_Output_putPlaces (.code mn_Output_putPlaces mb_Output_putPlaces 4 none :: jk_WA) (jk_rm 2 44) [.ref a_t, jk_V x1, jk_V x2] (wd_Output_putPlaces cI a_t a_t_bytes a_t_bytes_k i_t_length i_t_bytes) (wd_Output_putPlaces cI a_t a_t_bytes a_t_bytes_k q.2 q.1) := by
  intro sz
  refine jk_body (by decide +kernel) (fun p e s m args below meth c hsz hz hin C => ?_) (Nat.le_of_ble_eq_true rfl)
  subst hsz
  unfold fn_Output_putPlaces at hf
  have bk_2 : ∀ (n : Nat) (t_bytes : (Int → Int)) (t_length : Int) (v1 : Int) (v2 : Int) (v3 : Int), fn_Output_putPlaces_b2 n t_bytes t_length v1 v2 v3 = some q → jk_J p l e (jk_rm 2 44) s m args below meth c 0 0 (jk_QV below D jk_cl (jk_ty cI cR) (wd_Output_putPlaces cI a_t a_t_bytes a_t_bytes_k i_t_length i_t_bytes) (wd_Output_putPlaces cI a_t a_t_bytes a_t_bytes_k q.2 q.1) args s) D jk_cl (va_A (wd_Output_putPlaces cI a_t a_t_bytes a_t_bytes_k i_t_length i_t_bytes) s.heap.size) 4 (wd_Output_putPlaces cI a_t a_t_bytes a_t_bytes_k t_length t_bytes) [(0, .ref a_t), (1, jk_V v1), (2, jk_V v2), (3, jk_V v3)] 2 [] := by
    intro n
    induction n with
    | zero => intro t_bytes t_length v1 v2 v3 hf; exact nomatch (show none = some q from hf)
    | succ n ih =>
      intro t_bytes t_length v1 v2 v3 hf
      rw [fn_Output_putPlaces_b2] at hf
      refine jk_iload_n C rd_Output_putPlaces_2 (k := 3) rfl ?_
      refine jk_if_lt (tgt := 34) C rd_Output_putPlaces_3 (by decide) hf (fun _ hf => ?_) (fun _ hf => ?_)
      · cases hf
        exact jk_vret C rfl rd_Output_putPlaces_34 rfl
      · refine jk_aload_n C rd_Output_putPlaces_6 (k := 0) rfl ?_
        refine jk_iload_n C rd_Output_putPlaces_7 (k := 3) rfl ?_
        refine jk_iload_n C rd_Output_putPlaces_8 (k := 2) rfl ?_
        refine jk_icmp_ge (tgt := 17) C rd_Output_putPlaces_9 (by decide) hf (fun _ hf => ?_) (fun _ hf => ?_)
        · refine jk_bipush C rd_Output_putPlaces_17 (by decide +kernel) ?_
          refine jk_iload_n C rd_Output_putPlaces_19 (k := 1) rfl ?_
          refine jk_iload_n C rd_Output_putPlaces_20 (k := 3) rfl ?_
          obtain ⟨q21, hq21, hf⟩ := jk_bind_h hf
          refine jk_callSi C hZ.1 hz (ct_Knots_at l D Z sq hZ cI cR v1 v3 q21 hq21) tm_1212 tm_409 tm_14 tm_410 na_Knots_at ⟨Nat.le_of_ble_eq_true rfl, Nat.le_of_ble_eq_true rfl⟩ rfl [] rfl rfl rfl (ws' := wd_Output_putPlaces cI a_t a_t_bytes a_t_bytes_k t_length t_bytes) rfl (st := [jk_V 48, .ref a_t]) rfl (Nat.le_of_ble_eq_true rfl) rd_Output_putPlaces_21 ?_ ⟨Nat.le_refl _, Nat.le_refl _⟩
          refine jk_iadd C rd_Output_putPlaces_24 ?_
          obtain ⟨q25, hq25, hf⟩ := jk_bind_h hf
          refine jk_callVv C hZ.1 hz (ct_Output_put l D Z sq hZ cI cR a_t a_t_bytes a_t_bytes_k t_length t_bytes (48 + q21) q25 hq25) tm_1198 tm_1199 tm_1200 tm_4 tm_1201 na_Output_put ⟨Nat.le_of_ble_eq_true rfl, Nat.le_of_ble_eq_true rfl⟩ rfl [0, 1, 2] rfl rfl rfl (ws' := wd_Output_putPlaces cI a_t a_t_bytes a_t_bytes_k q25.2 q25.1) rfl 0 4 rfl rfl rfl (st := []) rfl (Nat.le_of_ble_eq_true rfl) rd_Output_putPlaces_25 ?_ ⟨Nat.le_refl _, Nat.le_refl _⟩
          refine jk_iinc C rd_Output_putPlaces_28 (k := 3) rfl (by decide) (lv' := [(3, jk_V (v3 + (-1))), (0, .ref a_t), (1, jk_V v1), (2, jk_V v2)]) rfl ?_
          refine jk_goto (tgt := 2) C rd_Output_putPlaces_31 (by decide) ?_
          refine jk_lv (lv' := [(0, .ref a_t), (1, jk_V v1), (2, jk_V v2), (3, jk_V (v3 + (-1)))]) [1, 2, 3, 0] rfl ?_
          exact ih q25.1 q25.2 v1 v2 (v3 + (-1)) hf
        · refine jk_bipush C rd_Output_putPlaces_12 (by decide +kernel) ?_
          refine jk_goto (tgt := 25) C rd_Output_putPlaces_14 (by decide) ?_
          obtain ⟨q25, hq25, hf⟩ := jk_bind_h hf
          refine jk_callVv C hZ.1 hz (ct_Output_put l D Z sq hZ cI cR a_t a_t_bytes a_t_bytes_k t_length t_bytes 63 q25 hq25) tm_1198 tm_1199 tm_1200 tm_4 tm_1201 na_Output_put ⟨Nat.le_of_ble_eq_true rfl, Nat.le_of_ble_eq_true rfl⟩ rfl [0, 1, 2] rfl rfl rfl (ws' := wd_Output_putPlaces cI a_t a_t_bytes a_t_bytes_k q25.2 q25.1) rfl 0 4 rfl rfl rfl (st := []) rfl (Nat.le_of_ble_eq_true rfl) rd_Output_putPlaces_25 ?_ ⟨Nat.le_refl _, Nat.le_refl _⟩
          refine jk_iinc C rd_Output_putPlaces_28 (k := 3) rfl (by decide) (lv' := [(3, jk_V (v3 + (-1))), (0, .ref a_t), (1, jk_V v1), (2, jk_V v2)]) rfl ?_
          refine jk_goto (tgt := 2) C rd_Output_putPlaces_31 (by decide) ?_
          refine jk_lv (lv' := [(0, .ref a_t), (1, jk_V v1), (2, jk_V v2), (3, jk_V (v3 + (-1)))]) [1, 2, 3, 0] rfl ?_
          exact ih q25.1 q25.2 v1 v2 (v3 + (-1)) hf
  refine jk_iconst C rd_Output_putPlaces_0 ?_
  refine jk_istore_n C rd_Output_putPlaces_1 (by decide) (lv' := [(3, jk_V 3), (0, .ref a_t), (1, jk_V x1), (2, jk_V x2)]) rfl ?_
  refine jk_lv (lv' := [(0, .ref a_t), (1, jk_V x1), (2, jk_V x2), (3, jk_V 3)]) [1, 2, 3, 0] rfl ?_
  exact bk_2 jk_F i_t_bytes i_t_length x1 x2 3 hf
def wd_Row_replace (cI : ClassId) (n_t : Nat) (a_t a_t_k : Nat) (i_t_cells : (Int → Int)) : va_W := [(a_t, .inr (0, [.ref a_t_k])), (a_t_k, jk_W cI n_t i_t_cells)]
set_option maxHeartbeats 4000000 in
set_option maxRecDepth 20000 in
theorem ct_Row_replace (l : Launch) (D : va_G) (Z : (Nat → Prop) → State → Heap → Prop) (sq : Nat → Nat) (hZ : jk_ZK Z sq) (cI cR : ClassId) {n_t : Nat} (hn_t : n_t < 2147483648) (a_t a_t_k : Nat) (i_t_cells : (Int → Int)) (x1 : Int) (x2 : Int) (q : Int × (Int → Int)) (hf : fn_Row_replace (n_t : Int) i_t_cells x1 x2 = some q) : jk_MI l D jk_cl (jk_ty cI cR) Z mn_Row_replace (.code mn_Row_replace mb_Row_replace 4 (some .int) :: jk_WA) (jk_rm 1 22) [.ref a_t, jk_V x1, jk_V x2] (wd_Row_replace cI n_t a_t a_t_k i_t_cells) (wd_Row_replace cI n_t a_t a_t_k q.2) q.1 := by
  intro sz
  refine jk_body (by decide +kernel) (fun p e s m args below meth c hsz hz hin C => ?_) (Nat.le_of_ble_eq_true rfl)
  subst hsz
  unfold fn_Row_replace at hf
  refine jk_aload_n C rd_Row_replace_0 (k := 0) rfl ?_
  refine jk_iload_n C rd_Row_replace_1 (k := 1) rfl ?_
  obtain ⟨q2, hq2, hf⟩ := jk_bind_h hf
  refine jk_callVi C hZ.1 hz (ct_Row_get l D Z sq hZ cI cR (n_t := n_t) hn_t a_t a_t_k i_t_cells x1 q2 hq2) tm_395 tm_292 tm_293 tm_3 tm_294 na_Row_get ⟨Nat.le_of_ble_eq_true rfl, Nat.le_of_ble_eq_true rfl⟩ rfl [0, 1] rfl rfl rfl (ws' := wd_Row_replace cI n_t a_t a_t_k i_t_cells) rfl 0 0 rfl rfl rfl (st := []) rfl (Nat.le_of_ble_eq_true rfl) rd_Row_replace_2 ?_ ⟨Nat.le_refl _, Nat.le_refl _⟩
  refine jk_istore_n C rd_Row_replace_5 (by decide) (lv' := [(3, jk_V q2), (0, .ref a_t), (1, jk_V x1), (2, jk_V x2)]) rfl ?_
  refine jk_aload_n C rd_Row_replace_6 (k := 1) rfl ?_
  refine jk_iload_n C rd_Row_replace_7 (k := 2) rfl ?_
  refine jk_iload_n C rd_Row_replace_8 (k := 3) rfl ?_
  obtain ⟨q9, hq9, hf⟩ := jk_bind_h hf
  refine jk_callVv C hZ.1 hz (ct_Row_set l D Z sq hZ cI cR (n_t := n_t) hn_t a_t a_t_k i_t_cells x1 x2 q9 hq9) tm_396 tm_257 tm_258 tm_3 tm_259 na_Row_set ⟨Nat.le_of_ble_eq_true rfl, Nat.le_of_ble_eq_true rfl⟩ rfl [0, 1] rfl rfl rfl (ws' := wd_Row_replace cI n_t a_t a_t_k q9) rfl 0 0 rfl rfl rfl (st := []) rfl (Nat.le_of_ble_eq_true rfl) rd_Row_replace_9 ?_ ⟨Nat.le_refl _, Nat.le_refl _⟩
  refine jk_iload_n C rd_Row_replace_12 (k := 0) rfl ?_
  cases hf
  exact jk_iret C rfl rd_Row_replace_13 rfl
def wd_Topics_find (cI : ClassId) (a_t a_t_names a_t_names_k : Nat) (i_t_size : Int) (i_t_names : (Int → Int)) : va_W := [(a_t, .inr (2, [jk_V i_t_size, .ref a_t_names])), (a_t_names, .inr (0, [.ref a_t_names_k])), (a_t_names_k, jk_W cI 8 i_t_names)]
set_option maxHeartbeats 4000000 in
set_option maxRecDepth 20000 in
theorem ct_Topics_find (l : Launch) (D : va_G) (Z : (Nat → Prop) → State → Heap → Prop) (sq : Nat → Nat) (hZ : jk_ZK Z sq) (cI cR : ClassId) (a_t a_t_names a_t_names_k : Nat) (i_t_size : Int) (i_t_names : (Int → Int)) (x1 : Int) (q : Int) (hf : fn_Topics_find i_t_size i_t_names x1 = some q) : jk_MI l D jk_cl (jk_ty cI cR) Z mn_Topics_find (.code mn_Topics_find mb_Topics_find 3 (some .int) :: jk_WA) (jk_rm 1 21) [.ref a_t, jk_V x1] (wd_Topics_find cI a_t a_t_names a_t_names_k i_t_size i_t_names) (wd_Topics_find cI a_t a_t_names a_t_names_k i_t_size i_t_names) q := by
  intro sz
  refine jk_body (by decide +kernel) (fun p e s m args below meth c hsz hz hin C => ?_) (Nat.le_of_ble_eq_true rfl)
  subst hsz
  unfold fn_Topics_find at hf
  have bk_2 : ∀ (n : Nat) (v1 : Int) (v2 : Int), fn_Topics_find_b2 n i_t_size i_t_names v1 v2 = some q → jk_J p l e (jk_rm 1 21) s m args below meth c 0 0 (jk_QI below D jk_cl (jk_ty cI cR) (wd_Topics_find cI a_t a_t_names a_t_names_k i_t_size i_t_names) (wd_Topics_find cI a_t a_t_names a_t_names_k i_t_size i_t_names) args s q) D jk_cl (va_A (wd_Topics_find cI a_t a_t_names a_t_names_k i_t_size i_t_names) s.heap.size) 3 (wd_Topics_find cI a_t a_t_names a_t_names_k i_t_size i_t_names) [(0, .ref a_t), (1, jk_V v1), (2, jk_V v2)] 2 [] := by
    intro n
    induction n with
    | zero => intro v1 v2 hf; exact nomatch (show none = some q from hf)
    | succ n ih =>
      intro v1 v2 hf
      rw [fn_Topics_find_b2] at hf
      refine jk_iload_n C rd_Topics_find_2 (k := 2) rfl ?_
      refine jk_aload_n C rd_Topics_find_3 (k := 0) rfl ?_
      refine jk_get C in_Topics (ci := 2) rfl 0 (by decide) tm_99 0 rfl rfl rd_Topics_find_4 ?_
      refine jk_icmp_ge (tgt := 30) C rd_Topics_find_7 (by decide) hf (fun _ hf => ?_) (fun _ hf => ?_)
      · refine jk_iconst C rd_Topics_find_30 ?_
        cases hf
        exact jk_iret C rfl rd_Topics_find_31 rfl
      · refine jk_aload_n C rd_Topics_find_10 (k := 0) rfl ?_
        refine jk_get C in_Topics (ci := 2) rfl 1 (by decide) tm_102 0 rfl rfl rd_Topics_find_11 ?_
        refine jk_iload_n C rd_Topics_find_14 (k := 2) rfl ?_
        obtain ⟨q15, hq15, hf⟩ := jk_bind_h hf
        refine jk_callVi C hZ.1 hz (ct_Row_get l D Z sq hZ cI cR (n_t := 8) (Nat.le_of_ble_eq_true rfl) a_t_names a_t_names_k i_t_names v2 q15 hq15) tm_320 tm_292 tm_293 tm_3 tm_294 na_Row_get ⟨Nat.le_of_ble_eq_true rfl, Nat.le_of_ble_eq_true rfl⟩ rfl [1, 2] rfl rfl rfl (ws' := wd_Topics_find cI a_t a_t_names a_t_names_k i_t_size i_t_names) rfl 1 0 rfl rfl rfl (st := []) rfl (Nat.le_of_ble_eq_true rfl) rd_Topics_find_15 ?_ ⟨Nat.le_refl _, Nat.le_refl _⟩
        refine jk_iload_n C rd_Topics_find_18 (k := 1) rfl ?_
        refine jk_icmp_ne (tgt := 24) C rd_Topics_find_19 (by decide) hf (fun _ hf => ?_) (fun _ hf => ?_)
        · refine jk_iinc C rd_Topics_find_24 (k := 2) rfl (by decide) (lv' := [(2, jk_V (v2 + 1)), (0, .ref a_t), (1, jk_V v1)]) rfl ?_
          refine jk_goto (tgt := 2) C rd_Topics_find_27 (by decide) ?_
          refine jk_lv (lv' := [(0, .ref a_t), (1, jk_V v1), (2, jk_V (v2 + 1))]) [1, 2, 0] rfl ?_
          exact ih v1 (v2 + 1) hf
        · refine jk_iload_n C rd_Topics_find_22 (k := 2) rfl ?_
          cases hf
          exact jk_iret C rfl rd_Topics_find_23 rfl
  refine jk_iconst C rd_Topics_find_0 ?_
  refine jk_istore_n C rd_Topics_find_1 (by decide) (lv' := [(2, jk_V 0), (0, .ref a_t), (1, jk_V x1)]) rfl ?_
  refine jk_lv (lv' := [(0, .ref a_t), (1, jk_V x1), (2, jk_V 0)]) [1, 2, 0] rfl ?_
  exact bk_2 jk_F x1 0 hf
def wd_Topics_add (cI : ClassId) (a_t a_t_names a_t_names_k : Nat) (i_t_size : Int) (i_t_names : (Int → Int)) : va_W := [(a_t, .inr (2, [jk_V i_t_size, .ref a_t_names])), (a_t_names, .inr (0, [.ref a_t_names_k])), (a_t_names_k, jk_W cI 8 i_t_names)]
set_option maxHeartbeats 4000000 in
set_option maxRecDepth 20000 in
theorem ct_Topics_add (l : Launch) (D : va_G) (Z : (Nat → Prop) → State → Heap → Prop) (sq : Nat → Nat) (hZ : jk_ZK Z sq) (cI cR : ClassId) (a_t a_t_names a_t_names_k : Nat) (i_t_size : Int) (i_t_names : (Int → Int)) (x1 : Int) (q : Int × (Int → Int)) (hf : fn_Topics_add i_t_size i_t_names x1 = some q) : jk_MV l D jk_cl (jk_ty cI cR) Z mn_Topics_add (.code mn_Topics_add mb_Topics_add 2 none :: jk_WA) (jk_rm 1 22) [.ref a_t, jk_V x1] (wd_Topics_add cI a_t a_t_names a_t_names_k i_t_size i_t_names) (wd_Topics_add cI a_t a_t_names a_t_names_k q.1 q.2) := by
  intro sz
  refine jk_body (by decide +kernel) (fun p e s m args below meth c hsz hz hin C => ?_) (Nat.le_of_ble_eq_true rfl)
  subst hsz
  unfold fn_Topics_add at hf
  refine jk_aload_n C rd_Topics_add_0 (k := 0) rfl ?_
  refine jk_get C in_Topics (ci := 2) rfl 0 (by decide) tm_99 0 rfl rfl rd_Topics_add_1 ?_
  refine jk_bipush C rd_Topics_add_4 (by decide +kernel) ?_
  refine jk_icmp_ge (tgt := 31) C rd_Topics_add_6 (by decide) hf (fun _ hf => ?_) (fun _ hf => ?_)
  · cases hf
    exact jk_vret C rfl rd_Topics_add_31 rfl
  · refine jk_aload_n C rd_Topics_add_9 (k := 0) rfl ?_
    refine jk_get C in_Topics (ci := 2) rfl 1 (by decide) tm_102 0 rfl rfl rd_Topics_add_10 ?_
    refine jk_aload_n C rd_Topics_add_13 (k := 0) rfl ?_
    refine jk_get C in_Topics (ci := 2) rfl 0 (by decide) tm_99 0 rfl rfl rd_Topics_add_14 ?_
    refine jk_iload_n C rd_Topics_add_17 (k := 1) rfl ?_
    obtain ⟨q18, hq18, hf⟩ := jk_bind_h hf
    refine jk_callVv C hZ.1 hz (ct_Row_set l D Z sq hZ cI cR (n_t := 8) (Nat.le_of_ble_eq_true rfl) a_t_names a_t_names_k i_t_names i_t_size x1 q18 hq18) tm_325 tm_257 tm_258 tm_3 tm_259 na_Row_set ⟨Nat.le_of_ble_eq_true rfl, Nat.le_of_ble_eq_true rfl⟩ rfl [1, 2] rfl rfl rfl (ws' := wd_Topics_add cI a_t a_t_names a_t_names_k i_t_size q18) rfl 1 0 rfl rfl rfl (st := []) rfl (Nat.le_of_ble_eq_true rfl) rd_Topics_add_18 ?_ ⟨Nat.le_refl _, Nat.le_refl _⟩
    refine jk_aload_n C rd_Topics_add_21 (k := 0) rfl ?_
    refine jk_dup C rd_Topics_add_22 rfl ?_
    refine jk_get C in_Topics (ci := 2) rfl 0 (by decide) tm_99 0 rfl rfl rd_Topics_add_23 ?_
    refine jk_iconst C rd_Topics_add_26 ?_
    refine jk_iadd C rd_Topics_add_27 ?_
    refine jk_putf C in_Topics ty_Topics nm_Topics (ci := 2) rfl 0 (by decide) tm_99 rfl rfl rfl 0 rfl (Nat.le_of_ble_eq_true rfl) rd_Topics_add_28 (ws' := wd_Topics_add cI a_t a_t_names a_t_names_k (i_t_size + 1) q18) rfl ?_
    cases hf
    exact jk_vret C rfl rd_Topics_add_31 rfl
def wd_Topics_clear (cI : ClassId) (a_t a_t_names : Nat) (i_t_size : Int) : va_W := [(a_t, .inr (2, [jk_V i_t_size, .ref a_t_names]))]
set_option maxHeartbeats 4000000 in
set_option maxRecDepth 20000 in
theorem ct_Topics_clear (l : Launch) (D : va_G) (Z : (Nat → Prop) → State → Heap → Prop) (sq : Nat → Nat) (hZ : jk_ZK Z sq) (cI cR : ClassId) (a_t a_t_names : Nat) (i_t_size : Int) (q : Int) (hf : fn_Topics_clear i_t_size = some q) : jk_MV l D jk_cl (jk_ty cI cR) Z mn_Topics_clear (.code mn_Topics_clear mb_Topics_clear 1 none :: jk_WA) (jk_rm 0 0) [.ref a_t] (wd_Topics_clear cI a_t a_t_names i_t_size) (wd_Topics_clear cI a_t a_t_names q) := by
  intro sz
  refine jk_body (by decide +kernel) (fun p e s m args below meth c hsz hz hin C => ?_) (Nat.le_of_ble_eq_true rfl)
  subst hsz
  unfold fn_Topics_clear at hf
  refine jk_aload_n C rd_Topics_clear_0 (k := 0) rfl ?_
  refine jk_iconst C rd_Topics_clear_1 ?_
  refine jk_putf C in_Topics ty_Topics nm_Topics (ci := 2) rfl 0 (by decide) tm_99 rfl rfl rfl 0 rfl (Nat.le_of_ble_eq_true rfl) rd_Topics_clear_2 (ws' := wd_Topics_clear cI a_t a_t_names 0) rfl ?_
  cases hf
  exact jk_vret C rfl rd_Topics_clear_5 rfl
def wd_Topics_copyFrom (cI : ClassId) (a_t a_t_names a_t_names_k a_a a_a_names a_a_names_k : Nat) (i_t_size : Int) (i_t_names : (Int → Int)) (i_a_size : Int) (i_a_names : (Int → Int)) : va_W := [(a_t, .inr (2, [jk_V i_t_size, .ref a_t_names])), (a_t_names, .inr (0, [.ref a_t_names_k])), (a_t_names_k, jk_W cI 8 i_t_names), (a_a, .inr (2, [jk_V i_a_size, .ref a_a_names])), (a_a_names, .inr (0, [.ref a_a_names_k])), (a_a_names_k, jk_W cI 8 i_a_names)]
set_option maxHeartbeats 4000000 in
set_option maxRecDepth 20000 in
theorem ct_Topics_copyFrom (l : Launch) (D : va_G) (Z : (Nat → Prop) → State → Heap → Prop) (sq : Nat → Nat) (hZ : jk_ZK Z sq) (cI cR : ClassId) (a_t a_t_names a_t_names_k a_a a_a_names a_a_names_k : Nat) (i_t_size : Int) (i_t_names : (Int → Int)) (i_a_size : Int) (i_a_names : (Int → Int)) (q : Int × (Int → Int)) (hf : fn_Topics_copyFrom i_t_size i_t_names i_a_size i_a_names = some q) : jk_MV l D jk_cl (jk_ty cI cR) Z mn_Topics_copyFrom (.code mn_Topics_copyFrom mb_Topics_copyFrom 2 none :: jk_WA) (jk_rm 2 43) [.ref a_t, .ref a_a] (wd_Topics_copyFrom cI a_t a_t_names a_t_names_k a_a a_a_names a_a_names_k i_t_size i_t_names i_a_size i_a_names) (wd_Topics_copyFrom cI a_t a_t_names a_t_names_k a_a a_a_names a_a_names_k q.1 q.2 i_a_size i_a_names) := by
  intro sz
  refine jk_body (by decide +kernel) (fun p e s m args below meth c hsz hz hin C => ?_) (Nat.le_of_ble_eq_true rfl)
  subst hsz
  unfold fn_Topics_copyFrom at hf
  refine jk_aload_n C rd_Topics_copyFrom_0 (k := 0) rfl ?_
  refine jk_aload_n C rd_Topics_copyFrom_1 (k := 1) rfl ?_
  refine jk_get C in_Topics (ci := 2) rfl 0 (by decide) tm_99 3 rfl rfl rd_Topics_copyFrom_2 ?_
  refine jk_putf C in_Topics ty_Topics nm_Topics (ci := 2) rfl 0 (by decide) tm_99 rfl rfl rfl 0 rfl (Nat.le_of_ble_eq_true rfl) rd_Topics_copyFrom_5 (ws' := wd_Topics_copyFrom cI a_t a_t_names a_t_names_k a_a a_a_names a_a_names_k i_a_size i_t_names i_a_size i_a_names) rfl ?_
  refine jk_aload_n C rd_Topics_copyFrom_8 (k := 0) rfl ?_
  refine jk_get C in_Topics (ci := 2) rfl 1 (by decide) tm_102 0 rfl rfl rd_Topics_copyFrom_9 ?_
  refine jk_aload_n C rd_Topics_copyFrom_12 (k := 1) rfl ?_
  refine jk_get C in_Topics (ci := 2) rfl 1 (by decide) tm_102 3 rfl rfl rd_Topics_copyFrom_13 ?_
  obtain ⟨q16, hq16, hf⟩ := jk_bind_h hf
  refine jk_callVv C hZ.1 hz (ct_Row_copyFrom l D Z sq hZ cI cR (n_a := 8) (n_t := 8) (Nat.le_of_ble_eq_true rfl) (Nat.le_of_ble_eq_true rfl) a_t_names a_t_names_k a_a_names a_a_names_k i_t_names i_a_names q16 hq16) tm_486 tm_487 tm_488 tm_3 tm_489 na_Row_copyFrom ⟨Nat.le_of_ble_eq_true rfl, Nat.le_of_ble_eq_true rfl⟩ rfl [1, 2, 4, 5] rfl rfl rfl (ws' := wd_Topics_copyFrom cI a_t a_t_names a_t_names_k a_a a_a_names a_a_names_k i_a_size q16 i_a_size i_a_names) rfl 1 0 rfl rfl rfl (st := []) rfl (Nat.le_of_ble_eq_true rfl) rd_Topics_copyFrom_16 ?_ ⟨Nat.le_refl _, Nat.le_refl _⟩
  cases hf
  exact jk_vret C rfl rd_Topics_copyFrom_19 rfl
def wd_Topics_has (cI : ClassId) (a_t a_t_names : Nat) (i_t_size : Int) : va_W := [(a_t, .inr (2, [jk_V i_t_size, .ref a_t_names]))]
set_option maxHeartbeats 4000000 in
set_option maxRecDepth 20000 in
theorem ct_Topics_has (l : Launch) (D : va_G) (Z : (Nat → Prop) → State → Heap → Prop) (sq : Nat → Nat) (hZ : jk_ZK Z sq) (cI cR : ClassId) (a_t a_t_names : Nat) (i_t_size : Int) (x1 : Int) (q : Int) (hf : fn_Topics_has i_t_size x1 = some q) : jk_MI l D jk_cl (jk_ty cI cR) Z mn_Topics_has (.code mn_Topics_has mb_Topics_has 2 (some .boolean) :: jk_WA) (jk_rm 0 0) [.ref a_t, jk_V x1] (wd_Topics_has cI a_t a_t_names i_t_size) (wd_Topics_has cI a_t a_t_names i_t_size) q := by
  intro sz
  refine jk_body (by decide +kernel) (fun p e s m args below meth c hsz hz hin C => ?_) (Nat.le_of_ble_eq_true rfl)
  subst hsz
  unfold fn_Topics_has at hf
  refine jk_iload_n C rd_Topics_has_0 (k := 1) rfl ?_
  refine jk_if_lt (tgt := 16) C rd_Topics_has_1 (by decide) hf (fun _ hf => ?_) (fun _ hf => ?_)
  · refine jk_iconst C rd_Topics_has_16 ?_
    cases hf
    exact jk_zret C (Or.inl rfl) rfl rd_Topics_has_17 rfl
  · refine jk_iload_n C rd_Topics_has_4 (k := 1) rfl ?_
    refine jk_aload_n C rd_Topics_has_5 (k := 0) rfl ?_
    refine jk_get C in_Topics (ci := 2) rfl 0 (by decide) tm_99 0 rfl rfl rd_Topics_has_6 ?_
    refine jk_icmp_ge (tgt := 16) C rd_Topics_has_9 (by decide) hf (fun _ hf => ?_) (fun _ hf => ?_)
    · refine jk_iconst C rd_Topics_has_16 ?_
      cases hf
      exact jk_zret C (Or.inl rfl) rfl rd_Topics_has_17 rfl
    · refine jk_iconst C rd_Topics_has_12 ?_
      refine jk_goto (tgt := 17) C rd_Topics_has_13 (by decide) ?_
      cases hf
      exact jk_zret C (Or.inr rfl) rfl rd_Topics_has_17 rfl
def wd_Topics_letter (cI : ClassId) (a_t a_t_names a_t_names_k : Nat) (i_t_size : Int) (i_t_names : (Int → Int)) : va_W := [(a_t, .inr (2, [jk_V i_t_size, .ref a_t_names])), (a_t_names, .inr (0, [.ref a_t_names_k])), (a_t_names_k, jk_W cI 8 i_t_names)]
set_option maxHeartbeats 4000000 in
set_option maxRecDepth 20000 in
theorem ct_Topics_letter (l : Launch) (D : va_G) (Z : (Nat → Prop) → State → Heap → Prop) (sq : Nat → Nat) (hZ : jk_ZK Z sq) (cI cR : ClassId) (a_t a_t_names a_t_names_k : Nat) (i_t_size : Int) (i_t_names : (Int → Int)) (x1 : Int) (x2 : Int) (q : Int) (hf : fn_Topics_letter i_t_names x1 x2 = some q) : jk_MI l D jk_cl (jk_ty cI cR) Z mn_Topics_letter (.code mn_Topics_letter mb_Topics_letter 4 (some .int) :: jk_WA) (jk_rm 1 21) [.ref a_t, jk_V x1, jk_V x2] (wd_Topics_letter cI a_t a_t_names a_t_names_k i_t_size i_t_names) (wd_Topics_letter cI a_t a_t_names a_t_names_k i_t_size i_t_names) q := by
  intro sz
  refine jk_body (by decide +kernel) (fun p e s m args below meth c hsz hz hin C => ?_) (Nat.le_of_ble_eq_true rfl)
  subst hsz
  unfold fn_Topics_letter at hf
  refine jk_iload_n C rd_Topics_letter_0 (k := 2) rfl ?_
  refine jk_if_lt (tgt := 10) C rd_Topics_letter_1 (by decide) hf (fun _ hf => ?_) (fun _ hf => ?_)
  · refine jk_iconst C rd_Topics_letter_10 ?_
    cases hf
    exact jk_iret C rfl rd_Topics_letter_11 rfl
  · refine jk_iload_n C rd_Topics_letter_4 (k := 2) rfl ?_
    refine jk_bipush C rd_Topics_letter_5 (by decide +kernel) ?_
    refine jk_icmp_lt (tgt := 12) C rd_Topics_letter_7 (by decide) hf (fun _ hf => ?_) (fun _ hf => ?_)
    · refine jk_aload_n C rd_Topics_letter_12 (k := 0) rfl ?_
      refine jk_get C in_Topics (ci := 2) rfl 1 (by decide) tm_102 0 rfl rfl rd_Topics_letter_13 ?_
      refine jk_iload_n C rd_Topics_letter_16 (k := 1) rfl ?_
      obtain ⟨q17, hq17, hf⟩ := jk_bind_h hf
      refine jk_callVi C hZ.1 hz (ct_Row_get l D Z sq hZ cI cR (n_t := 8) (Nat.le_of_ble_eq_true rfl) a_t_names a_t_names_k i_t_names x1 q17 hq17) tm_320 tm_292 tm_293 tm_3 tm_294 na_Row_get ⟨Nat.le_of_ble_eq_true rfl, Nat.le_of_ble_eq_true rfl⟩ rfl [1, 2] rfl rfl rfl (ws' := wd_Topics_letter cI a_t a_t_names a_t_names_k i_t_size i_t_names) rfl 1 0 rfl rfl rfl (st := []) rfl (Nat.le_of_ble_eq_true rfl) rd_Topics_letter_17 ?_ ⟨Nat.le_refl _, Nat.le_refl _⟩
      refine jk_iconst C rd_Topics_letter_20 ?_
      refine jk_iload_n C rd_Topics_letter_21 (k := 2) rfl ?_
      refine jk_imul C rd_Topics_letter_22 ?_
      refine jk_ishr C rd_Topics_letter_23 ?_
      refine jk_bipush C rd_Topics_letter_24 (by decide +kernel) ?_
      refine jk_iand C rd_Topics_letter_26 ?_
      refine jk_istore_n C rd_Topics_letter_27 (by decide) (lv' := [(3, jk_V (jk_and (jk_shr q17 (5 * x2)) 31)), (0, .ref a_t), (1, jk_V x1), (2, jk_V x2)]) rfl ?_
      refine jk_iload_n C rd_Topics_letter_28 (k := 0) rfl ?_
      refine jk_if_ne (tgt := 36) C rd_Topics_letter_29 (by decide) hf (fun _ hf => ?_) (fun _ hf => ?_)
      · refine jk_bipush C rd_Topics_letter_36 (by decide +kernel) ?_
        refine jk_iload_n C rd_Topics_letter_38 (k := 0) rfl ?_
        refine jk_iadd C rd_Topics_letter_39 ?_
        cases hf
        exact jk_iret C rfl rd_Topics_letter_40 rfl
      · refine jk_iconst C rd_Topics_letter_32 ?_
        refine jk_goto (tgt := 40) C rd_Topics_letter_33 (by decide) ?_
        cases hf
        exact jk_iret C rfl rd_Topics_letter_40 rfl
    · refine jk_iconst C rd_Topics_letter_10 ?_
      cases hf
      exact jk_iret C rfl rd_Topics_letter_11 rfl
