theorem rd_Check_sums_0 : decode mb_Check_sums 0 = .ok (.iconst 0, 1) := by decide +kernel
theorem rd_Check_sums_1 : decode mb_Check_sums 1 = .ok (.istore_n 1, 1) := by decide +kernel
theorem rd_Check_sums_2 : decode mb_Check_sums 2 = .ok (.iload_n 1, 1) := by decide +kernel
theorem rd_Check_sums_3 : decode mb_Check_sums 3 = .ok (.aload_n 0, 1) := by decide +kernel
theorem rd_Check_sums_4 : decode mb_Check_sums 4 = .ok (.getfield 9, 3) := by decide +kernel
theorem rd_Check_sums_7 : decode mb_Check_sums 7 = .ok (.if_icmp .ge 32, 3) := by decide +kernel
theorem rd_Check_sums_10 : decode mb_Check_sums 10 = .ok (.aload_n 0, 1) := by decide +kernel
theorem rd_Check_sums_11 : decode mb_Check_sums 11 = .ok (.iload_n 1, 1) := by decide +kernel
theorem rd_Check_sums_12 : decode mb_Check_sums 12 = .ok (.invokevirtual 63, 3) := by decide +kernel
theorem rd_Check_sums_15 : decode mb_Check_sums 15 = .ok (.ifCond .eq 18, 3) := by decide +kernel
theorem rd_Check_sums_18 : decode mb_Check_sums 18 = .ok (.aload_n 0, 1) := by decide +kernel
theorem rd_Check_sums_19 : decode mb_Check_sums 19 = .ok (.iload_n 1, 1) := by decide +kernel
theorem rd_Check_sums_20 : decode mb_Check_sums 20 = .ok (.invokevirtual 67, 3) := by decide +kernel
theorem rd_Check_sums_23 : decode mb_Check_sums 23 = .ok (.aload_n 0, 1) := by decide +kernel
theorem rd_Check_sums_24 : decode mb_Check_sums 24 = .ok (.iload_n 1, 1) := by decide +kernel
theorem rd_Check_sums_25 : decode mb_Check_sums 25 = .ok (.invokestatic 70, 3) := by decide +kernel
theorem rd_Check_sums_28 : decode mb_Check_sums 28 = .ok (.if_icmp .eq 5, 3) := by decide +kernel
theorem rd_Check_sums_31 : decode mb_Check_sums 31 = .ok (.iconst 0, 1) := by decide +kernel
theorem rd_Check_sums_32 : decode mb_Check_sums 32 = .ok (.ireturn, 1) := by decide +kernel
theorem rd_Check_sums_33 : decode mb_Check_sums 33 = .ok (.iinc 1 1, 3) := by decide +kernel
theorem rd_Check_sums_36 : decode mb_Check_sums 36 = .ok (.goto (-34), 3) := by decide +kernel
theorem rd_Check_sums_39 : decode mb_Check_sums 39 = .ok (.iconst 1, 1) := by decide +kernel
theorem rd_Check_sums_40 : decode mb_Check_sums 40 = .ok (.ireturn, 1) := by decide +kernel
theorem rd_Row_copyFrom_0 : decode mb_Row_copyFrom 0 = .ok (.iconst 0, 1) := by decide +kernel
theorem rd_Row_copyFrom_1 : decode mb_Row_copyFrom 1 = .ok (.istore_n 2, 1) := by decide +kernel
theorem rd_Row_copyFrom_2 : decode mb_Row_copyFrom 2 = .ok (.iload_n 2, 1) := by decide +kernel
theorem rd_Row_copyFrom_3 : decode mb_Row_copyFrom 3 = .ok (.aload_n 0, 1) := by decide +kernel
theorem rd_Row_copyFrom_4 : decode mb_Row_copyFrom 4 = .ok (.getfield 7, 3) := by decide +kernel
theorem rd_Row_copyFrom_7 : decode mb_Row_copyFrom 7 = .ok (.arraylength, 1) := by decide +kernel
theorem rd_Row_copyFrom_8 : decode mb_Row_copyFrom 8 = .ok (.if_icmp .ge 20, 3) := by decide +kernel
theorem rd_Row_copyFrom_11 : decode mb_Row_copyFrom 11 = .ok (.aload_n 0, 1) := by decide +kernel
theorem rd_Row_copyFrom_12 : decode mb_Row_copyFrom 12 = .ok (.getfield 7, 3) := by decide +kernel
theorem rd_Row_copyFrom_15 : decode mb_Row_copyFrom 15 = .ok (.iload_n 2, 1) := by decide +kernel
theorem rd_Row_copyFrom_16 : decode mb_Row_copyFrom 16 = .ok (.aload_n 1, 1) := by decide +kernel
theorem rd_Row_copyFrom_17 : decode mb_Row_copyFrom 17 = .ok (.iload_n 2, 1) := by decide +kernel
theorem rd_Row_copyFrom_18 : decode mb_Row_copyFrom 18 = .ok (.invokevirtual 13, 3) := by decide +kernel
theorem rd_Row_copyFrom_21 : decode mb_Row_copyFrom 21 = .ok (.iastore, 1) := by decide +kernel
theorem rd_Row_copyFrom_22 : decode mb_Row_copyFrom 22 = .ok (.iinc 2 1, 3) := by decide +kernel
theorem rd_Row_copyFrom_25 : decode mb_Row_copyFrom 25 = .ok (.goto (-23), 3) := by decide +kernel
theorem rd_Row_copyFrom_28 : decode mb_Row_copyFrom 28 = .ok (.return_, 1) := by decide +kernel
theorem rd_Cords_copyFrom_0 : decode mb_Cords_copyFrom 0 = .ok (.aload_n 0, 1) := by decide +kernel
theorem rd_Cords_copyFrom_1 : decode mb_Cords_copyFrom 1 = .ok (.aload_n 1, 1) := by decide +kernel
theorem rd_Cords_copyFrom_2 : decode mb_Cords_copyFrom 2 = .ok (.getfield 9, 3) := by decide +kernel
theorem rd_Cords_copyFrom_5 : decode mb_Cords_copyFrom 5 = .ok (.putfield 9, 3) := by decide +kernel
theorem rd_Cords_copyFrom_8 : decode mb_Cords_copyFrom 8 = .ok (.aload_n 0, 1) := by decide +kernel
theorem rd_Cords_copyFrom_9 : decode mb_Cords_copyFrom 9 = .ok (.aload_n 1, 1) := by decide +kernel
theorem rd_Cords_copyFrom_10 : decode mb_Cords_copyFrom 10 = .ok (.getfield 15, 3) := by decide +kernel
theorem rd_Cords_copyFrom_13 : decode mb_Cords_copyFrom 13 = .ok (.putfield 15, 3) := by decide +kernel
theorem rd_Cords_copyFrom_16 : decode mb_Cords_copyFrom 16 = .ok (.aload_n 0, 1) := by decide +kernel
theorem rd_Cords_copyFrom_17 : decode mb_Cords_copyFrom 17 = .ok (.getfield 23, 3) := by decide +kernel
theorem rd_Cords_copyFrom_20 : decode mb_Cords_copyFrom 20 = .ok (.aload_n 1, 1) := by decide +kernel
theorem rd_Cords_copyFrom_21 : decode mb_Cords_copyFrom 21 = .ok (.getfield 23, 3) := by decide +kernel
theorem rd_Cords_copyFrom_24 : decode mb_Cords_copyFrom 24 = .ok (.invokevirtual 39, 3) := by decide +kernel
theorem rd_Cords_copyFrom_27 : decode mb_Cords_copyFrom 27 = .ok (.aload_n 0, 1) := by decide +kernel
theorem rd_Cords_copyFrom_28 : decode mb_Cords_copyFrom 28 = .ok (.getfield 27, 3) := by decide +kernel
theorem rd_Cords_copyFrom_31 : decode mb_Cords_copyFrom 31 = .ok (.aload_n 1, 1) := by decide +kernel
theorem rd_Cords_copyFrom_32 : decode mb_Cords_copyFrom 32 = .ok (.getfield 27, 3) := by decide +kernel
theorem rd_Cords_copyFrom_35 : decode mb_Cords_copyFrom 35 = .ok (.invokevirtual 39, 3) := by decide +kernel
theorem rd_Cords_copyFrom_38 : decode mb_Cords_copyFrom 38 = .ok (.aload_n 0, 1) := by decide +kernel
theorem rd_Cords_copyFrom_39 : decode mb_Cords_copyFrom 39 = .ok (.getfield 30, 3) := by decide +kernel
theorem rd_Cords_copyFrom_42 : decode mb_Cords_copyFrom 42 = .ok (.aload_n 1, 1) := by decide +kernel
theorem rd_Cords_copyFrom_43 : decode mb_Cords_copyFrom 43 = .ok (.getfield 30, 3) := by decide +kernel
theorem rd_Cords_copyFrom_46 : decode mb_Cords_copyFrom 46 = .ok (.invokevirtual 39, 3) := by decide +kernel
theorem rd_Cords_copyFrom_49 : decode mb_Cords_copyFrom 49 = .ok (.aload_n 0, 1) := by decide +kernel
theorem rd_Cords_copyFrom_50 : decode mb_Cords_copyFrom 50 = .ok (.getfield 33, 3) := by decide +kernel
theorem rd_Cords_copyFrom_53 : decode mb_Cords_copyFrom 53 = .ok (.aload_n 1, 1) := by decide +kernel
theorem rd_Cords_copyFrom_54 : decode mb_Cords_copyFrom 54 = .ok (.getfield 33, 3) := by decide +kernel
theorem rd_Cords_copyFrom_57 : decode mb_Cords_copyFrom 57 = .ok (.invokevirtual 39, 3) := by decide +kernel
theorem rd_Cords_copyFrom_60 : decode mb_Cords_copyFrom 60 = .ok (.aload_n 0, 1) := by decide +kernel
theorem rd_Cords_copyFrom_61 : decode mb_Cords_copyFrom 61 = .ok (.getfield 36, 3) := by decide +kernel
theorem rd_Cords_copyFrom_64 : decode mb_Cords_copyFrom 64 = .ok (.aload_n 1, 1) := by decide +kernel
theorem rd_Cords_copyFrom_65 : decode mb_Cords_copyFrom 65 = .ok (.getfield 36, 3) := by decide +kernel
theorem rd_Cords_copyFrom_68 : decode mb_Cords_copyFrom 68 = .ok (.invokevirtual 39, 3) := by decide +kernel
theorem rd_Cords_copyFrom_71 : decode mb_Cords_copyFrom 71 = .ok (.return_, 1) := by decide +kernel
theorem rd_Cords_onlyNibbled_0 : decode mb_Cords_onlyNibbled 0 = .ok (.iconst (-1), 1) := by decide +kernel
theorem rd_Cords_onlyNibbled_1 : decode mb_Cords_onlyNibbled 1 = .ok (.istore_n 2, 1) := by decide +kernel
theorem rd_Cords_onlyNibbled_2 : decode mb_Cords_onlyNibbled 2 = .ok (.aload_n 0, 1) := by decide +kernel
theorem rd_Cords_onlyNibbled_3 : decode mb_Cords_onlyNibbled 3 = .ok (.getfield 23, 3) := by decide +kernel
theorem rd_Cords_onlyNibbled_6 : decode mb_Cords_onlyNibbled 6 = .ok (.iload_n 1, 1) := by decide +kernel
theorem rd_Cords_onlyNibbled_7 : decode mb_Cords_onlyNibbled 7 = .ok (.iconst 1, 1) := by decide +kernel
theorem rd_Cords_onlyNibbled_8 : decode mb_Cords_onlyNibbled 8 = .ok (.iadd, 1) := by decide +kernel
theorem rd_Cords_onlyNibbled_9 : decode mb_Cords_onlyNibbled 9 = .ok (.invokevirtual 43, 3) := by decide +kernel
theorem rd_Cords_onlyNibbled_12 : decode mb_Cords_onlyNibbled 12 = .ok (.istore_n 3, 1) := by decide +kernel
theorem rd_Cords_onlyNibbled_13 : decode mb_Cords_onlyNibbled 13 = .ok (.aload_n 0, 1) := by decide +kernel
theorem rd_Cords_onlyNibbled_14 : decode mb_Cords_onlyNibbled 14 = .ok (.getfield 23, 3) := by decide +kernel
theorem rd_Cords_onlyNibbled_17 : decode mb_Cords_onlyNibbled 17 = .ok (.iload_n 1, 1) := by decide +kernel
theorem rd_Cords_onlyNibbled_18 : decode mb_Cords_onlyNibbled 18 = .ok (.invokevirtual 43, 3) := by decide +kernel
theorem rd_Cords_onlyNibbled_21 : decode mb_Cords_onlyNibbled 21 = .ok (.istore 4, 2) := by decide +kernel
theorem rd_Cords_onlyNibbled_23 : decode mb_Cords_onlyNibbled 23 = .ok (.iload 4, 2) := by decide +kernel
theorem rd_Cords_onlyNibbled_25 : decode mb_Cords_onlyNibbled 25 = .ok (.iload_n 3, 1) := by decide +kernel
theorem rd_Cords_onlyNibbled_26 : decode mb_Cords_onlyNibbled 26 = .ok (.if_icmp .ge 31, 3) := by decide +kernel
theorem rd_Cords_onlyNibbled_29 : decode mb_Cords_onlyNibbled 29 = .ok (.aload_n 0, 1) := by decide +kernel
theorem rd_Cords_onlyNibbled_30 : decode mb_Cords_onlyNibbled 30 = .ok (.getfield 36, 3) := by decide +kernel
theorem rd_Cords_onlyNibbled_33 : decode mb_Cords_onlyNibbled 33 = .ok (.iload 4, 2) := by decide +kernel
theorem rd_Cords_onlyNibbled_35 : decode mb_Cords_onlyNibbled 35 = .ok (.invokevirtual 43, 3) := by decide +kernel
theorem rd_Cords_onlyNibbled_38 : decode mb_Cords_onlyNibbled 38 = .ok (.ifCond .le 13, 3) := by decide +kernel
theorem rd_Cords_onlyNibbled_41 : decode mb_Cords_onlyNibbled 41 = .ok (.iload_n 2, 1) := by decide +kernel
theorem rd_Cords_onlyNibbled_42 : decode mb_Cords_onlyNibbled 42 = .ok (.iconst (-1), 1) := by decide +kernel
theorem rd_Cords_onlyNibbled_43 : decode mb_Cords_onlyNibbled 43 = .ok (.if_icmp .eq 5, 3) := by decide +kernel
theorem rd_Cords_onlyNibbled_46 : decode mb_Cords_onlyNibbled 46 = .ok (.iconst (-1), 1) := by decide +kernel
theorem rd_Cords_onlyNibbled_47 : decode mb_Cords_onlyNibbled 47 = .ok (.ireturn, 1) := by decide +kernel
theorem rd_Cords_onlyNibbled_48 : decode mb_Cords_onlyNibbled 48 = .ok (.iload 4, 2) := by decide +kernel
theorem rd_Cords_onlyNibbled_50 : decode mb_Cords_onlyNibbled 50 = .ok (.istore_n 2, 1) := by decide +kernel
theorem rd_Cords_onlyNibbled_51 : decode mb_Cords_onlyNibbled 51 = .ok (.iinc 4 1, 3) := by decide +kernel
theorem rd_Cords_onlyNibbled_54 : decode mb_Cords_onlyNibbled 54 = .ok (.goto (-31), 3) := by decide +kernel
theorem rd_Cords_onlyNibbled_57 : decode mb_Cords_onlyNibbled 57 = .ok (.iload_n 2, 1) := by decide +kernel
theorem rd_Cords_onlyNibbled_58 : decode mb_Cords_onlyNibbled 58 = .ok (.ireturn, 1) := by decide +kernel
theorem rd_Cords_guess_0 : decode mb_Cords_guess 0 = .ok (.aload_n 0, 1) := by decide +kernel
theorem rd_Cords_guess_1 : decode mb_Cords_guess 1 = .ok (.getfield 23, 3) := by decide +kernel
theorem rd_Cords_guess_4 : decode mb_Cords_guess 4 = .ok (.iload_n 1, 1) := by decide +kernel
theorem rd_Cords_guess_5 : decode mb_Cords_guess 5 = .ok (.invokevirtual 43, 3) := by decide +kernel
theorem rd_Cords_guess_8 : decode mb_Cords_guess 8 = .ok (.istore_n 2, 1) := by decide +kernel
theorem rd_Cords_guess_9 : decode mb_Cords_guess 9 = .ok (.aload_n 0, 1) := by decide +kernel
theorem rd_Cords_guess_10 : decode mb_Cords_guess 10 = .ok (.iload_n 1, 1) := by decide +kernel
theorem rd_Cords_guess_11 : decode mb_Cords_guess 11 = .ok (.invokevirtual 79, 3) := by decide +kernel
theorem rd_Cords_guess_14 : decode mb_Cords_guess 14 = .ok (.istore_n 3, 1) := by decide +kernel
theorem rd_Cords_guess_15 : decode mb_Cords_guess 15 = .ok (.aload_n 0, 1) := by decide +kernel
theorem rd_Cords_guess_16 : decode mb_Cords_guess 16 = .ok (.iload_n 2, 1) := by decide +kernel
theorem rd_Cords_guess_17 : decode mb_Cords_guess 17 = .ok (.iconst 1, 1) := by decide +kernel
theorem rd_Cords_guess_18 : decode mb_Cords_guess 18 = .ok (.iadd, 1) := by decide +kernel
theorem rd_Cords_guess_19 : decode mb_Cords_guess 19 = .ok (.aload_n 0, 1) := by decide +kernel
theorem rd_Cords_guess_20 : decode mb_Cords_guess 20 = .ok (.getfield 23, 3) := by decide +kernel
theorem rd_Cords_guess_23 : decode mb_Cords_guess 23 = .ok (.iload_n 1, 1) := by decide +kernel
theorem rd_Cords_guess_24 : decode mb_Cords_guess 24 = .ok (.iconst 1, 1) := by decide +kernel
theorem rd_Cords_guess_25 : decode mb_Cords_guess 25 = .ok (.iadd, 1) := by decide +kernel
theorem rd_Cords_guess_26 : decode mb_Cords_guess 26 = .ok (.invokevirtual 43, 3) := by decide +kernel
theorem rd_Cords_guess_29 : decode mb_Cords_guess 29 = .ok (.invokevirtual 66, 3) := by decide +kernel
theorem rd_Cords_guess_32 : decode mb_Cords_guess 32 = .ok (.istore 4, 2) := by decide +kernel
theorem rd_Cords_guess_34 : decode mb_Cords_guess 34 = .ok (.iload_n 3, 1) := by decide +kernel
theorem rd_Cords_guess_35 : decode mb_Cords_guess 35 = .ok (.iload_n 2, 1) := by decide +kernel
theorem rd_Cords_guess_36 : decode mb_Cords_guess 36 = .ok (.if_icmp .ne 8, 3) := by decide +kernel
theorem rd_Cords_guess_39 : decode mb_Cords_guess 39 = .ok (.iload 4, 2) := by decide +kernel
theorem rd_Cords_guess_41 : decode mb_Cords_guess 41 = .ok (.goto 23, 3) := by decide +kernel
theorem rd_Cords_guess_44 : decode mb_Cords_guess 44 = .ok (.aload_n 0, 1) := by decide +kernel
theorem rd_Cords_guess_45 : decode mb_Cords_guess 45 = .ok (.getfield 33, 3) := by decide +kernel
theorem rd_Cords_guess_48 : decode mb_Cords_guess 48 = .ok (.iload_n 2, 1) := by decide +kernel
theorem rd_Cords_guess_49 : decode mb_Cords_guess 49 = .ok (.invokevirtual 43, 3) := by decide +kernel
theorem rd_Cords_guess_52 : decode mb_Cords_guess 52 = .ok (.iload 4, 2) := by decide +kernel
theorem rd_Cords_guess_54 : decode mb_Cords_guess 54 = .ok (.aload_n 0, 1) := by decide +kernel
theorem rd_Cords_guess_55 : decode mb_Cords_guess 55 = .ok (.getfield 33, 3) := by decide +kernel
theorem rd_Cords_guess_58 : decode mb_Cords_guess 58 = .ok (.iload_n 3, 1) := by decide +kernel
theorem rd_Cords_guess_59 : decode mb_Cords_guess 59 = .ok (.invokevirtual 43, 3) := by decide +kernel
theorem rd_Cords_guess_62 : decode mb_Cords_guess 62 = .ok (.isub, 1) := by decide +kernel
theorem rd_Cords_guess_63 : decode mb_Cords_guess 63 = .ok (.isub, 1) := by decide +kernel
theorem rd_Cords_guess_64 : decode mb_Cords_guess 64 = .ok (.ireturn, 1) := by decide +kernel
theorem rd_Row_set_0 : decode mb_Row_set 0 = .ok (.iload_n 1, 1) := by decide +kernel
theorem rd_Row_set_1 : decode mb_Row_set 1 = .ok (.ifCond .lt 19, 3) := by decide +kernel
theorem rd_Row_set_4 : decode mb_Row_set 4 = .ok (.iload_n 1, 1) := by decide +kernel
theorem rd_Row_set_5 : decode mb_Row_set 5 = .ok (.aload_n 0, 1) := by decide +kernel
theorem rd_Row_set_6 : decode mb_Row_set 6 = .ok (.getfield 7, 3) := by decide +kernel
theorem rd_Row_set_9 : decode mb_Row_set 9 = .ok (.arraylength, 1) := by decide +kernel
theorem rd_Row_set_10 : decode mb_Row_set 10 = .ok (.if_icmp .ge 10, 3) := by decide +kernel
theorem rd_Row_set_13 : decode mb_Row_set 13 = .ok (.aload_n 0, 1) := by decide +kernel
theorem rd_Row_set_14 : decode mb_Row_set 14 = .ok (.getfield 7, 3) := by decide +kernel
theorem rd_Row_set_17 : decode mb_Row_set 17 = .ok (.iload_n 1, 1) := by decide +kernel
theorem rd_Row_set_18 : decode mb_Row_set 18 = .ok (.iload_n 2, 1) := by decide +kernel
theorem rd_Row_set_19 : decode mb_Row_set 19 = .ok (.iastore, 1) := by decide +kernel
theorem rd_Row_set_20 : decode mb_Row_set 20 = .ok (.return_, 1) := by decide +kernel
theorem rd_Cords_mend_0 : decode mb_Cords_mend 0 = .ok (.aload_n 0, 1) := by decide +kernel
theorem rd_Cords_mend_1 : decode mb_Cords_mend 1 = .ok (.iload_n 1, 1) := by decide +kernel
theorem rd_Cords_mend_2 : decode mb_Cords_mend 2 = .ok (.invokevirtual 82, 3) := by decide +kernel
theorem rd_Cords_mend_5 : decode mb_Cords_mend 5 = .ok (.istore_n 2, 1) := by decide +kernel
theorem rd_Cords_mend_6 : decode mb_Cords_mend 6 = .ok (.aload_n 0, 1) := by decide +kernel
theorem rd_Cords_mend_7 : decode mb_Cords_mend 7 = .ok (.iload_n 1, 1) := by decide +kernel
theorem rd_Cords_mend_8 : decode mb_Cords_mend 8 = .ok (.invokevirtual 79, 3) := by decide +kernel
theorem rd_Cords_mend_11 : decode mb_Cords_mend 11 = .ok (.istore_n 3, 1) := by decide +kernel
theorem rd_Cords_mend_12 : decode mb_Cords_mend 12 = .ok (.aload_n 0, 1) := by decide +kernel
theorem rd_Cords_mend_13 : decode mb_Cords_mend 13 = .ok (.getfield 33, 3) := by decide +kernel
theorem rd_Cords_mend_16 : decode mb_Cords_mend 16 = .ok (.iload_n 3, 1) := by decide +kernel
theorem rd_Cords_mend_17 : decode mb_Cords_mend 17 = .ok (.iload_n 2, 1) := by decide +kernel
theorem rd_Cords_mend_18 : decode mb_Cords_mend 18 = .ok (.invokevirtual 95, 3) := by decide +kernel
theorem rd_Cords_mend_21 : decode mb_Cords_mend 21 = .ok (.aload_n 0, 1) := by decide +kernel
theorem rd_Cords_mend_22 : decode mb_Cords_mend 22 = .ok (.getfield 36, 3) := by decide +kernel
theorem rd_Cords_mend_25 : decode mb_Cords_mend 25 = .ok (.iload_n 3, 1) := by decide +kernel
theorem rd_Cords_mend_26 : decode mb_Cords_mend 26 = .ok (.iconst 0, 1) := by decide +kernel
theorem rd_Cords_mend_27 : decode mb_Cords_mend 27 = .ok (.invokevirtual 95, 3) := by decide +kernel
theorem rd_Cords_mend_30 : decode mb_Cords_mend 30 = .ok (.iload_n 2, 1) := by decide +kernel
theorem rd_Cords_mend_31 : decode mb_Cords_mend 31 = .ok (.ireturn, 1) := by decide +kernel
theorem rd_KR_isValue_0 : decode mb_KR_isValue 0 = .ok (.iload_n 0, 1) := by decide +kernel
theorem rd_KR_isValue_1 : decode mb_KR_isValue 1 = .ok (.ifCond .lt 14, 3) := by decide +kernel
theorem rd_KR_isValue_4 : decode mb_KR_isValue 4 = .ok (.iload_n 0, 1) := by decide +kernel
theorem rd_KR_isValue_5 : decode mb_KR_isValue 5 = .ok (.sipush 9999, 3) := by decide +kernel
theorem rd_KR_isValue_8 : decode mb_KR_isValue 8 = .ok (.if_icmp .gt 7, 3) := by decide +kernel
theorem rd_KR_isValue_11 : decode mb_KR_isValue 11 = .ok (.iconst 1, 1) := by decide +kernel
theorem rd_KR_isValue_12 : decode mb_KR_isValue 12 = .ok (.goto 4, 3) := by decide +kernel
theorem rd_KR_isValue_15 : decode mb_KR_isValue 15 = .ok (.iconst 0, 1) := by decide +kernel
theorem rd_KR_isValue_16 : decode mb_KR_isValue 16 = .ok (.ireturn, 1) := by decide +kernel
theorem rd_Knots_withoutLast_0 : decode mb_Knots_withoutLast 0 = .ok (.iload_n 0, 1) := by decide +kernel
theorem rd_Knots_withoutLast_1 : decode mb_Knots_withoutLast 1 = .ok (.istore_n 2, 1) := by decide +kernel
theorem rd_Knots_withoutLast_2 : decode mb_Knots_withoutLast 2 = .ok (.iconst 0, 1) := by decide +kernel
theorem rd_Knots_withoutLast_3 : decode mb_Knots_withoutLast 3 = .ok (.istore_n 3, 1) := by decide +kernel
theorem rd_Knots_withoutLast_4 : decode mb_Knots_withoutLast 4 = .ok (.iload_n 3, 1) := by decide +kernel
theorem rd_Knots_withoutLast_5 : decode mb_Knots_withoutLast 5 = .ok (.iload_n 1, 1) := by decide +kernel
theorem rd_Knots_withoutLast_6 : decode mb_Knots_withoutLast 6 = .ok (.if_icmp .ge 14, 3) := by decide +kernel
theorem rd_Knots_withoutLast_9 : decode mb_Knots_withoutLast 9 = .ok (.iload_n 2, 1) := by decide +kernel
theorem rd_Knots_withoutLast_10 : decode mb_Knots_withoutLast 10 = .ok (.bipush 10, 2) := by decide +kernel
theorem rd_Knots_withoutLast_12 : decode mb_Knots_withoutLast 12 = .ok (.idiv, 1) := by decide +kernel
theorem rd_Knots_withoutLast_13 : decode mb_Knots_withoutLast 13 = .ok (.istore_n 2, 1) := by decide +kernel
theorem rd_Knots_withoutLast_14 : decode mb_Knots_withoutLast 14 = .ok (.iinc 3 1, 3) := by decide +kernel
theorem rd_Knots_withoutLast_17 : decode mb_Knots_withoutLast 17 = .ok (.goto (-13), 3) := by decide +kernel
theorem rd_Knots_withoutLast_20 : decode mb_Knots_withoutLast 20 = .ok (.iload_n 2, 1) := by decide +kernel
theorem rd_Knots_withoutLast_21 : decode mb_Knots_withoutLast 21 = .ok (.ireturn, 1) := by decide +kernel
theorem rd_Knots_lose_0 : decode mb_Knots_lose 0 = .ok (.iload_n 0, 1) := by decide +kernel
theorem rd_Knots_lose_1 : decode mb_Knots_lose 1 = .ok (.iload_n 1, 1) := by decide +kernel
theorem rd_Knots_lose_2 : decode mb_Knots_lose 2 = .ok (.invokestatic 9, 3) := by decide +kernel
theorem rd_Knots_lose_5 : decode mb_Knots_lose 5 = .ok (.iload_n 1, 1) := by decide +kernel
theorem rd_Knots_lose_6 : decode mb_Knots_lose 6 = .ok (.invokestatic 18, 3) := by decide +kernel
theorem rd_Knots_lose_9 : decode mb_Knots_lose 9 = .ok (.imul, 1) := by decide +kernel
theorem rd_Knots_lose_10 : decode mb_Knots_lose 10 = .ok (.ireturn, 1) := by decide +kernel
theorem rd_Cords_fits_0 : decode mb_Cords_fits 0 = .ok (.iload_n 2, 1) := by decide +kernel
theorem rd_Cords_fits_1 : decode mb_Cords_fits 1 = .ok (.invokestatic 89, 3) := by decide +kernel
theorem rd_Cords_fits_4 : decode mb_Cords_fits 4 = .ok (.ifCond .eq 30, 3) := by decide +kernel
theorem rd_Cords_fits_7 : decode mb_Cords_fits 7 = .ok (.iload_n 2, 1) := by decide +kernel
theorem rd_Cords_fits_8 : decode mb_Cords_fits 8 = .ok (.aload_n 0, 1) := by decide +kernel
theorem rd_Cords_fits_9 : decode mb_Cords_fits 9 = .ok (.getfield 36, 3) := by decide +kernel
theorem rd_Cords_fits_12 : decode mb_Cords_fits 12 = .ok (.iload_n 1, 1) := by decide +kernel
theorem rd_Cords_fits_13 : decode mb_Cords_fits 13 = .ok (.invokevirtual 43, 3) := by decide +kernel
theorem rd_Cords_fits_16 : decode mb_Cords_fits 16 = .ok (.invokestatic 92, 3) := by decide +kernel
theorem rd_Cords_fits_19 : decode mb_Cords_fits 19 = .ok (.aload_n 0, 1) := by decide +kernel
theorem rd_Cords_fits_20 : decode mb_Cords_fits 20 = .ok (.getfield 33, 3) := by decide +kernel
theorem rd_Cords_fits_23 : decode mb_Cords_fits 23 = .ok (.iload_n 1, 1) := by decide +kernel
theorem rd_Cords_fits_24 : decode mb_Cords_fits 24 = .ok (.invokevirtual 43, 3) := by decide +kernel
theorem rd_Cords_fits_27 : decode mb_Cords_fits 27 = .ok (.if_icmp .ne 7, 3) := by decide +kernel
theorem rd_Cords_fits_30 : decode mb_Cords_fits 30 = .ok (.iconst 1, 1) := by decide +kernel
theorem rd_Cords_fits_31 : decode mb_Cords_fits 31 = .ok (.goto 4, 3) := by decide +kernel
theorem rd_Cords_fits_34 : decode mb_Cords_fits 34 = .ok (.iconst 0, 1) := by decide +kernel
theorem rd_Cords_fits_35 : decode mb_Cords_fits 35 = .ok (.ireturn, 1) := by decide +kernel
theorem rd_Cords_hasTop_0 : decode mb_Cords_hasTop 0 = .ok (.aload_n 0, 1) := by decide +kernel
theorem rd_Cords_hasTop_1 : decode mb_Cords_hasTop 1 = .ok (.iload_n 1, 1) := by decide +kernel
theorem rd_Cords_hasTop_2 : decode mb_Cords_hasTop 2 = .ok (.invokevirtual 47, 3) := by decide +kernel
theorem rd_Cords_hasTop_5 : decode mb_Cords_hasTop 5 = .ok (.aload_n 0, 1) := by decide +kernel
theorem rd_Cords_hasTop_6 : decode mb_Cords_hasTop 6 = .ok (.getfield 23, 3) := by decide +kernel
theorem rd_Cords_hasTop_9 : decode mb_Cords_hasTop 9 = .ok (.iload_n 1, 1) := by decide +kernel
theorem rd_Cords_hasTop_10 : decode mb_Cords_hasTop 10 = .ok (.invokevirtual 43, 3) := by decide +kernel
theorem rd_Cords_hasTop_13 : decode mb_Cords_hasTop 13 = .ok (.if_icmp .le 7, 3) := by decide +kernel
theorem rd_Cords_hasTop_16 : decode mb_Cords_hasTop 16 = .ok (.iconst 1, 1) := by decide +kernel
theorem rd_Cords_hasTop_17 : decode mb_Cords_hasTop 17 = .ok (.goto 4, 3) := by decide +kernel
theorem rd_Cords_hasTop_20 : decode mb_Cords_hasTop 20 = .ok (.iconst 0, 1) := by decide +kernel
theorem rd_Cords_hasTop_21 : decode mb_Cords_hasTop 21 = .ok (.ireturn, 1) := by decide +kernel
theorem rd_Cords_obstacle_0 : decode mb_Cords_obstacle 0 = .ok (.aload_n 0, 1) := by decide +kernel
theorem rd_Cords_obstacle_1 : decode mb_Cords_obstacle 1 = .ok (.iload_n 1, 1) := by decide +kernel
theorem rd_Cords_obstacle_2 : decode mb_Cords_obstacle 2 = .ok (.invokevirtual 69, 3) := by decide +kernel
theorem rd_Cords_obstacle_5 : decode mb_Cords_obstacle 5 = .ok (.ifCond .ne 5, 3) := by decide +kernel
theorem rd_Cords_obstacle_8 : decode mb_Cords_obstacle 8 = .ok (.iconst 1, 1) := by decide +kernel
theorem rd_Cords_obstacle_9 : decode mb_Cords_obstacle 9 = .ok (.ireturn, 1) := by decide +kernel
theorem rd_Cords_obstacle_10 : decode mb_Cords_obstacle 10 = .ok (.aload_n 0, 1) := by decide +kernel
theorem rd_Cords_obstacle_11 : decode mb_Cords_obstacle 11 = .ok (.aload_n 0, 1) := by decide +kernel
theorem rd_Cords_obstacle_12 : decode mb_Cords_obstacle 12 = .ok (.iload_n 1, 1) := by decide +kernel
theorem rd_Cords_obstacle_13 : decode mb_Cords_obstacle 13 = .ok (.invokevirtual 73, 3) := by decide +kernel
theorem rd_Cords_obstacle_16 : decode mb_Cords_obstacle 16 = .ok (.aload_n 0, 1) := by decide +kernel
theorem rd_Cords_obstacle_17 : decode mb_Cords_obstacle 17 = .ok (.iload_n 1, 1) := by decide +kernel
theorem rd_Cords_obstacle_18 : decode mb_Cords_obstacle 18 = .ok (.invokevirtual 59, 3) := by decide +kernel
theorem rd_Cords_obstacle_21 : decode mb_Cords_obstacle 21 = .ok (.invokevirtual 62, 3) := by decide +kernel
theorem rd_Cords_obstacle_24 : decode mb_Cords_obstacle 24 = .ok (.istore_n 2, 1) := by decide +kernel
theorem rd_Cords_obstacle_25 : decode mb_Cords_obstacle 25 = .ok (.iload_n 2, 1) := by decide +kernel
theorem rd_Cords_obstacle_26 : decode mb_Cords_obstacle 26 = .ok (.ifCond .ne 5, 3) := by decide +kernel
theorem rd_Cords_obstacle_29 : decode mb_Cords_obstacle 29 = .ok (.iconst 2, 1) := by decide +kernel
theorem rd_Cords_obstacle_30 : decode mb_Cords_obstacle 30 = .ok (.ireturn, 1) := by decide +kernel
theorem rd_Cords_obstacle_31 : decode mb_Cords_obstacle 31 = .ok (.iload_n 2, 1) := by decide +kernel
theorem rd_Cords_obstacle_32 : decode mb_Cords_obstacle 32 = .ok (.iconst 1, 1) := by decide +kernel
theorem rd_Cords_obstacle_33 : decode mb_Cords_obstacle 33 = .ok (.if_icmp .le 5, 3) := by decide +kernel
theorem rd_Cords_obstacle_36 : decode mb_Cords_obstacle 36 = .ok (.iconst 3, 1) := by decide +kernel
theorem rd_Cords_obstacle_37 : decode mb_Cords_obstacle 37 = .ok (.ireturn, 1) := by decide +kernel
theorem rd_Cords_obstacle_38 : decode mb_Cords_obstacle 38 = .ok (.aload_n 0, 1) := by decide +kernel
theorem rd_Cords_obstacle_39 : decode mb_Cords_obstacle 39 = .ok (.aload_n 0, 1) := by decide +kernel
theorem rd_Cords_obstacle_40 : decode mb_Cords_obstacle 40 = .ok (.iload_n 1, 1) := by decide +kernel
theorem rd_Cords_obstacle_41 : decode mb_Cords_obstacle 41 = .ok (.invokevirtual 79, 3) := by decide +kernel
theorem rd_Cords_obstacle_44 : decode mb_Cords_obstacle 44 = .ok (.aload_n 0, 1) := by decide +kernel
theorem rd_Cords_obstacle_45 : decode mb_Cords_obstacle 45 = .ok (.iload_n 1, 1) := by decide +kernel
theorem rd_Cords_obstacle_46 : decode mb_Cords_obstacle 46 = .ok (.invokevirtual 82, 3) := by decide +kernel
theorem rd_Cords_obstacle_49 : decode mb_Cords_obstacle 49 = .ok (.invokevirtual 85, 3) := by decide +kernel
theorem rd_Cords_obstacle_52 : decode mb_Cords_obstacle 52 = .ok (.ifCond .eq 7, 3) := by decide +kernel
theorem rd_Cords_obstacle_55 : decode mb_Cords_obstacle 55 = .ok (.iconst 0, 1) := by decide +kernel
theorem rd_Cords_obstacle_56 : decode mb_Cords_obstacle 56 = .ok (.goto 4, 3) := by decide +kernel
theorem rd_Cords_obstacle_59 : decode mb_Cords_obstacle 59 = .ok (.iconst 4, 1) := by decide +kernel
theorem rd_Cords_obstacle_60 : decode mb_Cords_obstacle 60 = .ok (.ireturn, 1) := by decide +kernel
theorem rd_Cords_state_0 : decode mb_Cords_state 0 = .ok (.aload_n 0, 1) := by decide +kernel
theorem rd_Cords_state_1 : decode mb_Cords_state 1 = .ok (.iload_n 1, 1) := by decide +kernel
theorem rd_Cords_state_2 : decode mb_Cords_state 2 = .ok (.invokevirtual 69, 3) := by decide +kernel
theorem rd_Cords_state_5 : decode mb_Cords_state 5 = .ok (.ifCond .ne 5, 3) := by decide +kernel
theorem rd_Cords_state_8 : decode mb_Cords_state 8 = .ok (.iconst 0, 1) := by decide +kernel
theorem rd_Cords_state_9 : decode mb_Cords_state 9 = .ok (.ireturn, 1) := by decide +kernel
theorem rd_Cords_state_10 : decode mb_Cords_state 10 = .ok (.aload_n 0, 1) := by decide +kernel
theorem rd_Cords_state_11 : decode mb_Cords_state 11 = .ok (.iload_n 1, 1) := by decide +kernel
theorem rd_Cords_state_12 : decode mb_Cords_state 12 = .ok (.invokevirtual 73, 3) := by decide +kernel
theorem rd_Cords_state_15 : decode mb_Cords_state 15 = .ok (.istore_n 2, 1) := by decide +kernel
theorem rd_Cords_state_16 : decode mb_Cords_state 16 = .ok (.aload_n 0, 1) := by decide +kernel
theorem rd_Cords_state_17 : decode mb_Cords_state 17 = .ok (.iload_n 2, 1) := by decide +kernel
theorem rd_Cords_state_18 : decode mb_Cords_state 18 = .ok (.aload_n 0, 1) := by decide +kernel
theorem rd_Cords_state_19 : decode mb_Cords_state 19 = .ok (.iload_n 1, 1) := by decide +kernel
theorem rd_Cords_state_20 : decode mb_Cords_state 20 = .ok (.invokevirtual 59, 3) := by decide +kernel
theorem rd_Cords_state_23 : decode mb_Cords_state 23 = .ok (.invokevirtual 62, 3) := by decide +kernel
theorem rd_Cords_state_26 : decode mb_Cords_state 26 = .ok (.ifCond .le 5, 3) := by decide +kernel
theorem rd_Cords_state_29 : decode mb_Cords_state 29 = .ok (.iconst 1, 1) := by decide +kernel
theorem rd_Cords_state_30 : decode mb_Cords_state 30 = .ok (.ireturn, 1) := by decide +kernel
theorem rd_Cords_state_31 : decode mb_Cords_state 31 = .ok (.aload_n 0, 1) := by decide +kernel
theorem rd_Cords_state_32 : decode mb_Cords_state 32 = .ok (.getfield 33, 3) := by decide +kernel
theorem rd_Cords_state_35 : decode mb_Cords_state 35 = .ok (.iload_n 2, 1) := by decide +kernel
theorem rd_Cords_state_36 : decode mb_Cords_state 36 = .ok (.invokevirtual 43, 3) := by decide +kernel
theorem rd_Cords_state_39 : decode mb_Cords_state 39 = .ok (.aload_n 0, 1) := by decide +kernel
theorem rd_Cords_state_40 : decode mb_Cords_state 40 = .ok (.iload_n 1, 1) := by decide +kernel
theorem rd_Cords_state_41 : decode mb_Cords_state 41 = .ok (.invokevirtual 76, 3) := by decide +kernel
theorem rd_Cords_state_44 : decode mb_Cords_state 44 = .ok (.if_icmp .ne 7, 3) := by decide +kernel
theorem rd_Cords_state_47 : decode mb_Cords_state 47 = .ok (.iconst 2, 1) := by decide +kernel
theorem rd_Cords_state_48 : decode mb_Cords_state 48 = .ok (.goto 4, 3) := by decide +kernel
theorem rd_Cords_state_51 : decode mb_Cords_state 51 = .ok (.iconst 3, 1) := by decide +kernel
theorem rd_Cords_state_52 : decode mb_Cords_state 52 = .ok (.ireturn, 1) := by decide +kernel
theorem rd_Check_guesses_0 : decode mb_Check_guesses 0 = .ok (.iconst 0, 1) := by decide +kernel
theorem rd_Check_guesses_1 : decode mb_Check_guesses 1 = .ok (.istore_n 2, 1) := by decide +kernel
theorem rd_Check_guesses_2 : decode mb_Check_guesses 2 = .ok (.iload_n 2, 1) := by decide +kernel
theorem rd_Check_guesses_3 : decode mb_Check_guesses 3 = .ok (.aload_n 0, 1) := by decide +kernel
theorem rd_Check_guesses_4 : decode mb_Check_guesses 4 = .ok (.getfield 9, 3) := by decide +kernel
theorem rd_Check_guesses_7 : decode mb_Check_guesses 7 = .ok (.if_icmp .ge 39, 3) := by decide +kernel
theorem rd_Check_guesses_10 : decode mb_Check_guesses 10 = .ok (.aload_n 0, 1) := by decide +kernel
theorem rd_Check_guesses_11 : decode mb_Check_guesses 11 = .ok (.iload_n 2, 1) := by decide +kernel
theorem rd_Check_guesses_12 : decode mb_Check_guesses 12 = .ok (.invokevirtual 74, 3) := by decide +kernel
theorem rd_Check_guesses_15 : decode mb_Check_guesses 15 = .ok (.ifCond .ne 25, 3) := by decide +kernel
theorem rd_Check_guesses_18 : decode mb_Check_guesses 18 = .ok (.aload_n 1, 1) := by decide +kernel
theorem rd_Check_guesses_19 : decode mb_Check_guesses 19 = .ok (.aload_n 0, 1) := by decide +kernel
theorem rd_Check_guesses_20 : decode mb_Check_guesses 20 = .ok (.invokevirtual 77, 3) := by decide +kernel
theorem rd_Check_guesses_23 : decode mb_Check_guesses 23 = .ok (.aload_n 1, 1) := by decide +kernel
theorem rd_Check_guesses_24 : decode mb_Check_guesses 24 = .ok (.iload_n 2, 1) := by decide +kernel
theorem rd_Check_guesses_25 : decode mb_Check_guesses 25 = .ok (.invokevirtual 81, 3) := by decide +kernel
theorem rd_Check_guesses_28 : decode mb_Check_guesses 28 = .ok (.pop, 1) := by decide +kernel
theorem rd_Check_guesses_29 : decode mb_Check_guesses 29 = .ok (.aload_n 1, 1) := by decide +kernel
theorem rd_Check_guesses_30 : decode mb_Check_guesses 30 = .ok (.iload_n 2, 1) := by decide +kernel
theorem rd_Check_guesses_31 : decode mb_Check_guesses 31 = .ok (.invokevirtual 84, 3) := by decide +kernel
theorem rd_Check_guesses_34 : decode mb_Check_guesses 34 = .ok (.iconst 2, 1) := by decide +kernel
theorem rd_Check_guesses_35 : decode mb_Check_guesses 35 = .ok (.if_icmp .eq 5, 3) := by decide +kernel
theorem rd_Check_guesses_38 : decode mb_Check_guesses 38 = .ok (.iconst 0, 1) := by decide +kernel
theorem rd_Check_guesses_39 : decode mb_Check_guesses 39 = .ok (.ireturn, 1) := by decide +kernel
theorem rd_Check_guesses_40 : decode mb_Check_guesses 40 = .ok (.iinc 2 1, 3) := by decide +kernel
theorem rd_Check_guesses_43 : decode mb_Check_guesses 43 = .ok (.goto (-41), 3) := by decide +kernel
theorem rd_Check_guesses_46 : decode mb_Check_guesses 46 = .ok (.iconst 1, 1) := by decide +kernel
theorem rd_Check_guesses_47 : decode mb_Check_guesses 47 = .ok (.ireturn, 1) := by decide +kernel
theorem rd_Cords_clear_0 : decode mb_Cords_clear 0 = .ok (.aload_n 0, 1) := by decide +kernel
theorem rd_Cords_clear_1 : decode mb_Cords_clear 1 = .ok (.iconst 0, 1) := by decide +kernel
theorem rd_Cords_clear_2 : decode mb_Cords_clear 2 = .ok (.putfield 9, 3) := by decide +kernel
theorem rd_Cords_clear_5 : decode mb_Cords_clear 5 = .ok (.aload_n 0, 1) := by decide +kernel
theorem rd_Cords_clear_6 : decode mb_Cords_clear 6 = .ok (.iconst 0, 1) := by decide +kernel
theorem rd_Cords_clear_7 : decode mb_Cords_clear 7 = .ok (.putfield 15, 3) := by decide +kernel
theorem rd_Cords_clear_10 : decode mb_Cords_clear 10 = .ok (.return_, 1) := by decide +kernel
theorem rd_Cords_has_0 : decode mb_Cords_has 0 = .ok (.iload_n 1, 1) := by decide +kernel
theorem rd_Cords_has_1 : decode mb_Cords_has 1 = .ok (.ifCond .lt 15, 3) := by decide +kernel
theorem rd_Cords_has_4 : decode mb_Cords_has 4 = .ok (.iload_n 1, 1) := by decide +kernel
theorem rd_Cords_has_5 : decode mb_Cords_has 5 = .ok (.aload_n 0, 1) := by decide +kernel
theorem rd_Cords_has_6 : decode mb_Cords_has 6 = .ok (.getfield 15, 3) := by decide +kernel
theorem rd_Cords_has_9 : decode mb_Cords_has 9 = .ok (.if_icmp .ge 7, 3) := by decide +kernel
theorem rd_Cords_has_12 : decode mb_Cords_has 12 = .ok (.iconst 1, 1) := by decide +kernel
theorem rd_Cords_has_13 : decode mb_Cords_has 13 = .ok (.goto 4, 3) := by decide +kernel
theorem rd_Cords_has_16 : decode mb_Cords_has 16 = .ok (.iconst 0, 1) := by decide +kernel
theorem rd_Cords_has_17 : decode mb_Cords_has 17 = .ok (.ireturn, 1) := by decide +kernel
theorem rd_Cords_hasCluster_0 : decode mb_Cords_hasCluster 0 = .ok (.iload_n 1, 1) := by decide +kernel
theorem rd_Cords_hasCluster_1 : decode mb_Cords_hasCluster 1 = .ok (.ifCond .lt 15, 3) := by decide +kernel
theorem rd_Cords_hasCluster_4 : decode mb_Cords_hasCluster 4 = .ok (.iload_n 1, 1) := by decide +kernel
theorem rd_Cords_hasCluster_5 : decode mb_Cords_hasCluster 5 = .ok (.aload_n 0, 1) := by decide +kernel
theorem rd_Cords_hasCluster_6 : decode mb_Cords_hasCluster 6 = .ok (.getfield 9, 3) := by decide +kernel
theorem rd_Cords_hasCluster_9 : decode mb_Cords_hasCluster 9 = .ok (.if_icmp .ge 7, 3) := by decide +kernel
theorem rd_Cords_hasCluster_12 : decode mb_Cords_hasCluster 12 = .ok (.iconst 1, 1) := by decide +kernel
theorem rd_Cords_hasCluster_13 : decode mb_Cords_hasCluster 13 = .ok (.goto 4, 3) := by decide +kernel
theorem rd_Cords_hasCluster_16 : decode mb_Cords_hasCluster 16 = .ok (.iconst 0, 1) := by decide +kernel
theorem rd_Cords_hasCluster_17 : decode mb_Cords_hasCluster 17 = .ok (.ireturn, 1) := by decide +kernel
theorem rd_Cords_canHoldMore_0 : decode mb_Cords_canHoldMore 0 = .ok (.aload_n 0, 1) := by decide +kernel
theorem rd_Cords_canHoldMore_1 : decode mb_Cords_canHoldMore 1 = .ok (.getfield 27, 3) := by decide +kernel
theorem rd_Cords_canHoldMore_4 : decode mb_Cords_canHoldMore 4 = .ok (.iload_n 1, 1) := by decide +kernel
theorem rd_Cords_canHoldMore_5 : decode mb_Cords_canHoldMore 5 = .ok (.invokevirtual 43, 3) := by decide +kernel
theorem rd_Cords_canHoldMore_8 : decode mb_Cords_canHoldMore 8 = .ok (.iconst 1, 1) := by decide +kernel
theorem rd_Cords_canHoldMore_9 : decode mb_Cords_canHoldMore 9 = .ok (.if_icmp .lt 19, 3) := by decide +kernel
theorem rd_Cords_canHoldMore_12 : decode mb_Cords_canHoldMore 12 = .ok (.aload_n 0, 1) := by decide +kernel
theorem rd_Cords_canHoldMore_13 : decode mb_Cords_canHoldMore 13 = .ok (.getfield 27, 3) := by decide +kernel
theorem rd_Cords_canHoldMore_16 : decode mb_Cords_canHoldMore 16 = .ok (.iload_n 1, 1) := by decide +kernel
theorem rd_Cords_canHoldMore_17 : decode mb_Cords_canHoldMore 17 = .ok (.invokevirtual 43, 3) := by decide +kernel
theorem rd_Cords_canHoldMore_20 : decode mb_Cords_canHoldMore 20 = .ok (.iconst 3, 1) := by decide +kernel
theorem rd_Cords_canHoldMore_21 : decode mb_Cords_canHoldMore 21 = .ok (.if_icmp .ge 7, 3) := by decide +kernel
theorem rd_Cords_canHoldMore_24 : decode mb_Cords_canHoldMore 24 = .ok (.iconst 1, 1) := by decide +kernel
theorem rd_Cords_canHoldMore_25 : decode mb_Cords_canHoldMore 25 = .ok (.goto 4, 3) := by decide +kernel
theorem rd_Cords_canHoldMore_28 : decode mb_Cords_canHoldMore 28 = .ok (.iconst 0, 1) := by decide +kernel
theorem rd_Cords_canHoldMore_29 : decode mb_Cords_canHoldMore 29 = .ok (.ireturn, 1) := by decide +kernel
theorem rd_Cords_latestAtDepth_0 : decode mb_Cords_latestAtDepth 0 = .ok (.iload_n 2, 1) := by decide +kernel
theorem rd_Cords_latestAtDepth_1 : decode mb_Cords_latestAtDepth 1 = .ok (.iconst 1, 1) := by decide +kernel
theorem rd_Cords_latestAtDepth_2 : decode mb_Cords_latestAtDepth 2 = .ok (.isub, 1) := by decide +kernel
theorem rd_Cords_latestAtDepth_3 : decode mb_Cords_latestAtDepth 3 = .ok (.istore 4, 2) := by decide +kernel
theorem rd_Cords_latestAtDepth_5 : decode mb_Cords_latestAtDepth 5 = .ok (.iload 4, 2) := by decide +kernel
theorem rd_Cords_latestAtDepth_7 : decode mb_Cords_latestAtDepth 7 = .ok (.iload_n 1, 1) := by decide +kernel
theorem rd_Cords_latestAtDepth_8 : decode mb_Cords_latestAtDepth 8 = .ok (.if_icmp .lt 25, 3) := by decide +kernel
theorem rd_Cords_latestAtDepth_11 : decode mb_Cords_latestAtDepth 11 = .ok (.aload_n 0, 1) := by decide +kernel
theorem rd_Cords_latestAtDepth_12 : decode mb_Cords_latestAtDepth 12 = .ok (.getfield 27, 3) := by decide +kernel
theorem rd_Cords_latestAtDepth_15 : decode mb_Cords_latestAtDepth 15 = .ok (.iload 4, 2) := by decide +kernel
theorem rd_Cords_latestAtDepth_17 : decode mb_Cords_latestAtDepth 17 = .ok (.invokevirtual 43, 3) := by decide +kernel
theorem rd_Cords_latestAtDepth_20 : decode mb_Cords_latestAtDepth 20 = .ok (.iload_n 3, 1) := by decide +kernel
theorem rd_Cords_latestAtDepth_21 : decode mb_Cords_latestAtDepth 21 = .ok (.if_icmp .ne 6, 3) := by decide +kernel
theorem rd_Cords_latestAtDepth_24 : decode mb_Cords_latestAtDepth 24 = .ok (.iload 4, 2) := by decide +kernel
theorem rd_Cords_latestAtDepth_26 : decode mb_Cords_latestAtDepth 26 = .ok (.ireturn, 1) := by decide +kernel
theorem rd_Cords_latestAtDepth_27 : decode mb_Cords_latestAtDepth 27 = .ok (.iinc 4 (-1), 3) := by decide +kernel
theorem rd_Cords_latestAtDepth_30 : decode mb_Cords_latestAtDepth 30 = .ok (.goto (-25), 3) := by decide +kernel
theorem rd_Cords_latestAtDepth_33 : decode mb_Cords_latestAtDepth 33 = .ok (.iconst (-1), 1) := by decide +kernel
theorem rd_Cords_latestAtDepth_34 : decode mb_Cords_latestAtDepth 34 = .ok (.ireturn, 1) := by decide +kernel
theorem rd_Cords_countAtDepth_0 : decode mb_Cords_countAtDepth 0 = .ok (.iconst 0, 1) := by decide +kernel
theorem rd_Cords_countAtDepth_1 : decode mb_Cords_countAtDepth 1 = .ok (.istore 4, 2) := by decide +kernel
theorem rd_Cords_countAtDepth_3 : decode mb_Cords_countAtDepth 3 = .ok (.iload_n 1, 1) := by decide +kernel
theorem rd_Cords_countAtDepth_4 : decode mb_Cords_countAtDepth 4 = .ok (.istore 5, 2) := by decide +kernel
theorem rd_Cords_countAtDepth_6 : decode mb_Cords_countAtDepth 6 = .ok (.iload 5, 2) := by decide +kernel
theorem rd_Cords_countAtDepth_8 : decode mb_Cords_countAtDepth 8 = .ok (.iload_n 2, 1) := by decide +kernel
theorem rd_Cords_countAtDepth_9 : decode mb_Cords_countAtDepth 9 = .ok (.if_icmp .ge 25, 3) := by decide +kernel
theorem rd_Cords_countAtDepth_12 : decode mb_Cords_countAtDepth 12 = .ok (.aload_n 0, 1) := by decide +kernel
theorem rd_Cords_countAtDepth_13 : decode mb_Cords_countAtDepth 13 = .ok (.getfield 27, 3) := by decide +kernel
theorem rd_Cords_countAtDepth_16 : decode mb_Cords_countAtDepth 16 = .ok (.iload 5, 2) := by decide +kernel
theorem rd_Cords_countAtDepth_18 : decode mb_Cords_countAtDepth 18 = .ok (.invokevirtual 43, 3) := by decide +kernel
theorem rd_Cords_countAtDepth_21 : decode mb_Cords_countAtDepth 21 = .ok (.iload_n 3, 1) := by decide +kernel
theorem rd_Cords_countAtDepth_22 : decode mb_Cords_countAtDepth 22 = .ok (.if_icmp .ne 6, 3) := by decide +kernel
theorem rd_Cords_countAtDepth_25 : decode mb_Cords_countAtDepth 25 = .ok (.iinc 4 1, 3) := by decide +kernel
theorem rd_Cords_countAtDepth_28 : decode mb_Cords_countAtDepth 28 = .ok (.iinc 5 1, 3) := by decide +kernel
theorem rd_Cords_countAtDepth_31 : decode mb_Cords_countAtDepth 31 = .ok (.goto (-25), 3) := by decide +kernel
theorem rd_Cords_countAtDepth_34 : decode mb_Cords_countAtDepth 34 = .ok (.iload 4, 2) := by decide +kernel
theorem rd_Cords_countAtDepth_36 : decode mb_Cords_countAtDepth 36 = .ok (.ireturn, 1) := by decide +kernel
theorem rd_Cords_openCluster_0 : decode mb_Cords_openCluster 0 = .ok (.aload_n 0, 1) := by decide +kernel
theorem rd_Cords_openCluster_1 : decode mb_Cords_openCluster 1 = .ok (.getfield 9, 3) := by decide +kernel
theorem rd_Cords_openCluster_4 : decode mb_Cords_openCluster 4 = .ok (.bipush 6, 2) := by decide +kernel
theorem rd_Cords_openCluster_6 : decode mb_Cords_openCluster 6 = .ok (.if_icmp .lt 5, 3) := by decide +kernel
theorem rd_Cords_openCluster_9 : decode mb_Cords_openCluster 9 = .ok (.iconst (-1), 1) := by decide +kernel
theorem rd_Cords_openCluster_10 : decode mb_Cords_openCluster 10 = .ok (.ireturn, 1) := by decide +kernel
theorem rd_Cords_openCluster_11 : decode mb_Cords_openCluster 11 = .ok (.aload_n 0, 1) := by decide +kernel
theorem rd_Cords_openCluster_12 : decode mb_Cords_openCluster 12 = .ok (.dup, 1) := by decide +kernel
theorem rd_Cords_openCluster_13 : decode mb_Cords_openCluster 13 = .ok (.getfield 9, 3) := by decide +kernel
theorem rd_Cords_openCluster_16 : decode mb_Cords_openCluster 16 = .ok (.iconst 1, 1) := by decide +kernel
theorem rd_Cords_openCluster_17 : decode mb_Cords_openCluster 17 = .ok (.iadd, 1) := by decide +kernel
theorem rd_Cords_openCluster_18 : decode mb_Cords_openCluster 18 = .ok (.putfield 9, 3) := by decide +kernel
theorem rd_Cords_openCluster_21 : decode mb_Cords_openCluster 21 = .ok (.aload_n 0, 1) := by decide +kernel
theorem rd_Cords_openCluster_22 : decode mb_Cords_openCluster 22 = .ok (.getfield 23, 3) := by decide +kernel
theorem rd_Cords_openCluster_25 : decode mb_Cords_openCluster 25 = .ok (.aload_n 0, 1) := by decide +kernel
theorem rd_Cords_openCluster_26 : decode mb_Cords_openCluster 26 = .ok (.getfield 9, 3) := by decide +kernel
theorem rd_Cords_openCluster_29 : decode mb_Cords_openCluster 29 = .ok (.aload_n 0, 1) := by decide +kernel
theorem rd_Cords_openCluster_30 : decode mb_Cords_openCluster 30 = .ok (.getfield 15, 3) := by decide +kernel
theorem rd_Cords_openCluster_33 : decode mb_Cords_openCluster 33 = .ok (.invokevirtual 95, 3) := by decide +kernel
theorem rd_Cords_openCluster_36 : decode mb_Cords_openCluster 36 = .ok (.aload_n 0, 1) := by decide +kernel
theorem rd_Cords_openCluster_37 : decode mb_Cords_openCluster 37 = .ok (.getfield 9, 3) := by decide +kernel
theorem rd_Cords_openCluster_40 : decode mb_Cords_openCluster 40 = .ok (.iconst 1, 1) := by decide +kernel
theorem rd_Cords_openCluster_41 : decode mb_Cords_openCluster 41 = .ok (.isub, 1) := by decide +kernel
theorem rd_Cords_openCluster_42 : decode mb_Cords_openCluster 42 = .ok (.ireturn, 1) := by decide +kernel
def wd_Check_sums (cI : ClassId) (a_a a_a_starts a_a_depth a_a_topic a_a_value a_a_nibbled a_a_starts_k a_a_depth_k a_a_value_k a_a_nibbled_k : Nat) (i_a_clusters : Int) (i_a_size : Int) (i_a_starts : (Int → Int)) (i_a_depth : (Int → Int)) (i_a_value : (Int → Int)) (i_a_nibbled : (Int → Int)) : va_W := [(a_a, .inr (5, [jk_V i_a_clusters, jk_V i_a_size, .ref a_a_starts, .ref a_a_depth, .ref a_a_topic, .ref a_a_value, .ref a_a_nibbled])), (a_a_starts, .inr (0, [.ref a_a_starts_k])), (a_a_starts_k, jk_W cI 7 i_a_starts), (a_a_depth, .inr (0, [.ref a_a_depth_k])), (a_a_depth_k, jk_W cI 40 i_a_depth), (a_a_value, .inr (0, [.ref a_a_value_k])), (a_a_value_k, jk_W cI 40 i_a_value), (a_a_nibbled, .inr (0, [.ref a_a_nibbled_k])), (a_a_nibbled_k, jk_W cI 40 i_a_nibbled)]
set_option maxHeartbeats 4000000 in
set_option maxRecDepth 20000 in
theorem ct_Check_sums (l : Launch) (D : va_G) (Z : (Nat → Prop) → State → Heap → Prop) (sq : Nat → Nat) (hZ : jk_ZK Z sq) (cI cR : ClassId) (a_a a_a_starts a_a_depth a_a_topic a_a_value a_a_nibbled a_a_starts_k a_a_depth_k a_a_value_k a_a_nibbled_k : Nat) (i_a_clusters : Int) (i_a_size : Int) (i_a_starts : (Int → Int)) (i_a_depth : (Int → Int)) (i_a_value : (Int → Int)) (i_a_nibbled : (Int → Int)) (q : Int) (hf : fn_Check_sums i_a_clusters i_a_size i_a_starts i_a_depth i_a_value i_a_nibbled = some q) : jk_MI l D jk_cl (jk_ty cI cR) Z mn_Check_sums (.code mn_Check_sums mb_Check_sums 2 (some .boolean) :: jk_WA) (jk_rm 12 292) [.ref a_a] (wd_Check_sums cI a_a a_a_starts a_a_depth a_a_topic a_a_value a_a_nibbled a_a_starts_k a_a_depth_k a_a_value_k a_a_nibbled_k i_a_clusters i_a_size i_a_starts i_a_depth i_a_value i_a_nibbled) (wd_Check_sums cI a_a a_a_starts a_a_depth a_a_topic a_a_value a_a_nibbled a_a_starts_k a_a_depth_k a_a_value_k a_a_nibbled_k i_a_clusters i_a_size i_a_starts i_a_depth i_a_value i_a_nibbled) q := by
  intro sz
  refine jk_body (by decide +kernel) (fun p e s m args below meth c hsz hz hin C => ?_) (Nat.le_of_ble_eq_true rfl)
  subst hsz
  unfold fn_Check_sums at hf
  have bk_2 : ∀ (n : Nat) (v1 : Int), fn_Check_sums_b2 n i_a_clusters i_a_size i_a_starts i_a_depth i_a_value i_a_nibbled v1 = some q → jk_J p l e (jk_rm 12 292) s m args below meth c 0 0 (jk_QI below D jk_cl (jk_ty cI cR) (wd_Check_sums cI a_a a_a_starts a_a_depth a_a_topic a_a_value a_a_nibbled a_a_starts_k a_a_depth_k a_a_value_k a_a_nibbled_k i_a_clusters i_a_size i_a_starts i_a_depth i_a_value i_a_nibbled) (wd_Check_sums cI a_a a_a_starts a_a_depth a_a_topic a_a_value a_a_nibbled a_a_starts_k a_a_depth_k a_a_value_k a_a_nibbled_k i_a_clusters i_a_size i_a_starts i_a_depth i_a_value i_a_nibbled) args s q) D jk_cl (va_A (wd_Check_sums cI a_a a_a_starts a_a_depth a_a_topic a_a_value a_a_nibbled a_a_starts_k a_a_depth_k a_a_value_k a_a_nibbled_k i_a_clusters i_a_size i_a_starts i_a_depth i_a_value i_a_nibbled) s.heap.size) 2 (wd_Check_sums cI a_a a_a_starts a_a_depth a_a_topic a_a_value a_a_nibbled a_a_starts_k a_a_depth_k a_a_value_k a_a_nibbled_k i_a_clusters i_a_size i_a_starts i_a_depth i_a_value i_a_nibbled) [(0, .ref a_a), (1, jk_V v1)] 2 [] := by
    intro n
    induction n with
    | zero => intro v1 hf; exact nomatch (show none = some q from hf)
    | succ n ih =>
      intro v1 hf
      rw [fn_Check_sums_b2] at hf
      refine jk_iload_n C rd_Check_sums_2 (k := 1) rfl ?_
      refine jk_aload_n C rd_Check_sums_3 (k := 0) rfl ?_
      refine jk_getN C in_Cords (ci := 5) rfl 0 (by decide) (jk_nw hZ hz tn_8) 0 rfl rfl rd_Check_sums_4 ?_
      refine jk_icmp_ge (tgt := 39) C rd_Check_sums_7 (by decide) hf (fun _ hf => ?_) (fun _ hf => ?_)
      · refine jk_iconst C rd_Check_sums_39 ?_
        cases hf
        exact jk_zret C (Or.inr rfl) rfl rd_Check_sums_40 rfl
      · refine jk_aload_n C rd_Check_sums_10 (k := 0) rfl ?_
        refine jk_iload_n C rd_Check_sums_11 (k := 1) rfl ?_
        obtain ⟨q12, hq12, hf⟩ := jk_bind_h hf
        refine jk_callVi C hZ.1 hz (ct_Cords_hasKnownSum l D Z sq hZ cI cR a_a a_a_starts a_a_depth a_a_topic a_a_value a_a_nibbled a_a_starts_k a_a_depth_k a_a_nibbled_k i_a_clusters i_a_size i_a_starts i_a_depth i_a_nibbled v1 q12 hq12) tm_537 tm_538 tm_539 tm_6 tm_540 na_Cords_hasKnownSum ⟨Nat.le_of_ble_eq_true rfl, Nat.le_of_ble_eq_true rfl⟩ rfl [0, 1, 2, 3, 4, 7, 8] rfl rfl rfl (ws' := wd_Check_sums cI a_a a_a_starts a_a_depth a_a_topic a_a_value a_a_nibbled a_a_starts_k a_a_depth_k a_a_value_k a_a_nibbled_k i_a_clusters i_a_size i_a_starts i_a_depth i_a_value i_a_nibbled) rfl 0 5 rfl rfl rfl (st := []) rfl (Nat.le_of_ble_eq_true rfl) rd_Check_sums_12 ?_ ⟨Nat.le_of_ble_eq_true rfl, Nat.le_of_ble_eq_true rfl⟩
        refine jk_if_eq (tgt := 33) C rd_Check_sums_15 (by decide) hf (fun _ hf => ?_) (fun _ hf => ?_)
        · refine jk_iinc C rd_Check_sums_33 (k := 1) rfl (by decide) (lv' := [(1, jk_V (v1 + 1)), (0, .ref a_a)]) rfl ?_
          refine jk_goto (tgt := 2) C rd_Check_sums_36 (by decide) ?_
          refine jk_lv (lv' := [(0, .ref a_a), (1, jk_V (v1 + 1))]) [1, 0] rfl ?_
          exact ih (v1 + 1) hf
        · refine jk_aload_n C rd_Check_sums_18 (k := 0) rfl ?_
          refine jk_iload_n C rd_Check_sums_19 (k := 1) rfl ?_
          obtain ⟨q20, hq20, hf⟩ := jk_bind_h hf
          refine jk_callVi C hZ.1 hz (ct_Cords_sum l D Z sq hZ cI cR a_a a_a_starts a_a_depth a_a_topic a_a_value a_a_nibbled a_a_starts_k a_a_depth_k a_a_value_k i_a_clusters i_a_size i_a_starts i_a_depth i_a_value v1 q20 hq20) tm_543 tm_544 tm_545 tm_6 tm_546 na_Cords_sum ⟨Nat.le_of_ble_eq_true rfl, Nat.le_of_ble_eq_true rfl⟩ rfl [0, 1, 2, 3, 4, 5, 6] rfl rfl rfl (ws' := wd_Check_sums cI a_a a_a_starts a_a_depth a_a_topic a_a_value a_a_nibbled a_a_starts_k a_a_depth_k a_a_value_k a_a_nibbled_k i_a_clusters i_a_size i_a_starts i_a_depth i_a_value i_a_nibbled) rfl 0 5 rfl rfl rfl (st := []) rfl (Nat.le_of_ble_eq_true rfl) rd_Check_sums_20 ?_ ⟨Nat.le_of_ble_eq_true rfl, Nat.le_of_ble_eq_true rfl⟩
          refine jk_aload_n C rd_Check_sums_23 (k := 0) rfl ?_
          refine jk_iload_n C rd_Check_sums_24 (k := 1) rfl ?_
          obtain ⟨q25, hq25, hf⟩ := jk_bind_h hf
          refine jk_callSi C hZ.1 hz (ct_Check_sumByRecursion l D Z sq hZ cI cR a_a a_a_starts a_a_depth a_a_topic a_a_value a_a_nibbled a_a_starts_k a_a_depth_k a_a_value_k i_a_clusters i_a_size i_a_starts i_a_depth i_a_value v1 q25 hq25) tm_548 tm_549 tm_39 tm_550 na_Check_sumByRecursion ⟨Nat.le_of_ble_eq_true rfl, Nat.le_of_ble_eq_true rfl⟩ rfl [0, 1, 2, 3, 4, 5, 6] rfl rfl rfl (ws' := wd_Check_sums cI a_a a_a_starts a_a_depth a_a_topic a_a_value a_a_nibbled a_a_starts_k a_a_depth_k a_a_value_k a_a_nibbled_k i_a_clusters i_a_size i_a_starts i_a_depth i_a_value i_a_nibbled) rfl (st := [jk_V q20]) rfl (Nat.le_of_ble_eq_true rfl) rd_Check_sums_25 ?_ ⟨Nat.le_of_ble_eq_true rfl, Nat.le_of_ble_eq_true rfl⟩
          refine jk_icmp_eq (tgt := 33) C rd_Check_sums_28 (by decide) hf (fun _ hf => ?_) (fun _ hf => ?_)
          · refine jk_iinc C rd_Check_sums_33 (k := 1) rfl (by decide) (lv' := [(1, jk_V (v1 + 1)), (0, .ref a_a)]) rfl ?_
            refine jk_goto (tgt := 2) C rd_Check_sums_36 (by decide) ?_
            refine jk_lv (lv' := [(0, .ref a_a), (1, jk_V (v1 + 1))]) [1, 0] rfl ?_
            exact ih (v1 + 1) hf
          · refine jk_iconst C rd_Check_sums_31 ?_
            cases hf
            exact jk_zret C (Or.inl rfl) rfl rd_Check_sums_32 rfl
  refine jk_iconst C rd_Check_sums_0 ?_
  refine jk_istore_n C rd_Check_sums_1 (by decide) (lv' := [(1, jk_V 0), (0, .ref a_a)]) rfl ?_
  refine jk_lv (lv' := [(0, .ref a_a), (1, jk_V 0)]) [1, 0] rfl ?_
  exact bk_2 jk_F 0 hf
def wd_Row_copyFrom (cI : ClassId) (n_a : Nat) (n_t : Nat) (a_t a_t_k a_a a_a_k : Nat) (i_t_cells : (Int → Int)) (i_a_cells : (Int → Int)) : va_W := [(a_t, .inr (0, [.ref a_t_k])), (a_t_k, jk_W cI n_t i_t_cells), (a_a, .inr (0, [.ref a_a_k])), (a_a_k, jk_W cI n_a i_a_cells)]
set_option maxHeartbeats 4000000 in
set_option maxRecDepth 20000 in
theorem ct_Row_copyFrom (l : Launch) (D : va_G) (Z : (Nat → Prop) → State → Heap → Prop) (sq : Nat → Nat) (hZ : jk_ZK Z sq) (cI cR : ClassId) {n_a : Nat} (hn_a : n_a < 2147483648) {n_t : Nat} (hn_t : n_t < 2147483648) (a_t a_t_k a_a a_a_k : Nat) (i_t_cells : (Int → Int)) (i_a_cells : (Int → Int)) (q : (Int → Int)) (hf : fn_Row_copyFrom (n_a : Int) (n_t : Int) i_t_cells i_a_cells = some q) : jk_MV l D jk_cl (jk_ty cI cR) Z mn_Row_copyFrom (.code mn_Row_copyFrom mb_Row_copyFrom 3 none :: jk_WA) (jk_rm 1 21) [.ref a_t, .ref a_a] (wd_Row_copyFrom cI n_a n_t a_t a_t_k a_a a_a_k i_t_cells i_a_cells) (wd_Row_copyFrom cI n_a n_t a_t a_t_k a_a a_a_k q i_a_cells) := by
  intro sz
  refine jk_body (by decide +kernel) (fun p e s m args below meth c hsz hz hin C => ?_) (Nat.le_of_ble_eq_true rfl)
  subst hsz
  unfold fn_Row_copyFrom at hf
  have bk_2 : ∀ (n : Nat) (t_cells : (Int → Int)) (v2 : Int), fn_Row_copyFrom_b2 n (n_a : Int) (n_t : Int) t_cells i_a_cells v2 = some q → jk_J p l e (jk_rm 1 21) s m args below meth c 0 0 (jk_QV below D jk_cl (jk_ty cI cR) (wd_Row_copyFrom cI n_a n_t a_t a_t_k a_a a_a_k i_t_cells i_a_cells) (wd_Row_copyFrom cI n_a n_t a_t a_t_k a_a a_a_k q i_a_cells) args s) D jk_cl (va_A (wd_Row_copyFrom cI n_a n_t a_t a_t_k a_a a_a_k i_t_cells i_a_cells) s.heap.size) 3 (wd_Row_copyFrom cI n_a n_t a_t a_t_k a_a a_a_k t_cells i_a_cells) [(0, .ref a_t), (1, .ref a_a), (2, jk_V v2)] 2 [] := by
    intro n
    induction n with
    | zero => intro t_cells v2 hf; exact nomatch (show none = some q from hf)
    | succ n ih =>
      intro t_cells v2 hf
      rw [fn_Row_copyFrom_b2] at hf
      refine jk_iload_n C rd_Row_copyFrom_2 (k := 2) rfl ?_
      refine jk_aload_n C rd_Row_copyFrom_3 (k := 0) rfl ?_
      refine jk_get C in_Row (ci := 0) rfl 0 (by decide) tm_60 0 rfl rfl rd_Row_copyFrom_4 ?_
      refine jk_alen C 1 0 rfl rfl rd_Row_copyFrom_7 ?_
      refine jk_icmp_ge (tgt := 28) C rd_Row_copyFrom_8 (by decide) hf (fun _ hf => ?_) (fun _ hf => ?_)
      · cases hf
        exact jk_vret C rfl rd_Row_copyFrom_28 rfl
      · refine jk_aload_n C rd_Row_copyFrom_11 (k := 0) rfl ?_
        refine jk_get C in_Row (ci := 0) rfl 0 (by decide) tm_60 0 rfl rfl rd_Row_copyFrom_12 ?_
        refine jk_iload_n C rd_Row_copyFrom_15 (k := 2) rfl ?_
        refine jk_aload_n C rd_Row_copyFrom_16 (k := 1) rfl ?_
        refine jk_iload_n C rd_Row_copyFrom_17 (k := 2) rfl ?_
        obtain ⟨q18, hq18, hf⟩ := jk_bind_h hf
        refine jk_callVi C hZ.1 hz (ct_Row_get l D Z sq hZ cI cR (n_t := n_a) hn_a a_a a_a_k i_a_cells v2 q18 hq18) tm_402 tm_299 tm_300 tm_3 tm_301 na_Row_get ⟨Nat.le_of_ble_eq_true rfl, Nat.le_of_ble_eq_true rfl⟩ rfl [2, 3] rfl rfl rfl (ws' := wd_Row_copyFrom cI n_a n_t a_t a_t_k a_a a_a_k t_cells i_a_cells) rfl 2 0 rfl rfl rfl (st := [jk_V v2, .ref a_t_k]) rfl (Nat.le_of_ble_eq_true rfl) rd_Row_copyFrom_18 ?_ ⟨Nat.le_of_ble_eq_true rfl, Nat.le_of_ble_eq_true rfl⟩
        refine jk_iast C 1 0 rfl rfl hn_t rd_Row_copyFrom_21 hf (ws' := wd_Row_copyFrom cI n_a n_t a_t a_t_k a_a a_a_k (jk_up t_cells v2 q18) i_a_cells) rfl (fun hf => ?_)
        refine jk_iinc C rd_Row_copyFrom_22 (k := 2) rfl (by decide) (lv' := [(2, jk_V (v2 + 1)), (0, .ref a_t), (1, .ref a_a)]) rfl ?_
        refine jk_goto (tgt := 2) C rd_Row_copyFrom_25 (by decide) ?_
        refine jk_lv (lv' := [(0, .ref a_t), (1, .ref a_a), (2, jk_V (v2 + 1))]) [1, 2, 0] rfl ?_
        exact ih (jk_up t_cells v2 q18) (v2 + 1) hf
  refine jk_iconst C rd_Row_copyFrom_0 ?_
  refine jk_istore_n C rd_Row_copyFrom_1 (by decide) (lv' := [(2, jk_V 0), (0, .ref a_t), (1, .ref a_a)]) rfl ?_
  refine jk_lv (lv' := [(0, .ref a_t), (1, .ref a_a), (2, jk_V 0)]) [1, 2, 0] rfl ?_
  exact bk_2 jk_F i_t_cells 0 hf
def wd_Cords_copyFrom (cI : ClassId) (a_t a_t_starts a_t_depth a_t_topic a_t_value a_t_nibbled a_t_starts_k a_t_depth_k a_t_topic_k a_t_value_k a_t_nibbled_k a_a a_a_starts a_a_depth a_a_topic a_a_value a_a_nibbled a_a_starts_k a_a_depth_k a_a_topic_k a_a_value_k a_a_nibbled_k : Nat) (i_t_clusters : Int) (i_t_size : Int) (i_t_starts : (Int → Int)) (i_t_depth : (Int → Int)) (i_t_topic : (Int → Int)) (i_t_value : (Int → Int)) (i_t_nibbled : (Int → Int)) (i_a_clusters : Int) (i_a_size : Int) (i_a_starts : (Int → Int)) (i_a_depth : (Int → Int)) (i_a_topic : (Int → Int)) (i_a_value : (Int → Int)) (i_a_nibbled : (Int → Int)) : va_W := [(a_t, .inr (5, [jk_V i_t_clusters, jk_V i_t_size, .ref a_t_starts, .ref a_t_depth, .ref a_t_topic, .ref a_t_value, .ref a_t_nibbled])), (a_t_starts, .inr (0, [.ref a_t_starts_k])), (a_t_starts_k, jk_W cI 7 i_t_starts), (a_t_depth, .inr (0, [.ref a_t_depth_k])), (a_t_depth_k, jk_W cI 40 i_t_depth), (a_t_topic, .inr (0, [.ref a_t_topic_k])), (a_t_topic_k, jk_W cI 40 i_t_topic), (a_t_value, .inr (0, [.ref a_t_value_k])), (a_t_value_k, jk_W cI 40 i_t_value), (a_t_nibbled, .inr (0, [.ref a_t_nibbled_k])), (a_t_nibbled_k, jk_W cI 40 i_t_nibbled), (a_a, .inr (5, [jk_V i_a_clusters, jk_V i_a_size, .ref a_a_starts, .ref a_a_depth, .ref a_a_topic, .ref a_a_value, .ref a_a_nibbled])), (a_a_starts, .inr (0, [.ref a_a_starts_k])), (a_a_starts_k, jk_W cI 7 i_a_starts), (a_a_depth, .inr (0, [.ref a_a_depth_k])), (a_a_depth_k, jk_W cI 40 i_a_depth), (a_a_topic, .inr (0, [.ref a_a_topic_k])), (a_a_topic_k, jk_W cI 40 i_a_topic), (a_a_value, .inr (0, [.ref a_a_value_k])), (a_a_value_k, jk_W cI 40 i_a_value), (a_a_nibbled, .inr (0, [.ref a_a_nibbled_k])), (a_a_nibbled_k, jk_W cI 40 i_a_nibbled)]
set_option maxHeartbeats 4000000 in
set_option maxRecDepth 20000 in
theorem ct_Cords_copyFrom (l : Launch) (D : va_G) (Z : (Nat → Prop) → State → Heap → Prop) (sq : Nat → Nat) (hZ : jk_ZK Z sq) (cI cR : ClassId) (a_t a_t_starts a_t_depth a_t_topic a_t_value a_t_nibbled a_t_starts_k a_t_depth_k a_t_topic_k a_t_value_k a_t_nibbled_k a_a a_a_starts a_a_depth a_a_topic a_a_value a_a_nibbled a_a_starts_k a_a_depth_k a_a_topic_k a_a_value_k a_a_nibbled_k : Nat) (i_t_clusters : Int) (i_t_size : Int) (i_t_starts : (Int → Int)) (i_t_depth : (Int → Int)) (i_t_topic : (Int → Int)) (i_t_value : (Int → Int)) (i_t_nibbled : (Int → Int)) (i_a_clusters : Int) (i_a_size : Int) (i_a_starts : (Int → Int)) (i_a_depth : (Int → Int)) (i_a_topic : (Int → Int)) (i_a_value : (Int → Int)) (i_a_nibbled : (Int → Int)) (q : Int × Int × (Int → Int) × (Int → Int) × (Int → Int) × (Int → Int) × (Int → Int)) (hf : fn_Cords_copyFrom i_t_clusters i_t_size i_t_starts i_t_depth i_t_topic i_t_value i_t_nibbled i_a_clusters i_a_size i_a_starts i_a_depth i_a_topic i_a_value i_a_nibbled = some q) : jk_MV l D jk_cl (jk_ty cI cR) Z mn_Cords_copyFrom (.code mn_Cords_copyFrom mb_Cords_copyFrom 2 none :: jk_WA) (jk_rm 2 43) [.ref a_t, .ref a_a] (wd_Cords_copyFrom cI a_t a_t_starts a_t_depth a_t_topic a_t_value a_t_nibbled a_t_starts_k a_t_depth_k a_t_topic_k a_t_value_k a_t_nibbled_k a_a a_a_starts a_a_depth a_a_topic a_a_value a_a_nibbled a_a_starts_k a_a_depth_k a_a_topic_k a_a_value_k a_a_nibbled_k i_t_clusters i_t_size i_t_starts i_t_depth i_t_topic i_t_value i_t_nibbled i_a_clusters i_a_size i_a_starts i_a_depth i_a_topic i_a_value i_a_nibbled) (wd_Cords_copyFrom cI a_t a_t_starts a_t_depth a_t_topic a_t_value a_t_nibbled a_t_starts_k a_t_depth_k a_t_topic_k a_t_value_k a_t_nibbled_k a_a a_a_starts a_a_depth a_a_topic a_a_value a_a_nibbled a_a_starts_k a_a_depth_k a_a_topic_k a_a_value_k a_a_nibbled_k q.1 q.2.1 q.2.2.1 q.2.2.2.1 q.2.2.2.2.1 q.2.2.2.2.2.1 q.2.2.2.2.2.2 i_a_clusters i_a_size i_a_starts i_a_depth i_a_topic i_a_value i_a_nibbled) := by
  intro sz
  refine jk_body (by decide +kernel) (fun p e s m args below meth c hsz hz hin C => ?_) (Nat.le_of_ble_eq_true rfl)
  subst hsz
  unfold fn_Cords_copyFrom at hf
  refine jk_aload_n C rd_Cords_copyFrom_0 (k := 0) rfl ?_
  refine jk_aload_n C rd_Cords_copyFrom_1 (k := 1) rfl ?_
  refine jk_get C in_Cords (ci := 5) rfl 0 (by decide) tm_129 11 rfl rfl rd_Cords_copyFrom_2 ?_
  refine jk_putf C in_Cords ty_Cords nm_Cords (ci := 5) rfl 0 (by decide) tm_129 rfl rfl rfl 0 rfl (Nat.le_of_ble_eq_true rfl) rd_Cords_copyFrom_5 (ws' := wd_Cords_copyFrom cI a_t a_t_starts a_t_depth a_t_topic a_t_value a_t_nibbled a_t_starts_k a_t_depth_k a_t_topic_k a_t_value_k a_t_nibbled_k a_a a_a_starts a_a_depth a_a_topic a_a_value a_a_nibbled a_a_starts_k a_a_depth_k a_a_topic_k a_a_value_k a_a_nibbled_k i_a_clusters i_t_size i_t_starts i_t_depth i_t_topic i_t_value i_t_nibbled i_a_clusters i_a_size i_a_starts i_a_depth i_a_topic i_a_value i_a_nibbled) rfl ?_
  refine jk_aload_n C rd_Cords_copyFrom_8 (k := 0) rfl ?_
  refine jk_aload_n C rd_Cords_copyFrom_9 (k := 1) rfl ?_
  refine jk_get C in_Cords (ci := 5) rfl 1 (by decide) tm_133 11 rfl rfl rd_Cords_copyFrom_10 ?_
  refine jk_putf C in_Cords ty_Cords nm_Cords (ci := 5) rfl 1 (by decide) tm_133 rfl rfl rfl 0 rfl (Nat.le_of_ble_eq_true rfl) rd_Cords_copyFrom_13 (ws' := wd_Cords_copyFrom cI a_t a_t_starts a_t_depth a_t_topic a_t_value a_t_nibbled a_t_starts_k a_t_depth_k a_t_topic_k a_t_value_k a_t_nibbled_k a_a a_a_starts a_a_depth a_a_topic a_a_value a_a_nibbled a_a_starts_k a_a_depth_k a_a_topic_k a_a_value_k a_a_nibbled_k i_a_clusters i_a_size i_t_starts i_t_depth i_t_topic i_t_value i_t_nibbled i_a_clusters i_a_size i_a_starts i_a_depth i_a_topic i_a_value i_a_nibbled) rfl ?_
  refine jk_aload_n C rd_Cords_copyFrom_16 (k := 0) rfl ?_
  refine jk_get C in_Cords (ci := 5) rfl 2 (by decide) tm_137 0 rfl rfl rd_Cords_copyFrom_17 ?_
  refine jk_aload_n C rd_Cords_copyFrom_20 (k := 1) rfl ?_
  refine jk_get C in_Cords (ci := 5) rfl 2 (by decide) tm_137 11 rfl rfl rd_Cords_copyFrom_21 ?_
  obtain ⟨q24, hq24, hf⟩ := jk_bind_h hf
  refine jk_callVv C hZ.1 hz (ct_Row_copyFrom l D Z sq hZ cI cR (n_a := 7) (n_t := 7) (Nat.le_of_ble_eq_true rfl) (Nat.le_of_ble_eq_true rfl) a_t_starts a_t_starts_k a_a_starts a_a_starts_k i_t_starts i_a_starts q24 hq24) tm_489 tm_482 tm_483 tm_3 tm_484 na_Row_copyFrom ⟨Nat.le_of_ble_eq_true rfl, Nat.le_of_ble_eq_true rfl⟩ rfl [1, 2, 12, 13] rfl rfl rfl (ws' := wd_Cords_copyFrom cI a_t a_t_starts a_t_depth a_t_topic a_t_value a_t_nibbled a_t_starts_k a_t_depth_k a_t_topic_k a_t_value_k a_t_nibbled_k a_a a_a_starts a_a_depth a_a_topic a_a_value a_a_nibbled a_a_starts_k a_a_depth_k a_a_topic_k a_a_value_k a_a_nibbled_k i_a_clusters i_a_size q24 i_t_depth i_t_topic i_t_value i_t_nibbled i_a_clusters i_a_size i_a_starts i_a_depth i_a_topic i_a_value i_a_nibbled) rfl 1 0 rfl rfl rfl (st := []) rfl (Nat.le_of_ble_eq_true rfl) rd_Cords_copyFrom_24 ?_ ⟨Nat.le_of_ble_eq_true rfl, Nat.le_of_ble_eq_true rfl⟩
  refine jk_aload_n C rd_Cords_copyFrom_27 (k := 0) rfl ?_
  refine jk_get C in_Cords (ci := 5) rfl 3 (by decide) tm_138 0 rfl rfl rd_Cords_copyFrom_28 ?_
  refine jk_aload_n C rd_Cords_copyFrom_31 (k := 1) rfl ?_
  refine jk_get C in_Cords (ci := 5) rfl 3 (by decide) tm_138 11 rfl rfl rd_Cords_copyFrom_32 ?_
  obtain ⟨q35, hq35, hf⟩ := jk_bind_h hf
  refine jk_callVv C hZ.1 hz (ct_Row_copyFrom l D Z sq hZ cI cR (n_a := 40) (n_t := 40) (Nat.le_of_ble_eq_true rfl) (Nat.le_of_ble_eq_true rfl) a_t_depth a_t_depth_k a_a_depth a_a_depth_k i_t_depth i_a_depth q35 hq35) tm_489 tm_482 tm_483 tm_3 tm_484 na_Row_copyFrom ⟨Nat.le_of_ble_eq_true rfl, Nat.le_of_ble_eq_true rfl⟩ rfl [3, 4, 14, 15] rfl rfl rfl (ws' := wd_Cords_copyFrom cI a_t a_t_starts a_t_depth a_t_topic a_t_value a_t_nibbled a_t_starts_k a_t_depth_k a_t_topic_k a_t_value_k a_t_nibbled_k a_a a_a_starts a_a_depth a_a_topic a_a_value a_a_nibbled a_a_starts_k a_a_depth_k a_a_topic_k a_a_value_k a_a_nibbled_k i_a_clusters i_a_size q24 q35 i_t_topic i_t_value i_t_nibbled i_a_clusters i_a_size i_a_starts i_a_depth i_a_topic i_a_value i_a_nibbled) rfl 3 0 rfl rfl rfl (st := []) rfl (Nat.le_of_ble_eq_true rfl) rd_Cords_copyFrom_35 ?_ ⟨Nat.le_of_ble_eq_true rfl, Nat.le_of_ble_eq_true rfl⟩
  refine jk_aload_n C rd_Cords_copyFrom_38 (k := 0) rfl ?_
  refine jk_get C in_Cords (ci := 5) rfl 4 (by decide) tm_141 0 rfl rfl rd_Cords_copyFrom_39 ?_
  refine jk_aload_n C rd_Cords_copyFrom_42 (k := 1) rfl ?_
  refine jk_get C in_Cords (ci := 5) rfl 4 (by decide) tm_141 11 rfl rfl rd_Cords_copyFrom_43 ?_
  obtain ⟨q46, hq46, hf⟩ := jk_bind_h hf
  refine jk_callVv C hZ.1 hz (ct_Row_copyFrom l D Z sq hZ cI cR (n_a := 40) (n_t := 40) (Nat.le_of_ble_eq_true rfl) (Nat.le_of_ble_eq_true rfl) a_t_topic a_t_topic_k a_a_topic a_a_topic_k i_t_topic i_a_topic q46 hq46) tm_489 tm_482 tm_483 tm_3 tm_484 na_Row_copyFrom ⟨Nat.le_of_ble_eq_true rfl, Nat.le_of_ble_eq_true rfl⟩ rfl [5, 6, 16, 17] rfl rfl rfl (ws' := wd_Cords_copyFrom cI a_t a_t_starts a_t_depth a_t_topic a_t_value a_t_nibbled a_t_starts_k a_t_depth_k a_t_topic_k a_t_value_k a_t_nibbled_k a_a a_a_starts a_a_depth a_a_topic a_a_value a_a_nibbled a_a_starts_k a_a_depth_k a_a_topic_k a_a_value_k a_a_nibbled_k i_a_clusters i_a_size q24 q35 q46 i_t_value i_t_nibbled i_a_clusters i_a_size i_a_starts i_a_depth i_a_topic i_a_value i_a_nibbled) rfl 5 0 rfl rfl rfl (st := []) rfl (Nat.le_of_ble_eq_true rfl) rd_Cords_copyFrom_46 ?_ ⟨Nat.le_of_ble_eq_true rfl, Nat.le_of_ble_eq_true rfl⟩
  refine jk_aload_n C rd_Cords_copyFrom_49 (k := 0) rfl ?_
  refine jk_get C in_Cords (ci := 5) rfl 5 (by decide) tm_143 0 rfl rfl rd_Cords_copyFrom_50 ?_
  refine jk_aload_n C rd_Cords_copyFrom_53 (k := 1) rfl ?_
  refine jk_get C in_Cords (ci := 5) rfl 5 (by decide) tm_143 11 rfl rfl rd_Cords_copyFrom_54 ?_
  obtain ⟨q57, hq57, hf⟩ := jk_bind_h hf
  refine jk_callVv C hZ.1 hz (ct_Row_copyFrom l D Z sq hZ cI cR (n_a := 40) (n_t := 40) (Nat.le_of_ble_eq_true rfl) (Nat.le_of_ble_eq_true rfl) a_t_value a_t_value_k a_a_value a_a_value_k i_t_value i_a_value q57 hq57) tm_489 tm_482 tm_483 tm_3 tm_484 na_Row_copyFrom ⟨Nat.le_of_ble_eq_true rfl, Nat.le_of_ble_eq_true rfl⟩ rfl [7, 8, 18, 19] rfl rfl rfl (ws' := wd_Cords_copyFrom cI a_t a_t_starts a_t_depth a_t_topic a_t_value a_t_nibbled a_t_starts_k a_t_depth_k a_t_topic_k a_t_value_k a_t_nibbled_k a_a a_a_starts a_a_depth a_a_topic a_a_value a_a_nibbled a_a_starts_k a_a_depth_k a_a_topic_k a_a_value_k a_a_nibbled_k i_a_clusters i_a_size q24 q35 q46 q57 i_t_nibbled i_a_clusters i_a_size i_a_starts i_a_depth i_a_topic i_a_value i_a_nibbled) rfl 7 0 rfl rfl rfl (st := []) rfl (Nat.le_of_ble_eq_true rfl) rd_Cords_copyFrom_57 ?_ ⟨Nat.le_of_ble_eq_true rfl, Nat.le_of_ble_eq_true rfl⟩
  refine jk_aload_n C rd_Cords_copyFrom_60 (k := 0) rfl ?_
  refine jk_get C in_Cords (ci := 5) rfl 6 (by decide) tm_146 0 rfl rfl rd_Cords_copyFrom_61 ?_
  refine jk_aload_n C rd_Cords_copyFrom_64 (k := 1) rfl ?_
  refine jk_get C in_Cords (ci := 5) rfl 6 (by decide) tm_146 11 rfl rfl rd_Cords_copyFrom_65 ?_
  obtain ⟨q68, hq68, hf⟩ := jk_bind_h hf
  refine jk_callVv C hZ.1 hz (ct_Row_copyFrom l D Z sq hZ cI cR (n_a := 40) (n_t := 40) (Nat.le_of_ble_eq_true rfl) (Nat.le_of_ble_eq_true rfl) a_t_nibbled a_t_nibbled_k a_a_nibbled a_a_nibbled_k i_t_nibbled i_a_nibbled q68 hq68) tm_489 tm_482 tm_483 tm_3 tm_484 na_Row_copyFrom ⟨Nat.le_of_ble_eq_true rfl, Nat.le_of_ble_eq_true rfl⟩ rfl [9, 10, 20, 21] rfl rfl rfl (ws' := wd_Cords_copyFrom cI a_t a_t_starts a_t_depth a_t_topic a_t_value a_t_nibbled a_t_starts_k a_t_depth_k a_t_topic_k a_t_value_k a_t_nibbled_k a_a a_a_starts a_a_depth a_a_topic a_a_value a_a_nibbled a_a_starts_k a_a_depth_k a_a_topic_k a_a_value_k a_a_nibbled_k i_a_clusters i_a_size q24 q35 q46 q57 q68 i_a_clusters i_a_size i_a_starts i_a_depth i_a_topic i_a_value i_a_nibbled) rfl 9 0 rfl rfl rfl (st := []) rfl (Nat.le_of_ble_eq_true rfl) rd_Cords_copyFrom_68 ?_ ⟨Nat.le_of_ble_eq_true rfl, Nat.le_of_ble_eq_true rfl⟩
  cases hf
  exact jk_vret C rfl rd_Cords_copyFrom_71 rfl
def wd_Cords_onlyNibbled (cI : ClassId) (a_t a_t_starts a_t_depth a_t_topic a_t_value a_t_nibbled a_t_starts_k a_t_nibbled_k : Nat) (i_t_clusters : Int) (i_t_size : Int) (i_t_starts : (Int → Int)) (i_t_nibbled : (Int → Int)) : va_W := [(a_t, .inr (5, [jk_V i_t_clusters, jk_V i_t_size, .ref a_t_starts, .ref a_t_depth, .ref a_t_topic, .ref a_t_value, .ref a_t_nibbled])), (a_t_starts, .inr (0, [.ref a_t_starts_k])), (a_t_starts_k, jk_W cI 7 i_t_starts), (a_t_nibbled, .inr (0, [.ref a_t_nibbled_k])), (a_t_nibbled_k, jk_W cI 40 i_t_nibbled)]
set_option maxHeartbeats 4000000 in
set_option maxRecDepth 20000 in
theorem ct_Cords_onlyNibbled (l : Launch) (D : va_G) (Z : (Nat → Prop) → State → Heap → Prop) (sq : Nat → Nat) (hZ : jk_ZK Z sq) (cI cR : ClassId) (a_t a_t_starts a_t_depth a_t_topic a_t_value a_t_nibbled a_t_starts_k a_t_nibbled_k : Nat) (i_t_clusters : Int) (i_t_size : Int) (i_t_starts : (Int → Int)) (i_t_nibbled : (Int → Int)) (x1 : Int) (q : Int) (hf : fn_Cords_onlyNibbled i_t_starts i_t_nibbled x1 = some q) : jk_MI l D jk_cl (jk_ty cI cR) Z mn_Cords_onlyNibbled (.code mn_Cords_onlyNibbled mb_Cords_onlyNibbled 5 (some .int) :: jk_WA) (jk_rm 1 21) [.ref a_t, jk_V x1] (wd_Cords_onlyNibbled cI a_t a_t_starts a_t_depth a_t_topic a_t_value a_t_nibbled a_t_starts_k a_t_nibbled_k i_t_clusters i_t_size i_t_starts i_t_nibbled) (wd_Cords_onlyNibbled cI a_t a_t_starts a_t_depth a_t_topic a_t_value a_t_nibbled a_t_starts_k a_t_nibbled_k i_t_clusters i_t_size i_t_starts i_t_nibbled) q := by
  intro sz
  refine jk_body (by decide +kernel) (fun p e s m args below meth c hsz hz hin C => ?_) (Nat.le_of_ble_eq_true rfl)
  subst hsz
  unfold fn_Cords_onlyNibbled at hf
  have bk_23 : ∀ (n : Nat) (v2 : Int) (v3 : Int) (v4 : Int), fn_Cords_onlyNibbled_b23 n i_t_nibbled v2 v3 v4 = some q → jk_J p l e (jk_rm 1 21) s m args below meth c 0 0 (jk_QI below D jk_cl (jk_ty cI cR) (wd_Cords_onlyNibbled cI a_t a_t_starts a_t_depth a_t_topic a_t_value a_t_nibbled a_t_starts_k a_t_nibbled_k i_t_clusters i_t_size i_t_starts i_t_nibbled) (wd_Cords_onlyNibbled cI a_t a_t_starts a_t_depth a_t_topic a_t_value a_t_nibbled a_t_starts_k a_t_nibbled_k i_t_clusters i_t_size i_t_starts i_t_nibbled) args s q) D jk_cl (va_A (wd_Cords_onlyNibbled cI a_t a_t_starts a_t_depth a_t_topic a_t_value a_t_nibbled a_t_starts_k a_t_nibbled_k i_t_clusters i_t_size i_t_starts i_t_nibbled) s.heap.size) 5 (wd_Cords_onlyNibbled cI a_t a_t_starts a_t_depth a_t_topic a_t_value a_t_nibbled a_t_starts_k a_t_nibbled_k i_t_clusters i_t_size i_t_starts i_t_nibbled) [(0, .ref a_t), (2, jk_V v2), (3, jk_V v3), (4, jk_V v4)] 23 [] := by
    intro n
    induction n with
    | zero => intro v2 v3 v4 hf; exact nomatch (show none = some q from hf)
    | succ n ih =>
      intro v2 v3 v4 hf
      rw [fn_Cords_onlyNibbled_b23] at hf
      refine jk_iload C rd_Cords_onlyNibbled_23 (k := 3) rfl ?_
      refine jk_iload_n C rd_Cords_onlyNibbled_25 (k := 2) rfl ?_
      refine jk_icmp_ge (tgt := 57) C rd_Cords_onlyNibbled_26 (by decide) hf (fun _ hf => ?_) (fun _ hf => ?_)
      · refine jk_iload_n C rd_Cords_onlyNibbled_57 (k := 1) rfl ?_
        cases hf
        exact jk_iret C rfl rd_Cords_onlyNibbled_58 rfl
      · refine jk_aload_n C rd_Cords_onlyNibbled_29 (k := 0) rfl ?_
        refine jk_get C in_Cords (ci := 5) rfl 6 (by decide) tm_146 0 rfl rfl rd_Cords_onlyNibbled_30 ?_
        refine jk_iload C rd_Cords_onlyNibbled_33 (k := 3) rfl ?_
        obtain ⟨q35, hq35, hf⟩ := jk_bind_h hf
        refine jk_callVi C hZ.1 hz (ct_Row_get l D Z sq hZ cI cR (n_t := 40) (Nat.le_of_ble_eq_true rfl) a_t_nibbled a_t_nibbled_k i_t_nibbled v4 q35 hq35) tm_363 tm_299 tm_300 tm_3 tm_301 na_Row_get ⟨Nat.le_of_ble_eq_true rfl, Nat.le_of_ble_eq_true rfl⟩ rfl [3, 4] rfl rfl rfl (ws' := wd_Cords_onlyNibbled cI a_t a_t_starts a_t_depth a_t_topic a_t_value a_t_nibbled a_t_starts_k a_t_nibbled_k i_t_clusters i_t_size i_t_starts i_t_nibbled) rfl 3 0 rfl rfl rfl (st := []) rfl (Nat.le_of_ble_eq_true rfl) rd_Cords_onlyNibbled_35 ?_ ⟨Nat.le_of_ble_eq_true rfl, Nat.le_of_ble_eq_true rfl⟩
        refine jk_if_le (tgt := 51) C rd_Cords_onlyNibbled_38 (by decide) hf (fun _ hf => ?_) (fun _ hf => ?_)
        · refine jk_iinc C rd_Cords_onlyNibbled_51 (k := 3) rfl (by decide) (lv' := [(4, jk_V (v4 + 1)), (0, .ref a_t), (2, jk_V v2), (3, jk_V v3)]) rfl ?_
          refine jk_goto (tgt := 23) C rd_Cords_onlyNibbled_54 (by decide) ?_
          refine jk_lv (lv' := [(0, .ref a_t), (2, jk_V v2), (3, jk_V v3), (4, jk_V (v4 + 1))]) [1, 2, 3, 0] rfl ?_
          exact ih v2 v3 (v4 + 1) hf
        · refine jk_iload_n C rd_Cords_onlyNibbled_41 (k := 1) rfl ?_
          refine jk_iconst C rd_Cords_onlyNibbled_42 ?_
          refine jk_icmp_eq (tgt := 48) C rd_Cords_onlyNibbled_43 (by decide) hf (fun _ hf => ?_) (fun _ hf => ?_)
          · refine jk_iload C rd_Cords_onlyNibbled_48 (k := 3) rfl ?_
            refine jk_istore_n C rd_Cords_onlyNibbled_50 (by decide) (lv' := [(2, jk_V v4), (0, .ref a_t), (3, jk_V v3), (4, jk_V v4)]) rfl ?_
            refine jk_iinc C rd_Cords_onlyNibbled_51 (k := 3) rfl (by decide) (lv' := [(4, jk_V (v4 + 1)), (2, jk_V v4), (0, .ref a_t), (3, jk_V v3)]) rfl ?_
            refine jk_goto (tgt := 23) C rd_Cords_onlyNibbled_54 (by decide) ?_
            refine jk_lv (lv' := [(0, .ref a_t), (2, jk_V v4), (3, jk_V v3), (4, jk_V (v4 + 1))]) [2, 1, 3, 0] rfl ?_
            exact ih v4 v3 (v4 + 1) hf
          · refine jk_iconst C rd_Cords_onlyNibbled_46 ?_
            cases hf
            exact jk_iret C rfl rd_Cords_onlyNibbled_47 rfl
  refine jk_iconst C rd_Cords_onlyNibbled_0 ?_
  refine jk_istore_n C rd_Cords_onlyNibbled_1 (by decide) (lv' := [(2, jk_V ((-1))), (0, .ref a_t), (1, jk_V x1)]) rfl ?_
  refine jk_aload_n C rd_Cords_onlyNibbled_2 (k := 1) rfl ?_
  refine jk_get C in_Cords (ci := 5) rfl 2 (by decide) tm_137 0 rfl rfl rd_Cords_onlyNibbled_3 ?_
  refine jk_iload_n C rd_Cords_onlyNibbled_6 (k := 2) rfl ?_
  refine jk_iconst C rd_Cords_onlyNibbled_7 ?_
  refine jk_iadd C rd_Cords_onlyNibbled_8 ?_
  obtain ⟨q9, hq9, hf⟩ := jk_bind_h hf
  refine jk_callVi C hZ.1 hz (ct_Row_get l D Z sq hZ cI cR (n_t := 7) (Nat.le_of_ble_eq_true rfl) a_t_starts a_t_starts_k i_t_starts (x1 + 1) q9 hq9) tm_363 tm_299 tm_300 tm_3 tm_301 na_Row_get ⟨Nat.le_of_ble_eq_true rfl, Nat.le_of_ble_eq_true rfl⟩ rfl [1, 2] rfl rfl rfl (ws' := wd_Cords_onlyNibbled cI a_t a_t_starts a_t_depth a_t_topic a_t_value a_t_nibbled a_t_starts_k a_t_nibbled_k i_t_clusters i_t_size i_t_starts i_t_nibbled) rfl 1 0 rfl rfl rfl (st := []) rfl (Nat.le_of_ble_eq_true rfl) rd_Cords_onlyNibbled_9 ?_ ⟨Nat.le_of_ble_eq_true rfl, Nat.le_of_ble_eq_true rfl⟩
  refine jk_istore_n C rd_Cords_onlyNibbled_12 (by decide) (lv' := [(3, jk_V q9), (2, jk_V ((-1))), (0, .ref a_t), (1, jk_V x1)]) rfl ?_
  refine jk_aload_n C rd_Cords_onlyNibbled_13 (k := 2) rfl ?_
  refine jk_get C in_Cords (ci := 5) rfl 2 (by decide) tm_137 0 rfl rfl rd_Cords_onlyNibbled_14 ?_
  refine jk_iload_n C rd_Cords_onlyNibbled_17 (k := 3) rfl ?_
  obtain ⟨q18, hq18, hf⟩ := jk_bind_h hf
  refine jk_callVi C hZ.1 hz (ct_Row_get l D Z sq hZ cI cR (n_t := 7) (Nat.le_of_ble_eq_true rfl) a_t_starts a_t_starts_k i_t_starts x1 q18 hq18) tm_363 tm_299 tm_300 tm_3 tm_301 na_Row_get ⟨Nat.le_of_ble_eq_true rfl, Nat.le_of_ble_eq_true rfl⟩ rfl [1, 2] rfl rfl rfl (ws' := wd_Cords_onlyNibbled cI a_t a_t_starts a_t_depth a_t_topic a_t_value a_t_nibbled a_t_starts_k a_t_nibbled_k i_t_clusters i_t_size i_t_starts i_t_nibbled) rfl 1 0 rfl rfl rfl (st := []) rfl (Nat.le_of_ble_eq_true rfl) rd_Cords_onlyNibbled_18 ?_ ⟨Nat.le_of_ble_eq_true rfl, Nat.le_of_ble_eq_true rfl⟩
  refine jk_istore C rd_Cords_onlyNibbled_21 (by decide) (lv' := [(4, jk_V q18), (3, jk_V q9), (2, jk_V ((-1))), (0, .ref a_t), (1, jk_V x1)]) rfl ?_
  refine jk_lv (lv' := [(0, .ref a_t), (2, jk_V ((-1))), (3, jk_V q9), (4, jk_V q18)]) [3, 2, 1, 0] rfl ?_
  exact bk_23 jk_F ((-1)) q9 q18 hf
def wd_Cords_guess (cI : ClassId) (a_t a_t_starts a_t_depth a_t_topic a_t_value a_t_nibbled a_t_starts_k a_t_value_k a_t_nibbled_k : Nat) (i_t_clusters : Int) (i_t_size : Int) (i_t_starts : (Int → Int)) (i_t_value : (Int → Int)) (i_t_nibbled : (Int → Int)) : va_W := [(a_t, .inr (5, [jk_V i_t_clusters, jk_V i_t_size, .ref a_t_starts, .ref a_t_depth, .ref a_t_topic, .ref a_t_value, .ref a_t_nibbled])), (a_t_starts, .inr (0, [.ref a_t_starts_k])), (a_t_starts_k, jk_W cI 7 i_t_starts), (a_t_value, .inr (0, [.ref a_t_value_k])), (a_t_value_k, jk_W cI 40 i_t_value), (a_t_nibbled, .inr (0, [.ref a_t_nibbled_k])), (a_t_nibbled_k, jk_W cI 40 i_t_nibbled)]
set_option maxHeartbeats 4000000 in
set_option maxRecDepth 20000 in
theorem ct_Cords_guess (l : Launch) (D : va_G) (Z : (Nat → Prop) → State → Heap → Prop) (sq : Nat → Nat) (hZ : jk_ZK Z sq) (cI cR : ClassId) (a_t a_t_starts a_t_depth a_t_topic a_t_value a_t_nibbled a_t_starts_k a_t_value_k a_t_nibbled_k : Nat) (i_t_clusters : Int) (i_t_size : Int) (i_t_starts : (Int → Int)) (i_t_value : (Int → Int)) (i_t_nibbled : (Int → Int)) (x1 : Int) (q : Int) (hf : fn_Cords_guess i_t_starts i_t_value i_t_nibbled x1 = some q) : jk_MI l D jk_cl (jk_ty cI cR) Z mn_Cords_guess (.code mn_Cords_guess mb_Cords_guess 5 (some .int) :: jk_WA) (jk_rm 2 45) [.ref a_t, jk_V x1] (wd_Cords_guess cI a_t a_t_starts a_t_depth a_t_topic a_t_value a_t_nibbled a_t_starts_k a_t_value_k a_t_nibbled_k i_t_clusters i_t_size i_t_starts i_t_value i_t_nibbled) (wd_Cords_guess cI a_t a_t_starts a_t_depth a_t_topic a_t_value a_t_nibbled a_t_starts_k a_t_value_k a_t_nibbled_k i_t_clusters i_t_size i_t_starts i_t_value i_t_nibbled) q := by
  intro sz
  refine jk_body (by decide +kernel) (fun p e s m args below meth c hsz hz hin C => ?_) (Nat.le_of_ble_eq_true rfl)
  subst hsz
  unfold fn_Cords_guess at hf
  refine jk_aload_n C rd_Cords_guess_0 (k := 0) rfl ?_
  refine jk_get C in_Cords (ci := 5) rfl 2 (by decide) tm_137 0 rfl rfl rd_Cords_guess_1 ?_
  refine jk_iload_n C rd_Cords_guess_4 (k := 1) rfl ?_
  obtain ⟨q5, hq5, hf⟩ := jk_bind_h hf
  refine jk_callVi C hZ.1 hz (ct_Row_get l D Z sq hZ cI cR (n_t := 7) (Nat.le_of_ble_eq_true rfl) a_t_starts a_t_starts_k i_t_starts x1 q5 hq5) tm_363 tm_299 tm_300 tm_3 tm_301 na_Row_get ⟨Nat.le_of_ble_eq_true rfl, Nat.le_of_ble_eq_true rfl⟩ rfl [1, 2] rfl rfl rfl (ws' := wd_Cords_guess cI a_t a_t_starts a_t_depth a_t_topic a_t_value a_t_nibbled a_t_starts_k a_t_value_k a_t_nibbled_k i_t_clusters i_t_size i_t_starts i_t_value i_t_nibbled) rfl 1 0 rfl rfl rfl (st := []) rfl (Nat.le_of_ble_eq_true rfl) rd_Cords_guess_5 ?_ ⟨Nat.le_of_ble_eq_true rfl, Nat.le_of_ble_eq_true rfl⟩
  refine jk_istore_n C rd_Cords_guess_8 (by decide) (lv' := [(2, jk_V q5), (0, .ref a_t), (1, jk_V x1)]) rfl ?_
  refine jk_aload_n C rd_Cords_guess_9 (k := 1) rfl ?_
  refine jk_iload_n C rd_Cords_guess_10 (k := 2) rfl ?_
  obtain ⟨q11, hq11, hf⟩ := jk_bind_h hf
  refine jk_callVi C hZ.1 hz (ct_Cords_onlyNibbled l D Z sq hZ cI cR a_t a_t_starts a_t_depth a_t_topic a_t_value a_t_nibbled a_t_starts_k a_t_nibbled_k i_t_clusters i_t_size i_t_starts i_t_nibbled x1 q11 hq11) tm_560 tm_561 tm_562 tm_6 tm_563 na_Cords_onlyNibbled ⟨Nat.le_of_ble_eq_true rfl, Nat.le_of_ble_eq_true rfl⟩ rfl [0, 1, 2, 5, 6] rfl rfl rfl (ws' := wd_Cords_guess cI a_t a_t_starts a_t_depth a_t_topic a_t_value a_t_nibbled a_t_starts_k a_t_value_k a_t_nibbled_k i_t_clusters i_t_size i_t_starts i_t_value i_t_nibbled) rfl 0 5 rfl rfl rfl (st := []) rfl (Nat.le_of_ble_eq_true rfl) rd_Cords_guess_11 ?_ ⟨Nat.le_of_ble_eq_true rfl, Nat.le_of_ble_eq_true rfl⟩
  refine jk_istore_n C rd_Cords_guess_14 (by decide) (lv' := [(3, jk_V q11), (2, jk_V q5), (0, .ref a_t), (1, jk_V x1)]) rfl ?_
  refine jk_aload_n C rd_Cords_guess_15 (k := 2) rfl ?_
  refine jk_iload_n C rd_Cords_guess_16 (k := 1) rfl ?_
  refine jk_iconst C rd_Cords_guess_17 ?_
  refine jk_iadd C rd_Cords_guess_18 ?_
  refine jk_aload_n C rd_Cords_guess_19 (k := 2) rfl ?_
  refine jk_get C in_Cords (ci := 5) rfl 2 (by decide) tm_137 0 rfl rfl rd_Cords_guess_20 ?_
  refine jk_iload_n C rd_Cords_guess_23 (k := 3) rfl ?_
  refine jk_iconst C rd_Cords_guess_24 ?_
  refine jk_iadd C rd_Cords_guess_25 ?_
  obtain ⟨q26, hq26, hf⟩ := jk_bind_h hf
  refine jk_callVi C hZ.1 hz (ct_Row_get l D Z sq hZ cI cR (n_t := 7) (Nat.le_of_ble_eq_true rfl) a_t_starts a_t_starts_k i_t_starts (x1 + 1) q26 hq26) tm_363 tm_299 tm_300 tm_3 tm_301 na_Row_get ⟨Nat.le_of_ble_eq_true rfl, Nat.le_of_ble_eq_true rfl⟩ rfl [1, 2] rfl rfl rfl (ws' := wd_Cords_guess cI a_t a_t_starts a_t_depth a_t_topic a_t_value a_t_nibbled a_t_starts_k a_t_value_k a_t_nibbled_k i_t_clusters i_t_size i_t_starts i_t_value i_t_nibbled) rfl 1 0 rfl rfl rfl (st := [jk_V (q5 + 1), .ref a_t]) rfl (Nat.le_of_ble_eq_true rfl) rd_Cords_guess_26 ?_ ⟨Nat.le_of_ble_eq_true rfl, Nat.le_of_ble_eq_true rfl⟩
  obtain ⟨q29, hq29, hf⟩ := jk_bind_h hf
  refine jk_callVi C hZ.1 hz (ct_Cords_lowestSum l D Z sq hZ cI cR a_t a_t_starts a_t_depth a_t_topic a_t_value a_t_nibbled a_t_value_k i_t_clusters i_t_size i_t_value (q5 + 1) q26 q29 hq29) tm_547 tm_519 tm_520 tm_6 tm_521 na_Cords_lowestSum ⟨Nat.le_of_ble_eq_true rfl, Nat.le_of_ble_eq_true rfl⟩ rfl [0, 3, 4] rfl rfl rfl (ws' := wd_Cords_guess cI a_t a_t_starts a_t_depth a_t_topic a_t_value a_t_nibbled a_t_starts_k a_t_value_k a_t_nibbled_k i_t_clusters i_t_size i_t_starts i_t_value i_t_nibbled) rfl 0 5 rfl rfl rfl (st := []) rfl (Nat.le_of_ble_eq_true rfl) rd_Cords_guess_29 ?_ ⟨Nat.le_of_ble_eq_true rfl, Nat.le_of_ble_eq_true rfl⟩
  refine jk_istore C rd_Cords_guess_32 (by decide) (lv' := [(4, jk_V q29), (3, jk_V q11), (2, jk_V q5), (0, .ref a_t), (1, jk_V x1)]) rfl ?_
  refine jk_iload_n C rd_Cords_guess_34 (k := 1) rfl ?_
  refine jk_iload_n C rd_Cords_guess_35 (k := 2) rfl ?_
  refine jk_icmp_ne (tgt := 44) C rd_Cords_guess_36 (by decide) hf (fun _ hf => ?_) (fun _ hf => ?_)
  · refine jk_aload_n C rd_Cords_guess_44 (k := 3) rfl ?_
    refine jk_get C in_Cords (ci := 5) rfl 5 (by decide) tm_143 0 rfl rfl rd_Cords_guess_45 ?_
    refine jk_iload_n C rd_Cords_guess_48 (k := 2) rfl ?_
    obtain ⟨q49, hq49, hf⟩ := jk_bind_h hf
    refine jk_callVi C hZ.1 hz (ct_Row_get l D Z sq hZ cI cR (n_t := 40) (Nat.le_of_ble_eq_true rfl) a_t_value a_t_value_k i_t_value q5 q49 hq49) tm_363 tm_299 tm_300 tm_3 tm_301 na_Row_get ⟨Nat.le_of_ble_eq_true rfl, Nat.le_of_ble_eq_true rfl⟩ rfl [3, 4] rfl rfl rfl (ws' := wd_Cords_guess cI a_t a_t_starts a_t_depth a_t_topic a_t_value a_t_nibbled a_t_starts_k a_t_value_k a_t_nibbled_k i_t_clusters i_t_size i_t_starts i_t_value i_t_nibbled) rfl 3 0 rfl rfl rfl (st := []) rfl (Nat.le_of_ble_eq_true rfl) rd_Cords_guess_49 ?_ ⟨Nat.le_of_ble_eq_true rfl, Nat.le_of_ble_eq_true rfl⟩
    refine jk_iload C rd_Cords_guess_52 (k := 0) rfl ?_
    refine jk_aload_n C rd_Cords_guess_54 (k := 3) rfl ?_
    refine jk_get C in_Cords (ci := 5) rfl 5 (by decide) tm_143 0 rfl rfl rd_Cords_guess_55 ?_
    refine jk_iload_n C rd_Cords_guess_58 (k := 1) rfl ?_
    obtain ⟨q59, hq59, hf⟩ := jk_bind_h hf
    refine jk_callVi C hZ.1 hz (ct_Row_get l D Z sq hZ cI cR (n_t := 40) (Nat.le_of_ble_eq_true rfl) a_t_value a_t_value_k i_t_value q11 q59 hq59) tm_363 tm_299 tm_300 tm_3 tm_301 na_Row_get ⟨Nat.le_of_ble_eq_true rfl, Nat.le_of_ble_eq_true rfl⟩ rfl [3, 4] rfl rfl rfl (ws' := wd_Cords_guess cI a_t a_t_starts a_t_depth a_t_topic a_t_value a_t_nibbled a_t_starts_k a_t_value_k a_t_nibbled_k i_t_clusters i_t_size i_t_starts i_t_value i_t_nibbled) rfl 3 0 rfl rfl rfl (st := [jk_V q29, jk_V q49]) rfl (Nat.le_of_ble_eq_true rfl) rd_Cords_guess_59 ?_ ⟨Nat.le_of_ble_eq_true rfl, Nat.le_of_ble_eq_true rfl⟩
    refine jk_isub C rd_Cords_guess_62 ?_
    refine jk_isub C rd_Cords_guess_63 ?_
    cases hf
    exact jk_iret C rfl rd_Cords_guess_64 rfl
  · refine jk_iload C rd_Cords_guess_39 (k := 0) rfl ?_
    refine jk_goto (tgt := 64) C rd_Cords_guess_41 (by decide) ?_
    cases hf
    exact jk_iret C rfl rd_Cords_guess_64 rfl
def wd_Row_set (cI : ClassId) (n_t : Nat) (a_t a_t_k : Nat) (i_t_cells : (Int → Int)) : va_W := [(a_t, .inr (0, [.ref a_t_k])), (a_t_k, jk_W cI n_t i_t_cells)]
set_option maxHeartbeats 4000000 in
set_option maxRecDepth 20000 in
theorem ct_Row_set (l : Launch) (D : va_G) (Z : (Nat → Prop) → State → Heap → Prop) (sq : Nat → Nat) (hZ : jk_ZK Z sq) (cI cR : ClassId) {n_t : Nat} (hn_t : n_t < 2147483648) (a_t a_t_k : Nat) (i_t_cells : (Int → Int)) (x1 : Int) (x2 : Int) (q : (Int → Int)) (hf : fn_Row_set (n_t : Int) i_t_cells x1 x2 = some q) : jk_MV l D jk_cl (jk_ty cI cR) Z mn_Row_set (.code mn_Row_set mb_Row_set 3 none :: jk_WA) (jk_rm 0 0) [.ref a_t, jk_V x1, jk_V x2] (wd_Row_set cI n_t a_t a_t_k i_t_cells) (wd_Row_set cI n_t a_t a_t_k q) := by
  intro sz
  refine jk_body (by decide +kernel) (fun p e s m args below meth c hsz hz hin C => ?_) (Nat.le_of_ble_eq_true rfl)
  subst hsz
  unfold fn_Row_set at hf
  refine jk_iload_n C rd_Row_set_0 (k := 1) rfl ?_
  refine jk_if_lt (tgt := 20) C rd_Row_set_1 (by decide) hf (fun _ hf => ?_) (fun _ hf => ?_)
  · cases hf
    exact jk_vret C rfl rd_Row_set_20 rfl
  · refine jk_iload_n C rd_Row_set_4 (k := 1) rfl ?_
    refine jk_aload_n C rd_Row_set_5 (k := 0) rfl ?_
    refine jk_get C in_Row (ci := 0) rfl 0 (by decide) tm_60 0 rfl rfl rd_Row_set_6 ?_
    refine jk_alen C 1 0 rfl rfl rd_Row_set_9 ?_
    refine jk_icmp_ge (tgt := 20) C rd_Row_set_10 (by decide) hf (fun _ hf => ?_) (fun _ hf => ?_)
    · cases hf
      exact jk_vret C rfl rd_Row_set_20 rfl
    · refine jk_aload_n C rd_Row_set_13 (k := 0) rfl ?_
      refine jk_get C in_Row (ci := 0) rfl 0 (by decide) tm_60 0 rfl rfl rd_Row_set_14 ?_
      refine jk_iload_n C rd_Row_set_17 (k := 1) rfl ?_
      refine jk_iload_n C rd_Row_set_18 (k := 2) rfl ?_
      refine jk_iast C 1 0 rfl rfl hn_t rd_Row_set_19 hf (ws' := wd_Row_set cI n_t a_t a_t_k (jk_up i_t_cells x1 x2)) rfl (fun hf => ?_)
      cases hf
      exact jk_vret C rfl rd_Row_set_20 rfl
def wd_Cords_mend (cI : ClassId) (a_t a_t_starts a_t_depth a_t_topic a_t_value a_t_nibbled a_t_starts_k a_t_value_k a_t_nibbled_k : Nat) (i_t_clusters : Int) (i_t_size : Int) (i_t_starts : (Int → Int)) (i_t_value : (Int → Int)) (i_t_nibbled : (Int → Int)) : va_W := [(a_t, .inr (5, [jk_V i_t_clusters, jk_V i_t_size, .ref a_t_starts, .ref a_t_depth, .ref a_t_topic, .ref a_t_value, .ref a_t_nibbled])), (a_t_starts, .inr (0, [.ref a_t_starts_k])), (a_t_starts_k, jk_W cI 7 i_t_starts), (a_t_value, .inr (0, [.ref a_t_value_k])), (a_t_value_k, jk_W cI 40 i_t_value), (a_t_nibbled, .inr (0, [.ref a_t_nibbled_k])), (a_t_nibbled_k, jk_W cI 40 i_t_nibbled)]
set_option maxHeartbeats 4000000 in
set_option maxRecDepth 20000 in
theorem ct_Cords_mend (l : Launch) (D : va_G) (Z : (Nat → Prop) → State → Heap → Prop) (sq : Nat → Nat) (hZ : jk_ZK Z sq) (cI cR : ClassId) (a_t a_t_starts a_t_depth a_t_topic a_t_value a_t_nibbled a_t_starts_k a_t_value_k a_t_nibbled_k : Nat) (i_t_clusters : Int) (i_t_size : Int) (i_t_starts : (Int → Int)) (i_t_value : (Int → Int)) (i_t_nibbled : (Int → Int)) (x1 : Int) (q : Int × (Int → Int) × (Int → Int)) (hf : fn_Cords_mend i_t_starts i_t_value i_t_nibbled x1 = some q) : jk_MI l D jk_cl (jk_ty cI cR) Z mn_Cords_mend (.code mn_Cords_mend mb_Cords_mend 4 (some .int) :: jk_WA) (jk_rm 3 69) [.ref a_t, jk_V x1] (wd_Cords_mend cI a_t a_t_starts a_t_depth a_t_topic a_t_value a_t_nibbled a_t_starts_k a_t_value_k a_t_nibbled_k i_t_clusters i_t_size i_t_starts i_t_value i_t_nibbled) (wd_Cords_mend cI a_t a_t_starts a_t_depth a_t_topic a_t_value a_t_nibbled a_t_starts_k a_t_value_k a_t_nibbled_k i_t_clusters i_t_size i_t_starts q.2.1 q.2.2) q.1 := by
  intro sz
  refine jk_body (by decide +kernel) (fun p e s m args below meth c hsz hz hin C => ?_) (Nat.le_of_ble_eq_true rfl)
  subst hsz
  unfold fn_Cords_mend at hf
  refine jk_aload_n C rd_Cords_mend_0 (k := 0) rfl ?_
  refine jk_iload_n C rd_Cords_mend_1 (k := 1) rfl ?_
  obtain ⟨q2, hq2, hf⟩ := jk_bind_h hf
  refine jk_callVi C hZ.1 hz (ct_Cords_guess l D Z sq hZ cI cR a_t a_t_starts a_t_depth a_t_topic a_t_value a_t_nibbled a_t_starts_k a_t_value_k a_t_nibbled_k i_t_clusters i_t_size i_t_starts i_t_value i_t_nibbled x1 q2 hq2) tm_564 tm_565 tm_566 tm_6 tm_567 na_Cords_guess ⟨Nat.le_of_ble_eq_true rfl, Nat.le_of_ble_eq_true rfl⟩ rfl [0, 1, 2, 3, 4, 5, 6] rfl rfl rfl (ws' := wd_Cords_mend cI a_t a_t_starts a_t_depth a_t_topic a_t_value a_t_nibbled a_t_starts_k a_t_value_k a_t_nibbled_k i_t_clusters i_t_size i_t_starts i_t_value i_t_nibbled) rfl 0 5 rfl rfl rfl (st := []) rfl (Nat.le_of_ble_eq_true rfl) rd_Cords_mend_2 ?_ ⟨Nat.le_of_ble_eq_true rfl, Nat.le_of_ble_eq_true rfl⟩
  refine jk_istore_n C rd_Cords_mend_5 (by decide) (lv' := [(2, jk_V q2), (0, .ref a_t), (1, jk_V x1)]) rfl ?_
  refine jk_aload_n C rd_Cords_mend_6 (k := 1) rfl ?_
  refine jk_iload_n C rd_Cords_mend_7 (k := 2) rfl ?_
  obtain ⟨q8, hq8, hf⟩ := jk_bind_h hf
  refine jk_callVi C hZ.1 hz (ct_Cords_onlyNibbled l D Z sq hZ cI cR a_t a_t_starts a_t_depth a_t_topic a_t_value a_t_nibbled a_t_starts_k a_t_nibbled_k i_t_clusters i_t_size i_t_starts i_t_nibbled x1 q8 hq8) tm_560 tm_561 tm_562 tm_6 tm_563 na_Cords_onlyNibbled ⟨Nat.le_of_ble_eq_true rfl, Nat.le_of_ble_eq_true rfl⟩ rfl [0, 1, 2, 5, 6] rfl rfl rfl (ws' := wd_Cords_mend cI a_t a_t_starts a_t_depth a_t_topic a_t_value a_t_nibbled a_t_starts_k a_t_value_k a_t_nibbled_k i_t_clusters i_t_size i_t_starts i_t_value i_t_nibbled) rfl 0 5 rfl rfl rfl (st := []) rfl (Nat.le_of_ble_eq_true rfl) rd_Cords_mend_8 ?_ ⟨Nat.le_of_ble_eq_true rfl, Nat.le_of_ble_eq_true rfl⟩
  refine jk_istore_n C rd_Cords_mend_11 (by decide) (lv' := [(3, jk_V q8), (2, jk_V q2), (0, .ref a_t), (1, jk_V x1)]) rfl ?_
  refine jk_aload_n C rd_Cords_mend_12 (k := 2) rfl ?_
  refine jk_get C in_Cords (ci := 5) rfl 5 (by decide) tm_143 0 rfl rfl rd_Cords_mend_13 ?_
  refine jk_iload_n C rd_Cords_mend_16 (k := 0) rfl ?_
  refine jk_iload_n C rd_Cords_mend_17 (k := 1) rfl ?_
  obtain ⟨q18, hq18, hf⟩ := jk_bind_h hf
  refine jk_callVv C hZ.1 hz (ct_Row_set l D Z sq hZ cI cR (n_t := 40) (Nat.le_of_ble_eq_true rfl) a_t_value a_t_value_k i_t_value q8 q2 q18 hq18) tm_345 tm_264 tm_265 tm_3 tm_266 na_Row_set ⟨Nat.le_of_ble_eq_true rfl, Nat.le_of_ble_eq_true rfl⟩ rfl [3, 4] rfl rfl rfl (ws' := wd_Cords_mend cI a_t a_t_starts a_t_depth a_t_topic a_t_value a_t_nibbled a_t_starts_k a_t_value_k a_t_nibbled_k i_t_clusters i_t_size i_t_starts q18 i_t_nibbled) rfl 3 0 rfl rfl rfl (st := []) rfl (Nat.le_of_ble_eq_true rfl) rd_Cords_mend_18 ?_ ⟨Nat.le_of_ble_eq_true rfl, Nat.le_of_ble_eq_true rfl⟩
  refine jk_aload_n C rd_Cords_mend_21 (k := 2) rfl ?_
  refine jk_get C in_Cords (ci := 5) rfl 6 (by decide) tm_146 0 rfl rfl rd_Cords_mend_22 ?_
  refine jk_iload_n C rd_Cords_mend_25 (k := 0) rfl ?_
  refine jk_iconst C rd_Cords_mend_26 ?_
  obtain ⟨q27, hq27, hf⟩ := jk_bind_h hf
  refine jk_callVv C hZ.1 hz (ct_Row_set l D Z sq hZ cI cR (n_t := 40) (Nat.le_of_ble_eq_true rfl) a_t_nibbled a_t_nibbled_k i_t_nibbled q8 0 q27 hq27) tm_345 tm_264 tm_265 tm_3 tm_266 na_Row_set ⟨Nat.le_of_ble_eq_true rfl, Nat.le_of_ble_eq_true rfl⟩ rfl [5, 6] rfl rfl rfl (ws' := wd_Cords_mend cI a_t a_t_starts a_t_depth a_t_topic a_t_value a_t_nibbled a_t_starts_k a_t_value_k a_t_nibbled_k i_t_clusters i_t_size i_t_starts q18 q27) rfl 5 0 rfl rfl rfl (st := []) rfl (Nat.le_of_ble_eq_true rfl) rd_Cords_mend_27 ?_ ⟨Nat.le_of_ble_eq_true rfl, Nat.le_of_ble_eq_true rfl⟩
  refine jk_iload_n C rd_Cords_mend_30 (k := 1) rfl ?_
  cases hf
  exact jk_iret C rfl rd_Cords_mend_31 rfl
def wd_KR_isValue (cI : ClassId)  : va_W := []
set_option maxHeartbeats 4000000 in
set_option maxRecDepth 20000 in
theorem ct_KR_isValue (l : Launch) (D : va_G) (Z : (Nat → Prop) → State → Heap → Prop) (sq : Nat → Nat) (hZ : jk_ZK Z sq) (cI cR : ClassId) (x0 : Int) (q : Int) (hf : fn_KR_isValue x0 = some q) : jk_MI l D jk_cl (jk_ty cI cR) Z mn_KR_isValue (.code mn_KR_isValue mb_KR_isValue 1 (some .boolean) :: jk_WA) (jk_rm 0 0) [jk_V x0] (wd_KR_isValue cI) (wd_KR_isValue cI) q := by
  intro sz
  refine jk_body (by decide +kernel) (fun p e s m args below meth c hsz hz hin C => ?_) (Nat.le_of_ble_eq_true rfl)
  subst hsz
  unfold fn_KR_isValue at hf
  refine jk_iload_n C rd_KR_isValue_0 (k := 0) rfl ?_
  refine jk_if_lt (tgt := 15) C rd_KR_isValue_1 (by decide) hf (fun _ hf => ?_) (fun _ hf => ?_)
  · refine jk_iconst C rd_KR_isValue_15 ?_
    cases hf
    exact jk_zret C (Or.inl rfl) rfl rd_KR_isValue_16 rfl
  · refine jk_iload_n C rd_KR_isValue_4 (k := 0) rfl ?_
    refine jk_sipush C rd_KR_isValue_5 (by decide +kernel) ?_
    refine jk_icmp_gt (tgt := 15) C rd_KR_isValue_8 (by decide) hf (fun _ hf => ?_) (fun _ hf => ?_)
    · refine jk_iconst C rd_KR_isValue_15 ?_
      cases hf
      exact jk_zret C (Or.inl rfl) rfl rd_KR_isValue_16 rfl
    · refine jk_iconst C rd_KR_isValue_11 ?_
      refine jk_goto (tgt := 16) C rd_KR_isValue_12 (by decide) ?_
      cases hf
      exact jk_zret C (Or.inr rfl) rfl rd_KR_isValue_16 rfl
def wd_Knots_withoutLast (cI : ClassId)  : va_W := []
set_option maxHeartbeats 4000000 in
set_option maxRecDepth 20000 in
theorem ct_Knots_withoutLast (l : Launch) (D : va_G) (Z : (Nat → Prop) → State → Heap → Prop) (sq : Nat → Nat) (hZ : jk_ZK Z sq) (cI cR : ClassId) (x0 : Int) (x1 : Int) (q : Int) (hf : fn_Knots_withoutLast x0 x1 = some q) : jk_MI l D jk_cl (jk_ty cI cR) Z mn_Knots_withoutLast (.code mn_Knots_withoutLast mb_Knots_withoutLast 4 (some .int) :: jk_WA) (jk_rm 0 0) [jk_V x0, jk_V x1] (wd_Knots_withoutLast cI) (wd_Knots_withoutLast cI) q := by
  intro sz
  refine jk_body (by decide +kernel) (fun p e s m args below meth c hsz hz hin C => ?_) (Nat.le_of_ble_eq_true rfl)
  subst hsz
  unfold fn_Knots_withoutLast at hf
  have bk_4 : ∀ (n : Nat) (v1 : Int) (v2 : Int) (v3 : Int), fn_Knots_withoutLast_b4 n v1 v2 v3 = some q → jk_J p l e (jk_rm 0 0) s m args below meth c 0 0 (jk_QI below D jk_cl (jk_ty cI cR) (wd_Knots_withoutLast cI) (wd_Knots_withoutLast cI) args s q) D jk_cl (va_A (wd_Knots_withoutLast cI) s.heap.size) 4 (wd_Knots_withoutLast cI) [(1, jk_V v1), (2, jk_V v2), (3, jk_V v3)] 4 [] := by
    intro n
    induction n with
    | zero => intro v1 v2 v3 hf; exact nomatch (show none = some q from hf)
    | succ n ih =>
      intro v1 v2 v3 hf
      rw [fn_Knots_withoutLast_b4] at hf
      refine jk_iload_n C rd_Knots_withoutLast_4 (k := 2) rfl ?_
      refine jk_iload_n C rd_Knots_withoutLast_5 (k := 0) rfl ?_
      refine jk_icmp_ge (tgt := 20) C rd_Knots_withoutLast_6 (by decide) hf (fun _ hf => ?_) (fun _ hf => ?_)
      · refine jk_iload_n C rd_Knots_withoutLast_20 (k := 1) rfl ?_
        cases hf
        exact jk_iret C rfl rd_Knots_withoutLast_21 rfl
      · refine jk_iload_n C rd_Knots_withoutLast_9 (k := 1) rfl ?_
        refine jk_bipush C rd_Knots_withoutLast_10 (by decide +kernel) ?_
        refine jk_idiv C rd_Knots_withoutLast_12 hf (fun hf => ?_)
        refine jk_istore_n C rd_Knots_withoutLast_13 (by decide) (lv' := [(2, jk_V (v2 / 10)), (1, jk_V v1), (3, jk_V v3)]) rfl ?_
        refine jk_iinc C rd_Knots_withoutLast_14 (k := 2) rfl (by decide) (lv' := [(3, jk_V (v3 + 1)), (2, jk_V (v2 / 10)), (1, jk_V v1)]) rfl ?_
        refine jk_goto (tgt := 4) C rd_Knots_withoutLast_17 (by decide) ?_
        refine jk_lv (lv' := [(1, jk_V v1), (2, jk_V (v2 / 10)), (3, jk_V (v3 + 1))]) [2, 1, 0] rfl ?_
        exact ih v1 (v2 / 10) (v3 + 1) hf
  refine jk_iload_n C rd_Knots_withoutLast_0 (k := 0) rfl ?_
  refine jk_istore_n C rd_Knots_withoutLast_1 (by decide) (lv' := [(2, jk_V x0), (0, jk_V x0), (1, jk_V x1)]) rfl ?_
  refine jk_iconst C rd_Knots_withoutLast_2 ?_
  refine jk_istore_n C rd_Knots_withoutLast_3 (by decide) (lv' := [(3, jk_V 0), (2, jk_V x0), (0, jk_V x0), (1, jk_V x1)]) rfl ?_
  refine jk_lv (lv' := [(1, jk_V x1), (2, jk_V x0), (3, jk_V 0)]) [3, 1, 0] rfl ?_
  exact bk_4 jk_F x1 x0 0 hf
def wd_Knots_lose (cI : ClassId)  : va_W := []
set_option maxHeartbeats 4000000 in
set_option maxRecDepth 20000 in
theorem ct_Knots_lose (l : Launch) (D : va_G) (Z : (Nat → Prop) → State → Heap → Prop) (sq : Nat → Nat) (hZ : jk_ZK Z sq) (cI cR : ClassId) (x0 : Int) (x1 : Int) (q : Int) (hf : fn_Knots_lose x0 x1 = some q) : jk_MI l D jk_cl (jk_ty cI cR) Z mn_Knots_lose (.code mn_Knots_lose mb_Knots_lose 2 (some .int) :: jk_WA) (jk_rm 1 23) [jk_V x0, jk_V x1] (wd_Knots_lose cI) (wd_Knots_lose cI) q := by
  intro sz
  refine jk_body (by decide +kernel) (fun p e s m args below meth c hsz hz hin C => ?_) (Nat.le_of_ble_eq_true rfl)
  subst hsz
  unfold fn_Knots_lose at hf
  refine jk_iload_n C rd_Knots_lose_0 (k := 0) rfl ?_
  refine jk_iload_n C rd_Knots_lose_1 (k := 1) rfl ?_
  obtain ⟨q2, hq2, hf⟩ := jk_bind_h hf
  refine jk_callSi C hZ.1 hz (ct_Knots_withoutLast l D Z sq hZ cI cR x0 x1 q2 hq2) tm_418 tm_419 tm_14 tm_420 na_Knots_withoutLast ⟨Nat.le_of_ble_eq_true rfl, Nat.le_of_ble_eq_true rfl⟩ rfl [] rfl rfl rfl (ws' := wd_Knots_lose cI) rfl (st := []) rfl (Nat.le_of_ble_eq_true rfl) rd_Knots_lose_2 ?_ ⟨Nat.le_of_ble_eq_true rfl, Nat.le_of_ble_eq_true rfl⟩
  refine jk_iload_n C rd_Knots_lose_5 (k := 1) rfl ?_
  obtain ⟨q6, hq6, hf⟩ := jk_bind_h hf
  refine jk_callSi C hZ.1 hz (ct_Knots_power l D Z sq hZ cI cR x1 q6 hq6) tm_424 tm_425 tm_14 tm_426 na_Knots_power ⟨Nat.le_of_ble_eq_true rfl, Nat.le_of_ble_eq_true rfl⟩ rfl [] rfl rfl rfl (ws' := wd_Knots_lose cI) rfl (st := [jk_V q2]) rfl (Nat.le_of_ble_eq_true rfl) rd_Knots_lose_6 ?_ ⟨Nat.le_of_ble_eq_true rfl, Nat.le_of_ble_eq_true rfl⟩
  refine jk_imul C rd_Knots_lose_9 ?_
  cases hf
  exact jk_iret C rfl rd_Knots_lose_10 rfl
def wd_Cords_fits (cI : ClassId) (a_t a_t_starts a_t_depth a_t_topic a_t_value a_t_nibbled a_t_value_k a_t_nibbled_k : Nat) (i_t_clusters : Int) (i_t_size : Int) (i_t_value : (Int → Int)) (i_t_nibbled : (Int → Int)) : va_W := [(a_t, .inr (5, [jk_V i_t_clusters, jk_V i_t_size, .ref a_t_starts, .ref a_t_depth, .ref a_t_topic, .ref a_t_value, .ref a_t_nibbled])), (a_t_value, .inr (0, [.ref a_t_value_k])), (a_t_value_k, jk_W cI 40 i_t_value), (a_t_nibbled, .inr (0, [.ref a_t_nibbled_k])), (a_t_nibbled_k, jk_W cI 40 i_t_nibbled)]
set_option maxHeartbeats 4000000 in
set_option maxRecDepth 20000 in
theorem ct_Cords_fits (l : Launch) (D : va_G) (Z : (Nat → Prop) → State → Heap → Prop) (sq : Nat → Nat) (hZ : jk_ZK Z sq) (cI cR : ClassId) (a_t a_t_starts a_t_depth a_t_topic a_t_value a_t_nibbled a_t_value_k a_t_nibbled_k : Nat) (i_t_clusters : Int) (i_t_size : Int) (i_t_value : (Int → Int)) (i_t_nibbled : (Int → Int)) (x1 : Int) (x2 : Int) (q : Int) (hf : fn_Cords_fits i_t_value i_t_nibbled x1 x2 = some q) : jk_MI l D jk_cl (jk_ty cI cR) Z mn_Cords_fits (.code mn_Cords_fits mb_Cords_fits 3 (some .boolean) :: jk_WA) (jk_rm 2 44) [.ref a_t, jk_V x1, jk_V x2] (wd_Cords_fits cI a_t a_t_starts a_t_depth a_t_topic a_t_value a_t_nibbled a_t_value_k a_t_nibbled_k i_t_clusters i_t_size i_t_value i_t_nibbled) (wd_Cords_fits cI a_t a_t_starts a_t_depth a_t_topic a_t_value a_t_nibbled a_t_value_k a_t_nibbled_k i_t_clusters i_t_size i_t_value i_t_nibbled) q := by
  intro sz
  refine jk_body (by decide +kernel) (fun p e s m args below meth c hsz hz hin C => ?_) (Nat.le_of_ble_eq_true rfl)
  subst hsz
  unfold fn_Cords_fits at hf
  refine jk_iload_n C rd_Cords_fits_0 (k := 2) rfl ?_
  obtain ⟨q1, hq1, hf⟩ := jk_bind_h hf
  refine jk_callSNi C hZ.1 hz (ct_KR_isValue l D Z sq hZ cI cR x2 q1 hq1) (jk_nw hZ hz tn_22) tm_573 tm_1 tm_574 na_KR_isValue ⟨Nat.le_of_ble_eq_true rfl, Nat.le_of_ble_eq_true rfl⟩ rfl [] rfl rfl rfl (ws' := wd_Cords_fits cI a_t a_t_starts a_t_depth a_t_topic a_t_value a_t_nibbled a_t_value_k a_t_nibbled_k i_t_clusters i_t_size i_t_value i_t_nibbled) rfl (st := []) rfl (Nat.le_of_ble_eq_true rfl) rd_Cords_fits_1 ?_ ⟨Nat.le_of_ble_eq_true rfl, Nat.le_of_ble_eq_true rfl⟩
  refine jk_if_eq (tgt := 34) C rd_Cords_fits_4 (by decide) hf (fun _ hf => ?_) (fun _ hf => ?_)
  · refine jk_iconst C rd_Cords_fits_34 ?_
    cases hf
    exact jk_zret C (Or.inl rfl) rfl rd_Cords_fits_35 rfl
  · refine jk_iload_n C rd_Cords_fits_7 (k := 2) rfl ?_
    refine jk_aload_n C rd_Cords_fits_8 (k := 0) rfl ?_
    refine jk_get C in_Cords (ci := 5) rfl 6 (by decide) tm_146 0 rfl rfl rd_Cords_fits_9 ?_
    refine jk_iload_n C rd_Cords_fits_12 (k := 1) rfl ?_
    obtain ⟨q13, hq13, hf⟩ := jk_bind_h hf
    refine jk_callVi C hZ.1 hz (ct_Row_get l D Z sq hZ cI cR (n_t := 40) (Nat.le_of_ble_eq_true rfl) a_t_nibbled a_t_nibbled_k i_t_nibbled x1 q13 hq13) tm_363 tm_299 tm_300 tm_3 tm_301 na_Row_get ⟨Nat.le_of_ble_eq_true rfl, Nat.le_of_ble_eq_true rfl⟩ rfl [3, 4] rfl rfl rfl (ws' := wd_Cords_fits cI a_t a_t_starts a_t_depth a_t_topic a_t_value a_t_nibbled a_t_value_k a_t_nibbled_k i_t_clusters i_t_size i_t_value i_t_nibbled) rfl 3 0 rfl rfl rfl (st := [jk_V x2]) rfl (Nat.le_of_ble_eq_true rfl) rd_Cords_fits_13 ?_ ⟨Nat.le_of_ble_eq_true rfl, Nat.le_of_ble_eq_true rfl⟩
    obtain ⟨q16, hq16, hf⟩ := jk_bind_h hf
    refine jk_callSi C hZ.1 hz (ct_Knots_lose l D Z sq hZ cI cR x2 q13 q16 hq16) tm_421 tm_422 tm_14 tm_423 na_Knots_lose ⟨Nat.le_of_ble_eq_true rfl, Nat.le_of_ble_eq_true rfl⟩ rfl [] rfl rfl rfl (ws' := wd_Cords_fits cI a_t a_t_starts a_t_depth a_t_topic a_t_value a_t_nibbled a_t_value_k a_t_nibbled_k i_t_clusters i_t_size i_t_value i_t_nibbled) rfl (st := []) rfl (Nat.le_of_ble_eq_true rfl) rd_Cords_fits_16 ?_ ⟨Nat.le_of_ble_eq_true rfl, Nat.le_of_ble_eq_true rfl⟩
    refine jk_aload_n C rd_Cords_fits_19 (k := 0) rfl ?_
    refine jk_get C in_Cords (ci := 5) rfl 5 (by decide) tm_143 0 rfl rfl rd_Cords_fits_20 ?_
    refine jk_iload_n C rd_Cords_fits_23 (k := 1) rfl ?_
    obtain ⟨q24, hq24, hf⟩ := jk_bind_h hf
    refine jk_callVi C hZ.1 hz (ct_Row_get l D Z sq hZ cI cR (n_t := 40) (Nat.le_of_ble_eq_true rfl) a_t_value a_t_value_k i_t_value x1 q24 hq24) tm_363 tm_299 tm_300 tm_3 tm_301 na_Row_get ⟨Nat.le_of_ble_eq_true rfl, Nat.le_of_ble_eq_true rfl⟩ rfl [1, 2] rfl rfl rfl (ws' := wd_Cords_fits cI a_t a_t_starts a_t_depth a_t_topic a_t_value a_t_nibbled a_t_value_k a_t_nibbled_k i_t_clusters i_t_size i_t_value i_t_nibbled) rfl 1 0 rfl rfl rfl (st := [jk_V q16]) rfl (Nat.le_of_ble_eq_true rfl) rd_Cords_fits_24 ?_ ⟨Nat.le_of_ble_eq_true rfl, Nat.le_of_ble_eq_true rfl⟩
    refine jk_icmp_ne (tgt := 34) C rd_Cords_fits_27 (by decide) hf (fun _ hf => ?_) (fun _ hf => ?_)
    · refine jk_iconst C rd_Cords_fits_34 ?_
      cases hf
      exact jk_zret C (Or.inl rfl) rfl rd_Cords_fits_35 rfl
    · refine jk_iconst C rd_Cords_fits_30 ?_
      refine jk_goto (tgt := 35) C rd_Cords_fits_31 (by decide) ?_
      cases hf
      exact jk_zret C (Or.inr rfl) rfl rd_Cords_fits_35 rfl
def wd_Cords_hasTop (cI : ClassId) (a_t a_t_starts a_t_depth a_t_topic a_t_value a_t_nibbled a_t_starts_k a_t_depth_k : Nat) (i_t_clusters : Int) (i_t_size : Int) (i_t_starts : (Int → Int)) (i_t_depth : (Int → Int)) : va_W := [(a_t, .inr (5, [jk_V i_t_clusters, jk_V i_t_size, .ref a_t_starts, .ref a_t_depth, .ref a_t_topic, .ref a_t_value, .ref a_t_nibbled])), (a_t_starts, .inr (0, [.ref a_t_starts_k])), (a_t_starts_k, jk_W cI 7 i_t_starts), (a_t_depth, .inr (0, [.ref a_t_depth_k])), (a_t_depth_k, jk_W cI 40 i_t_depth)]
set_option maxHeartbeats 4000000 in
set_option maxRecDepth 20000 in
theorem ct_Cords_hasTop (l : Launch) (D : va_G) (Z : (Nat → Prop) → State → Heap → Prop) (sq : Nat → Nat) (hZ : jk_ZK Z sq) (cI cR : ClassId) (a_t a_t_starts a_t_depth a_t_topic a_t_value a_t_nibbled a_t_starts_k a_t_depth_k : Nat) (i_t_clusters : Int) (i_t_size : Int) (i_t_starts : (Int → Int)) (i_t_depth : (Int → Int)) (x1 : Int) (q : Int) (hf : fn_Cords_hasTop i_t_starts i_t_depth x1 = some q) : jk_MI l D jk_cl (jk_ty cI cR) Z mn_Cords_hasTop (.code mn_Cords_hasTop mb_Cords_hasTop 2 (some .boolean) :: jk_WA) (jk_rm 2 43) [.ref a_t, jk_V x1] (wd_Cords_hasTop cI a_t a_t_starts a_t_depth a_t_topic a_t_value a_t_nibbled a_t_starts_k a_t_depth_k i_t_clusters i_t_size i_t_starts i_t_depth) (wd_Cords_hasTop cI a_t a_t_starts a_t_depth a_t_topic a_t_value a_t_nibbled a_t_starts_k a_t_depth_k i_t_clusters i_t_size i_t_starts i_t_depth) q := by
  intro sz
  refine jk_body (by decide +kernel) (fun p e s m args below meth c hsz hz hin C => ?_) (Nat.le_of_ble_eq_true rfl)
  subst hsz
  unfold fn_Cords_hasTop at hf
  refine jk_aload_n C rd_Cords_hasTop_0 (k := 0) rfl ?_
  refine jk_iload_n C rd_Cords_hasTop_1 (k := 1) rfl ?_
  obtain ⟨q2, hq2, hf⟩ := jk_bind_h hf
  refine jk_callVi C hZ.1 hz (ct_Cords_pendantStart l D Z sq hZ cI cR a_t a_t_starts a_t_depth a_t_topic a_t_value a_t_nibbled a_t_starts_k a_t_depth_k i_t_clusters i_t_size i_t_starts i_t_depth x1 q2 hq2) tm_359 tm_360 tm_361 tm_6 tm_362 na_Cords_pendantStart ⟨Nat.le_of_ble_eq_true rfl, Nat.le_of_ble_eq_true rfl⟩ rfl [0, 1, 2, 3, 4] rfl rfl rfl (ws' := wd_Cords_hasTop cI a_t a_t_starts a_t_depth a_t_topic a_t_value a_t_nibbled a_t_starts_k a_t_depth_k i_t_clusters i_t_size i_t_starts i_t_depth) rfl 0 5 rfl rfl rfl (st := []) rfl (Nat.le_of_ble_eq_true rfl) rd_Cords_hasTop_2 ?_ ⟨Nat.le_of_ble_eq_true rfl, Nat.le_of_ble_eq_true rfl⟩
  refine jk_aload_n C rd_Cords_hasTop_5 (k := 0) rfl ?_
  refine jk_get C in_Cords (ci := 5) rfl 2 (by decide) tm_137 0 rfl rfl rd_Cords_hasTop_6 ?_
  refine jk_iload_n C rd_Cords_hasTop_9 (k := 1) rfl ?_
  obtain ⟨q10, hq10, hf⟩ := jk_bind_h hf
  refine jk_callVi C hZ.1 hz (ct_Row_get l D Z sq hZ cI cR (n_t := 7) (Nat.le_of_ble_eq_true rfl) a_t_starts a_t_starts_k i_t_starts x1 q10 hq10) tm_363 tm_299 tm_300 tm_3 tm_301 na_Row_get ⟨Nat.le_of_ble_eq_true rfl, Nat.le_of_ble_eq_true rfl⟩ rfl [1, 2] rfl rfl rfl (ws' := wd_Cords_hasTop cI a_t a_t_starts a_t_depth a_t_topic a_t_value a_t_nibbled a_t_starts_k a_t_depth_k i_t_clusters i_t_size i_t_starts i_t_depth) rfl 1 0 rfl rfl rfl (st := [jk_V q2]) rfl (Nat.le_of_ble_eq_true rfl) rd_Cords_hasTop_10 ?_ ⟨Nat.le_of_ble_eq_true rfl, Nat.le_of_ble_eq_true rfl⟩
  refine jk_icmp_le (tgt := 20) C rd_Cords_hasTop_13 (by decide) hf (fun _ hf => ?_) (fun _ hf => ?_)
  · refine jk_iconst C rd_Cords_hasTop_20 ?_
    cases hf
    exact jk_zret C (Or.inl rfl) rfl rd_Cords_hasTop_21 rfl
  · refine jk_iconst C rd_Cords_hasTop_16 ?_
    refine jk_goto (tgt := 21) C rd_Cords_hasTop_17 (by decide) ?_
    cases hf
    exact jk_zret C (Or.inr rfl) rfl rd_Cords_hasTop_21 rfl
def wd_Cords_obstacle (cI : ClassId) (a_t a_t_starts a_t_depth a_t_topic a_t_value a_t_nibbled a_t_starts_k a_t_depth_k a_t_value_k a_t_nibbled_k : Nat) (i_t_clusters : Int) (i_t_size : Int) (i_t_starts : (Int → Int)) (i_t_depth : (Int → Int)) (i_t_value : (Int → Int)) (i_t_nibbled : (Int → Int)) : va_W := [(a_t, .inr (5, [jk_V i_t_clusters, jk_V i_t_size, .ref a_t_starts, .ref a_t_depth, .ref a_t_topic, .ref a_t_value, .ref a_t_nibbled])), (a_t_starts, .inr (0, [.ref a_t_starts_k])), (a_t_starts_k, jk_W cI 7 i_t_starts), (a_t_depth, .inr (0, [.ref a_t_depth_k])), (a_t_depth_k, jk_W cI 40 i_t_depth), (a_t_value, .inr (0, [.ref a_t_value_k])), (a_t_value_k, jk_W cI 40 i_t_value), (a_t_nibbled, .inr (0, [.ref a_t_nibbled_k])), (a_t_nibbled_k, jk_W cI 40 i_t_nibbled)]
set_option maxHeartbeats 4000000 in
set_option maxRecDepth 20000 in
theorem ct_Cords_obstacle (l : Launch) (D : va_G) (Z : (Nat → Prop) → State → Heap → Prop) (sq : Nat → Nat) (hZ : jk_ZK Z sq) (cI cR : ClassId) (a_t a_t_starts a_t_depth a_t_topic a_t_value a_t_nibbled a_t_starts_k a_t_depth_k a_t_value_k a_t_nibbled_k : Nat) (i_t_clusters : Int) (i_t_size : Int) (i_t_starts : (Int → Int)) (i_t_depth : (Int → Int)) (i_t_value : (Int → Int)) (i_t_nibbled : (Int → Int)) (x1 : Int) (q : Int) (hf : fn_Cords_obstacle i_t_starts i_t_depth i_t_value i_t_nibbled x1 = some q) : jk_MI l D jk_cl (jk_ty cI cR) Z mn_Cords_obstacle (.code mn_Cords_obstacle mb_Cords_obstacle 3 (some .int) :: jk_WA) (jk_rm 3 69) [.ref a_t, jk_V x1] (wd_Cords_obstacle cI a_t a_t_starts a_t_depth a_t_topic a_t_value a_t_nibbled a_t_starts_k a_t_depth_k a_t_value_k a_t_nibbled_k i_t_clusters i_t_size i_t_starts i_t_depth i_t_value i_t_nibbled) (wd_Cords_obstacle cI a_t a_t_starts a_t_depth a_t_topic a_t_value a_t_nibbled a_t_starts_k a_t_depth_k a_t_value_k a_t_nibbled_k i_t_clusters i_t_size i_t_starts i_t_depth i_t_value i_t_nibbled) q := by
  intro sz
  refine jk_body (by decide +kernel) (fun p e s m args below meth c hsz hz hin C => ?_) (Nat.le_of_ble_eq_true rfl)
  subst hsz
  unfold fn_Cords_obstacle at hf
  refine jk_aload_n C rd_Cords_obstacle_0 (k := 0) rfl ?_
  refine jk_iload_n C rd_Cords_obstacle_1 (k := 1) rfl ?_
  obtain ⟨q2, hq2, hf⟩ := jk_bind_h hf
  refine jk_callVi C hZ.1 hz (ct_Cords_hasTop l D Z sq hZ cI cR a_t a_t_starts a_t_depth a_t_topic a_t_value a_t_nibbled a_t_starts_k a_t_depth_k i_t_clusters i_t_size i_t_starts i_t_depth x1 q2 hq2) tm_558 tm_356 tm_357 tm_6 tm_358 na_Cords_hasTop ⟨Nat.le_of_ble_eq_true rfl, Nat.le_of_ble_eq_true rfl⟩ rfl [0, 1, 2, 3, 4] rfl rfl rfl (ws' := wd_Cords_obstacle cI a_t a_t_starts a_t_depth a_t_topic a_t_value a_t_nibbled a_t_starts_k a_t_depth_k a_t_value_k a_t_nibbled_k i_t_clusters i_t_size i_t_starts i_t_depth i_t_value i_t_nibbled) rfl 0 5 rfl rfl rfl (st := []) rfl (Nat.le_of_ble_eq_true rfl) rd_Cords_obstacle_2 ?_ ⟨Nat.le_of_ble_eq_true rfl, Nat.le_of_ble_eq_true rfl⟩
  refine jk_if_ne (tgt := 10) C rd_Cords_obstacle_5 (by decide) hf (fun _ hf => ?_) (fun _ hf => ?_)
  · refine jk_aload_n C rd_Cords_obstacle_10 (k := 0) rfl ?_
    refine jk_aload_n C rd_Cords_obstacle_11 (k := 0) rfl ?_
    refine jk_iload_n C rd_Cords_obstacle_12 (k := 1) rfl ?_
    obtain ⟨q13, hq13, hf⟩ := jk_bind_h hf
    refine jk_callVi C hZ.1 hz (ct_Cords_start l D Z sq hZ cI cR a_t a_t_starts a_t_depth a_t_topic a_t_value a_t_nibbled a_t_starts_k i_t_clusters i_t_size i_t_starts x1 q13 hq13) tm_559 tm_372 tm_373 tm_6 tm_374 na_Cords_start ⟨Nat.le_of_ble_eq_true rfl, Nat.le_of_ble_eq_true rfl⟩ rfl [0, 1, 2] rfl rfl rfl (ws' := wd_Cords_obstacle cI a_t a_t_starts a_t_depth a_t_topic a_t_value a_t_nibbled a_t_starts_k a_t_depth_k a_t_value_k a_t_nibbled_k i_t_clusters i_t_size i_t_starts i_t_depth i_t_value i_t_nibbled) rfl 0 5 rfl rfl rfl (st := [.ref a_t]) rfl (Nat.le_of_ble_eq_true rfl) rd_Cords_obstacle_13 ?_ ⟨Nat.le_of_ble_eq_true rfl, Nat.le_of_ble_eq_true rfl⟩
    refine jk_aload_n C rd_Cords_obstacle_16 (k := 0) rfl ?_
    refine jk_iload_n C rd_Cords_obstacle_17 (k := 1) rfl ?_
    obtain ⟨q18, hq18, hf⟩ := jk_bind_h hf
    refine jk_callVi C hZ.1 hz (ct_Cords_end l D Z sq hZ cI cR a_t a_t_starts a_t_depth a_t_topic a_t_value a_t_nibbled a_t_starts_k i_t_clusters i_t_size i_t_starts x1 q18 hq18) tm_541 tm_502 tm_503 tm_6 tm_504 na_Cords_end ⟨Nat.le_of_ble_eq_true rfl, Nat.le_of_ble_eq_true rfl⟩ rfl [0, 1, 2] rfl rfl rfl (ws' := wd_Cords_obstacle cI a_t a_t_starts a_t_depth a_t_topic a_t_value a_t_nibbled a_t_starts_k a_t_depth_k a_t_value_k a_t_nibbled_k i_t_clusters i_t_size i_t_starts i_t_depth i_t_value i_t_nibbled) rfl 0 5 rfl rfl rfl (st := [jk_V q13, .ref a_t]) rfl (Nat.le_of_ble_eq_true rfl) rd_Cords_obstacle_18 ?_ ⟨Nat.le_of_ble_eq_true rfl, Nat.le_of_ble_eq_true rfl⟩
    obtain ⟨q21, hq21, hf⟩ := jk_bind_h hf
    refine jk_callVi C hZ.1 hz (ct_Cords_nibbledAmong l D Z sq hZ cI cR a_t a_t_starts a_t_depth a_t_topic a_t_value a_t_nibbled a_t_nibbled_k i_t_clusters i_t_size i_t_nibbled q13 q18 q21 hq21) tm_542 tm_523 tm_524 tm_6 tm_525 na_Cords_nibbledAmong ⟨Nat.le_of_ble_eq_true rfl, Nat.le_of_ble_eq_true rfl⟩ rfl [0, 7, 8] rfl rfl rfl (ws' := wd_Cords_obstacle cI a_t a_t_starts a_t_depth a_t_topic a_t_value a_t_nibbled a_t_starts_k a_t_depth_k a_t_value_k a_t_nibbled_k i_t_clusters i_t_size i_t_starts i_t_depth i_t_value i_t_nibbled) rfl 0 5 rfl rfl rfl (st := []) rfl (Nat.le_of_ble_eq_true rfl) rd_Cords_obstacle_21 ?_ ⟨Nat.le_of_ble_eq_true rfl, Nat.le_of_ble_eq_true rfl⟩
    refine jk_istore_n C rd_Cords_obstacle_24 (by decide) (lv' := [(2, jk_V q21), (0, .ref a_t), (1, jk_V x1)]) rfl ?_
    refine jk_iload_n C rd_Cords_obstacle_25 (k := 0) rfl ?_
    refine jk_if_ne (tgt := 31) C rd_Cords_obstacle_26 (by decide) hf (fun _ hf => ?_) (fun _ hf => ?_)
    · refine jk_iload_n C rd_Cords_obstacle_31 (k := 0) rfl ?_
      refine jk_iconst C rd_Cords_obstacle_32 ?_
      refine jk_icmp_le (tgt := 38) C rd_Cords_obstacle_33 (by decide) hf (fun _ hf => ?_) (fun _ hf => ?_)
      · refine jk_aload_n C rd_Cords_obstacle_38 (k := 1) rfl ?_
        refine jk_aload_n C rd_Cords_obstacle_39 (k := 1) rfl ?_
        refine jk_iload_n C rd_Cords_obstacle_40 (k := 2) rfl ?_
        obtain ⟨q41, hq41, hf⟩ := jk_bind_h hf
        refine jk_callVi C hZ.1 hz (ct_Cords_onlyNibbled l D Z sq hZ cI cR a_t a_t_starts a_t_depth a_t_topic a_t_value a_t_nibbled a_t_starts_k a_t_nibbled_k i_t_clusters i_t_size i_t_starts i_t_nibbled x1 q41 hq41) tm_560 tm_561 tm_562 tm_6 tm_563 na_Cords_onlyNibbled ⟨Nat.le_of_ble_eq_true rfl, Nat.le_of_ble_eq_true rfl⟩ rfl [0, 1, 2, 7, 8] rfl rfl rfl (ws' := wd_Cords_obstacle cI a_t a_t_starts a_t_depth a_t_topic a_t_value a_t_nibbled a_t_starts_k a_t_depth_k a_t_value_k a_t_nibbled_k i_t_clusters i_t_size i_t_starts i_t_depth i_t_value i_t_nibbled) rfl 0 5 rfl rfl rfl (st := [.ref a_t]) rfl (Nat.le_of_ble_eq_true rfl) rd_Cords_obstacle_41 ?_ ⟨Nat.le_of_ble_eq_true rfl, Nat.le_of_ble_eq_true rfl⟩
        refine jk_aload_n C rd_Cords_obstacle_44 (k := 1) rfl ?_
        refine jk_iload_n C rd_Cords_obstacle_45 (k := 2) rfl ?_
        obtain ⟨q46, hq46, hf⟩ := jk_bind_h hf
        refine jk_callVi C hZ.1 hz (ct_Cords_guess l D Z sq hZ cI cR a_t a_t_starts a_t_depth a_t_topic a_t_value a_t_nibbled a_t_starts_k a_t_value_k a_t_nibbled_k i_t_clusters i_t_size i_t_starts i_t_value i_t_nibbled x1 q46 hq46) tm_564 tm_565 tm_566 tm_6 tm_567 na_Cords_guess ⟨Nat.le_of_ble_eq_true rfl, Nat.le_of_ble_eq_true rfl⟩ rfl [0, 1, 2, 5, 6, 7, 8] rfl rfl rfl (ws' := wd_Cords_obstacle cI a_t a_t_starts a_t_depth a_t_topic a_t_value a_t_nibbled a_t_starts_k a_t_depth_k a_t_value_k a_t_nibbled_k i_t_clusters i_t_size i_t_starts i_t_depth i_t_value i_t_nibbled) rfl 0 5 rfl rfl rfl (st := [jk_V q41, .ref a_t]) rfl (Nat.le_of_ble_eq_true rfl) rd_Cords_obstacle_46 ?_ ⟨Nat.le_of_ble_eq_true rfl, Nat.le_of_ble_eq_true rfl⟩
        obtain ⟨q49, hq49, hf⟩ := jk_bind_h hf
        refine jk_callVi C hZ.1 hz (ct_Cords_fits l D Z sq hZ cI cR a_t a_t_starts a_t_depth a_t_topic a_t_value a_t_nibbled a_t_value_k a_t_nibbled_k i_t_clusters i_t_size i_t_value i_t_nibbled q41 q46 q49 hq49) tm_568 tm_570 sl_5 tm_6 tm_571 na_Cords_fits ⟨Nat.le_of_ble_eq_true rfl, Nat.le_of_ble_eq_true rfl⟩ rfl [0, 5, 6, 7, 8] rfl rfl rfl (ws' := wd_Cords_obstacle cI a_t a_t_starts a_t_depth a_t_topic a_t_value a_t_nibbled a_t_starts_k a_t_depth_k a_t_value_k a_t_nibbled_k i_t_clusters i_t_size i_t_starts i_t_depth i_t_value i_t_nibbled) rfl 0 5 rfl rfl rfl (st := []) rfl (Nat.le_of_ble_eq_true rfl) rd_Cords_obstacle_49 ?_ ⟨Nat.le_of_ble_eq_true rfl, Nat.le_of_ble_eq_true rfl⟩
        refine jk_if_eq (tgt := 59) C rd_Cords_obstacle_52 (by decide) hf (fun _ hf => ?_) (fun _ hf => ?_)
        · refine jk_iconst C rd_Cords_obstacle_59 ?_
          cases hf
          exact jk_iret C rfl rd_Cords_obstacle_60 rfl
        · refine jk_iconst C rd_Cords_obstacle_55 ?_
          refine jk_goto (tgt := 60) C rd_Cords_obstacle_56 (by decide) ?_
          cases hf
          exact jk_iret C rfl rd_Cords_obstacle_60 rfl
      · refine jk_iconst C rd_Cords_obstacle_36 ?_
        cases hf
        exact jk_iret C rfl rd_Cords_obstacle_37 rfl
    · refine jk_iconst C rd_Cords_obstacle_29 ?_
      cases hf
      exact jk_iret C rfl rd_Cords_obstacle_30 rfl
  · refine jk_iconst C rd_Cords_obstacle_8 ?_
    cases hf
    exact jk_iret C rfl rd_Cords_obstacle_9 rfl
def wd_Cords_state (cI : ClassId) (a_t a_t_starts a_t_depth a_t_topic a_t_value a_t_nibbled a_t_starts_k a_t_depth_k a_t_value_k a_t_nibbled_k : Nat) (i_t_clusters : Int) (i_t_size : Int) (i_t_starts : (Int → Int)) (i_t_depth : (Int → Int)) (i_t_value : (Int → Int)) (i_t_nibbled : (Int → Int)) : va_W := [(a_t, .inr (5, [jk_V i_t_clusters, jk_V i_t_size, .ref a_t_starts, .ref a_t_depth, .ref a_t_topic, .ref a_t_value, .ref a_t_nibbled])), (a_t_starts, .inr (0, [.ref a_t_starts_k])), (a_t_starts_k, jk_W cI 7 i_t_starts), (a_t_depth, .inr (0, [.ref a_t_depth_k])), (a_t_depth_k, jk_W cI 40 i_t_depth), (a_t_value, .inr (0, [.ref a_t_value_k])), (a_t_value_k, jk_W cI 40 i_t_value), (a_t_nibbled, .inr (0, [.ref a_t_nibbled_k])), (a_t_nibbled_k, jk_W cI 40 i_t_nibbled)]
set_option maxHeartbeats 4000000 in
set_option maxRecDepth 20000 in
theorem ct_Cords_state (l : Launch) (D : va_G) (Z : (Nat → Prop) → State → Heap → Prop) (sq : Nat → Nat) (hZ : jk_ZK Z sq) (cI cR : ClassId) (a_t a_t_starts a_t_depth a_t_topic a_t_value a_t_nibbled a_t_starts_k a_t_depth_k a_t_value_k a_t_nibbled_k : Nat) (i_t_clusters : Int) (i_t_size : Int) (i_t_starts : (Int → Int)) (i_t_depth : (Int → Int)) (i_t_value : (Int → Int)) (i_t_nibbled : (Int → Int)) (x1 : Int) (q : Int) (hf : fn_Cords_state i_t_starts i_t_depth i_t_value i_t_nibbled x1 = some q) : jk_MI l D jk_cl (jk_ty cI cR) Z mn_Cords_state (.code mn_Cords_state mb_Cords_state 3 (some .int) :: jk_WA) (jk_rm 3 66) [.ref a_t, jk_V x1] (wd_Cords_state cI a_t a_t_starts a_t_depth a_t_topic a_t_value a_t_nibbled a_t_starts_k a_t_depth_k a_t_value_k a_t_nibbled_k i_t_clusters i_t_size i_t_starts i_t_depth i_t_value i_t_nibbled) (wd_Cords_state cI a_t a_t_starts a_t_depth a_t_topic a_t_value a_t_nibbled a_t_starts_k a_t_depth_k a_t_value_k a_t_nibbled_k i_t_clusters i_t_size i_t_starts i_t_depth i_t_value i_t_nibbled) q := by
  intro sz
  refine jk_body (by decide +kernel) (fun p e s m args below meth c hsz hz hin C => ?_) (Nat.le_of_ble_eq_true rfl)
  subst hsz
  unfold fn_Cords_state at hf
  refine jk_aload_n C rd_Cords_state_0 (k := 0) rfl ?_
  refine jk_iload_n C rd_Cords_state_1 (k := 1) rfl ?_
  obtain ⟨q2, hq2, hf⟩ := jk_bind_h hf
  refine jk_callVi C hZ.1 hz (ct_Cords_hasTop l D Z sq hZ cI cR a_t a_t_starts a_t_depth a_t_topic a_t_value a_t_nibbled a_t_starts_k a_t_depth_k i_t_clusters i_t_size i_t_starts i_t_depth x1 q2 hq2) tm_558 tm_356 tm_357 tm_6 tm_358 na_Cords_hasTop ⟨Nat.le_of_ble_eq_true rfl, Nat.le_of_ble_eq_true rfl⟩ rfl [0, 1, 2, 3, 4] rfl rfl rfl (ws' := wd_Cords_state cI a_t a_t_starts a_t_depth a_t_topic a_t_value a_t_nibbled a_t_starts_k a_t_depth_k a_t_value_k a_t_nibbled_k i_t_clusters i_t_size i_t_starts i_t_depth i_t_value i_t_nibbled) rfl 0 5 rfl rfl rfl (st := []) rfl (Nat.le_of_ble_eq_true rfl) rd_Cords_state_2 ?_ ⟨Nat.le_of_ble_eq_true rfl, Nat.le_of_ble_eq_true rfl⟩
  refine jk_if_ne (tgt := 10) C rd_Cords_state_5 (by decide) hf (fun _ hf => ?_) (fun _ hf => ?_)
  · refine jk_aload_n C rd_Cords_state_10 (k := 0) rfl ?_
    refine jk_iload_n C rd_Cords_state_11 (k := 1) rfl ?_
    obtain ⟨q12, hq12, hf⟩ := jk_bind_h hf
    refine jk_callVi C hZ.1 hz (ct_Cords_start l D Z sq hZ cI cR a_t a_t_starts a_t_depth a_t_topic a_t_value a_t_nibbled a_t_starts_k i_t_clusters i_t_size i_t_starts x1 q12 hq12) tm_559 tm_372 tm_373 tm_6 tm_374 na_Cords_start ⟨Nat.le_of_ble_eq_true rfl, Nat.le_of_ble_eq_true rfl⟩ rfl [0, 1, 2] rfl rfl rfl (ws' := wd_Cords_state cI a_t a_t_starts a_t_depth a_t_topic a_t_value a_t_nibbled a_t_starts_k a_t_depth_k a_t_value_k a_t_nibbled_k i_t_clusters i_t_size i_t_starts i_t_depth i_t_value i_t_nibbled) rfl 0 5 rfl rfl rfl (st := []) rfl (Nat.le_of_ble_eq_true rfl) rd_Cords_state_12 ?_ ⟨Nat.le_of_ble_eq_true rfl, Nat.le_of_ble_eq_true rfl⟩
    refine jk_istore_n C rd_Cords_state_15 (by decide) (lv' := [(2, jk_V q12), (0, .ref a_t), (1, jk_V x1)]) rfl ?_
    refine jk_aload_n C rd_Cords_state_16 (k := 1) rfl ?_
    refine jk_iload_n C rd_Cords_state_17 (k := 0) rfl ?_
    refine jk_aload_n C rd_Cords_state_18 (k := 1) rfl ?_
    refine jk_iload_n C rd_Cords_state_19 (k := 2) rfl ?_
    obtain ⟨q20, hq20, hf⟩ := jk_bind_h hf
    refine jk_callVi C hZ.1 hz (ct_Cords_end l D Z sq hZ cI cR a_t a_t_starts a_t_depth a_t_topic a_t_value a_t_nibbled a_t_starts_k i_t_clusters i_t_size i_t_starts x1 q20 hq20) tm_541 tm_502 tm_503 tm_6 tm_504 na_Cords_end ⟨Nat.le_of_ble_eq_true rfl, Nat.le_of_ble_eq_true rfl⟩ rfl [0, 1, 2] rfl rfl rfl (ws' := wd_Cords_state cI a_t a_t_starts a_t_depth a_t_topic a_t_value a_t_nibbled a_t_starts_k a_t_depth_k a_t_value_k a_t_nibbled_k i_t_clusters i_t_size i_t_starts i_t_depth i_t_value i_t_nibbled) rfl 0 5 rfl rfl rfl (st := [jk_V q12, .ref a_t]) rfl (Nat.le_of_ble_eq_true rfl) rd_Cords_state_20 ?_ ⟨Nat.le_of_ble_eq_true rfl, Nat.le_of_ble_eq_true rfl⟩
    obtain ⟨q23, hq23, hf⟩ := jk_bind_h hf
    refine jk_callVi C hZ.1 hz (ct_Cords_nibbledAmong l D Z sq hZ cI cR a_t a_t_starts a_t_depth a_t_topic a_t_value a_t_nibbled a_t_nibbled_k i_t_clusters i_t_size i_t_nibbled q12 q20 q23 hq23) tm_542 tm_523 tm_524 tm_6 tm_525 na_Cords_nibbledAmong ⟨Nat.le_of_ble_eq_true rfl, Nat.le_of_ble_eq_true rfl⟩ rfl [0, 7, 8] rfl rfl rfl (ws' := wd_Cords_state cI a_t a_t_starts a_t_depth a_t_topic a_t_value a_t_nibbled a_t_starts_k a_t_depth_k a_t_value_k a_t_nibbled_k i_t_clusters i_t_size i_t_starts i_t_depth i_t_value i_t_nibbled) rfl 0 5 rfl rfl rfl (st := []) rfl (Nat.le_of_ble_eq_true rfl) rd_Cords_state_23 ?_ ⟨Nat.le_of_ble_eq_true rfl, Nat.le_of_ble_eq_true rfl⟩
    refine jk_if_le (tgt := 31) C rd_Cords_state_26 (by decide) hf (fun _ hf => ?_) (fun _ hf => ?_)
    · refine jk_aload_n C rd_Cords_state_31 (k := 1) rfl ?_
      refine jk_get C in_Cords (ci := 5) rfl 5 (by decide) tm_143 0 rfl rfl rd_Cords_state_32 ?_
      refine jk_iload_n C rd_Cords_state_35 (k := 0) rfl ?_
      obtain ⟨q36, hq36, hf⟩ := jk_bind_h hf
      refine jk_callVi C hZ.1 hz (ct_Row_get l D Z sq hZ cI cR (n_t := 40) (Nat.le_of_ble_eq_true rfl) a_t_value a_t_value_k i_t_value q12 q36 hq36) tm_363 tm_299 tm_300 tm_3 tm_301 na_Row_get ⟨Nat.le_of_ble_eq_true rfl, Nat.le_of_ble_eq_true rfl⟩ rfl [5, 6] rfl rfl rfl (ws' := wd_Cords_state cI a_t a_t_starts a_t_depth a_t_topic a_t_value a_t_nibbled a_t_starts_k a_t_depth_k a_t_value_k a_t_nibbled_k i_t_clusters i_t_size i_t_starts i_t_depth i_t_value i_t_nibbled) rfl 5 0 rfl rfl rfl (st := []) rfl (Nat.le_of_ble_eq_true rfl) rd_Cords_state_36 ?_ ⟨Nat.le_of_ble_eq_true rfl, Nat.le_of_ble_eq_true rfl⟩
      refine jk_aload_n C rd_Cords_state_39 (k := 1) rfl ?_
      refine jk_iload_n C rd_Cords_state_40 (k := 2) rfl ?_
      obtain ⟨q41, hq41, hf⟩ := jk_bind_h hf
      refine jk_callVi C hZ.1 hz (ct_Cords_sum l D Z sq hZ cI cR a_t a_t_starts a_t_depth a_t_topic a_t_value a_t_nibbled a_t_starts_k a_t_depth_k a_t_value_k i_t_clusters i_t_size i_t_starts i_t_depth i_t_value x1 q41 hq41) tm_584 tm_544 tm_545 tm_6 tm_546 na_Cords_sum ⟨Nat.le_of_ble_eq_true rfl, Nat.le_of_ble_eq_true rfl⟩ rfl [0, 1, 2, 3, 4, 5, 6] rfl rfl rfl (ws' := wd_Cords_state cI a_t a_t_starts a_t_depth a_t_topic a_t_value a_t_nibbled a_t_starts_k a_t_depth_k a_t_value_k a_t_nibbled_k i_t_clusters i_t_size i_t_starts i_t_depth i_t_value i_t_nibbled) rfl 0 5 rfl rfl rfl (st := [jk_V q36]) rfl (Nat.le_of_ble_eq_true rfl) rd_Cords_state_41 ?_ ⟨Nat.le_of_ble_eq_true rfl, Nat.le_of_ble_eq_true rfl⟩
      refine jk_icmp_ne (tgt := 51) C rd_Cords_state_44 (by decide) hf (fun _ hf => ?_) (fun _ hf => ?_)
      · refine jk_iconst C rd_Cords_state_51 ?_
        cases hf
        exact jk_iret C rfl rd_Cords_state_52 rfl
      · refine jk_iconst C rd_Cords_state_47 ?_
        refine jk_goto (tgt := 52) C rd_Cords_state_48 (by decide) ?_
        cases hf
        exact jk_iret C rfl rd_Cords_state_52 rfl
    · refine jk_iconst C rd_Cords_state_29 ?_
      cases hf
      exact jk_iret C rfl rd_Cords_state_30 rfl
  · refine jk_iconst C rd_Cords_state_8 ?_
    cases hf
    exact jk_iret C rfl rd_Cords_state_9 rfl
def wd_Check_guesses (cI : ClassId) (a_a a_a_starts a_a_depth a_a_topic a_a_value a_a_nibbled a_a_starts_k a_a_depth_k a_a_topic_k a_a_value_k a_a_nibbled_k a_b a_b_starts a_b_depth a_b_topic a_b_value a_b_nibbled a_b_starts_k a_b_depth_k a_b_topic_k a_b_value_k a_b_nibbled_k : Nat) (i_a_clusters : Int) (i_a_size : Int) (i_a_starts : (Int → Int)) (i_a_depth : (Int → Int)) (i_a_topic : (Int → Int)) (i_a_value : (Int → Int)) (i_a_nibbled : (Int → Int)) (i_b_clusters : Int) (i_b_size : Int) (i_b_starts : (Int → Int)) (i_b_depth : (Int → Int)) (i_b_topic : (Int → Int)) (i_b_value : (Int → Int)) (i_b_nibbled : (Int → Int)) : va_W := [(a_a, .inr (5, [jk_V i_a_clusters, jk_V i_a_size, .ref a_a_starts, .ref a_a_depth, .ref a_a_topic, .ref a_a_value, .ref a_a_nibbled])), (a_a_starts, .inr (0, [.ref a_a_starts_k])), (a_a_starts_k, jk_W cI 7 i_a_starts), (a_a_depth, .inr (0, [.ref a_a_depth_k])), (a_a_depth_k, jk_W cI 40 i_a_depth), (a_a_topic, .inr (0, [.ref a_a_topic_k])), (a_a_topic_k, jk_W cI 40 i_a_topic), (a_a_value, .inr (0, [.ref a_a_value_k])), (a_a_value_k, jk_W cI 40 i_a_value), (a_a_nibbled, .inr (0, [.ref a_a_nibbled_k])), (a_a_nibbled_k, jk_W cI 40 i_a_nibbled), (a_b, .inr (5, [jk_V i_b_clusters, jk_V i_b_size, .ref a_b_starts, .ref a_b_depth, .ref a_b_topic, .ref a_b_value, .ref a_b_nibbled])), (a_b_starts, .inr (0, [.ref a_b_starts_k])), (a_b_starts_k, jk_W cI 7 i_b_starts), (a_b_depth, .inr (0, [.ref a_b_depth_k])), (a_b_depth_k, jk_W cI 40 i_b_depth), (a_b_topic, .inr (0, [.ref a_b_topic_k])), (a_b_topic_k, jk_W cI 40 i_b_topic), (a_b_value, .inr (0, [.ref a_b_value_k])), (a_b_value_k, jk_W cI 40 i_b_value), (a_b_nibbled, .inr (0, [.ref a_b_nibbled_k])), (a_b_nibbled_k, jk_W cI 40 i_b_nibbled)]
set_option maxHeartbeats 4000000 in
set_option maxRecDepth 20000 in
theorem ct_Check_guesses (l : Launch) (D : va_G) (Z : (Nat → Prop) → State → Heap → Prop) (sq : Nat → Nat) (hZ : jk_ZK Z sq) (cI cR : ClassId) (a_a a_a_starts a_a_depth a_a_topic a_a_value a_a_nibbled a_a_starts_k a_a_depth_k a_a_topic_k a_a_value_k a_a_nibbled_k a_b a_b_starts a_b_depth a_b_topic a_b_value a_b_nibbled a_b_starts_k a_b_depth_k a_b_topic_k a_b_value_k a_b_nibbled_k : Nat) (i_a_clusters : Int) (i_a_size : Int) (i_a_starts : (Int → Int)) (i_a_depth : (Int → Int)) (i_a_topic : (Int → Int)) (i_a_value : (Int → Int)) (i_a_nibbled : (Int → Int)) (i_b_clusters : Int) (i_b_size : Int) (i_b_starts : (Int → Int)) (i_b_depth : (Int → Int)) (i_b_topic : (Int → Int)) (i_b_value : (Int → Int)) (i_b_nibbled : (Int → Int)) (q : Int × Int × Int × (Int → Int) × (Int → Int) × (Int → Int) × (Int → Int) × (Int → Int)) (hf : fn_Check_guesses i_a_clusters i_a_size i_a_starts i_a_depth i_a_topic i_a_value i_a_nibbled i_b_clusters i_b_size i_b_starts i_b_depth i_b_topic i_b_value i_b_nibbled = some q) : jk_MI l D jk_cl (jk_ty cI cR) Z mn_Check_guesses (.code mn_Check_guesses mb_Check_guesses 3 (some .boolean) :: jk_WA) (jk_rm 4 92) [.ref a_a, .ref a_b] (wd_Check_guesses cI a_a a_a_starts a_a_depth a_a_topic a_a_value a_a_nibbled a_a_starts_k a_a_depth_k a_a_topic_k a_a_value_k a_a_nibbled_k a_b a_b_starts a_b_depth a_b_topic a_b_value a_b_nibbled a_b_starts_k a_b_depth_k a_b_topic_k a_b_value_k a_b_nibbled_k i_a_clusters i_a_size i_a_starts i_a_depth i_a_topic i_a_value i_a_nibbled i_b_clusters i_b_size i_b_starts i_b_depth i_b_topic i_b_value i_b_nibbled) (wd_Check_guesses cI a_a a_a_starts a_a_depth a_a_topic a_a_value a_a_nibbled a_a_starts_k a_a_depth_k a_a_topic_k a_a_value_k a_a_nibbled_k a_b a_b_starts a_b_depth a_b_topic a_b_value a_b_nibbled a_b_starts_k a_b_depth_k a_b_topic_k a_b_value_k a_b_nibbled_k i_a_clusters i_a_size i_a_starts i_a_depth i_a_topic i_a_value i_a_nibbled q.2.1 q.2.2.1 q.2.2.2.1 q.2.2.2.2.1 q.2.2.2.2.2.1 q.2.2.2.2.2.2.1 q.2.2.2.2.2.2.2) q.1 := by
  intro sz
  refine jk_body (by decide +kernel) (fun p e s m args below meth c hsz hz hin C => ?_) (Nat.le_of_ble_eq_true rfl)
  subst hsz
  unfold fn_Check_guesses at hf
  have bk_2 : ∀ (n : Nat) (b_clusters : Int) (b_size : Int) (b_starts : (Int → Int)) (b_depth : (Int → Int)) (b_topic : (Int → Int)) (b_value : (Int → Int)) (b_nibbled : (Int → Int)) (v2 : Int), fn_Check_guesses_b2 n i_a_clusters i_a_size i_a_starts i_a_depth i_a_topic i_a_value i_a_nibbled b_clusters b_size b_starts b_depth b_topic b_value b_nibbled v2 = some q → jk_J p l e (jk_rm 4 92) s m args below meth c 0 0 (jk_QI below D jk_cl (jk_ty cI cR) (wd_Check_guesses cI a_a a_a_starts a_a_depth a_a_topic a_a_value a_a_nibbled a_a_starts_k a_a_depth_k a_a_topic_k a_a_value_k a_a_nibbled_k a_b a_b_starts a_b_depth a_b_topic a_b_value a_b_nibbled a_b_starts_k a_b_depth_k a_b_topic_k a_b_value_k a_b_nibbled_k i_a_clusters i_a_size i_a_starts i_a_depth i_a_topic i_a_value i_a_nibbled i_b_clusters i_b_size i_b_starts i_b_depth i_b_topic i_b_value i_b_nibbled) (wd_Check_guesses cI a_a a_a_starts a_a_depth a_a_topic a_a_value a_a_nibbled a_a_starts_k a_a_depth_k a_a_topic_k a_a_value_k a_a_nibbled_k a_b a_b_starts a_b_depth a_b_topic a_b_value a_b_nibbled a_b_starts_k a_b_depth_k a_b_topic_k a_b_value_k a_b_nibbled_k i_a_clusters i_a_size i_a_starts i_a_depth i_a_topic i_a_value i_a_nibbled q.2.1 q.2.2.1 q.2.2.2.1 q.2.2.2.2.1 q.2.2.2.2.2.1 q.2.2.2.2.2.2.1 q.2.2.2.2.2.2.2) args s q.1) D jk_cl (va_A (wd_Check_guesses cI a_a a_a_starts a_a_depth a_a_topic a_a_value a_a_nibbled a_a_starts_k a_a_depth_k a_a_topic_k a_a_value_k a_a_nibbled_k a_b a_b_starts a_b_depth a_b_topic a_b_value a_b_nibbled a_b_starts_k a_b_depth_k a_b_topic_k a_b_value_k a_b_nibbled_k i_a_clusters i_a_size i_a_starts i_a_depth i_a_topic i_a_value i_a_nibbled i_b_clusters i_b_size i_b_starts i_b_depth i_b_topic i_b_value i_b_nibbled) s.heap.size) 3 (wd_Check_guesses cI a_a a_a_starts a_a_depth a_a_topic a_a_value a_a_nibbled a_a_starts_k a_a_depth_k a_a_topic_k a_a_value_k a_a_nibbled_k a_b a_b_starts a_b_depth a_b_topic a_b_value a_b_nibbled a_b_starts_k a_b_depth_k a_b_topic_k a_b_value_k a_b_nibbled_k i_a_clusters i_a_size i_a_starts i_a_depth i_a_topic i_a_value i_a_nibbled b_clusters b_size b_starts b_depth b_topic b_value b_nibbled) [(0, .ref a_a), (1, .ref a_b), (2, jk_V v2)] 2 [] := by
    intro n
    induction n with
    | zero => intro b_clusters b_size b_starts b_depth b_topic b_value b_nibbled v2 hf; exact nomatch (show none = some q from hf)
    | succ n ih =>
      intro b_clusters b_size b_starts b_depth b_topic b_value b_nibbled v2 hf
      rw [fn_Check_guesses_b2] at hf
      refine jk_iload_n C rd_Check_guesses_2 (k := 2) rfl ?_
      refine jk_aload_n C rd_Check_guesses_3 (k := 0) rfl ?_
      refine jk_getN C in_Cords (ci := 5) rfl 0 (by decide) (jk_nw hZ hz tn_8) 0 rfl rfl rd_Check_guesses_4 ?_
      refine jk_icmp_ge (tgt := 46) C rd_Check_guesses_7 (by decide) hf (fun _ hf => ?_) (fun _ hf => ?_)
      · refine jk_iconst C rd_Check_guesses_46 ?_
        cases hf
        exact jk_zret C (Or.inr rfl) rfl rd_Check_guesses_47 rfl
      · refine jk_aload_n C rd_Check_guesses_10 (k := 0) rfl ?_
        refine jk_iload_n C rd_Check_guesses_11 (k := 2) rfl ?_
        obtain ⟨q12, hq12, hf⟩ := jk_bind_h hf
        refine jk_callVi C hZ.1 hz (ct_Cords_obstacle l D Z sq hZ cI cR a_a a_a_starts a_a_depth a_a_topic a_a_value a_a_nibbled a_a_starts_k a_a_depth_k a_a_value_k a_a_nibbled_k i_a_clusters i_a_size i_a_starts i_a_depth i_a_value i_a_nibbled v2 q12 hq12) tm_554 tm_555 tm_556 tm_6 tm_557 na_Cords_obstacle ⟨Nat.le_of_ble_eq_true rfl, Nat.le_of_ble_eq_true rfl⟩ rfl [0, 1, 2, 3, 4, 7, 8, 9, 10] rfl rfl rfl (ws' := wd_Check_guesses cI a_a a_a_starts a_a_depth a_a_topic a_a_value a_a_nibbled a_a_starts_k a_a_depth_k a_a_topic_k a_a_value_k a_a_nibbled_k a_b a_b_starts a_b_depth a_b_topic a_b_value a_b_nibbled a_b_starts_k a_b_depth_k a_b_topic_k a_b_value_k a_b_nibbled_k i_a_clusters i_a_size i_a_starts i_a_depth i_a_topic i_a_value i_a_nibbled b_clusters b_size b_starts b_depth b_topic b_value b_nibbled) rfl 0 5 rfl rfl rfl (st := []) rfl (Nat.le_of_ble_eq_true rfl) rd_Check_guesses_12 ?_ ⟨Nat.le_of_ble_eq_true rfl, Nat.le_of_ble_eq_true rfl⟩
        refine jk_if_ne (tgt := 40) C rd_Check_guesses_15 (by decide) hf (fun _ hf => ?_) (fun _ hf => ?_)
        · refine jk_iinc C rd_Check_guesses_40 (k := 2) rfl (by decide) (lv' := [(2, jk_V (v2 + 1)), (0, .ref a_a), (1, .ref a_b)]) rfl ?_
          refine jk_goto (tgt := 2) C rd_Check_guesses_43 (by decide) ?_
          refine jk_lv (lv' := [(0, .ref a_a), (1, .ref a_b), (2, jk_V (v2 + 1))]) [1, 2, 0] rfl ?_
          exact ih b_clusters b_size b_starts b_depth b_topic b_value b_nibbled (v2 + 1) hf
        · refine jk_aload_n C rd_Check_guesses_18 (k := 1) rfl ?_
          refine jk_aload_n C rd_Check_guesses_19 (k := 0) rfl ?_
          obtain ⟨q20, hq20, hf⟩ := jk_bind_h hf
          refine jk_callVv C hZ.1 hz (ct_Cords_copyFrom l D Z sq hZ cI cR a_b a_b_starts a_b_depth a_b_topic a_b_value a_b_nibbled a_b_starts_k a_b_depth_k a_b_topic_k a_b_value_k a_b_nibbled_k a_a a_a_starts a_a_depth a_a_topic a_a_value a_a_nibbled a_a_starts_k a_a_depth_k a_a_topic_k a_a_value_k a_a_nibbled_k b_clusters b_size b_starts b_depth b_topic b_value b_nibbled i_a_clusters i_a_size i_a_starts i_a_depth i_a_topic i_a_value i_a_nibbled q20 hq20) tm_575 tm_486 tm_487 tm_6 tm_488 na_Cords_copyFrom ⟨Nat.le_of_ble_eq_true rfl, Nat.le_of_ble_eq_true rfl⟩ rfl [11, 12, 13, 14, 15, 16, 17, 18, 19, 20, 21, 0, 1, 2, 3, 4, 5, 6, 7, 8, 9, 10] rfl rfl rfl (ws' := wd_Check_guesses cI a_a a_a_starts a_a_depth a_a_topic a_a_value a_a_nibbled a_a_starts_k a_a_depth_k a_a_topic_k a_a_value_k a_a_nibbled_k a_b a_b_starts a_b_depth a_b_topic a_b_value a_b_nibbled a_b_starts_k a_b_depth_k a_b_topic_k a_b_value_k a_b_nibbled_k i_a_clusters i_a_size i_a_starts i_a_depth i_a_topic i_a_value i_a_nibbled q20.1 q20.2.1 q20.2.2.1 q20.2.2.2.1 q20.2.2.2.2.1 q20.2.2.2.2.2.1 q20.2.2.2.2.2.2) rfl 11 5 rfl rfl rfl (st := []) rfl (Nat.le_of_ble_eq_true rfl) rd_Check_guesses_20 ?_ ⟨Nat.le_of_ble_eq_true rfl, Nat.le_of_ble_eq_true rfl⟩
          refine jk_aload_n C rd_Check_guesses_23 (k := 1) rfl ?_
          refine jk_iload_n C rd_Check_guesses_24 (k := 2) rfl ?_
          obtain ⟨q25, hq25, hf⟩ := jk_bind_h hf
          refine jk_callVi C hZ.1 hz (ct_Cords_mend l D Z sq hZ cI cR a_b a_b_starts a_b_depth a_b_topic a_b_value a_b_nibbled a_b_starts_k a_b_value_k a_b_nibbled_k q20.1 q20.2.1 q20.2.2.1 q20.2.2.2.2.2.1 q20.2.2.2.2.2.2 v2 q25 hq25) tm_576 tm_577 tm_578 tm_6 tm_579 na_Cords_mend ⟨Nat.le_of_ble_eq_true rfl, Nat.le_of_ble_eq_true rfl⟩ rfl [11, 12, 13, 18, 19, 20, 21] rfl rfl rfl (ws' := wd_Check_guesses cI a_a a_a_starts a_a_depth a_a_topic a_a_value a_a_nibbled a_a_starts_k a_a_depth_k a_a_topic_k a_a_value_k a_a_nibbled_k a_b a_b_starts a_b_depth a_b_topic a_b_value a_b_nibbled a_b_starts_k a_b_depth_k a_b_topic_k a_b_value_k a_b_nibbled_k i_a_clusters i_a_size i_a_starts i_a_depth i_a_topic i_a_value i_a_nibbled q20.1 q20.2.1 q20.2.2.1 q20.2.2.2.1 q20.2.2.2.2.1 q25.2.1 q25.2.2) rfl 11 5 rfl rfl rfl (st := []) rfl (Nat.le_of_ble_eq_true rfl) rd_Check_guesses_25 ?_ ⟨Nat.le_of_ble_eq_true rfl, Nat.le_of_ble_eq_true rfl⟩
          refine jk_pop C rd_Check_guesses_28 rfl ?_
          refine jk_aload_n C rd_Check_guesses_29 (k := 1) rfl ?_
          refine jk_iload_n C rd_Check_guesses_30 (k := 2) rfl ?_
          obtain ⟨q31, hq31, hf⟩ := jk_bind_h hf
          refine jk_callVi C hZ.1 hz (ct_Cords_state l D Z sq hZ cI cR a_b a_b_starts a_b_depth a_b_topic a_b_value a_b_nibbled a_b_starts_k a_b_depth_k a_b_value_k a_b_nibbled_k q20.1 q20.2.1 q20.2.2.1 q20.2.2.2.1 q25.2.1 q25.2.2 v2 q31 hq31) tm_580 tm_581 tm_582 tm_6 tm_583 na_Cords_state ⟨Nat.le_of_ble_eq_true rfl, Nat.le_of_ble_eq_true rfl⟩ rfl [11, 12, 13, 14, 15, 18, 19, 20, 21] rfl rfl rfl (ws' := wd_Check_guesses cI a_a a_a_starts a_a_depth a_a_topic a_a_value a_a_nibbled a_a_starts_k a_a_depth_k a_a_topic_k a_a_value_k a_a_nibbled_k a_b a_b_starts a_b_depth a_b_topic a_b_value a_b_nibbled a_b_starts_k a_b_depth_k a_b_topic_k a_b_value_k a_b_nibbled_k i_a_clusters i_a_size i_a_starts i_a_depth i_a_topic i_a_value i_a_nibbled q20.1 q20.2.1 q20.2.2.1 q20.2.2.2.1 q20.2.2.2.2.1 q25.2.1 q25.2.2) rfl 11 5 rfl rfl rfl (st := []) rfl (Nat.le_of_ble_eq_true rfl) rd_Check_guesses_31 ?_ ⟨Nat.le_of_ble_eq_true rfl, Nat.le_of_ble_eq_true rfl⟩
          refine jk_iconst C rd_Check_guesses_34 ?_
          refine jk_icmp_eq (tgt := 40) C rd_Check_guesses_35 (by decide) hf (fun _ hf => ?_) (fun _ hf => ?_)
          · refine jk_iinc C rd_Check_guesses_40 (k := 2) rfl (by decide) (lv' := [(2, jk_V (v2 + 1)), (0, .ref a_a), (1, .ref a_b)]) rfl ?_
            refine jk_goto (tgt := 2) C rd_Check_guesses_43 (by decide) ?_
            refine jk_lv (lv' := [(0, .ref a_a), (1, .ref a_b), (2, jk_V (v2 + 1))]) [1, 2, 0] rfl ?_
            exact ih q20.1 q20.2.1 q20.2.2.1 q20.2.2.2.1 q20.2.2.2.2.1 q25.2.1 q25.2.2 (v2 + 1) hf
          · refine jk_iconst C rd_Check_guesses_38 ?_
            cases hf
            exact jk_zret C (Or.inl rfl) rfl rd_Check_guesses_39 rfl
  refine jk_iconst C rd_Check_guesses_0 ?_
  refine jk_istore_n C rd_Check_guesses_1 (by decide) (lv' := [(2, jk_V 0), (0, .ref a_a), (1, .ref a_b)]) rfl ?_
  refine jk_lv (lv' := [(0, .ref a_a), (1, .ref a_b), (2, jk_V 0)]) [1, 2, 0] rfl ?_
  exact bk_2 jk_F i_b_clusters i_b_size i_b_starts i_b_depth i_b_topic i_b_value i_b_nibbled 0 hf
def wd_Cords_clear (cI : ClassId) (a_t a_t_starts a_t_depth a_t_topic a_t_value a_t_nibbled : Nat) (i_t_clusters : Int) (i_t_size : Int) : va_W := [(a_t, .inr (5, [jk_V i_t_clusters, jk_V i_t_size, .ref a_t_starts, .ref a_t_depth, .ref a_t_topic, .ref a_t_value, .ref a_t_nibbled]))]
set_option maxHeartbeats 4000000 in
set_option maxRecDepth 20000 in
theorem ct_Cords_clear (l : Launch) (D : va_G) (Z : (Nat → Prop) → State → Heap → Prop) (sq : Nat → Nat) (hZ : jk_ZK Z sq) (cI cR : ClassId) (a_t a_t_starts a_t_depth a_t_topic a_t_value a_t_nibbled : Nat) (i_t_clusters : Int) (i_t_size : Int) (q : Int × Int) (hf : fn_Cords_clear i_t_clusters i_t_size = some q) : jk_MV l D jk_cl (jk_ty cI cR) Z mn_Cords_clear (.code mn_Cords_clear mb_Cords_clear 1 none :: jk_WA) (jk_rm 0 0) [.ref a_t] (wd_Cords_clear cI a_t a_t_starts a_t_depth a_t_topic a_t_value a_t_nibbled i_t_clusters i_t_size) (wd_Cords_clear cI a_t a_t_starts a_t_depth a_t_topic a_t_value a_t_nibbled q.1 q.2) := by
  intro sz
  refine jk_body (by decide +kernel) (fun p e s m args below meth c hsz hz hin C => ?_) (Nat.le_of_ble_eq_true rfl)
  subst hsz
  unfold fn_Cords_clear at hf
  refine jk_aload_n C rd_Cords_clear_0 (k := 0) rfl ?_
  refine jk_iconst C rd_Cords_clear_1 ?_
  refine jk_putf C in_Cords ty_Cords nm_Cords (ci := 5) rfl 0 (by decide) tm_129 rfl rfl rfl 0 rfl (Nat.le_of_ble_eq_true rfl) rd_Cords_clear_2 (ws' := wd_Cords_clear cI a_t a_t_starts a_t_depth a_t_topic a_t_value a_t_nibbled 0 i_t_size) rfl ?_
  refine jk_aload_n C rd_Cords_clear_5 (k := 0) rfl ?_
  refine jk_iconst C rd_Cords_clear_6 ?_
  refine jk_putf C in_Cords ty_Cords nm_Cords (ci := 5) rfl 1 (by decide) tm_133 rfl rfl rfl 0 rfl (Nat.le_of_ble_eq_true rfl) rd_Cords_clear_7 (ws' := wd_Cords_clear cI a_t a_t_starts a_t_depth a_t_topic a_t_value a_t_nibbled 0 0) rfl ?_
  cases hf
  exact jk_vret C rfl rd_Cords_clear_10 rfl
def wd_Cords_has (cI : ClassId) (a_t a_t_starts a_t_depth a_t_topic a_t_value a_t_nibbled : Nat) (i_t_clusters : Int) (i_t_size : Int) : va_W := [(a_t, .inr (5, [jk_V i_t_clusters, jk_V i_t_size, .ref a_t_starts, .ref a_t_depth, .ref a_t_topic, .ref a_t_value, .ref a_t_nibbled]))]
set_option maxHeartbeats 4000000 in
set_option maxRecDepth 20000 in
theorem ct_Cords_has (l : Launch) (D : va_G) (Z : (Nat → Prop) → State → Heap → Prop) (sq : Nat → Nat) (hZ : jk_ZK Z sq) (cI cR : ClassId) (a_t a_t_starts a_t_depth a_t_topic a_t_value a_t_nibbled : Nat) (i_t_clusters : Int) (i_t_size : Int) (x1 : Int) (q : Int) (hf : fn_Cords_has i_t_size x1 = some q) : jk_MI l D jk_cl (jk_ty cI cR) Z mn_Cords_has (.code mn_Cords_has mb_Cords_has 2 (some .boolean) :: jk_WA) (jk_rm 0 0) [.ref a_t, jk_V x1] (wd_Cords_has cI a_t a_t_starts a_t_depth a_t_topic a_t_value a_t_nibbled i_t_clusters i_t_size) (wd_Cords_has cI a_t a_t_starts a_t_depth a_t_topic a_t_value a_t_nibbled i_t_clusters i_t_size) q := by
  intro sz
  refine jk_body (by decide +kernel) (fun p e s m args below meth c hsz hz hin C => ?_) (Nat.le_of_ble_eq_true rfl)
  subst hsz
  unfold fn_Cords_has at hf
  refine jk_iload_n C rd_Cords_has_0 (k := 1) rfl ?_
  refine jk_if_lt (tgt := 16) C rd_Cords_has_1 (by decide) hf (fun _ hf => ?_) (fun _ hf => ?_)
  · refine jk_iconst C rd_Cords_has_16 ?_
    cases hf
    exact jk_zret C (Or.inl rfl) rfl rd_Cords_has_17 rfl
  · refine jk_iload_n C rd_Cords_has_4 (k := 1) rfl ?_
    refine jk_aload_n C rd_Cords_has_5 (k := 0) rfl ?_
    refine jk_get C in_Cords (ci := 5) rfl 1 (by decide) tm_133 0 rfl rfl rd_Cords_has_6 ?_
    refine jk_icmp_ge (tgt := 16) C rd_Cords_has_9 (by decide) hf (fun _ hf => ?_) (fun _ hf => ?_)
    · refine jk_iconst C rd_Cords_has_16 ?_
      cases hf
      exact jk_zret C (Or.inl rfl) rfl rd_Cords_has_17 rfl
    · refine jk_iconst C rd_Cords_has_12 ?_
      refine jk_goto (tgt := 17) C rd_Cords_has_13 (by decide) ?_
      cases hf
      exact jk_zret C (Or.inr rfl) rfl rd_Cords_has_17 rfl
def wd_Cords_hasCluster (cI : ClassId) (a_t a_t_starts a_t_depth a_t_topic a_t_value a_t_nibbled : Nat) (i_t_clusters : Int) (i_t_size : Int) : va_W := [(a_t, .inr (5, [jk_V i_t_clusters, jk_V i_t_size, .ref a_t_starts, .ref a_t_depth, .ref a_t_topic, .ref a_t_value, .ref a_t_nibbled]))]
set_option maxHeartbeats 4000000 in
set_option maxRecDepth 20000 in
theorem ct_Cords_hasCluster (l : Launch) (D : va_G) (Z : (Nat → Prop) → State → Heap → Prop) (sq : Nat → Nat) (hZ : jk_ZK Z sq) (cI cR : ClassId) (a_t a_t_starts a_t_depth a_t_topic a_t_value a_t_nibbled : Nat) (i_t_clusters : Int) (i_t_size : Int) (x1 : Int) (q : Int) (hf : fn_Cords_hasCluster i_t_clusters x1 = some q) : jk_MI l D jk_cl (jk_ty cI cR) Z mn_Cords_hasCluster (.code mn_Cords_hasCluster mb_Cords_hasCluster 2 (some .boolean) :: jk_WA) (jk_rm 0 0) [.ref a_t, jk_V x1] (wd_Cords_hasCluster cI a_t a_t_starts a_t_depth a_t_topic a_t_value a_t_nibbled i_t_clusters i_t_size) (wd_Cords_hasCluster cI a_t a_t_starts a_t_depth a_t_topic a_t_value a_t_nibbled i_t_clusters i_t_size) q := by
  intro sz
  refine jk_body (by decide +kernel) (fun p e s m args below meth c hsz hz hin C => ?_) (Nat.le_of_ble_eq_true rfl)
  subst hsz
  unfold fn_Cords_hasCluster at hf
  refine jk_iload_n C rd_Cords_hasCluster_0 (k := 1) rfl ?_
  refine jk_if_lt (tgt := 16) C rd_Cords_hasCluster_1 (by decide) hf (fun _ hf => ?_) (fun _ hf => ?_)
  · refine jk_iconst C rd_Cords_hasCluster_16 ?_
    cases hf
    exact jk_zret C (Or.inl rfl) rfl rd_Cords_hasCluster_17 rfl
  · refine jk_iload_n C rd_Cords_hasCluster_4 (k := 1) rfl ?_
    refine jk_aload_n C rd_Cords_hasCluster_5 (k := 0) rfl ?_
    refine jk_get C in_Cords (ci := 5) rfl 0 (by decide) tm_129 0 rfl rfl rd_Cords_hasCluster_6 ?_
    refine jk_icmp_ge (tgt := 16) C rd_Cords_hasCluster_9 (by decide) hf (fun _ hf => ?_) (fun _ hf => ?_)
    · refine jk_iconst C rd_Cords_hasCluster_16 ?_
      cases hf
      exact jk_zret C (Or.inl rfl) rfl rd_Cords_hasCluster_17 rfl
    · refine jk_iconst C rd_Cords_hasCluster_12 ?_
      refine jk_goto (tgt := 17) C rd_Cords_hasCluster_13 (by decide) ?_
      cases hf
      exact jk_zret C (Or.inr rfl) rfl rd_Cords_hasCluster_17 rfl
def wd_Cords_canHoldMore (cI : ClassId) (a_t a_t_starts a_t_depth a_t_topic a_t_value a_t_nibbled a_t_depth_k : Nat) (i_t_clusters : Int) (i_t_size : Int) (i_t_depth : (Int → Int)) : va_W := [(a_t, .inr (5, [jk_V i_t_clusters, jk_V i_t_size, .ref a_t_starts, .ref a_t_depth, .ref a_t_topic, .ref a_t_value, .ref a_t_nibbled])), (a_t_depth, .inr (0, [.ref a_t_depth_k])), (a_t_depth_k, jk_W cI 40 i_t_depth)]
set_option maxHeartbeats 4000000 in
set_option maxRecDepth 20000 in
theorem ct_Cords_canHoldMore (l : Launch) (D : va_G) (Z : (Nat → Prop) → State → Heap → Prop) (sq : Nat → Nat) (hZ : jk_ZK Z sq) (cI cR : ClassId) (a_t a_t_starts a_t_depth a_t_topic a_t_value a_t_nibbled a_t_depth_k : Nat) (i_t_clusters : Int) (i_t_size : Int) (i_t_depth : (Int → Int)) (x1 : Int) (q : Int) (hf : fn_Cords_canHoldMore i_t_depth x1 = some q) : jk_MI l D jk_cl (jk_ty cI cR) Z mn_Cords_canHoldMore (.code mn_Cords_canHoldMore mb_Cords_canHoldMore 2 (some .boolean) :: jk_WA) (jk_rm 1 21) [.ref a_t, jk_V x1] (wd_Cords_canHoldMore cI a_t a_t_starts a_t_depth a_t_topic a_t_value a_t_nibbled a_t_depth_k i_t_clusters i_t_size i_t_depth) (wd_Cords_canHoldMore cI a_t a_t_starts a_t_depth a_t_topic a_t_value a_t_nibbled a_t_depth_k i_t_clusters i_t_size i_t_depth) q := by
  intro sz
  refine jk_body (by decide +kernel) (fun p e s m args below meth c hsz hz hin C => ?_) (Nat.le_of_ble_eq_true rfl)
  subst hsz
  unfold fn_Cords_canHoldMore at hf
  refine jk_aload_n C rd_Cords_canHoldMore_0 (k := 0) rfl ?_
  refine jk_get C in_Cords (ci := 5) rfl 3 (by decide) tm_138 0 rfl rfl rd_Cords_canHoldMore_1 ?_
  refine jk_iload_n C rd_Cords_canHoldMore_4 (k := 1) rfl ?_
  obtain ⟨q5, hq5, hf⟩ := jk_bind_h hf
  refine jk_callVi C hZ.1 hz (ct_Row_get l D Z sq hZ cI cR (n_t := 40) (Nat.le_of_ble_eq_true rfl) a_t_depth a_t_depth_k i_t_depth x1 q5 hq5) tm_363 tm_299 tm_300 tm_3 tm_301 na_Row_get ⟨Nat.le_of_ble_eq_true rfl, Nat.le_of_ble_eq_true rfl⟩ rfl [1, 2] rfl rfl rfl (ws' := wd_Cords_canHoldMore cI a_t a_t_starts a_t_depth a_t_topic a_t_value a_t_nibbled a_t_depth_k i_t_clusters i_t_size i_t_depth) rfl 1 0 rfl rfl rfl (st := []) rfl (Nat.le_of_ble_eq_true rfl) rd_Cords_canHoldMore_5 ?_ ⟨Nat.le_of_ble_eq_true rfl, Nat.le_of_ble_eq_true rfl⟩
  refine jk_iconst C rd_Cords_canHoldMore_8 ?_
  refine jk_icmp_lt (tgt := 28) C rd_Cords_canHoldMore_9 (by decide) hf (fun _ hf => ?_) (fun _ hf => ?_)
  · refine jk_iconst C rd_Cords_canHoldMore_28 ?_
    cases hf
    exact jk_zret C (Or.inl rfl) rfl rd_Cords_canHoldMore_29 rfl
  · refine jk_aload_n C rd_Cords_canHoldMore_12 (k := 0) rfl ?_
    refine jk_get C in_Cords (ci := 5) rfl 3 (by decide) tm_138 0 rfl rfl rd_Cords_canHoldMore_13 ?_
    refine jk_iload_n C rd_Cords_canHoldMore_16 (k := 1) rfl ?_
    obtain ⟨q17, hq17, hf⟩ := jk_bind_h hf
    refine jk_callVi C hZ.1 hz (ct_Row_get l D Z sq hZ cI cR (n_t := 40) (Nat.le_of_ble_eq_true rfl) a_t_depth a_t_depth_k i_t_depth x1 q17 hq17) tm_363 tm_299 tm_300 tm_3 tm_301 na_Row_get ⟨Nat.le_of_ble_eq_true rfl, Nat.le_of_ble_eq_true rfl⟩ rfl [1, 2] rfl rfl rfl (ws' := wd_Cords_canHoldMore cI a_t a_t_starts a_t_depth a_t_topic a_t_value a_t_nibbled a_t_depth_k i_t_clusters i_t_size i_t_depth) rfl 1 0 rfl rfl rfl (st := []) rfl (Nat.le_of_ble_eq_true rfl) rd_Cords_canHoldMore_17 ?_ ⟨Nat.le_of_ble_eq_true rfl, Nat.le_of_ble_eq_true rfl⟩
    refine jk_iconst C rd_Cords_canHoldMore_20 ?_
    refine jk_icmp_ge (tgt := 28) C rd_Cords_canHoldMore_21 (by decide) hf (fun _ hf => ?_) (fun _ hf => ?_)
    · refine jk_iconst C rd_Cords_canHoldMore_28 ?_
      cases hf
      exact jk_zret C (Or.inl rfl) rfl rd_Cords_canHoldMore_29 rfl
    · refine jk_iconst C rd_Cords_canHoldMore_24 ?_
      refine jk_goto (tgt := 29) C rd_Cords_canHoldMore_25 (by decide) ?_
      cases hf
      exact jk_zret C (Or.inr rfl) rfl rd_Cords_canHoldMore_29 rfl
def wd_Cords_latestAtDepth (cI : ClassId) (a_t a_t_starts a_t_depth a_t_topic a_t_value a_t_nibbled a_t_depth_k : Nat) (i_t_clusters : Int) (i_t_size : Int) (i_t_depth : (Int → Int)) : va_W := [(a_t, .inr (5, [jk_V i_t_clusters, jk_V i_t_size, .ref a_t_starts, .ref a_t_depth, .ref a_t_topic, .ref a_t_value, .ref a_t_nibbled])), (a_t_depth, .inr (0, [.ref a_t_depth_k])), (a_t_depth_k, jk_W cI 40 i_t_depth)]
set_option maxHeartbeats 4000000 in
set_option maxRecDepth 20000 in
theorem ct_Cords_latestAtDepth (l : Launch) (D : va_G) (Z : (Nat → Prop) → State → Heap → Prop) (sq : Nat → Nat) (hZ : jk_ZK Z sq) (cI cR : ClassId) (a_t a_t_starts a_t_depth a_t_topic a_t_value a_t_nibbled a_t_depth_k : Nat) (i_t_clusters : Int) (i_t_size : Int) (i_t_depth : (Int → Int)) (x1 : Int) (x2 : Int) (x3 : Int) (q : Int) (hf : fn_Cords_latestAtDepth i_t_depth x1 x2 x3 = some q) : jk_MI l D jk_cl (jk_ty cI cR) Z mn_Cords_latestAtDepth (.code mn_Cords_latestAtDepth mb_Cords_latestAtDepth 5 (some .int) :: jk_WA) (jk_rm 1 21) [.ref a_t, jk_V x1, jk_V x2, jk_V x3] (wd_Cords_latestAtDepth cI a_t a_t_starts a_t_depth a_t_topic a_t_value a_t_nibbled a_t_depth_k i_t_clusters i_t_size i_t_depth) (wd_Cords_latestAtDepth cI a_t a_t_starts a_t_depth a_t_topic a_t_value a_t_nibbled a_t_depth_k i_t_clusters i_t_size i_t_depth) q := by
  intro sz
  refine jk_body (by decide +kernel) (fun p e s m args below meth c hsz hz hin C => ?_) (Nat.le_of_ble_eq_true rfl)
  subst hsz
  unfold fn_Cords_latestAtDepth at hf
  have bk_5 : ∀ (n : Nat) (v1 : Int) (v3 : Int) (v4 : Int), fn_Cords_latestAtDepth_b5 n i_t_depth v1 v3 v4 = some q → jk_J p l e (jk_rm 1 21) s m args below meth c 0 0 (jk_QI below D jk_cl (jk_ty cI cR) (wd_Cords_latestAtDepth cI a_t a_t_starts a_t_depth a_t_topic a_t_value a_t_nibbled a_t_depth_k i_t_clusters i_t_size i_t_depth) (wd_Cords_latestAtDepth cI a_t a_t_starts a_t_depth a_t_topic a_t_value a_t_nibbled a_t_depth_k i_t_clusters i_t_size i_t_depth) args s q) D jk_cl (va_A (wd_Cords_latestAtDepth cI a_t a_t_starts a_t_depth a_t_topic a_t_value a_t_nibbled a_t_depth_k i_t_clusters i_t_size i_t_depth) s.heap.size) 5 (wd_Cords_latestAtDepth cI a_t a_t_starts a_t_depth a_t_topic a_t_value a_t_nibbled a_t_depth_k i_t_clusters i_t_size i_t_depth) [(0, .ref a_t), (1, jk_V v1), (3, jk_V v3), (4, jk_V v4)] 5 [] := by
    intro n
    induction n with
    | zero => intro v1 v3 v4 hf; exact nomatch (show none = some q from hf)
    | succ n ih =>
      intro v1 v3 v4 hf
      rw [fn_Cords_latestAtDepth_b5] at hf
      refine jk_iload C rd_Cords_latestAtDepth_5 (k := 3) rfl ?_
      refine jk_iload_n C rd_Cords_latestAtDepth_7 (k := 1) rfl ?_
      refine jk_icmp_lt (tgt := 33) C rd_Cords_latestAtDepth_8 (by decide) hf (fun _ hf => ?_) (fun _ hf => ?_)
      · refine jk_iconst C rd_Cords_latestAtDepth_33 ?_
        cases hf
        exact jk_iret C rfl rd_Cords_latestAtDepth_34 rfl
      · refine jk_aload_n C rd_Cords_latestAtDepth_11 (k := 0) rfl ?_
        refine jk_get C in_Cords (ci := 5) rfl 3 (by decide) tm_138 0 rfl rfl rd_Cords_latestAtDepth_12 ?_
        refine jk_iload C rd_Cords_latestAtDepth_15 (k := 3) rfl ?_
        obtain ⟨q17, hq17, hf⟩ := jk_bind_h hf
        refine jk_callVi C hZ.1 hz (ct_Row_get l D Z sq hZ cI cR (n_t := 40) (Nat.le_of_ble_eq_true rfl) a_t_depth a_t_depth_k i_t_depth v4 q17 hq17) tm_363 tm_299 tm_300 tm_3 tm_301 na_Row_get ⟨Nat.le_of_ble_eq_true rfl, Nat.le_of_ble_eq_true rfl⟩ rfl [1, 2] rfl rfl rfl (ws' := wd_Cords_latestAtDepth cI a_t a_t_starts a_t_depth a_t_topic a_t_value a_t_nibbled a_t_depth_k i_t_clusters i_t_size i_t_depth) rfl 1 0 rfl rfl rfl (st := []) rfl (Nat.le_of_ble_eq_true rfl) rd_Cords_latestAtDepth_17 ?_ ⟨Nat.le_of_ble_eq_true rfl, Nat.le_of_ble_eq_true rfl⟩
        refine jk_iload_n C rd_Cords_latestAtDepth_20 (k := 2) rfl ?_
        refine jk_icmp_ne (tgt := 27) C rd_Cords_latestAtDepth_21 (by decide) hf (fun _ hf => ?_) (fun _ hf => ?_)
        · refine jk_iinc C rd_Cords_latestAtDepth_27 (k := 3) rfl (by decide) (lv' := [(4, jk_V (v4 + (-1))), (0, .ref a_t), (1, jk_V v1), (3, jk_V v3)]) rfl ?_
          refine jk_goto (tgt := 5) C rd_Cords_latestAtDepth_30 (by decide) ?_
          refine jk_lv (lv' := [(0, .ref a_t), (1, jk_V v1), (3, jk_V v3), (4, jk_V (v4 + (-1)))]) [1, 2, 3, 0] rfl ?_
          exact ih v1 v3 (v4 + (-1)) hf
        · refine jk_iload C rd_Cords_latestAtDepth_24 (k := 3) rfl ?_
          cases hf
          exact jk_iret C rfl rd_Cords_latestAtDepth_26 rfl
  refine jk_iload_n C rd_Cords_latestAtDepth_0 (k := 2) rfl ?_
  refine jk_iconst C rd_Cords_latestAtDepth_1 ?_
  refine jk_isub C rd_Cords_latestAtDepth_2 ?_
  refine jk_istore C rd_Cords_latestAtDepth_3 (by decide) (lv' := [(4, jk_V (x2 - 1)), (0, .ref a_t), (1, jk_V x1), (2, jk_V x2), (3, jk_V x3)]) rfl ?_
  refine jk_lv (lv' := [(0, .ref a_t), (1, jk_V x1), (3, jk_V x3), (4, jk_V (x2 - 1))]) [1, 2, 4, 0] rfl ?_
  exact bk_5 jk_F x1 x3 (x2 - 1) hf
def wd_Cords_countAtDepth (cI : ClassId) (a_t a_t_starts a_t_depth a_t_topic a_t_value a_t_nibbled a_t_depth_k : Nat) (i_t_clusters : Int) (i_t_size : Int) (i_t_depth : (Int → Int)) : va_W := [(a_t, .inr (5, [jk_V i_t_clusters, jk_V i_t_size, .ref a_t_starts, .ref a_t_depth, .ref a_t_topic, .ref a_t_value, .ref a_t_nibbled])), (a_t_depth, .inr (0, [.ref a_t_depth_k])), (a_t_depth_k, jk_W cI 40 i_t_depth)]
set_option maxHeartbeats 4000000 in
set_option maxRecDepth 20000 in
theorem ct_Cords_countAtDepth (l : Launch) (D : va_G) (Z : (Nat → Prop) → State → Heap → Prop) (sq : Nat → Nat) (hZ : jk_ZK Z sq) (cI cR : ClassId) (a_t a_t_starts a_t_depth a_t_topic a_t_value a_t_nibbled a_t_depth_k : Nat) (i_t_clusters : Int) (i_t_size : Int) (i_t_depth : (Int → Int)) (x1 : Int) (x2 : Int) (x3 : Int) (q : Int) (hf : fn_Cords_countAtDepth i_t_depth x1 x2 x3 = some q) : jk_MI l D jk_cl (jk_ty cI cR) Z mn_Cords_countAtDepth (.code mn_Cords_countAtDepth mb_Cords_countAtDepth 6 (some .int) :: jk_WA) (jk_rm 1 21) [.ref a_t, jk_V x1, jk_V x2, jk_V x3] (wd_Cords_countAtDepth cI a_t a_t_starts a_t_depth a_t_topic a_t_value a_t_nibbled a_t_depth_k i_t_clusters i_t_size i_t_depth) (wd_Cords_countAtDepth cI a_t a_t_starts a_t_depth a_t_topic a_t_value a_t_nibbled a_t_depth_k i_t_clusters i_t_size i_t_depth) q := by
  intro sz
  refine jk_body (by decide +kernel) (fun p e s m args below meth c hsz hz hin C => ?_) (Nat.le_of_ble_eq_true rfl)
  subst hsz
  unfold fn_Cords_countAtDepth at hf
  have bk_6 : ∀ (n : Nat) (v2 : Int) (v3 : Int) (v4 : Int) (v5 : Int), fn_Cords_countAtDepth_b6 n i_t_depth v2 v3 v4 v5 = some q → jk_J p l e (jk_rm 1 21) s m args below meth c 0 0 (jk_QI below D jk_cl (jk_ty cI cR) (wd_Cords_countAtDepth cI a_t a_t_starts a_t_depth a_t_topic a_t_value a_t_nibbled a_t_depth_k i_t_clusters i_t_size i_t_depth) (wd_Cords_countAtDepth cI a_t a_t_starts a_t_depth a_t_topic a_t_value a_t_nibbled a_t_depth_k i_t_clusters i_t_size i_t_depth) args s q) D jk_cl (va_A (wd_Cords_countAtDepth cI a_t a_t_starts a_t_depth a_t_topic a_t_value a_t_nibbled a_t_depth_k i_t_clusters i_t_size i_t_depth) s.heap.size) 6 (wd_Cords_countAtDepth cI a_t a_t_starts a_t_depth a_t_topic a_t_value a_t_nibbled a_t_depth_k i_t_clusters i_t_size i_t_depth) [(0, .ref a_t), (2, jk_V v2), (3, jk_V v3), (4, jk_V v4), (5, jk_V v5)] 6 [] := by
    intro n
    induction n with
    | zero => intro v2 v3 v4 v5 hf; exact nomatch (show none = some q from hf)
    | succ n ih =>
      intro v2 v3 v4 v5 hf
      rw [fn_Cords_countAtDepth_b6] at hf
      refine jk_iload C rd_Cords_countAtDepth_6 (k := 4) rfl ?_
      refine jk_iload_n C rd_Cords_countAtDepth_8 (k := 1) rfl ?_
      refine jk_icmp_ge (tgt := 34) C rd_Cords_countAtDepth_9 (by decide) hf (fun _ hf => ?_) (fun _ hf => ?_)
      · refine jk_iload C rd_Cords_countAtDepth_34 (k := 3) rfl ?_
        cases hf
        exact jk_iret C rfl rd_Cords_countAtDepth_36 rfl
      · refine jk_aload_n C rd_Cords_countAtDepth_12 (k := 0) rfl ?_
        refine jk_get C in_Cords (ci := 5) rfl 3 (by decide) tm_138 0 rfl rfl rd_Cords_countAtDepth_13 ?_
        refine jk_iload C rd_Cords_countAtDepth_16 (k := 4) rfl ?_
        obtain ⟨q18, hq18, hf⟩ := jk_bind_h hf
        refine jk_callVi C hZ.1 hz (ct_Row_get l D Z sq hZ cI cR (n_t := 40) (Nat.le_of_ble_eq_true rfl) a_t_depth a_t_depth_k i_t_depth v5 q18 hq18) tm_363 tm_299 tm_300 tm_3 tm_301 na_Row_get ⟨Nat.le_of_ble_eq_true rfl, Nat.le_of_ble_eq_true rfl⟩ rfl [1, 2] rfl rfl rfl (ws' := wd_Cords_countAtDepth cI a_t a_t_starts a_t_depth a_t_topic a_t_value a_t_nibbled a_t_depth_k i_t_clusters i_t_size i_t_depth) rfl 1 0 rfl rfl rfl (st := []) rfl (Nat.le_of_ble_eq_true rfl) rd_Cords_countAtDepth_18 ?_ ⟨Nat.le_of_ble_eq_true rfl, Nat.le_of_ble_eq_true rfl⟩
        refine jk_iload_n C rd_Cords_countAtDepth_21 (k := 2) rfl ?_
        refine jk_icmp_ne (tgt := 28) C rd_Cords_countAtDepth_22 (by decide) hf (fun _ hf => ?_) (fun _ hf => ?_)
        · refine jk_iinc C rd_Cords_countAtDepth_28 (k := 4) rfl (by decide) (lv' := [(5, jk_V (v5 + 1)), (0, .ref a_t), (2, jk_V v2), (3, jk_V v3), (4, jk_V v4)]) rfl ?_
          refine jk_goto (tgt := 6) C rd_Cords_countAtDepth_31 (by decide) ?_
          refine jk_lv (lv' := [(0, .ref a_t), (2, jk_V v2), (3, jk_V v3), (4, jk_V v4), (5, jk_V (v5 + 1))]) [1, 2, 3, 4, 0] rfl ?_
          exact ih v2 v3 v4 (v5 + 1) hf
        · refine jk_iinc C rd_Cords_countAtDepth_25 (k := 3) rfl (by decide) (lv' := [(4, jk_V (v4 + 1)), (0, .ref a_t), (2, jk_V v2), (3, jk_V v3), (5, jk_V v5)]) rfl ?_
          refine jk_iinc C rd_Cords_countAtDepth_28 (k := 4) rfl (by decide) (lv' := [(5, jk_V (v5 + 1)), (4, jk_V (v4 + 1)), (0, .ref a_t), (2, jk_V v2), (3, jk_V v3)]) rfl ?_
          refine jk_goto (tgt := 6) C rd_Cords_countAtDepth_31 (by decide) ?_
          refine jk_lv (lv' := [(0, .ref a_t), (2, jk_V v2), (3, jk_V v3), (4, jk_V (v4 + 1)), (5, jk_V (v5 + 1))]) [2, 3, 4, 1, 0] rfl ?_
          exact ih v2 v3 (v4 + 1) (v5 + 1) hf
  refine jk_iconst C rd_Cords_countAtDepth_0 ?_
  refine jk_istore C rd_Cords_countAtDepth_1 (by decide) (lv' := [(4, jk_V 0), (0, .ref a_t), (1, jk_V x1), (2, jk_V x2), (3, jk_V x3)]) rfl ?_
  refine jk_iload_n C rd_Cords_countAtDepth_3 (k := 2) rfl ?_
  refine jk_istore C rd_Cords_countAtDepth_4 (by decide) (lv' := [(5, jk_V x1), (4, jk_V 0), (0, .ref a_t), (1, jk_V x1), (2, jk_V x2), (3, jk_V x3)]) rfl ?_
  refine jk_lv (lv' := [(0, .ref a_t), (2, jk_V x2), (3, jk_V x3), (4, jk_V 0), (5, jk_V x1)]) [2, 4, 5, 1, 0] rfl ?_
  exact bk_6 jk_F x2 x3 0 x1 hf
def wd_Cords_openCluster (cI : ClassId) (a_t a_t_starts a_t_depth a_t_topic a_t_value a_t_nibbled a_t_starts_k : Nat) (i_t_clusters : Int) (i_t_size : Int) (i_t_starts : (Int → Int)) : va_W := [(a_t, .inr (5, [jk_V i_t_clusters, jk_V i_t_size, .ref a_t_starts, .ref a_t_depth, .ref a_t_topic, .ref a_t_value, .ref a_t_nibbled])), (a_t_starts, .inr (0, [.ref a_t_starts_k])), (a_t_starts_k, jk_W cI 7 i_t_starts)]
set_option maxHeartbeats 4000000 in
set_option maxRecDepth 20000 in
theorem ct_Cords_openCluster (l : Launch) (D : va_G) (Z : (Nat → Prop) → State → Heap → Prop) (sq : Nat → Nat) (hZ : jk_ZK Z sq) (cI cR : ClassId) (a_t a_t_starts a_t_depth a_t_topic a_t_value a_t_nibbled a_t_starts_k : Nat) (i_t_clusters : Int) (i_t_size : Int) (i_t_starts : (Int → Int)) (q : Int × Int × (Int → Int)) (hf : fn_Cords_openCluster i_t_clusters i_t_size i_t_starts = some q) : jk_MI l D jk_cl (jk_ty cI cR) Z mn_Cords_openCluster (.code mn_Cords_openCluster mb_Cords_openCluster 1 (some .int) :: jk_WA) (jk_rm 1 22) [.ref a_t] (wd_Cords_openCluster cI a_t a_t_starts a_t_depth a_t_topic a_t_value a_t_nibbled a_t_starts_k i_t_clusters i_t_size i_t_starts) (wd_Cords_openCluster cI a_t a_t_starts a_t_depth a_t_topic a_t_value a_t_nibbled a_t_starts_k q.2.1 i_t_size q.2.2) q.1 := by
  intro sz
  refine jk_body (by decide +kernel) (fun p e s m args below meth c hsz hz hin C => ?_) (Nat.le_of_ble_eq_true rfl)
  subst hsz
  unfold fn_Cords_openCluster at hf
  refine jk_aload_n C rd_Cords_openCluster_0 (k := 0) rfl ?_
  refine jk_get C in_Cords (ci := 5) rfl 0 (by decide) tm_129 0 rfl rfl rd_Cords_openCluster_1 ?_
  refine jk_bipush C rd_Cords_openCluster_4 (by decide +kernel) ?_
  refine jk_icmp_lt (tgt := 11) C rd_Cords_openCluster_6 (by decide) hf (fun _ hf => ?_) (fun _ hf => ?_)
  · refine jk_aload_n C rd_Cords_openCluster_11 (k := 0) rfl ?_
    refine jk_dup C rd_Cords_openCluster_12 rfl ?_
    refine jk_get C in_Cords (ci := 5) rfl 0 (by decide) tm_129 0 rfl rfl rd_Cords_openCluster_13 ?_
    refine jk_iconst C rd_Cords_openCluster_16 ?_
    refine jk_iadd C rd_Cords_openCluster_17 ?_
    refine jk_putf C in_Cords ty_Cords nm_Cords (ci := 5) rfl 0 (by decide) tm_129 rfl rfl rfl 0 rfl (Nat.le_of_ble_eq_true rfl) rd_Cords_openCluster_18 (ws' := wd_Cords_openCluster cI a_t a_t_starts a_t_depth a_t_topic a_t_value a_t_nibbled a_t_starts_k (i_t_clusters + 1) i_t_size i_t_starts) rfl ?_
    refine jk_aload_n C rd_Cords_openCluster_21 (k := 0) rfl ?_
    refine jk_get C in_Cords (ci := 5) rfl 2 (by decide) tm_137 0 rfl rfl rd_Cords_openCluster_22 ?_
    refine jk_aload_n C rd_Cords_openCluster_25 (k := 0) rfl ?_
    refine jk_get C in_Cords (ci := 5) rfl 0 (by decide) tm_129 0 rfl rfl rd_Cords_openCluster_26 ?_
    refine jk_aload_n C rd_Cords_openCluster_29 (k := 0) rfl ?_
    refine jk_get C in_Cords (ci := 5) rfl 1 (by decide) tm_133 0 rfl rfl rd_Cords_openCluster_30 ?_
    obtain ⟨q33, hq33, hf⟩ := jk_bind_h hf
    refine jk_callVv C hZ.1 hz (ct_Row_set l D Z sq hZ cI cR (n_t := 7) (Nat.le_of_ble_eq_true rfl) a_t_starts a_t_starts_k i_t_starts (i_t_clusters + 1) i_t_size q33 hq33) tm_345 tm_264 tm_265 tm_3 tm_266 na_Row_set ⟨Nat.le_of_ble_eq_true rfl, Nat.le_of_ble_eq_true rfl⟩ rfl [1, 2] rfl rfl rfl (ws' := wd_Cords_openCluster cI a_t a_t_starts a_t_depth a_t_topic a_t_value a_t_nibbled a_t_starts_k (i_t_clusters + 1) i_t_size q33) rfl 1 0 rfl rfl rfl (st := []) rfl (Nat.le_of_ble_eq_true rfl) rd_Cords_openCluster_33 ?_ ⟨Nat.le_of_ble_eq_true rfl, Nat.le_of_ble_eq_true rfl⟩
    refine jk_aload_n C rd_Cords_openCluster_36 (k := 0) rfl ?_
    refine jk_get C in_Cords (ci := 5) rfl 0 (by decide) tm_129 0 rfl rfl rd_Cords_openCluster_37 ?_
    refine jk_iconst C rd_Cords_openCluster_40 ?_
    refine jk_isub C rd_Cords_openCluster_41 ?_
    cases hf
    exact jk_iret C rfl rd_Cords_openCluster_42 rfl
  · refine jk_iconst C rd_Cords_openCluster_9 ?_
    cases hf
    exact jk_iret C rfl rd_Cords_openCluster_10 rfl
