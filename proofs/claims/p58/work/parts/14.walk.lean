theorem rd_Topics_clear_0 : decode mb_Topics_clear 0 = .ok (.aload_n 0, 1) := by decide +kernel
theorem rd_Topics_clear_1 : decode mb_Topics_clear 1 = .ok (.iconst 0, 1) := by decide +kernel
theorem rd_Topics_clear_2 : decode mb_Topics_clear 2 = .ok (.putfield 9, 3) := by decide +kernel
theorem rd_Topics_clear_5 : decode mb_Topics_clear 5 = .ok (.return_, 1) := by decide +kernel
theorem rd_Setup_parse_0 : decode mb_Setup_parse 0 = .ok (.aload_n 0, 1) := by decide +kernel
theorem rd_Setup_parse_1 : decode mb_Setup_parse 1 = .ok (.invokevirtual 9, 3) := by decide +kernel
theorem rd_Setup_parse_4 : decode mb_Setup_parse 4 = .ok (.aload_n 1, 1) := by decide +kernel
theorem rd_Setup_parse_5 : decode mb_Setup_parse 5 = .ok (.invokevirtual 14, 3) := by decide +kernel
theorem rd_Setup_parse_8 : decode mb_Setup_parse 8 = .ok (.aload_n 2, 1) := by decide +kernel
theorem rd_Setup_parse_9 : decode mb_Setup_parse 9 = .ok (.invokevirtual 19, 3) := by decide +kernel
theorem rd_Setup_parse_12 : decode mb_Setup_parse 12 = .ok (.iconst 0, 1) := by decide +kernel
theorem rd_Setup_parse_13 : decode mb_Setup_parse 13 = .ok (.istore_n 3, 1) := by decide +kernel
theorem rd_Setup_parse_14 : decode mb_Setup_parse 14 = .ok (.iload_n 3, 1) := by decide +kernel
theorem rd_Setup_parse_15 : decode mb_Setup_parse 15 = .ok (.sipush 700, 3) := by decide +kernel
theorem rd_Setup_parse_18 : decode mb_Setup_parse 18 = .ok (.if_icmp .gt 56, 3) := by decide +kernel
theorem rd_Setup_parse_21 : decode mb_Setup_parse 21 = .ok (.aload_n 0, 1) := by decide +kernel
theorem rd_Setup_parse_22 : decode mb_Setup_parse 22 = .ok (.invokevirtual 22, 3) := by decide +kernel
theorem rd_Setup_parse_25 : decode mb_Setup_parse 25 = .ok (.ifCond .eq 49, 3) := by decide +kernel
theorem rd_Setup_parse_28 : decode mb_Setup_parse 28 = .ok (.aload_n 0, 1) := by decide +kernel
theorem rd_Setup_parse_29 : decode mb_Setup_parse 29 = .ok (.ldc 26, 2) := by decide +kernel
theorem rd_Setup_parse_31 : decode mb_Setup_parse 31 = .ok (.invokevirtual 28, 3) := by decide +kernel
theorem rd_Setup_parse_34 : decode mb_Setup_parse 34 = .ok (.ifCond .eq 11, 3) := by decide +kernel
theorem rd_Setup_parse_37 : decode mb_Setup_parse 37 = .ok (.aload_n 0, 1) := by decide +kernel
theorem rd_Setup_parse_38 : decode mb_Setup_parse 38 = .ok (.aload_n 1, 1) := by decide +kernel
theorem rd_Setup_parse_39 : decode mb_Setup_parse 39 = .ok (.invokestatic 32, 3) := by decide +kernel
theorem rd_Setup_parse_42 : decode mb_Setup_parse 42 = .ok (.goto 26, 3) := by decide +kernel
theorem rd_Setup_parse_45 : decode mb_Setup_parse 45 = .ok (.aload_n 0, 1) := by decide +kernel
theorem rd_Setup_parse_46 : decode mb_Setup_parse 46 = .ok (.ldc 38, 2) := by decide +kernel
theorem rd_Setup_parse_48 : decode mb_Setup_parse 48 = .ok (.invokevirtual 28, 3) := by decide +kernel
theorem rd_Setup_parse_51 : decode mb_Setup_parse 51 = .ok (.ifCond .eq 11, 3) := by decide +kernel
theorem rd_Setup_parse_54 : decode mb_Setup_parse 54 = .ok (.aload_n 0, 1) := by decide +kernel
theorem rd_Setup_parse_55 : decode mb_Setup_parse 55 = .ok (.aload_n 2, 1) := by decide +kernel
theorem rd_Setup_parse_56 : decode mb_Setup_parse 56 = .ok (.invokestatic 40, 3) := by decide +kernel
theorem rd_Setup_parse_59 : decode mb_Setup_parse 59 = .ok (.goto 9, 3) := by decide +kernel
theorem rd_Setup_parse_62 : decode mb_Setup_parse 62 = .ok (.aload_n 0, 1) := by decide +kernel
theorem rd_Setup_parse_63 : decode mb_Setup_parse 63 = .ok (.aload_n 1, 1) := by decide +kernel
theorem rd_Setup_parse_64 : decode mb_Setup_parse 64 = .ok (.aload_n 2, 1) := by decide +kernel
theorem rd_Setup_parse_65 : decode mb_Setup_parse 65 = .ok (.invokestatic 44, 3) := by decide +kernel
theorem rd_Setup_parse_68 : decode mb_Setup_parse 68 = .ok (.iinc 3 1, 3) := by decide +kernel
theorem rd_Setup_parse_71 : decode mb_Setup_parse 71 = .ok (.goto (-57), 3) := by decide +kernel
theorem rd_Setup_parse_74 : decode mb_Setup_parse 74 = .ok (.aload_n 1, 1) := by decide +kernel
theorem rd_Setup_parse_75 : decode mb_Setup_parse 75 = .ok (.getfield 48, 3) := by decide +kernel
theorem rd_Setup_parse_78 : decode mb_Setup_parse 78 = .ok (.ifCond .ne 9, 3) := by decide +kernel
theorem rd_Setup_parse_81 : decode mb_Setup_parse 81 = .ok (.aload_n 0, 1) := by decide +kernel
theorem rd_Setup_parse_82 : decode mb_Setup_parse 82 = .ok (.bipush 7, 2) := by decide +kernel
theorem rd_Setup_parse_84 : decode mb_Setup_parse 84 = .ok (.invokevirtual 52, 3) := by decide +kernel
theorem rd_Setup_parse_87 : decode mb_Setup_parse 87 = .ok (.return_, 1) := by decide +kernel
theorem rd_Text_clear_0 : decode mb_Text_clear 0 = .ok (.aload_n 0, 1) := by decide +kernel
theorem rd_Text_clear_1 : decode mb_Text_clear 1 = .ok (.iconst 0, 1) := by decide +kernel
theorem rd_Text_clear_2 : decode mb_Text_clear 2 = .ok (.putfield 20, 3) := by decide +kernel
theorem rd_Text_clear_5 : decode mb_Text_clear 5 = .ok (.return_, 1) := by decide +kernel
theorem rd_Text_putByte_0 : decode mb_Text_putByte 0 = .ok (.aload_n 0, 1) := by decide +kernel
theorem rd_Text_putByte_1 : decode mb_Text_putByte 1 = .ok (.getfield 20, 3) := by decide +kernel
theorem rd_Text_putByte_4 : decode mb_Text_putByte 4 = .ok (.sipush 700, 3) := by decide +kernel
theorem rd_Text_putByte_7 : decode mb_Text_putByte 7 = .ok (.if_icmp .ge 25, 3) := by decide +kernel
theorem rd_Text_putByte_10 : decode mb_Text_putByte 10 = .ok (.aload_n 0, 1) := by decide +kernel
theorem rd_Text_putByte_11 : decode mb_Text_putByte 11 = .ok (.getfield 14, 3) := by decide +kernel
theorem rd_Text_putByte_14 : decode mb_Text_putByte 14 = .ok (.aload_n 0, 1) := by decide +kernel
theorem rd_Text_putByte_15 : decode mb_Text_putByte 15 = .ok (.getfield 20, 3) := by decide +kernel
theorem rd_Text_putByte_18 : decode mb_Text_putByte 18 = .ok (.iload_n 1, 1) := by decide +kernel
theorem rd_Text_putByte_19 : decode mb_Text_putByte 19 = .ok (.invokevirtual 51, 3) := by decide +kernel
theorem rd_Text_putByte_22 : decode mb_Text_putByte 22 = .ok (.aload_n 0, 1) := by decide +kernel
theorem rd_Text_putByte_23 : decode mb_Text_putByte 23 = .ok (.dup, 1) := by decide +kernel
theorem rd_Text_putByte_24 : decode mb_Text_putByte 24 = .ok (.getfield 20, 3) := by decide +kernel
theorem rd_Text_putByte_27 : decode mb_Text_putByte 27 = .ok (.iconst 1, 1) := by decide +kernel
theorem rd_Text_putByte_28 : decode mb_Text_putByte 28 = .ok (.iadd, 1) := by decide +kernel
theorem rd_Text_putByte_29 : decode mb_Text_putByte 29 = .ok (.putfield 20, 3) := by decide +kernel
theorem rd_Text_putByte_32 : decode mb_Text_putByte 32 = .ok (.return_, 1) := by decide +kernel
theorem rd_Text_put_0 : decode mb_Text_put 0 = .ok (.iconst 0, 1) := by decide +kernel
theorem rd_Text_put_1 : decode mb_Text_put 1 = .ok (.istore_n 2, 1) := by decide +kernel
theorem rd_Text_put_2 : decode mb_Text_put 2 = .ok (.iload_n 2, 1) := by decide +kernel
theorem rd_Text_put_3 : decode mb_Text_put 3 = .ok (.aload_n 1, 1) := by decide +kernel
theorem rd_Text_put_4 : decode mb_Text_put 4 = .ok (.invokevirtual 39, 3) := by decide +kernel
theorem rd_Text_put_7 : decode mb_Text_put 7 = .ok (.if_icmp .ge 18, 3) := by decide +kernel
theorem rd_Text_put_10 : decode mb_Text_put 10 = .ok (.aload_n 0, 1) := by decide +kernel
theorem rd_Text_put_11 : decode mb_Text_put 11 = .ok (.aload_n 1, 1) := by decide +kernel
theorem rd_Text_put_12 : decode mb_Text_put 12 = .ok (.iload_n 2, 1) := by decide +kernel
theorem rd_Text_put_13 : decode mb_Text_put 13 = .ok (.invokevirtual 44, 3) := by decide +kernel
theorem rd_Text_put_16 : decode mb_Text_put 16 = .ok (.invokevirtual 48, 3) := by decide +kernel
theorem rd_Text_put_19 : decode mb_Text_put 19 = .ok (.iinc 2 1, 3) := by decide +kernel
theorem rd_Text_put_22 : decode mb_Text_put 22 = .ok (.goto (-20), 3) := by decide +kernel
theorem rd_Text_put_25 : decode mb_Text_put 25 = .ok (.return_, 1) := by decide +kernel
theorem rd_Text_putFour_0 : decode mb_Text_putFour 0 = .ok (.bipush 24, 2) := by decide +kernel
theorem rd_Text_putFour_2 : decode mb_Text_putFour 2 = .ok (.istore_n 2, 1) := by decide +kernel
theorem rd_Text_putFour_3 : decode mb_Text_putFour 3 = .ok (.iload_n 2, 1) := by decide +kernel
theorem rd_Text_putFour_4 : decode mb_Text_putFour 4 = .ok (.ifCond .lt 20, 3) := by decide +kernel
theorem rd_Text_putFour_7 : decode mb_Text_putFour 7 = .ok (.aload_n 0, 1) := by decide +kernel
theorem rd_Text_putFour_8 : decode mb_Text_putFour 8 = .ok (.iload_n 1, 1) := by decide +kernel
theorem rd_Text_putFour_9 : decode mb_Text_putFour 9 = .ok (.iload_n 2, 1) := by decide +kernel
theorem rd_Text_putFour_10 : decode mb_Text_putFour 10 = .ok (.ishr, 1) := by decide +kernel
theorem rd_Text_putFour_11 : decode mb_Text_putFour 11 = .ok (.sipush 255, 3) := by decide +kernel
theorem rd_Text_putFour_14 : decode mb_Text_putFour 14 = .ok (.iand, 1) := by decide +kernel
theorem rd_Text_putFour_15 : decode mb_Text_putFour 15 = .ok (.invokevirtual 48, 3) := by decide +kernel
theorem rd_Text_putFour_18 : decode mb_Text_putFour 18 = .ok (.iinc 2 (-8), 3) := by decide +kernel
theorem rd_Text_putFour_21 : decode mb_Text_putFour 21 = .ok (.goto (-18), 3) := by decide +kernel
theorem rd_Text_putFour_24 : decode mb_Text_putFour 24 = .ok (.return_, 1) := by decide +kernel
theorem rd_Topics_copyFrom_0 : decode mb_Topics_copyFrom 0 = .ok (.aload_n 0, 1) := by decide +kernel
theorem rd_Topics_copyFrom_1 : decode mb_Topics_copyFrom 1 = .ok (.aload_n 1, 1) := by decide +kernel
theorem rd_Topics_copyFrom_2 : decode mb_Topics_copyFrom 2 = .ok (.getfield 9, 3) := by decide +kernel
theorem rd_Topics_copyFrom_5 : decode mb_Topics_copyFrom 5 = .ok (.putfield 9, 3) := by decide +kernel
theorem rd_Topics_copyFrom_8 : decode mb_Topics_copyFrom 8 = .ok (.aload_n 0, 1) := by decide +kernel
theorem rd_Topics_copyFrom_9 : decode mb_Topics_copyFrom 9 = .ok (.getfield 20, 3) := by decide +kernel
theorem rd_Topics_copyFrom_12 : decode mb_Topics_copyFrom 12 = .ok (.aload_n 1, 1) := by decide +kernel
theorem rd_Topics_copyFrom_13 : decode mb_Topics_copyFrom 13 = .ok (.getfield 20, 3) := by decide +kernel
theorem rd_Topics_copyFrom_16 : decode mb_Topics_copyFrom 16 = .ok (.invokevirtual 24, 3) := by decide +kernel
theorem rd_Topics_copyFrom_19 : decode mb_Topics_copyFrom 19 = .ok (.return_, 1) := by decide +kernel
theorem rd_Topics_has_0 : decode mb_Topics_has 0 = .ok (.iload_n 1, 1) := by decide +kernel
theorem rd_Topics_has_1 : decode mb_Topics_has 1 = .ok (.ifCond .lt 15, 3) := by decide +kernel
theorem rd_Topics_has_4 : decode mb_Topics_has 4 = .ok (.iload_n 1, 1) := by decide +kernel
theorem rd_Topics_has_5 : decode mb_Topics_has 5 = .ok (.aload_n 0, 1) := by decide +kernel
theorem rd_Topics_has_6 : decode mb_Topics_has 6 = .ok (.getfield 9, 3) := by decide +kernel
theorem rd_Topics_has_9 : decode mb_Topics_has 9 = .ok (.if_icmp .ge 7, 3) := by decide +kernel
theorem rd_Topics_has_12 : decode mb_Topics_has 12 = .ok (.iconst 1, 1) := by decide +kernel
theorem rd_Topics_has_13 : decode mb_Topics_has 13 = .ok (.goto 4, 3) := by decide +kernel
theorem rd_Topics_has_16 : decode mb_Topics_has 16 = .ok (.iconst 0, 1) := by decide +kernel
theorem rd_Topics_has_17 : decode mb_Topics_has 17 = .ok (.ireturn, 1) := by decide +kernel
theorem rd_KR_appendInput_0 : decode mb_KR_appendInput 0 = .ok (.aload_n 0, 1) := by decide +kernel
theorem rd_KR_appendInput_1 : decode mb_KR_appendInput 1 = .ok (.getfield 12, 3) := by decide +kernel
theorem rd_KR_appendInput_4 : decode mb_KR_appendInput 4 = .ok (.getfield 86, 3) := by decide +kernel
theorem rd_KR_appendInput_7 : decode mb_KR_appendInput 7 = .ok (.bipush 20, 2) := by decide +kernel
theorem rd_KR_appendInput_9 : decode mb_KR_appendInput 9 = .ok (.iadd, 1) := by decide +kernel
theorem rd_KR_appendInput_10 : decode mb_KR_appendInput 10 = .ok (.sipush 700, 3) := by decide +kernel
theorem rd_KR_appendInput_13 : decode mb_KR_appendInput 13 = .ok (.if_icmp .le 5, 3) := by decide +kernel
theorem rd_KR_appendInput_16 : decode mb_KR_appendInput 16 = .ok (.iconst (-1), 1) := by decide +kernel
theorem rd_KR_appendInput_17 : decode mb_KR_appendInput 17 = .ok (.ireturn, 1) := by decide +kernel
theorem rd_KR_appendInput_18 : decode mb_KR_appendInput 18 = .ok (.aload_n 0, 1) := by decide +kernel
theorem rd_KR_appendInput_19 : decode mb_KR_appendInput 19 = .ok (.getfield 12, 3) := by decide +kernel
theorem rd_KR_appendInput_22 : decode mb_KR_appendInput 22 = .ok (.iload_n 1, 1) := by decide +kernel
theorem rd_KR_appendInput_23 : decode mb_KR_appendInput 23 = .ok (.invokevirtual 89, 3) := by decide +kernel
theorem rd_KR_appendInput_26 : decode mb_KR_appendInput 26 = .ok (.aload_n 0, 1) := by decide +kernel
theorem rd_KR_appendInput_27 : decode mb_KR_appendInput 27 = .ok (.getfield 12, 3) := by decide +kernel
theorem rd_KR_appendInput_30 : decode mb_KR_appendInput 30 = .ok (.iload_n 2, 1) := by decide +kernel
theorem rd_KR_appendInput_31 : decode mb_KR_appendInput 31 = .ok (.invokevirtual 89, 3) := by decide +kernel
theorem rd_KR_appendInput_34 : decode mb_KR_appendInput 34 = .ok (.aload_n 0, 1) := by decide +kernel
theorem rd_KR_appendInput_35 : decode mb_KR_appendInput 35 = .ok (.getfield 12, 3) := by decide +kernel
theorem rd_KR_appendInput_38 : decode mb_KR_appendInput 38 = .ok (.iload_n 3, 1) := by decide +kernel
theorem rd_KR_appendInput_39 : decode mb_KR_appendInput 39 = .ok (.invokevirtual 89, 3) := by decide +kernel
theorem rd_KR_appendInput_42 : decode mb_KR_appendInput 42 = .ok (.aload_n 0, 1) := by decide +kernel
theorem rd_KR_appendInput_43 : decode mb_KR_appendInput 43 = .ok (.getfield 12, 3) := by decide +kernel
theorem rd_KR_appendInput_46 : decode mb_KR_appendInput 46 = .ok (.iload 4, 2) := by decide +kernel
theorem rd_KR_appendInput_48 : decode mb_KR_appendInput 48 = .ok (.invokevirtual 89, 3) := by decide +kernel
theorem rd_KR_appendInput_51 : decode mb_KR_appendInput 51 = .ok (.aload_n 0, 1) := by decide +kernel
theorem rd_KR_appendInput_52 : decode mb_KR_appendInput 52 = .ok (.getfield 12, 3) := by decide +kernel
theorem rd_KR_appendInput_55 : decode mb_KR_appendInput 55 = .ok (.iload 5, 2) := by decide +kernel
theorem rd_KR_appendInput_57 : decode mb_KR_appendInput 57 = .ok (.invokevirtual 89, 3) := by decide +kernel
theorem rd_KR_appendInput_60 : decode mb_KR_appendInput 60 = .ok (.aload_n 0, 1) := by decide +kernel
theorem rd_KR_appendInput_61 : decode mb_KR_appendInput 61 = .ok (.getfield 12, 3) := by decide +kernel
theorem rd_KR_appendInput_64 : decode mb_KR_appendInput 64 = .ok (.getfield 86, 3) := by decide +kernel
theorem rd_KR_appendInput_67 : decode mb_KR_appendInput 67 = .ok (.ireturn, 1) := by decide +kernel
theorem rd_KR_truncateInput_0 : decode mb_KR_truncateInput 0 = .ok (.iload_n 1, 1) := by decide +kernel
theorem rd_KR_truncateInput_1 : decode mb_KR_truncateInput 1 = .ok (.ifCond .lt 14, 3) := by decide +kernel
theorem rd_KR_truncateInput_4 : decode mb_KR_truncateInput 4 = .ok (.iload_n 1, 1) := by decide +kernel
theorem rd_KR_truncateInput_5 : decode mb_KR_truncateInput 5 = .ok (.aload_n 0, 1) := by decide +kernel
theorem rd_KR_truncateInput_6 : decode mb_KR_truncateInput 6 = .ok (.getfield 12, 3) := by decide +kernel
theorem rd_KR_truncateInput_9 : decode mb_KR_truncateInput 9 = .ok (.getfield 86, 3) := by decide +kernel
theorem rd_KR_truncateInput_12 : decode mb_KR_truncateInput 12 = .ok (.if_icmp .le 5, 3) := by decide +kernel
theorem rd_KR_truncateInput_15 : decode mb_KR_truncateInput 15 = .ok (.iconst 0, 1) := by decide +kernel
theorem rd_KR_truncateInput_16 : decode mb_KR_truncateInput 16 = .ok (.ireturn, 1) := by decide +kernel
theorem rd_KR_truncateInput_17 : decode mb_KR_truncateInput 17 = .ok (.aload_n 0, 1) := by decide +kernel
theorem rd_KR_truncateInput_18 : decode mb_KR_truncateInput 18 = .ok (.getfield 12, 3) := by decide +kernel
theorem rd_KR_truncateInput_21 : decode mb_KR_truncateInput 21 = .ok (.iload_n 1, 1) := by decide +kernel
theorem rd_KR_truncateInput_22 : decode mb_KR_truncateInput 22 = .ok (.putfield 86, 3) := by decide +kernel
theorem rd_KR_truncateInput_25 : decode mb_KR_truncateInput 25 = .ok (.iconst 1, 1) := by decide +kernel
theorem rd_KR_truncateInput_26 : decode mb_KR_truncateInput 26 = .ok (.ireturn, 1) := by decide +kernel
theorem rd_KR_closeText_0 : decode mb_KR_closeText 0 = .ok (.aload_n 0, 1) := by decide +kernel
theorem rd_KR_closeText_1 : decode mb_KR_closeText 1 = .ok (.aload_n 0, 1) := by decide +kernel
theorem rd_KR_closeText_2 : decode mb_KR_closeText 2 = .ok (.getfield 12, 3) := by decide +kernel
theorem rd_KR_closeText_5 : decode mb_KR_closeText 5 = .ok (.getfield 141, 3) := by decide +kernel
theorem rd_KR_closeText_8 : decode mb_KR_closeText 8 = .ok (.putfield 64, 3) := by decide +kernel
theorem rd_KR_closeText_11 : decode mb_KR_closeText 11 = .ok (.aload_n 0, 1) := by decide +kernel
theorem rd_KR_closeText_12 : decode mb_KR_closeText 12 = .ok (.aload_n 0, 1) := by decide +kernel
theorem rd_KR_closeText_13 : decode mb_KR_closeText 13 = .ok (.getfield 12, 3) := by decide +kernel
theorem rd_KR_closeText_16 : decode mb_KR_closeText 16 = .ok (.getfield 144, 3) := by decide +kernel
theorem rd_KR_closeText_19 : decode mb_KR_closeText 19 = .ok (.putfield 68, 3) := by decide +kernel
theorem rd_KR_closeText_22 : decode mb_KR_closeText 22 = .ok (.aload_n 0, 1) := by decide +kernel
theorem rd_KR_closeText_23 : decode mb_KR_closeText 23 = .ok (.getfield 12, 3) := by decide +kernel
theorem rd_KR_closeText_26 : decode mb_KR_closeText 26 = .ok (.invokevirtual 83, 3) := by decide +kernel
theorem rd_KR_closeText_29 : decode mb_KR_closeText 29 = .ok (.aload_n 0, 1) := by decide +kernel
theorem rd_KR_closeText_30 : decode mb_KR_closeText 30 = .ok (.getfield 64, 3) := by decide +kernel
theorem rd_KR_closeText_33 : decode mb_KR_closeText 33 = .ok (.ifCond .ne 7, 3) := by decide +kernel
theorem rd_KR_closeText_36 : decode mb_KR_closeText 36 = .ok (.iconst 1, 1) := by decide +kernel
theorem rd_KR_closeText_37 : decode mb_KR_closeText 37 = .ok (.goto 4, 3) := by decide +kernel
theorem rd_KR_closeText_40 : decode mb_KR_closeText 40 = .ok (.iconst 0, 1) := by decide +kernel
theorem rd_KR_closeText_41 : decode mb_KR_closeText 41 = .ok (.ireturn, 1) := by decide +kernel
theorem rd_KR_loadCords_0 : decode mb_KR_loadCords 0 = .ok (.aload_n 0, 1) := by decide +kernel
theorem rd_KR_loadCords_1 : decode mb_KR_loadCords 1 = .ok (.getfield 12, 3) := by decide +kernel
theorem rd_KR_loadCords_4 : decode mb_KR_loadCords 4 = .ok (.aload_n 0, 1) := by decide +kernel
theorem rd_KR_loadCords_5 : decode mb_KR_loadCords 5 = .ok (.getfield 37, 3) := by decide +kernel
theorem rd_KR_loadCords_8 : decode mb_KR_loadCords 8 = .ok (.aload_n 0, 1) := by decide +kernel
theorem rd_KR_loadCords_9 : decode mb_KR_loadCords 9 = .ok (.getfield 40, 3) := by decide +kernel
theorem rd_KR_loadCords_12 : decode mb_KR_loadCords 12 = .ok (.invokestatic 77, 3) := by decide +kernel
theorem rd_KR_loadCords_15 : decode mb_KR_loadCords 15 = .ok (.aload_n 0, 1) := by decide +kernel
theorem rd_KR_loadCords_16 : decode mb_KR_loadCords 16 = .ok (.invokevirtual 93, 3) := by decide +kernel
theorem rd_KR_loadCords_19 : decode mb_KR_loadCords 19 = .ok (.ifCond .ne 5, 3) := by decide +kernel
theorem rd_KR_loadCords_22 : decode mb_KR_loadCords 22 = .ok (.iconst (-1), 1) := by decide +kernel
theorem rd_KR_loadCords_23 : decode mb_KR_loadCords 23 = .ok (.ireturn, 1) := by decide +kernel
theorem rd_KR_loadCords_24 : decode mb_KR_loadCords 24 = .ok (.aload_n 0, 1) := by decide +kernel
theorem rd_KR_loadCords_25 : decode mb_KR_loadCords 25 = .ok (.getfield 26, 3) := by decide +kernel
theorem rd_KR_loadCords_28 : decode mb_KR_loadCords 28 = .ok (.aload_n 0, 1) := by decide +kernel
theorem rd_KR_loadCords_29 : decode mb_KR_loadCords 29 = .ok (.getfield 37, 3) := by decide +kernel
theorem rd_KR_loadCords_32 : decode mb_KR_loadCords 32 = .ok (.invokevirtual 97, 3) := by decide +kernel
theorem rd_KR_loadCords_35 : decode mb_KR_loadCords 35 = .ok (.aload_n 0, 1) := by decide +kernel
theorem rd_KR_loadCords_36 : decode mb_KR_loadCords 36 = .ok (.getfield 33, 3) := by decide +kernel
theorem rd_KR_loadCords_39 : decode mb_KR_loadCords 39 = .ok (.aload_n 0, 1) := by decide +kernel
theorem rd_KR_loadCords_40 : decode mb_KR_loadCords 40 = .ok (.getfield 40, 3) := by decide +kernel
theorem rd_KR_loadCords_43 : decode mb_KR_loadCords 43 = .ok (.invokevirtual 101, 3) := by decide +kernel
theorem rd_KR_loadCords_46 : decode mb_KR_loadCords 46 = .ok (.aload_n 0, 1) := by decide +kernel
theorem rd_KR_loadCords_47 : decode mb_KR_loadCords 47 = .ok (.getfield 49, 3) := by decide +kernel
theorem rd_KR_loadCords_50 : decode mb_KR_loadCords 50 = .ok (.invokevirtual 104, 3) := by decide +kernel
theorem rd_KR_loadCords_53 : decode mb_KR_loadCords 53 = .ok (.aload_n 0, 1) := by decide +kernel
theorem rd_KR_loadCords_54 : decode mb_KR_loadCords 54 = .ok (.iconst 0, 1) := by decide +kernel
theorem rd_KR_loadCords_55 : decode mb_KR_loadCords 55 = .ok (.putfield 60, 3) := by decide +kernel
theorem rd_KR_loadCords_58 : decode mb_KR_loadCords 58 = .ok (.aload_n 0, 1) := by decide +kernel
theorem rd_KR_loadCords_59 : decode mb_KR_loadCords 59 = .ok (.getfield 33, 3) := by decide +kernel
theorem rd_KR_loadCords_62 : decode mb_KR_loadCords 62 = .ok (.getfield 105, 3) := by decide +kernel
theorem rd_KR_loadCords_65 : decode mb_KR_loadCords 65 = .ok (.ireturn, 1) := by decide +kernel
theorem rd_KR_clusterCount_0 : decode mb_KR_clusterCount 0 = .ok (.aload_n 0, 1) := by decide +kernel
theorem rd_KR_clusterCount_1 : decode mb_KR_clusterCount 1 = .ok (.getfield 33, 3) := by decide +kernel
theorem rd_KR_clusterCount_4 : decode mb_KR_clusterCount 4 = .ok (.getfield 148, 3) := by decide +kernel
theorem rd_KR_clusterCount_7 : decode mb_KR_clusterCount 7 = .ok (.ireturn, 1) := by decide +kernel
theorem rd_KR_cordCount_0 : decode mb_KR_cordCount 0 = .ok (.aload_n 0, 1) := by decide +kernel
theorem rd_KR_cordCount_1 : decode mb_KR_cordCount 1 = .ok (.getfield 33, 3) := by decide +kernel
theorem rd_KR_cordCount_4 : decode mb_KR_cordCount 4 = .ok (.getfield 105, 3) := by decide +kernel
theorem rd_KR_cordCount_7 : decode mb_KR_cordCount 7 = .ok (.ireturn, 1) := by decide +kernel
theorem rd_KR_requireCord_0 : decode mb_KR_requireCord 0 = .ok (.aload_n 0, 1) := by decide +kernel
theorem rd_KR_requireCord_1 : decode mb_KR_requireCord 1 = .ok (.getfield 33, 3) := by decide +kernel
theorem rd_KR_requireCord_4 : decode mb_KR_requireCord 4 = .ok (.iload_n 1, 1) := by decide +kernel
theorem rd_KR_requireCord_5 : decode mb_KR_requireCord 5 = .ok (.invokevirtual 312, 3) := by decide +kernel
theorem rd_KR_requireCord_8 : decode mb_KR_requireCord 8 = .ok (.ifCond .ne 14, 3) := by decide +kernel
theorem rd_KR_requireCord_11 : decode mb_KR_requireCord 11 = .ok (.new 302, 3) := by decide +kernel
theorem rd_KR_requireCord_14 : decode mb_KR_requireCord 14 = .ok (.dup, 1) := by decide +kernel
theorem rd_KR_requireCord_15 : decode mb_KR_requireCord 15 = .ok (.ldc_w 313, 3) := by decide +kernel
theorem rd_KR_requireCord_18 : decode mb_KR_requireCord 18 = .ok (.invokespecial 306, 3) := by decide +kernel
theorem rd_KR_requireCord_21 : decode mb_KR_requireCord 21 = .ok (.athrow, 1) := by decide +kernel
theorem rd_KR_requireCord_22 : decode mb_KR_requireCord 22 = .ok (.return_, 1) := by decide +kernel
theorem rd_KR_clusterOf_0 : decode mb_KR_clusterOf 0 = .ok (.aload_n 0, 1) := by decide +kernel
theorem rd_KR_clusterOf_1 : decode mb_KR_clusterOf 1 = .ok (.iload_n 1, 1) := by decide +kernel
theorem rd_KR_clusterOf_2 : decode mb_KR_clusterOf 2 = .ok (.invokevirtual 172, 3) := by decide +kernel
theorem rd_KR_clusterOf_5 : decode mb_KR_clusterOf 5 = .ok (.aload_n 0, 1) := by decide +kernel
theorem rd_KR_clusterOf_6 : decode mb_KR_clusterOf 6 = .ok (.getfield 33, 3) := by decide +kernel
theorem rd_KR_clusterOf_9 : decode mb_KR_clusterOf 9 = .ok (.iload_n 1, 1) := by decide +kernel
theorem rd_KR_clusterOf_10 : decode mb_KR_clusterOf 10 = .ok (.invokevirtual 175, 3) := by decide +kernel
theorem rd_KR_clusterOf_13 : decode mb_KR_clusterOf 13 = .ok (.ireturn, 1) := by decide +kernel
theorem rd_KR_depthOf_0 : decode mb_KR_depthOf 0 = .ok (.aload_n 0, 1) := by decide +kernel
theorem rd_KR_depthOf_1 : decode mb_KR_depthOf 1 = .ok (.iload_n 1, 1) := by decide +kernel
theorem rd_KR_depthOf_2 : decode mb_KR_depthOf 2 = .ok (.invokevirtual 172, 3) := by decide +kernel
theorem rd_KR_depthOf_5 : decode mb_KR_depthOf 5 = .ok (.aload_n 0, 1) := by decide +kernel
theorem rd_KR_depthOf_6 : decode mb_KR_depthOf 6 = .ok (.getfield 33, 3) := by decide +kernel
theorem rd_KR_depthOf_9 : decode mb_KR_depthOf 9 = .ok (.getfield 178, 3) := by decide +kernel
theorem rd_KR_depthOf_12 : decode mb_KR_depthOf 12 = .ok (.iload_n 1, 1) := by decide +kernel
theorem rd_KR_depthOf_13 : decode mb_KR_depthOf 13 = .ok (.invokevirtual 119, 3) := by decide +kernel
theorem rd_KR_depthOf_16 : decode mb_KR_depthOf 16 = .ok (.ireturn, 1) := by decide +kernel
theorem rd_KR_topicOf_0 : decode mb_KR_topicOf 0 = .ok (.aload_n 0, 1) := by decide +kernel
theorem rd_KR_topicOf_1 : decode mb_KR_topicOf 1 = .ok (.iload_n 1, 1) := by decide +kernel
theorem rd_KR_topicOf_2 : decode mb_KR_topicOf 2 = .ok (.invokevirtual 172, 3) := by decide +kernel
theorem rd_KR_topicOf_5 : decode mb_KR_topicOf 5 = .ok (.aload_n 0, 1) := by decide +kernel
theorem rd_KR_topicOf_6 : decode mb_KR_topicOf 6 = .ok (.getfield 33, 3) := by decide +kernel
theorem rd_KR_topicOf_9 : decode mb_KR_topicOf 9 = .ok (.getfield 184, 3) := by decide +kernel
theorem rd_KR_topicOf_12 : decode mb_KR_topicOf 12 = .ok (.iload_n 1, 1) := by decide +kernel
theorem rd_KR_topicOf_13 : decode mb_KR_topicOf 13 = .ok (.invokevirtual 119, 3) := by decide +kernel
theorem rd_KR_topicOf_16 : decode mb_KR_topicOf 16 = .ok (.ireturn, 1) := by decide +kernel
theorem rd_KR_subsidiariesOf_0 : decode mb_KR_subsidiariesOf 0 = .ok (.aload_n 0, 1) := by decide +kernel
theorem rd_KR_subsidiariesOf_1 : decode mb_KR_subsidiariesOf 1 = .ok (.iload_n 1, 1) := by decide +kernel
theorem rd_KR_subsidiariesOf_2 : decode mb_KR_subsidiariesOf 2 = .ok (.invokevirtual 172, 3) := by decide +kernel
theorem rd_KR_subsidiariesOf_5 : decode mb_KR_subsidiariesOf 5 = .ok (.aload_n 0, 1) := by decide +kernel
theorem rd_KR_subsidiariesOf_6 : decode mb_KR_subsidiariesOf 6 = .ok (.getfield 33, 3) := by decide +kernel
theorem rd_KR_subsidiariesOf_9 : decode mb_KR_subsidiariesOf 9 = .ok (.iload_n 1, 1) := by decide +kernel
theorem rd_KR_subsidiariesOf_10 : decode mb_KR_subsidiariesOf 10 = .ok (.iconst 1, 1) := by decide +kernel
theorem rd_KR_subsidiariesOf_11 : decode mb_KR_subsidiariesOf 11 = .ok (.iadd, 1) := by decide +kernel
theorem rd_KR_subsidiariesOf_12 : decode mb_KR_subsidiariesOf 12 = .ok (.aload_n 0, 1) := by decide +kernel
theorem rd_KR_subsidiariesOf_13 : decode mb_KR_subsidiariesOf 13 = .ok (.getfield 33, 3) := by decide +kernel
theorem rd_KR_subsidiariesOf_16 : decode mb_KR_subsidiariesOf 16 = .ok (.iload_n 1, 1) := by decide +kernel
theorem rd_KR_subsidiariesOf_17 : decode mb_KR_subsidiariesOf 17 = .ok (.invokevirtual 187, 3) := by decide +kernel
theorem rd_KR_subsidiariesOf_20 : decode mb_KR_subsidiariesOf 20 = .ok (.aload_n 0, 1) := by decide +kernel
theorem rd_KR_subsidiariesOf_21 : decode mb_KR_subsidiariesOf 21 = .ok (.getfield 33, 3) := by decide +kernel
theorem rd_KR_subsidiariesOf_24 : decode mb_KR_subsidiariesOf 24 = .ok (.getfield 178, 3) := by decide +kernel
theorem rd_KR_subsidiariesOf_27 : decode mb_KR_subsidiariesOf 27 = .ok (.iload_n 1, 1) := by decide +kernel
theorem rd_KR_subsidiariesOf_28 : decode mb_KR_subsidiariesOf 28 = .ok (.invokevirtual 119, 3) := by decide +kernel
theorem rd_KR_subsidiariesOf_31 : decode mb_KR_subsidiariesOf 31 = .ok (.iconst 1, 1) := by decide +kernel
theorem rd_KR_subsidiariesOf_32 : decode mb_KR_subsidiariesOf 32 = .ok (.iadd, 1) := by decide +kernel
theorem rd_KR_subsidiariesOf_33 : decode mb_KR_subsidiariesOf 33 = .ok (.invokevirtual 190, 3) := by decide +kernel
theorem rd_KR_subsidiariesOf_36 : decode mb_KR_subsidiariesOf 36 = .ok (.ireturn, 1) := by decide +kernel
theorem rd_KR_nibbledPlaces_0 : decode mb_KR_nibbledPlaces 0 = .ok (.aload_n 0, 1) := by decide +kernel
theorem rd_KR_nibbledPlaces_1 : decode mb_KR_nibbledPlaces 1 = .ok (.iload_n 1, 1) := by decide +kernel
theorem rd_KR_nibbledPlaces_2 : decode mb_KR_nibbledPlaces 2 = .ok (.invokevirtual 172, 3) := by decide +kernel
theorem rd_KR_nibbledPlaces_5 : decode mb_KR_nibbledPlaces 5 = .ok (.aload_n 0, 1) := by decide +kernel
theorem rd_KR_nibbledPlaces_6 : decode mb_KR_nibbledPlaces 6 = .ok (.getfield 33, 3) := by decide +kernel
theorem rd_KR_nibbledPlaces_9 : decode mb_KR_nibbledPlaces 9 = .ok (.getfield 194, 3) := by decide +kernel
theorem rd_KR_nibbledPlaces_12 : decode mb_KR_nibbledPlaces 12 = .ok (.iload_n 1, 1) := by decide +kernel
theorem rd_KR_nibbledPlaces_13 : decode mb_KR_nibbledPlaces 13 = .ok (.invokevirtual 119, 3) := by decide +kernel
theorem rd_KR_nibbledPlaces_16 : decode mb_KR_nibbledPlaces 16 = .ok (.ireturn, 1) := by decide +kernel
theorem rd_KR_knownValue_0 : decode mb_KR_knownValue 0 = .ok (.aload_n 0, 1) := by decide +kernel
theorem rd_KR_knownValue_1 : decode mb_KR_knownValue 1 = .ok (.iload_n 1, 1) := by decide +kernel
theorem rd_KR_knownValue_2 : decode mb_KR_knownValue 2 = .ok (.invokevirtual 172, 3) := by decide +kernel
theorem rd_KR_knownValue_5 : decode mb_KR_knownValue 5 = .ok (.aload_n 0, 1) := by decide +kernel
theorem rd_KR_knownValue_6 : decode mb_KR_knownValue 6 = .ok (.getfield 33, 3) := by decide +kernel
theorem rd_KR_knownValue_9 : decode mb_KR_knownValue 9 = .ok (.getfield 151, 3) := by decide +kernel
theorem rd_KR_knownValue_12 : decode mb_KR_knownValue 12 = .ok (.iload_n 1, 1) := by decide +kernel
theorem rd_KR_knownValue_13 : decode mb_KR_knownValue 13 = .ok (.invokevirtual 119, 3) := by decide +kernel
theorem rd_KR_knownValue_16 : decode mb_KR_knownValue 16 = .ok (.ireturn, 1) := by decide +kernel
theorem rd_KR_lowestTotal_0 : decode mb_KR_lowestTotal 0 = .ok (.aload_n 0, 1) := by decide +kernel
theorem rd_KR_lowestTotal_1 : decode mb_KR_lowestTotal 1 = .ok (.iload_n 1, 1) := by decide +kernel
theorem rd_KR_lowestTotal_2 : decode mb_KR_lowestTotal 2 = .ok (.invokevirtual 172, 3) := by decide +kernel
theorem rd_KR_lowestTotal_5 : decode mb_KR_lowestTotal 5 = .ok (.aload_n 0, 1) := by decide +kernel
theorem rd_KR_lowestTotal_6 : decode mb_KR_lowestTotal 6 = .ok (.getfield 33, 3) := by decide +kernel
theorem rd_KR_lowestTotal_9 : decode mb_KR_lowestTotal 9 = .ok (.iload_n 1, 1) := by decide +kernel
theorem rd_KR_lowestTotal_10 : decode mb_KR_lowestTotal 10 = .ok (.aload_n 0, 1) := by decide +kernel
theorem rd_KR_lowestTotal_11 : decode mb_KR_lowestTotal 11 = .ok (.getfield 33, 3) := by decide +kernel
theorem rd_KR_lowestTotal_14 : decode mb_KR_lowestTotal 14 = .ok (.iload_n 1, 1) := by decide +kernel
theorem rd_KR_lowestTotal_15 : decode mb_KR_lowestTotal 15 = .ok (.invokevirtual 187, 3) := by decide +kernel
theorem rd_KR_lowestTotal_18 : decode mb_KR_lowestTotal 18 = .ok (.invokevirtual 197, 3) := by decide +kernel
theorem rd_KR_lowestTotal_21 : decode mb_KR_lowestTotal 21 = .ok (.ireturn, 1) := by decide +kernel
theorem rd_KR_isPlace_0 : decode mb_KR_isPlace 0 = .ok (.iload_n 0, 1) := by decide +kernel
theorem rd_KR_isPlace_1 : decode mb_KR_isPlace 1 = .ok (.ifCond .lt 12, 3) := by decide +kernel
theorem rd_KR_isPlace_4 : decode mb_KR_isPlace 4 = .ok (.iload_n 0, 1) := by decide +kernel
theorem rd_KR_isPlace_5 : decode mb_KR_isPlace 5 = .ok (.iconst 4, 1) := by decide +kernel
theorem rd_KR_isPlace_6 : decode mb_KR_isPlace 6 = .ok (.if_icmp .ge 7, 3) := by decide +kernel
theorem rd_KR_isPlace_9 : decode mb_KR_isPlace 9 = .ok (.iconst 1, 1) := by decide +kernel
theorem rd_KR_isPlace_10 : decode mb_KR_isPlace 10 = .ok (.goto 4, 3) := by decide +kernel
theorem rd_KR_isPlace_13 : decode mb_KR_isPlace 13 = .ok (.iconst 0, 1) := by decide +kernel
theorem rd_KR_isPlace_14 : decode mb_KR_isPlace 14 = .ok (.ireturn, 1) := by decide +kernel
def wd_Topics_clear (cI : ClassId) (a_t a_t_names : Nat) (i_t_size : Int) : va_W := [(a_t, .inr (2, [jk_V i_t_size, .ref a_t_names]))]
set_option maxHeartbeats 4000000 in
set_option maxRecDepth 20000 in
theorem ct_Topics_clear (l : Launch) (D : va_G) (Z : (Nat → Prop) → State → Heap → Prop) (sq : Nat → Nat) (hZ : jk_ZK Z sq) (cI cR : ClassId) (a_t a_t_names : Nat) (i_t_size : Int) (q : Int) (hf : fn_Topics_clear i_t_size = some q) : jk_MV l D jk_cl (jk_ty cI cR) Z mn_Topics_clear (.code mn_Topics_clear mb_Topics_clear 1 none :: jk_WA) (jk_rm 0 0) [.ref a_t] (wd_Topics_clear cI a_t a_t_names i_t_size) (wd_Topics_clear cI a_t a_t_names q) := by
  intro sz
  refine jk_body (by decide +kernel) (fun p e s m args below meth c hsz hz hin C => ?_) (Nat.le_of_ble_eq_true rfl)
  subst hsz
  unfold fn_Topics_clear at hf
  refine jk_aload_n C rd_Topics_clear_0 (k := 0) rfl ?_
  refine jk_iconst C rd_Topics_clear_1 ?_
  refine jk_putf C in_Topics ty_Topics nm_Topics (ci := 2) rfl 0 (by decide) tm_113 rfl rfl rfl 0 rfl (Nat.le_of_ble_eq_true rfl) rd_Topics_clear_2 (ws' := wd_Topics_clear cI a_t a_t_names 0) rfl ?_
  cases hf
  exact jk_vret C rfl rd_Topics_clear_5 rfl
def wd_Setup_parse (cI : ClassId) (a_a a_a_bytes a_a_bytes_k a_b a_b_names a_b_names_k a_c a_c_starts a_c_depth a_c_topic a_c_value a_c_nibbled a_c_starts_k a_c_depth_k a_c_topic_k a_c_value_k a_c_nibbled_k : Nat) (i_a_length : Int) (i_a_kind : Int) (i_a_start : Int) (i_a_end : Int) (i_a_code : Int) (i_a_offset : Int) (i_a_bytes : (Int → Int)) (i_b_size : Int) (i_b_names : (Int → Int)) (i_c_clusters : Int) (i_c_size : Int) (i_c_starts : (Int → Int)) (i_c_depth : (Int → Int)) (i_c_topic : (Int → Int)) (i_c_value : (Int → Int)) (i_c_nibbled : (Int → Int)) : va_W := [(a_a, .inr (3, [.ref a_a_bytes, jk_V i_a_length, jk_V i_a_kind, jk_V i_a_start, jk_V i_a_end, jk_V i_a_code, jk_V i_a_offset])), (a_a_bytes, .inr (0, [.ref a_a_bytes_k])), (a_a_bytes_k, jk_W cI 700 i_a_bytes), (a_b, .inr (2, [jk_V i_b_size, .ref a_b_names])), (a_b_names, .inr (0, [.ref a_b_names_k])), (a_b_names_k, jk_W cI 8 i_b_names), (a_c, .inr (5, [jk_V i_c_clusters, jk_V i_c_size, .ref a_c_starts, .ref a_c_depth, .ref a_c_topic, .ref a_c_value, .ref a_c_nibbled])), (a_c_starts, .inr (0, [.ref a_c_starts_k])), (a_c_starts_k, jk_W cI 7 i_c_starts), (a_c_depth, .inr (0, [.ref a_c_depth_k])), (a_c_depth_k, jk_W cI 40 i_c_depth), (a_c_topic, .inr (0, [.ref a_c_topic_k])), (a_c_topic_k, jk_W cI 40 i_c_topic), (a_c_value, .inr (0, [.ref a_c_value_k])), (a_c_value_k, jk_W cI 40 i_c_value), (a_c_nibbled, .inr (0, [.ref a_c_nibbled_k])), (a_c_nibbled_k, jk_W cI 40 i_c_nibbled)]
set_option maxHeartbeats 4000000 in
set_option maxRecDepth 20000 in
theorem ct_Setup_parse (l : Launch) (D : va_G) (Z : (Nat → Prop) → State → Heap → Prop) (sq : Nat → Nat) (hZ : jk_ZK Z sq) (cI cR : ClassId) (a_a a_a_bytes a_a_bytes_k a_b a_b_names a_b_names_k a_c a_c_starts a_c_depth a_c_topic a_c_value a_c_nibbled a_c_starts_k a_c_depth_k a_c_topic_k a_c_value_k a_c_nibbled_k : Nat) (i_a_length : Int) (i_a_kind : Int) (i_a_start : Int) (i_a_end : Int) (i_a_code : Int) (i_a_offset : Int) (i_a_bytes : (Int → Int)) (i_b_size : Int) (i_b_names : (Int → Int)) (i_c_clusters : Int) (i_c_size : Int) (i_c_starts : (Int → Int)) (i_c_depth : (Int → Int)) (i_c_topic : (Int → Int)) (i_c_value : (Int → Int)) (i_c_nibbled : (Int → Int)) (q : Int × Int × Int × Int × Int × Int × (Int → Int) × Int × Int × (Int → Int) × (Int → Int) × (Int → Int) × (Int → Int) × (Int → Int)) (hf : fn_Setup_parse i_a_bytes i_a_length i_a_kind i_a_start i_a_end i_a_code i_a_offset i_b_size i_b_names i_c_clusters i_c_size i_c_starts i_c_depth i_c_topic i_c_value i_c_nibbled = some q) : jk_MV l D jk_cl (jk_ty cI cR) Z mn_Setup_parse (.code mn_Setup_parse mb_Setup_parse 4 none :: jk_WA) (jk_rm 9 371) [.ref a_a, .ref a_b, .ref a_c] (wd_Setup_parse cI a_a a_a_bytes a_a_bytes_k a_b a_b_names a_b_names_k a_c a_c_starts a_c_depth a_c_topic a_c_value a_c_nibbled a_c_starts_k a_c_depth_k a_c_topic_k a_c_value_k a_c_nibbled_k i_a_length i_a_kind i_a_start i_a_end i_a_code i_a_offset i_a_bytes i_b_size i_b_names i_c_clusters i_c_size i_c_starts i_c_depth i_c_topic i_c_value i_c_nibbled) (wd_Setup_parse cI a_a a_a_bytes a_a_bytes_k a_b a_b_names a_b_names_k a_c a_c_starts a_c_depth a_c_topic a_c_value a_c_nibbled a_c_starts_k a_c_depth_k a_c_topic_k a_c_value_k a_c_nibbled_k i_a_length q.1 q.2.1 q.2.2.1 q.2.2.2.1 q.2.2.2.2.1 i_a_bytes q.2.2.2.2.2.1 q.2.2.2.2.2.2.1 q.2.2.2.2.2.2.2.1 q.2.2.2.2.2.2.2.2.1 q.2.2.2.2.2.2.2.2.2.1 q.2.2.2.2.2.2.2.2.2.2.1 q.2.2.2.2.2.2.2.2.2.2.2.1 q.2.2.2.2.2.2.2.2.2.2.2.2.1 q.2.2.2.2.2.2.2.2.2.2.2.2.2) := by
  intro sz
  refine jk_body (by decide +kernel) (fun p e s m args below meth c hsz hz hin C => ?_) (Nat.le_of_ble_eq_true rfl)
  subst hsz
  unfold fn_Setup_parse at hf
  have bk_14 : ∀ (n : Nat) (a_kind : Int) (a_start : Int) (a_end : Int) (a_code : Int) (a_offset : Int) (b_size : Int) (b_names : (Int → Int)) (c_clusters : Int) (c_size : Int) (c_starts : (Int → Int)) (c_depth : (Int → Int)) (c_topic : (Int → Int)) (c_value : (Int → Int)) (c_nibbled : (Int → Int)) (v3 : Int), fn_Setup_parse_b14 n i_a_bytes i_a_length a_kind a_start a_end a_code a_offset b_size b_names c_clusters c_size c_starts c_depth c_topic c_value c_nibbled v3 = some q → jk_J p l e (jk_rm 9 371) s m args below meth c 0 0 (jk_QV below D jk_cl (jk_ty cI cR) (wd_Setup_parse cI a_a a_a_bytes a_a_bytes_k a_b a_b_names a_b_names_k a_c a_c_starts a_c_depth a_c_topic a_c_value a_c_nibbled a_c_starts_k a_c_depth_k a_c_topic_k a_c_value_k a_c_nibbled_k i_a_length i_a_kind i_a_start i_a_end i_a_code i_a_offset i_a_bytes i_b_size i_b_names i_c_clusters i_c_size i_c_starts i_c_depth i_c_topic i_c_value i_c_nibbled) (wd_Setup_parse cI a_a a_a_bytes a_a_bytes_k a_b a_b_names a_b_names_k a_c a_c_starts a_c_depth a_c_topic a_c_value a_c_nibbled a_c_starts_k a_c_depth_k a_c_topic_k a_c_value_k a_c_nibbled_k i_a_length q.1 q.2.1 q.2.2.1 q.2.2.2.1 q.2.2.2.2.1 i_a_bytes q.2.2.2.2.2.1 q.2.2.2.2.2.2.1 q.2.2.2.2.2.2.2.1 q.2.2.2.2.2.2.2.2.1 q.2.2.2.2.2.2.2.2.2.1 q.2.2.2.2.2.2.2.2.2.2.1 q.2.2.2.2.2.2.2.2.2.2.2.1 q.2.2.2.2.2.2.2.2.2.2.2.2.1 q.2.2.2.2.2.2.2.2.2.2.2.2.2) args s) D jk_cl (va_A (wd_Setup_parse cI a_a a_a_bytes a_a_bytes_k a_b a_b_names a_b_names_k a_c a_c_starts a_c_depth a_c_topic a_c_value a_c_nibbled a_c_starts_k a_c_depth_k a_c_topic_k a_c_value_k a_c_nibbled_k i_a_length i_a_kind i_a_start i_a_end i_a_code i_a_offset i_a_bytes i_b_size i_b_names i_c_clusters i_c_size i_c_starts i_c_depth i_c_topic i_c_value i_c_nibbled) s.heap.size) 4 (wd_Setup_parse cI a_a a_a_bytes a_a_bytes_k a_b a_b_names a_b_names_k a_c a_c_starts a_c_depth a_c_topic a_c_value a_c_nibbled a_c_starts_k a_c_depth_k a_c_topic_k a_c_value_k a_c_nibbled_k i_a_length a_kind a_start a_end a_code a_offset i_a_bytes b_size b_names c_clusters c_size c_starts c_depth c_topic c_value c_nibbled) [(0, .ref a_a), (1, .ref a_b), (2, .ref a_c), (3, jk_V v3)] 14 [] := by
    intro n
    induction n with
    | zero => intro a_kind a_start a_end a_code a_offset b_size b_names c_clusters c_size c_starts c_depth c_topic c_value c_nibbled v3 hf; exact nomatch (show none = some q from hf)
    | succ n ih =>
      intro a_kind a_start a_end a_code a_offset b_size b_names c_clusters c_size c_starts c_depth c_topic c_value c_nibbled v3 hf
      rw [fn_Setup_parse_b14] at hf
      refine jk_iload_n C rd_Setup_parse_14 (k := 3) rfl ?_
      refine jk_sipush C rd_Setup_parse_15 (by decide +kernel) ?_
      refine jk_icmp_gt (tgt := 74) C rd_Setup_parse_18 (by decide) hf (fun _ hf => ?_) (fun _ hf => ?_)
      · refine jk_aload_n C rd_Setup_parse_74 (k := 1) rfl ?_
        refine jk_getN C in_Topics (ci := 2) rfl 0 (by decide) (jk_nw hZ hz tn_6) 3 rfl rfl rd_Setup_parse_75 ?_
        refine jk_if_ne (tgt := 87) C rd_Setup_parse_78 (by decide) hf (fun _ hf => ?_) (fun _ hf => ?_)
        · cases hf
          exact jk_vret C rfl rd_Setup_parse_87 rfl
        · refine jk_aload_n C rd_Setup_parse_81 (k := 0) rfl ?_
          refine jk_bipush C rd_Setup_parse_82 (by decide +kernel) ?_
          obtain ⟨q84, hq84, hf⟩ := jk_bind_h hf
          refine jk_callVv C hZ.1 hz (ct_Text_fail l D Z sq hZ cI cR a_a a_a_bytes i_a_length a_kind a_start a_end a_code a_offset 7 q84 hq84) tm_310 tm_311 tm_312 tm_2 tm_313 na_Text_fail ⟨Nat.le_of_ble_eq_true rfl, Nat.le_of_ble_eq_true rfl⟩ rfl [0] rfl rfl rfl (ws' := wd_Setup_parse cI a_a a_a_bytes a_a_bytes_k a_b a_b_names a_b_names_k a_c a_c_starts a_c_depth a_c_topic a_c_value a_c_nibbled a_c_starts_k a_c_depth_k a_c_topic_k a_c_value_k a_c_nibbled_k i_a_length a_kind a_start a_end q84.1 q84.2 i_a_bytes b_size b_names c_clusters c_size c_starts c_depth c_topic c_value c_nibbled) rfl 0 3 rfl rfl rfl (st := []) rfl (Nat.le_of_ble_eq_true rfl) rd_Setup_parse_84 ?_ ⟨Nat.le_of_ble_eq_true rfl, Nat.le_of_ble_eq_true rfl⟩
          cases hf
          exact jk_vret C rfl rd_Setup_parse_87 rfl
      · refine jk_aload_n C rd_Setup_parse_21 (k := 0) rfl ?_
        obtain ⟨q22, hq22, hf⟩ := jk_bind_h hf
        refine jk_callVi C hZ.1 hz (ct_Text_nextStatement l D Z sq hZ cI cR a_a a_a_bytes a_a_bytes_k i_a_length a_kind a_start a_end a_code a_offset i_a_bytes q22 hq22) tm_282 tm_283 tm_284 tm_2 tm_285 na_Text_nextStatement ⟨Nat.le_of_ble_eq_true rfl, Nat.le_of_ble_eq_true rfl⟩ rfl [0, 1, 2] rfl rfl rfl (ws' := wd_Setup_parse cI a_a a_a_bytes a_a_bytes_k a_b a_b_names a_b_names_k a_c a_c_starts a_c_depth a_c_topic a_c_value a_c_nibbled a_c_starts_k a_c_depth_k a_c_topic_k a_c_value_k a_c_nibbled_k i_a_length q22.2.1 q22.2.2.1 q22.2.2.2 a_code a_offset i_a_bytes b_size b_names c_clusters c_size c_starts c_depth c_topic c_value c_nibbled) rfl 0 3 rfl rfl rfl (st := []) rfl (Nat.le_of_ble_eq_true rfl) rd_Setup_parse_22 ?_ ⟨Nat.le_of_ble_eq_true rfl, Nat.le_of_ble_eq_true rfl⟩
        refine jk_if_eq (tgt := 74) C rd_Setup_parse_25 (by decide) hf (fun _ hf => ?_) (fun _ hf => ?_)
        · refine jk_aload_n C rd_Setup_parse_74 (k := 1) rfl ?_
          refine jk_getN C in_Topics (ci := 2) rfl 0 (by decide) (jk_nw hZ hz tn_6) 3 rfl rfl rd_Setup_parse_75 ?_
          refine jk_if_ne (tgt := 87) C rd_Setup_parse_78 (by decide) hf (fun _ hf => ?_) (fun _ hf => ?_)
          · cases hf
            exact jk_vret C rfl rd_Setup_parse_87 rfl
          · refine jk_aload_n C rd_Setup_parse_81 (k := 0) rfl ?_
            refine jk_bipush C rd_Setup_parse_82 (by decide +kernel) ?_
            obtain ⟨q84, hq84, hf⟩ := jk_bind_h hf
            refine jk_callVv C hZ.1 hz (ct_Text_fail l D Z sq hZ cI cR a_a a_a_bytes i_a_length q22.2.1 q22.2.2.1 q22.2.2.2 a_code a_offset 7 q84 hq84) tm_310 tm_311 tm_312 tm_2 tm_313 na_Text_fail ⟨Nat.le_of_ble_eq_true rfl, Nat.le_of_ble_eq_true rfl⟩ rfl [0] rfl rfl rfl (ws' := wd_Setup_parse cI a_a a_a_bytes a_a_bytes_k a_b a_b_names a_b_names_k a_c a_c_starts a_c_depth a_c_topic a_c_value a_c_nibbled a_c_starts_k a_c_depth_k a_c_topic_k a_c_value_k a_c_nibbled_k i_a_length q22.2.1 q22.2.2.1 q22.2.2.2 q84.1 q84.2 i_a_bytes b_size b_names c_clusters c_size c_starts c_depth c_topic c_value c_nibbled) rfl 0 3 rfl rfl rfl (st := []) rfl (Nat.le_of_ble_eq_true rfl) rd_Setup_parse_84 ?_ ⟨Nat.le_of_ble_eq_true rfl, Nat.le_of_ble_eq_true rfl⟩
            cases hf
            exact jk_vret C rfl rd_Setup_parse_87 rfl
        · refine jk_aload_n C rd_Setup_parse_28 (k := 0) rfl ?_
          refine jk_ldcs C hZ hz rd_Setup_parse_29 (k := 1) rfl ?_
          obtain ⟨q31, hq31, hf⟩ := jk_bind_h hf
          refine jk_callVi C hZ.1 hz (ct_Text_isWord l D Z sq hZ cI cR a_a a_a_bytes a_a_bytes_k i_a_length q22.2.1 q22.2.2.1 q22.2.2.2 a_code a_offset i_a_bytes ([116, 111, 112, 105, 99]) ((sq 1)) ((jk_zs hZ (k := 1) rfl)) q31 hq31) tm_303 tm_304 tm_305 tm_2 tm_306 na_Text_isWord ⟨Nat.le_of_ble_eq_true rfl, Nat.le_of_ble_eq_true rfl⟩ rfl [0, 1, 2] rfl rfl rfl (ws' := wd_Setup_parse cI a_a a_a_bytes a_a_bytes_k a_b a_b_names a_b_names_k a_c a_c_starts a_c_depth a_c_topic a_c_value a_c_nibbled a_c_starts_k a_c_depth_k a_c_topic_k a_c_value_k a_c_nibbled_k i_a_length q22.2.1 q22.2.2.1 q22.2.2.2 a_code a_offset i_a_bytes b_size b_names c_clusters c_size c_starts c_depth c_topic c_value c_nibbled) rfl 0 3 rfl rfl rfl (st := []) rfl (Nat.le_of_ble_eq_true rfl) rd_Setup_parse_31 ?_ ⟨Nat.le_of_ble_eq_true rfl, Nat.le_of_ble_eq_true rfl⟩
          refine jk_if_eq (tgt := 45) C rd_Setup_parse_34 (by decide) hf (fun _ hf => ?_) (fun _ hf => ?_)
          · refine jk_aload_n C rd_Setup_parse_45 (k := 0) rfl ?_
            refine jk_ldcs C hZ hz rd_Setup_parse_46 (k := 2) rfl ?_
            obtain ⟨q48, hq48, hf⟩ := jk_bind_h hf
            refine jk_callVi C hZ.1 hz (ct_Text_isWord l D Z sq hZ cI cR a_a a_a_bytes a_a_bytes_k i_a_length q22.2.1 q22.2.2.1 q22.2.2.2 a_code a_offset i_a_bytes ([99, 108, 117, 115, 116, 101, 114]) ((sq 2)) ((jk_zs hZ (k := 2) rfl)) q48 hq48) tm_303 tm_304 tm_305 tm_2 tm_306 na_Text_isWord ⟨Nat.le_of_ble_eq_true rfl, Nat.le_of_ble_eq_true rfl⟩ rfl [0, 1, 2] rfl rfl rfl (ws' := wd_Setup_parse cI a_a a_a_bytes a_a_bytes_k a_b a_b_names a_b_names_k a_c a_c_starts a_c_depth a_c_topic a_c_value a_c_nibbled a_c_starts_k a_c_depth_k a_c_topic_k a_c_value_k a_c_nibbled_k i_a_length q22.2.1 q22.2.2.1 q22.2.2.2 a_code a_offset i_a_bytes b_size b_names c_clusters c_size c_starts c_depth c_topic c_value c_nibbled) rfl 0 3 rfl rfl rfl (st := []) rfl (Nat.le_of_ble_eq_true rfl) rd_Setup_parse_48 ?_ ⟨Nat.le_of_ble_eq_true rfl, Nat.le_of_ble_eq_true rfl⟩
            refine jk_if_eq (tgt := 62) C rd_Setup_parse_51 (by decide) hf (fun _ hf => ?_) (fun _ hf => ?_)
            · refine jk_aload_n C rd_Setup_parse_62 (k := 0) rfl ?_
              refine jk_aload_n C rd_Setup_parse_63 (k := 1) rfl ?_
              refine jk_aload_n C rd_Setup_parse_64 (k := 2) rfl ?_
              obtain ⟨q65, hq65, hf⟩ := jk_bind_h hf
              refine jk_callSv C hZ.1 hz (ct_Setup_readCord l D Z sq hZ cI cR a_a a_a_bytes a_a_bytes_k a_b a_b_names a_b_names_k a_c a_c_starts a_c_depth a_c_topic a_c_value a_c_nibbled a_c_starts_k a_c_depth_k a_c_topic_k a_c_value_k a_c_nibbled_k i_a_length q22.2.1 q22.2.2.1 q22.2.2.2 a_code a_offset i_a_bytes b_size b_names c_clusters c_size c_starts c_depth c_topic c_value c_nibbled q65 hq65) tm_346 tm_347 tm_13 tm_348 na_Setup_readCord ⟨Nat.le_of_ble_eq_true rfl, Nat.le_of_ble_eq_true rfl⟩ rfl [0, 1, 2, 3, 4, 5, 6, 7, 8, 9, 10, 11, 12, 13, 14, 15, 16] rfl rfl rfl (ws' := wd_Setup_parse cI a_a a_a_bytes a_a_bytes_k a_b a_b_names a_b_names_k a_c a_c_starts a_c_depth a_c_topic a_c_value a_c_nibbled a_c_starts_k a_c_depth_k a_c_topic_k a_c_value_k a_c_nibbled_k i_a_length q65.1 q65.2.1 q65.2.2.1 q65.2.2.2.1 q65.2.2.2.2.1 i_a_bytes b_size b_names c_clusters q65.2.2.2.2.2.1 q65.2.2.2.2.2.2.1 q65.2.2.2.2.2.2.2.1 q65.2.2.2.2.2.2.2.2.1 q65.2.2.2.2.2.2.2.2.2.1 q65.2.2.2.2.2.2.2.2.2.2) rfl (st := []) rfl (Nat.le_of_ble_eq_true rfl) rd_Setup_parse_65 ?_ ⟨Nat.le_of_ble_eq_true rfl, Nat.le_of_ble_eq_true rfl⟩
              refine jk_iinc C rd_Setup_parse_68 (k := 3) rfl (by decide) (lv' := [(3, jk_V (v3 + 1)), (0, .ref a_a), (1, .ref a_b), (2, .ref a_c)]) rfl ?_
              refine jk_goto (tgt := 14) C rd_Setup_parse_71 (by decide) ?_
              refine jk_lv (lv' := [(0, .ref a_a), (1, .ref a_b), (2, .ref a_c), (3, jk_V (v3 + 1))]) [1, 2, 3, 0] rfl ?_
              exact ih q65.1 q65.2.1 q65.2.2.1 q65.2.2.2.1 q65.2.2.2.2.1 b_size b_names c_clusters q65.2.2.2.2.2.1 q65.2.2.2.2.2.2.1 q65.2.2.2.2.2.2.2.1 q65.2.2.2.2.2.2.2.2.1 q65.2.2.2.2.2.2.2.2.2.1 q65.2.2.2.2.2.2.2.2.2.2 (v3 + 1) hf
            · refine jk_aload_n C rd_Setup_parse_54 (k := 0) rfl ?_
              refine jk_aload_n C rd_Setup_parse_55 (k := 2) rfl ?_
              obtain ⟨q56, hq56, hf⟩ := jk_bind_h hf
              refine jk_callSv C hZ.1 hz (ct_Setup_readCluster l D Z sq hZ cI cR a_a a_a_bytes a_a_bytes_k a_c a_c_starts a_c_depth a_c_topic a_c_value a_c_nibbled a_c_starts_k i_a_length q22.2.1 q22.2.2.1 q22.2.2.2 a_code a_offset i_a_bytes c_clusters c_size c_starts q56 hq56) tm_338 tm_339 tm_13 tm_340 na_Setup_readCluster ⟨Nat.le_of_ble_eq_true rfl, Nat.le_of_ble_eq_true rfl⟩ rfl [0, 1, 2, 6, 7, 8] rfl rfl rfl (ws' := wd_Setup_parse cI a_a a_a_bytes a_a_bytes_k a_b a_b_names a_b_names_k a_c a_c_starts a_c_depth a_c_topic a_c_value a_c_nibbled a_c_starts_k a_c_depth_k a_c_topic_k a_c_value_k a_c_nibbled_k i_a_length q56.1 q56.2.1 q56.2.2.1 q56.2.2.2.1 q56.2.2.2.2.1 i_a_bytes b_size b_names q56.2.2.2.2.2.1 c_size q56.2.2.2.2.2.2 c_depth c_topic c_value c_nibbled) rfl (st := []) rfl (Nat.le_of_ble_eq_true rfl) rd_Setup_parse_56 ?_ ⟨Nat.le_of_ble_eq_true rfl, Nat.le_of_ble_eq_true rfl⟩
              refine jk_goto (tgt := 68) C rd_Setup_parse_59 (by decide) ?_
              refine jk_iinc C rd_Setup_parse_68 (k := 3) rfl (by decide) (lv' := [(3, jk_V (v3 + 1)), (0, .ref a_a), (1, .ref a_b), (2, .ref a_c)]) rfl ?_
              refine jk_goto (tgt := 14) C rd_Setup_parse_71 (by decide) ?_
              refine jk_lv (lv' := [(0, .ref a_a), (1, .ref a_b), (2, .ref a_c), (3, jk_V (v3 + 1))]) [1, 2, 3, 0] rfl ?_
              exact ih q56.1 q56.2.1 q56.2.2.1 q56.2.2.2.1 q56.2.2.2.2.1 b_size b_names q56.2.2.2.2.2.1 c_size q56.2.2.2.2.2.2 c_depth c_topic c_value c_nibbled (v3 + 1) hf
          · refine jk_aload_n C rd_Setup_parse_37 (k := 0) rfl ?_
            refine jk_aload_n C rd_Setup_parse_38 (k := 1) rfl ?_
            obtain ⟨q39, hq39, hf⟩ := jk_bind_h hf
            refine jk_callSv C hZ.1 hz (ct_Setup_readTopic l D Z sq hZ cI cR a_a a_a_bytes a_a_bytes_k a_b a_b_names a_b_names_k i_a_length q22.2.1 q22.2.2.1 q22.2.2.2 a_code a_offset i_a_bytes b_size b_names q39 hq39) tm_307 tm_308 tm_13 tm_309 na_Setup_readTopic ⟨Nat.le_of_ble_eq_true rfl, Nat.le_of_ble_eq_true rfl⟩ rfl [0, 1, 2, 3, 4, 5] rfl rfl rfl (ws' := wd_Setup_parse cI a_a a_a_bytes a_a_bytes_k a_b a_b_names a_b_names_k a_c a_c_starts a_c_depth a_c_topic a_c_value a_c_nibbled a_c_starts_k a_c_depth_k a_c_topic_k a_c_value_k a_c_nibbled_k i_a_length q39.1 q39.2.1 q39.2.2.1 q39.2.2.2.1 q39.2.2.2.2.1 i_a_bytes q39.2.2.2.2.2.1 q39.2.2.2.2.2.2 c_clusters c_size c_starts c_depth c_topic c_value c_nibbled) rfl (st := []) rfl (Nat.le_of_ble_eq_true rfl) rd_Setup_parse_39 ?_ ⟨Nat.le_of_ble_eq_true rfl, Nat.le_of_ble_eq_true rfl⟩
            refine jk_goto (tgt := 68) C rd_Setup_parse_42 (by decide) ?_
            refine jk_iinc C rd_Setup_parse_68 (k := 3) rfl (by decide) (lv' := [(3, jk_V (v3 + 1)), (0, .ref a_a), (1, .ref a_b), (2, .ref a_c)]) rfl ?_
            refine jk_goto (tgt := 14) C rd_Setup_parse_71 (by decide) ?_
            refine jk_lv (lv' := [(0, .ref a_a), (1, .ref a_b), (2, .ref a_c), (3, jk_V (v3 + 1))]) [1, 2, 3, 0] rfl ?_
            exact ih q39.1 q39.2.1 q39.2.2.1 q39.2.2.2.1 q39.2.2.2.2.1 q39.2.2.2.2.2.1 q39.2.2.2.2.2.2 c_clusters c_size c_starts c_depth c_topic c_value c_nibbled (v3 + 1) hf
  refine jk_aload_n C rd_Setup_parse_0 (k := 0) rfl ?_
  obtain ⟨q1, hq1, hf⟩ := jk_bind_h hf
  refine jk_callVv C hZ.1 hz (ct_Text_begin l D Z sq hZ cI cR a_a a_a_bytes i_a_length i_a_kind i_a_start i_a_end i_a_code i_a_offset q1 hq1) tm_270 tm_271 tm_272 tm_2 tm_273 na_Text_begin ⟨Nat.le_of_ble_eq_true rfl, Nat.le_of_ble_eq_true rfl⟩ rfl [0] rfl rfl rfl (ws' := wd_Setup_parse cI a_a a_a_bytes a_a_bytes_k a_b a_b_names a_b_names_k a_c a_c_starts a_c_depth a_c_topic a_c_value a_c_nibbled a_c_starts_k a_c_depth_k a_c_topic_k a_c_value_k a_c_nibbled_k i_a_length i_a_kind i_a_start q1.1 q1.2.1 q1.2.2 i_a_bytes i_b_size i_b_names i_c_clusters i_c_size i_c_starts i_c_depth i_c_topic i_c_value i_c_nibbled) rfl 0 3 rfl rfl rfl (st := []) rfl (Nat.le_of_ble_eq_true rfl) rd_Setup_parse_1 ?_ ⟨Nat.le_of_ble_eq_true rfl, Nat.le_of_ble_eq_true rfl⟩
  refine jk_aload_n C rd_Setup_parse_4 (k := 1) rfl ?_
  obtain ⟨q5, hq5, hf⟩ := jk_bind_h hf
  refine jk_callVv C hZ.1 hz (ct_Topics_clear l D Z sq hZ cI cR a_b a_b_names i_b_size q5 hq5) tm_274 tm_275 tm_276 tm_5 tm_277 na_Topics_clear ⟨Nat.le_of_ble_eq_true rfl, Nat.le_of_ble_eq_true rfl⟩ rfl [3] rfl rfl rfl (ws' := wd_Setup_parse cI a_a a_a_bytes a_a_bytes_k a_b a_b_names a_b_names_k a_c a_c_starts a_c_depth a_c_topic a_c_value a_c_nibbled a_c_starts_k a_c_depth_k a_c_topic_k a_c_value_k a_c_nibbled_k i_a_length i_a_kind i_a_start q1.1 q1.2.1 q1.2.2 i_a_bytes q5 i_b_names i_c_clusters i_c_size i_c_starts i_c_depth i_c_topic i_c_value i_c_nibbled) rfl 3 2 rfl rfl rfl (st := []) rfl (Nat.le_of_ble_eq_true rfl) rd_Setup_parse_5 ?_ ⟨Nat.le_of_ble_eq_true rfl, Nat.le_of_ble_eq_true rfl⟩
  refine jk_aload_n C rd_Setup_parse_8 (k := 2) rfl ?_
  obtain ⟨q9, hq9, hf⟩ := jk_bind_h hf
  refine jk_callVv C hZ.1 hz (ct_Cords_clear l D Z sq hZ cI cR a_c a_c_starts a_c_depth a_c_topic a_c_value a_c_nibbled i_c_clusters i_c_size q9 hq9) tm_278 tm_279 tm_280 tm_6 tm_281 na_Cords_clear ⟨Nat.le_of_ble_eq_true rfl, Nat.le_of_ble_eq_true rfl⟩ rfl [6] rfl rfl rfl (ws' := wd_Setup_parse cI a_a a_a_bytes a_a_bytes_k a_b a_b_names a_b_names_k a_c a_c_starts a_c_depth a_c_topic a_c_value a_c_nibbled a_c_starts_k a_c_depth_k a_c_topic_k a_c_value_k a_c_nibbled_k i_a_length i_a_kind i_a_start q1.1 q1.2.1 q1.2.2 i_a_bytes q5 i_b_names q9.1 q9.2 i_c_starts i_c_depth i_c_topic i_c_value i_c_nibbled) rfl 6 5 rfl rfl rfl (st := []) rfl (Nat.le_of_ble_eq_true rfl) rd_Setup_parse_9 ?_ ⟨Nat.le_of_ble_eq_true rfl, Nat.le_of_ble_eq_true rfl⟩
  refine jk_iconst C rd_Setup_parse_12 ?_
  refine jk_istore_n C rd_Setup_parse_13 (by decide) (lv' := [(3, jk_V 0), (0, .ref a_a), (1, .ref a_b), (2, .ref a_c)]) rfl ?_
  refine jk_lv (lv' := [(0, .ref a_a), (1, .ref a_b), (2, .ref a_c), (3, jk_V 0)]) [1, 2, 3, 0] rfl ?_
  exact bk_14 jk_F i_a_kind i_a_start q1.1 q1.2.1 q1.2.2 q5 i_b_names q9.1 q9.2 i_c_starts i_c_depth i_c_topic i_c_value i_c_nibbled 0 hf
def wd_Text_clear (cI : ClassId) (a_t a_t_bytes : Nat) (i_t_length : Int) (i_t_kind : Int) (i_t_start : Int) (i_t_end : Int) (i_t_code : Int) (i_t_offset : Int) : va_W := [(a_t, .inr (3, [.ref a_t_bytes, jk_V i_t_length, jk_V i_t_kind, jk_V i_t_start, jk_V i_t_end, jk_V i_t_code, jk_V i_t_offset]))]
set_option maxHeartbeats 4000000 in
set_option maxRecDepth 20000 in
theorem ct_Text_clear (l : Launch) (D : va_G) (Z : (Nat → Prop) → State → Heap → Prop) (sq : Nat → Nat) (hZ : jk_ZK Z sq) (cI cR : ClassId) (a_t a_t_bytes : Nat) (i_t_length : Int) (i_t_kind : Int) (i_t_start : Int) (i_t_end : Int) (i_t_code : Int) (i_t_offset : Int) (q : Int) (hf : fn_Text_clear i_t_length = some q) : jk_MV l D jk_cl (jk_ty cI cR) Z mn_Text_clear (.code mn_Text_clear mb_Text_clear 1 none :: jk_WA) (jk_rm 0 0) [.ref a_t] (wd_Text_clear cI a_t a_t_bytes i_t_length i_t_kind i_t_start i_t_end i_t_code i_t_offset) (wd_Text_clear cI a_t a_t_bytes q i_t_kind i_t_start i_t_end i_t_code i_t_offset) := by
  intro sz
  refine jk_body (by decide +kernel) (fun p e s m args below meth c hsz hz hin C => ?_) (Nat.le_of_ble_eq_true rfl)
  subst hsz
  unfold fn_Text_clear at hf
  refine jk_aload_n C rd_Text_clear_0 (k := 0) rfl ?_
  refine jk_iconst C rd_Text_clear_1 ?_
  refine jk_putf C in_Text ty_Text nm_Text (ci := 3) rfl 1 (by decide) tm_66 rfl rfl rfl 0 rfl (Nat.le_of_ble_eq_true rfl) rd_Text_clear_2 (ws' := wd_Text_clear cI a_t a_t_bytes 0 i_t_kind i_t_start i_t_end i_t_code i_t_offset) rfl ?_
  cases hf
  exact jk_vret C rfl rd_Text_clear_5 rfl
def wd_Text_putByte (cI : ClassId) (a_t a_t_bytes a_t_bytes_k : Nat) (i_t_length : Int) (i_t_kind : Int) (i_t_start : Int) (i_t_end : Int) (i_t_code : Int) (i_t_offset : Int) (i_t_bytes : (Int → Int)) : va_W := [(a_t, .inr (3, [.ref a_t_bytes, jk_V i_t_length, jk_V i_t_kind, jk_V i_t_start, jk_V i_t_end, jk_V i_t_code, jk_V i_t_offset])), (a_t_bytes, .inr (0, [.ref a_t_bytes_k])), (a_t_bytes_k, jk_W cI 700 i_t_bytes)]
set_option maxHeartbeats 4000000 in
set_option maxRecDepth 20000 in
theorem ct_Text_putByte (l : Launch) (D : va_G) (Z : (Nat → Prop) → State → Heap → Prop) (sq : Nat → Nat) (hZ : jk_ZK Z sq) (cI cR : ClassId) (a_t a_t_bytes a_t_bytes_k : Nat) (i_t_length : Int) (i_t_kind : Int) (i_t_start : Int) (i_t_end : Int) (i_t_code : Int) (i_t_offset : Int) (i_t_bytes : (Int → Int)) (x1 : Int) (q : (Int → Int) × Int) (hf : fn_Text_putByte i_t_bytes i_t_length x1 = some q) : jk_MV l D jk_cl (jk_ty cI cR) Z mn_Text_putByte (.code mn_Text_putByte mb_Text_putByte 2 none :: jk_WA) (jk_rm 1 22) [.ref a_t, jk_V x1] (wd_Text_putByte cI a_t a_t_bytes a_t_bytes_k i_t_length i_t_kind i_t_start i_t_end i_t_code i_t_offset i_t_bytes) (wd_Text_putByte cI a_t a_t_bytes a_t_bytes_k q.2 i_t_kind i_t_start i_t_end i_t_code i_t_offset q.1) := by
  intro sz
  refine jk_body (by decide +kernel) (fun p e s m args below meth c hsz hz hin C => ?_) (Nat.le_of_ble_eq_true rfl)
  subst hsz
  unfold fn_Text_putByte at hf
  refine jk_aload_n C rd_Text_putByte_0 (k := 0) rfl ?_
  refine jk_get C in_Text (ci := 3) rfl 1 (by decide) tm_66 0 rfl rfl rd_Text_putByte_1 ?_
  refine jk_sipush C rd_Text_putByte_4 (by decide +kernel) ?_
  refine jk_icmp_ge (tgt := 32) C rd_Text_putByte_7 (by decide) hf (fun _ hf => ?_) (fun _ hf => ?_)
  · cases hf
    exact jk_vret C rfl rd_Text_putByte_32 rfl
  · refine jk_aload_n C rd_Text_putByte_10 (k := 0) rfl ?_
    refine jk_get C in_Text (ci := 3) rfl 0 (by decide) tm_65 0 rfl rfl rd_Text_putByte_11 ?_
    refine jk_aload_n C rd_Text_putByte_14 (k := 0) rfl ?_
    refine jk_get C in_Text (ci := 3) rfl 1 (by decide) tm_66 0 rfl rfl rd_Text_putByte_15 ?_
    refine jk_iload_n C rd_Text_putByte_18 (k := 1) rfl ?_
    obtain ⟨q19, hq19, hf⟩ := jk_bind_h hf
    refine jk_callVv C hZ.1 hz (ct_Row_set l D Z sq hZ cI cR (n_t := 700) (Nat.le_of_ble_eq_true rfl) a_t_bytes a_t_bytes_k i_t_bytes i_t_length x1 q19 hq19) tm_263 tm_264 tm_265 tm_3 tm_266 na_Row_set ⟨Nat.le_of_ble_eq_true rfl, Nat.le_of_ble_eq_true rfl⟩ rfl [1, 2] rfl rfl rfl (ws' := wd_Text_putByte cI a_t a_t_bytes a_t_bytes_k i_t_length i_t_kind i_t_start i_t_end i_t_code i_t_offset q19) rfl 1 0 rfl rfl rfl (st := []) rfl (Nat.le_of_ble_eq_true rfl) rd_Text_putByte_19 ?_ ⟨Nat.le_of_ble_eq_true rfl, Nat.le_of_ble_eq_true rfl⟩
    refine jk_aload_n C rd_Text_putByte_22 (k := 0) rfl ?_
    refine jk_dup C rd_Text_putByte_23 rfl ?_
    refine jk_get C in_Text (ci := 3) rfl 1 (by decide) tm_66 0 rfl rfl rd_Text_putByte_24 ?_
    refine jk_iconst C rd_Text_putByte_27 ?_
    refine jk_iadd C rd_Text_putByte_28 ?_
    refine jk_putf C in_Text ty_Text nm_Text (ci := 3) rfl 1 (by decide) tm_66 rfl rfl rfl 0 rfl (Nat.le_of_ble_eq_true rfl) rd_Text_putByte_29 (ws' := wd_Text_putByte cI a_t a_t_bytes a_t_bytes_k (i_t_length + 1) i_t_kind i_t_start i_t_end i_t_code i_t_offset q19) rfl ?_
    cases hf
    exact jk_vret C rfl rd_Text_putByte_32 rfl
def wd_Text_put (cI : ClassId) (a_t a_t_bytes a_t_bytes_k : Nat) (i_t_length : Int) (i_t_kind : Int) (i_t_start : Int) (i_t_end : Int) (i_t_code : Int) (i_t_offset : Int) (i_t_bytes : (Int → Int)) : va_W := [(a_t, .inr (3, [.ref a_t_bytes, jk_V i_t_length, jk_V i_t_kind, jk_V i_t_start, jk_V i_t_end, jk_V i_t_code, jk_V i_t_offset])), (a_t_bytes, .inr (0, [.ref a_t_bytes_k])), (a_t_bytes_k, jk_W cI 700 i_t_bytes)]
set_option maxHeartbeats 4000000 in
set_option maxRecDepth 20000 in
theorem ct_Text_put (l : Launch) (D : va_G) (Z : (Nat → Prop) → State → Heap → Prop) (sq : Nat → Nat) (hZ : jk_ZK Z sq) (cI cR : ClassId) (a_t a_t_bytes a_t_bytes_k : Nat) (i_t_length : Int) (i_t_kind : Int) (i_t_start : Int) (i_t_end : Int) (i_t_code : Int) (i_t_offset : Int) (i_t_bytes : (Int → Int)) (i_x1 : List Int) (q_i_x1 : Nat) (hq_i_x1 : jk_St Z q_i_x1 i_x1) (q : (Int → Int) × Int) (hf : fn_Text_put i_t_bytes i_t_length i_x1 = some q) : jk_MV l D jk_cl (jk_ty cI cR) Z mn_Text_put (.code mn_Text_put mb_Text_put 3 none :: jk_WA) (jk_rm 6 300) [.ref a_t, .ref q_i_x1] (wd_Text_put cI a_t a_t_bytes a_t_bytes_k i_t_length i_t_kind i_t_start i_t_end i_t_code i_t_offset i_t_bytes) (wd_Text_put cI a_t a_t_bytes a_t_bytes_k q.2 i_t_kind i_t_start i_t_end i_t_code i_t_offset q.1) := by
  intro sz
  refine jk_body (by decide +kernel) (fun p e s m args below meth c hsz hz hin C => ?_) (Nat.le_of_ble_eq_true rfl)
  subst hsz
  unfold fn_Text_put at hf
  have bk_2 : ∀ (n : Nat) (t_bytes : (Int → Int)) (t_length : Int) (v2 : Int), fn_Text_put_b2 n t_bytes t_length i_x1 v2 = some q → jk_J p l e (jk_rm 6 300) s m args below meth c 0 0 (jk_QV below D jk_cl (jk_ty cI cR) (wd_Text_put cI a_t a_t_bytes a_t_bytes_k i_t_length i_t_kind i_t_start i_t_end i_t_code i_t_offset i_t_bytes) (wd_Text_put cI a_t a_t_bytes a_t_bytes_k q.2 i_t_kind i_t_start i_t_end i_t_code i_t_offset q.1) args s) D jk_cl (va_A (wd_Text_put cI a_t a_t_bytes a_t_bytes_k i_t_length i_t_kind i_t_start i_t_end i_t_code i_t_offset i_t_bytes) s.heap.size) 3 (wd_Text_put cI a_t a_t_bytes a_t_bytes_k t_length i_t_kind i_t_start i_t_end i_t_code i_t_offset t_bytes) [(0, .ref a_t), (1, .ref q_i_x1), (2, jk_V v2)] 2 [] := by
    intro n
    induction n with
    | zero => intro t_bytes t_length v2 hf; exact nomatch (show none = some q from hf)
    | succ n ih =>
      intro t_bytes t_length v2 hf
      rw [fn_Text_put_b2] at hf
      refine jk_iload_n C rd_Text_put_2 (k := 2) rfl ?_
      refine jk_aload_n C rd_Text_put_3 (k := 1) rfl ?_
      refine jk_slen C hZ hz hq_i_x1 rd_Text_put_4 W_slen_Text_39 ⟨Nat.le_of_ble_eq_true rfl, Nat.le_of_ble_eq_true rfl⟩ (Nat.le_of_ble_eq_true rfl) ⟨Nat.le_of_ble_eq_true rfl, Nat.le_of_ble_eq_true rfl⟩ ?_
      refine jk_icmp_ge (tgt := 25) C rd_Text_put_7 (by decide) hf (fun _ hf => ?_) (fun _ hf => ?_)
      · cases hf
        exact jk_vret C rfl rd_Text_put_25 rfl
      · refine jk_aload_n C rd_Text_put_10 (k := 0) rfl ?_
        refine jk_aload_n C rd_Text_put_11 (k := 1) rfl ?_
        refine jk_iload_n C rd_Text_put_12 (k := 2) rfl ?_
        refine jk_sch C hZ hz hq_i_x1 rd_Text_put_13 W_sch_Text_44 ⟨Nat.le_of_ble_eq_true rfl, Nat.le_of_ble_eq_true rfl⟩ (Nat.le_of_ble_eq_true rfl) ⟨Nat.le_of_ble_eq_true rfl, Nat.le_of_ble_eq_true rfl⟩ hf (fun hf => ?_)
        obtain ⟨q16, hq16, hf⟩ := jk_bind_h hf
        refine jk_callVv C hZ.1 hz (ct_Text_putByte l D Z sq hZ cI cR a_t a_t_bytes a_t_bytes_k t_length i_t_kind i_t_start i_t_end i_t_code i_t_offset t_bytes ((i_x1.getD (v2).toNat 0)) q16 hq16) tm_259 tm_261 sl_0 tm_2 tm_262 na_Text_putByte ⟨Nat.le_of_ble_eq_true rfl, Nat.le_of_ble_eq_true rfl⟩ rfl [0, 1, 2] rfl rfl rfl (ws' := wd_Text_put cI a_t a_t_bytes a_t_bytes_k q16.2 i_t_kind i_t_start i_t_end i_t_code i_t_offset q16.1) rfl 0 3 rfl rfl rfl (st := []) rfl (Nat.le_of_ble_eq_true rfl) rd_Text_put_16 ?_ ⟨Nat.le_of_ble_eq_true rfl, Nat.le_of_ble_eq_true rfl⟩
        refine jk_iinc C rd_Text_put_19 (k := 2) rfl (by decide) (lv' := [(2, jk_V (v2 + 1)), (0, .ref a_t), (1, .ref q_i_x1)]) rfl ?_
        refine jk_goto (tgt := 2) C rd_Text_put_22 (by decide) ?_
        refine jk_lv (lv' := [(0, .ref a_t), (1, .ref q_i_x1), (2, jk_V (v2 + 1))]) [1, 2, 0] rfl ?_
        exact ih q16.1 q16.2 (v2 + 1) hf
  refine jk_iconst C rd_Text_put_0 ?_
  refine jk_istore_n C rd_Text_put_1 (by decide) (lv' := [(2, jk_V 0), (0, .ref a_t), (1, .ref q_i_x1)]) rfl ?_
  refine jk_lv (lv' := [(0, .ref a_t), (1, .ref q_i_x1), (2, jk_V 0)]) [1, 2, 0] rfl ?_
  exact bk_2 jk_F i_t_bytes i_t_length 0 hf
def wd_Text_putFour (cI : ClassId) (a_t a_t_bytes a_t_bytes_k : Nat) (i_t_length : Int) (i_t_kind : Int) (i_t_start : Int) (i_t_end : Int) (i_t_code : Int) (i_t_offset : Int) (i_t_bytes : (Int → Int)) : va_W := [(a_t, .inr (3, [.ref a_t_bytes, jk_V i_t_length, jk_V i_t_kind, jk_V i_t_start, jk_V i_t_end, jk_V i_t_code, jk_V i_t_offset])), (a_t_bytes, .inr (0, [.ref a_t_bytes_k])), (a_t_bytes_k, jk_W cI 700 i_t_bytes)]
set_option maxHeartbeats 4000000 in
set_option maxRecDepth 20000 in
theorem ct_Text_putFour (l : Launch) (D : va_G) (Z : (Nat → Prop) → State → Heap → Prop) (sq : Nat → Nat) (hZ : jk_ZK Z sq) (cI cR : ClassId) (a_t a_t_bytes a_t_bytes_k : Nat) (i_t_length : Int) (i_t_kind : Int) (i_t_start : Int) (i_t_end : Int) (i_t_code : Int) (i_t_offset : Int) (i_t_bytes : (Int → Int)) (x1 : Int) (q : (Int → Int) × Int) (hf : fn_Text_putFour i_t_bytes i_t_length x1 = some q) : jk_MV l D jk_cl (jk_ty cI cR) Z mn_Text_putFour (.code mn_Text_putFour mb_Text_putFour 3 none :: jk_WA) (jk_rm 2 43) [.ref a_t, jk_V x1] (wd_Text_putFour cI a_t a_t_bytes a_t_bytes_k i_t_length i_t_kind i_t_start i_t_end i_t_code i_t_offset i_t_bytes) (wd_Text_putFour cI a_t a_t_bytes a_t_bytes_k q.2 i_t_kind i_t_start i_t_end i_t_code i_t_offset q.1) := by
  intro sz
  refine jk_body (by decide +kernel) (fun p e s m args below meth c hsz hz hin C => ?_) (Nat.le_of_ble_eq_true rfl)
  subst hsz
  unfold fn_Text_putFour at hf
  have bk_3 : ∀ (n : Nat) (t_bytes : (Int → Int)) (t_length : Int) (v1 : Int) (v2 : Int), fn_Text_putFour_b3 n t_bytes t_length v1 v2 = some q → jk_J p l e (jk_rm 2 43) s m args below meth c 0 0 (jk_QV below D jk_cl (jk_ty cI cR) (wd_Text_putFour cI a_t a_t_bytes a_t_bytes_k i_t_length i_t_kind i_t_start i_t_end i_t_code i_t_offset i_t_bytes) (wd_Text_putFour cI a_t a_t_bytes a_t_bytes_k q.2 i_t_kind i_t_start i_t_end i_t_code i_t_offset q.1) args s) D jk_cl (va_A (wd_Text_putFour cI a_t a_t_bytes a_t_bytes_k i_t_length i_t_kind i_t_start i_t_end i_t_code i_t_offset i_t_bytes) s.heap.size) 3 (wd_Text_putFour cI a_t a_t_bytes a_t_bytes_k t_length i_t_kind i_t_start i_t_end i_t_code i_t_offset t_bytes) [(0, .ref a_t), (1, jk_V v1), (2, jk_V v2)] 3 [] := by
    intro n
    induction n with
    | zero => intro t_bytes t_length v1 v2 hf; exact nomatch (show none = some q from hf)
    | succ n ih =>
      intro t_bytes t_length v1 v2 hf
      rw [fn_Text_putFour_b3] at hf
      refine jk_iload_n C rd_Text_putFour_3 (k := 2) rfl ?_
      refine jk_if_lt (tgt := 24) C rd_Text_putFour_4 (by decide) hf (fun _ hf => ?_) (fun _ hf => ?_)
      · cases hf
        exact jk_vret C rfl rd_Text_putFour_24 rfl
      · refine jk_aload_n C rd_Text_putFour_7 (k := 0) rfl ?_
        refine jk_iload_n C rd_Text_putFour_8 (k := 1) rfl ?_
        refine jk_iload_n C rd_Text_putFour_9 (k := 2) rfl ?_
        refine jk_ishr C rd_Text_putFour_10 ?_
        refine jk_sipush C rd_Text_putFour_11 (by decide +kernel) ?_
        refine jk_iand C rd_Text_putFour_14 ?_
        obtain ⟨q15, hq15, hf⟩ := jk_bind_h hf
        refine jk_callVv C hZ.1 hz (ct_Text_putByte l D Z sq hZ cI cR a_t a_t_bytes a_t_bytes_k t_length i_t_kind i_t_start i_t_end i_t_code i_t_offset t_bytes (jk_and (jk_shr v1 v2) 255) q15 hq15) tm_259 tm_261 sl_0 tm_2 tm_262 na_Text_putByte ⟨Nat.le_of_ble_eq_true rfl, Nat.le_of_ble_eq_true rfl⟩ rfl [0, 1, 2] rfl rfl rfl (ws' := wd_Text_putFour cI a_t a_t_bytes a_t_bytes_k q15.2 i_t_kind i_t_start i_t_end i_t_code i_t_offset q15.1) rfl 0 3 rfl rfl rfl (st := []) rfl (Nat.le_of_ble_eq_true rfl) rd_Text_putFour_15 ?_ ⟨Nat.le_of_ble_eq_true rfl, Nat.le_of_ble_eq_true rfl⟩
        refine jk_iinc C rd_Text_putFour_18 (k := 2) rfl (by decide) (lv' := [(2, jk_V (v2 + (-8))), (0, .ref a_t), (1, jk_V v1)]) rfl ?_
        refine jk_goto (tgt := 3) C rd_Text_putFour_21 (by decide) ?_
        refine jk_lv (lv' := [(0, .ref a_t), (1, jk_V v1), (2, jk_V (v2 + (-8)))]) [1, 2, 0] rfl ?_
        exact ih q15.1 q15.2 v1 (v2 + (-8)) hf
  refine jk_bipush C rd_Text_putFour_0 (by decide +kernel) ?_
  refine jk_istore_n C rd_Text_putFour_2 (by decide) (lv' := [(2, jk_V 24), (0, .ref a_t), (1, jk_V x1)]) rfl ?_
  refine jk_lv (lv' := [(0, .ref a_t), (1, jk_V x1), (2, jk_V 24)]) [1, 2, 0] rfl ?_
  exact bk_3 jk_F i_t_bytes i_t_length x1 24 hf
def wd_Topics_copyFrom (cI : ClassId) (a_t a_t_names a_t_names_k a_a a_a_names a_a_names_k : Nat) (i_t_size : Int) (i_t_names : (Int → Int)) (i_a_size : Int) (i_a_names : (Int → Int)) : va_W := [(a_t, .inr (2, [jk_V i_t_size, .ref a_t_names])), (a_t_names, .inr (0, [.ref a_t_names_k])), (a_t_names_k, jk_W cI 8 i_t_names), (a_a, .inr (2, [jk_V i_a_size, .ref a_a_names])), (a_a_names, .inr (0, [.ref a_a_names_k])), (a_a_names_k, jk_W cI 8 i_a_names)]
set_option maxHeartbeats 4000000 in
set_option maxRecDepth 20000 in
theorem ct_Topics_copyFrom (l : Launch) (D : va_G) (Z : (Nat → Prop) → State → Heap → Prop) (sq : Nat → Nat) (hZ : jk_ZK Z sq) (cI cR : ClassId) (a_t a_t_names a_t_names_k a_a a_a_names a_a_names_k : Nat) (i_t_size : Int) (i_t_names : (Int → Int)) (i_a_size : Int) (i_a_names : (Int → Int)) (q : Int × (Int → Int)) (hf : fn_Topics_copyFrom i_t_size i_t_names i_a_size i_a_names = some q) : jk_MV l D jk_cl (jk_ty cI cR) Z mn_Topics_copyFrom (.code mn_Topics_copyFrom mb_Topics_copyFrom 2 none :: jk_WA) (jk_rm 2 43) [.ref a_t, .ref a_a] (wd_Topics_copyFrom cI a_t a_t_names a_t_names_k a_a a_a_names a_a_names_k i_t_size i_t_names i_a_size i_a_names) (wd_Topics_copyFrom cI a_t a_t_names a_t_names_k a_a a_a_names a_a_names_k q.1 q.2 i_a_size i_a_names) := by
  intro sz
  refine jk_body (by decide +kernel) (fun p e s m args below meth c hsz hz hin C => ?_) (Nat.le_of_ble_eq_true rfl)
  subst hsz
  unfold fn_Topics_copyFrom at hf
  refine jk_aload_n C rd_Topics_copyFrom_0 (k := 0) rfl ?_
  refine jk_aload_n C rd_Topics_copyFrom_1 (k := 1) rfl ?_
  refine jk_get C in_Topics (ci := 2) rfl 0 (by decide) tm_113 3 rfl rfl rd_Topics_copyFrom_2 ?_
  refine jk_putf C in_Topics ty_Topics nm_Topics (ci := 2) rfl 0 (by decide) tm_113 rfl rfl rfl 0 rfl (Nat.le_of_ble_eq_true rfl) rd_Topics_copyFrom_5 (ws' := wd_Topics_copyFrom cI a_t a_t_names a_t_names_k a_a a_a_names a_a_names_k i_a_size i_t_names i_a_size i_a_names) rfl ?_
  refine jk_aload_n C rd_Topics_copyFrom_8 (k := 0) rfl ?_
  refine jk_get C in_Topics (ci := 2) rfl 1 (by decide) tm_115 0 rfl rfl rd_Topics_copyFrom_9 ?_
  refine jk_aload_n C rd_Topics_copyFrom_12 (k := 1) rfl ?_
  refine jk_get C in_Topics (ci := 2) rfl 1 (by decide) tm_115 3 rfl rfl rd_Topics_copyFrom_13 ?_
  obtain ⟨q16, hq16, hf⟩ := jk_bind_h hf
  refine jk_callVv C hZ.1 hz (ct_Row_copyFrom l D Z sq hZ cI cR (n_a := 8) (n_t := 8) (Nat.le_of_ble_eq_true rfl) (Nat.le_of_ble_eq_true rfl) a_t_names a_t_names_k a_a_names a_a_names_k i_t_names i_a_names q16 hq16) tm_481 tm_482 tm_483 tm_3 tm_484 na_Row_copyFrom ⟨Nat.le_of_ble_eq_true rfl, Nat.le_of_ble_eq_true rfl⟩ rfl [1, 2, 4, 5] rfl rfl rfl (ws' := wd_Topics_copyFrom cI a_t a_t_names a_t_names_k a_a a_a_names a_a_names_k i_a_size q16 i_a_size i_a_names) rfl 1 0 rfl rfl rfl (st := []) rfl (Nat.le_of_ble_eq_true rfl) rd_Topics_copyFrom_16 ?_ ⟨Nat.le_of_ble_eq_true rfl, Nat.le_of_ble_eq_true rfl⟩
  cases hf
  exact jk_vret C rfl rd_Topics_copyFrom_19 rfl
def wd_Topics_has (cI : ClassId) (a_t a_t_names : Nat) (i_t_size : Int) : va_W := [(a_t, .inr (2, [jk_V i_t_size, .ref a_t_names]))]
set_option maxHeartbeats 4000000 in
set_option maxRecDepth 20000 in
theorem ct_Topics_has (l : Launch) (D : va_G) (Z : (Nat → Prop) → State → Heap → Prop) (sq : Nat → Nat) (hZ : jk_ZK Z sq) (cI cR : ClassId) (a_t a_t_names : Nat) (i_t_size : Int) (x1 : Int) (q : Int) (hf : fn_Topics_has i_t_size x1 = some q) : jk_MI l D jk_cl (jk_ty cI cR) Z mn_Topics_has (.code mn_Topics_has mb_Topics_has 2 (some .boolean) :: jk_WA) (jk_rm 0 0) [.ref a_t, jk_V x1] (wd_Topics_has cI a_t a_t_names i_t_size) (wd_Topics_has cI a_t a_t_names i_t_size) q := by
  intro sz
  refine jk_body (by decide +kernel) (fun p e s m args below meth c hsz hz hin C => ?_) (Nat.le_of_ble_eq_true rfl)
  subst hsz
  unfold fn_Topics_has at hf
  refine jk_iload_n C rd_Topics_has_0 (k := 1) rfl ?_
  refine jk_if_lt (tgt := 16) C rd_Topics_has_1 (by decide) hf (fun _ hf => ?_) (fun _ hf => ?_)
  · refine jk_iconst C rd_Topics_has_16 ?_
    cases hf
    exact jk_zret C (Or.inl rfl) rfl rd_Topics_has_17 rfl
  · refine jk_iload_n C rd_Topics_has_4 (k := 1) rfl ?_
    refine jk_aload_n C rd_Topics_has_5 (k := 0) rfl ?_
    refine jk_get C in_Topics (ci := 2) rfl 0 (by decide) tm_113 0 rfl rfl rd_Topics_has_6 ?_
    refine jk_icmp_ge (tgt := 16) C rd_Topics_has_9 (by decide) hf (fun _ hf => ?_) (fun _ hf => ?_)
    · refine jk_iconst C rd_Topics_has_16 ?_
      cases hf
      exact jk_zret C (Or.inl rfl) rfl rd_Topics_has_17 rfl
    · refine jk_iconst C rd_Topics_has_12 ?_
      refine jk_goto (tgt := 17) C rd_Topics_has_13 (by decide) ?_
      cases hf
      exact jk_zret C (Or.inr rfl) rfl rd_Topics_has_17 rfl
def wd_KR_appendInput (cI : ClassId) (a_t a_t_input a_t_output a_t_topics a_t_cords a_t_draftTopics a_t_draft a_t_saved a_t_history a_t_script a_t_input_bytes a_t_input_bytes_k : Nat) (i_t_hasSaved : Int) (i_t_reportedCode : Int) (i_t_reportedOffset : Int) (i_t_input_length : Int) (i_t_input_kind : Int) (i_t_input_start : Int) (i_t_input_end : Int) (i_t_input_code : Int) (i_t_input_offset : Int) (i_t_input_bytes : (Int → Int)) : va_W := [(a_t, .inr (10, [.ref a_t_input, .ref a_t_output, .ref a_t_topics, .ref a_t_cords, .ref a_t_draftTopics, .ref a_t_draft, .ref a_t_saved, .ref a_t_history, .ref a_t_script, jk_V i_t_hasSaved, jk_V i_t_reportedCode, jk_V i_t_reportedOffset])), (a_t_input, .inr (3, [.ref a_t_input_bytes, jk_V i_t_input_length, jk_V i_t_input_kind, jk_V i_t_input_start, jk_V i_t_input_end, jk_V i_t_input_code, jk_V i_t_input_offset])), (a_t_input_bytes, .inr (0, [.ref a_t_input_bytes_k])), (a_t_input_bytes_k, jk_W cI 700 i_t_input_bytes)]
set_option maxHeartbeats 4000000 in
set_option maxRecDepth 20000 in
theorem ct_KR_appendInput (l : Launch) (D : va_G) (Z : (Nat → Prop) → State → Heap → Prop) (sq : Nat → Nat) (hZ : jk_ZK Z sq) (cI cR : ClassId) (a_t a_t_input a_t_output a_t_topics a_t_cords a_t_draftTopics a_t_draft a_t_saved a_t_history a_t_script a_t_input_bytes a_t_input_bytes_k : Nat) (i_t_hasSaved : Int) (i_t_reportedCode : Int) (i_t_reportedOffset : Int) (i_t_input_length : Int) (i_t_input_kind : Int) (i_t_input_start : Int) (i_t_input_end : Int) (i_t_input_code : Int) (i_t_input_offset : Int) (i_t_input_bytes : (Int → Int)) (x1 : Int) (x2 : Int) (x3 : Int) (x4 : Int) (x5 : Int) (q : Int × (Int → Int) × Int) (hf : fn_KR_appendInput i_t_input_bytes i_t_input_length x1 x2 x3 x4 x5 = some q) : jk_MI l D jk_cl (jk_ty cI cR) Z mn_KR_appendInput (.code mn_KR_appendInput mb_KR_appendInput 6 (some .int) :: jk_WA) (jk_rm 3 65) [.ref a_t, jk_V x1, jk_V x2, jk_V x3, jk_V x4, jk_V x5] (wd_KR_appendInput cI a_t a_t_input a_t_output a_t_topics a_t_cords a_t_draftTopics a_t_draft a_t_saved a_t_history a_t_script a_t_input_bytes a_t_input_bytes_k i_t_hasSaved i_t_reportedCode i_t_reportedOffset i_t_input_length i_t_input_kind i_t_input_start i_t_input_end i_t_input_code i_t_input_offset i_t_input_bytes) (wd_KR_appendInput cI a_t a_t_input a_t_output a_t_topics a_t_cords a_t_draftTopics a_t_draft a_t_saved a_t_history a_t_script a_t_input_bytes a_t_input_bytes_k i_t_hasSaved i_t_reportedCode i_t_reportedOffset q.2.2 i_t_input_kind i_t_input_start i_t_input_end i_t_input_code i_t_input_offset q.2.1) q.1 := by
  intro sz
  refine jk_body (by decide +kernel) (fun p e s m args below meth c hsz hz hin C => ?_) (Nat.le_of_ble_eq_true rfl)
  subst hsz
  unfold fn_KR_appendInput at hf
  refine jk_aload_n C rd_KR_appendInput_0 (k := 0) rfl ?_
  refine jk_get C in_KR (ci := 10) rfl 0 (by decide) tm_431 0 rfl rfl rd_KR_appendInput_1 ?_
  refine jk_getN C in_Text (ci := 3) rfl 1 (by decide) (jk_nw hZ hz tn_1) 1 rfl rfl rd_KR_appendInput_4 ?_
  refine jk_bipush C rd_KR_appendInput_7 (by decide +kernel) ?_
  refine jk_iadd C rd_KR_appendInput_9 ?_
  refine jk_sipush C rd_KR_appendInput_10 (by decide +kernel) ?_
  refine jk_icmp_le (tgt := 18) C rd_KR_appendInput_13 (by decide) hf (fun _ hf => ?_) (fun _ hf => ?_)
  · refine jk_aload_n C rd_KR_appendInput_18 (k := 0) rfl ?_
    refine jk_get C in_KR (ci := 10) rfl 0 (by decide) tm_431 0 rfl rfl rd_KR_appendInput_19 ?_
    refine jk_iload_n C rd_KR_appendInput_22 (k := 1) rfl ?_
    obtain ⟨q23, hq23, hf⟩ := jk_bind_h hf
    refine jk_callVv C hZ.1 hz (ct_Text_putFour l D Z sq hZ cI cR a_t_input a_t_input_bytes a_t_input_bytes_k i_t_input_length i_t_input_kind i_t_input_start i_t_input_end i_t_input_code i_t_input_offset i_t_input_bytes x1 q23 hq23) tm_920 tm_921 tm_922 tm_2 tm_923 na_Text_putFour ⟨Nat.le_of_ble_eq_true rfl, Nat.le_of_ble_eq_true rfl⟩ rfl [1, 2, 3] rfl rfl rfl (ws' := wd_KR_appendInput cI a_t a_t_input a_t_output a_t_topics a_t_cords a_t_draftTopics a_t_draft a_t_saved a_t_history a_t_script a_t_input_bytes a_t_input_bytes_k i_t_hasSaved i_t_reportedCode i_t_reportedOffset q23.2 i_t_input_kind i_t_input_start i_t_input_end i_t_input_code i_t_input_offset q23.1) rfl 1 3 rfl rfl rfl (st := []) rfl (Nat.le_of_ble_eq_true rfl) rd_KR_appendInput_23 ?_ ⟨Nat.le_of_ble_eq_true rfl, Nat.le_of_ble_eq_true rfl⟩
    refine jk_aload_n C rd_KR_appendInput_26 (k := 0) rfl ?_
    refine jk_get C in_KR (ci := 10) rfl 0 (by decide) tm_431 0 rfl rfl rd_KR_appendInput_27 ?_
    refine jk_iload_n C rd_KR_appendInput_30 (k := 2) rfl ?_
    obtain ⟨q31, hq31, hf⟩ := jk_bind_h hf
    refine jk_callVv C hZ.1 hz (ct_Text_putFour l D Z sq hZ cI cR a_t_input a_t_input_bytes a_t_input_bytes_k q23.2 i_t_input_kind i_t_input_start i_t_input_end i_t_input_code i_t_input_offset q23.1 x2 q31 hq31) tm_920 tm_921 tm_922 tm_2 tm_923 na_Text_putFour ⟨Nat.le_of_ble_eq_true rfl, Nat.le_of_ble_eq_true rfl⟩ rfl [1, 2, 3] rfl rfl rfl (ws' := wd_KR_appendInput cI a_t a_t_input a_t_output a_t_topics a_t_cords a_t_draftTopics a_t_draft a_t_saved a_t_history a_t_script a_t_input_bytes a_t_input_bytes_k i_t_hasSaved i_t_reportedCode i_t_reportedOffset q31.2 i_t_input_kind i_t_input_start i_t_input_end i_t_input_code i_t_input_offset q31.1) rfl 1 3 rfl rfl rfl (st := []) rfl (Nat.le_of_ble_eq_true rfl) rd_KR_appendInput_31 ?_ ⟨Nat.le_of_ble_eq_true rfl, Nat.le_of_ble_eq_true rfl⟩
    refine jk_aload_n C rd_KR_appendInput_34 (k := 0) rfl ?_
    refine jk_get C in_KR (ci := 10) rfl 0 (by decide) tm_431 0 rfl rfl rd_KR_appendInput_35 ?_
    refine jk_iload_n C rd_KR_appendInput_38 (k := 3) rfl ?_
    obtain ⟨q39, hq39, hf⟩ := jk_bind_h hf
    refine jk_callVv C hZ.1 hz (ct_Text_putFour l D Z sq hZ cI cR a_t_input a_t_input_bytes a_t_input_bytes_k q31.2 i_t_input_kind i_t_input_start i_t_input_end i_t_input_code i_t_input_offset q31.1 x3 q39 hq39) tm_920 tm_921 tm_922 tm_2 tm_923 na_Text_putFour ⟨Nat.le_of_ble_eq_true rfl, Nat.le_of_ble_eq_true rfl⟩ rfl [1, 2, 3] rfl rfl rfl (ws' := wd_KR_appendInput cI a_t a_t_input a_t_output a_t_topics a_t_cords a_t_draftTopics a_t_draft a_t_saved a_t_history a_t_script a_t_input_bytes a_t_input_bytes_k i_t_hasSaved i_t_reportedCode i_t_reportedOffset q39.2 i_t_input_kind i_t_input_start i_t_input_end i_t_input_code i_t_input_offset q39.1) rfl 1 3 rfl rfl rfl (st := []) rfl (Nat.le_of_ble_eq_true rfl) rd_KR_appendInput_39 ?_ ⟨Nat.le_of_ble_eq_true rfl, Nat.le_of_ble_eq_true rfl⟩
    refine jk_aload_n C rd_KR_appendInput_42 (k := 0) rfl ?_
    refine jk_get C in_KR (ci := 10) rfl 0 (by decide) tm_431 0 rfl rfl rd_KR_appendInput_43 ?_
    refine jk_iload C rd_KR_appendInput_46 (k := 4) rfl ?_
    obtain ⟨q48, hq48, hf⟩ := jk_bind_h hf
    refine jk_callVv C hZ.1 hz (ct_Text_putFour l D Z sq hZ cI cR a_t_input a_t_input_bytes a_t_input_bytes_k q39.2 i_t_input_kind i_t_input_start i_t_input_end i_t_input_code i_t_input_offset q39.1 x4 q48 hq48) tm_920 tm_921 tm_922 tm_2 tm_923 na_Text_putFour ⟨Nat.le_of_ble_eq_true rfl, Nat.le_of_ble_eq_true rfl⟩ rfl [1, 2, 3] rfl rfl rfl (ws' := wd_KR_appendInput cI a_t a_t_input a_t_output a_t_topics a_t_cords a_t_draftTopics a_t_draft a_t_saved a_t_history a_t_script a_t_input_bytes a_t_input_bytes_k i_t_hasSaved i_t_reportedCode i_t_reportedOffset q48.2 i_t_input_kind i_t_input_start i_t_input_end i_t_input_code i_t_input_offset q48.1) rfl 1 3 rfl rfl rfl (st := []) rfl (Nat.le_of_ble_eq_true rfl) rd_KR_appendInput_48 ?_ ⟨Nat.le_of_ble_eq_true rfl, Nat.le_of_ble_eq_true rfl⟩
    refine jk_aload_n C rd_KR_appendInput_51 (k := 0) rfl ?_
    refine jk_get C in_KR (ci := 10) rfl 0 (by decide) tm_431 0 rfl rfl rd_KR_appendInput_52 ?_
    refine jk_iload C rd_KR_appendInput_55 (k := 5) rfl ?_
    obtain ⟨q57, hq57, hf⟩ := jk_bind_h hf
    refine jk_callVv C hZ.1 hz (ct_Text_putFour l D Z sq hZ cI cR a_t_input a_t_input_bytes a_t_input_bytes_k q48.2 i_t_input_kind i_t_input_start i_t_input_end i_t_input_code i_t_input_offset q48.1 x5 q57 hq57) tm_920 tm_921 tm_922 tm_2 tm_923 na_Text_putFour ⟨Nat.le_of_ble_eq_true rfl, Nat.le_of_ble_eq_true rfl⟩ rfl [1, 2, 3] rfl rfl rfl (ws' := wd_KR_appendInput cI a_t a_t_input a_t_output a_t_topics a_t_cords a_t_draftTopics a_t_draft a_t_saved a_t_history a_t_script a_t_input_bytes a_t_input_bytes_k i_t_hasSaved i_t_reportedCode i_t_reportedOffset q57.2 i_t_input_kind i_t_input_start i_t_input_end i_t_input_code i_t_input_offset q57.1) rfl 1 3 rfl rfl rfl (st := []) rfl (Nat.le_of_ble_eq_true rfl) rd_KR_appendInput_57 ?_ ⟨Nat.le_of_ble_eq_true rfl, Nat.le_of_ble_eq_true rfl⟩
    refine jk_aload_n C rd_KR_appendInput_60 (k := 0) rfl ?_
    refine jk_get C in_KR (ci := 10) rfl 0 (by decide) tm_431 0 rfl rfl rd_KR_appendInput_61 ?_
    refine jk_getN C in_Text (ci := 3) rfl 1 (by decide) (jk_nw hZ hz tn_1) 1 rfl rfl rd_KR_appendInput_64 ?_
    cases hf
    exact jk_iret C rfl rd_KR_appendInput_67 rfl
  · refine jk_iconst C rd_KR_appendInput_16 ?_
    cases hf
    exact jk_iret C rfl rd_KR_appendInput_17 rfl
def wd_KR_truncateInput (cI : ClassId) (a_t a_t_input a_t_output a_t_topics a_t_cords a_t_draftTopics a_t_draft a_t_saved a_t_history a_t_script a_t_input_bytes : Nat) (i_t_hasSaved : Int) (i_t_reportedCode : Int) (i_t_reportedOffset : Int) (i_t_input_length : Int) (i_t_input_kind : Int) (i_t_input_start : Int) (i_t_input_end : Int) (i_t_input_code : Int) (i_t_input_offset : Int) : va_W := [(a_t, .inr (10, [.ref a_t_input, .ref a_t_output, .ref a_t_topics, .ref a_t_cords, .ref a_t_draftTopics, .ref a_t_draft, .ref a_t_saved, .ref a_t_history, .ref a_t_script, jk_V i_t_hasSaved, jk_V i_t_reportedCode, jk_V i_t_reportedOffset])), (a_t_input, .inr (3, [.ref a_t_input_bytes, jk_V i_t_input_length, jk_V i_t_input_kind, jk_V i_t_input_start, jk_V i_t_input_end, jk_V i_t_input_code, jk_V i_t_input_offset]))]
set_option maxHeartbeats 4000000 in
set_option maxRecDepth 20000 in
theorem ct_KR_truncateInput (l : Launch) (D : va_G) (Z : (Nat → Prop) → State → Heap → Prop) (sq : Nat → Nat) (hZ : jk_ZK Z sq) (cI cR : ClassId) (a_t a_t_input a_t_output a_t_topics a_t_cords a_t_draftTopics a_t_draft a_t_saved a_t_history a_t_script a_t_input_bytes : Nat) (i_t_hasSaved : Int) (i_t_reportedCode : Int) (i_t_reportedOffset : Int) (i_t_input_length : Int) (i_t_input_kind : Int) (i_t_input_start : Int) (i_t_input_end : Int) (i_t_input_code : Int) (i_t_input_offset : Int) (x1 : Int) (q : Int × Int) (hf : fn_KR_truncateInput i_t_input_length x1 = some q) : jk_MI l D jk_cl (jk_ty cI cR) Z mn_KR_truncateInput (.code mn_KR_truncateInput mb_KR_truncateInput 2 (some .boolean) :: jk_WA) (jk_rm 0 0) [.ref a_t, jk_V x1] (wd_KR_truncateInput cI a_t a_t_input a_t_output a_t_topics a_t_cords a_t_draftTopics a_t_draft a_t_saved a_t_history a_t_script a_t_input_bytes i_t_hasSaved i_t_reportedCode i_t_reportedOffset i_t_input_length i_t_input_kind i_t_input_start i_t_input_end i_t_input_code i_t_input_offset) (wd_KR_truncateInput cI a_t a_t_input a_t_output a_t_topics a_t_cords a_t_draftTopics a_t_draft a_t_saved a_t_history a_t_script a_t_input_bytes i_t_hasSaved i_t_reportedCode i_t_reportedOffset q.2 i_t_input_kind i_t_input_start i_t_input_end i_t_input_code i_t_input_offset) q.1 := by
  intro sz
  refine jk_body (by decide +kernel) (fun p e s m args below meth c hsz hz hin C => ?_) (Nat.le_of_ble_eq_true rfl)
  subst hsz
  unfold fn_KR_truncateInput at hf
  refine jk_iload_n C rd_KR_truncateInput_0 (k := 1) rfl ?_
  refine jk_if_lt (tgt := 15) C rd_KR_truncateInput_1 (by decide) hf (fun _ hf => ?_) (fun _ hf => ?_)
  · refine jk_iconst C rd_KR_truncateInput_15 ?_
    cases hf
    exact jk_zret C (Or.inl rfl) rfl rd_KR_truncateInput_16 rfl
  · refine jk_iload_n C rd_KR_truncateInput_4 (k := 1) rfl ?_
    refine jk_aload_n C rd_KR_truncateInput_5 (k := 0) rfl ?_
    refine jk_get C in_KR (ci := 10) rfl 0 (by decide) tm_431 0 rfl rfl rd_KR_truncateInput_6 ?_
    refine jk_getN C in_Text (ci := 3) rfl 1 (by decide) (jk_nw hZ hz tn_1) 1 rfl rfl rd_KR_truncateInput_9 ?_
    refine jk_icmp_le (tgt := 17) C rd_KR_truncateInput_12 (by decide) hf (fun _ hf => ?_) (fun _ hf => ?_)
    · refine jk_aload_n C rd_KR_truncateInput_17 (k := 0) rfl ?_
      refine jk_get C in_KR (ci := 10) rfl 0 (by decide) tm_431 0 rfl rfl rd_KR_truncateInput_18 ?_
      refine jk_iload_n C rd_KR_truncateInput_21 (k := 1) rfl ?_
      refine jk_putfN C in_Text ty_Text nm_Text (ci := 3) rfl 1 (by decide) (jk_nw hZ hz tn_1) rfl rfl rfl 1 rfl (Nat.le_of_ble_eq_true rfl) rd_KR_truncateInput_22 (ws' := wd_KR_truncateInput cI a_t a_t_input a_t_output a_t_topics a_t_cords a_t_draftTopics a_t_draft a_t_saved a_t_history a_t_script a_t_input_bytes i_t_hasSaved i_t_reportedCode i_t_reportedOffset x1 i_t_input_kind i_t_input_start i_t_input_end i_t_input_code i_t_input_offset) rfl ?_
      refine jk_iconst C rd_KR_truncateInput_25 ?_
      cases hf
      exact jk_zret C (Or.inr rfl) rfl rd_KR_truncateInput_26 rfl
    · refine jk_iconst C rd_KR_truncateInput_15 ?_
      cases hf
      exact jk_zret C (Or.inl rfl) rfl rd_KR_truncateInput_16 rfl
def wd_KR_closeText (cI : ClassId) (a_t a_t_input a_t_output a_t_topics a_t_cords a_t_draftTopics a_t_draft a_t_saved a_t_history a_t_script a_t_input_bytes : Nat) (i_t_hasSaved : Int) (i_t_reportedCode : Int) (i_t_reportedOffset : Int) (i_t_input_length : Int) (i_t_input_kind : Int) (i_t_input_start : Int) (i_t_input_end : Int) (i_t_input_code : Int) (i_t_input_offset : Int) : va_W := [(a_t, .inr (10, [.ref a_t_input, .ref a_t_output, .ref a_t_topics, .ref a_t_cords, .ref a_t_draftTopics, .ref a_t_draft, .ref a_t_saved, .ref a_t_history, .ref a_t_script, jk_V i_t_hasSaved, jk_V i_t_reportedCode, jk_V i_t_reportedOffset])), (a_t_input, .inr (3, [.ref a_t_input_bytes, jk_V i_t_input_length, jk_V i_t_input_kind, jk_V i_t_input_start, jk_V i_t_input_end, jk_V i_t_input_code, jk_V i_t_input_offset]))]
set_option maxHeartbeats 4000000 in
set_option maxRecDepth 20000 in
theorem ct_KR_closeText (l : Launch) (D : va_G) (Z : (Nat → Prop) → State → Heap → Prop) (sq : Nat → Nat) (hZ : jk_ZK Z sq) (cI cR : ClassId) (a_t a_t_input a_t_output a_t_topics a_t_cords a_t_draftTopics a_t_draft a_t_saved a_t_history a_t_script a_t_input_bytes : Nat) (i_t_hasSaved : Int) (i_t_reportedCode : Int) (i_t_reportedOffset : Int) (i_t_input_length : Int) (i_t_input_kind : Int) (i_t_input_start : Int) (i_t_input_end : Int) (i_t_input_code : Int) (i_t_input_offset : Int) (q : Int × Int × Int × Int) (hf : fn_KR_closeText i_t_input_length i_t_input_code i_t_input_offset i_t_reportedCode i_t_reportedOffset = some q) : jk_MI l D jk_cl (jk_ty cI cR) Z mn_KR_closeText (.code mn_KR_closeText mb_KR_closeText 1 (some .boolean) :: jk_WA) (jk_rm 1 20) [.ref a_t] (wd_KR_closeText cI a_t a_t_input a_t_output a_t_topics a_t_cords a_t_draftTopics a_t_draft a_t_saved a_t_history a_t_script a_t_input_bytes i_t_hasSaved i_t_reportedCode i_t_reportedOffset i_t_input_length i_t_input_kind i_t_input_start i_t_input_end i_t_input_code i_t_input_offset) (wd_KR_closeText cI a_t a_t_input a_t_output a_t_topics a_t_cords a_t_draftTopics a_t_draft a_t_saved a_t_history a_t_script a_t_input_bytes i_t_hasSaved q.2.2.1 q.2.2.2 q.2.1 i_t_input_kind i_t_input_start i_t_input_end i_t_input_code i_t_input_offset) q.1 := by
  intro sz
  refine jk_body (by decide +kernel) (fun p e s m args below meth c hsz hz hin C => ?_) (Nat.le_of_ble_eq_true rfl)
  subst hsz
  unfold fn_KR_closeText at hf
  refine jk_aload_n C rd_KR_closeText_0 (k := 0) rfl ?_
  refine jk_aload_n C rd_KR_closeText_1 (k := 0) rfl ?_
  refine jk_get C in_KR (ci := 10) rfl 0 (by decide) tm_431 0 rfl rfl rd_KR_closeText_2 ?_
  refine jk_getN C in_Text (ci := 3) rfl 5 (by decide) (jk_nw hZ hz tn_2) 1 rfl rfl rd_KR_closeText_5 ?_
  refine jk_putf C in_KR ty_KR nm_KR (ci := 10) rfl 10 (by decide) tm_441 rfl rfl rfl 0 rfl (Nat.le_of_ble_eq_true rfl) rd_KR_closeText_8 (ws' := wd_KR_closeText cI a_t a_t_input a_t_output a_t_topics a_t_cords a_t_draftTopics a_t_draft a_t_saved a_t_history a_t_script a_t_input_bytes i_t_hasSaved i_t_input_code i_t_reportedOffset i_t_input_length i_t_input_kind i_t_input_start i_t_input_end i_t_input_code i_t_input_offset) rfl ?_
  refine jk_aload_n C rd_KR_closeText_11 (k := 0) rfl ?_
  refine jk_aload_n C rd_KR_closeText_12 (k := 0) rfl ?_
  refine jk_get C in_KR (ci := 10) rfl 0 (by decide) tm_431 0 rfl rfl rd_KR_closeText_13 ?_
  refine jk_getN C in_Text (ci := 3) rfl 6 (by decide) (jk_nw hZ hz tn_3) 1 rfl rfl rd_KR_closeText_16 ?_
  refine jk_putf C in_KR ty_KR nm_KR (ci := 10) rfl 11 (by decide) tm_442 rfl rfl rfl 0 rfl (Nat.le_of_ble_eq_true rfl) rd_KR_closeText_19 (ws' := wd_KR_closeText cI a_t a_t_input a_t_output a_t_topics a_t_cords a_t_draftTopics a_t_draft a_t_saved a_t_history a_t_script a_t_input_bytes i_t_hasSaved i_t_input_code i_t_input_offset i_t_input_length i_t_input_kind i_t_input_start i_t_input_end i_t_input_code i_t_input_offset) rfl ?_
  refine jk_aload_n C rd_KR_closeText_22 (k := 0) rfl ?_
  refine jk_get C in_KR (ci := 10) rfl 0 (by decide) tm_431 0 rfl rfl rd_KR_closeText_23 ?_
  obtain ⟨q26, hq26, hf⟩ := jk_bind_h hf
  refine jk_callVv C hZ.1 hz (ct_Text_clear l D Z sq hZ cI cR a_t_input a_t_input_bytes i_t_input_length i_t_input_kind i_t_input_start i_t_input_end i_t_input_code i_t_input_offset q26 hq26) tm_427 tm_428 tm_429 tm_2 tm_430 na_Text_clear ⟨Nat.le_of_ble_eq_true rfl, Nat.le_of_ble_eq_true rfl⟩ rfl [1] rfl rfl rfl (ws' := wd_KR_closeText cI a_t a_t_input a_t_output a_t_topics a_t_cords a_t_draftTopics a_t_draft a_t_saved a_t_history a_t_script a_t_input_bytes i_t_hasSaved i_t_input_code i_t_input_offset q26 i_t_input_kind i_t_input_start i_t_input_end i_t_input_code i_t_input_offset) rfl 1 3 rfl rfl rfl (st := []) rfl (Nat.le_of_ble_eq_true rfl) rd_KR_closeText_26 ?_ ⟨Nat.le_of_ble_eq_true rfl, Nat.le_of_ble_eq_true rfl⟩
  refine jk_aload_n C rd_KR_closeText_29 (k := 0) rfl ?_
  refine jk_get C in_KR (ci := 10) rfl 10 (by decide) tm_441 0 rfl rfl rd_KR_closeText_30 ?_
  refine jk_if_ne (tgt := 40) C rd_KR_closeText_33 (by decide) hf (fun _ hf => ?_) (fun _ hf => ?_)
  · refine jk_iconst C rd_KR_closeText_40 ?_
    cases hf
    exact jk_zret C (Or.inl rfl) rfl rd_KR_closeText_41 rfl
  · refine jk_iconst C rd_KR_closeText_36 ?_
    refine jk_goto (tgt := 41) C rd_KR_closeText_37 (by decide) ?_
    cases hf
    exact jk_zret C (Or.inr rfl) rfl rd_KR_closeText_41 rfl
def wd_KR_loadCords (cI : ClassId) (a_t a_t_input a_t_output a_t_topics a_t_cords a_t_draftTopics a_t_draft a_t_saved a_t_history a_t_script a_t_input_bytes a_t_input_bytes_k a_t_topics_names a_t_topics_names_k a_t_cords_starts a_t_cords_depth a_t_cords_topic a_t_cords_value a_t_cords_nibbled a_t_cords_starts_k a_t_cords_depth_k a_t_cords_topic_k a_t_cords_value_k a_t_cords_nibbled_k a_t_draftTopics_names a_t_draftTopics_names_k a_t_draft_starts a_t_draft_depth a_t_draft_topic a_t_draft_value a_t_draft_nibbled a_t_draft_starts_k a_t_draft_depth_k a_t_draft_topic_k a_t_draft_value_k a_t_draft_nibbled_k a_t_history_ring : Nat) (i_t_hasSaved : Int) (i_t_reportedCode : Int) (i_t_reportedOffset : Int) (i_t_input_length : Int) (i_t_input_kind : Int) (i_t_input_start : Int) (i_t_input_end : Int) (i_t_input_code : Int) (i_t_input_offset : Int) (i_t_input_bytes : (Int → Int)) (i_t_topics_size : Int) (i_t_topics_names : (Int → Int)) (i_t_cords_clusters : Int) (i_t_cords_size : Int) (i_t_cords_starts : (Int → Int)) (i_t_cords_depth : (Int → Int)) (i_t_cords_topic : (Int → Int)) (i_t_cords_value : (Int → Int)) (i_t_cords_nibbled : (Int → Int)) (i_t_draftTopics_size : Int) (i_t_draftTopics_names : (Int → Int)) (i_t_draft_clusters : Int) (i_t_draft_size : Int) (i_t_draft_starts : (Int → Int)) (i_t_draft_depth : (Int → Int)) (i_t_draft_topic : (Int → Int)) (i_t_draft_value : (Int → Int)) (i_t_draft_nibbled : (Int → Int)) (i_t_history_latest : Int) (i_t_history_size : Int) : va_W := [(a_t, .inr (10, [.ref a_t_input, .ref a_t_output, .ref a_t_topics, .ref a_t_cords, .ref a_t_draftTopics, .ref a_t_draft, .ref a_t_saved, .ref a_t_history, .ref a_t_script, jk_V i_t_hasSaved, jk_V i_t_reportedCode, jk_V i_t_reportedOffset])), (a_t_input, .inr (3, [.ref a_t_input_bytes, jk_V i_t_input_length, jk_V i_t_input_kind, jk_V i_t_input_start, jk_V i_t_input_end, jk_V i_t_input_code, jk_V i_t_input_offset])), (a_t_input_bytes, .inr (0, [.ref a_t_input_bytes_k])), (a_t_input_bytes_k, jk_W cI 700 i_t_input_bytes), (a_t_topics, .inr (2, [jk_V i_t_topics_size, .ref a_t_topics_names])), (a_t_topics_names, .inr (0, [.ref a_t_topics_names_k])), (a_t_topics_names_k, jk_W cI 8 i_t_topics_names), (a_t_cords, .inr (5, [jk_V i_t_cords_clusters, jk_V i_t_cords_size, .ref a_t_cords_starts, .ref a_t_cords_depth, .ref a_t_cords_topic, .ref a_t_cords_value, .ref a_t_cords_nibbled])), (a_t_cords_starts, .inr (0, [.ref a_t_cords_starts_k])), (a_t_cords_starts_k, jk_W cI 7 i_t_cords_starts), (a_t_cords_depth, .inr (0, [.ref a_t_cords_depth_k])), (a_t_cords_depth_k, jk_W cI 40 i_t_cords_depth), (a_t_cords_topic, .inr (0, [.ref a_t_cords_topic_k])), (a_t_cords_topic_k, jk_W cI 40 i_t_cords_topic), (a_t_cords_value, .inr (0, [.ref a_t_cords_value_k])), (a_t_cords_value_k, jk_W cI 40 i_t_cords_value), (a_t_cords_nibbled, .inr (0, [.ref a_t_cords_nibbled_k])), (a_t_cords_nibbled_k, jk_W cI 40 i_t_cords_nibbled), (a_t_draftTopics, .inr (2, [jk_V i_t_draftTopics_size, .ref a_t_draftTopics_names])), (a_t_draftTopics_names, .inr (0, [.ref a_t_draftTopics_names_k])), (a_t_draftTopics_names_k, jk_W cI 8 i_t_draftTopics_names), (a_t_draft, .inr (5, [jk_V i_t_draft_clusters, jk_V i_t_draft_size, .ref a_t_draft_starts, .ref a_t_draft_depth, .ref a_t_draft_topic, .ref a_t_draft_value, .ref a_t_draft_nibbled])), (a_t_draft_starts, .inr (0, [.ref a_t_draft_starts_k])), (a_t_draft_starts_k, jk_W cI 7 i_t_draft_starts), (a_t_draft_depth, .inr (0, [.ref a_t_draft_depth_k])), (a_t_draft_depth_k, jk_W cI 40 i_t_draft_depth), (a_t_draft_topic, .inr (0, [.ref a_t_draft_topic_k])), (a_t_draft_topic_k, jk_W cI 40 i_t_draft_topic), (a_t_draft_value, .inr (0, [.ref a_t_draft_value_k])), (a_t_draft_value_k, jk_W cI 40 i_t_draft_value), (a_t_draft_nibbled, .inr (0, [.ref a_t_draft_nibbled_k])), (a_t_draft_nibbled_k, jk_W cI 40 i_t_draft_nibbled), (a_t_history, .inr (6, [.ref a_t_history_ring, jk_V i_t_history_latest, jk_V i_t_history_size]))]
set_option maxHeartbeats 4000000 in
set_option maxRecDepth 20000 in
theorem ct_KR_loadCords (l : Launch) (D : va_G) (Z : (Nat → Prop) → State → Heap → Prop) (sq : Nat → Nat) (hZ : jk_ZK Z sq) (cI cR : ClassId) (a_t a_t_input a_t_output a_t_topics a_t_cords a_t_draftTopics a_t_draft a_t_saved a_t_history a_t_script a_t_input_bytes a_t_input_bytes_k a_t_topics_names a_t_topics_names_k a_t_cords_starts a_t_cords_depth a_t_cords_topic a_t_cords_value a_t_cords_nibbled a_t_cords_starts_k a_t_cords_depth_k a_t_cords_topic_k a_t_cords_value_k a_t_cords_nibbled_k a_t_draftTopics_names a_t_draftTopics_names_k a_t_draft_starts a_t_draft_depth a_t_draft_topic a_t_draft_value a_t_draft_nibbled a_t_draft_starts_k a_t_draft_depth_k a_t_draft_topic_k a_t_draft_value_k a_t_draft_nibbled_k a_t_history_ring : Nat) (i_t_hasSaved : Int) (i_t_reportedCode : Int) (i_t_reportedOffset : Int) (i_t_input_length : Int) (i_t_input_kind : Int) (i_t_input_start : Int) (i_t_input_end : Int) (i_t_input_code : Int) (i_t_input_offset : Int) (i_t_input_bytes : (Int → Int)) (i_t_topics_size : Int) (i_t_topics_names : (Int → Int)) (i_t_cords_clusters : Int) (i_t_cords_size : Int) (i_t_cords_starts : (Int → Int)) (i_t_cords_depth : (Int → Int)) (i_t_cords_topic : (Int → Int)) (i_t_cords_value : (Int → Int)) (i_t_cords_nibbled : (Int → Int)) (i_t_draftTopics_size : Int) (i_t_draftTopics_names : (Int → Int)) (i_t_draft_clusters : Int) (i_t_draft_size : Int) (i_t_draft_starts : (Int → Int)) (i_t_draft_depth : (Int → Int)) (i_t_draft_topic : (Int → Int)) (i_t_draft_value : (Int → Int)) (i_t_draft_nibbled : (Int → Int)) (i_t_history_latest : Int) (i_t_history_size : Int) (q : Int × Int × Int × Int × Int × Int × Int × Int × (Int → Int) × Int × Int × (Int → Int) × (Int → Int) × (Int → Int) × (Int → Int) × (Int → Int) × Int × (Int → Int) × Int × Int × (Int → Int) × (Int → Int) × (Int → Int) × (Int → Int) × (Int → Int) × Int × Int × Int × Int) (hf : fn_KR_loadCords i_t_input_bytes i_t_input_length i_t_input_kind i_t_input_start i_t_input_end i_t_input_code i_t_input_offset i_t_topics_size i_t_topics_names i_t_cords_clusters i_t_cords_size i_t_cords_starts i_t_cords_depth i_t_cords_topic i_t_cords_value i_t_cords_nibbled i_t_draftTopics_size i_t_draftTopics_names i_t_draft_clusters i_t_draft_size i_t_draft_starts i_t_draft_depth i_t_draft_topic i_t_draft_value i_t_draft_nibbled i_t_history_size i_t_hasSaved i_t_reportedCode i_t_reportedOffset = some q) : jk_MI l D jk_cl (jk_ty cI cR) Z mn_KR_loadCords (.code mn_KR_loadCords mb_KR_loadCords 1 (some .int) :: jk_WA) (jk_rm 10 394) [.ref a_t] (wd_KR_loadCords cI a_t a_t_input a_t_output a_t_topics a_t_cords a_t_draftTopics a_t_draft a_t_saved a_t_history a_t_script a_t_input_bytes a_t_input_bytes_k a_t_topics_names a_t_topics_names_k a_t_cords_starts a_t_cords_depth a_t_cords_topic a_t_cords_value a_t_cords_nibbled a_t_cords_starts_k a_t_cords_depth_k a_t_cords_topic_k a_t_cords_value_k a_t_cords_nibbled_k a_t_draftTopics_names a_t_draftTopics_names_k a_t_draft_starts a_t_draft_depth a_t_draft_topic a_t_draft_value a_t_draft_nibbled a_t_draft_starts_k a_t_draft_depth_k a_t_draft_topic_k a_t_draft_value_k a_t_draft_nibbled_k a_t_history_ring i_t_hasSaved i_t_reportedCode i_t_reportedOffset i_t_input_length i_t_input_kind i_t_input_start i_t_input_end i_t_input_code i_t_input_offset i_t_input_bytes i_t_topics_size i_t_topics_names i_t_cords_clusters i_t_cords_size i_t_cords_starts i_t_cords_depth i_t_cords_topic i_t_cords_value i_t_cords_nibbled i_t_draftTopics_size i_t_draftTopics_names i_t_draft_clusters i_t_draft_size i_t_draft_starts i_t_draft_depth i_t_draft_topic i_t_draft_value i_t_draft_nibbled i_t_history_latest i_t_history_size) (wd_KR_loadCords cI a_t a_t_input a_t_output a_t_topics a_t_cords a_t_draftTopics a_t_draft a_t_saved a_t_history a_t_script a_t_input_bytes a_t_input_bytes_k a_t_topics_names a_t_topics_names_k a_t_cords_starts a_t_cords_depth a_t_cords_topic a_t_cords_value a_t_cords_nibbled a_t_cords_starts_k a_t_cords_depth_k a_t_cords_topic_k a_t_cords_value_k a_t_cords_nibbled_k a_t_draftTopics_names a_t_draftTopics_names_k a_t_draft_starts a_t_draft_depth a_t_draft_topic a_t_draft_value a_t_draft_nibbled a_t_draft_starts_k a_t_draft_depth_k a_t_draft_topic_k a_t_draft_value_k a_t_draft_nibbled_k a_t_history_ring q.2.2.2.2.2.2.2.2.2.2.2.2.2.2.2.2.2.2.2.2.2.2.2.2.2.2.1 q.2.2.2.2.2.2.2.2.2.2.2.2.2.2.2.2.2.2.2.2.2.2.2.2.2.2.2.1 q.2.2.2.2.2.2.2.2.2.2.2.2.2.2.2.2.2.2.2.2.2.2.2.2.2.2.2.2 q.2.1 q.2.2.1 q.2.2.2.1 q.2.2.2.2.1 q.2.2.2.2.2.1 q.2.2.2.2.2.2.1 i_t_input_bytes q.2.2.2.2.2.2.2.1 q.2.2.2.2.2.2.2.2.1 q.2.2.2.2.2.2.2.2.2.1 q.2.2.2.2.2.2.2.2.2.2.1 q.2.2.2.2.2.2.2.2.2.2.2.1 q.2.2.2.2.2.2.2.2.2.2.2.2.1 q.2.2.2.2.2.2.2.2.2.2.2.2.2.1 q.2.2.2.2.2.2.2.2.2.2.2.2.2.2.1 q.2.2.2.2.2.2.2.2.2.2.2.2.2.2.2.1 q.2.2.2.2.2.2.2.2.2.2.2.2.2.2.2.2.1 q.2.2.2.2.2.2.2.2.2.2.2.2.2.2.2.2.2.1 q.2.2.2.2.2.2.2.2.2.2.2.2.2.2.2.2.2.2.1 q.2.2.2.2.2.2.2.2.2.2.2.2.2.2.2.2.2.2.2.1 q.2.2.2.2.2.2.2.2.2.2.2.2.2.2.2.2.2.2.2.2.1 q.2.2.2.2.2.2.2.2.2.2.2.2.2.2.2.2.2.2.2.2.2.1 q.2.2.2.2.2.2.2.2.2.2.2.2.2.2.2.2.2.2.2.2.2.2.1 q.2.2.2.2.2.2.2.2.2.2.2.2.2.2.2.2.2.2.2.2.2.2.2.1 q.2.2.2.2.2.2.2.2.2.2.2.2.2.2.2.2.2.2.2.2.2.2.2.2.1 i_t_history_latest q.2.2.2.2.2.2.2.2.2.2.2.2.2.2.2.2.2.2.2.2.2.2.2.2.2.1) q.1 := by
  intro sz
  refine jk_body (by decide +kernel) (fun p e s m args below meth c hsz hz hin C => ?_) (Nat.le_of_ble_eq_true rfl)
  subst hsz
  unfold fn_KR_loadCords at hf
  refine jk_aload_n C rd_KR_loadCords_0 (k := 0) rfl ?_
  refine jk_get C in_KR (ci := 10) rfl 0 (by decide) tm_431 0 rfl rfl rd_KR_loadCords_1 ?_
  refine jk_aload_n C rd_KR_loadCords_4 (k := 0) rfl ?_
  refine jk_get C in_KR (ci := 10) rfl 4 (by decide) tm_435 0 rfl rfl rd_KR_loadCords_5 ?_
  refine jk_aload_n C rd_KR_loadCords_8 (k := 0) rfl ?_
  refine jk_get C in_KR (ci := 10) rfl 5 (by decide) tm_436 0 rfl rfl rd_KR_loadCords_9 ?_
  obtain ⟨q12, hq12, hf⟩ := jk_bind_h hf
  refine jk_callSv C hZ.1 hz (ct_Setup_parse l D Z sq hZ cI cR a_t_input a_t_input_bytes a_t_input_bytes_k a_t_draftTopics a_t_draftTopics_names a_t_draftTopics_names_k a_t_draft a_t_draft_starts a_t_draft_depth a_t_draft_topic a_t_draft_value a_t_draft_nibbled a_t_draft_starts_k a_t_draft_depth_k a_t_draft_topic_k a_t_draft_value_k a_t_draft_nibbled_k i_t_input_length i_t_input_kind i_t_input_start i_t_input_end i_t_input_code i_t_input_offset i_t_input_bytes i_t_draftTopics_size i_t_draftTopics_names i_t_draft_clusters i_t_draft_size i_t_draft_starts i_t_draft_depth i_t_draft_topic i_t_draft_value i_t_draft_nibbled q12 hq12) tm_267 tm_268 tm_13 tm_269 na_Setup_parse ⟨Nat.le_of_ble_eq_true rfl, Nat.le_of_ble_eq_true rfl⟩ rfl [1, 2, 3, 18, 19, 20, 21, 22, 23, 24, 25, 26, 27, 28, 29, 30, 31] rfl rfl rfl (ws' := wd_KR_loadCords cI a_t a_t_input a_t_output a_t_topics a_t_cords a_t_draftTopics a_t_draft a_t_saved a_t_history a_t_script a_t_input_bytes a_t_input_bytes_k a_t_topics_names a_t_topics_names_k a_t_cords_starts a_t_cords_depth a_t_cords_topic a_t_cords_value a_t_cords_nibbled a_t_cords_starts_k a_t_cords_depth_k a_t_cords_topic_k a_t_cords_value_k a_t_cords_nibbled_k a_t_draftTopics_names a_t_draftTopics_names_k a_t_draft_starts a_t_draft_depth a_t_draft_topic a_t_draft_value a_t_draft_nibbled a_t_draft_starts_k a_t_draft_depth_k a_t_draft_topic_k a_t_draft_value_k a_t_draft_nibbled_k a_t_history_ring i_t_hasSaved i_t_reportedCode i_t_reportedOffset i_t_input_length q12.1 q12.2.1 q12.2.2.1 q12.2.2.2.1 q12.2.2.2.2.1 i_t_input_bytes i_t_topics_size i_t_topics_names i_t_cords_clusters i_t_cords_size i_t_cords_starts i_t_cords_depth i_t_cords_topic i_t_cords_value i_t_cords_nibbled q12.2.2.2.2.2.1 q12.2.2.2.2.2.2.1 q12.2.2.2.2.2.2.2.1 q12.2.2.2.2.2.2.2.2.1 q12.2.2.2.2.2.2.2.2.2.1 q12.2.2.2.2.2.2.2.2.2.2.1 q12.2.2.2.2.2.2.2.2.2.2.2.1 q12.2.2.2.2.2.2.2.2.2.2.2.2.1 q12.2.2.2.2.2.2.2.2.2.2.2.2.2 i_t_history_latest i_t_history_size) rfl (st := []) rfl (Nat.le_of_ble_eq_true rfl) rd_KR_loadCords_12 ?_ ⟨Nat.le_of_ble_eq_true rfl, Nat.le_of_ble_eq_true rfl⟩
  refine jk_aload_n C rd_KR_loadCords_15 (k := 0) rfl ?_
  obtain ⟨q16, hq16, hf⟩ := jk_bind_h hf
  refine jk_callVi C hZ.1 hz (ct_KR_closeText l D Z sq hZ cI cR a_t a_t_input a_t_output a_t_topics a_t_cords a_t_draftTopics a_t_draft a_t_saved a_t_history a_t_script a_t_input_bytes i_t_hasSaved i_t_reportedCode i_t_reportedOffset i_t_input_length q12.1 q12.2.1 q12.2.2.1 q12.2.2.2.1 q12.2.2.2.2.1 q16 hq16) tm_473 tm_475 sl_4 tm_1 tm_476 na_KR_closeText ⟨Nat.le_of_ble_eq_true rfl, Nat.le_of_ble_eq_true rfl⟩ rfl [0, 1] rfl rfl rfl (ws' := wd_KR_loadCords cI a_t a_t_input a_t_output a_t_topics a_t_cords a_t_draftTopics a_t_draft a_t_saved a_t_history a_t_script a_t_input_bytes a_t_input_bytes_k a_t_topics_names a_t_topics_names_k a_t_cords_starts a_t_cords_depth a_t_cords_topic a_t_cords_value a_t_cords_nibbled a_t_cords_starts_k a_t_cords_depth_k a_t_cords_topic_k a_t_cords_value_k a_t_cords_nibbled_k a_t_draftTopics_names a_t_draftTopics_names_k a_t_draft_starts a_t_draft_depth a_t_draft_topic a_t_draft_value a_t_draft_nibbled a_t_draft_starts_k a_t_draft_depth_k a_t_draft_topic_k a_t_draft_value_k a_t_draft_nibbled_k a_t_history_ring i_t_hasSaved q16.2.2.1 q16.2.2.2 q16.2.1 q12.1 q12.2.1 q12.2.2.1 q12.2.2.2.1 q12.2.2.2.2.1 i_t_input_bytes i_t_topics_size i_t_topics_names i_t_cords_clusters i_t_cords_size i_t_cords_starts i_t_cords_depth i_t_cords_topic i_t_cords_value i_t_cords_nibbled q12.2.2.2.2.2.1 q12.2.2.2.2.2.2.1 q12.2.2.2.2.2.2.2.1 q12.2.2.2.2.2.2.2.2.1 q12.2.2.2.2.2.2.2.2.2.1 q12.2.2.2.2.2.2.2.2.2.2.1 q12.2.2.2.2.2.2.2.2.2.2.2.1 q12.2.2.2.2.2.2.2.2.2.2.2.2.1 q12.2.2.2.2.2.2.2.2.2.2.2.2.2 i_t_history_latest i_t_history_size) rfl 0 10 rfl rfl rfl (st := []) rfl (Nat.le_of_ble_eq_true rfl) rd_KR_loadCords_16 ?_ ⟨Nat.le_of_ble_eq_true rfl, Nat.le_of_ble_eq_true rfl⟩
  refine jk_if_ne (tgt := 24) C rd_KR_loadCords_19 (by decide) hf (fun _ hf => ?_) (fun _ hf => ?_)
  · refine jk_aload_n C rd_KR_loadCords_24 (k := 0) rfl ?_
    refine jk_get C in_KR (ci := 10) rfl 2 (by decide) tm_433 0 rfl rfl rd_KR_loadCords_25 ?_
    refine jk_aload_n C rd_KR_loadCords_28 (k := 0) rfl ?_
    refine jk_get C in_KR (ci := 10) rfl 4 (by decide) tm_435 0 rfl rfl rd_KR_loadCords_29 ?_
    obtain ⟨q32, hq32, hf⟩ := jk_bind_h hf
    refine jk_callVv C hZ.1 hz (ct_Topics_copyFrom l D Z sq hZ cI cR a_t_topics a_t_topics_names a_t_topics_names_k a_t_draftTopics a_t_draftTopics_names a_t_draftTopics_names_k i_t_topics_size i_t_topics_names q12.2.2.2.2.2.1 q12.2.2.2.2.2.2.1 q32 hq32) tm_477 tm_478 tm_479 tm_5 tm_480 na_Topics_copyFrom ⟨Nat.le_of_ble_eq_true rfl, Nat.le_of_ble_eq_true rfl⟩ rfl [4, 5, 6, 18, 19, 20] rfl rfl rfl (ws' := wd_KR_loadCords cI a_t a_t_input a_t_output a_t_topics a_t_cords a_t_draftTopics a_t_draft a_t_saved a_t_history a_t_script a_t_input_bytes a_t_input_bytes_k a_t_topics_names a_t_topics_names_k a_t_cords_starts a_t_cords_depth a_t_cords_topic a_t_cords_value a_t_cords_nibbled a_t_cords_starts_k a_t_cords_depth_k a_t_cords_topic_k a_t_cords_value_k a_t_cords_nibbled_k a_t_draftTopics_names a_t_draftTopics_names_k a_t_draft_starts a_t_draft_depth a_t_draft_topic a_t_draft_value a_t_draft_nibbled a_t_draft_starts_k a_t_draft_depth_k a_t_draft_topic_k a_t_draft_value_k a_t_draft_nibbled_k a_t_history_ring i_t_hasSaved q16.2.2.1 q16.2.2.2 q16.2.1 q12.1 q12.2.1 q12.2.2.1 q12.2.2.2.1 q12.2.2.2.2.1 i_t_input_bytes q32.1 q32.2 i_t_cords_clusters i_t_cords_size i_t_cords_starts i_t_cords_depth i_t_cords_topic i_t_cords_value i_t_cords_nibbled q12.2.2.2.2.2.1 q12.2.2.2.2.2.2.1 q12.2.2.2.2.2.2.2.1 q12.2.2.2.2.2.2.2.2.1 q12.2.2.2.2.2.2.2.2.2.1 q12.2.2.2.2.2.2.2.2.2.2.1 q12.2.2.2.2.2.2.2.2.2.2.2.1 q12.2.2.2.2.2.2.2.2.2.2.2.2.1 q12.2.2.2.2.2.2.2.2.2.2.2.2.2 i_t_history_latest i_t_history_size) rfl 4 2 rfl rfl rfl (st := []) rfl (Nat.le_of_ble_eq_true rfl) rd_KR_loadCords_32 ?_ ⟨Nat.le_of_ble_eq_true rfl, Nat.le_of_ble_eq_true rfl⟩
    refine jk_aload_n C rd_KR_loadCords_35 (k := 0) rfl ?_
    refine jk_get C in_KR (ci := 10) rfl 3 (by decide) tm_434 0 rfl rfl rd_KR_loadCords_36 ?_
    refine jk_aload_n C rd_KR_loadCords_39 (k := 0) rfl ?_
    refine jk_get C in_KR (ci := 10) rfl 5 (by decide) tm_436 0 rfl rfl rd_KR_loadCords_40 ?_
    obtain ⟨q43, hq43, hf⟩ := jk_bind_h hf
    refine jk_callVv C hZ.1 hz (ct_Cords_copyFrom l D Z sq hZ cI cR a_t_cords a_t_cords_starts a_t_cords_depth a_t_cords_topic a_t_cords_value a_t_cords_nibbled a_t_cords_starts_k a_t_cords_depth_k a_t_cords_topic_k a_t_cords_value_k a_t_cords_nibbled_k a_t_draft a_t_draft_starts a_t_draft_depth a_t_draft_topic a_t_draft_value a_t_draft_nibbled a_t_draft_starts_k a_t_draft_depth_k a_t_draft_topic_k a_t_draft_value_k a_t_draft_nibbled_k i_t_cords_clusters i_t_cords_size i_t_cords_starts i_t_cords_depth i_t_cords_topic i_t_cords_value i_t_cords_nibbled q12.2.2.2.2.2.2.2.1 q12.2.2.2.2.2.2.2.2.1 q12.2.2.2.2.2.2.2.2.2.1 q12.2.2.2.2.2.2.2.2.2.2.1 q12.2.2.2.2.2.2.2.2.2.2.2.1 q12.2.2.2.2.2.2.2.2.2.2.2.2.1 q12.2.2.2.2.2.2.2.2.2.2.2.2.2 q43 hq43) tm_485 tm_486 tm_487 tm_6 tm_488 na_Cords_copyFrom ⟨Nat.le_of_ble_eq_true rfl, Nat.le_of_ble_eq_true rfl⟩ rfl [7, 8, 9, 10, 11, 12, 13, 14, 15, 16, 17, 21, 22, 23, 24, 25, 26, 27, 28, 29, 30, 31] rfl rfl rfl (ws' := wd_KR_loadCords cI a_t a_t_input a_t_output a_t_topics a_t_cords a_t_draftTopics a_t_draft a_t_saved a_t_history a_t_script a_t_input_bytes a_t_input_bytes_k a_t_topics_names a_t_topics_names_k a_t_cords_starts a_t_cords_depth a_t_cords_topic a_t_cords_value a_t_cords_nibbled a_t_cords_starts_k a_t_cords_depth_k a_t_cords_topic_k a_t_cords_value_k a_t_cords_nibbled_k a_t_draftTopics_names a_t_draftTopics_names_k a_t_draft_starts a_t_draft_depth a_t_draft_topic a_t_draft_value a_t_draft_nibbled a_t_draft_starts_k a_t_draft_depth_k a_t_draft_topic_k a_t_draft_value_k a_t_draft_nibbled_k a_t_history_ring i_t_hasSaved q16.2.2.1 q16.2.2.2 q16.2.1 q12.1 q12.2.1 q12.2.2.1 q12.2.2.2.1 q12.2.2.2.2.1 i_t_input_bytes q32.1 q32.2 q43.1 q43.2.1 q43.2.2.1 q43.2.2.2.1 q43.2.2.2.2.1 q43.2.2.2.2.2.1 q43.2.2.2.2.2.2 q12.2.2.2.2.2.1 q12.2.2.2.2.2.2.1 q12.2.2.2.2.2.2.2.1 q12.2.2.2.2.2.2.2.2.1 q12.2.2.2.2.2.2.2.2.2.1 q12.2.2.2.2.2.2.2.2.2.2.1 q12.2.2.2.2.2.2.2.2.2.2.2.1 q12.2.2.2.2.2.2.2.2.2.2.2.2.1 q12.2.2.2.2.2.2.2.2.2.2.2.2.2 i_t_history_latest i_t_history_size) rfl 7 5 rfl rfl rfl (st := []) rfl (Nat.le_of_ble_eq_true rfl) rd_KR_loadCords_43 ?_ ⟨Nat.le_of_ble_eq_true rfl, Nat.le_of_ble_eq_true rfl⟩
    refine jk_aload_n C rd_KR_loadCords_46 (k := 0) rfl ?_
    refine jk_get C in_KR (ci := 10) rfl 7 (by decide) tm_438 0 rfl rfl rd_KR_loadCords_47 ?_
    obtain ⟨q50, hq50, hf⟩ := jk_bind_h hf
    refine jk_callVv C hZ.1 hz (ct_History_clear l D Z sq hZ cI cR a_t_history a_t_history_ring i_t_history_latest i_t_history_size q50 hq50) tm_490 tm_491 tm_492 tm_7 tm_493 na_History_clear ⟨Nat.le_of_ble_eq_true rfl, Nat.le_of_ble_eq_true rfl⟩ rfl [32] rfl rfl rfl (ws' := wd_KR_loadCords cI a_t a_t_input a_t_output a_t_topics a_t_cords a_t_draftTopics a_t_draft a_t_saved a_t_history a_t_script a_t_input_bytes a_t_input_bytes_k a_t_topics_names a_t_topics_names_k a_t_cords_starts a_t_cords_depth a_t_cords_topic a_t_cords_value a_t_cords_nibbled a_t_cords_starts_k a_t_cords_depth_k a_t_cords_topic_k a_t_cords_value_k a_t_cords_nibbled_k a_t_draftTopics_names a_t_draftTopics_names_k a_t_draft_starts a_t_draft_depth a_t_draft_topic a_t_draft_value a_t_draft_nibbled a_t_draft_starts_k a_t_draft_depth_k a_t_draft_topic_k a_t_draft_value_k a_t_draft_nibbled_k a_t_history_ring i_t_hasSaved q16.2.2.1 q16.2.2.2 q16.2.1 q12.1 q12.2.1 q12.2.2.1 q12.2.2.2.1 q12.2.2.2.2.1 i_t_input_bytes q32.1 q32.2 q43.1 q43.2.1 q43.2.2.1 q43.2.2.2.1 q43.2.2.2.2.1 q43.2.2.2.2.2.1 q43.2.2.2.2.2.2 q12.2.2.2.2.2.1 q12.2.2.2.2.2.2.1 q12.2.2.2.2.2.2.2.1 q12.2.2.2.2.2.2.2.2.1 q12.2.2.2.2.2.2.2.2.2.1 q12.2.2.2.2.2.2.2.2.2.2.1 q12.2.2.2.2.2.2.2.2.2.2.2.1 q12.2.2.2.2.2.2.2.2.2.2.2.2.1 q12.2.2.2.2.2.2.2.2.2.2.2.2.2 i_t_history_latest q50) rfl 32 6 rfl rfl rfl (st := []) rfl (Nat.le_of_ble_eq_true rfl) rd_KR_loadCords_50 ?_ ⟨Nat.le_of_ble_eq_true rfl, Nat.le_of_ble_eq_true rfl⟩
    refine jk_aload_n C rd_KR_loadCords_53 (k := 0) rfl ?_
    refine jk_iconst C rd_KR_loadCords_54 ?_
    refine jk_putf C in_KR ty_KR nm_KR (ci := 10) rfl 9 (by decide) tm_440 rfl (jk_narrow_bool (Or.inl rfl)) (by decide +kernel) 0 rfl (Nat.le_of_ble_eq_true rfl) rd_KR_loadCords_55 (ws' := wd_KR_loadCords cI a_t a_t_input a_t_output a_t_topics a_t_cords a_t_draftTopics a_t_draft a_t_saved a_t_history a_t_script a_t_input_bytes a_t_input_bytes_k a_t_topics_names a_t_topics_names_k a_t_cords_starts a_t_cords_depth a_t_cords_topic a_t_cords_value a_t_cords_nibbled a_t_cords_starts_k a_t_cords_depth_k a_t_cords_topic_k a_t_cords_value_k a_t_cords_nibbled_k a_t_draftTopics_names a_t_draftTopics_names_k a_t_draft_starts a_t_draft_depth a_t_draft_topic a_t_draft_value a_t_draft_nibbled a_t_draft_starts_k a_t_draft_depth_k a_t_draft_topic_k a_t_draft_value_k a_t_draft_nibbled_k a_t_history_ring 0 q16.2.2.1 q16.2.2.2 q16.2.1 q12.1 q12.2.1 q12.2.2.1 q12.2.2.2.1 q12.2.2.2.2.1 i_t_input_bytes q32.1 q32.2 q43.1 q43.2.1 q43.2.2.1 q43.2.2.2.1 q43.2.2.2.2.1 q43.2.2.2.2.2.1 q43.2.2.2.2.2.2 q12.2.2.2.2.2.1 q12.2.2.2.2.2.2.1 q12.2.2.2.2.2.2.2.1 q12.2.2.2.2.2.2.2.2.1 q12.2.2.2.2.2.2.2.2.2.1 q12.2.2.2.2.2.2.2.2.2.2.1 q12.2.2.2.2.2.2.2.2.2.2.2.1 q12.2.2.2.2.2.2.2.2.2.2.2.2.1 q12.2.2.2.2.2.2.2.2.2.2.2.2.2 i_t_history_latest q50) rfl ?_
    refine jk_aload_n C rd_KR_loadCords_58 (k := 0) rfl ?_
    refine jk_get C in_KR (ci := 10) rfl 3 (by decide) tm_434 0 rfl rfl rd_KR_loadCords_59 ?_
    refine jk_getN C in_Cords (ci := 5) rfl 1 (by decide) (jk_nw hZ hz tn_12) 7 rfl rfl rd_KR_loadCords_62 ?_
    cases hf
    exact jk_iret C rfl rd_KR_loadCords_65 rfl
  · refine jk_iconst C rd_KR_loadCords_22 ?_
    cases hf
    exact jk_iret C rfl rd_KR_loadCords_23 rfl
def wd_KR_clusterCount (cI : ClassId) (a_t a_t_input a_t_output a_t_topics a_t_cords a_t_draftTopics a_t_draft a_t_saved a_t_history a_t_script a_t_cords_starts a_t_cords_depth a_t_cords_topic a_t_cords_value a_t_cords_nibbled : Nat) (i_t_hasSaved : Int) (i_t_reportedCode : Int) (i_t_reportedOffset : Int) (i_t_cords_clusters : Int) (i_t_cords_size : Int) : va_W := [(a_t, .inr (10, [.ref a_t_input, .ref a_t_output, .ref a_t_topics, .ref a_t_cords, .ref a_t_draftTopics, .ref a_t_draft, .ref a_t_saved, .ref a_t_history, .ref a_t_script, jk_V i_t_hasSaved, jk_V i_t_reportedCode, jk_V i_t_reportedOffset])), (a_t_cords, .inr (5, [jk_V i_t_cords_clusters, jk_V i_t_cords_size, .ref a_t_cords_starts, .ref a_t_cords_depth, .ref a_t_cords_topic, .ref a_t_cords_value, .ref a_t_cords_nibbled]))]
set_option maxHeartbeats 4000000 in
set_option maxRecDepth 20000 in
theorem ct_KR_clusterCount (l : Launch) (D : va_G) (Z : (Nat → Prop) → State → Heap → Prop) (sq : Nat → Nat) (hZ : jk_ZK Z sq) (cI cR : ClassId) (a_t a_t_input a_t_output a_t_topics a_t_cords a_t_draftTopics a_t_draft a_t_saved a_t_history a_t_script a_t_cords_starts a_t_cords_depth a_t_cords_topic a_t_cords_value a_t_cords_nibbled : Nat) (i_t_hasSaved : Int) (i_t_reportedCode : Int) (i_t_reportedOffset : Int) (i_t_cords_clusters : Int) (i_t_cords_size : Int) (q : Int) (hf : fn_KR_clusterCount i_t_cords_clusters = some q) : jk_MI l D jk_cl (jk_ty cI cR) Z mn_KR_clusterCount (.code mn_KR_clusterCount mb_KR_clusterCount 1 (some .int) :: jk_WA) (jk_rm 0 0) [.ref a_t] (wd_KR_clusterCount cI a_t a_t_input a_t_output a_t_topics a_t_cords a_t_draftTopics a_t_draft a_t_saved a_t_history a_t_script a_t_cords_starts a_t_cords_depth a_t_cords_topic a_t_cords_value a_t_cords_nibbled i_t_hasSaved i_t_reportedCode i_t_reportedOffset i_t_cords_clusters i_t_cords_size) (wd_KR_clusterCount cI a_t a_t_input a_t_output a_t_topics a_t_cords a_t_draftTopics a_t_draft a_t_saved a_t_history a_t_script a_t_cords_starts a_t_cords_depth a_t_cords_topic a_t_cords_value a_t_cords_nibbled i_t_hasSaved i_t_reportedCode i_t_reportedOffset i_t_cords_clusters i_t_cords_size) q := by
  intro sz
  refine jk_body (by decide +kernel) (fun p e s m args below meth c hsz hz hin C => ?_) (Nat.le_of_ble_eq_true rfl)
  subst hsz
  unfold fn_KR_clusterCount at hf
  refine jk_aload_n C rd_KR_clusterCount_0 (k := 0) rfl ?_
  refine jk_get C in_KR (ci := 10) rfl 3 (by decide) tm_434 0 rfl rfl rd_KR_clusterCount_1 ?_
  refine jk_getN C in_Cords (ci := 5) rfl 0 (by decide) (jk_nw hZ hz tn_10) 1 rfl rfl rd_KR_clusterCount_4 ?_
  cases hf
  exact jk_iret C rfl rd_KR_clusterCount_7 rfl
def wd_KR_cordCount (cI : ClassId) (a_t a_t_input a_t_output a_t_topics a_t_cords a_t_draftTopics a_t_draft a_t_saved a_t_history a_t_script a_t_cords_starts a_t_cords_depth a_t_cords_topic a_t_cords_value a_t_cords_nibbled : Nat) (i_t_hasSaved : Int) (i_t_reportedCode : Int) (i_t_reportedOffset : Int) (i_t_cords_clusters : Int) (i_t_cords_size : Int) : va_W := [(a_t, .inr (10, [.ref a_t_input, .ref a_t_output, .ref a_t_topics, .ref a_t_cords, .ref a_t_draftTopics, .ref a_t_draft, .ref a_t_saved, .ref a_t_history, .ref a_t_script, jk_V i_t_hasSaved, jk_V i_t_reportedCode, jk_V i_t_reportedOffset])), (a_t_cords, .inr (5, [jk_V i_t_cords_clusters, jk_V i_t_cords_size, .ref a_t_cords_starts, .ref a_t_cords_depth, .ref a_t_cords_topic, .ref a_t_cords_value, .ref a_t_cords_nibbled]))]
set_option maxHeartbeats 4000000 in
set_option maxRecDepth 20000 in
theorem ct_KR_cordCount (l : Launch) (D : va_G) (Z : (Nat → Prop) → State → Heap → Prop) (sq : Nat → Nat) (hZ : jk_ZK Z sq) (cI cR : ClassId) (a_t a_t_input a_t_output a_t_topics a_t_cords a_t_draftTopics a_t_draft a_t_saved a_t_history a_t_script a_t_cords_starts a_t_cords_depth a_t_cords_topic a_t_cords_value a_t_cords_nibbled : Nat) (i_t_hasSaved : Int) (i_t_reportedCode : Int) (i_t_reportedOffset : Int) (i_t_cords_clusters : Int) (i_t_cords_size : Int) (q : Int) (hf : fn_KR_cordCount i_t_cords_size = some q) : jk_MI l D jk_cl (jk_ty cI cR) Z mn_KR_cordCount (.code mn_KR_cordCount mb_KR_cordCount 1 (some .int) :: jk_WA) (jk_rm 0 0) [.ref a_t] (wd_KR_cordCount cI a_t a_t_input a_t_output a_t_topics a_t_cords a_t_draftTopics a_t_draft a_t_saved a_t_history a_t_script a_t_cords_starts a_t_cords_depth a_t_cords_topic a_t_cords_value a_t_cords_nibbled i_t_hasSaved i_t_reportedCode i_t_reportedOffset i_t_cords_clusters i_t_cords_size) (wd_KR_cordCount cI a_t a_t_input a_t_output a_t_topics a_t_cords a_t_draftTopics a_t_draft a_t_saved a_t_history a_t_script a_t_cords_starts a_t_cords_depth a_t_cords_topic a_t_cords_value a_t_cords_nibbled i_t_hasSaved i_t_reportedCode i_t_reportedOffset i_t_cords_clusters i_t_cords_size) q := by
  intro sz
  refine jk_body (by decide +kernel) (fun p e s m args below meth c hsz hz hin C => ?_) (Nat.le_of_ble_eq_true rfl)
  subst hsz
  unfold fn_KR_cordCount at hf
  refine jk_aload_n C rd_KR_cordCount_0 (k := 0) rfl ?_
  refine jk_get C in_KR (ci := 10) rfl 3 (by decide) tm_434 0 rfl rfl rd_KR_cordCount_1 ?_
  refine jk_getN C in_Cords (ci := 5) rfl 1 (by decide) (jk_nw hZ hz tn_12) 1 rfl rfl rd_KR_cordCount_4 ?_
  cases hf
  exact jk_iret C rfl rd_KR_cordCount_7 rfl
def wd_KR_requireCord (cI : ClassId) (a_t a_t_input a_t_output a_t_topics a_t_cords a_t_draftTopics a_t_draft a_t_saved a_t_history a_t_script a_t_cords_starts a_t_cords_depth a_t_cords_topic a_t_cords_value a_t_cords_nibbled : Nat) (i_t_hasSaved : Int) (i_t_reportedCode : Int) (i_t_reportedOffset : Int) (i_t_cords_clusters : Int) (i_t_cords_size : Int) : va_W := [(a_t, .inr (10, [.ref a_t_input, .ref a_t_output, .ref a_t_topics, .ref a_t_cords, .ref a_t_draftTopics, .ref a_t_draft, .ref a_t_saved, .ref a_t_history, .ref a_t_script, jk_V i_t_hasSaved, jk_V i_t_reportedCode, jk_V i_t_reportedOffset])), (a_t_cords, .inr (5, [jk_V i_t_cords_clusters, jk_V i_t_cords_size, .ref a_t_cords_starts, .ref a_t_cords_depth, .ref a_t_cords_topic, .ref a_t_cords_value, .ref a_t_cords_nibbled]))]
set_option maxHeartbeats 4000000 in
set_option maxRecDepth 20000 in
theorem ct_KR_requireCord (l : Launch) (D : va_G) (Z : (Nat → Prop) → State → Heap → Prop) (sq : Nat → Nat) (hZ : jk_ZK Z sq) (hl : l.stackTraces = false) (cI cR : ClassId) (a_t a_t_input a_t_output a_t_topics a_t_cords a_t_draftTopics a_t_draft a_t_saved a_t_history a_t_script a_t_cords_starts a_t_cords_depth a_t_cords_topic a_t_cords_value a_t_cords_nibbled : Nat) (i_t_hasSaved : Int) (i_t_reportedCode : Int) (i_t_reportedOffset : Int) (i_t_cords_clusters : Int) (i_t_cords_size : Int) (x1 : Int) (q : Nat ⊕ (Unit)) (hf : fn_KR_requireCord i_t_cords_size x1 = some q) : jk_XV l D jk_cl (jk_ty cI cR) Z mn_KR_requireCord (.code mn_KR_requireCord mb_KR_requireCord 2 none :: jk_WA) (jk_rx 6 1 6 100) [.ref a_t, jk_V x1] (wd_KR_requireCord cI a_t a_t_input a_t_output a_t_topics a_t_cords a_t_draftTopics a_t_draft a_t_saved a_t_history a_t_script a_t_cords_starts a_t_cords_depth a_t_cords_topic a_t_cords_value a_t_cords_nibbled i_t_hasSaved i_t_reportedCode i_t_reportedOffset i_t_cords_clusters i_t_cords_size) (Sum.map id (fun (z : Unit) => wd_KR_requireCord cI a_t a_t_input a_t_output a_t_topics a_t_cords a_t_draftTopics a_t_draft a_t_saved a_t_history a_t_script a_t_cords_starts a_t_cords_depth a_t_cords_topic a_t_cords_value a_t_cords_nibbled i_t_hasSaved i_t_reportedCode i_t_reportedOffset i_t_cords_clusters i_t_cords_size) q) 1 6 := by
  intro sz
  refine jk_xbody (by decide +kernel) (fun p e s m args below meth c hsz hz hnh C => ?_) (Nat.le_of_ble_eq_true rfl)
  subst hsz
  unfold fn_KR_requireCord at hf
  refine jk_aload_n C rd_KR_requireCord_0 (k := 0) rfl ?_
  refine jk_get C in_KR (ci := 10) rfl 3 (by decide) tm_434 0 rfl rfl rd_KR_requireCord_1 ?_
  refine jk_iload_n C rd_KR_requireCord_4 (k := 1) rfl ?_
  obtain ⟨q5, hq5, hf⟩ := jk_bind_h hf
  refine jk_callVi C hZ.1 hz (ct_Cords_has l D Z sq hZ cI cR a_t_cords a_t_cords_starts a_t_cords_depth a_t_cords_topic a_t_cords_value a_t_cords_nibbled i_t_cords_clusters i_t_cords_size x1 q5 hq5) tm_951 tm_952 tm_953 tm_6 tm_954 na_Cords_has ⟨Nat.le_of_ble_eq_true rfl, Nat.le_of_ble_eq_true rfl⟩ rfl [1] rfl rfl rfl (ws' := wd_KR_requireCord cI a_t a_t_input a_t_output a_t_topics a_t_cords a_t_draftTopics a_t_draft a_t_saved a_t_history a_t_script a_t_cords_starts a_t_cords_depth a_t_cords_topic a_t_cords_value a_t_cords_nibbled i_t_hasSaved i_t_reportedCode i_t_reportedOffset i_t_cords_clusters i_t_cords_size) rfl 1 5 rfl rfl rfl (st := []) rfl (Nat.le_of_ble_eq_true rfl) rd_KR_requireCord_5 ?_ ⟨Nat.le_of_ble_eq_true rfl, Nat.le_of_ble_eq_true rfl⟩
  refine jk_if_ne (tgt := 22) C rd_KR_requireCord_8 (by decide) hf (fun _ hf => ?_) (fun _ hf => ?_)
  · cases hf
    exact jk_xvret C rfl rfl (Nat.le_of_ble_eq_true rfl) (Nat.le_of_ble_eq_true rfl) rd_KR_requireCord_22
  · cases hf
    exact jk_throwW (k := 1) (kk := 7) C hZ hz hl hnh rfl rfl rfl tm_955 tm_35 rfl tw_306_1 ⟨by decide +kernel, by decide +kernel, by decide +kernel⟩ rd_KR_requireCord_11 rd_KR_requireCord_14 rd_KR_requireCord_15 rd_KR_requireCord_18 rd_KR_requireCord_21 (Nat.le_of_ble_eq_true rfl) (Nat.le_of_ble_eq_true rfl) (Nat.le_of_ble_eq_true rfl) (Nat.le_of_ble_eq_true rfl) (Nat.le_of_ble_eq_true rfl) (Nat.le_of_ble_eq_true rfl)
def wd_KR_clusterOf (cI : ClassId) (a_t a_t_input a_t_output a_t_topics a_t_cords a_t_draftTopics a_t_draft a_t_saved a_t_history a_t_script a_t_cords_starts a_t_cords_depth a_t_cords_topic a_t_cords_value a_t_cords_nibbled a_t_cords_starts_k : Nat) (i_t_hasSaved : Int) (i_t_reportedCode : Int) (i_t_reportedOffset : Int) (i_t_cords_clusters : Int) (i_t_cords_size : Int) (i_t_cords_starts : (Int → Int)) : va_W := [(a_t, .inr (10, [.ref a_t_input, .ref a_t_output, .ref a_t_topics, .ref a_t_cords, .ref a_t_draftTopics, .ref a_t_draft, .ref a_t_saved, .ref a_t_history, .ref a_t_script, jk_V i_t_hasSaved, jk_V i_t_reportedCode, jk_V i_t_reportedOffset])), (a_t_cords, .inr (5, [jk_V i_t_cords_clusters, jk_V i_t_cords_size, .ref a_t_cords_starts, .ref a_t_cords_depth, .ref a_t_cords_topic, .ref a_t_cords_value, .ref a_t_cords_nibbled])), (a_t_cords_starts, .inr (0, [.ref a_t_cords_starts_k])), (a_t_cords_starts_k, jk_W cI 7 i_t_cords_starts)]
set_option maxHeartbeats 4000000 in
set_option maxRecDepth 20000 in
theorem ct_KR_clusterOf (l : Launch) (D : va_G) (Z : (Nat → Prop) → State → Heap → Prop) (sq : Nat → Nat) (hZ : jk_ZK Z sq) (hl : l.stackTraces = false) (cI cR : ClassId) (a_t a_t_input a_t_output a_t_topics a_t_cords a_t_draftTopics a_t_draft a_t_saved a_t_history a_t_script a_t_cords_starts a_t_cords_depth a_t_cords_topic a_t_cords_value a_t_cords_nibbled a_t_cords_starts_k : Nat) (i_t_hasSaved : Int) (i_t_reportedCode : Int) (i_t_reportedOffset : Int) (i_t_cords_clusters : Int) (i_t_cords_size : Int) (i_t_cords_starts : (Int → Int)) (x1 : Int) (q : Nat ⊕ (Int)) (hf : fn_KR_clusterOf i_t_cords_clusters i_t_cords_size i_t_cords_starts x1 = some q) : jk_XI l D jk_cl (jk_ty cI cR) Z mn_KR_clusterOf (.code mn_KR_clusterOf mb_KR_clusterOf 2 (some .int) :: jk_WA) (jk_rx 7 1 6 121) [.ref a_t, jk_V x1] (wd_KR_clusterOf cI a_t a_t_input a_t_output a_t_topics a_t_cords a_t_draftTopics a_t_draft a_t_saved a_t_history a_t_script a_t_cords_starts a_t_cords_depth a_t_cords_topic a_t_cords_value a_t_cords_nibbled a_t_cords_starts_k i_t_hasSaved i_t_reportedCode i_t_reportedOffset i_t_cords_clusters i_t_cords_size i_t_cords_starts) (Sum.map id (fun (z : Int) => ((z : Int), wd_KR_clusterOf cI a_t a_t_input a_t_output a_t_topics a_t_cords a_t_draftTopics a_t_draft a_t_saved a_t_history a_t_script a_t_cords_starts a_t_cords_depth a_t_cords_topic a_t_cords_value a_t_cords_nibbled a_t_cords_starts_k i_t_hasSaved i_t_reportedCode i_t_reportedOffset i_t_cords_clusters i_t_cords_size i_t_cords_starts)) q) 1 6 := by
  intro sz
  refine jk_xbody (by decide +kernel) (fun p e s m args below meth c hsz hz hnh C => ?_) (Nat.le_of_ble_eq_true rfl)
  subst hsz
  unfold fn_KR_clusterOf at hf
  refine jk_aload_n C rd_KR_clusterOf_0 (k := 0) rfl ?_
  refine jk_iload_n C rd_KR_clusterOf_1 (k := 1) rfl ?_
  obtain ⟨q2, hq2, hf⟩ := jk_bind_h hf
  rcases q2 with k2 | q2
  · replace hf : (some (Sum.inl k2) : Option (Nat ⊕ (Int))) = some q := hf
    cases hf
    exact jk_callXv_t C hZ.1 hz hnh rfl rfl rfl rfl (ct_KR_requireCord l D Z sq hZ hl cI cR a_t a_t_input a_t_output a_t_topics a_t_cords a_t_draftTopics a_t_draft a_t_saved a_t_history a_t_script a_t_cords_starts a_t_cords_depth a_t_cords_topic a_t_cords_value a_t_cords_nibbled i_t_hasSaved i_t_reportedCode i_t_reportedOffset i_t_cords_clusters i_t_cords_size x1 _ hq2) tm_947 tm_949 sl_10 tm_1 tm_950 na_KR_requireCord ⟨Nat.le_of_ble_eq_true rfl, Nat.le_of_ble_eq_true rfl⟩ rfl [0, 1] rfl rfl rfl 0 10 rfl rfl rfl (st := []) rfl (Nat.le_of_ble_eq_true rfl) rd_KR_clusterOf_2 ⟨Nat.le_of_ble_eq_true rfl, Nat.le_of_ble_eq_true rfl⟩ (Nat.le_of_ble_eq_true rfl) (Nat.le_of_ble_eq_true rfl)
  · refine jk_callXv_r C hZ.1 hz rfl (ct_KR_requireCord l D Z sq hZ hl cI cR a_t a_t_input a_t_output a_t_topics a_t_cords a_t_draftTopics a_t_draft a_t_saved a_t_history a_t_script a_t_cords_starts a_t_cords_depth a_t_cords_topic a_t_cords_value a_t_cords_nibbled i_t_hasSaved i_t_reportedCode i_t_reportedOffset i_t_cords_clusters i_t_cords_size x1 _ hq2) tm_947 tm_949 sl_10 tm_1 tm_950 na_KR_requireCord ⟨Nat.le_of_ble_eq_true rfl, Nat.le_of_ble_eq_true rfl⟩ rfl [0, 1] rfl rfl rfl (ws' := wd_KR_clusterOf cI a_t a_t_input a_t_output a_t_topics a_t_cords a_t_draftTopics a_t_draft a_t_saved a_t_history a_t_script a_t_cords_starts a_t_cords_depth a_t_cords_topic a_t_cords_value a_t_cords_nibbled a_t_cords_starts_k i_t_hasSaved i_t_reportedCode i_t_reportedOffset i_t_cords_clusters i_t_cords_size i_t_cords_starts) rfl 0 10 rfl rfl rfl (st := []) rfl (Nat.le_of_ble_eq_true rfl) rd_KR_clusterOf_2 ⟨Nat.le_of_ble_eq_true rfl, Nat.le_of_ble_eq_true rfl⟩ ?_
    refine jk_aload_n C rd_KR_clusterOf_5 (k := 0) rfl ?_
    refine jk_get C in_KR (ci := 10) rfl 3 (by decide) tm_434 0 rfl rfl rd_KR_clusterOf_6 ?_
    refine jk_iload_n C rd_KR_clusterOf_9 (k := 1) rfl ?_
    obtain ⟨q10, hq10, hf⟩ := jk_bind_h hf
    refine jk_callVi C hZ.1 hz (ct_Cords_clusterAt l D Z sq hZ cI cR a_t_cords a_t_cords_starts a_t_cords_depth a_t_cords_topic a_t_cords_value a_t_cords_nibbled a_t_cords_starts_k i_t_cords_clusters i_t_cords_size i_t_cords_starts x1 q10 hq10) tm_1023 tm_510 tm_511 tm_6 tm_512 na_Cords_clusterAt ⟨Nat.le_of_ble_eq_true rfl, Nat.le_of_ble_eq_true rfl⟩ rfl [1, 2, 3] rfl rfl rfl (ws' := wd_KR_clusterOf cI a_t a_t_input a_t_output a_t_topics a_t_cords a_t_draftTopics a_t_draft a_t_saved a_t_history a_t_script a_t_cords_starts a_t_cords_depth a_t_cords_topic a_t_cords_value a_t_cords_nibbled a_t_cords_starts_k i_t_hasSaved i_t_reportedCode i_t_reportedOffset i_t_cords_clusters i_t_cords_size i_t_cords_starts) rfl 1 5 rfl rfl rfl (st := []) rfl (Nat.le_of_ble_eq_true rfl) rd_KR_clusterOf_10 ?_ ⟨Nat.le_of_ble_eq_true rfl, Nat.le_of_ble_eq_true rfl⟩
    cases hf
    exact jk_xiret C rfl rfl (Nat.le_of_ble_eq_true rfl) (Nat.le_of_ble_eq_true rfl) rd_KR_clusterOf_13
def wd_KR_depthOf (cI : ClassId) (a_t a_t_input a_t_output a_t_topics a_t_cords a_t_draftTopics a_t_draft a_t_saved a_t_history a_t_script a_t_cords_starts a_t_cords_depth a_t_cords_topic a_t_cords_value a_t_cords_nibbled a_t_cords_depth_k : Nat) (i_t_hasSaved : Int) (i_t_reportedCode : Int) (i_t_reportedOffset : Int) (i_t_cords_clusters : Int) (i_t_cords_size : Int) (i_t_cords_depth : (Int → Int)) : va_W := [(a_t, .inr (10, [.ref a_t_input, .ref a_t_output, .ref a_t_topics, .ref a_t_cords, .ref a_t_draftTopics, .ref a_t_draft, .ref a_t_saved, .ref a_t_history, .ref a_t_script, jk_V i_t_hasSaved, jk_V i_t_reportedCode, jk_V i_t_reportedOffset])), (a_t_cords, .inr (5, [jk_V i_t_cords_clusters, jk_V i_t_cords_size, .ref a_t_cords_starts, .ref a_t_cords_depth, .ref a_t_cords_topic, .ref a_t_cords_value, .ref a_t_cords_nibbled])), (a_t_cords_depth, .inr (0, [.ref a_t_cords_depth_k])), (a_t_cords_depth_k, jk_W cI 40 i_t_cords_depth)]
set_option maxHeartbeats 4000000 in
set_option maxRecDepth 20000 in
theorem ct_KR_depthOf (l : Launch) (D : va_G) (Z : (Nat → Prop) → State → Heap → Prop) (sq : Nat → Nat) (hZ : jk_ZK Z sq) (hl : l.stackTraces = false) (cI cR : ClassId) (a_t a_t_input a_t_output a_t_topics a_t_cords a_t_draftTopics a_t_draft a_t_saved a_t_history a_t_script a_t_cords_starts a_t_cords_depth a_t_cords_topic a_t_cords_value a_t_cords_nibbled a_t_cords_depth_k : Nat) (i_t_hasSaved : Int) (i_t_reportedCode : Int) (i_t_reportedOffset : Int) (i_t_cords_clusters : Int) (i_t_cords_size : Int) (i_t_cords_depth : (Int → Int)) (x1 : Int) (q : Nat ⊕ (Int)) (hf : fn_KR_depthOf i_t_cords_size i_t_cords_depth x1 = some q) : jk_XI l D jk_cl (jk_ty cI cR) Z mn_KR_depthOf (.code mn_KR_depthOf mb_KR_depthOf 2 (some .int) :: jk_WA) (jk_rx 7 1 6 121) [.ref a_t, jk_V x1] (wd_KR_depthOf cI a_t a_t_input a_t_output a_t_topics a_t_cords a_t_draftTopics a_t_draft a_t_saved a_t_history a_t_script a_t_cords_starts a_t_cords_depth a_t_cords_topic a_t_cords_value a_t_cords_nibbled a_t_cords_depth_k i_t_hasSaved i_t_reportedCode i_t_reportedOffset i_t_cords_clusters i_t_cords_size i_t_cords_depth) (Sum.map id (fun (z : Int) => ((z : Int), wd_KR_depthOf cI a_t a_t_input a_t_output a_t_topics a_t_cords a_t_draftTopics a_t_draft a_t_saved a_t_history a_t_script a_t_cords_starts a_t_cords_depth a_t_cords_topic a_t_cords_value a_t_cords_nibbled a_t_cords_depth_k i_t_hasSaved i_t_reportedCode i_t_reportedOffset i_t_cords_clusters i_t_cords_size i_t_cords_depth)) q) 1 6 := by
  intro sz
  refine jk_xbody (by decide +kernel) (fun p e s m args below meth c hsz hz hnh C => ?_) (Nat.le_of_ble_eq_true rfl)
  subst hsz
  unfold fn_KR_depthOf at hf
  refine jk_aload_n C rd_KR_depthOf_0 (k := 0) rfl ?_
  refine jk_iload_n C rd_KR_depthOf_1 (k := 1) rfl ?_
  obtain ⟨q2, hq2, hf⟩ := jk_bind_h hf
  rcases q2 with k2 | q2
  · replace hf : (some (Sum.inl k2) : Option (Nat ⊕ (Int))) = some q := hf
    cases hf
    exact jk_callXv_t C hZ.1 hz hnh rfl rfl rfl rfl (ct_KR_requireCord l D Z sq hZ hl cI cR a_t a_t_input a_t_output a_t_topics a_t_cords a_t_draftTopics a_t_draft a_t_saved a_t_history a_t_script a_t_cords_starts a_t_cords_depth a_t_cords_topic a_t_cords_value a_t_cords_nibbled i_t_hasSaved i_t_reportedCode i_t_reportedOffset i_t_cords_clusters i_t_cords_size x1 _ hq2) tm_947 tm_949 sl_10 tm_1 tm_950 na_KR_requireCord ⟨Nat.le_of_ble_eq_true rfl, Nat.le_of_ble_eq_true rfl⟩ rfl [0, 1] rfl rfl rfl 0 10 rfl rfl rfl (st := []) rfl (Nat.le_of_ble_eq_true rfl) rd_KR_depthOf_2 ⟨Nat.le_of_ble_eq_true rfl, Nat.le_of_ble_eq_true rfl⟩ (Nat.le_of_ble_eq_true rfl) (Nat.le_of_ble_eq_true rfl)
  · refine jk_callXv_r C hZ.1 hz rfl (ct_KR_requireCord l D Z sq hZ hl cI cR a_t a_t_input a_t_output a_t_topics a_t_cords a_t_draftTopics a_t_draft a_t_saved a_t_history a_t_script a_t_cords_starts a_t_cords_depth a_t_cords_topic a_t_cords_value a_t_cords_nibbled i_t_hasSaved i_t_reportedCode i_t_reportedOffset i_t_cords_clusters i_t_cords_size x1 _ hq2) tm_947 tm_949 sl_10 tm_1 tm_950 na_KR_requireCord ⟨Nat.le_of_ble_eq_true rfl, Nat.le_of_ble_eq_true rfl⟩ rfl [0, 1] rfl rfl rfl (ws' := wd_KR_depthOf cI a_t a_t_input a_t_output a_t_topics a_t_cords a_t_draftTopics a_t_draft a_t_saved a_t_history a_t_script a_t_cords_starts a_t_cords_depth a_t_cords_topic a_t_cords_value a_t_cords_nibbled a_t_cords_depth_k i_t_hasSaved i_t_reportedCode i_t_reportedOffset i_t_cords_clusters i_t_cords_size i_t_cords_depth) rfl 0 10 rfl rfl rfl (st := []) rfl (Nat.le_of_ble_eq_true rfl) rd_KR_depthOf_2 ⟨Nat.le_of_ble_eq_true rfl, Nat.le_of_ble_eq_true rfl⟩ ?_
    refine jk_aload_n C rd_KR_depthOf_5 (k := 0) rfl ?_
    refine jk_get C in_KR (ci := 10) rfl 3 (by decide) tm_434 0 rfl rfl rd_KR_depthOf_6 ?_
    refine jk_getN C in_Cords (ci := 5) rfl 3 (by decide) (jk_nw hZ hz tn_15) 1 rfl rfl rd_KR_depthOf_9 ?_
    refine jk_iload_n C rd_KR_depthOf_12 (k := 1) rfl ?_
    obtain ⟨q13, hq13, hf⟩ := jk_bind_h hf
    refine jk_callVi C hZ.1 hz (ct_Row_get l D Z sq hZ cI cR (n_t := 40) (Nat.le_of_ble_eq_true rfl) a_t_cords_depth a_t_cords_depth_k i_t_cords_depth x1 q13 hq13) tm_1033 tm_299 tm_300 tm_3 tm_301 na_Row_get ⟨Nat.le_of_ble_eq_true rfl, Nat.le_of_ble_eq_true rfl⟩ rfl [2, 3] rfl rfl rfl (ws' := wd_KR_depthOf cI a_t a_t_input a_t_output a_t_topics a_t_cords a_t_draftTopics a_t_draft a_t_saved a_t_history a_t_script a_t_cords_starts a_t_cords_depth a_t_cords_topic a_t_cords_value a_t_cords_nibbled a_t_cords_depth_k i_t_hasSaved i_t_reportedCode i_t_reportedOffset i_t_cords_clusters i_t_cords_size i_t_cords_depth) rfl 2 0 rfl rfl rfl (st := []) rfl (Nat.le_of_ble_eq_true rfl) rd_KR_depthOf_13 ?_ ⟨Nat.le_of_ble_eq_true rfl, Nat.le_of_ble_eq_true rfl⟩
    cases hf
    exact jk_xiret C rfl rfl (Nat.le_of_ble_eq_true rfl) (Nat.le_of_ble_eq_true rfl) rd_KR_depthOf_16
def wd_KR_topicOf (cI : ClassId) (a_t a_t_input a_t_output a_t_topics a_t_cords a_t_draftTopics a_t_draft a_t_saved a_t_history a_t_script a_t_cords_starts a_t_cords_depth a_t_cords_topic a_t_cords_value a_t_cords_nibbled a_t_cords_topic_k : Nat) (i_t_hasSaved : Int) (i_t_reportedCode : Int) (i_t_reportedOffset : Int) (i_t_cords_clusters : Int) (i_t_cords_size : Int) (i_t_cords_topic : (Int → Int)) : va_W := [(a_t, .inr (10, [.ref a_t_input, .ref a_t_output, .ref a_t_topics, .ref a_t_cords, .ref a_t_draftTopics, .ref a_t_draft, .ref a_t_saved, .ref a_t_history, .ref a_t_script, jk_V i_t_hasSaved, jk_V i_t_reportedCode, jk_V i_t_reportedOffset])), (a_t_cords, .inr (5, [jk_V i_t_cords_clusters, jk_V i_t_cords_size, .ref a_t_cords_starts, .ref a_t_cords_depth, .ref a_t_cords_topic, .ref a_t_cords_value, .ref a_t_cords_nibbled])), (a_t_cords_topic, .inr (0, [.ref a_t_cords_topic_k])), (a_t_cords_topic_k, jk_W cI 40 i_t_cords_topic)]
set_option maxHeartbeats 4000000 in
set_option maxRecDepth 20000 in
theorem ct_KR_topicOf (l : Launch) (D : va_G) (Z : (Nat → Prop) → State → Heap → Prop) (sq : Nat → Nat) (hZ : jk_ZK Z sq) (hl : l.stackTraces = false) (cI cR : ClassId) (a_t a_t_input a_t_output a_t_topics a_t_cords a_t_draftTopics a_t_draft a_t_saved a_t_history a_t_script a_t_cords_starts a_t_cords_depth a_t_cords_topic a_t_cords_value a_t_cords_nibbled a_t_cords_topic_k : Nat) (i_t_hasSaved : Int) (i_t_reportedCode : Int) (i_t_reportedOffset : Int) (i_t_cords_clusters : Int) (i_t_cords_size : Int) (i_t_cords_topic : (Int → Int)) (x1 : Int) (q : Nat ⊕ (Int)) (hf : fn_KR_topicOf i_t_cords_size i_t_cords_topic x1 = some q) : jk_XI l D jk_cl (jk_ty cI cR) Z mn_KR_topicOf (.code mn_KR_topicOf mb_KR_topicOf 2 (some .int) :: jk_WA) (jk_rx 7 1 6 121) [.ref a_t, jk_V x1] (wd_KR_topicOf cI a_t a_t_input a_t_output a_t_topics a_t_cords a_t_draftTopics a_t_draft a_t_saved a_t_history a_t_script a_t_cords_starts a_t_cords_depth a_t_cords_topic a_t_cords_value a_t_cords_nibbled a_t_cords_topic_k i_t_hasSaved i_t_reportedCode i_t_reportedOffset i_t_cords_clusters i_t_cords_size i_t_cords_topic) (Sum.map id (fun (z : Int) => ((z : Int), wd_KR_topicOf cI a_t a_t_input a_t_output a_t_topics a_t_cords a_t_draftTopics a_t_draft a_t_saved a_t_history a_t_script a_t_cords_starts a_t_cords_depth a_t_cords_topic a_t_cords_value a_t_cords_nibbled a_t_cords_topic_k i_t_hasSaved i_t_reportedCode i_t_reportedOffset i_t_cords_clusters i_t_cords_size i_t_cords_topic)) q) 1 6 := by
  intro sz
  refine jk_xbody (by decide +kernel) (fun p e s m args below meth c hsz hz hnh C => ?_) (Nat.le_of_ble_eq_true rfl)
  subst hsz
  unfold fn_KR_topicOf at hf
  refine jk_aload_n C rd_KR_topicOf_0 (k := 0) rfl ?_
  refine jk_iload_n C rd_KR_topicOf_1 (k := 1) rfl ?_
  obtain ⟨q2, hq2, hf⟩ := jk_bind_h hf
  rcases q2 with k2 | q2
  · replace hf : (some (Sum.inl k2) : Option (Nat ⊕ (Int))) = some q := hf
    cases hf
    exact jk_callXv_t C hZ.1 hz hnh rfl rfl rfl rfl (ct_KR_requireCord l D Z sq hZ hl cI cR a_t a_t_input a_t_output a_t_topics a_t_cords a_t_draftTopics a_t_draft a_t_saved a_t_history a_t_script a_t_cords_starts a_t_cords_depth a_t_cords_topic a_t_cords_value a_t_cords_nibbled i_t_hasSaved i_t_reportedCode i_t_reportedOffset i_t_cords_clusters i_t_cords_size x1 _ hq2) tm_947 tm_949 sl_10 tm_1 tm_950 na_KR_requireCord ⟨Nat.le_of_ble_eq_true rfl, Nat.le_of_ble_eq_true rfl⟩ rfl [0, 1] rfl rfl rfl 0 10 rfl rfl rfl (st := []) rfl (Nat.le_of_ble_eq_true rfl) rd_KR_topicOf_2 ⟨Nat.le_of_ble_eq_true rfl, Nat.le_of_ble_eq_true rfl⟩ (Nat.le_of_ble_eq_true rfl) (Nat.le_of_ble_eq_true rfl)
  · refine jk_callXv_r C hZ.1 hz rfl (ct_KR_requireCord l D Z sq hZ hl cI cR a_t a_t_input a_t_output a_t_topics a_t_cords a_t_draftTopics a_t_draft a_t_saved a_t_history a_t_script a_t_cords_starts a_t_cords_depth a_t_cords_topic a_t_cords_value a_t_cords_nibbled i_t_hasSaved i_t_reportedCode i_t_reportedOffset i_t_cords_clusters i_t_cords_size x1 _ hq2) tm_947 tm_949 sl_10 tm_1 tm_950 na_KR_requireCord ⟨Nat.le_of_ble_eq_true rfl, Nat.le_of_ble_eq_true rfl⟩ rfl [0, 1] rfl rfl rfl (ws' := wd_KR_topicOf cI a_t a_t_input a_t_output a_t_topics a_t_cords a_t_draftTopics a_t_draft a_t_saved a_t_history a_t_script a_t_cords_starts a_t_cords_depth a_t_cords_topic a_t_cords_value a_t_cords_nibbled a_t_cords_topic_k i_t_hasSaved i_t_reportedCode i_t_reportedOffset i_t_cords_clusters i_t_cords_size i_t_cords_topic) rfl 0 10 rfl rfl rfl (st := []) rfl (Nat.le_of_ble_eq_true rfl) rd_KR_topicOf_2 ⟨Nat.le_of_ble_eq_true rfl, Nat.le_of_ble_eq_true rfl⟩ ?_
    refine jk_aload_n C rd_KR_topicOf_5 (k := 0) rfl ?_
    refine jk_get C in_KR (ci := 10) rfl 3 (by decide) tm_434 0 rfl rfl rd_KR_topicOf_6 ?_
    refine jk_getN C in_Cords (ci := 5) rfl 4 (by decide) (jk_nw hZ hz tn_16) 1 rfl rfl rd_KR_topicOf_9 ?_
    refine jk_iload_n C rd_KR_topicOf_12 (k := 1) rfl ?_
    obtain ⟨q13, hq13, hf⟩ := jk_bind_h hf
    refine jk_callVi C hZ.1 hz (ct_Row_get l D Z sq hZ cI cR (n_t := 40) (Nat.le_of_ble_eq_true rfl) a_t_cords_topic a_t_cords_topic_k i_t_cords_topic x1 q13 hq13) tm_1033 tm_299 tm_300 tm_3 tm_301 na_Row_get ⟨Nat.le_of_ble_eq_true rfl, Nat.le_of_ble_eq_true rfl⟩ rfl [2, 3] rfl rfl rfl (ws' := wd_KR_topicOf cI a_t a_t_input a_t_output a_t_topics a_t_cords a_t_draftTopics a_t_draft a_t_saved a_t_history a_t_script a_t_cords_starts a_t_cords_depth a_t_cords_topic a_t_cords_value a_t_cords_nibbled a_t_cords_topic_k i_t_hasSaved i_t_reportedCode i_t_reportedOffset i_t_cords_clusters i_t_cords_size i_t_cords_topic) rfl 2 0 rfl rfl rfl (st := []) rfl (Nat.le_of_ble_eq_true rfl) rd_KR_topicOf_13 ?_ ⟨Nat.le_of_ble_eq_true rfl, Nat.le_of_ble_eq_true rfl⟩
    cases hf
    exact jk_xiret C rfl rfl (Nat.le_of_ble_eq_true rfl) (Nat.le_of_ble_eq_true rfl) rd_KR_topicOf_16
def wd_KR_subsidiariesOf (cI : ClassId) (a_t a_t_input a_t_output a_t_topics a_t_cords a_t_draftTopics a_t_draft a_t_saved a_t_history a_t_script a_t_cords_starts a_t_cords_depth a_t_cords_topic a_t_cords_value a_t_cords_nibbled a_t_cords_depth_k : Nat) (i_t_hasSaved : Int) (i_t_reportedCode : Int) (i_t_reportedOffset : Int) (i_t_cords_clusters : Int) (i_t_cords_size : Int) (i_t_cords_depth : (Int → Int)) : va_W := [(a_t, .inr (10, [.ref a_t_input, .ref a_t_output, .ref a_t_topics, .ref a_t_cords, .ref a_t_draftTopics, .ref a_t_draft, .ref a_t_saved, .ref a_t_history, .ref a_t_script, jk_V i_t_hasSaved, jk_V i_t_reportedCode, jk_V i_t_reportedOffset])), (a_t_cords, .inr (5, [jk_V i_t_cords_clusters, jk_V i_t_cords_size, .ref a_t_cords_starts, .ref a_t_cords_depth, .ref a_t_cords_topic, .ref a_t_cords_value, .ref a_t_cords_nibbled])), (a_t_cords_depth, .inr (0, [.ref a_t_cords_depth_k])), (a_t_cords_depth_k, jk_W cI 40 i_t_cords_depth)]
set_option maxHeartbeats 4000000 in
set_option maxRecDepth 20000 in
theorem ct_KR_subsidiariesOf (l : Launch) (D : va_G) (Z : (Nat → Prop) → State → Heap → Prop) (sq : Nat → Nat) (hZ : jk_ZK Z sq) (hl : l.stackTraces = false) (cI cR : ClassId) (a_t a_t_input a_t_output a_t_topics a_t_cords a_t_draftTopics a_t_draft a_t_saved a_t_history a_t_script a_t_cords_starts a_t_cords_depth a_t_cords_topic a_t_cords_value a_t_cords_nibbled a_t_cords_depth_k : Nat) (i_t_hasSaved : Int) (i_t_reportedCode : Int) (i_t_reportedOffset : Int) (i_t_cords_clusters : Int) (i_t_cords_size : Int) (i_t_cords_depth : (Int → Int)) (x1 : Int) (q : Nat ⊕ (Int)) (hf : fn_KR_subsidiariesOf i_t_cords_size i_t_cords_depth x1 = some q) : jk_XI l D jk_cl (jk_ty cI cR) Z mn_KR_subsidiariesOf (.code mn_KR_subsidiariesOf mb_KR_subsidiariesOf 2 (some .int) :: jk_WA) (jk_rx 7 1 6 121) [.ref a_t, jk_V x1] (wd_KR_subsidiariesOf cI a_t a_t_input a_t_output a_t_topics a_t_cords a_t_draftTopics a_t_draft a_t_saved a_t_history a_t_script a_t_cords_starts a_t_cords_depth a_t_cords_topic a_t_cords_value a_t_cords_nibbled a_t_cords_depth_k i_t_hasSaved i_t_reportedCode i_t_reportedOffset i_t_cords_clusters i_t_cords_size i_t_cords_depth) (Sum.map id (fun (z : Int) => ((z : Int), wd_KR_subsidiariesOf cI a_t a_t_input a_t_output a_t_topics a_t_cords a_t_draftTopics a_t_draft a_t_saved a_t_history a_t_script a_t_cords_starts a_t_cords_depth a_t_cords_topic a_t_cords_value a_t_cords_nibbled a_t_cords_depth_k i_t_hasSaved i_t_reportedCode i_t_reportedOffset i_t_cords_clusters i_t_cords_size i_t_cords_depth)) q) 1 6 := by
  intro sz
  refine jk_xbody (by decide +kernel) (fun p e s m args below meth c hsz hz hnh C => ?_) (Nat.le_of_ble_eq_true rfl)
  subst hsz
  unfold fn_KR_subsidiariesOf at hf
  refine jk_aload_n C rd_KR_subsidiariesOf_0 (k := 0) rfl ?_
  refine jk_iload_n C rd_KR_subsidiariesOf_1 (k := 1) rfl ?_
  obtain ⟨q2, hq2, hf⟩ := jk_bind_h hf
  rcases q2 with k2 | q2
  · replace hf : (some (Sum.inl k2) : Option (Nat ⊕ (Int))) = some q := hf
    cases hf
    exact jk_callXv_t C hZ.1 hz hnh rfl rfl rfl rfl (ct_KR_requireCord l D Z sq hZ hl cI cR a_t a_t_input a_t_output a_t_topics a_t_cords a_t_draftTopics a_t_draft a_t_saved a_t_history a_t_script a_t_cords_starts a_t_cords_depth a_t_cords_topic a_t_cords_value a_t_cords_nibbled i_t_hasSaved i_t_reportedCode i_t_reportedOffset i_t_cords_clusters i_t_cords_size x1 _ hq2) tm_947 tm_949 sl_10 tm_1 tm_950 na_KR_requireCord ⟨Nat.le_of_ble_eq_true rfl, Nat.le_of_ble_eq_true rfl⟩ rfl [0, 1] rfl rfl rfl 0 10 rfl rfl rfl (st := []) rfl (Nat.le_of_ble_eq_true rfl) rd_KR_subsidiariesOf_2 ⟨Nat.le_of_ble_eq_true rfl, Nat.le_of_ble_eq_true rfl⟩ (Nat.le_of_ble_eq_true rfl) (Nat.le_of_ble_eq_true rfl)
  · refine jk_callXv_r C hZ.1 hz rfl (ct_KR_requireCord l D Z sq hZ hl cI cR a_t a_t_input a_t_output a_t_topics a_t_cords a_t_draftTopics a_t_draft a_t_saved a_t_history a_t_script a_t_cords_starts a_t_cords_depth a_t_cords_topic a_t_cords_value a_t_cords_nibbled i_t_hasSaved i_t_reportedCode i_t_reportedOffset i_t_cords_clusters i_t_cords_size x1 _ hq2) tm_947 tm_949 sl_10 tm_1 tm_950 na_KR_requireCord ⟨Nat.le_of_ble_eq_true rfl, Nat.le_of_ble_eq_true rfl⟩ rfl [0, 1] rfl rfl rfl (ws' := wd_KR_subsidiariesOf cI a_t a_t_input a_t_output a_t_topics a_t_cords a_t_draftTopics a_t_draft a_t_saved a_t_history a_t_script a_t_cords_starts a_t_cords_depth a_t_cords_topic a_t_cords_value a_t_cords_nibbled a_t_cords_depth_k i_t_hasSaved i_t_reportedCode i_t_reportedOffset i_t_cords_clusters i_t_cords_size i_t_cords_depth) rfl 0 10 rfl rfl rfl (st := []) rfl (Nat.le_of_ble_eq_true rfl) rd_KR_subsidiariesOf_2 ⟨Nat.le_of_ble_eq_true rfl, Nat.le_of_ble_eq_true rfl⟩ ?_
    refine jk_aload_n C rd_KR_subsidiariesOf_5 (k := 0) rfl ?_
    refine jk_get C in_KR (ci := 10) rfl 3 (by decide) tm_434 0 rfl rfl rd_KR_subsidiariesOf_6 ?_
    refine jk_iload_n C rd_KR_subsidiariesOf_9 (k := 1) rfl ?_
    refine jk_iconst C rd_KR_subsidiariesOf_10 ?_
    refine jk_iadd C rd_KR_subsidiariesOf_11 ?_
    refine jk_aload_n C rd_KR_subsidiariesOf_12 (k := 0) rfl ?_
    refine jk_get C in_KR (ci := 10) rfl 3 (by decide) tm_434 0 rfl rfl rd_KR_subsidiariesOf_13 ?_
    refine jk_iload_n C rd_KR_subsidiariesOf_16 (k := 1) rfl ?_
    obtain ⟨q17, hq17, hf⟩ := jk_bind_h hf
    refine jk_callVi C hZ.1 hz (ct_Cords_branchEnd l D Z sq hZ cI cR a_t_cords a_t_cords_starts a_t_cords_depth a_t_cords_topic a_t_cords_value a_t_cords_nibbled a_t_cords_depth_k i_t_cords_clusters i_t_cords_size i_t_cords_depth x1 q17 hq17) tm_1051 tm_380 tm_381 tm_6 tm_382 na_Cords_branchEnd ⟨Nat.le_of_ble_eq_true rfl, Nat.le_of_ble_eq_true rfl⟩ rfl [1, 2, 3] rfl rfl rfl (ws' := wd_KR_subsidiariesOf cI a_t a_t_input a_t_output a_t_topics a_t_cords a_t_draftTopics a_t_draft a_t_saved a_t_history a_t_script a_t_cords_starts a_t_cords_depth a_t_cords_topic a_t_cords_value a_t_cords_nibbled a_t_cords_depth_k i_t_hasSaved i_t_reportedCode i_t_reportedOffset i_t_cords_clusters i_t_cords_size i_t_cords_depth) rfl 1 5 rfl rfl rfl (st := [jk_V (x1 + 1), .ref a_t_cords]) rfl (Nat.le_of_ble_eq_true rfl) rd_KR_subsidiariesOf_17 ?_ ⟨Nat.le_of_ble_eq_true rfl, Nat.le_of_ble_eq_true rfl⟩
    refine jk_aload_n C rd_KR_subsidiariesOf_20 (k := 0) rfl ?_
    refine jk_get C in_KR (ci := 10) rfl 3 (by decide) tm_434 0 rfl rfl rd_KR_subsidiariesOf_21 ?_
    refine jk_getN C in_Cords (ci := 5) rfl 3 (by decide) (jk_nw hZ hz tn_15) 1 rfl rfl rd_KR_subsidiariesOf_24 ?_
    refine jk_iload_n C rd_KR_subsidiariesOf_27 (k := 1) rfl ?_
    obtain ⟨q28, hq28, hf⟩ := jk_bind_h hf
    refine jk_callVi C hZ.1 hz (ct_Row_get l D Z sq hZ cI cR (n_t := 40) (Nat.le_of_ble_eq_true rfl) a_t_cords_depth a_t_cords_depth_k i_t_cords_depth x1 q28 hq28) tm_1033 tm_299 tm_300 tm_3 tm_301 na_Row_get ⟨Nat.le_of_ble_eq_true rfl, Nat.le_of_ble_eq_true rfl⟩ rfl [2, 3] rfl rfl rfl (ws' := wd_KR_subsidiariesOf cI a_t a_t_input a_t_output a_t_topics a_t_cords a_t_draftTopics a_t_draft a_t_saved a_t_history a_t_script a_t_cords_starts a_t_cords_depth a_t_cords_topic a_t_cords_value a_t_cords_nibbled a_t_cords_depth_k i_t_hasSaved i_t_reportedCode i_t_reportedOffset i_t_cords_clusters i_t_cords_size i_t_cords_depth) rfl 2 0 rfl rfl rfl (st := [jk_V q17, jk_V (x1 + 1), .ref a_t_cords]) rfl (Nat.le_of_ble_eq_true rfl) rd_KR_subsidiariesOf_28 ?_ ⟨Nat.le_of_ble_eq_true rfl, Nat.le_of_ble_eq_true rfl⟩
    refine jk_iconst C rd_KR_subsidiariesOf_31 ?_
    refine jk_iadd C rd_KR_subsidiariesOf_32 ?_
    obtain ⟨q33, hq33, hf⟩ := jk_bind_h hf
    refine jk_callVi C hZ.1 hz (ct_Cords_countAtDepth l D Z sq hZ cI cR a_t_cords a_t_cords_starts a_t_cords_depth a_t_cords_topic a_t_cords_value a_t_cords_nibbled a_t_cords_depth_k i_t_cords_clusters i_t_cords_size i_t_cords_depth (x1 + 1) q17 (q28 + 1) q33 hq33) tm_1052 tm_1053 tm_1054 tm_6 tm_1055 na_Cords_countAtDepth ⟨Nat.le_of_ble_eq_true rfl, Nat.le_of_ble_eq_true rfl⟩ rfl [1, 2, 3] rfl rfl rfl (ws' := wd_KR_subsidiariesOf cI a_t a_t_input a_t_output a_t_topics a_t_cords a_t_draftTopics a_t_draft a_t_saved a_t_history a_t_script a_t_cords_starts a_t_cords_depth a_t_cords_topic a_t_cords_value a_t_cords_nibbled a_t_cords_depth_k i_t_hasSaved i_t_reportedCode i_t_reportedOffset i_t_cords_clusters i_t_cords_size i_t_cords_depth) rfl 1 5 rfl rfl rfl (st := []) rfl (Nat.le_of_ble_eq_true rfl) rd_KR_subsidiariesOf_33 ?_ ⟨Nat.le_of_ble_eq_true rfl, Nat.le_of_ble_eq_true rfl⟩
    cases hf
    exact jk_xiret C rfl rfl (Nat.le_of_ble_eq_true rfl) (Nat.le_of_ble_eq_true rfl) rd_KR_subsidiariesOf_36
def wd_KR_nibbledPlaces (cI : ClassId) (a_t a_t_input a_t_output a_t_topics a_t_cords a_t_draftTopics a_t_draft a_t_saved a_t_history a_t_script a_t_cords_starts a_t_cords_depth a_t_cords_topic a_t_cords_value a_t_cords_nibbled a_t_cords_nibbled_k : Nat) (i_t_hasSaved : Int) (i_t_reportedCode : Int) (i_t_reportedOffset : Int) (i_t_cords_clusters : Int) (i_t_cords_size : Int) (i_t_cords_nibbled : (Int → Int)) : va_W := [(a_t, .inr (10, [.ref a_t_input, .ref a_t_output, .ref a_t_topics, .ref a_t_cords, .ref a_t_draftTopics, .ref a_t_draft, .ref a_t_saved, .ref a_t_history, .ref a_t_script, jk_V i_t_hasSaved, jk_V i_t_reportedCode, jk_V i_t_reportedOffset])), (a_t_cords, .inr (5, [jk_V i_t_cords_clusters, jk_V i_t_cords_size, .ref a_t_cords_starts, .ref a_t_cords_depth, .ref a_t_cords_topic, .ref a_t_cords_value, .ref a_t_cords_nibbled])), (a_t_cords_nibbled, .inr (0, [.ref a_t_cords_nibbled_k])), (a_t_cords_nibbled_k, jk_W cI 40 i_t_cords_nibbled)]
set_option maxHeartbeats 4000000 in
set_option maxRecDepth 20000 in
theorem ct_KR_nibbledPlaces (l : Launch) (D : va_G) (Z : (Nat → Prop) → State → Heap → Prop) (sq : Nat → Nat) (hZ : jk_ZK Z sq) (hl : l.stackTraces = false) (cI cR : ClassId) (a_t a_t_input a_t_output a_t_topics a_t_cords a_t_draftTopics a_t_draft a_t_saved a_t_history a_t_script a_t_cords_starts a_t_cords_depth a_t_cords_topic a_t_cords_value a_t_cords_nibbled a_t_cords_nibbled_k : Nat) (i_t_hasSaved : Int) (i_t_reportedCode : Int) (i_t_reportedOffset : Int) (i_t_cords_clusters : Int) (i_t_cords_size : Int) (i_t_cords_nibbled : (Int → Int)) (x1 : Int) (q : Nat ⊕ (Int)) (hf : fn_KR_nibbledPlaces i_t_cords_size i_t_cords_nibbled x1 = some q) : jk_XI l D jk_cl (jk_ty cI cR) Z mn_KR_nibbledPlaces (.code mn_KR_nibbledPlaces mb_KR_nibbledPlaces 2 (some .int) :: jk_WA) (jk_rx 7 1 6 121) [.ref a_t, jk_V x1] (wd_KR_nibbledPlaces cI a_t a_t_input a_t_output a_t_topics a_t_cords a_t_draftTopics a_t_draft a_t_saved a_t_history a_t_script a_t_cords_starts a_t_cords_depth a_t_cords_topic a_t_cords_value a_t_cords_nibbled a_t_cords_nibbled_k i_t_hasSaved i_t_reportedCode i_t_reportedOffset i_t_cords_clusters i_t_cords_size i_t_cords_nibbled) (Sum.map id (fun (z : Int) => ((z : Int), wd_KR_nibbledPlaces cI a_t a_t_input a_t_output a_t_topics a_t_cords a_t_draftTopics a_t_draft a_t_saved a_t_history a_t_script a_t_cords_starts a_t_cords_depth a_t_cords_topic a_t_cords_value a_t_cords_nibbled a_t_cords_nibbled_k i_t_hasSaved i_t_reportedCode i_t_reportedOffset i_t_cords_clusters i_t_cords_size i_t_cords_nibbled)) q) 1 6 := by
  intro sz
  refine jk_xbody (by decide +kernel) (fun p e s m args below meth c hsz hz hnh C => ?_) (Nat.le_of_ble_eq_true rfl)
  subst hsz
  unfold fn_KR_nibbledPlaces at hf
  refine jk_aload_n C rd_KR_nibbledPlaces_0 (k := 0) rfl ?_
  refine jk_iload_n C rd_KR_nibbledPlaces_1 (k := 1) rfl ?_
  obtain ⟨q2, hq2, hf⟩ := jk_bind_h hf
  rcases q2 with k2 | q2
  · replace hf : (some (Sum.inl k2) : Option (Nat ⊕ (Int))) = some q := hf
    cases hf
    exact jk_callXv_t C hZ.1 hz hnh rfl rfl rfl rfl (ct_KR_requireCord l D Z sq hZ hl cI cR a_t a_t_input a_t_output a_t_topics a_t_cords a_t_draftTopics a_t_draft a_t_saved a_t_history a_t_script a_t_cords_starts a_t_cords_depth a_t_cords_topic a_t_cords_value a_t_cords_nibbled i_t_hasSaved i_t_reportedCode i_t_reportedOffset i_t_cords_clusters i_t_cords_size x1 _ hq2) tm_947 tm_949 sl_10 tm_1 tm_950 na_KR_requireCord ⟨Nat.le_of_ble_eq_true rfl, Nat.le_of_ble_eq_true rfl⟩ rfl [0, 1] rfl rfl rfl 0 10 rfl rfl rfl (st := []) rfl (Nat.le_of_ble_eq_true rfl) rd_KR_nibbledPlaces_2 ⟨Nat.le_of_ble_eq_true rfl, Nat.le_of_ble_eq_true rfl⟩ (Nat.le_of_ble_eq_true rfl) (Nat.le_of_ble_eq_true rfl)
  · refine jk_callXv_r C hZ.1 hz rfl (ct_KR_requireCord l D Z sq hZ hl cI cR a_t a_t_input a_t_output a_t_topics a_t_cords a_t_draftTopics a_t_draft a_t_saved a_t_history a_t_script a_t_cords_starts a_t_cords_depth a_t_cords_topic a_t_cords_value a_t_cords_nibbled i_t_hasSaved i_t_reportedCode i_t_reportedOffset i_t_cords_clusters i_t_cords_size x1 _ hq2) tm_947 tm_949 sl_10 tm_1 tm_950 na_KR_requireCord ⟨Nat.le_of_ble_eq_true rfl, Nat.le_of_ble_eq_true rfl⟩ rfl [0, 1] rfl rfl rfl (ws' := wd_KR_nibbledPlaces cI a_t a_t_input a_t_output a_t_topics a_t_cords a_t_draftTopics a_t_draft a_t_saved a_t_history a_t_script a_t_cords_starts a_t_cords_depth a_t_cords_topic a_t_cords_value a_t_cords_nibbled a_t_cords_nibbled_k i_t_hasSaved i_t_reportedCode i_t_reportedOffset i_t_cords_clusters i_t_cords_size i_t_cords_nibbled) rfl 0 10 rfl rfl rfl (st := []) rfl (Nat.le_of_ble_eq_true rfl) rd_KR_nibbledPlaces_2 ⟨Nat.le_of_ble_eq_true rfl, Nat.le_of_ble_eq_true rfl⟩ ?_
    refine jk_aload_n C rd_KR_nibbledPlaces_5 (k := 0) rfl ?_
    refine jk_get C in_KR (ci := 10) rfl 3 (by decide) tm_434 0 rfl rfl rd_KR_nibbledPlaces_6 ?_
    refine jk_getN C in_Cords (ci := 5) rfl 6 (by decide) (jk_nw hZ hz tn_19) 1 rfl rfl rd_KR_nibbledPlaces_9 ?_
    refine jk_iload_n C rd_KR_nibbledPlaces_12 (k := 1) rfl ?_
    obtain ⟨q13, hq13, hf⟩ := jk_bind_h hf
    refine jk_callVi C hZ.1 hz (ct_Row_get l D Z sq hZ cI cR (n_t := 40) (Nat.le_of_ble_eq_true rfl) a_t_cords_nibbled a_t_cords_nibbled_k i_t_cords_nibbled x1 q13 hq13) tm_1033 tm_299 tm_300 tm_3 tm_301 na_Row_get ⟨Nat.le_of_ble_eq_true rfl, Nat.le_of_ble_eq_true rfl⟩ rfl [2, 3] rfl rfl rfl (ws' := wd_KR_nibbledPlaces cI a_t a_t_input a_t_output a_t_topics a_t_cords a_t_draftTopics a_t_draft a_t_saved a_t_history a_t_script a_t_cords_starts a_t_cords_depth a_t_cords_topic a_t_cords_value a_t_cords_nibbled a_t_cords_nibbled_k i_t_hasSaved i_t_reportedCode i_t_reportedOffset i_t_cords_clusters i_t_cords_size i_t_cords_nibbled) rfl 2 0 rfl rfl rfl (st := []) rfl (Nat.le_of_ble_eq_true rfl) rd_KR_nibbledPlaces_13 ?_ ⟨Nat.le_of_ble_eq_true rfl, Nat.le_of_ble_eq_true rfl⟩
    cases hf
    exact jk_xiret C rfl rfl (Nat.le_of_ble_eq_true rfl) (Nat.le_of_ble_eq_true rfl) rd_KR_nibbledPlaces_16
def wd_KR_knownValue (cI : ClassId) (a_t a_t_input a_t_output a_t_topics a_t_cords a_t_draftTopics a_t_draft a_t_saved a_t_history a_t_script a_t_cords_starts a_t_cords_depth a_t_cords_topic a_t_cords_value a_t_cords_nibbled a_t_cords_value_k : Nat) (i_t_hasSaved : Int) (i_t_reportedCode : Int) (i_t_reportedOffset : Int) (i_t_cords_clusters : Int) (i_t_cords_size : Int) (i_t_cords_value : (Int → Int)) : va_W := [(a_t, .inr (10, [.ref a_t_input, .ref a_t_output, .ref a_t_topics, .ref a_t_cords, .ref a_t_draftTopics, .ref a_t_draft, .ref a_t_saved, .ref a_t_history, .ref a_t_script, jk_V i_t_hasSaved, jk_V i_t_reportedCode, jk_V i_t_reportedOffset])), (a_t_cords, .inr (5, [jk_V i_t_cords_clusters, jk_V i_t_cords_size, .ref a_t_cords_starts, .ref a_t_cords_depth, .ref a_t_cords_topic, .ref a_t_cords_value, .ref a_t_cords_nibbled])), (a_t_cords_value, .inr (0, [.ref a_t_cords_value_k])), (a_t_cords_value_k, jk_W cI 40 i_t_cords_value)]
set_option maxHeartbeats 4000000 in
set_option maxRecDepth 20000 in
theorem ct_KR_knownValue (l : Launch) (D : va_G) (Z : (Nat → Prop) → State → Heap → Prop) (sq : Nat → Nat) (hZ : jk_ZK Z sq) (hl : l.stackTraces = false) (cI cR : ClassId) (a_t a_t_input a_t_output a_t_topics a_t_cords a_t_draftTopics a_t_draft a_t_saved a_t_history a_t_script a_t_cords_starts a_t_cords_depth a_t_cords_topic a_t_cords_value a_t_cords_nibbled a_t_cords_value_k : Nat) (i_t_hasSaved : Int) (i_t_reportedCode : Int) (i_t_reportedOffset : Int) (i_t_cords_clusters : Int) (i_t_cords_size : Int) (i_t_cords_value : (Int → Int)) (x1 : Int) (q : Nat ⊕ (Int)) (hf : fn_KR_knownValue i_t_cords_size i_t_cords_value x1 = some q) : jk_XI l D jk_cl (jk_ty cI cR) Z mn_KR_knownValue (.code mn_KR_knownValue mb_KR_knownValue 2 (some .int) :: jk_WA) (jk_rx 7 1 6 121) [.ref a_t, jk_V x1] (wd_KR_knownValue cI a_t a_t_input a_t_output a_t_topics a_t_cords a_t_draftTopics a_t_draft a_t_saved a_t_history a_t_script a_t_cords_starts a_t_cords_depth a_t_cords_topic a_t_cords_value a_t_cords_nibbled a_t_cords_value_k i_t_hasSaved i_t_reportedCode i_t_reportedOffset i_t_cords_clusters i_t_cords_size i_t_cords_value) (Sum.map id (fun (z : Int) => ((z : Int), wd_KR_knownValue cI a_t a_t_input a_t_output a_t_topics a_t_cords a_t_draftTopics a_t_draft a_t_saved a_t_history a_t_script a_t_cords_starts a_t_cords_depth a_t_cords_topic a_t_cords_value a_t_cords_nibbled a_t_cords_value_k i_t_hasSaved i_t_reportedCode i_t_reportedOffset i_t_cords_clusters i_t_cords_size i_t_cords_value)) q) 1 6 := by
  intro sz
  refine jk_xbody (by decide +kernel) (fun p e s m args below meth c hsz hz hnh C => ?_) (Nat.le_of_ble_eq_true rfl)
  subst hsz
  unfold fn_KR_knownValue at hf
  refine jk_aload_n C rd_KR_knownValue_0 (k := 0) rfl ?_
  refine jk_iload_n C rd_KR_knownValue_1 (k := 1) rfl ?_
  obtain ⟨q2, hq2, hf⟩ := jk_bind_h hf
  rcases q2 with k2 | q2
  · replace hf : (some (Sum.inl k2) : Option (Nat ⊕ (Int))) = some q := hf
    cases hf
    exact jk_callXv_t C hZ.1 hz hnh rfl rfl rfl rfl (ct_KR_requireCord l D Z sq hZ hl cI cR a_t a_t_input a_t_output a_t_topics a_t_cords a_t_draftTopics a_t_draft a_t_saved a_t_history a_t_script a_t_cords_starts a_t_cords_depth a_t_cords_topic a_t_cords_value a_t_cords_nibbled i_t_hasSaved i_t_reportedCode i_t_reportedOffset i_t_cords_clusters i_t_cords_size x1 _ hq2) tm_947 tm_949 sl_10 tm_1 tm_950 na_KR_requireCord ⟨Nat.le_of_ble_eq_true rfl, Nat.le_of_ble_eq_true rfl⟩ rfl [0, 1] rfl rfl rfl 0 10 rfl rfl rfl (st := []) rfl (Nat.le_of_ble_eq_true rfl) rd_KR_knownValue_2 ⟨Nat.le_of_ble_eq_true rfl, Nat.le_of_ble_eq_true rfl⟩ (Nat.le_of_ble_eq_true rfl) (Nat.le_of_ble_eq_true rfl)
  · refine jk_callXv_r C hZ.1 hz rfl (ct_KR_requireCord l D Z sq hZ hl cI cR a_t a_t_input a_t_output a_t_topics a_t_cords a_t_draftTopics a_t_draft a_t_saved a_t_history a_t_script a_t_cords_starts a_t_cords_depth a_t_cords_topic a_t_cords_value a_t_cords_nibbled i_t_hasSaved i_t_reportedCode i_t_reportedOffset i_t_cords_clusters i_t_cords_size x1 _ hq2) tm_947 tm_949 sl_10 tm_1 tm_950 na_KR_requireCord ⟨Nat.le_of_ble_eq_true rfl, Nat.le_of_ble_eq_true rfl⟩ rfl [0, 1] rfl rfl rfl (ws' := wd_KR_knownValue cI a_t a_t_input a_t_output a_t_topics a_t_cords a_t_draftTopics a_t_draft a_t_saved a_t_history a_t_script a_t_cords_starts a_t_cords_depth a_t_cords_topic a_t_cords_value a_t_cords_nibbled a_t_cords_value_k i_t_hasSaved i_t_reportedCode i_t_reportedOffset i_t_cords_clusters i_t_cords_size i_t_cords_value) rfl 0 10 rfl rfl rfl (st := []) rfl (Nat.le_of_ble_eq_true rfl) rd_KR_knownValue_2 ⟨Nat.le_of_ble_eq_true rfl, Nat.le_of_ble_eq_true rfl⟩ ?_
    refine jk_aload_n C rd_KR_knownValue_5 (k := 0) rfl ?_
    refine jk_get C in_KR (ci := 10) rfl 3 (by decide) tm_434 0 rfl rfl rd_KR_knownValue_6 ?_
    refine jk_getN C in_Cords (ci := 5) rfl 5 (by decide) (jk_nw hZ hz tn_18) 1 rfl rfl rd_KR_knownValue_9 ?_
    refine jk_iload_n C rd_KR_knownValue_12 (k := 1) rfl ?_
    obtain ⟨q13, hq13, hf⟩ := jk_bind_h hf
    refine jk_callVi C hZ.1 hz (ct_Row_get l D Z sq hZ cI cR (n_t := 40) (Nat.le_of_ble_eq_true rfl) a_t_cords_value a_t_cords_value_k i_t_cords_value x1 q13 hq13) tm_1033 tm_299 tm_300 tm_3 tm_301 na_Row_get ⟨Nat.le_of_ble_eq_true rfl, Nat.le_of_ble_eq_true rfl⟩ rfl [2, 3] rfl rfl rfl (ws' := wd_KR_knownValue cI a_t a_t_input a_t_output a_t_topics a_t_cords a_t_draftTopics a_t_draft a_t_saved a_t_history a_t_script a_t_cords_starts a_t_cords_depth a_t_cords_topic a_t_cords_value a_t_cords_nibbled a_t_cords_value_k i_t_hasSaved i_t_reportedCode i_t_reportedOffset i_t_cords_clusters i_t_cords_size i_t_cords_value) rfl 2 0 rfl rfl rfl (st := []) rfl (Nat.le_of_ble_eq_true rfl) rd_KR_knownValue_13 ?_ ⟨Nat.le_of_ble_eq_true rfl, Nat.le_of_ble_eq_true rfl⟩
    cases hf
    exact jk_xiret C rfl rfl (Nat.le_of_ble_eq_true rfl) (Nat.le_of_ble_eq_true rfl) rd_KR_knownValue_16
def wd_KR_lowestTotal (cI : ClassId) (a_t a_t_input a_t_output a_t_topics a_t_cords a_t_draftTopics a_t_draft a_t_saved a_t_history a_t_script a_t_cords_starts a_t_cords_depth a_t_cords_topic a_t_cords_value a_t_cords_nibbled a_t_cords_depth_k a_t_cords_value_k : Nat) (i_t_hasSaved : Int) (i_t_reportedCode : Int) (i_t_reportedOffset : Int) (i_t_cords_clusters : Int) (i_t_cords_size : Int) (i_t_cords_depth : (Int → Int)) (i_t_cords_value : (Int → Int)) : va_W := [(a_t, .inr (10, [.ref a_t_input, .ref a_t_output, .ref a_t_topics, .ref a_t_cords, .ref a_t_draftTopics, .ref a_t_draft, .ref a_t_saved, .ref a_t_history, .ref a_t_script, jk_V i_t_hasSaved, jk_V i_t_reportedCode, jk_V i_t_reportedOffset])), (a_t_cords, .inr (5, [jk_V i_t_cords_clusters, jk_V i_t_cords_size, .ref a_t_cords_starts, .ref a_t_cords_depth, .ref a_t_cords_topic, .ref a_t_cords_value, .ref a_t_cords_nibbled])), (a_t_cords_depth, .inr (0, [.ref a_t_cords_depth_k])), (a_t_cords_depth_k, jk_W cI 40 i_t_cords_depth), (a_t_cords_value, .inr (0, [.ref a_t_cords_value_k])), (a_t_cords_value_k, jk_W cI 40 i_t_cords_value)]
set_option maxHeartbeats 4000000 in
set_option maxRecDepth 20000 in
theorem ct_KR_lowestTotal (l : Launch) (D : va_G) (Z : (Nat → Prop) → State → Heap → Prop) (sq : Nat → Nat) (hZ : jk_ZK Z sq) (hl : l.stackTraces = false) (cI cR : ClassId) (a_t a_t_input a_t_output a_t_topics a_t_cords a_t_draftTopics a_t_draft a_t_saved a_t_history a_t_script a_t_cords_starts a_t_cords_depth a_t_cords_topic a_t_cords_value a_t_cords_nibbled a_t_cords_depth_k a_t_cords_value_k : Nat) (i_t_hasSaved : Int) (i_t_reportedCode : Int) (i_t_reportedOffset : Int) (i_t_cords_clusters : Int) (i_t_cords_size : Int) (i_t_cords_depth : (Int → Int)) (i_t_cords_value : (Int → Int)) (x1 : Int) (q : Nat ⊕ (Int)) (hf : fn_KR_lowestTotal i_t_cords_size i_t_cords_depth i_t_cords_value x1 = some q) : jk_XI l D jk_cl (jk_ty cI cR) Z mn_KR_lowestTotal (.code mn_KR_lowestTotal mb_KR_lowestTotal 2 (some .int) :: jk_WA) (jk_rx 7 1 6 121) [.ref a_t, jk_V x1] (wd_KR_lowestTotal cI a_t a_t_input a_t_output a_t_topics a_t_cords a_t_draftTopics a_t_draft a_t_saved a_t_history a_t_script a_t_cords_starts a_t_cords_depth a_t_cords_topic a_t_cords_value a_t_cords_nibbled a_t_cords_depth_k a_t_cords_value_k i_t_hasSaved i_t_reportedCode i_t_reportedOffset i_t_cords_clusters i_t_cords_size i_t_cords_depth i_t_cords_value) (Sum.map id (fun (z : Int) => ((z : Int), wd_KR_lowestTotal cI a_t a_t_input a_t_output a_t_topics a_t_cords a_t_draftTopics a_t_draft a_t_saved a_t_history a_t_script a_t_cords_starts a_t_cords_depth a_t_cords_topic a_t_cords_value a_t_cords_nibbled a_t_cords_depth_k a_t_cords_value_k i_t_hasSaved i_t_reportedCode i_t_reportedOffset i_t_cords_clusters i_t_cords_size i_t_cords_depth i_t_cords_value)) q) 1 6 := by
  intro sz
  refine jk_xbody (by decide +kernel) (fun p e s m args below meth c hsz hz hnh C => ?_) (Nat.le_of_ble_eq_true rfl)
  subst hsz
  unfold fn_KR_lowestTotal at hf
  refine jk_aload_n C rd_KR_lowestTotal_0 (k := 0) rfl ?_
  refine jk_iload_n C rd_KR_lowestTotal_1 (k := 1) rfl ?_
  obtain ⟨q2, hq2, hf⟩ := jk_bind_h hf
  rcases q2 with k2 | q2
  · replace hf : (some (Sum.inl k2) : Option (Nat ⊕ (Int))) = some q := hf
    cases hf
    exact jk_callXv_t C hZ.1 hz hnh rfl rfl rfl rfl (ct_KR_requireCord l D Z sq hZ hl cI cR a_t a_t_input a_t_output a_t_topics a_t_cords a_t_draftTopics a_t_draft a_t_saved a_t_history a_t_script a_t_cords_starts a_t_cords_depth a_t_cords_topic a_t_cords_value a_t_cords_nibbled i_t_hasSaved i_t_reportedCode i_t_reportedOffset i_t_cords_clusters i_t_cords_size x1 _ hq2) tm_947 tm_949 sl_10 tm_1 tm_950 na_KR_requireCord ⟨Nat.le_of_ble_eq_true rfl, Nat.le_of_ble_eq_true rfl⟩ rfl [0, 1] rfl rfl rfl 0 10 rfl rfl rfl (st := []) rfl (Nat.le_of_ble_eq_true rfl) rd_KR_lowestTotal_2 ⟨Nat.le_of_ble_eq_true rfl, Nat.le_of_ble_eq_true rfl⟩ (Nat.le_of_ble_eq_true rfl) (Nat.le_of_ble_eq_true rfl)
  · refine jk_callXv_r C hZ.1 hz rfl (ct_KR_requireCord l D Z sq hZ hl cI cR a_t a_t_input a_t_output a_t_topics a_t_cords a_t_draftTopics a_t_draft a_t_saved a_t_history a_t_script a_t_cords_starts a_t_cords_depth a_t_cords_topic a_t_cords_value a_t_cords_nibbled i_t_hasSaved i_t_reportedCode i_t_reportedOffset i_t_cords_clusters i_t_cords_size x1 _ hq2) tm_947 tm_949 sl_10 tm_1 tm_950 na_KR_requireCord ⟨Nat.le_of_ble_eq_true rfl, Nat.le_of_ble_eq_true rfl⟩ rfl [0, 1] rfl rfl rfl (ws' := wd_KR_lowestTotal cI a_t a_t_input a_t_output a_t_topics a_t_cords a_t_draftTopics a_t_draft a_t_saved a_t_history a_t_script a_t_cords_starts a_t_cords_depth a_t_cords_topic a_t_cords_value a_t_cords_nibbled a_t_cords_depth_k a_t_cords_value_k i_t_hasSaved i_t_reportedCode i_t_reportedOffset i_t_cords_clusters i_t_cords_size i_t_cords_depth i_t_cords_value) rfl 0 10 rfl rfl rfl (st := []) rfl (Nat.le_of_ble_eq_true rfl) rd_KR_lowestTotal_2 ⟨Nat.le_of_ble_eq_true rfl, Nat.le_of_ble_eq_true rfl⟩ ?_
    refine jk_aload_n C rd_KR_lowestTotal_5 (k := 0) rfl ?_
    refine jk_get C in_KR (ci := 10) rfl 3 (by decide) tm_434 0 rfl rfl rd_KR_lowestTotal_6 ?_
    refine jk_iload_n C rd_KR_lowestTotal_9 (k := 1) rfl ?_
    refine jk_aload_n C rd_KR_lowestTotal_10 (k := 0) rfl ?_
    refine jk_get C in_KR (ci := 10) rfl 3 (by decide) tm_434 0 rfl rfl rd_KR_lowestTotal_11 ?_
    refine jk_iload_n C rd_KR_lowestTotal_14 (k := 1) rfl ?_
    obtain ⟨q15, hq15, hf⟩ := jk_bind_h hf
    refine jk_callVi C hZ.1 hz (ct_Cords_branchEnd l D Z sq hZ cI cR a_t_cords a_t_cords_starts a_t_cords_depth a_t_cords_topic a_t_cords_value a_t_cords_nibbled a_t_cords_depth_k i_t_cords_clusters i_t_cords_size i_t_cords_depth x1 q15 hq15) tm_1051 tm_380 tm_381 tm_6 tm_382 na_Cords_branchEnd ⟨Nat.le_of_ble_eq_true rfl, Nat.le_of_ble_eq_true rfl⟩ rfl [1, 2, 3] rfl rfl rfl (ws' := wd_KR_lowestTotal cI a_t a_t_input a_t_output a_t_topics a_t_cords a_t_draftTopics a_t_draft a_t_saved a_t_history a_t_script a_t_cords_starts a_t_cords_depth a_t_cords_topic a_t_cords_value a_t_cords_nibbled a_t_cords_depth_k a_t_cords_value_k i_t_hasSaved i_t_reportedCode i_t_reportedOffset i_t_cords_clusters i_t_cords_size i_t_cords_depth i_t_cords_value) rfl 1 5 rfl rfl rfl (st := [jk_V x1, .ref a_t_cords]) rfl (Nat.le_of_ble_eq_true rfl) rd_KR_lowestTotal_15 ?_ ⟨Nat.le_of_ble_eq_true rfl, Nat.le_of_ble_eq_true rfl⟩
    obtain ⟨q18, hq18, hf⟩ := jk_bind_h hf
    refine jk_callVi C hZ.1 hz (ct_Cords_lowestSum l D Z sq hZ cI cR a_t_cords a_t_cords_starts a_t_cords_depth a_t_cords_topic a_t_cords_value a_t_cords_nibbled a_t_cords_value_k i_t_cords_clusters i_t_cords_size i_t_cords_value x1 q15 q18 hq18) tm_1060 tm_519 tm_520 tm_6 tm_521 na_Cords_lowestSum ⟨Nat.le_of_ble_eq_true rfl, Nat.le_of_ble_eq_true rfl⟩ rfl [1, 4, 5] rfl rfl rfl (ws' := wd_KR_lowestTotal cI a_t a_t_input a_t_output a_t_topics a_t_cords a_t_draftTopics a_t_draft a_t_saved a_t_history a_t_script a_t_cords_starts a_t_cords_depth a_t_cords_topic a_t_cords_value a_t_cords_nibbled a_t_cords_depth_k a_t_cords_value_k i_t_hasSaved i_t_reportedCode i_t_reportedOffset i_t_cords_clusters i_t_cords_size i_t_cords_depth i_t_cords_value) rfl 1 5 rfl rfl rfl (st := []) rfl (Nat.le_of_ble_eq_true rfl) rd_KR_lowestTotal_18 ?_ ⟨Nat.le_of_ble_eq_true rfl, Nat.le_of_ble_eq_true rfl⟩
    cases hf
    exact jk_xiret C rfl rfl (Nat.le_of_ble_eq_true rfl) (Nat.le_of_ble_eq_true rfl) rd_KR_lowestTotal_21
def wd_KR_isPlace (cI : ClassId)  : va_W := []
set_option maxHeartbeats 4000000 in
set_option maxRecDepth 20000 in
theorem ct_KR_isPlace (l : Launch) (D : va_G) (Z : (Nat → Prop) → State → Heap → Prop) (sq : Nat → Nat) (hZ : jk_ZK Z sq) (cI cR : ClassId) (x0 : Int) (q : Int) (hf : fn_KR_isPlace x0 = some q) : jk_MI l D jk_cl (jk_ty cI cR) Z mn_KR_isPlace (.code mn_KR_isPlace mb_KR_isPlace 1 (some .boolean) :: jk_WA) (jk_rm 0 0) [jk_V x0] (wd_KR_isPlace cI) (wd_KR_isPlace cI) q := by
  intro sz
  refine jk_body (by decide +kernel) (fun p e s m args below meth c hsz hz hin C => ?_) (Nat.le_of_ble_eq_true rfl)
  subst hsz
  unfold fn_KR_isPlace at hf
  refine jk_iload_n C rd_KR_isPlace_0 (k := 0) rfl ?_
  refine jk_if_lt (tgt := 13) C rd_KR_isPlace_1 (by decide) hf (fun _ hf => ?_) (fun _ hf => ?_)
  · refine jk_iconst C rd_KR_isPlace_13 ?_
    cases hf
    exact jk_zret C (Or.inl rfl) rfl rd_KR_isPlace_14 rfl
  · refine jk_iload_n C rd_KR_isPlace_4 (k := 0) rfl ?_
    refine jk_iconst C rd_KR_isPlace_5 ?_
    refine jk_icmp_ge (tgt := 13) C rd_KR_isPlace_6 (by decide) hf (fun _ hf => ?_) (fun _ hf => ?_)
    · refine jk_iconst C rd_KR_isPlace_13 ?_
      cases hf
      exact jk_zret C (Or.inl rfl) rfl rd_KR_isPlace_14 rfl
    · refine jk_iconst C rd_KR_isPlace_9 ?_
      refine jk_goto (tgt := 14) C rd_KR_isPlace_10 (by decide) ?_
      cases hf
      exact jk_zret C (Or.inr rfl) rfl rd_KR_isPlace_14 rfl
