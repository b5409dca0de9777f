theorem rd_Text_putByte_0 : decode mb_Text_putByte 0 = .ok (.aload_n 0, 1) := by decide +kernel
theorem rd_Text_putByte_1 : decode mb_Text_putByte 1 = .ok (.getfield 20, 3) := by decide +kernel
theorem rd_Text_putByte_4 : decode mb_Text_putByte 4 = .ok (.sipush 700, 3) := by decide +kernel
theorem rd_Text_putByte_7 : decode mb_Text_putByte 7 = .ok (.if_icmp .ge 25, 3) := by decide +kernel
theorem rd_Text_putByte_10 : decode mb_Text_putByte 10 = .ok (.aload_n 0, 1) := by decide +kernel
theorem rd_Text_putByte_11 : decode mb_Text_putByte 11 = .ok (.getfield 14, 3) := by decide +kernel
theorem rd_Text_putByte_14 : decode mb_Text_putByte 14 = .ok (.aload_n 0, 1) := by decide +kernel
theorem rd_Text_putByte_15 : decode mb_Text_putByte 15 = .ok (.getfield 20, 3) := by decide +kernel
theorem rd_Text_putByte_18 : decode mb_Text_putByte 18 = .ok (.iload_n 1, 1) := by decide +kernel
theorem rd_Text_putByte_19 : decode mb_Text_putByte 19 = .ok (.invokevirtual 51, 3) := by decide +kernel
theorem rd_Text_putByte_22 : decode mb_Text_putByte 22 = .ok (.aload_n 0, 1) := by decide +kernel
theorem rd_Text_putByte_23 : decode mb_Text_putByte 23 = .ok (.dup, 1) := by decide +kernel
theorem rd_Text_putByte_24 : decode mb_Text_putByte 24 = .ok (.getfield 20, 3) := by decide +kernel
theorem rd_Text_putByte_27 : decode mb_Text_putByte 27 = .ok (.iconst 1, 1) := by decide +kernel
theorem rd_Text_putByte_28 : decode mb_Text_putByte 28 = .ok (.iadd, 1) := by decide +kernel
theorem rd_Text_putByte_29 : decode mb_Text_putByte 29 = .ok (.putfield 20, 3) := by decide +kernel
theorem rd_Text_putByte_32 : decode mb_Text_putByte 32 = .ok (.return_, 1) := by decide +kernel
theorem rd_Text_put_0 : decode mb_Text_put 0 = .ok (.iconst 0, 1) := by decide +kernel
theorem rd_Text_put_1 : decode mb_Text_put 1 = .ok (.istore_n 2, 1) := by decide +kernel
theorem rd_Text_put_2 : decode mb_Text_put 2 = .ok (.iload_n 2, 1) := by decide +kernel
theorem rd_Text_put_3 : decode mb_Text_put 3 = .ok (.aload_n 1, 1) := by decide +kernel
theorem rd_Text_put_4 : decode mb_Text_put 4 = .ok (.invokevirtual 39, 3) := by decide +kernel
theorem rd_Text_put_7 : decode mb_Text_put 7 = .ok (.if_icmp .ge 18, 3) := by decide +kernel
theorem rd_Text_put_10 : decode mb_Text_put 10 = .ok (.aload_n 0, 1) := by decide +kernel
theorem rd_Text_put_11 : decode mb_Text_put 11 = .ok (.aload_n 1, 1) := by decide +kernel
theorem rd_Text_put_12 : decode mb_Text_put 12 = .ok (.iload_n 2, 1) := by decide +kernel
theorem rd_Text_put_13 : decode mb_Text_put 13 = .ok (.invokevirtual 44, 3) := by decide +kernel
theorem rd_Text_put_16 : decode mb_Text_put 16 = .ok (.invokevirtual 48, 3) := by decide +kernel
theorem rd_Text_put_19 : decode mb_Text_put 19 = .ok (.iinc 2 1, 3) := by decide +kernel
theorem rd_Text_put_22 : decode mb_Text_put 22 = .ok (.goto (-20), 3) := by decide +kernel
theorem rd_Text_put_25 : decode mb_Text_put 25 = .ok (.return_, 1) := by decide +kernel
theorem rd_Text_putFour_0 : decode mb_Text_putFour 0 = .ok (.bipush 24, 2) := by decide +kernel
theorem rd_Text_putFour_2 : decode mb_Text_putFour 2 = .ok (.istore_n 2, 1) := by decide +kernel
theorem rd_Text_putFour_3 : decode mb_Text_putFour 3 = .ok (.iload_n 2, 1) := by decide +kernel
theorem rd_Text_putFour_4 : decode mb_Text_putFour 4 = .ok (.ifCond .lt 20, 3) := by decide +kernel
theorem rd_Text_putFour_7 : decode mb_Text_putFour 7 = .ok (.aload_n 0, 1) := by decide +kernel
theorem rd_Text_putFour_8 : decode mb_Text_putFour 8 = .ok (.iload_n 1, 1) := by decide +kernel
theorem rd_Text_putFour_9 : decode mb_Text_putFour 9 = .ok (.iload_n 2, 1) := by decide +kernel
theorem rd_Text_putFour_10 : decode mb_Text_putFour 10 = .ok (.ishr, 1) := by decide +kernel
theorem rd_Text_putFour_11 : decode mb_Text_putFour 11 = .ok (.sipush 255, 3) := by decide +kernel
theorem rd_Text_putFour_14 : decode mb_Text_putFour 14 = .ok (.iand, 1) := by decide +kernel
theorem rd_Text_putFour_15 : decode mb_Text_putFour 15 = .ok (.invokevirtual 48, 3) := by decide +kernel
theorem rd_Text_putFour_18 : decode mb_Text_putFour 18 = .ok (.iinc 2 (-8), 3) := by decide +kernel
theorem rd_Text_putFour_21 : decode mb_Text_putFour 21 = .ok (.goto (-18), 3) := by decide +kernel
theorem rd_Text_putFour_24 : decode mb_Text_putFour 24 = .ok (.return_, 1) := by decide +kernel
theorem rd_Topics_copyFrom_0 : decode mb_Topics_copyFrom 0 = .ok (.aload_n 0, 1) := by decide +kernel
theorem rd_Topics_copyFrom_1 : decode mb_Topics_copyFrom 1 = .ok (.aload_n 1, 1) := by decide +kernel
theorem rd_Topics_copyFrom_2 : decode mb_Topics_copyFrom 2 = .ok (.getfield 9, 3) := by decide +kernel
theorem rd_Topics_copyFrom_5 : decode mb_Topics_copyFrom 5 = .ok (.putfield 9, 3) := by decide +kernel
theorem rd_Topics_copyFrom_8 : decode mb_Topics_copyFrom 8 = .ok (.aload_n 0, 1) := by decide +kernel
theorem rd_Topics_copyFrom_9 : decode mb_Topics_copyFrom 9 = .ok (.getfield 20, 3) := by decide +kernel
theorem rd_Topics_copyFrom_12 : decode mb_Topics_copyFrom 12 = .ok (.aload_n 1, 1) := by decide +kernel
theorem rd_Topics_copyFrom_13 : decode mb_Topics_copyFrom 13 = .ok (.getfield 20, 3) := by decide +kernel
theorem rd_Topics_copyFrom_16 : decode mb_Topics_copyFrom 16 = .ok (.invokevirtual 24, 3) := by decide +kernel
theorem rd_Topics_copyFrom_19 : decode mb_Topics_copyFrom 19 = .ok (.return_, 1) := by decide +kernel
theorem rd_Topics_has_0 : decode mb_Topics_has 0 = .ok (.iload_n 1, 1) := by decide +kernel
theorem rd_Topics_has_1 : decode mb_Topics_has 1 = .ok (.ifCond .lt 15, 3) := by decide +kernel
theorem rd_Topics_has_4 : decode mb_Topics_has 4 = .ok (.iload_n 1, 1) := by decide +kernel
theorem rd_Topics_has_5 : decode mb_Topics_has 5 = .ok (.aload_n 0, 1) := by decide +kernel
theorem rd_Topics_has_6 : decode mb_Topics_has 6 = .ok (.getfield 9, 3) := by decide +kernel
theorem rd_Topics_has_9 : decode mb_Topics_has 9 = .ok (.if_icmp .ge 7, 3) := by decide +kernel
theorem rd_Topics_has_12 : decode mb_Topics_has 12 = .ok (.iconst 1, 1) := by decide +kernel
theorem rd_Topics_has_13 : decode mb_Topics_has 13 = .ok (.goto 4, 3) := by decide +kernel
theorem rd_Topics_has_16 : decode mb_Topics_has 16 = .ok (.iconst 0, 1) := by decide +kernel
theorem rd_Topics_has_17 : decode mb_Topics_has 17 = .ok (.ireturn, 1) := by decide +kernel
theorem rd_Topics_letter_0 : decode mb_Topics_letter 0 = .ok (.iload_n 2, 1) := by decide +kernel
theorem rd_Topics_letter_1 : decode mb_Topics_letter 1 = .ok (.ifCond .lt 9, 3) := by decide +kernel
theorem rd_Topics_letter_4 : decode mb_Topics_letter 4 = .ok (.iload_n 2, 1) := by decide +kernel
theorem rd_Topics_letter_5 : decode mb_Topics_letter 5 = .ok (.bipush 6, 2) := by decide +kernel
theorem rd_Topics_letter_7 : decode mb_Topics_letter 7 = .ok (.if_icmp .lt 5, 3) := by decide +kernel
theorem rd_Topics_letter_10 : decode mb_Topics_letter 10 = .ok (.iconst (-1), 1) := by decide +kernel
theorem rd_Topics_letter_11 : decode mb_Topics_letter 11 = .ok (.ireturn, 1) := by decide +kernel
theorem rd_Topics_letter_12 : decode mb_Topics_letter 12 = .ok (.aload_n 0, 1) := by decide +kernel
theorem rd_Topics_letter_13 : decode mb_Topics_letter 13 = .ok (.getfield 20, 3) := by decide +kernel
theorem rd_Topics_letter_16 : decode mb_Topics_letter 16 = .ok (.iload_n 1, 1) := by decide +kernel
theorem rd_Topics_letter_17 : decode mb_Topics_letter 17 = .ok (.invokevirtual 28, 3) := by decide +kernel
theorem rd_Topics_letter_20 : decode mb_Topics_letter 20 = .ok (.iconst 5, 1) := by decide +kernel
theorem rd_Topics_letter_21 : decode mb_Topics_letter 21 = .ok (.iload_n 2, 1) := by decide +kernel
theorem rd_Topics_letter_22 : decode mb_Topics_letter 22 = .ok (.imul, 1) := by decide +kernel
theorem rd_Topics_letter_23 : decode mb_Topics_letter 23 = .ok (.ishr, 1) := by decide +kernel
theorem rd_Topics_letter_24 : decode mb_Topics_letter 24 = .ok (.bipush 31, 2) := by decide +kernel
theorem rd_Topics_letter_26 : decode mb_Topics_letter 26 = .ok (.iand, 1) := by decide +kernel
theorem rd_Topics_letter_27 : decode mb_Topics_letter 27 = .ok (.istore_n 3, 1) := by decide +kernel
theorem rd_Topics_letter_28 : decode mb_Topics_letter 28 = .ok (.iload_n 3, 1) := by decide +kernel
theorem rd_Topics_letter_29 : decode mb_Topics_letter 29 = .ok (.ifCond .ne 7, 3) := by decide +kernel
theorem rd_Topics_letter_32 : decode mb_Topics_letter 32 = .ok (.iconst (-1), 1) := by decide +kernel
theorem rd_Topics_letter_33 : decode mb_Topics_letter 33 = .ok (.goto 7, 3) := by decide +kernel
theorem rd_Topics_letter_36 : decode mb_Topics_letter 36 = .ok (.bipush 96, 2) := by decide +kernel
theorem rd_Topics_letter_38 : decode mb_Topics_letter 38 = .ok (.iload_n 3, 1) := by decide +kernel
theorem rd_Topics_letter_39 : decode mb_Topics_letter 39 = .ok (.iadd, 1) := by decide +kernel
theorem rd_Topics_letter_40 : decode mb_Topics_letter 40 = .ok (.ireturn, 1) := by decide +kernel
theorem rd_KR_appendInput_0 : decode mb_KR_appendInput 0 = .ok (.aload_n 0, 1) := by decide +kernel
theorem rd_KR_appendInput_1 : decode mb_KR_appendInput 1 = .ok (.getfield 12, 3) := by decide +kernel
theorem rd_KR_appendInput_4 : decode mb_KR_appendInput 4 = .ok (.getfield 86, 3) := by decide +kernel
theorem rd_KR_appendInput_7 : decode mb_KR_appendInput 7 = .ok (.bipush 20, 2) := by decide +kernel
theorem rd_KR_appendInput_9 : decode mb_KR_appendInput 9 = .ok (.iadd, 1) := by decide +kernel
theorem rd_KR_appendInput_10 : decode mb_KR_appendInput 10 = .ok (.sipush 700, 3) := by decide +kernel
theorem rd_KR_appendInput_13 : decode mb_KR_appendInput 13 = .ok (.if_icmp .le 5, 3) := by decide +kernel
theorem rd_KR_appendInput_16 : decode mb_KR_appendInput 16 = .ok (.iconst (-1), 1) := by decide +kernel
theorem rd_KR_appendInput_17 : decode mb_KR_appendInput 17 = .ok (.ireturn, 1) := by decide +kernel
theorem rd_KR_appendInput_18 : decode mb_KR_appendInput 18 = .ok (.aload_n 0, 1) := by decide +kernel
theorem rd_KR_appendInput_19 : decode mb_KR_appendInput 19 = .ok (.getfield 12, 3) := by decide +kernel
theorem rd_KR_appendInput_22 : decode mb_KR_appendInput 22 = .ok (.iload_n 1, 1) := by decide +kernel
theorem rd_KR_appendInput_23 : decode mb_KR_appendInput 23 = .ok (.invokevirtual 89, 3) := by decide +kernel
theorem rd_KR_appendInput_26 : decode mb_KR_appendInput 26 = .ok (.aload_n 0, 1) := by decide +kernel
theorem rd_KR_appendInput_27 : decode mb_KR_appendInput 27 = .ok (.getfield 12, 3) := by decide +kernel
theorem rd_KR_appendInput_30 : decode mb_KR_appendInput 30 = .ok (.iload_n 2, 1) := by decide +kernel
theorem rd_KR_appendInput_31 : decode mb_KR_appendInput 31 = .ok (.invokevirtual 89, 3) := by decide +kernel
theorem rd_KR_appendInput_34 : decode mb_KR_appendInput 34 = .ok (.aload_n 0, 1) := by decide +kernel
theorem rd_KR_appendInput_35 : decode mb_KR_appendInput 35 = .ok (.getfield 12, 3) := by decide +kernel
theorem rd_KR_appendInput_38 : decode mb_KR_appendInput 38 = .ok (.iload_n 3, 1) := by decide +kernel
theorem rd_KR_appendInput_39 : decode mb_KR_appendInput 39 = .ok (.invokevirtual 89, 3) := by decide +kernel
theorem rd_KR_appendInput_42 : decode mb_KR_appendInput 42 = .ok (.aload_n 0, 1) := by decide +kernel
theorem rd_KR_appendInput_43 : decode mb_KR_appendInput 43 = .ok (.getfield 12, 3) := by decide +kernel
theorem rd_KR_appendInput_46 : decode mb_KR_appendInput 46 = .ok (.iload 4, 2) := by decide +kernel
theorem rd_KR_appendInput_48 : decode mb_KR_appendInput 48 = .ok (.invokevirtual 89, 3) := by decide +kernel
theorem rd_KR_appendInput_51 : decode mb_KR_appendInput 51 = .ok (.aload_n 0, 1) := by decide +kernel
theorem rd_KR_appendInput_52 : decode mb_KR_appendInput 52 = .ok (.getfield 12, 3) := by decide +kernel
theorem rd_KR_appendInput_55 : decode mb_KR_appendInput 55 = .ok (.iload 5, 2) := by decide +kernel
theorem rd_KR_appendInput_57 : decode mb_KR_appendInput 57 = .ok (.invokevirtual 89, 3) := by decide +kernel
theorem rd_KR_appendInput_60 : decode mb_KR_appendInput 60 = .ok (.aload_n 0, 1) := by decide +kernel
theorem rd_KR_appendInput_61 : decode mb_KR_appendInput 61 = .ok (.getfield 12, 3) := by decide +kernel
theorem rd_KR_appendInput_64 : decode mb_KR_appendInput 64 = .ok (.getfield 86, 3) := by decide +kernel
theorem rd_KR_appendInput_67 : decode mb_KR_appendInput 67 = .ok (.ireturn, 1) := by decide +kernel
theorem rd_KR_truncateInput_0 : decode mb_KR_truncateInput 0 = .ok (.iload_n 1, 1) := by decide +kernel
theorem rd_KR_truncateInput_1 : decode mb_KR_truncateInput 1 = .ok (.ifCond .lt 14, 3) := by decide +kernel
theorem rd_KR_truncateInput_4 : decode mb_KR_truncateInput 4 = .ok (.iload_n 1, 1) := by decide +kernel
theorem rd_KR_truncateInput_5 : decode mb_KR_truncateInput 5 = .ok (.aload_n 0, 1) := by decide +kernel
theorem rd_KR_truncateInput_6 : decode mb_KR_truncateInput 6 = .ok (.getfield 12, 3) := by decide +kernel
theorem rd_KR_truncateInput_9 : decode mb_KR_truncateInput 9 = .ok (.getfield 86, 3) := by decide +kernel
theorem rd_KR_truncateInput_12 : decode mb_KR_truncateInput 12 = .ok (.if_icmp .le 5, 3) := by decide +kernel
theorem rd_KR_truncateInput_15 : decode mb_KR_truncateInput 15 = .ok (.iconst 0, 1) := by decide +kernel
theorem rd_KR_truncateInput_16 : decode mb_KR_truncateInput 16 = .ok (.ireturn, 1) := by decide +kernel
theorem rd_KR_truncateInput_17 : decode mb_KR_truncateInput 17 = .ok (.aload_n 0, 1) := by decide +kernel
theorem rd_KR_truncateInput_18 : decode mb_KR_truncateInput 18 = .ok (.getfield 12, 3) := by decide +kernel
theorem rd_KR_truncateInput_21 : decode mb_KR_truncateInput 21 = .ok (.iload_n 1, 1) := by decide +kernel
theorem rd_KR_truncateInput_22 : decode mb_KR_truncateInput 22 = .ok (.putfield 86, 3) := by decide +kernel
theorem rd_KR_truncateInput_25 : decode mb_KR_truncateInput 25 = .ok (.iconst 1, 1) := by decide +kernel
theorem rd_KR_truncateInput_26 : decode mb_KR_truncateInput 26 = .ok (.ireturn, 1) := by decide +kernel
theorem rd_KR_closeText_0 : decode mb_KR_closeText 0 = .ok (.aload_n 0, 1) := by decide +kernel
theorem rd_KR_closeText_1 : decode mb_KR_closeText 1 = .ok (.aload_n 0, 1) := by decide +kernel
theorem rd_KR_closeText_2 : decode mb_KR_closeText 2 = .ok (.getfield 12, 3) := by decide +kernel
theorem rd_KR_closeText_5 : decode mb_KR_closeText 5 = .ok (.getfield 141, 3) := by decide +kernel
theorem rd_KR_closeText_8 : decode mb_KR_closeText 8 = .ok (.putfield 64, 3) := by decide +kernel
theorem rd_KR_closeText_11 : decode mb_KR_closeText 11 = .ok (.aload_n 0, 1) := by decide +kernel
theorem rd_KR_closeText_12 : decode mb_KR_closeText 12 = .ok (.aload_n 0, 1) := by decide +kernel
theorem rd_KR_closeText_13 : decode mb_KR_closeText 13 = .ok (.getfield 12, 3) := by decide +kernel
theorem rd_KR_closeText_16 : decode mb_KR_closeText 16 = .ok (.getfield 144, 3) := by decide +kernel
theorem rd_KR_closeText_19 : decode mb_KR_closeText 19 = .ok (.putfield 68, 3) := by decide +kernel
theorem rd_KR_closeText_22 : decode mb_KR_closeText 22 = .ok (.aload_n 0, 1) := by decide +kernel
theorem rd_KR_closeText_23 : decode mb_KR_closeText 23 = .ok (.getfield 12, 3) := by decide +kernel
theorem rd_KR_closeText_26 : decode mb_KR_closeText 26 = .ok (.invokevirtual 83, 3) := by decide +kernel
theorem rd_KR_closeText_29 : decode mb_KR_closeText 29 = .ok (.aload_n 0, 1) := by decide +kernel
theorem rd_KR_closeText_30 : decode mb_KR_closeText 30 = .ok (.getfield 64, 3) := by decide +kernel
theorem rd_KR_closeText_33 : decode mb_KR_closeText 33 = .ok (.ifCond .ne 7, 3) := by decide +kernel
theorem rd_KR_closeText_36 : decode mb_KR_closeText 36 = .ok (.iconst 1, 1) := by decide +kernel
theorem rd_KR_closeText_37 : decode mb_KR_closeText 37 = .ok (.goto 4, 3) := by decide +kernel
theorem rd_KR_closeText_40 : decode mb_KR_closeText 40 = .ok (.iconst 0, 1) := by decide +kernel
theorem rd_KR_closeText_41 : decode mb_KR_closeText 41 = .ok (.ireturn, 1) := by decide +kernel
theorem rd_KR_loadCords_0 : decode mb_KR_loadCords 0 = .ok (.aload_n 0, 1) := by decide +kernel
theorem rd_KR_loadCords_1 : decode mb_KR_loadCords 1 = .ok (.getfield 12, 3) := by decide +kernel
theorem rd_KR_loadCords_4 : decode mb_KR_loadCords 4 = .ok (.aload_n 0, 1) := by decide +kernel
theorem rd_KR_loadCords_5 : decode mb_KR_loadCords 5 = .ok (.getfield 37, 3) := by decide +kernel
theorem rd_KR_loadCords_8 : decode mb_KR_loadCords 8 = .ok (.aload_n 0, 1) := by decide +kernel
theorem rd_KR_loadCords_9 : decode mb_KR_loadCords 9 = .ok (.getfield 40, 3) := by decide +kernel
theorem rd_KR_loadCords_12 : decode mb_KR_loadCords 12 = .ok (.invokestatic 77, 3) := by decide +kernel
theorem rd_KR_loadCords_15 : decode mb_KR_loadCords 15 = .ok (.aload_n 0, 1) := by decide +kernel
theorem rd_KR_loadCords_16 : decode mb_KR_loadCords 16 = .ok (.invokevirtual 93, 3) := by decide +kernel
theorem rd_KR_loadCords_19 : decode mb_KR_loadCords 19 = .ok (.ifCond .ne 5, 3) := by decide +kernel
theorem rd_KR_loadCords_22 : decode mb_KR_loadCords 22 = .ok (.iconst (-1), 1) := by decide +kernel
theorem rd_KR_loadCords_23 : decode mb_KR_loadCords 23 = .ok (.ireturn, 1) := by decide +kernel
theorem rd_KR_loadCords_24 : decode mb_KR_loadCords 24 = .ok (.aload_n 0, 1) := by decide +kernel
theorem rd_KR_loadCords_25 : decode mb_KR_loadCords 25 = .ok (.getfield 26, 3) := by decide +kernel
theorem rd_KR_loadCords_28 : decode mb_KR_loadCords 28 = .ok (.aload_n 0, 1) := by decide +kernel
theorem rd_KR_loadCords_29 : decode mb_KR_loadCords 29 = .ok (.getfield 37, 3) := by decide +kernel
theorem rd_KR_loadCords_32 : decode mb_KR_loadCords 32 = .ok (.invokevirtual 97, 3) := by decide +kernel
theorem rd_KR_loadCords_35 : decode mb_KR_loadCords 35 = .ok (.aload_n 0, 1) := by decide +kernel
theorem rd_KR_loadCords_36 : decode mb_KR_loadCords 36 = .ok (.getfield 33, 3) := by decide +kernel
theorem rd_KR_loadCords_39 : decode mb_KR_loadCords 39 = .ok (.aload_n 0, 1) := by decide +kernel
theorem rd_KR_loadCords_40 : decode mb_KR_loadCords 40 = .ok (.getfield 40, 3) := by decide +kernel
theorem rd_KR_loadCords_43 : decode mb_KR_loadCords 43 = .ok (.invokevirtual 101, 3) := by decide +kernel
theorem rd_KR_loadCords_46 : decode mb_KR_loadCords 46 = .ok (.aload_n 0, 1) := by decide +kernel
theorem rd_KR_loadCords_47 : decode mb_KR_loadCords 47 = .ok (.getfield 49, 3) := by decide +kernel
theorem rd_KR_loadCords_50 : decode mb_KR_loadCords 50 = .ok (.invokevirtual 104, 3) := by decide +kernel
theorem rd_KR_loadCords_53 : decode mb_KR_loadCords 53 = .ok (.aload_n 0, 1) := by decide +kernel
theorem rd_KR_loadCords_54 : decode mb_KR_loadCords 54 = .ok (.iconst 0, 1) := by decide +kernel
theorem rd_KR_loadCords_55 : decode mb_KR_loadCords 55 = .ok (.putfield 60, 3) := by decide +kernel
theorem rd_KR_loadCords_58 : decode mb_KR_loadCords 58 = .ok (.aload_n 0, 1) := by decide +kernel
theorem rd_KR_loadCords_59 : decode mb_KR_loadCords 59 = .ok (.getfield 33, 3) := by decide +kernel
theorem rd_KR_loadCords_62 : decode mb_KR_loadCords 62 = .ok (.getfield 105, 3) := by decide +kernel
theorem rd_KR_loadCords_65 : decode mb_KR_loadCords 65 = .ok (.ireturn, 1) := by decide +kernel
theorem rd_KR_perform_0 : decode mb_KR_perform 0 = .ok (.iload_n 1, 1) := by decide +kernel
theorem rd_KR_perform_1 : decode mb_KR_perform 1 = .ok (.tableswitch 191 0 8 #[51, 59, 80, 120, 137, 147, 159, 169, 182], 51) := by decide +kernel
theorem rd_KR_perform_52 : decode mb_KR_perform 52 = .ok (.aload_n 0, 1) := by decide +kernel
theorem rd_KR_perform_53 : decode mb_KR_perform 53 = .ok (.getfield 33, 3) := by decide +kernel
theorem rd_KR_perform_56 : decode mb_KR_perform 56 = .ok (.invokevirtual 343, 3) := by decide +kernel
theorem rd_KR_perform_59 : decode mb_KR_perform 59 = .ok (.ireturn, 1) := by decide +kernel
theorem rd_KR_perform_60 : decode mb_KR_perform 60 = .ok (.aload_n 0, 1) := by decide +kernel
theorem rd_KR_perform_61 : decode mb_KR_perform 61 = .ok (.getfield 33, 3) := by decide +kernel
theorem rd_KR_perform_64 : decode mb_KR_perform 64 = .ok (.aload_n 0, 1) := by decide +kernel
theorem rd_KR_perform_65 : decode mb_KR_perform 65 = .ok (.getfield 33, 3) := by decide +kernel
theorem rd_KR_perform_68 : decode mb_KR_perform 68 = .ok (.iload_n 2, 1) := by decide +kernel
theorem rd_KR_perform_69 : decode mb_KR_perform 69 = .ok (.invokevirtual 227, 3) := by decide +kernel
theorem rd_KR_perform_72 : decode mb_KR_perform 72 = .ok (.iload_n 2, 1) := by decide +kernel
theorem rd_KR_perform_73 : decode mb_KR_perform 73 = .ok (.iconst 1, 1) := by decide +kernel
theorem rd_KR_perform_74 : decode mb_KR_perform 74 = .ok (.iload_n 3, 1) := by decide +kernel
theorem rd_KR_perform_75 : decode mb_KR_perform 75 = .ok (.iload 4, 2) := by decide +kernel
theorem rd_KR_perform_77 : decode mb_KR_perform 77 = .ok (.invokevirtual 347, 3) := by decide +kernel
theorem rd_KR_perform_80 : decode mb_KR_perform 80 = .ok (.ireturn, 1) := by decide +kernel
theorem rd_KR_perform_81 : decode mb_KR_perform 81 = .ok (.aload_n 0, 1) := by decide +kernel
theorem rd_KR_perform_82 : decode mb_KR_perform 82 = .ok (.getfield 33, 3) := by decide +kernel
theorem rd_KR_perform_85 : decode mb_KR_perform 85 = .ok (.aload_n 0, 1) := by decide +kernel
theorem rd_KR_perform_86 : decode mb_KR_perform 86 = .ok (.getfield 33, 3) := by decide +kernel
theorem rd_KR_perform_89 : decode mb_KR_perform 89 = .ok (.iload_n 2, 1) := by decide +kernel
theorem rd_KR_perform_90 : decode mb_KR_perform 90 = .ok (.invokevirtual 187, 3) := by decide +kernel
theorem rd_KR_perform_93 : decode mb_KR_perform 93 = .ok (.aload_n 0, 1) := by decide +kernel
theorem rd_KR_perform_94 : decode mb_KR_perform 94 = .ok (.getfield 33, 3) := by decide +kernel
theorem rd_KR_perform_97 : decode mb_KR_perform 97 = .ok (.iload_n 2, 1) := by decide +kernel
theorem rd_KR_perform_98 : decode mb_KR_perform 98 = .ok (.invokevirtual 175, 3) := by decide +kernel
theorem rd_KR_perform_101 : decode mb_KR_perform 101 = .ok (.aload_n 0, 1) := by decide +kernel
theorem rd_KR_perform_102 : decode mb_KR_perform 102 = .ok (.getfield 33, 3) := by decide +kernel
theorem rd_KR_perform_105 : decode mb_KR_perform 105 = .ok (.getfield 178, 3) := by decide +kernel
theorem rd_KR_perform_108 : decode mb_KR_perform 108 = .ok (.iload_n 2, 1) := by decide +kernel
theorem rd_KR_perform_109 : decode mb_KR_perform 109 = .ok (.invokevirtual 119, 3) := by decide +kernel
theorem rd_KR_perform_112 : decode mb_KR_perform 112 = .ok (.iconst 1, 1) := by decide +kernel
theorem rd_KR_perform_113 : decode mb_KR_perform 113 = .ok (.iadd, 1) := by decide +kernel
theorem rd_KR_perform_114 : decode mb_KR_perform 114 = .ok (.iload_n 3, 1) := by decide +kernel
theorem rd_KR_perform_115 : decode mb_KR_perform 115 = .ok (.iload 4, 2) := by decide +kernel
theorem rd_KR_perform_117 : decode mb_KR_perform 117 = .ok (.invokevirtual 347, 3) := by decide +kernel
theorem rd_KR_perform_120 : decode mb_KR_perform 120 = .ok (.ireturn, 1) := by decide +kernel
theorem rd_KR_perform_121 : decode mb_KR_perform 121 = .ok (.aload_n 0, 1) := by decide +kernel
theorem rd_KR_perform_122 : decode mb_KR_perform 122 = .ok (.getfield 33, 3) := by decide +kernel
theorem rd_KR_perform_125 : decode mb_KR_perform 125 = .ok (.iload_n 2, 1) := by decide +kernel
theorem rd_KR_perform_126 : decode mb_KR_perform 126 = .ok (.aload_n 0, 1) := by decide +kernel
theorem rd_KR_perform_127 : decode mb_KR_perform 127 = .ok (.getfield 33, 3) := by decide +kernel
theorem rd_KR_perform_130 : decode mb_KR_perform 130 = .ok (.iload_n 2, 1) := by decide +kernel
theorem rd_KR_perform_131 : decode mb_KR_perform 131 = .ok (.invokevirtual 187, 3) := by decide +kernel
theorem rd_KR_perform_134 : decode mb_KR_perform 134 = .ok (.invokevirtual 351, 3) := by decide +kernel
theorem rd_KR_perform_137 : decode mb_KR_perform 137 = .ok (.ireturn, 1) := by decide +kernel
theorem rd_KR_perform_138 : decode mb_KR_perform 138 = .ok (.aload_n 0, 1) := by decide +kernel
theorem rd_KR_perform_139 : decode mb_KR_perform 139 = .ok (.getfield 33, 3) := by decide +kernel
theorem rd_KR_perform_142 : decode mb_KR_perform 142 = .ok (.iload_n 2, 1) := by decide +kernel
theorem rd_KR_perform_143 : decode mb_KR_perform 143 = .ok (.iload_n 3, 1) := by decide +kernel
theorem rd_KR_perform_144 : decode mb_KR_perform 144 = .ok (.invokevirtual 354, 3) := by decide +kernel
theorem rd_KR_perform_147 : decode mb_KR_perform 147 = .ok (.ireturn, 1) := by decide +kernel
theorem rd_KR_perform_148 : decode mb_KR_perform 148 = .ok (.aload_n 0, 1) := by decide +kernel
theorem rd_KR_perform_149 : decode mb_KR_perform 149 = .ok (.getfield 33, 3) := by decide +kernel
theorem rd_KR_perform_152 : decode mb_KR_perform 152 = .ok (.iload_n 2, 1) := by decide +kernel
theorem rd_KR_perform_153 : decode mb_KR_perform 153 = .ok (.iload_n 3, 1) := by decide +kernel
theorem rd_KR_perform_154 : decode mb_KR_perform 154 = .ok (.iload 4, 2) := by decide +kernel
theorem rd_KR_perform_156 : decode mb_KR_perform 156 = .ok (.invokevirtual 357, 3) := by decide +kernel
theorem rd_KR_perform_159 : decode mb_KR_perform 159 = .ok (.ireturn, 1) := by decide +kernel
theorem rd_KR_perform_160 : decode mb_KR_perform 160 = .ok (.aload_n 0, 1) := by decide +kernel
theorem rd_KR_perform_161 : decode mb_KR_perform 161 = .ok (.getfield 33, 3) := by decide +kernel
theorem rd_KR_perform_164 : decode mb_KR_perform 164 = .ok (.iload_n 2, 1) := by decide +kernel
theorem rd_KR_perform_165 : decode mb_KR_perform 165 = .ok (.iload_n 3, 1) := by decide +kernel
theorem rd_KR_perform_166 : decode mb_KR_perform 166 = .ok (.invokevirtual 360, 3) := by decide +kernel
theorem rd_KR_perform_169 : decode mb_KR_perform 169 = .ok (.ireturn, 1) := by decide +kernel
theorem rd_KR_perform_170 : decode mb_KR_perform 170 = .ok (.aload_n 0, 1) := by decide +kernel
theorem rd_KR_perform_171 : decode mb_KR_perform 171 = .ok (.getfield 33, 3) := by decide +kernel
theorem rd_KR_perform_174 : decode mb_KR_perform 174 = .ok (.getfield 184, 3) := by decide +kernel
theorem rd_KR_perform_177 : decode mb_KR_perform 177 = .ok (.iload_n 2, 1) := by decide +kernel
theorem rd_KR_perform_178 : decode mb_KR_perform 178 = .ok (.iload_n 3, 1) := by decide +kernel
theorem rd_KR_perform_179 : decode mb_KR_perform 179 = .ok (.invokevirtual 363, 3) := by decide +kernel
theorem rd_KR_perform_182 : decode mb_KR_perform 182 = .ok (.ireturn, 1) := by decide +kernel
theorem rd_KR_perform_183 : decode mb_KR_perform 183 = .ok (.aload_n 0, 1) := by decide +kernel
theorem rd_KR_perform_184 : decode mb_KR_perform 184 = .ok (.getfield 33, 3) := by decide +kernel
theorem rd_KR_perform_187 : decode mb_KR_perform 187 = .ok (.iload_n 2, 1) := by decide +kernel
theorem rd_KR_perform_188 : decode mb_KR_perform 188 = .ok (.invokevirtual 366, 3) := by decide +kernel
theorem rd_KR_perform_191 : decode mb_KR_perform 191 = .ok (.ireturn, 1) := by decide +kernel
theorem rd_KR_perform_192 : decode mb_KR_perform 192 = .ok (.iconst (-1), 1) := by decide +kernel
theorem rd_KR_perform_193 : decode mb_KR_perform 193 = .ok (.ireturn, 1) := by decide +kernel
theorem rd_KR_isPlace_0 : decode mb_KR_isPlace 0 = .ok (.iload_n 0, 1) := by decide +kernel
theorem rd_KR_isPlace_1 : decode mb_KR_isPlace 1 = .ok (.ifCond .lt 12, 3) := by decide +kernel
theorem rd_KR_isPlace_4 : decode mb_KR_isPlace 4 = .ok (.iload_n 0, 1) := by decide +kernel
theorem rd_KR_isPlace_5 : decode mb_KR_isPlace 5 = .ok (.iconst 4, 1) := by decide +kernel
theorem rd_KR_isPlace_6 : decode mb_KR_isPlace 6 = .ok (.if_icmp .ge 7, 3) := by decide +kernel
theorem rd_KR_isPlace_9 : decode mb_KR_isPlace 9 = .ok (.iconst 1, 1) := by decide +kernel
theorem rd_KR_isPlace_10 : decode mb_KR_isPlace 10 = .ok (.goto 4, 3) := by decide +kernel
theorem rd_KR_isPlace_13 : decode mb_KR_isPlace 13 = .ok (.iconst 0, 1) := by decide +kernel
theorem rd_KR_isPlace_14 : decode mb_KR_isPlace 14 = .ok (.ireturn, 1) := by decide +kernel
theorem rd_KR_knotsProblem_0 : decode mb_KR_knotsProblem 0 = .ok (.aload_n 0, 1) := by decide +kernel
theorem rd_KR_knotsProblem_1 : decode mb_KR_knotsProblem 1 = .ok (.getfield 33, 3) := by decide +kernel
theorem rd_KR_knotsProblem_4 : decode mb_KR_knotsProblem 4 = .ok (.iload_n 1, 1) := by decide +kernel
theorem rd_KR_knotsProblem_5 : decode mb_KR_knotsProblem 5 = .ok (.invokevirtual 312, 3) := by decide +kernel
theorem rd_KR_knotsProblem_8 : decode mb_KR_knotsProblem 8 = .ok (.ifCond .ne 5, 3) := by decide +kernel
theorem rd_KR_knotsProblem_11 : decode mb_KR_knotsProblem 11 = .ok (.iconst 1, 1) := by decide +kernel
theorem rd_KR_knotsProblem_12 : decode mb_KR_knotsProblem 12 = .ok (.ireturn, 1) := by decide +kernel
theorem rd_KR_knotsProblem_13 : decode mb_KR_knotsProblem 13 = .ok (.iload_n 2, 1) := by decide +kernel
theorem rd_KR_knotsProblem_14 : decode mb_KR_knotsProblem 14 = .ok (.invokestatic 203, 3) := by decide +kernel
theorem rd_KR_knotsProblem_17 : decode mb_KR_knotsProblem 17 = .ok (.ifCond .eq 13, 3) := by decide +kernel
theorem rd_KR_knotsProblem_20 : decode mb_KR_knotsProblem 20 = .ok (.iload_n 3, 1) := by decide +kernel
theorem rd_KR_knotsProblem_21 : decode mb_KR_knotsProblem 21 = .ok (.ifCond .lt 9, 3) := by decide +kernel
theorem rd_KR_knotsProblem_24 : decode mb_KR_knotsProblem 24 = .ok (.iload_n 3, 1) := by decide +kernel
theorem rd_KR_knotsProblem_25 : decode mb_KR_knotsProblem 25 = .ok (.bipush 9, 2) := by decide +kernel
theorem rd_KR_knotsProblem_27 : decode mb_KR_knotsProblem 27 = .ok (.if_icmp .le 5, 3) := by decide +kernel
theorem rd_KR_knotsProblem_30 : decode mb_KR_knotsProblem 30 = .ok (.iconst 2, 1) := by decide +kernel
theorem rd_KR_knotsProblem_31 : decode mb_KR_knotsProblem 31 = .ok (.ireturn, 1) := by decide +kernel
theorem rd_KR_knotsProblem_32 : decode mb_KR_knotsProblem 32 = .ok (.iload_n 2, 1) := by decide +kernel
theorem rd_KR_knotsProblem_33 : decode mb_KR_knotsProblem 33 = .ok (.aload_n 0, 1) := by decide +kernel
theorem rd_KR_knotsProblem_34 : decode mb_KR_knotsProblem 34 = .ok (.getfield 33, 3) := by decide +kernel
theorem rd_KR_knotsProblem_37 : decode mb_KR_knotsProblem 37 = .ok (.getfield 194, 3) := by decide +kernel
theorem rd_KR_knotsProblem_40 : decode mb_KR_knotsProblem 40 = .ok (.iload_n 1, 1) := by decide +kernel
theorem rd_KR_knotsProblem_41 : decode mb_KR_knotsProblem 41 = .ok (.invokevirtual 119, 3) := by decide +kernel
theorem rd_KR_knotsProblem_44 : decode mb_KR_knotsProblem 44 = .ok (.if_icmp .lt 7, 3) := by decide +kernel
theorem rd_KR_knotsProblem_47 : decode mb_KR_knotsProblem 47 = .ok (.iconst 0, 1) := by decide +kernel
theorem rd_KR_knotsProblem_48 : decode mb_KR_knotsProblem 48 = .ok (.goto 4, 3) := by decide +kernel
theorem rd_KR_knotsProblem_51 : decode mb_KR_knotsProblem 51 = .ok (.iconst 3, 1) := by decide +kernel
theorem rd_KR_knotsProblem_52 : decode mb_KR_knotsProblem 52 = .ok (.ireturn, 1) := by decide +kernel
theorem rd_KR_newCordProblem_0 : decode mb_KR_newCordProblem 0 = .ok (.iload_n 1, 1) := by decide +kernel
theorem rd_KR_newCordProblem_1 : decode mb_KR_newCordProblem 1 = .ok (.ifCond .eq 14, 3) := by decide +kernel
theorem rd_KR_newCordProblem_4 : decode mb_KR_newCordProblem 4 = .ok (.aload_n 0, 1) := by decide +kernel
theorem rd_KR_newCordProblem_5 : decode mb_KR_newCordProblem 5 = .ok (.getfield 26, 3) := by decide +kernel
theorem rd_KR_newCordProblem_8 : decode mb_KR_newCordProblem 8 = .ok (.iload_n 3, 1) := by decide +kernel
theorem rd_KR_newCordProblem_9 : decode mb_KR_newCordProblem 9 = .ok (.invokevirtual 299, 3) := by decide +kernel
theorem rd_KR_newCordProblem_12 : decode mb_KR_newCordProblem 12 = .ok (.ifCond .ne 5, 3) := by decide +kernel
theorem rd_KR_newCordProblem_15 : decode mb_KR_newCordProblem 15 = .ok (.iconst 1, 1) := by decide +kernel
theorem rd_KR_newCordProblem_16 : decode mb_KR_newCordProblem 16 = .ok (.ireturn, 1) := by decide +kernel
theorem rd_KR_newCordProblem_17 : decode mb_KR_newCordProblem 17 = .ok (.iload 4, 2) := by decide +kernel
theorem rd_KR_newCordProblem_19 : decode mb_KR_newCordProblem 19 = .ok (.invokestatic 340, 3) := by decide +kernel
theorem rd_KR_newCordProblem_22 : decode mb_KR_newCordProblem 22 = .ok (.ifCond .ne 5, 3) := by decide +kernel
theorem rd_KR_newCordProblem_25 : decode mb_KR_newCordProblem 25 = .ok (.iconst 2, 1) := by decide +kernel
theorem rd_KR_newCordProblem_26 : decode mb_KR_newCordProblem 26 = .ok (.ireturn, 1) := by decide +kernel
theorem rd_KR_newCordProblem_27 : decode mb_KR_newCordProblem 27 = .ok (.iload_n 2, 1) := by decide +kernel
theorem rd_KR_newCordProblem_28 : decode mb_KR_newCordProblem 28 = .ok (.ifCond .eq 19, 3) := by decide +kernel
theorem rd_KR_newCordProblem_31 : decode mb_KR_newCordProblem 31 = .ok (.aload_n 0, 1) := by decide +kernel
theorem rd_KR_newCordProblem_32 : decode mb_KR_newCordProblem 32 = .ok (.getfield 33, 3) := by decide +kernel
theorem rd_KR_newCordProblem_35 : decode mb_KR_newCordProblem 35 = .ok (.getfield 105, 3) := by decide +kernel
theorem rd_KR_newCordProblem_38 : decode mb_KR_newCordProblem 38 = .ok (.bipush 40, 2) := by decide +kernel
theorem rd_KR_newCordProblem_40 : decode mb_KR_newCordProblem 40 = .ok (.if_icmp .ge 7, 3) := by decide +kernel
theorem rd_KR_newCordProblem_43 : decode mb_KR_newCordProblem 43 = .ok (.iconst 0, 1) := by decide +kernel
theorem rd_KR_newCordProblem_44 : decode mb_KR_newCordProblem 44 = .ok (.goto 4, 3) := by decide +kernel
theorem rd_KR_newCordProblem_47 : decode mb_KR_newCordProblem 47 = .ok (.iconst 3, 1) := by decide +kernel
theorem rd_KR_newCordProblem_48 : decode mb_KR_newCordProblem 48 = .ok (.ireturn, 1) := by decide +kernel
theorem rd_KR_nibbleProblem_0 : decode mb_KR_nibbleProblem 0 = .ok (.aload_n 0, 1) := by decide +kernel
theorem rd_KR_nibbleProblem_1 : decode mb_KR_nibbleProblem 1 = .ok (.getfield 33, 3) := by decide +kernel
theorem rd_KR_nibbleProblem_4 : decode mb_KR_nibbleProblem 4 = .ok (.iload_n 1, 1) := by decide +kernel
theorem rd_KR_nibbleProblem_5 : decode mb_KR_nibbleProblem 5 = .ok (.invokevirtual 312, 3) := by decide +kernel
theorem rd_KR_nibbleProblem_8 : decode mb_KR_nibbleProblem 8 = .ok (.ifCond .ne 5, 3) := by decide +kernel
theorem rd_KR_nibbleProblem_11 : decode mb_KR_nibbleProblem 11 = .ok (.iconst 1, 1) := by decide +kernel
theorem rd_KR_nibbleProblem_12 : decode mb_KR_nibbleProblem 12 = .ok (.ireturn, 1) := by decide +kernel
theorem rd_KR_nibbleProblem_13 : decode mb_KR_nibbleProblem 13 = .ok (.iload_n 2, 1) := by decide +kernel
theorem rd_KR_nibbleProblem_14 : decode mb_KR_nibbleProblem 14 = .ok (.iconst 1, 1) := by decide +kernel
theorem rd_KR_nibbleProblem_15 : decode mb_KR_nibbleProblem 15 = .ok (.if_icmp .lt 8, 3) := by decide +kernel
theorem rd_KR_nibbleProblem_18 : decode mb_KR_nibbleProblem 18 = .ok (.iload_n 2, 1) := by decide +kernel
theorem rd_KR_nibbleProblem_19 : decode mb_KR_nibbleProblem 19 = .ok (.iconst 4, 1) := by decide +kernel
theorem rd_KR_nibbleProblem_20 : decode mb_KR_nibbleProblem 20 = .ok (.if_icmp .le 5, 3) := by decide +kernel
theorem rd_KR_nibbleProblem_23 : decode mb_KR_nibbleProblem 23 = .ok (.iconst 2, 1) := by decide +kernel
theorem rd_KR_nibbleProblem_24 : decode mb_KR_nibbleProblem 24 = .ok (.ireturn, 1) := by decide +kernel
theorem rd_KR_nibbleProblem_25 : decode mb_KR_nibbleProblem 25 = .ok (.iload_n 2, 1) := by decide +kernel
theorem rd_KR_nibbleProblem_26 : decode mb_KR_nibbleProblem 26 = .ok (.aload_n 0, 1) := by decide +kernel
theorem rd_KR_nibbleProblem_27 : decode mb_KR_nibbleProblem 27 = .ok (.getfield 33, 3) := by decide +kernel
theorem rd_KR_nibbleProblem_30 : decode mb_KR_nibbleProblem 30 = .ok (.getfield 194, 3) := by decide +kernel
theorem rd_KR_nibbleProblem_33 : decode mb_KR_nibbleProblem 33 = .ok (.iload_n 1, 1) := by decide +kernel
theorem rd_KR_nibbleProblem_34 : decode mb_KR_nibbleProblem 34 = .ok (.invokevirtual 119, 3) := by decide +kernel
theorem rd_KR_nibbleProblem_37 : decode mb_KR_nibbleProblem 37 = .ok (.if_icmp .lt 7, 3) := by decide +kernel
theorem rd_KR_nibbleProblem_40 : decode mb_KR_nibbleProblem 40 = .ok (.iconst 0, 1) := by decide +kernel
theorem rd_KR_nibbleProblem_41 : decode mb_KR_nibbleProblem 41 = .ok (.goto 4, 3) := by decide +kernel
theorem rd_KR_nibbleProblem_44 : decode mb_KR_nibbleProblem 44 = .ok (.iconst 3, 1) := by decide +kernel
theorem rd_KR_nibbleProblem_45 : decode mb_KR_nibbleProblem 45 = .ok (.ireturn, 1) := by decide +kernel
theorem rd_KR_tieProblem_0 : decode mb_KR_tieProblem 0 = .ok (.aload_n 0, 1) := by decide +kernel
theorem rd_KR_tieProblem_1 : decode mb_KR_tieProblem 1 = .ok (.getfield 33, 3) := by decide +kernel
theorem rd_KR_tieProblem_4 : decode mb_KR_tieProblem 4 = .ok (.iload_n 1, 1) := by decide +kernel
theorem rd_KR_tieProblem_5 : decode mb_KR_tieProblem 5 = .ok (.invokevirtual 307, 3) := by decide +kernel
theorem rd_KR_tieProblem_8 : decode mb_KR_tieProblem 8 = .ok (.ifCond .eq 14, 3) := by decide +kernel
theorem rd_KR_tieProblem_11 : decode mb_KR_tieProblem 11 = .ok (.aload_n 0, 1) := by decide +kernel
theorem rd_KR_tieProblem_12 : decode mb_KR_tieProblem 12 = .ok (.getfield 26, 3) := by decide +kernel
theorem rd_KR_tieProblem_15 : decode mb_KR_tieProblem 15 = .ok (.iload_n 2, 1) := by decide +kernel
theorem rd_KR_tieProblem_16 : decode mb_KR_tieProblem 16 = .ok (.invokevirtual 299, 3) := by decide +kernel
theorem rd_KR_tieProblem_19 : decode mb_KR_tieProblem 19 = .ok (.ifCond .ne 5, 3) := by decide +kernel
theorem rd_KR_tieProblem_22 : decode mb_KR_tieProblem 22 = .ok (.iconst 1, 1) := by decide +kernel
theorem rd_KR_tieProblem_23 : decode mb_KR_tieProblem 23 = .ok (.ireturn, 1) := by decide +kernel
theorem rd_KR_tieProblem_24 : decode mb_KR_tieProblem 24 = .ok (.aload_n 0, 1) := by decide +kernel
theorem rd_KR_tieProblem_25 : decode mb_KR_tieProblem 25 = .ok (.getfield 33, 3) := by decide +kernel
theorem rd_KR_tieProblem_28 : decode mb_KR_tieProblem 28 = .ok (.iload_n 1, 1) := by decide +kernel
theorem rd_KR_tieProblem_29 : decode mb_KR_tieProblem 29 = .ok (.invokevirtual 230, 3) := by decide +kernel
theorem rd_KR_tieProblem_32 : decode mb_KR_tieProblem 32 = .ok (.ifCond .ne 34, 3) := by decide +kernel
theorem rd_KR_tieProblem_35 : decode mb_KR_tieProblem 35 = .ok (.aload_n 0, 1) := by decide +kernel
theorem rd_KR_tieProblem_36 : decode mb_KR_tieProblem 36 = .ok (.getfield 33, 3) := by decide +kernel
theorem rd_KR_tieProblem_39 : decode mb_KR_tieProblem 39 = .ok (.iload_n 1, 1) := by decide +kernel
theorem rd_KR_tieProblem_40 : decode mb_KR_tieProblem 40 = .ok (.invokevirtual 224, 3) := by decide +kernel
theorem rd_KR_tieProblem_43 : decode mb_KR_tieProblem 43 = .ok (.aload_n 0, 1) := by decide +kernel
theorem rd_KR_tieProblem_44 : decode mb_KR_tieProblem 44 = .ok (.getfield 33, 3) := by decide +kernel
theorem rd_KR_tieProblem_47 : decode mb_KR_tieProblem 47 = .ok (.iload_n 1, 1) := by decide +kernel
theorem rd_KR_tieProblem_48 : decode mb_KR_tieProblem 48 = .ok (.invokevirtual 227, 3) := by decide +kernel
theorem rd_KR_tieProblem_51 : decode mb_KR_tieProblem 51 = .ok (.if_icmp .eq 15, 3) := by decide +kernel
theorem rd_KR_tieProblem_54 : decode mb_KR_tieProblem 54 = .ok (.aload_n 0, 1) := by decide +kernel
theorem rd_KR_tieProblem_55 : decode mb_KR_tieProblem 55 = .ok (.getfield 33, 3) := by decide +kernel
theorem rd_KR_tieProblem_58 : decode mb_KR_tieProblem 58 = .ok (.getfield 105, 3) := by decide +kernel
theorem rd_KR_tieProblem_61 : decode mb_KR_tieProblem 61 = .ok (.bipush 40, 2) := by decide +kernel
theorem rd_KR_tieProblem_63 : decode mb_KR_tieProblem 63 = .ok (.if_icmp .lt 5, 3) := by decide +kernel
theorem rd_KR_tieProblem_66 : decode mb_KR_tieProblem 66 = .ok (.iconst 3, 1) := by decide +kernel
theorem rd_KR_tieProblem_67 : decode mb_KR_tieProblem 67 = .ok (.ireturn, 1) := by decide +kernel
theorem rd_KR_tieProblem_68 : decode mb_KR_tieProblem 68 = .ok (.aload_n 0, 1) := by decide +kernel
theorem rd_KR_tieProblem_69 : decode mb_KR_tieProblem 69 = .ok (.getfield 33, 3) := by decide +kernel
theorem rd_KR_tieProblem_72 : decode mb_KR_tieProblem 72 = .ok (.iload_n 1, 1) := by decide +kernel
theorem rd_KR_tieProblem_73 : decode mb_KR_tieProblem 73 = .ok (.invokevirtual 239, 3) := by decide +kernel
theorem rd_KR_tieProblem_76 : decode mb_KR_tieProblem 76 = .ok (.ifCond .eq 21, 3) := by decide +kernel
theorem rd_KR_tieProblem_79 : decode mb_KR_tieProblem 79 = .ok (.aload_n 0, 1) := by decide +kernel
theorem rd_KR_tieProblem_80 : decode mb_KR_tieProblem 80 = .ok (.getfield 33, 3) := by decide +kernel
theorem rd_KR_tieProblem_83 : decode mb_KR_tieProblem 83 = .ok (.iload_n 1, 1) := by decide +kernel
theorem rd_KR_tieProblem_84 : decode mb_KR_tieProblem 84 = .ok (.invokevirtual 244, 3) := by decide +kernel
theorem rd_KR_tieProblem_87 : decode mb_KR_tieProblem 87 = .ok (.invokestatic 340, 3) := by decide +kernel
theorem rd_KR_tieProblem_90 : decode mb_KR_tieProblem 90 = .ok (.ifCond .eq 7, 3) := by decide +kernel
theorem rd_KR_tieProblem_93 : decode mb_KR_tieProblem 93 = .ok (.iconst 0, 1) := by decide +kernel
theorem rd_KR_tieProblem_94 : decode mb_KR_tieProblem 94 = .ok (.goto 4, 3) := by decide +kernel
theorem rd_KR_tieProblem_97 : decode mb_KR_tieProblem 97 = .ok (.iconst 3, 1) := by decide +kernel
theorem rd_KR_tieProblem_98 : decode mb_KR_tieProblem 98 = .ok (.ireturn, 1) := by decide +kernel
def wd_Text_putByte (cI : ClassId) (a_t a_t_bytes a_t_bytes_k : Nat) (i_t_length : Int) (i_t_kind : Int) (i_t_start : Int) (i_t_end : Int) (i_t_code : Int) (i_t_offset : Int) (i_t_bytes : (Int → Int)) : va_W := [(a_t, .inr (3, [.ref a_t_bytes, jk_V i_t_length, jk_V i_t_kind, jk_V i_t_start, jk_V i_t_end, jk_V i_t_code, jk_V i_t_offset])), (a_t_bytes, .inr (0, [.ref a_t_bytes_k])), (a_t_bytes_k, jk_W cI 700 i_t_bytes)]
set_option maxHeartbeats 4000000 in
set_option maxRecDepth 20000 in
theorem ct_Text_putByte (l : Launch) (D : va_G) (Z : (Nat → Prop) → State → Heap → Prop) (sq : Nat → Nat) (hZ : jk_ZK Z sq) (cI cR : ClassId) (a_t a_t_bytes a_t_bytes_k : Nat) (i_t_length : Int) (i_t_kind : Int) (i_t_start : Int) (i_t_end : Int) (i_t_code : Int) (i_t_offset : Int) (i_t_bytes : (Int → Int)) (x1 : Int) (q : (Int → Int) × Int) (hf : fn_Text_putByte i_t_bytes i_t_length x1 = some q) : jk_MV l D jk_cl (jk_ty cI cR) Z mn_Text_putByte (.code mn_Text_putByte mb_Text_putByte 2 none :: jk_WA) (jk_rm 1 22) [.ref a_t, jk_V x1] (wd_Text_putByte cI a_t a_t_bytes a_t_bytes_k i_t_length i_t_kind i_t_start i_t_end i_t_code i_t_offset i_t_bytes) (wd_Text_putByte cI a_t a_t_bytes a_t_bytes_k q.2 i_t_kind i_t_start i_t_end i_t_code i_t_offset q.1) := by
  intro sz
  refine jk_body (by decide +kernel) (fun p e s m args below meth c hsz hz hin C => ?_) (Nat.le_of_ble_eq_true rfl)
  subst hsz
  unfold fn_Text_putByte at hf
  refine jk_aload_n C rd_Text_putByte_0 (k := 0) rfl ?_
  refine jk_get C in_Text (ci := 3) rfl 1 (by decide) tm_50 0 rfl rfl rd_Text_putByte_1 ?_
  refine jk_sipush C rd_Text_putByte_4 (by decide +kernel) ?_
  refine jk_icmp_ge (tgt := 32) C rd_Text_putByte_7 (by decide) hf (fun _ hf => ?_) (fun _ hf => ?_)
  · cases hf
    exact jk_vret C rfl rd_Text_putByte_32 rfl
  · refine jk_aload_n C rd_Text_putByte_10 (k := 0) rfl ?_
    refine jk_get C in_Text (ci := 3) rfl 0 (by decide) tm_49 0 rfl rfl rd_Text_putByte_11 ?_
    refine jk_aload_n C rd_Text_putByte_14 (k := 0) rfl ?_
    refine jk_get C in_Text (ci := 3) rfl 1 (by decide) tm_50 0 rfl rfl rd_Text_putByte_15 ?_
    refine jk_iload_n C rd_Text_putByte_18 (k := 1) rfl ?_
    obtain ⟨q19, hq19, hf⟩ := jk_bind_h hf
    refine jk_callVv C hZ.1 hz (ct_Row_set l D Z sq hZ cI cR (n_t := 700) (Nat.le_of_ble_eq_true rfl) a_t_bytes a_t_bytes_k i_t_bytes i_t_length x1 q19 hq19) tm_256 tm_257 tm_258 tm_3 tm_259 na_Row_set ⟨Nat.le_of_ble_eq_true rfl, Nat.le_of_ble_eq_true rfl⟩ rfl [1, 2] rfl rfl rfl (ws' := wd_Text_putByte cI a_t a_t_bytes a_t_bytes_k i_t_length i_t_kind i_t_start i_t_end i_t_code i_t_offset q19) rfl 1 0 rfl rfl rfl (st := []) rfl (Nat.le_of_ble_eq_true rfl) rd_Text_putByte_19 ?_ ⟨Nat.le_of_ble_eq_true rfl, Nat.le_of_ble_eq_true rfl⟩
    refine jk_aload_n C rd_Text_putByte_22 (k := 0) rfl ?_
    refine jk_dup C rd_Text_putByte_23 rfl ?_
    refine jk_get C in_Text (ci := 3) rfl 1 (by decide) tm_50 0 rfl rfl rd_Text_putByte_24 ?_
    refine jk_iconst C rd_Text_putByte_27 ?_
    refine jk_iadd C rd_Text_putByte_28 ?_
    refine jk_putf C in_Text ty_Text nm_Text (ci := 3) rfl 1 (by decide) tm_50 rfl rfl rfl 0 rfl (Nat.le_of_ble_eq_true rfl) rd_Text_putByte_29 (ws' := wd_Text_putByte cI a_t a_t_bytes a_t_bytes_k (i_t_length + 1) i_t_kind i_t_start i_t_end i_t_code i_t_offset q19) rfl ?_
    cases hf
    exact jk_vret C rfl rd_Text_putByte_32 rfl
def wd_Text_put (cI : ClassId) (a_t a_t_bytes a_t_bytes_k : Nat) (i_t_length : Int) (i_t_kind : Int) (i_t_start : Int) (i_t_end : Int) (i_t_code : Int) (i_t_offset : Int) (i_t_bytes : (Int → Int)) : va_W := [(a_t, .inr (3, [.ref a_t_bytes, jk_V i_t_length, jk_V i_t_kind, jk_V i_t_start, jk_V i_t_end, jk_V i_t_code, jk_V i_t_offset])), (a_t_bytes, .inr (0, [.ref a_t_bytes_k])), (a_t_bytes_k, jk_W cI 700 i_t_bytes)]
set_option maxHeartbeats 4000000 in
set_option maxRecDepth 20000 in
theorem ct_Text_put (l : Launch) (D : va_G) (Z : (Nat → Prop) → State → Heap → Prop) (sq : Nat → Nat) (hZ : jk_ZK Z sq) (cI cR : ClassId) (a_t a_t_bytes a_t_bytes_k : Nat) (i_t_length : Int) (i_t_kind : Int) (i_t_start : Int) (i_t_end : Int) (i_t_code : Int) (i_t_offset : Int) (i_t_bytes : (Int → Int)) (i_x1 : List Int) (q_i_x1 : Nat) (hq_i_x1 : jk_St Z q_i_x1 i_x1) (q : (Int → Int) × Int) (hf : fn_Text_put i_t_bytes i_t_length i_x1 = some q) : jk_MV l D jk_cl (jk_ty cI cR) Z mn_Text_put (.code mn_Text_put mb_Text_put 3 none :: jk_WA) (jk_rm 6 300) [.ref a_t, .ref q_i_x1] (wd_Text_put cI a_t a_t_bytes a_t_bytes_k i_t_length i_t_kind i_t_start i_t_end i_t_code i_t_offset i_t_bytes) (wd_Text_put cI a_t a_t_bytes a_t_bytes_k q.2 i_t_kind i_t_start i_t_end i_t_code i_t_offset q.1) := by
  intro sz
  refine jk_body (by decide +kernel) (fun p e s m args below meth c hsz hz hin C => ?_) (Nat.le_of_ble_eq_true rfl)
  subst hsz
  unfold fn_Text_put at hf
  have bk_2 : ∀ (n : Nat) (t_bytes : (Int → Int)) (t_length : Int) (v2 : Int), fn_Text_put_b2 n t_bytes t_length i_x1 v2 = some q → jk_J p l e (jk_rm 6 300) s m args below meth c 0 0 (jk_QV below D jk_cl (jk_ty cI cR) (wd_Text_put cI a_t a_t_bytes a_t_bytes_k i_t_length i_t_kind i_t_start i_t_end i_t_code i_t_offset i_t_bytes) (wd_Text_put cI a_t a_t_bytes a_t_bytes_k q.2 i_t_kind i_t_start i_t_end i_t_code i_t_offset q.1) args s) D jk_cl (va_A (wd_Text_put cI a_t a_t_bytes a_t_bytes_k i_t_length i_t_kind i_t_start i_t_end i_t_code i_t_offset i_t_bytes) s.heap.size) 3 (wd_Text_put cI a_t a_t_bytes a_t_bytes_k t_length i_t_kind i_t_start i_t_end i_t_code i_t_offset t_bytes) [(0, .ref a_t), (1, .ref q_i_x1), (2, jk_V v2)] 2 [] := by
    intro n
    induction n with
    | zero => intro t_bytes t_length v2 hf; exact nomatch (show none = some q from hf)
    | succ n ih =>
      intro t_bytes t_length v2 hf
      rw [fn_Text_put_b2] at hf
      refine jk_iload_n C rd_Text_put_2 (k := 2) rfl ?_
      refine jk_aload_n C rd_Text_put_3 (k := 1) rfl ?_
      refine jk_slen C hZ hz hq_i_x1 rd_Text_put_4 W_slen_Text_39 ⟨Nat.le_of_ble_eq_true rfl, Nat.le_of_ble_eq_true rfl⟩ (Nat.le_of_ble_eq_true rfl) ⟨Nat.le_of_ble_eq_true rfl, Nat.le_of_ble_eq_true rfl⟩ ?_
      refine jk_icmp_ge (tgt := 25) C rd_Text_put_7 (by decide) hf (fun _ hf => ?_) (fun _ hf => ?_)
      · cases hf
        exact jk_vret C rfl rd_Text_put_25 rfl
      · refine jk_aload_n C rd_Text_put_10 (k := 0) rfl ?_
        refine jk_aload_n C rd_Text_put_11 (k := 1) rfl ?_
        refine jk_iload_n C rd_Text_put_12 (k := 2) rfl ?_
        refine jk_sch C hZ hz hq_i_x1 rd_Text_put_13 W_sch_Text_44 ⟨Nat.le_of_ble_eq_true rfl, Nat.le_of_ble_eq_true rfl⟩ (Nat.le_of_ble_eq_true rfl) ⟨Nat.le_of_ble_eq_true rfl, Nat.le_of_ble_eq_true rfl⟩ hf (fun hf => ?_)
        obtain ⟨q16, hq16, hf⟩ := jk_bind_h hf
        refine jk_callVv C hZ.1 hz (ct_Text_putByte l D Z sq hZ cI cR a_t a_t_bytes a_t_bytes_k t_length i_t_kind i_t_start i_t_end i_t_code i_t_offset t_bytes ((i_x1.getD (v2).toNat 0)) q16 hq16) tm_252 tm_254 sl_0 tm_2 tm_255 na_Text_putByte ⟨Nat.le_of_ble_eq_true rfl, Nat.le_of_ble_eq_true rfl⟩ rfl [0, 1, 2] rfl rfl rfl (ws' := wd_Text_put cI a_t a_t_bytes a_t_bytes_k q16.2 i_t_kind i_t_start i_t_end i_t_code i_t_offset q16.1) rfl 0 3 rfl rfl rfl (st := []) rfl (Nat.le_of_ble_eq_true rfl) rd_Text_put_16 ?_ ⟨Nat.le_of_ble_eq_true rfl, Nat.le_of_ble_eq_true rfl⟩
        refine jk_iinc C rd_Text_put_19 (k := 2) rfl (by decide) (lv' := [(2, jk_V (v2 + 1)), (0, .ref a_t), (1, .ref q_i_x1)]) rfl ?_
        refine jk_goto (tgt := 2) C rd_Text_put_22 (by decide) ?_
        refine jk_lv (lv' := [(0, .ref a_t), (1, .ref q_i_x1), (2, jk_V (v2 + 1))]) [1, 2, 0] rfl ?_
        exact ih q16.1 q16.2 (v2 + 1) hf
  refine jk_iconst C rd_Text_put_0 ?_
  refine jk_istore_n C rd_Text_put_1 (by decide) (lv' := [(2, jk_V 0), (0, .ref a_t), (1, .ref q_i_x1)]) rfl ?_
  refine jk_lv (lv' := [(0, .ref a_t), (1, .ref q_i_x1), (2, jk_V 0)]) [1, 2, 0] rfl ?_
  exact bk_2 jk_F i_t_bytes i_t_length 0 hf
def wd_Text_putFour (cI : ClassId) (a_t a_t_bytes a_t_bytes_k : Nat) (i_t_length : Int) (i_t_kind : Int) (i_t_start : Int) (i_t_end : Int) (i_t_code : Int) (i_t_offset : Int) (i_t_bytes : (Int → Int)) : va_W := [(a_t, .inr (3, [.ref a_t_bytes, jk_V i_t_length, jk_V i_t_kind, jk_V i_t_start, jk_V i_t_end, jk_V i_t_code, jk_V i_t_offset])), (a_t_bytes, .inr (0, [.ref a_t_bytes_k])), (a_t_bytes_k, jk_W cI 700 i_t_bytes)]
set_option maxHeartbeats 4000000 in
set_option maxRecDepth 20000 in
theorem ct_Text_putFour (l : Launch) (D : va_G) (Z : (Nat → Prop) → State → Heap → Prop) (sq : Nat → Nat) (hZ : jk_ZK Z sq) (cI cR : ClassId) (a_t a_t_bytes a_t_bytes_k : Nat) (i_t_length : Int) (i_t_kind : Int) (i_t_start : Int) (i_t_end : Int) (i_t_code : Int) (i_t_offset : Int) (i_t_bytes : (Int → Int)) (x1 : Int) (q : (Int → Int) × Int) (hf : fn_Text_putFour i_t_bytes i_t_length x1 = some q) : jk_MV l D jk_cl (jk_ty cI cR) Z mn_Text_putFour (.code mn_Text_putFour mb_Text_putFour 3 none :: jk_WA) (jk_rm 2 43) [.ref a_t, jk_V x1] (wd_Text_putFour cI a_t a_t_bytes a_t_bytes_k i_t_length i_t_kind i_t_start i_t_end i_t_code i_t_offset i_t_bytes) (wd_Text_putFour cI a_t a_t_bytes a_t_bytes_k q.2 i_t_kind i_t_start i_t_end i_t_code i_t_offset q.1) := by
  intro sz
  refine jk_body (by decide +kernel) (fun p e s m args below meth c hsz hz hin C => ?_) (Nat.le_of_ble_eq_true rfl)
  subst hsz
  unfold fn_Text_putFour at hf
  have bk_3 : ∀ (n : Nat) (t_bytes : (Int → Int)) (t_length : Int) (v1 : Int) (v2 : Int), fn_Text_putFour_b3 n t_bytes t_length v1 v2 = some q → jk_J p l e (jk_rm 2 43) s m args below meth c 0 0 (jk_QV below D jk_cl (jk_ty cI cR) (wd_Text_putFour cI a_t a_t_bytes a_t_bytes_k i_t_length i_t_kind i_t_start i_t_end i_t_code i_t_offset i_t_bytes) (wd_Text_putFour cI a_t a_t_bytes a_t_bytes_k q.2 i_t_kind i_t_start i_t_end i_t_code i_t_offset q.1) args s) D jk_cl (va_A (wd_Text_putFour cI a_t a_t_bytes a_t_bytes_k i_t_length i_t_kind i_t_start i_t_end i_t_code i_t_offset i_t_bytes) s.heap.size) 3 (wd_Text_putFour cI a_t a_t_bytes a_t_bytes_k t_length i_t_kind i_t_start i_t_end i_t_code i_t_offset t_bytes) [(0, .ref a_t), (1, jk_V v1), (2, jk_V v2)] 3 [] := by
    intro n
    induction n with
    | zero => intro t_bytes t_length v1 v2 hf; exact nomatch (show none = some q from hf)
    | succ n ih =>
      intro t_bytes t_length v1 v2 hf
      rw [fn_Text_putFour_b3] at hf
      refine jk_iload_n C rd_Text_putFour_3 (k := 2) rfl ?_
      refine jk_if_lt (tgt := 24) C rd_Text_putFour_4 (by decide) hf (fun _ hf => ?_) (fun _ hf => ?_)
      · cases hf
        exact jk_vret C rfl rd_Text_putFour_24 rfl
      · refine jk_aload_n C rd_Text_putFour_7 (k := 0) rfl ?_
        refine jk_iload_n C rd_Text_putFour_8 (k := 1) rfl ?_
        refine jk_iload_n C rd_Text_putFour_9 (k := 2) rfl ?_
        refine jk_ishr C rd_Text_putFour_10 ?_
        refine jk_sipush C rd_Text_putFour_11 (by decide +kernel) ?_
        refine jk_iand C rd_Text_putFour_14 ?_
        obtain ⟨q15, hq15, hf⟩ := jk_bind_h hf
        refine jk_callVv C hZ.1 hz (ct_Text_putByte l D Z sq hZ cI cR a_t a_t_bytes a_t_bytes_k t_length i_t_kind i_t_start i_t_end i_t_code i_t_offset t_bytes (jk_and (jk_shr v1 v2) 255) q15 hq15) tm_252 tm_254 sl_0 tm_2 tm_255 na_Text_putByte ⟨Nat.le_of_ble_eq_true rfl, Nat.le_of_ble_eq_true rfl⟩ rfl [0, 1, 2] rfl rfl rfl (ws' := wd_Text_putFour cI a_t a_t_bytes a_t_bytes_k q15.2 i_t_kind i_t_start i_t_end i_t_code i_t_offset q15.1) rfl 0 3 rfl rfl rfl (st := []) rfl (Nat.le_of_ble_eq_true rfl) rd_Text_putFour_15 ?_ ⟨Nat.le_of_ble_eq_true rfl, Nat.le_of_ble_eq_true rfl⟩
        refine jk_iinc C rd_Text_putFour_18 (k := 2) rfl (by decide) (lv' := [(2, jk_V (v2 + (-8))), (0, .ref a_t), (1, jk_V v1)]) rfl ?_
        refine jk_goto (tgt := 3) C rd_Text_putFour_21 (by decide) ?_
        refine jk_lv (lv' := [(0, .ref a_t), (1, jk_V v1), (2, jk_V (v2 + (-8)))]) [1, 2, 0] rfl ?_
        exact ih q15.1 q15.2 v1 (v2 + (-8)) hf
  refine jk_bipush C rd_Text_putFour_0 (by decide +kernel) ?_
  refine jk_istore_n C rd_Text_putFour_2 (by decide) (lv' := [(2, jk_V 24), (0, .ref a_t), (1, jk_V x1)]) rfl ?_
  refine jk_lv (lv' := [(0, .ref a_t), (1, jk_V x1), (2, jk_V 24)]) [1, 2, 0] rfl ?_
  exact bk_3 jk_F i_t_bytes i_t_length x1 24 hf
def wd_Topics_copyFrom (cI : ClassId) (a_t a_t_names a_t_names_k a_a a_a_names a_a_names_k : Nat) (i_t_size : Int) (i_t_names : (Int → Int)) (i_a_size : Int) (i_a_names : (Int → Int)) : va_W := [(a_t, .inr (2, [jk_V i_t_size, .ref a_t_names])), (a_t_names, .inr (0, [.ref a_t_names_k])), (a_t_names_k, jk_W cI 8 i_t_names), (a_a, .inr (2, [jk_V i_a_size, .ref a_a_names])), (a_a_names, .inr (0, [.ref a_a_names_k])), (a_a_names_k, jk_W cI 8 i_a_names)]
set_option maxHeartbeats 4000000 in
set_option maxRecDepth 20000 in
theorem ct_Topics_copyFrom (l : Launch) (D : va_G) (Z : (Nat → Prop) → State → Heap → Prop) (sq : Nat → Nat) (hZ : jk_ZK Z sq) (cI cR : ClassId) (a_t a_t_names a_t_names_k a_a a_a_names a_a_names_k : Nat) (i_t_size : Int) (i_t_names : (Int → Int)) (i_a_size : Int) (i_a_names : (Int → Int)) (q : Int × (Int → Int)) (hf : fn_Topics_copyFrom i_t_size i_t_names i_a_size i_a_names = some q) : jk_MV l D jk_cl (jk_ty cI cR) Z mn_Topics_copyFrom (.code mn_Topics_copyFrom mb_Topics_copyFrom 2 none :: jk_WA) (jk_rm 2 43) [.ref a_t, .ref a_a] (wd_Topics_copyFrom cI a_t a_t_names a_t_names_k a_a a_a_names a_a_names_k i_t_size i_t_names i_a_size i_a_names) (wd_Topics_copyFrom cI a_t a_t_names a_t_names_k a_a a_a_names a_a_names_k q.1 q.2 i_a_size i_a_names) := by
  intro sz
  refine jk_body (by decide +kernel) (fun p e s m args below meth c hsz hz hin C => ?_) (Nat.le_of_ble_eq_true rfl)
  subst hsz
  unfold fn_Topics_copyFrom at hf
  refine jk_aload_n C rd_Topics_copyFrom_0 (k := 0) rfl ?_
  refine jk_aload_n C rd_Topics_copyFrom_1 (k := 1) rfl ?_
  refine jk_get C in_Topics (ci := 2) rfl 0 (by decide) tm_99 3 rfl rfl rd_Topics_copyFrom_2 ?_
  refine jk_putf C in_Topics ty_Topics nm_Topics (ci := 2) rfl 0 (by decide) tm_99 rfl rfl rfl 0 rfl (Nat.le_of_ble_eq_true rfl) rd_Topics_copyFrom_5 (ws' := wd_Topics_copyFrom cI a_t a_t_names a_t_names_k a_a a_a_names a_a_names_k i_a_size i_t_names i_a_size i_a_names) rfl ?_
  refine jk_aload_n C rd_Topics_copyFrom_8 (k := 0) rfl ?_
  refine jk_get C in_Topics (ci := 2) rfl 1 (by decide) tm_102 0 rfl rfl rd_Topics_copyFrom_9 ?_
  refine jk_aload_n C rd_Topics_copyFrom_12 (k := 1) rfl ?_
  refine jk_get C in_Topics (ci := 2) rfl 1 (by decide) tm_102 3 rfl rfl rd_Topics_copyFrom_13 ?_
  obtain ⟨q16, hq16, hf⟩ := jk_bind_h hf
  refine jk_callVv C hZ.1 hz (ct_Row_copyFrom l D Z sq hZ cI cR (n_a := 8) (n_t := 8) (Nat.le_of_ble_eq_true rfl) (Nat.le_of_ble_eq_true rfl) a_t_names a_t_names_k a_a_names a_a_names_k i_t_names i_a_names q16 hq16) tm_486 tm_487 tm_488 tm_3 tm_489 na_Row_copyFrom ⟨Nat.le_of_ble_eq_true rfl, Nat.le_of_ble_eq_true rfl⟩ rfl [1, 2, 4, 5] rfl rfl rfl (ws' := wd_Topics_copyFrom cI a_t a_t_names a_t_names_k a_a a_a_names a_a_names_k i_a_size q16 i_a_size i_a_names) rfl 1 0 rfl rfl rfl (st := []) rfl (Nat.le_of_ble_eq_true rfl) rd_Topics_copyFrom_16 ?_ ⟨Nat.le_of_ble_eq_true rfl, Nat.le_of_ble_eq_true rfl⟩
  cases hf
  exact jk_vret C rfl rd_Topics_copyFrom_19 rfl
def wd_Topics_has (cI : ClassId) (a_t a_t_names : Nat) (i_t_size : Int) : va_W := [(a_t, .inr (2, [jk_V i_t_size, .ref a_t_names]))]
set_option maxHeartbeats 4000000 in
set_option maxRecDepth 20000 in
theorem ct_Topics_has (l : Launch) (D : va_G) (Z : (Nat → Prop) → State → Heap → Prop) (sq : Nat → Nat) (hZ : jk_ZK Z sq) (cI cR : ClassId) (a_t a_t_names : Nat) (i_t_size : Int) (x1 : Int) (q : Int) (hf : fn_Topics_has i_t_size x1 = some q) : jk_MI l D jk_cl (jk_ty cI cR) Z mn_Topics_has (.code mn_Topics_has mb_Topics_has 2 (some .boolean) :: jk_WA) (jk_rm 0 0) [.ref a_t, jk_V x1] (wd_Topics_has cI a_t a_t_names i_t_size) (wd_Topics_has cI a_t a_t_names i_t_size) q := by
  intro sz
  refine jk_body (by decide +kernel) (fun p e s m args below meth c hsz hz hin C => ?_) (Nat.le_of_ble_eq_true rfl)
  subst hsz
  unfold fn_Topics_has at hf
  refine jk_iload_n C rd_Topics_has_0 (k := 1) rfl ?_
  refine jk_if_lt (tgt := 16) C rd_Topics_has_1 (by decide) hf (fun _ hf => ?_) (fun _ hf => ?_)
  · refine jk_iconst C rd_Topics_has_16 ?_
    cases hf
    exact jk_zret C (Or.inl rfl) rfl rd_Topics_has_17 rfl
  · refine jk_iload_n C rd_Topics_has_4 (k := 1) rfl ?_
    refine jk_aload_n C rd_Topics_has_5 (k := 0) rfl ?_
    refine jk_get C in_Topics (ci := 2) rfl 0 (by decide) tm_99 0 rfl rfl rd_Topics_has_6 ?_
    refine jk_icmp_ge (tgt := 16) C rd_Topics_has_9 (by decide) hf (fun _ hf => ?_) (fun _ hf => ?_)
    · refine jk_iconst C rd_Topics_has_16 ?_
      cases hf
      exact jk_zret C (Or.inl rfl) rfl rd_Topics_has_17 rfl
    · refine jk_iconst C rd_Topics_has_12 ?_
      refine jk_goto (tgt := 17) C rd_Topics_has_13 (by decide) ?_
      cases hf
      exact jk_zret C (Or.inr rfl) rfl rd_Topics_has_17 rfl
def wd_Topics_letter (cI : ClassId) (a_t a_t_names a_t_names_k : Nat) (i_t_size : Int) (i_t_names : (Int → Int)) : va_W := [(a_t, .inr (2, [jk_V i_t_size, .ref a_t_names])), (a_t_names, .inr (0, [.ref a_t_names_k])), (a_t_names_k, jk_W cI 8 i_t_names)]
set_option maxHeartbeats 4000000 in
set_option maxRecDepth 20000 in
theorem ct_Topics_letter (l : Launch) (D : va_G) (Z : (Nat → Prop) → State → Heap → Prop) (sq : Nat → Nat) (hZ : jk_ZK Z sq) (cI cR : ClassId) (a_t a_t_names a_t_names_k : Nat) (i_t_size : Int) (i_t_names : (Int → Int)) (x1 : Int) (x2 : Int) (q : Int) (hf : fn_Topics_letter i_t_names x1 x2 = some q) : jk_MI l D jk_cl (jk_ty cI cR) Z mn_Topics_letter (.code mn_Topics_letter mb_Topics_letter 4 (some .int) :: jk_WA) (jk_rm 1 21) [.ref a_t, jk_V x1, jk_V x2] (wd_Topics_letter cI a_t a_t_names a_t_names_k i_t_size i_t_names) (wd_Topics_letter cI a_t a_t_names a_t_names_k i_t_size i_t_names) q := by
  intro sz
  refine jk_body (by decide +kernel) (fun p e s m args below meth c hsz hz hin C => ?_) (Nat.le_of_ble_eq_true rfl)
  subst hsz
  unfold fn_Topics_letter at hf
  refine jk_iload_n C rd_Topics_letter_0 (k := 2) rfl ?_
  refine jk_if_lt (tgt := 10) C rd_Topics_letter_1 (by decide) hf (fun _ hf => ?_) (fun _ hf => ?_)
  · refine jk_iconst C rd_Topics_letter_10 ?_
    cases hf
    exact jk_iret C rfl rd_Topics_letter_11 rfl
  · refine jk_iload_n C rd_Topics_letter_4 (k := 2) rfl ?_
    refine jk_bipush C rd_Topics_letter_5 (by decide +kernel) ?_
    refine jk_icmp_lt (tgt := 12) C rd_Topics_letter_7 (by decide) hf (fun _ hf => ?_) (fun _ hf => ?_)
    · refine jk_aload_n C rd_Topics_letter_12 (k := 0) rfl ?_
      refine jk_get C in_Topics (ci := 2) rfl 1 (by decide) tm_102 0 rfl rfl rd_Topics_letter_13 ?_
      refine jk_iload_n C rd_Topics_letter_16 (k := 1) rfl ?_
      obtain ⟨q17, hq17, hf⟩ := jk_bind_h hf
      refine jk_callVi C hZ.1 hz (ct_Row_get l D Z sq hZ cI cR (n_t := 8) (Nat.le_of_ble_eq_true rfl) a_t_names a_t_names_k i_t_names x1 q17 hq17) tm_320 tm_292 tm_293 tm_3 tm_294 na_Row_get ⟨Nat.le_of_ble_eq_true rfl, Nat.le_of_ble_eq_true rfl⟩ rfl [1, 2] rfl rfl rfl (ws' := wd_Topics_letter cI a_t a_t_names a_t_names_k i_t_size i_t_names) rfl 1 0 rfl rfl rfl (st := []) rfl (Nat.le_of_ble_eq_true rfl) rd_Topics_letter_17 ?_ ⟨Nat.le_of_ble_eq_true rfl, Nat.le_of_ble_eq_true rfl⟩
      refine jk_iconst C rd_Topics_letter_20 ?_
      refine jk_iload_n C rd_Topics_letter_21 (k := 2) rfl ?_
      refine jk_imul C rd_Topics_letter_22 ?_
      refine jk_ishr C rd_Topics_letter_23 ?_
      refine jk_bipush C rd_Topics_letter_24 (by decide +kernel) ?_
      refine jk_iand C rd_Topics_letter_26 ?_
      refine jk_istore_n C rd_Topics_letter_27 (by decide) (lv' := [(3, jk_V (jk_and (jk_shr q17 (5 * x2)) 31)), (0, .ref a_t), (1, jk_V x1), (2, jk_V x2)]) rfl ?_
      refine jk_iload_n C rd_Topics_letter_28 (k := 0) rfl ?_
      refine jk_if_ne (tgt := 36) C rd_Topics_letter_29 (by decide) hf (fun _ hf => ?_) (fun _ hf => ?_)
      · refine jk_bipush C rd_Topics_letter_36 (by decide +kernel) ?_
        refine jk_iload_n C rd_Topics_letter_38 (k := 0) rfl ?_
        refine jk_iadd C rd_Topics_letter_39 ?_
        cases hf
        exact jk_iret C rfl rd_Topics_letter_40 rfl
      · refine jk_iconst C rd_Topics_letter_32 ?_
        refine jk_goto (tgt := 40) C rd_Topics_letter_33 (by decide) ?_
        cases hf
        exact jk_iret C rfl rd_Topics_letter_40 rfl
    · refine jk_iconst C rd_Topics_letter_10 ?_
      cases hf
      exact jk_iret C rfl rd_Topics_letter_11 rfl
def wd_KR_appendInput (cI : ClassId) (a_t a_t_input a_t_output a_t_topics a_t_cords a_t_draftTopics a_t_draft a_t_saved a_t_history a_t_script a_t_input_bytes a_t_input_bytes_k : Nat) (i_t_hasSaved : Int) (i_t_reportedCode : Int) (i_t_reportedOffset : Int) (i_t_input_length : Int) (i_t_input_kind : Int) (i_t_input_start : Int) (i_t_input_end : Int) (i_t_input_code : Int) (i_t_input_offset : Int) (i_t_input_bytes : (Int → Int)) : va_W := [(a_t, .inr (10, [.ref a_t_input, .ref a_t_output, .ref a_t_topics, .ref a_t_cords, .ref a_t_draftTopics, .ref a_t_draft, .ref a_t_saved, .ref a_t_history, .ref a_t_script, jk_V i_t_hasSaved, jk_V i_t_reportedCode, jk_V i_t_reportedOffset])), (a_t_input, .inr (3, [.ref a_t_input_bytes, jk_V i_t_input_length, jk_V i_t_input_kind, jk_V i_t_input_start, jk_V i_t_input_end, jk_V i_t_input_code, jk_V i_t_input_offset])), (a_t_input_bytes, .inr (0, [.ref a_t_input_bytes_k])), (a_t_input_bytes_k, jk_W cI 700 i_t_input_bytes)]
set_option maxHeartbeats 4000000 in
set_option maxRecDepth 20000 in
theorem ct_KR_appendInput (l : Launch) (D : va_G) (Z : (Nat → Prop) → State → Heap → Prop) (sq : Nat → Nat) (hZ : jk_ZK Z sq) (cI cR : ClassId) (a_t a_t_input a_t_output a_t_topics a_t_cords a_t_draftTopics a_t_draft a_t_saved a_t_history a_t_script a_t_input_bytes a_t_input_bytes_k : Nat) (i_t_hasSaved : Int) (i_t_reportedCode : Int) (i_t_reportedOffset : Int) (i_t_input_length : Int) (i_t_input_kind : Int) (i_t_input_start : Int) (i_t_input_end : Int) (i_t_input_code : Int) (i_t_input_offset : Int) (i_t_input_bytes : (Int → Int)) (x1 : Int) (x2 : Int) (x3 : Int) (x4 : Int) (x5 : Int) (q : Int × (Int → Int) × Int) (hf : fn_KR_appendInput i_t_input_bytes i_t_input_length x1 x2 x3 x4 x5 = some q) : jk_MI l D jk_cl (jk_ty cI cR) Z mn_KR_appendInput (.code mn_KR_appendInput mb_KR_appendInput 6 (some .int) :: jk_WA) (jk_rm 3 65) [.ref a_t, jk_V x1, jk_V x2, jk_V x3, jk_V x4, jk_V x5] (wd_KR_appendInput cI a_t a_t_input a_t_output a_t_topics a_t_cords a_t_draftTopics a_t_draft a_t_saved a_t_history a_t_script a_t_input_bytes a_t_input_bytes_k i_t_hasSaved i_t_reportedCode i_t_reportedOffset i_t_input_length i_t_input_kind i_t_input_start i_t_input_end i_t_input_code i_t_input_offset i_t_input_bytes) (wd_KR_appendInput cI a_t a_t_input a_t_output a_t_topics a_t_cords a_t_draftTopics a_t_draft a_t_saved a_t_history a_t_script a_t_input_bytes a_t_input_bytes_k i_t_hasSaved i_t_reportedCode i_t_reportedOffset q.2.2 i_t_input_kind i_t_input_start i_t_input_end i_t_input_code i_t_input_offset q.2.1) q.1 := by
  intro sz
  refine jk_body (by decide +kernel) (fun p e s m args below meth c hsz hz hin C => ?_) (Nat.le_of_ble_eq_true rfl)
  subst hsz
  unfold fn_KR_appendInput at hf
  refine jk_aload_n C rd_KR_appendInput_0 (k := 0) rfl ?_
  refine jk_get C in_KR (ci := 10) rfl 0 (by decide) tm_424 0 rfl rfl rd_KR_appendInput_1 ?_
  refine jk_getN C in_Text (ci := 3) rfl 1 (by decide) (jk_nw hZ hz tn_1) 1 rfl rfl rd_KR_appendInput_4 ?_
  refine jk_bipush C rd_KR_appendInput_7 (by decide +kernel) ?_
  refine jk_iadd C rd_KR_appendInput_9 ?_
  refine jk_sipush C rd_KR_appendInput_10 (by decide +kernel) ?_
  refine jk_icmp_le (tgt := 18) C rd_KR_appendInput_13 (by decide) hf (fun _ hf => ?_) (fun _ hf => ?_)
  · refine jk_aload_n C rd_KR_appendInput_18 (k := 0) rfl ?_
    refine jk_get C in_KR (ci := 10) rfl 0 (by decide) tm_424 0 rfl rfl rd_KR_appendInput_19 ?_
    refine jk_iload_n C rd_KR_appendInput_22 (k := 1) rfl ?_
    obtain ⟨q23, hq23, hf⟩ := jk_bind_h hf
    refine jk_callVv C hZ.1 hz (ct_Text_putFour l D Z sq hZ cI cR a_t_input a_t_input_bytes a_t_input_bytes_k i_t_input_length i_t_input_kind i_t_input_start i_t_input_end i_t_input_code i_t_input_offset i_t_input_bytes x1 q23 hq23) tm_466 tm_467 tm_468 tm_2 tm_469 na_Text_putFour ⟨Nat.le_of_ble_eq_true rfl, Nat.le_of_ble_eq_true rfl⟩ rfl [1, 2, 3] rfl rfl rfl (ws' := wd_KR_appendInput cI a_t a_t_input a_t_output a_t_topics a_t_cords a_t_draftTopics a_t_draft a_t_saved a_t_history a_t_script a_t_input_bytes a_t_input_bytes_k i_t_hasSaved i_t_reportedCode i_t_reportedOffset q23.2 i_t_input_kind i_t_input_start i_t_input_end i_t_input_code i_t_input_offset q23.1) rfl 1 3 rfl rfl rfl (st := []) rfl (Nat.le_of_ble_eq_true rfl) rd_KR_appendInput_23 ?_ ⟨Nat.le_of_ble_eq_true rfl, Nat.le_of_ble_eq_true rfl⟩
    refine jk_aload_n C rd_KR_appendInput_26 (k := 0) rfl ?_
    refine jk_get C in_KR (ci := 10) rfl 0 (by decide) tm_424 0 rfl rfl rd_KR_appendInput_27 ?_
    refine jk_iload_n C rd_KR_appendInput_30 (k := 2) rfl ?_
    obtain ⟨q31, hq31, hf⟩ := jk_bind_h hf
    refine jk_callVv C hZ.1 hz (ct_Text_putFour l D Z sq hZ cI cR a_t_input a_t_input_bytes a_t_input_bytes_k q23.2 i_t_input_kind i_t_input_start i_t_input_end i_t_input_code i_t_input_offset q23.1 x2 q31 hq31) tm_466 tm_467 tm_468 tm_2 tm_469 na_Text_putFour ⟨Nat.le_of_ble_eq_true rfl, Nat.le_of_ble_eq_true rfl⟩ rfl [1, 2, 3] rfl rfl rfl (ws' := wd_KR_appendInput cI a_t a_t_input a_t_output a_t_topics a_t_cords a_t_draftTopics a_t_draft a_t_saved a_t_history a_t_script a_t_input_bytes a_t_input_bytes_k i_t_hasSaved i_t_reportedCode i_t_reportedOffset q31.2 i_t_input_kind i_t_input_start i_t_input_end i_t_input_code i_t_input_offset q31.1) rfl 1 3 rfl rfl rfl (st := []) rfl (Nat.le_of_ble_eq_true rfl) rd_KR_appendInput_31 ?_ ⟨Nat.le_of_ble_eq_true rfl, Nat.le_of_ble_eq_true rfl⟩
    refine jk_aload_n C rd_KR_appendInput_34 (k := 0) rfl ?_
    refine jk_get C in_KR (ci := 10) rfl 0 (by decide) tm_424 0 rfl rfl rd_KR_appendInput_35 ?_
    refine jk_iload_n C rd_KR_appendInput_38 (k := 3) rfl ?_
    obtain ⟨q39, hq39, hf⟩ := jk_bind_h hf
    refine jk_callVv C hZ.1 hz (ct_Text_putFour l D Z sq hZ cI cR a_t_input a_t_input_bytes a_t_input_bytes_k q31.2 i_t_input_kind i_t_input_start i_t_input_end i_t_input_code i_t_input_offset q31.1 x3 q39 hq39) tm_466 tm_467 tm_468 tm_2 tm_469 na_Text_putFour ⟨Nat.le_of_ble_eq_true rfl, Nat.le_of_ble_eq_true rfl⟩ rfl [1, 2, 3] rfl rfl rfl (ws' := wd_KR_appendInput cI a_t a_t_input a_t_output a_t_topics a_t_cords a_t_draftTopics a_t_draft a_t_saved a_t_history a_t_script a_t_input_bytes a_t_input_bytes_k i_t_hasSaved i_t_reportedCode i_t_reportedOffset q39.2 i_t_input_kind i_t_input_start i_t_input_end i_t_input_code i_t_input_offset q39.1) rfl 1 3 rfl rfl rfl (st := []) rfl (Nat.le_of_ble_eq_true rfl) rd_KR_appendInput_39 ?_ ⟨Nat.le_of_ble_eq_true rfl, Nat.le_of_ble_eq_true rfl⟩
    refine jk_aload_n C rd_KR_appendInput_42 (k := 0) rfl ?_
    refine jk_get C in_KR (ci := 10) rfl 0 (by decide) tm_424 0 rfl rfl rd_KR_appendInput_43 ?_
    refine jk_iload C rd_KR_appendInput_46 (k := 4) rfl ?_
    obtain ⟨q48, hq48, hf⟩ := jk_bind_h hf
    refine jk_callVv C hZ.1 hz (ct_Text_putFour l D Z sq hZ cI cR a_t_input a_t_input_bytes a_t_input_bytes_k q39.2 i_t_input_kind i_t_input_start i_t_input_end i_t_input_code i_t_input_offset q39.1 x4 q48 hq48) tm_466 tm_467 tm_468 tm_2 tm_469 na_Text_putFour ⟨Nat.le_of_ble_eq_true rfl, Nat.le_of_ble_eq_true rfl⟩ rfl [1, 2, 3] rfl rfl rfl (ws' := wd_KR_appendInput cI a_t a_t_input a_t_output a_t_topics a_t_cords a_t_draftTopics a_t_draft a_t_saved a_t_history a_t_script a_t_input_bytes a_t_input_bytes_k i_t_hasSaved i_t_reportedCode i_t_reportedOffset q48.2 i_t_input_kind i_t_input_start i_t_input_end i_t_input_code i_t_input_offset q48.1) rfl 1 3 rfl rfl rfl (st := []) rfl (Nat.le_of_ble_eq_true rfl) rd_KR_appendInput_48 ?_ ⟨Nat.le_of_ble_eq_true rfl, Nat.le_of_ble_eq_true rfl⟩
    refine jk_aload_n C rd_KR_appendInput_51 (k := 0) rfl ?_
    refine jk_get C in_KR (ci := 10) rfl 0 (by decide) tm_424 0 rfl rfl rd_KR_appendInput_52 ?_
    refine jk_iload C rd_KR_appendInput_55 (k := 5) rfl ?_
    obtain ⟨q57, hq57, hf⟩ := jk_bind_h hf
    refine jk_callVv C hZ.1 hz (ct_Text_putFour l D Z sq hZ cI cR a_t_input a_t_input_bytes a_t_input_bytes_k q48.2 i_t_input_kind i_t_input_start i_t_input_end i_t_input_code i_t_input_offset q48.1 x5 q57 hq57) tm_466 tm_467 tm_468 tm_2 tm_469 na_Text_putFour ⟨Nat.le_of_ble_eq_true rfl, Nat.le_of_ble_eq_true rfl⟩ rfl [1, 2, 3] rfl rfl rfl (ws' := wd_KR_appendInput cI a_t a_t_input a_t_output a_t_topics a_t_cords a_t_draftTopics a_t_draft a_t_saved a_t_history a_t_script a_t_input_bytes a_t_input_bytes_k i_t_hasSaved i_t_reportedCode i_t_reportedOffset q57.2 i_t_input_kind i_t_input_start i_t_input_end i_t_input_code i_t_input_offset q57.1) rfl 1 3 rfl rfl rfl (st := []) rfl (Nat.le_of_ble_eq_true rfl) rd_KR_appendInput_57 ?_ ⟨Nat.le_of_ble_eq_true rfl, Nat.le_of_ble_eq_true rfl⟩
    refine jk_aload_n C rd_KR_appendInput_60 (k := 0) rfl ?_
    refine jk_get C in_KR (ci := 10) rfl 0 (by decide) tm_424 0 rfl rfl rd_KR_appendInput_61 ?_
    refine jk_getN C in_Text (ci := 3) rfl 1 (by decide) (jk_nw hZ hz tn_1) 1 rfl rfl rd_KR_appendInput_64 ?_
    cases hf
    exact jk_iret C rfl rd_KR_appendInput_67 rfl
  · refine jk_iconst C rd_KR_appendInput_16 ?_
    cases hf
    exact jk_iret C rfl rd_KR_appendInput_17 rfl
def wd_KR_truncateInput (cI : ClassId) (a_t a_t_input a_t_output a_t_topics a_t_cords a_t_draftTopics a_t_draft a_t_saved a_t_history a_t_script a_t_input_bytes : Nat) (i_t_hasSaved : Int) (i_t_reportedCode : Int) (i_t_reportedOffset : Int) (i_t_input_length : Int) (i_t_input_kind : Int) (i_t_input_start : Int) (i_t_input_end : Int) (i_t_input_code : Int) (i_t_input_offset : Int) : va_W := [(a_t, .inr (10, [.ref a_t_input, .ref a_t_output, .ref a_t_topics, .ref a_t_cords, .ref a_t_draftTopics, .ref a_t_draft, .ref a_t_saved, .ref a_t_history, .ref a_t_script, jk_V i_t_hasSaved, jk_V i_t_reportedCode, jk_V i_t_reportedOffset])), (a_t_input, .inr (3, [.ref a_t_input_bytes, jk_V i_t_input_length, jk_V i_t_input_kind, jk_V i_t_input_start, jk_V i_t_input_end, jk_V i_t_input_code, jk_V i_t_input_offset]))]
set_option maxHeartbeats 4000000 in
set_option maxRecDepth 20000 in
theorem ct_KR_truncateInput (l : Launch) (D : va_G) (Z : (Nat → Prop) → State → Heap → Prop) (sq : Nat → Nat) (hZ : jk_ZK Z sq) (cI cR : ClassId) (a_t a_t_input a_t_output a_t_topics a_t_cords a_t_draftTopics a_t_draft a_t_saved a_t_history a_t_script a_t_input_bytes : Nat) (i_t_hasSaved : Int) (i_t_reportedCode : Int) (i_t_reportedOffset : Int) (i_t_input_length : Int) (i_t_input_kind : Int) (i_t_input_start : Int) (i_t_input_end : Int) (i_t_input_code : Int) (i_t_input_offset : Int) (x1 : Int) (q : Int × Int) (hf : fn_KR_truncateInput i_t_input_length x1 = some q) : jk_MI l D jk_cl (jk_ty cI cR) Z mn_KR_truncateInput (.code mn_KR_truncateInput mb_KR_truncateInput 2 (some .boolean) :: jk_WA) (jk_rm 0 0) [.ref a_t, jk_V x1] (wd_KR_truncateInput cI a_t a_t_input a_t_output a_t_topics a_t_cords a_t_draftTopics a_t_draft a_t_saved a_t_history a_t_script a_t_input_bytes i_t_hasSaved i_t_reportedCode i_t_reportedOffset i_t_input_length i_t_input_kind i_t_input_start i_t_input_end i_t_input_code i_t_input_offset) (wd_KR_truncateInput cI a_t a_t_input a_t_output a_t_topics a_t_cords a_t_draftTopics a_t_draft a_t_saved a_t_history a_t_script a_t_input_bytes i_t_hasSaved i_t_reportedCode i_t_reportedOffset q.2 i_t_input_kind i_t_input_start i_t_input_end i_t_input_code i_t_input_offset) q.1 := by
  intro sz
  refine jk_body (by decide +kernel) (fun p e s m args below meth c hsz hz hin C => ?_) (Nat.le_of_ble_eq_true rfl)
  subst hsz
  unfold fn_KR_truncateInput at hf
  refine jk_iload_n C rd_KR_truncateInput_0 (k := 1) rfl ?_
  refine jk_if_lt (tgt := 15) C rd_KR_truncateInput_1 (by decide) hf (fun _ hf => ?_) (fun _ hf => ?_)
  · refine jk_iconst C rd_KR_truncateInput_15 ?_
    cases hf
    exact jk_zret C (Or.inl rfl) rfl rd_KR_truncateInput_16 rfl
  · refine jk_iload_n C rd_KR_truncateInput_4 (k := 1) rfl ?_
    refine jk_aload_n C rd_KR_truncateInput_5 (k := 0) rfl ?_
    refine jk_get C in_KR (ci := 10) rfl 0 (by decide) tm_424 0 rfl rfl rd_KR_truncateInput_6 ?_
    refine jk_getN C in_Text (ci := 3) rfl 1 (by decide) (jk_nw hZ hz tn_1) 1 rfl rfl rd_KR_truncateInput_9 ?_
    refine jk_icmp_le (tgt := 17) C rd_KR_truncateInput_12 (by decide) hf (fun _ hf => ?_) (fun _ hf => ?_)
    · refine jk_aload_n C rd_KR_truncateInput_17 (k := 0) rfl ?_
      refine jk_get C in_KR (ci := 10) rfl 0 (by decide) tm_424 0 rfl rfl rd_KR_truncateInput_18 ?_
      refine jk_iload_n C rd_KR_truncateInput_21 (k := 1) rfl ?_
      refine jk_putfN C in_Text ty_Text nm_Text (ci := 3) rfl 1 (by decide) (jk_nw hZ hz tn_1) rfl rfl rfl 1 rfl (Nat.le_of_ble_eq_true rfl) rd_KR_truncateInput_22 (ws' := wd_KR_truncateInput cI a_t a_t_input a_t_output a_t_topics a_t_cords a_t_draftTopics a_t_draft a_t_saved a_t_history a_t_script a_t_input_bytes i_t_hasSaved i_t_reportedCode i_t_reportedOffset x1 i_t_input_kind i_t_input_start i_t_input_end i_t_input_code i_t_input_offset) rfl ?_
      refine jk_iconst C rd_KR_truncateInput_25 ?_
      cases hf
      exact jk_zret C (Or.inr rfl) rfl rd_KR_truncateInput_26 rfl
    · refine jk_iconst C rd_KR_truncateInput_15 ?_
      cases hf
      exact jk_zret C (Or.inl rfl) rfl rd_KR_truncateInput_16 rfl
def wd_KR_closeText (cI : ClassId) (a_t a_t_input a_t_output a_t_topics a_t_cords a_t_draftTopics a_t_draft a_t_saved a_t_history a_t_script a_t_input_bytes : Nat) (i_t_hasSaved : Int) (i_t_reportedCode : Int) (i_t_reportedOffset : Int) (i_t_input_length : Int) (i_t_input_kind : Int) (i_t_input_start : Int) (i_t_input_end : Int) (i_t_input_code : Int) (i_t_input_offset : Int) : va_W := [(a_t, .inr (10, [.ref a_t_input, .ref a_t_output, .ref a_t_topics, .ref a_t_cords, .ref a_t_draftTopics, .ref a_t_draft, .ref a_t_saved, .ref a_t_history, .ref a_t_script, jk_V i_t_hasSaved, jk_V i_t_reportedCode, jk_V i_t_reportedOffset])), (a_t_input, .inr (3, [.ref a_t_input_bytes, jk_V i_t_input_length, jk_V i_t_input_kind, jk_V i_t_input_start, jk_V i_t_input_end, jk_V i_t_input_code, jk_V i_t_input_offset]))]
set_option maxHeartbeats 4000000 in
set_option maxRecDepth 20000 in
theorem ct_KR_closeText (l : Launch) (D : va_G) (Z : (Nat → Prop) → State → Heap → Prop) (sq : Nat → Nat) (hZ : jk_ZK Z sq) (cI cR : ClassId) (a_t a_t_input a_t_output a_t_topics a_t_cords a_t_draftTopics a_t_draft a_t_saved a_t_history a_t_script a_t_input_bytes : Nat) (i_t_hasSaved : Int) (i_t_reportedCode : Int) (i_t_reportedOffset : Int) (i_t_input_length : Int) (i_t_input_kind : Int) (i_t_input_start : Int) (i_t_input_end : Int) (i_t_input_code : Int) (i_t_input_offset : Int) (q : Int × Int × Int × Int) (hf : fn_KR_closeText i_t_input_length i_t_input_code i_t_input_offset i_t_reportedCode i_t_reportedOffset = some q) : jk_MI l D jk_cl (jk_ty cI cR) Z mn_KR_closeText (.code mn_KR_closeText mb_KR_closeText 1 (some .boolean) :: jk_WA) (jk_rm 1 20) [.ref a_t] (wd_KR_closeText cI a_t a_t_input a_t_output a_t_topics a_t_cords a_t_draftTopics a_t_draft a_t_saved a_t_history a_t_script a_t_input_bytes i_t_hasSaved i_t_reportedCode i_t_reportedOffset i_t_input_length i_t_input_kind i_t_input_start i_t_input_end i_t_input_code i_t_input_offset) (wd_KR_closeText cI a_t a_t_input a_t_output a_t_topics a_t_cords a_t_draftTopics a_t_draft a_t_saved a_t_history a_t_script a_t_input_bytes i_t_hasSaved q.2.2.1 q.2.2.2 q.2.1 i_t_input_kind i_t_input_start i_t_input_end i_t_input_code i_t_input_offset) q.1 := by
  intro sz
  refine jk_body (by decide +kernel) (fun p e s m args below meth c hsz hz hin C => ?_) (Nat.le_of_ble_eq_true rfl)
  subst hsz
  unfold fn_KR_closeText at hf
  refine jk_aload_n C rd_KR_closeText_0 (k := 0) rfl ?_
  refine jk_aload_n C rd_KR_closeText_1 (k := 0) rfl ?_
  refine jk_get C in_KR (ci := 10) rfl 0 (by decide) tm_424 0 rfl rfl rd_KR_closeText_2 ?_
  refine jk_getN C in_Text (ci := 3) rfl 5 (by decide) (jk_nw hZ hz tn_2) 1 rfl rfl rd_KR_closeText_5 ?_
  refine jk_putf C in_KR ty_KR nm_KR (ci := 10) rfl 10 (by decide) tm_434 rfl rfl rfl 0 rfl (Nat.le_of_ble_eq_true rfl) rd_KR_closeText_8 (ws' := wd_KR_closeText cI a_t a_t_input a_t_output a_t_topics a_t_cords a_t_draftTopics a_t_draft a_t_saved a_t_history a_t_script a_t_input_bytes i_t_hasSaved i_t_input_code i_t_reportedOffset i_t_input_length i_t_input_kind i_t_input_start i_t_input_end i_t_input_code i_t_input_offset) rfl ?_
  refine jk_aload_n C rd_KR_closeText_11 (k := 0) rfl ?_
  refine jk_aload_n C rd_KR_closeText_12 (k := 0) rfl ?_
  refine jk_get C in_KR (ci := 10) rfl 0 (by decide) tm_424 0 rfl rfl rd_KR_closeText_13 ?_
  refine jk_getN C in_Text (ci := 3) rfl 6 (by decide) (jk_nw hZ hz tn_3) 1 rfl rfl rd_KR_closeText_16 ?_
  refine jk_putf C in_KR ty_KR nm_KR (ci := 10) rfl 11 (by decide) tm_435 rfl rfl rfl 0 rfl (Nat.le_of_ble_eq_true rfl) rd_KR_closeText_19 (ws' := wd_KR_closeText cI a_t a_t_input a_t_output a_t_topics a_t_cords a_t_draftTopics a_t_draft a_t_saved a_t_history a_t_script a_t_input_bytes i_t_hasSaved i_t_input_code i_t_input_offset i_t_input_length i_t_input_kind i_t_input_start i_t_input_end i_t_input_code i_t_input_offset) rfl ?_
  refine jk_aload_n C rd_KR_closeText_22 (k := 0) rfl ?_
  refine jk_get C in_KR (ci := 10) rfl 0 (by decide) tm_424 0 rfl rfl rd_KR_closeText_23 ?_
  obtain ⟨q26, hq26, hf⟩ := jk_bind_h hf
  refine jk_callVv C hZ.1 hz (ct_Text_clear l D Z sq hZ cI cR a_t_input a_t_input_bytes i_t_input_length i_t_input_kind i_t_input_start i_t_input_end i_t_input_code i_t_input_offset q26 hq26) tm_420 tm_421 tm_422 tm_2 tm_423 na_Text_clear ⟨Nat.le_of_ble_eq_true rfl, Nat.le_of_ble_eq_true rfl⟩ rfl [1] rfl rfl rfl (ws' := wd_KR_closeText cI a_t a_t_input a_t_output a_t_topics a_t_cords a_t_draftTopics a_t_draft a_t_saved a_t_history a_t_script a_t_input_bytes i_t_hasSaved i_t_input_code i_t_input_offset q26 i_t_input_kind i_t_input_start i_t_input_end i_t_input_code i_t_input_offset) rfl 1 3 rfl rfl rfl (st := []) rfl (Nat.le_of_ble_eq_true rfl) rd_KR_closeText_26 ?_ ⟨Nat.le_of_ble_eq_true rfl, Nat.le_of_ble_eq_true rfl⟩
  refine jk_aload_n C rd_KR_closeText_29 (k := 0) rfl ?_
  refine jk_get C in_KR (ci := 10) rfl 10 (by decide) tm_434 0 rfl rfl rd_KR_closeText_30 ?_
  refine jk_if_ne (tgt := 40) C rd_KR_closeText_33 (by decide) hf (fun _ hf => ?_) (fun _ hf => ?_)
  · refine jk_iconst C rd_KR_closeText_40 ?_
    cases hf
    exact jk_zret C (Or.inl rfl) rfl rd_KR_closeText_41 rfl
  · refine jk_iconst C rd_KR_closeText_36 ?_
    refine jk_goto (tgt := 41) C rd_KR_closeText_37 (by decide) ?_
    cases hf
    exact jk_zret C (Or.inr rfl) rfl rd_KR_closeText_41 rfl
def wd_KR_loadCords (cI : ClassId) (a_t a_t_input a_t_output a_t_topics a_t_cords a_t_draftTopics a_t_draft a_t_saved a_t_history a_t_script a_t_input_bytes a_t_input_bytes_k a_t_topics_names a_t_topics_names_k a_t_cords_starts a_t_cords_depth a_t_cords_topic a_t_cords_value a_t_cords_nibbled a_t_cords_starts_k a_t_cords_depth_k a_t_cords_topic_k a_t_cords_value_k a_t_cords_nibbled_k a_t_draftTopics_names a_t_draftTopics_names_k a_t_draft_starts a_t_draft_depth a_t_draft_topic a_t_draft_value a_t_draft_nibbled a_t_draft_starts_k a_t_draft_depth_k a_t_draft_topic_k a_t_draft_value_k a_t_draft_nibbled_k a_t_history_ring : Nat) (i_t_hasSaved : Int) (i_t_reportedCode : Int) (i_t_reportedOffset : Int) (i_t_input_length : Int) (i_t_input_kind : Int) (i_t_input_start : Int) (i_t_input_end : Int) (i_t_input_code : Int) (i_t_input_offset : Int) (i_t_input_bytes : (Int → Int)) (i_t_topics_size : Int) (i_t_topics_names : (Int → Int)) (i_t_cords_clusters : Int) (i_t_cords_size : Int) (i_t_cords_starts : (Int → Int)) (i_t_cords_depth : (Int → Int)) (i_t_cords_topic : (Int → Int)) (i_t_cords_value : (Int → Int)) (i_t_cords_nibbled : (Int → Int)) (i_t_draftTopics_size : Int) (i_t_draftTopics_names : (Int → Int)) (i_t_draft_clusters : Int) (i_t_draft_size : Int) (i_t_draft_starts : (Int → Int)) (i_t_draft_depth : (Int → Int)) (i_t_draft_topic : (Int → Int)) (i_t_draft_value : (Int → Int)) (i_t_draft_nibbled : (Int → Int)) (i_t_history_latest : Int) (i_t_history_size : Int) : va_W := [(a_t, .inr (10, [.ref a_t_input, .ref a_t_output, .ref a_t_topics, .ref a_t_cords, .ref a_t_draftTopics, .ref a_t_draft, .ref a_t_saved, .ref a_t_history, .ref a_t_script, jk_V i_t_hasSaved, jk_V i_t_reportedCode, jk_V i_t_reportedOffset])), (a_t_input, .inr (3, [.ref a_t_input_bytes, jk_V i_t_input_length, jk_V i_t_input_kind, jk_V i_t_input_start, jk_V i_t_input_end, jk_V i_t_input_code, jk_V i_t_input_offset])), (a_t_input_bytes, .inr (0, [.ref a_t_input_bytes_k])), (a_t_input_bytes_k, jk_W cI 700 i_t_input_bytes), (a_t_topics, .inr (2, [jk_V i_t_topics_size, .ref a_t_topics_names])), (a_t_topics_names, .inr (0, [.ref a_t_topics_names_k])), (a_t_topics_names_k, jk_W cI 8 i_t_topics_names), (a_t_cords, .inr (5, [jk_V i_t_cords_clusters, jk_V i_t_cords_size, .ref a_t_cords_starts, .ref a_t_cords_depth, .ref a_t_cords_topic, .ref a_t_cords_value, .ref a_t_cords_nibbled])), (a_t_cords_starts, .inr (0, [.ref a_t_cords_starts_k])), (a_t_cords_starts_k, jk_W cI 7 i_t_cords_starts), (a_t_cords_depth, .inr (0, [.ref a_t_cords_depth_k])), (a_t_cords_depth_k, jk_W cI 40 i_t_cords_depth), (a_t_cords_topic, .inr (0, [.ref a_t_cords_topic_k])), (a_t_cords_topic_k, jk_W cI 40 i_t_cords_topic), (a_t_cords_value, .inr (0, [.ref a_t_cords_value_k])), (a_t_cords_value_k, jk_W cI 40 i_t_cords_value), (a_t_cords_nibbled, .inr (0, [.ref a_t_cords_nibbled_k])), (a_t_cords_nibbled_k, jk_W cI 40 i_t_cords_nibbled), (a_t_draftTopics, .inr (2, [jk_V i_t_draftTopics_size, .ref a_t_draftTopics_names])), (a_t_draftTopics_names, .inr (0, [.ref a_t_draftTopics_names_k])), (a_t_draftTopics_names_k, jk_W cI 8 i_t_draftTopics_names), (a_t_draft, .inr (5, [jk_V i_t_draft_clusters, jk_V i_t_draft_size, .ref a_t_draft_starts, .ref a_t_draft_depth, .ref a_t_draft_topic, .ref a_t_draft_value, .ref a_t_draft_nibbled])), (a_t_draft_starts, .inr (0, [.ref a_t_draft_starts_k])), (a_t_draft_starts_k, jk_W cI 7 i_t_draft_starts), (a_t_draft_depth, .inr (0, [.ref a_t_draft_depth_k])), (a_t_draft_depth_k, jk_W cI 40 i_t_draft_depth), (a_t_draft_topic, .inr (0, [.ref a_t_draft_topic_k])), (a_t_draft_topic_k, jk_W cI 40 i_t_draft_topic), (a_t_draft_value, .inr (0, [.ref a_t_draft_value_k])), (a_t_draft_value_k, jk_W cI 40 i_t_draft_value), (a_t_draft_nibbled, .inr (0, [.ref a_t_draft_nibbled_k])), (a_t_draft_nibbled_k, jk_W cI 40 i_t_draft_nibbled), (a_t_history, .inr (6, [.ref a_t_history_ring, jk_V i_t_history_latest, jk_V i_t_history_size]))]
set_option maxHeartbeats 4000000 in
set_option maxRecDepth 20000 in
theorem ct_KR_loadCords (l : Launch) (D : va_G) (Z : (Nat → Prop) → State → Heap → Prop) (sq : Nat → Nat) (hZ : jk_ZK Z sq) (cI cR : ClassId) (a_t a_t_input a_t_output a_t_topics a_t_cords a_t_draftTopics a_t_draft a_t_saved a_t_history a_t_script a_t_input_bytes a_t_input_bytes_k a_t_topics_names a_t_topics_names_k a_t_cords_starts a_t_cords_depth a_t_cords_topic a_t_cords_value a_t_cords_nibbled a_t_cords_starts_k a_t_cords_depth_k a_t_cords_topic_k a_t_cords_value_k a_t_cords_nibbled_k a_t_draftTopics_names a_t_draftTopics_names_k a_t_draft_starts a_t_draft_depth a_t_draft_topic a_t_draft_value a_t_draft_nibbled a_t_draft_starts_k a_t_draft_depth_k a_t_draft_topic_k a_t_draft_value_k a_t_draft_nibbled_k a_t_history_ring : Nat) (i_t_hasSaved : Int) (i_t_reportedCode : Int) (i_t_reportedOffset : Int) (i_t_input_length : Int) (i_t_input_kind : Int) (i_t_input_start : Int) (i_t_input_end : Int) (i_t_input_code : Int) (i_t_input_offset : Int) (i_t_input_bytes : (Int → Int)) (i_t_topics_size : Int) (i_t_topics_names : (Int → Int)) (i_t_cords_clusters : Int) (i_t_cords_size : Int) (i_t_cords_starts : (Int → Int)) (i_t_cords_depth : (Int → Int)) (i_t_cords_topic : (Int → Int)) (i_t_cords_value : (Int → Int)) (i_t_cords_nibbled : (Int → Int)) (i_t_draftTopics_size : Int) (i_t_draftTopics_names : (Int → Int)) (i_t_draft_clusters : Int) (i_t_draft_size : Int) (i_t_draft_starts : (Int → Int)) (i_t_draft_depth : (Int → Int)) (i_t_draft_topic : (Int → Int)) (i_t_draft_value : (Int → Int)) (i_t_draft_nibbled : (Int → Int)) (i_t_history_latest : Int) (i_t_history_size : Int) (q : Int × Int × Int × Int × Int × Int × Int × Int × (Int → Int) × Int × Int × (Int → Int) × (Int → Int) × (Int → Int) × (Int → Int) × (Int → Int) × Int × (Int → Int) × Int × Int × (Int → Int) × (Int → Int) × (Int → Int) × (Int → Int) × (Int → Int) × Int × Int × Int × Int) (hf : fn_KR_loadCords i_t_input_bytes i_t_input_length i_t_input_kind i_t_input_start i_t_input_end i_t_input_code i_t_input_offset i_t_topics_size i_t_topics_names i_t_cords_clusters i_t_cords_size i_t_cords_starts i_t_cords_depth i_t_cords_topic i_t_cords_value i_t_cords_nibbled i_t_draftTopics_size i_t_draftTopics_names i_t_draft_clusters i_t_draft_size i_t_draft_starts i_t_draft_depth i_t_draft_topic i_t_draft_value i_t_draft_nibbled i_t_history_size i_t_hasSaved i_t_reportedCode i_t_reportedOffset = some q) : jk_MI l D jk_cl (jk_ty cI cR) Z mn_KR_loadCords (.code mn_KR_loadCords mb_KR_loadCords 1 (some .int) :: jk_WA) (jk_rm 10 394) [.ref a_t] (wd_KR_loadCords cI a_t a_t_input a_t_output a_t_topics a_t_cords a_t_draftTopics a_t_draft a_t_saved a_t_history a_t_script a_t_input_bytes a_t_input_bytes_k a_t_topics_names a_t_topics_names_k a_t_cords_starts a_t_cords_depth a_t_cords_topic a_t_cords_value a_t_cords_nibbled a_t_cords_starts_k a_t_cords_depth_k a_t_cords_topic_k a_t_cords_value_k a_t_cords_nibbled_k a_t_draftTopics_names a_t_draftTopics_names_k a_t_draft_starts a_t_draft_depth a_t_draft_topic a_t_draft_value a_t_draft_nibbled a_t_draft_starts_k a_t_draft_depth_k a_t_draft_topic_k a_t_draft_value_k a_t_draft_nibbled_k a_t_history_ring i_t_hasSaved i_t_reportedCode i_t_reportedOffset i_t_input_length i_t_input_kind i_t_input_start i_t_input_end i_t_input_code i_t_input_offset i_t_input_bytes i_t_topics_size i_t_topics_names i_t_cords_clusters i_t_cords_size i_t_cords_starts i_t_cords_depth i_t_cords_topic i_t_cords_value i_t_cords_nibbled i_t_draftTopics_size i_t_draftTopics_names i_t_draft_clusters i_t_draft_size i_t_draft_starts i_t_draft_depth i_t_draft_topic i_t_draft_value i_t_draft_nibbled i_t_history_latest i_t_history_size) (wd_KR_loadCords cI a_t a_t_input a_t_output a_t_topics a_t_cords a_t_draftTopics a_t_draft a_t_saved a_t_history a_t_script a_t_input_bytes a_t_input_bytes_k a_t_topics_names a_t_topics_names_k a_t_cords_starts a_t_cords_depth a_t_cords_topic a_t_cords_value a_t_cords_nibbled a_t_cords_starts_k a_t_cords_depth_k a_t_cords_topic_k a_t_cords_value_k a_t_cords_nibbled_k a_t_draftTopics_names a_t_draftTopics_names_k a_t_draft_starts a_t_draft_depth a_t_draft_topic a_t_draft_value a_t_draft_nibbled a_t_draft_starts_k a_t_draft_depth_k a_t_draft_topic_k a_t_draft_value_k a_t_draft_nibbled_k a_t_history_ring q.2.2.2.2.2.2.2.2.2.2.2.2.2.2.2.2.2.2.2.2.2.2.2.2.2.2.1 q.2.2.2.2.2.2.2.2.2.2.2.2.2.2.2.2.2.2.2.2.2.2.2.2.2.2.2.1 q.2.2.2.2.2.2.2.2.2.2.2.2.2.2.2.2.2.2.2.2.2.2.2.2.2.2.2.2 q.2.1 q.2.2.1 q.2.2.2.1 q.2.2.2.2.1 q.2.2.2.2.2.1 q.2.2.2.2.2.2.1 i_t_input_bytes q.2.2.2.2.2.2.2.1 q.2.2.2.2.2.2.2.2.1 q.2.2.2.2.2.2.2.2.2.1 q.2.2.2.2.2.2.2.2.2.2.1 q.2.2.2.2.2.2.2.2.2.2.2.1 q.2.2.2.2.2.2.2.2.2.2.2.2.1 q.2.2.2.2.2.2.2.2.2.2.2.2.2.1 q.2.2.2.2.2.2.2.2.2.2.2.2.2.2.1 q.2.2.2.2.2.2.2.2.2.2.2.2.2.2.2.1 q.2.2.2.2.2.2.2.2.2.2.2.2.2.2.2.2.1 q.2.2.2.2.2.2.2.2.2.2.2.2.2.2.2.2.2.1 q.2.2.2.2.2.2.2.2.2.2.2.2.2.2.2.2.2.2.1 q.2.2.2.2.2.2.2.2.2.2.2.2.2.2.2.2.2.2.2.1 q.2.2.2.2.2.2.2.2.2.2.2.2.2.2.2.2.2.2.2.2.1 q.2.2.2.2.2.2.2.2.2.2.2.2.2.2.2.2.2.2.2.2.2.1 q.2.2.2.2.2.2.2.2.2.2.2.2.2.2.2.2.2.2.2.2.2.2.1 q.2.2.2.2.2.2.2.2.2.2.2.2.2.2.2.2.2.2.2.2.2.2.2.1 q.2.2.2.2.2.2.2.2.2.2.2.2.2.2.2.2.2.2.2.2.2.2.2.2.1 i_t_history_latest q.2.2.2.2.2.2.2.2.2.2.2.2.2.2.2.2.2.2.2.2.2.2.2.2.2.1) q.1 := by
  intro sz
  refine jk_body (by decide +kernel) (fun p e s m args below meth c hsz hz hin C => ?_) (Nat.le_of_ble_eq_true rfl)
  subst hsz
  unfold fn_KR_loadCords at hf
  refine jk_aload_n C rd_KR_loadCords_0 (k := 0) rfl ?_
  refine jk_get C in_KR (ci := 10) rfl 0 (by decide) tm_424 0 rfl rfl rd_KR_loadCords_1 ?_
  refine jk_aload_n C rd_KR_loadCords_4 (k := 0) rfl ?_
  refine jk_get C in_KR (ci := 10) rfl 4 (by decide) tm_428 0 rfl rfl rd_KR_loadCords_5 ?_
  refine jk_aload_n C rd_KR_loadCords_8 (k := 0) rfl ?_
  refine jk_get C in_KR (ci := 10) rfl 5 (by decide) tm_429 0 rfl rfl rd_KR_loadCords_9 ?_
  obtain ⟨q12, hq12, hf⟩ := jk_bind_h hf
  refine jk_callSv C hZ.1 hz (ct_Setup_parse l D Z sq hZ cI cR a_t_input a_t_input_bytes a_t_input_bytes_k a_t_draftTopics a_t_draftTopics_names a_t_draftTopics_names_k a_t_draft a_t_draft_starts a_t_draft_depth a_t_draft_topic a_t_draft_value a_t_draft_nibbled a_t_draft_starts_k a_t_draft_depth_k a_t_draft_topic_k a_t_draft_value_k a_t_draft_nibbled_k i_t_input_length i_t_input_kind i_t_input_start i_t_input_end i_t_input_code i_t_input_offset i_t_input_bytes i_t_draftTopics_size i_t_draftTopics_names i_t_draft_clusters i_t_draft_size i_t_draft_starts i_t_draft_depth i_t_draft_topic i_t_draft_value i_t_draft_nibbled q12 hq12) tm_260 tm_261 tm_13 tm_262 na_Setup_parse ⟨Nat.le_of_ble_eq_true rfl, Nat.le_of_ble_eq_true rfl⟩ rfl [1, 2, 3, 18, 19, 20, 21, 22, 23, 24, 25, 26, 27, 28, 29, 30, 31] rfl rfl rfl (ws' := wd_KR_loadCords cI a_t a_t_input a_t_output a_t_topics a_t_cords a_t_draftTopics a_t_draft a_t_saved a_t_history a_t_script a_t_input_bytes a_t_input_bytes_k a_t_topics_names a_t_topics_names_k a_t_cords_starts a_t_cords_depth a_t_cords_topic a_t_cords_value a_t_cords_nibbled a_t_cords_starts_k a_t_cords_depth_k a_t_cords_topic_k a_t_cords_value_k a_t_cords_nibbled_k a_t_draftTopics_names a_t_draftTopics_names_k a_t_draft_starts a_t_draft_depth a_t_draft_topic a_t_draft_value a_t_draft_nibbled a_t_draft_starts_k a_t_draft_depth_k a_t_draft_topic_k a_t_draft_value_k a_t_draft_nibbled_k a_t_history_ring i_t_hasSaved i_t_reportedCode i_t_reportedOffset i_t_input_length q12.1 q12.2.1 q12.2.2.1 q12.2.2.2.1 q12.2.2.2.2.1 i_t_input_bytes i_t_topics_size i_t_topics_names i_t_cords_clusters i_t_cords_size i_t_cords_starts i_t_cords_depth i_t_cords_topic i_t_cords_value i_t_cords_nibbled q12.2.2.2.2.2.1 q12.2.2.2.2.2.2.1 q12.2.2.2.2.2.2.2.1 q12.2.2.2.2.2.2.2.2.1 q12.2.2.2.2.2.2.2.2.2.1 q12.2.2.2.2.2.2.2.2.2.2.1 q12.2.2.2.2.2.2.2.2.2.2.2.1 q12.2.2.2.2.2.2.2.2.2.2.2.2.1 q12.2.2.2.2.2.2.2.2.2.2.2.2.2 i_t_history_latest i_t_history_size) rfl (st := []) rfl (Nat.le_of_ble_eq_true rfl) rd_KR_loadCords_12 ?_ ⟨Nat.le_of_ble_eq_true rfl, Nat.le_of_ble_eq_true rfl⟩
  refine jk_aload_n C rd_KR_loadCords_15 (k := 0) rfl ?_
  obtain ⟨q16, hq16, hf⟩ := jk_bind_h hf
  refine jk_callVi C hZ.1 hz (ct_KR_closeText l D Z sq hZ cI cR a_t a_t_input a_t_output a_t_topics a_t_cords a_t_draftTopics a_t_draft a_t_saved a_t_history a_t_script a_t_input_bytes i_t_hasSaved i_t_reportedCode i_t_reportedOffset i_t_input_length q12.1 q12.2.1 q12.2.2.1 q12.2.2.2.1 q12.2.2.2.2.1 q16 hq16) tm_478 tm_480 sl_4 tm_1 tm_481 na_KR_closeText ⟨Nat.le_of_ble_eq_true rfl, Nat.le_of_ble_eq_true rfl⟩ rfl [0, 1] rfl rfl rfl (ws' := wd_KR_loadCords cI a_t a_t_input a_t_output a_t_topics a_t_cords a_t_draftTopics a_t_draft a_t_saved a_t_history a_t_script a_t_input_bytes a_t_input_bytes_k a_t_topics_names a_t_topics_names_k a_t_cords_starts a_t_cords_depth a_t_cords_topic a_t_cords_value a_t_cords_nibbled a_t_cords_starts_k a_t_cords_depth_k a_t_cords_topic_k a_t_cords_value_k a_t_cords_nibbled_k a_t_draftTopics_names a_t_draftTopics_names_k a_t_draft_starts a_t_draft_depth a_t_draft_topic a_t_draft_value a_t_draft_nibbled a_t_draft_starts_k a_t_draft_depth_k a_t_draft_topic_k a_t_draft_value_k a_t_draft_nibbled_k a_t_history_ring i_t_hasSaved q16.2.2.1 q16.2.2.2 q16.2.1 q12.1 q12.2.1 q12.2.2.1 q12.2.2.2.1 q12.2.2.2.2.1 i_t_input_bytes i_t_topics_size i_t_topics_names i_t_cords_clusters i_t_cords_size i_t_cords_starts i_t_cords_depth i_t_cords_topic i_t_cords_value i_t_cords_nibbled q12.2.2.2.2.2.1 q12.2.2.2.2.2.2.1 q12.2.2.2.2.2.2.2.1 q12.2.2.2.2.2.2.2.2.1 q12.2.2.2.2.2.2.2.2.2.1 q12.2.2.2.2.2.2.2.2.2.2.1 q12.2.2.2.2.2.2.2.2.2.2.2.1 q12.2.2.2.2.2.2.2.2.2.2.2.2.1 q12.2.2.2.2.2.2.2.2.2.2.2.2.2 i_t_history_latest i_t_history_size) rfl 0 10 rfl rfl rfl (st := []) rfl (Nat.le_of_ble_eq_true rfl) rd_KR_loadCords_16 ?_ ⟨Nat.le_of_ble_eq_true rfl, Nat.le_of_ble_eq_true rfl⟩
  refine jk_if_ne (tgt := 24) C rd_KR_loadCords_19 (by decide) hf (fun _ hf => ?_) (fun _ hf => ?_)
  · refine jk_aload_n C rd_KR_loadCords_24 (k := 0) rfl ?_
    refine jk_get C in_KR (ci := 10) rfl 2 (by decide) tm_426 0 rfl rfl rd_KR_loadCords_25 ?_
    refine jk_aload_n C rd_KR_loadCords_28 (k := 0) rfl ?_
    refine jk_get C in_KR (ci := 10) rfl 4 (by decide) tm_428 0 rfl rfl rd_KR_loadCords_29 ?_
    obtain ⟨q32, hq32, hf⟩ := jk_bind_h hf
    refine jk_callVv C hZ.1 hz (ct_Topics_copyFrom l D Z sq hZ cI cR a_t_topics a_t_topics_names a_t_topics_names_k a_t_draftTopics a_t_draftTopics_names a_t_draftTopics_names_k i_t_topics_size i_t_topics_names q12.2.2.2.2.2.1 q12.2.2.2.2.2.2.1 q32 hq32) tm_482 tm_483 tm_484 tm_5 tm_485 na_Topics_copyFrom ⟨Nat.le_of_ble_eq_true rfl, Nat.le_of_ble_eq_true rfl⟩ rfl [4, 5, 6, 18, 19, 20] rfl rfl rfl (ws' := wd_KR_loadCords cI a_t a_t_input a_t_output a_t_topics a_t_cords a_t_draftTopics a_t_draft a_t_saved a_t_history a_t_script a_t_input_bytes a_t_input_bytes_k a_t_topics_names a_t_topics_names_k a_t_cords_starts a_t_cords_depth a_t_cords_topic a_t_cords_value a_t_cords_nibbled a_t_cords_starts_k a_t_cords_depth_k a_t_cords_topic_k a_t_cords_value_k a_t_cords_nibbled_k a_t_draftTopics_names a_t_draftTopics_names_k a_t_draft_starts a_t_draft_depth a_t_draft_topic a_t_draft_value a_t_draft_nibbled a_t_draft_starts_k a_t_draft_depth_k a_t_draft_topic_k a_t_draft_value_k a_t_draft_nibbled_k a_t_history_ring i_t_hasSaved q16.2.2.1 q16.2.2.2 q16.2.1 q12.1 q12.2.1 q12.2.2.1 q12.2.2.2.1 q12.2.2.2.2.1 i_t_input_bytes q32.1 q32.2 i_t_cords_clusters i_t_cords_size i_t_cords_starts i_t_cords_depth i_t_cords_topic i_t_cords_value i_t_cords_nibbled q12.2.2.2.2.2.1 q12.2.2.2.2.2.2.1 q12.2.2.2.2.2.2.2.1 q12.2.2.2.2.2.2.2.2.1 q12.2.2.2.2.2.2.2.2.2.1 q12.2.2.2.2.2.2.2.2.2.2.1 q12.2.2.2.2.2.2.2.2.2.2.2.1 q12.2.2.2.2.2.2.2.2.2.2.2.2.1 q12.2.2.2.2.2.2.2.2.2.2.2.2.2 i_t_history_latest i_t_history_size) rfl 4 2 rfl rfl rfl (st := []) rfl (Nat.le_of_ble_eq_true rfl) rd_KR_loadCords_32 ?_ ⟨Nat.le_of_ble_eq_true rfl, Nat.le_of_ble_eq_true rfl⟩
    refine jk_aload_n C rd_KR_loadCords_35 (k := 0) rfl ?_
    refine jk_get C in_KR (ci := 10) rfl 3 (by decide) tm_427 0 rfl rfl rd_KR_loadCords_36 ?_
    refine jk_aload_n C rd_KR_loadCords_39 (k := 0) rfl ?_
    refine jk_get C in_KR (ci := 10) rfl 5 (by decide) tm_429 0 rfl rfl rd_KR_loadCords_40 ?_
    obtain ⟨q43, hq43, hf⟩ := jk_bind_h hf
    refine jk_callVv C hZ.1 hz (ct_Cords_copyFrom l D Z sq hZ cI cR a_t_cords a_t_cords_starts a_t_cords_depth a_t_cords_topic a_t_cords_value a_t_cords_nibbled a_t_cords_starts_k a_t_cords_depth_k a_t_cords_topic_k a_t_cords_value_k a_t_cords_nibbled_k a_t_draft a_t_draft_starts a_t_draft_depth a_t_draft_topic a_t_draft_value a_t_draft_nibbled a_t_draft_starts_k a_t_draft_depth_k a_t_draft_topic_k a_t_draft_value_k a_t_draft_nibbled_k i_t_cords_clusters i_t_cords_size i_t_cords_starts i_t_cords_depth i_t_cords_topic i_t_cords_value i_t_cords_nibbled q12.2.2.2.2.2.2.2.1 q12.2.2.2.2.2.2.2.2.1 q12.2.2.2.2.2.2.2.2.2.1 q12.2.2.2.2.2.2.2.2.2.2.1 q12.2.2.2.2.2.2.2.2.2.2.2.1 q12.2.2.2.2.2.2.2.2.2.2.2.2.1 q12.2.2.2.2.2.2.2.2.2.2.2.2.2 q43 hq43) tm_490 tm_491 tm_492 tm_6 tm_493 na_Cords_copyFrom ⟨Nat.le_of_ble_eq_true rfl, Nat.le_of_ble_eq_true rfl⟩ rfl [7, 8, 9, 10, 11, 12, 13, 14, 15, 16, 17, 21, 22, 23, 24, 25, 26, 27, 28, 29, 30, 31] rfl rfl rfl (ws' := wd_KR_loadCords cI a_t a_t_input a_t_output a_t_topics a_t_cords a_t_draftTopics a_t_draft a_t_saved a_t_history a_t_script a_t_input_bytes a_t_input_bytes_k a_t_topics_names a_t_topics_names_k a_t_cords_starts a_t_cords_depth a_t_cords_topic a_t_cords_value a_t_cords_nibbled a_t_cords_starts_k a_t_cords_depth_k a_t_cords_topic_k a_t_cords_value_k a_t_cords_nibbled_k a_t_draftTopics_names a_t_draftTopics_names_k a_t_draft_starts a_t_draft_depth a_t_draft_topic a_t_draft_value a_t_draft_nibbled a_t_draft_starts_k a_t_draft_depth_k a_t_draft_topic_k a_t_draft_value_k a_t_draft_nibbled_k a_t_history_ring i_t_hasSaved q16.2.2.1 q16.2.2.2 q16.2.1 q12.1 q12.2.1 q12.2.2.1 q12.2.2.2.1 q12.2.2.2.2.1 i_t_input_bytes q32.1 q32.2 q43.1 q43.2.1 q43.2.2.1 q43.2.2.2.1 q43.2.2.2.2.1 q43.2.2.2.2.2.1 q43.2.2.2.2.2.2 q12.2.2.2.2.2.1 q12.2.2.2.2.2.2.1 q12.2.2.2.2.2.2.2.1 q12.2.2.2.2.2.2.2.2.1 q12.2.2.2.2.2.2.2.2.2.1 q12.2.2.2.2.2.2.2.2.2.2.1 q12.2.2.2.2.2.2.2.2.2.2.2.1 q12.2.2.2.2.2.2.2.2.2.2.2.2.1 q12.2.2.2.2.2.2.2.2.2.2.2.2.2 i_t_history_latest i_t_history_size) rfl 7 5 rfl rfl rfl (st := []) rfl (Nat.le_of_ble_eq_true rfl) rd_KR_loadCords_43 ?_ ⟨Nat.le_of_ble_eq_true rfl, Nat.le_of_ble_eq_true rfl⟩
    refine jk_aload_n C rd_KR_loadCords_46 (k := 0) rfl ?_
    refine jk_get C in_KR (ci := 10) rfl 7 (by decide) tm_431 0 rfl rfl rd_KR_loadCords_47 ?_
    obtain ⟨q50, hq50, hf⟩ := jk_bind_h hf
    refine jk_callVv C hZ.1 hz (ct_History_clear l D Z sq hZ cI cR a_t_history a_t_history_ring i_t_history_latest i_t_history_size q50 hq50) tm_495 tm_496 tm_497 tm_7 tm_498 na_History_clear ⟨Nat.le_of_ble_eq_true rfl, Nat.le_of_ble_eq_true rfl⟩ rfl [32] rfl rfl rfl (ws' := wd_KR_loadCords cI a_t a_t_input a_t_output a_t_topics a_t_cords a_t_draftTopics a_t_draft a_t_saved a_t_history a_t_script a_t_input_bytes a_t_input_bytes_k a_t_topics_names a_t_topics_names_k a_t_cords_starts a_t_cords_depth a_t_cords_topic a_t_cords_value a_t_cords_nibbled a_t_cords_starts_k a_t_cords_depth_k a_t_cords_topic_k a_t_cords_value_k a_t_cords_nibbled_k a_t_draftTopics_names a_t_draftTopics_names_k a_t_draft_starts a_t_draft_depth a_t_draft_topic a_t_draft_value a_t_draft_nibbled a_t_draft_starts_k a_t_draft_depth_k a_t_draft_topic_k a_t_draft_value_k a_t_draft_nibbled_k a_t_history_ring i_t_hasSaved q16.2.2.1 q16.2.2.2 q16.2.1 q12.1 q12.2.1 q12.2.2.1 q12.2.2.2.1 q12.2.2.2.2.1 i_t_input_bytes q32.1 q32.2 q43.1 q43.2.1 q43.2.2.1 q43.2.2.2.1 q43.2.2.2.2.1 q43.2.2.2.2.2.1 q43.2.2.2.2.2.2 q12.2.2.2.2.2.1 q12.2.2.2.2.2.2.1 q12.2.2.2.2.2.2.2.1 q12.2.2.2.2.2.2.2.2.1 q12.2.2.2.2.2.2.2.2.2.1 q12.2.2.2.2.2.2.2.2.2.2.1 q12.2.2.2.2.2.2.2.2.2.2.2.1 q12.2.2.2.2.2.2.2.2.2.2.2.2.1 q12.2.2.2.2.2.2.2.2.2.2.2.2.2 i_t_history_latest q50) rfl 32 6 rfl rfl rfl (st := []) rfl (Nat.le_of_ble_eq_true rfl) rd_KR_loadCords_50 ?_ ⟨Nat.le_of_ble_eq_true rfl, Nat.le_of_ble_eq_true rfl⟩
    refine jk_aload_n C rd_KR_loadCords_53 (k := 0) rfl ?_
    refine jk_iconst C rd_KR_loadCords_54 ?_
    refine jk_putf C in_KR ty_KR nm_KR (ci := 10) rfl 9 (by decide) tm_433 rfl (jk_narrow_bool (Or.inl rfl)) (by decide +kernel) 0 rfl (Nat.le_of_ble_eq_true rfl) rd_KR_loadCords_55 (ws' := wd_KR_loadCords cI a_t a_t_input a_t_output a_t_topics a_t_cords a_t_draftTopics a_t_draft a_t_saved a_t_history a_t_script a_t_input_bytes a_t_input_bytes_k a_t_topics_names a_t_topics_names_k a_t_cords_starts a_t_cords_depth a_t_cords_topic a_t_cords_value a_t_cords_nibbled a_t_cords_starts_k a_t_cords_depth_k a_t_cords_topic_k a_t_cords_value_k a_t_cords_nibbled_k a_t_draftTopics_names a_t_draftTopics_names_k a_t_draft_starts a_t_draft_depth a_t_draft_topic a_t_draft_value a_t_draft_nibbled a_t_draft_starts_k a_t_draft_depth_k a_t_draft_topic_k a_t_draft_value_k a_t_draft_nibbled_k a_t_history_ring 0 q16.2.2.1 q16.2.2.2 q16.2.1 q12.1 q12.2.1 q12.2.2.1 q12.2.2.2.1 q12.2.2.2.2.1 i_t_input_bytes q32.1 q32.2 q43.1 q43.2.1 q43.2.2.1 q43.2.2.2.1 q43.2.2.2.2.1 q43.2.2.2.2.2.1 q43.2.2.2.2.2.2 q12.2.2.2.2.2.1 q12.2.2.2.2.2.2.1 q12.2.2.2.2.2.2.2.1 q12.2.2.2.2.2.2.2.2.1 q12.2.2.2.2.2.2.2.2.2.1 q12.2.2.2.2.2.2.2.2.2.2.1 q12.2.2.2.2.2.2.2.2.2.2.2.1 q12.2.2.2.2.2.2.2.2.2.2.2.2.1 q12.2.2.2.2.2.2.2.2.2.2.2.2.2 i_t_history_latest q50) rfl ?_
    refine jk_aload_n C rd_KR_loadCords_58 (k := 0) rfl ?_
    refine jk_get C in_KR (ci := 10) rfl 3 (by decide) tm_427 0 rfl rfl rd_KR_loadCords_59 ?_
    refine jk_getN C in_Cords (ci := 5) rfl 1 (by decide) (jk_nw hZ hz tn_15) 7 rfl rfl rd_KR_loadCords_62 ?_
    cases hf
    exact jk_iret C rfl rd_KR_loadCords_65 rfl
  · refine jk_iconst C rd_KR_loadCords_22 ?_
    cases hf
    exact jk_iret C rfl rd_KR_loadCords_23 rfl
def wd_KR_perform (cI : ClassId) (a_t a_t_input a_t_output a_t_topics a_t_cords a_t_draftTopics a_t_draft a_t_saved a_t_history a_t_script a_t_cords_starts a_t_cords_depth a_t_cords_topic a_t_cords_value a_t_cords_nibbled a_t_cords_starts_k a_t_cords_depth_k a_t_cords_topic_k a_t_cords_value_k a_t_cords_nibbled_k : Nat) (i_t_hasSaved : Int) (i_t_reportedCode : Int) (i_t_reportedOffset : Int) (i_t_cords_clusters : Int) (i_t_cords_size : Int) (i_t_cords_starts : (Int → Int)) (i_t_cords_depth : (Int → Int)) (i_t_cords_topic : (Int → Int)) (i_t_cords_value : (Int → Int)) (i_t_cords_nibbled : (Int → Int)) : va_W := [(a_t, .inr (10, [.ref a_t_input, .ref a_t_output, .ref a_t_topics, .ref a_t_cords, .ref a_t_draftTopics, .ref a_t_draft, .ref a_t_saved, .ref a_t_history, .ref a_t_script, jk_V i_t_hasSaved, jk_V i_t_reportedCode, jk_V i_t_reportedOffset])), (a_t_cords, .inr (5, [jk_V i_t_cords_clusters, jk_V i_t_cords_size, .ref a_t_cords_starts, .ref a_t_cords_depth, .ref a_t_cords_topic, .ref a_t_cords_value, .ref a_t_cords_nibbled])), (a_t_cords_starts, .inr (0, [.ref a_t_cords_starts_k])), (a_t_cords_starts_k, jk_W cI 7 i_t_cords_starts), (a_t_cords_depth, .inr (0, [.ref a_t_cords_depth_k])), (a_t_cords_depth_k, jk_W cI 40 i_t_cords_depth), (a_t_cords_topic, .inr (0, [.ref a_t_cords_topic_k])), (a_t_cords_topic_k, jk_W cI 40 i_t_cords_topic), (a_t_cords_value, .inr (0, [.ref a_t_cords_value_k])), (a_t_cords_value_k, jk_W cI 40 i_t_cords_value), (a_t_cords_nibbled, .inr (0, [.ref a_t_cords_nibbled_k])), (a_t_cords_nibbled_k, jk_W cI 40 i_t_cords_nibbled)]
set_option maxHeartbeats 4000000 in
set_option maxRecDepth 20000 in
theorem ct_KR_perform (l : Launch) (D : va_G) (Z : (Nat → Prop) → State → Heap → Prop) (sq : Nat → Nat) (hZ : jk_ZK Z sq) (cI cR : ClassId) (a_t a_t_input a_t_output a_t_topics a_t_cords a_t_draftTopics a_t_draft a_t_saved a_t_history a_t_script a_t_cords_starts a_t_cords_depth a_t_cords_topic a_t_cords_value a_t_cords_nibbled a_t_cords_starts_k a_t_cords_depth_k a_t_cords_topic_k a_t_cords_value_k a_t_cords_nibbled_k : Nat) (i_t_hasSaved : Int) (i_t_reportedCode : Int) (i_t_reportedOffset : Int) (i_t_cords_clusters : Int) (i_t_cords_size : Int) (i_t_cords_starts : (Int → Int)) (i_t_cords_depth : (Int → Int)) (i_t_cords_topic : (Int → Int)) (i_t_cords_value : (Int → Int)) (i_t_cords_nibbled : (Int → Int)) (x1 : Int) (x2 : Int) (x3 : Int) (x4 : Int) (q : Int × Int × Int × (Int → Int) × (Int → Int) × (Int → Int) × (Int → Int) × (Int → Int)) (hf : fn_KR_perform i_t_cords_clusters i_t_cords_size i_t_cords_starts i_t_cords_depth i_t_cords_topic i_t_cords_value i_t_cords_nibbled x1 x2 x3 x4 = some q) : jk_MI l D jk_cl (jk_ty cI cR) Z mn_KR_perform (.code mn_KR_perform mb_KR_perform 5 (some .int) :: jk_WA) (jk_rm 4 94) [.ref a_t, jk_V x1, jk_V x2, jk_V x3, jk_V x4] (wd_KR_perform cI a_t a_t_input a_t_output a_t_topics a_t_cords a_t_draftTopics a_t_draft a_t_saved a_t_history a_t_script a_t_cords_starts a_t_cords_depth a_t_cords_topic a_t_cords_value a_t_cords_nibbled a_t_cords_starts_k a_t_cords_depth_k a_t_cords_topic_k a_t_cords_value_k a_t_cords_nibbled_k i_t_hasSaved i_t_reportedCode i_t_reportedOffset i_t_cords_clusters i_t_cords_size i_t_cords_starts i_t_cords_depth i_t_cords_topic i_t_cords_value i_t_cords_nibbled) (wd_KR_perform cI a_t a_t_input a_t_output a_t_topics a_t_cords a_t_draftTopics a_t_draft a_t_saved a_t_history a_t_script a_t_cords_starts a_t_cords_depth a_t_cords_topic a_t_cords_value a_t_cords_nibbled a_t_cords_starts_k a_t_cords_depth_k a_t_cords_topic_k a_t_cords_value_k a_t_cords_nibbled_k i_t_hasSaved i_t_reportedCode i_t_reportedOffset q.2.1 q.2.2.1 q.2.2.2.1 q.2.2.2.2.1 q.2.2.2.2.2.1 q.2.2.2.2.2.2.1 q.2.2.2.2.2.2.2) q.1 := by
  intro sz
  refine jk_body (by decide +kernel) (fun p e s m args below meth c hsz hz hin C => ?_) (Nat.le_of_ble_eq_true rfl)
  subst hsz
  unfold fn_KR_perform at hf
  refine jk_iload_n C rd_KR_perform_0 (k := 1) rfl ?_
  refine jk_eqs_c hf (fun hx hf => ?_) (fun hx0 hf => ?_)
  · refine jk_tabIn (off := 51) (tgt := 52) C rd_KR_perform_1 (k := 0) hx (by decide +kernel) (by decide) ?_
    refine jk_aload_n C rd_KR_perform_52 (k := 0) rfl ?_
    refine jk_get C in_KR (ci := 10) rfl 3 (by decide) tm_427 0 rfl rfl rd_KR_perform_53 ?_
    obtain ⟨q56, hq56, hf⟩ := jk_bind_h hf
    refine jk_callVi C hZ.1 hz (ct_Cords_openCluster l D Z sq hZ cI cR a_t_cords a_t_cords_starts a_t_cords_depth a_t_cords_topic a_t_cords_value a_t_cords_nibbled a_t_cords_starts_k i_t_cords_clusters i_t_cords_size i_t_cords_starts q56 hq56) tm_638 tm_335 tm_336 tm_6 tm_337 na_Cords_openCluster ⟨Nat.le_of_ble_eq_true rfl, Nat.le_of_ble_eq_true rfl⟩ rfl [1, 2, 3] rfl rfl rfl (ws' := wd_KR_perform cI a_t a_t_input a_t_output a_t_topics a_t_cords a_t_draftTopics a_t_draft a_t_saved a_t_history a_t_script a_t_cords_starts a_t_cords_depth a_t_cords_topic a_t_cords_value a_t_cords_nibbled a_t_cords_starts_k a_t_cords_depth_k a_t_cords_topic_k a_t_cords_value_k a_t_cords_nibbled_k i_t_hasSaved i_t_reportedCode i_t_reportedOffset q56.2.1 i_t_cords_size q56.2.2 i_t_cords_depth i_t_cords_topic i_t_cords_value i_t_cords_nibbled) rfl 1 5 rfl rfl rfl (st := []) rfl (Nat.le_of_ble_eq_true rfl) rd_KR_perform_56 ?_ ⟨Nat.le_of_ble_eq_true rfl, Nat.le_of_ble_eq_true rfl⟩
    cases hf
    exact jk_iret C rfl rd_KR_perform_59 rfl
  refine jk_eqs_c hf (fun hx hf => ?_) (fun hx1 hf => ?_)
  · refine jk_tabIn (off := 59) (tgt := 60) C rd_KR_perform_1 (k := 1) hx (by decide +kernel) (by decide) ?_
    refine jk_aload_n C rd_KR_perform_60 (k := 0) rfl ?_
    refine jk_get C in_KR (ci := 10) rfl 3 (by decide) tm_427 0 rfl rfl rd_KR_perform_61 ?_
    refine jk_aload_n C rd_KR_perform_64 (k := 0) rfl ?_
    refine jk_get C in_KR (ci := 10) rfl 3 (by decide) tm_427 0 rfl rfl rd_KR_perform_65 ?_
    refine jk_iload_n C rd_KR_perform_68 (k := 2) rfl ?_
    obtain ⟨q69, hq69, hf⟩ := jk_bind_h hf
    refine jk_callVi C hZ.1 hz (ct_Cords_end l D Z sq hZ cI cR a_t_cords a_t_cords_starts a_t_cords_depth a_t_cords_topic a_t_cords_value a_t_cords_nibbled a_t_cords_starts_k i_t_cords_clusters i_t_cords_size i_t_cords_starts x2 q69 hq69) tm_583 tm_584 tm_585 tm_6 tm_586 na_Cords_end ⟨Nat.le_of_ble_eq_true rfl, Nat.le_of_ble_eq_true rfl⟩ rfl [1, 2, 3] rfl rfl rfl (ws' := wd_KR_perform cI a_t a_t_input a_t_output a_t_topics a_t_cords a_t_draftTopics a_t_draft a_t_saved a_t_history a_t_script a_t_cords_starts a_t_cords_depth a_t_cords_topic a_t_cords_value a_t_cords_nibbled a_t_cords_starts_k a_t_cords_depth_k a_t_cords_topic_k a_t_cords_value_k a_t_cords_nibbled_k i_t_hasSaved i_t_reportedCode i_t_reportedOffset i_t_cords_clusters i_t_cords_size i_t_cords_starts i_t_cords_depth i_t_cords_topic i_t_cords_value i_t_cords_nibbled) rfl 1 5 rfl rfl rfl (st := [.ref a_t_cords]) rfl (Nat.le_of_ble_eq_true rfl) rd_KR_perform_69 ?_ ⟨Nat.le_of_ble_eq_true rfl, Nat.le_of_ble_eq_true rfl⟩
    refine jk_iload_n C rd_KR_perform_72 (k := 2) rfl ?_
    refine jk_iconst C rd_KR_perform_73 ?_
    refine jk_iload_n C rd_KR_perform_74 (k := 3) rfl ?_
    refine jk_iload C rd_KR_perform_75 (k := 4) rfl ?_
    obtain ⟨q77, hq77, hf⟩ := jk_bind_h hf
    refine jk_callVi C hZ.1 hz (ct_Cords_insert l D Z sq hZ cI cR a_t_cords a_t_cords_starts a_t_cords_depth a_t_cords_topic a_t_cords_value a_t_cords_nibbled a_t_cords_starts_k a_t_cords_depth_k a_t_cords_topic_k a_t_cords_value_k a_t_cords_nibbled_k i_t_cords_clusters i_t_cords_size i_t_cords_starts i_t_cords_depth i_t_cords_topic i_t_cords_value i_t_cords_nibbled q69 x2 1 x3 x4 q77 hq77) tm_639 tm_388 tm_389 tm_6 tm_390 na_Cords_insert ⟨Nat.le_of_ble_eq_true rfl, Nat.le_of_ble_eq_true rfl⟩ rfl [1, 2, 3, 4, 5, 6, 7, 8, 9, 10, 11] rfl rfl rfl (ws' := wd_KR_perform cI a_t a_t_input a_t_output a_t_topics a_t_cords a_t_draftTopics a_t_draft a_t_saved a_t_history a_t_script a_t_cords_starts a_t_cords_depth a_t_cords_topic a_t_cords_value a_t_cords_nibbled a_t_cords_starts_k a_t_cords_depth_k a_t_cords_topic_k a_t_cords_value_k a_t_cords_nibbled_k i_t_hasSaved i_t_reportedCode i_t_reportedOffset i_t_cords_clusters q77.2.1 q77.2.2.1 q77.2.2.2.1 q77.2.2.2.2.1 q77.2.2.2.2.2.1 q77.2.2.2.2.2.2) rfl 1 5 rfl rfl rfl (st := []) rfl (Nat.le_of_ble_eq_true rfl) rd_KR_perform_77 ?_ ⟨Nat.le_of_ble_eq_true rfl, Nat.le_of_ble_eq_true rfl⟩
    cases hf
    exact jk_iret C rfl rd_KR_perform_80 rfl
  refine jk_eqs_c hf (fun hx hf => ?_) (fun hx2 hf => ?_)
  · refine jk_tabIn (off := 80) (tgt := 81) C rd_KR_perform_1 (k := 2) hx (by decide +kernel) (by decide) ?_
    refine jk_aload_n C rd_KR_perform_81 (k := 0) rfl ?_
    refine jk_get C in_KR (ci := 10) rfl 3 (by decide) tm_427 0 rfl rfl rd_KR_perform_82 ?_
    refine jk_aload_n C rd_KR_perform_85 (k := 0) rfl ?_
    refine jk_get C in_KR (ci := 10) rfl 3 (by decide) tm_427 0 rfl rfl rd_KR_perform_86 ?_
    refine jk_iload_n C rd_KR_perform_89 (k := 2) rfl ?_
    obtain ⟨q90, hq90, hf⟩ := jk_bind_h hf
    refine jk_callVi C hZ.1 hz (ct_Cords_branchEnd l D Z sq hZ cI cR a_t_cords a_t_cords_starts a_t_cords_depth a_t_cords_topic a_t_cords_value a_t_cords_nibbled a_t_cords_depth_k i_t_cords_clusters i_t_cords_size i_t_cords_depth x2 q90 hq90) tm_640 tm_373 tm_374 tm_6 tm_375 na_Cords_branchEnd ⟨Nat.le_of_ble_eq_true rfl, Nat.le_of_ble_eq_true rfl⟩ rfl [1, 4, 5] rfl rfl rfl (ws' := wd_KR_perform cI a_t a_t_input a_t_output a_t_topics a_t_cords a_t_draftTopics a_t_draft a_t_saved a_t_history a_t_script a_t_cords_starts a_t_cords_depth a_t_cords_topic a_t_cords_value a_t_cords_nibbled a_t_cords_starts_k a_t_cords_depth_k a_t_cords_topic_k a_t_cords_value_k a_t_cords_nibbled_k i_t_hasSaved i_t_reportedCode i_t_reportedOffset i_t_cords_clusters i_t_cords_size i_t_cords_starts i_t_cords_depth i_t_cords_topic i_t_cords_value i_t_cords_nibbled) rfl 1 5 rfl rfl rfl (st := [.ref a_t_cords]) rfl (Nat.le_of_ble_eq_true rfl) rd_KR_perform_90 ?_ ⟨Nat.le_of_ble_eq_true rfl, Nat.le_of_ble_eq_true rfl⟩
    refine jk_aload_n C rd_KR_perform_93 (k := 0) rfl ?_
    refine jk_get C in_KR (ci := 10) rfl 3 (by decide) tm_427 0 rfl rfl rd_KR_perform_94 ?_
    refine jk_iload_n C rd_KR_perform_97 (k := 2) rfl ?_
    obtain ⟨q98, hq98, hf⟩ := jk_bind_h hf
    refine jk_callVi C hZ.1 hz (ct_Cords_clusterAt l D Z sq hZ cI cR a_t_cords a_t_cords_starts a_t_cords_depth a_t_cords_topic a_t_cords_value a_t_cords_nibbled a_t_cords_starts_k i_t_cords_clusters i_t_cords_size i_t_cords_starts x2 q98 hq98) tm_641 tm_642 tm_643 tm_6 tm_644 na_Cords_clusterAt ⟨Nat.le_of_ble_eq_true rfl, Nat.le_of_ble_eq_true rfl⟩ rfl [1, 2, 3] rfl rfl rfl (ws' := wd_KR_perform cI a_t a_t_input a_t_output a_t_topics a_t_cords a_t_draftTopics a_t_draft a_t_saved a_t_history a_t_script a_t_cords_starts a_t_cords_depth a_t_cords_topic a_t_cords_value a_t_cords_nibbled a_t_cords_starts_k a_t_cords_depth_k a_t_cords_topic_k a_t_cords_value_k a_t_cords_nibbled_k i_t_hasSaved i_t_reportedCode i_t_reportedOffset i_t_cords_clusters i_t_cords_size i_t_cords_starts i_t_cords_depth i_t_cords_topic i_t_cords_value i_t_cords_nibbled) rfl 1 5 rfl rfl rfl (st := [jk_V q90, .ref a_t_cords]) rfl (Nat.le_of_ble_eq_true rfl) rd_KR_perform_98 ?_ ⟨Nat.le_of_ble_eq_true rfl, Nat.le_of_ble_eq_true rfl⟩
    refine jk_aload_n C rd_KR_perform_101 (k := 0) rfl ?_
    refine jk_get C in_KR (ci := 10) rfl 3 (by decide) tm_427 0 rfl rfl rd_KR_perform_102 ?_
    refine jk_getN C in_Cords (ci := 5) rfl 3 (by decide) (jk_nw hZ hz tn_18) 1 rfl rfl rd_KR_perform_105 ?_
    refine jk_iload_n C rd_KR_perform_108 (k := 2) rfl ?_
    obtain ⟨q109, hq109, hf⟩ := jk_bind_h hf
    refine jk_callVi C hZ.1 hz (ct_Row_get l D Z sq hZ cI cR (n_t := 40) (Nat.le_of_ble_eq_true rfl) a_t_cords_depth a_t_cords_depth_k i_t_cords_depth x2 q109 hq109) tm_549 tm_292 tm_293 tm_3 tm_294 na_Row_get ⟨Nat.le_of_ble_eq_true rfl, Nat.le_of_ble_eq_true rfl⟩ rfl [4, 5] rfl rfl rfl (ws' := wd_KR_perform cI a_t a_t_input a_t_output a_t_topics a_t_cords a_t_draftTopics a_t_draft a_t_saved a_t_history a_t_script a_t_cords_starts a_t_cords_depth a_t_cords_topic a_t_cords_value a_t_cords_nibbled a_t_cords_starts_k a_t_cords_depth_k a_t_cords_topic_k a_t_cords_value_k a_t_cords_nibbled_k i_t_hasSaved i_t_reportedCode i_t_reportedOffset i_t_cords_clusters i_t_cords_size i_t_cords_starts i_t_cords_depth i_t_cords_topic i_t_cords_value i_t_cords_nibbled) rfl 4 0 rfl rfl rfl (st := [jk_V q98, jk_V q90, .ref a_t_cords]) rfl (Nat.le_of_ble_eq_true rfl) rd_KR_perform_109 ?_ ⟨Nat.le_of_ble_eq_true rfl, Nat.le_of_ble_eq_true rfl⟩
    refine jk_iconst C rd_KR_perform_112 ?_
    refine jk_iadd C rd_KR_perform_113 ?_
    refine jk_iload_n C rd_KR_perform_114 (k := 3) rfl ?_
    refine jk_iload C rd_KR_perform_115 (k := 4) rfl ?_
    obtain ⟨q117, hq117, hf⟩ := jk_bind_h hf
    refine jk_callVi C hZ.1 hz (ct_Cords_insert l D Z sq hZ cI cR a_t_cords a_t_cords_starts a_t_cords_depth a_t_cords_topic a_t_cords_value a_t_cords_nibbled a_t_cords_starts_k a_t_cords_depth_k a_t_cords_topic_k a_t_cords_value_k a_t_cords_nibbled_k i_t_cords_clusters i_t_cords_size i_t_cords_starts i_t_cords_depth i_t_cords_topic i_t_cords_value i_t_cords_nibbled q90 q98 (q109 + 1) x3 x4 q117 hq117) tm_639 tm_388 tm_389 tm_6 tm_390 na_Cords_insert ⟨Nat.le_of_ble_eq_true rfl, Nat.le_of_ble_eq_true rfl⟩ rfl [1, 2, 3, 4, 5, 6, 7, 8, 9, 10, 11] rfl rfl rfl (ws' := wd_KR_perform cI a_t a_t_input a_t_output a_t_topics a_t_cords a_t_draftTopics a_t_draft a_t_saved a_t_history a_t_script a_t_cords_starts a_t_cords_depth a_t_cords_topic a_t_cords_value a_t_cords_nibbled a_t_cords_starts_k a_t_cords_depth_k a_t_cords_topic_k a_t_cords_value_k a_t_cords_nibbled_k i_t_hasSaved i_t_reportedCode i_t_reportedOffset i_t_cords_clusters q117.2.1 q117.2.2.1 q117.2.2.2.1 q117.2.2.2.2.1 q117.2.2.2.2.2.1 q117.2.2.2.2.2.2) rfl 1 5 rfl rfl rfl (st := []) rfl (Nat.le_of_ble_eq_true rfl) rd_KR_perform_117 ?_ ⟨Nat.le_of_ble_eq_true rfl, Nat.le_of_ble_eq_true rfl⟩
    cases hf
    exact jk_iret C rfl rd_KR_perform_120 rfl
  refine jk_eqs_c hf (fun hx hf => ?_) (fun hx3 hf => ?_)
  · refine jk_tabIn (off := 120) (tgt := 121) C rd_KR_perform_1 (k := 3) hx (by decide +kernel) (by decide) ?_
    refine jk_aload_n C rd_KR_perform_121 (k := 0) rfl ?_
    refine jk_get C in_KR (ci := 10) rfl 3 (by decide) tm_427 0 rfl rfl rd_KR_perform_122 ?_
    refine jk_iload_n C rd_KR_perform_125 (k := 2) rfl ?_
    refine jk_aload_n C rd_KR_perform_126 (k := 0) rfl ?_
    refine jk_get C in_KR (ci := 10) rfl 3 (by decide) tm_427 0 rfl rfl rd_KR_perform_127 ?_
    refine jk_iload_n C rd_KR_perform_130 (k := 2) rfl ?_
    obtain ⟨q131, hq131, hf⟩ := jk_bind_h hf
    refine jk_callVi C hZ.1 hz (ct_Cords_branchEnd l D Z sq hZ cI cR a_t_cords a_t_cords_starts a_t_cords_depth a_t_cords_topic a_t_cords_value a_t_cords_nibbled a_t_cords_depth_k i_t_cords_clusters i_t_cords_size i_t_cords_depth x2 q131 hq131) tm_640 tm_373 tm_374 tm_6 tm_375 na_Cords_branchEnd ⟨Nat.le_of_ble_eq_true rfl, Nat.le_of_ble_eq_true rfl⟩ rfl [1, 4, 5] rfl rfl rfl (ws' := wd_KR_perform cI a_t a_t_input a_t_output a_t_topics a_t_cords a_t_draftTopics a_t_draft a_t_saved a_t_history a_t_script a_t_cords_starts a_t_cords_depth a_t_cords_topic a_t_cords_value a_t_cords_nibbled a_t_cords_starts_k a_t_cords_depth_k a_t_cords_topic_k a_t_cords_value_k a_t_cords_nibbled_k i_t_hasSaved i_t_reportedCode i_t_reportedOffset i_t_cords_clusters i_t_cords_size i_t_cords_starts i_t_cords_depth i_t_cords_topic i_t_cords_value i_t_cords_nibbled) rfl 1 5 rfl rfl rfl (st := [jk_V x2, .ref a_t_cords]) rfl (Nat.le_of_ble_eq_true rfl) rd_KR_perform_131 ?_ ⟨Nat.le_of_ble_eq_true rfl, Nat.le_of_ble_eq_true rfl⟩
    obtain ⟨q134, hq134, hf⟩ := jk_bind_h hf
    refine jk_callVi C hZ.1 hz (ct_Cords_remove l D Z sq hZ cI cR a_t_cords a_t_cords_starts a_t_cords_depth a_t_cords_topic a_t_cords_value a_t_cords_nibbled a_t_cords_starts_k a_t_cords_depth_k a_t_cords_topic_k a_t_cords_value_k a_t_cords_nibbled_k i_t_cords_clusters i_t_cords_size i_t_cords_starts i_t_cords_depth i_t_cords_topic i_t_cords_value i_t_cords_nibbled x2 q131 q134 hq134) tm_645 tm_646 tm_647 tm_6 tm_648 na_Cords_remove ⟨Nat.le_of_ble_eq_true rfl, Nat.le_of_ble_eq_true rfl⟩ rfl [1, 2, 3, 4, 5, 6, 7, 8, 9, 10, 11] rfl rfl rfl (ws' := wd_KR_perform cI a_t a_t_input a_t_output a_t_topics a_t_cords a_t_draftTopics a_t_draft a_t_saved a_t_history a_t_script a_t_cords_starts a_t_cords_depth a_t_cords_topic a_t_cords_value a_t_cords_nibbled a_t_cords_starts_k a_t_cords_depth_k a_t_cords_topic_k a_t_cords_value_k a_t_cords_nibbled_k i_t_hasSaved i_t_reportedCode i_t_reportedOffset i_t_cords_clusters q134.2.1 q134.2.2.1 q134.2.2.2.1 q134.2.2.2.2.1 q134.2.2.2.2.2.1 q134.2.2.2.2.2.2) rfl 1 5 rfl rfl rfl (st := []) rfl (Nat.le_of_ble_eq_true rfl) rd_KR_perform_134 ?_ ⟨Nat.le_of_ble_eq_true rfl, Nat.le_of_ble_eq_true rfl⟩
    cases hf
    exact jk_iret C rfl rd_KR_perform_137 rfl
  refine jk_eqs_c hf (fun hx hf => ?_) (fun hx4 hf => ?_)
  · refine jk_tabIn (off := 137) (tgt := 138) C rd_KR_perform_1 (k := 4) hx (by decide +kernel) (by decide) ?_
    refine jk_aload_n C rd_KR_perform_138 (k := 0) rfl ?_
    refine jk_get C in_KR (ci := 10) rfl 3 (by decide) tm_427 0 rfl rfl rd_KR_perform_139 ?_
    refine jk_iload_n C rd_KR_perform_142 (k := 2) rfl ?_
    refine jk_iload_n C rd_KR_perform_143 (k := 3) rfl ?_
    obtain ⟨q144, hq144, hf⟩ := jk_bind_h hf
    refine jk_callVi C hZ.1 hz (ct_Cords_tie l D Z sq hZ cI cR a_t_cords a_t_cords_starts a_t_cords_depth a_t_cords_topic a_t_cords_value a_t_cords_nibbled a_t_cords_starts_k a_t_cords_depth_k a_t_cords_topic_k a_t_cords_value_k a_t_cords_nibbled_k i_t_cords_clusters i_t_cords_size i_t_cords_starts i_t_cords_depth i_t_cords_topic i_t_cords_value i_t_cords_nibbled x2 x3 q144 hq144) tm_654 tm_655 tm_656 tm_6 tm_657 na_Cords_tie ⟨Nat.le_of_ble_eq_true rfl, Nat.le_of_ble_eq_true rfl⟩ rfl [1, 2, 3, 4, 5, 6, 7, 8, 9, 10, 11] rfl rfl rfl (ws' := wd_KR_perform cI a_t a_t_input a_t_output a_t_topics a_t_cords a_t_draftTopics a_t_draft a_t_saved a_t_history a_t_script a_t_cords_starts a_t_cords_depth a_t_cords_topic a_t_cords_value a_t_cords_nibbled a_t_cords_starts_k a_t_cords_depth_k a_t_cords_topic_k a_t_cords_value_k a_t_cords_nibbled_k i_t_hasSaved i_t_reportedCode i_t_reportedOffset i_t_cords_clusters q144.2.1 q144.2.2.1 q144.2.2.2.1 q144.2.2.2.2.1 q144.2.2.2.2.2.1 q144.2.2.2.2.2.2) rfl 1 5 rfl rfl rfl (st := []) rfl (Nat.le_of_ble_eq_true rfl) rd_KR_perform_144 ?_ ⟨Nat.le_of_ble_eq_true rfl, Nat.le_of_ble_eq_true rfl⟩
    cases hf
    exact jk_iret C rfl rd_KR_perform_147 rfl
  refine jk_eqs_c hf (fun hx hf => ?_) (fun hx5 hf => ?_)
  · refine jk_tabIn (off := 147) (tgt := 148) C rd_KR_perform_1 (k := 5) hx (by decide +kernel) (by decide) ?_
    refine jk_aload_n C rd_KR_perform_148 (k := 0) rfl ?_
    refine jk_get C in_KR (ci := 10) rfl 3 (by decide) tm_427 0 rfl rfl rd_KR_perform_149 ?_
    refine jk_iload_n C rd_KR_perform_152 (k := 2) rfl ?_
    refine jk_iload_n C rd_KR_perform_153 (k := 3) rfl ?_
    refine jk_iload C rd_KR_perform_154 (k := 4) rfl ?_
    obtain ⟨q156, hq156, hf⟩ := jk_bind_h hf
    refine jk_callVi C hZ.1 hz (ct_Cords_knot l D Z sq hZ cI cR a_t_cords a_t_cords_starts a_t_cords_depth a_t_cords_topic a_t_cords_value a_t_cords_nibbled a_t_cords_value_k i_t_cords_clusters i_t_cords_size i_t_cords_value x2 x3 x4 q156 hq156) tm_660 tm_661 tm_662 tm_6 tm_663 na_Cords_knot ⟨Nat.le_of_ble_eq_true rfl, Nat.le_of_ble_eq_true rfl⟩ rfl [1, 8, 9] rfl rfl rfl (ws' := wd_KR_perform cI a_t a_t_input a_t_output a_t_topics a_t_cords a_t_draftTopics a_t_draft a_t_saved a_t_history a_t_script a_t_cords_starts a_t_cords_depth a_t_cords_topic a_t_cords_value a_t_cords_nibbled a_t_cords_starts_k a_t_cords_depth_k a_t_cords_topic_k a_t_cords_value_k a_t_cords_nibbled_k i_t_hasSaved i_t_reportedCode i_t_reportedOffset i_t_cords_clusters i_t_cords_size i_t_cords_starts i_t_cords_depth i_t_cords_topic q156.2 i_t_cords_nibbled) rfl 1 5 rfl rfl rfl (st := []) rfl (Nat.le_of_ble_eq_true rfl) rd_KR_perform_156 ?_ ⟨Nat.le_of_ble_eq_true rfl, Nat.le_of_ble_eq_true rfl⟩
    cases hf
    exact jk_iret C rfl rd_KR_perform_159 rfl
  refine jk_eqs_c hf (fun hx hf => ?_) (fun hx6 hf => ?_)
  · refine jk_tabIn (off := 159) (tgt := 160) C rd_KR_perform_1 (k := 6) hx (by decide +kernel) (by decide) ?_
    refine jk_aload_n C rd_KR_perform_160 (k := 0) rfl ?_
    refine jk_get C in_KR (ci := 10) rfl 3 (by decide) tm_427 0 rfl rfl rd_KR_perform_161 ?_
    refine jk_iload_n C rd_KR_perform_164 (k := 2) rfl ?_
    refine jk_iload_n C rd_KR_perform_165 (k := 3) rfl ?_
    obtain ⟨q166, hq166, hf⟩ := jk_bind_h hf
    refine jk_callVi C hZ.1 hz (ct_Cords_loseKnots l D Z sq hZ cI cR a_t_cords a_t_cords_starts a_t_cords_depth a_t_cords_topic a_t_cords_value a_t_cords_nibbled a_t_cords_value_k a_t_cords_nibbled_k i_t_cords_clusters i_t_cords_size i_t_cords_value i_t_cords_nibbled x2 x3 q166 hq166) tm_666 tm_402 tm_403 tm_6 tm_404 na_Cords_loseKnots ⟨Nat.le_of_ble_eq_true rfl, Nat.le_of_ble_eq_true rfl⟩ rfl [1, 8, 9, 10, 11] rfl rfl rfl (ws' := wd_KR_perform cI a_t a_t_input a_t_output a_t_topics a_t_cords a_t_draftTopics a_t_draft a_t_saved a_t_history a_t_script a_t_cords_starts a_t_cords_depth a_t_cords_topic a_t_cords_value a_t_cords_nibbled a_t_cords_starts_k a_t_cords_depth_k a_t_cords_topic_k a_t_cords_value_k a_t_cords_nibbled_k i_t_hasSaved i_t_reportedCode i_t_reportedOffset i_t_cords_clusters i_t_cords_size i_t_cords_starts i_t_cords_depth i_t_cords_topic q166.2.1 q166.2.2) rfl 1 5 rfl rfl rfl (st := []) rfl (Nat.le_of_ble_eq_true rfl) rd_KR_perform_166 ?_ ⟨Nat.le_of_ble_eq_true rfl, Nat.le_of_ble_eq_true rfl⟩
    cases hf
    exact jk_iret C rfl rd_KR_perform_169 rfl
  refine jk_eqs_c hf (fun hx hf => ?_) (fun hx7 hf => ?_)
  · refine jk_tabIn (off := 169) (tgt := 170) C rd_KR_perform_1 (k := 7) hx (by decide +kernel) (by decide) ?_
    refine jk_aload_n C rd_KR_perform_170 (k := 0) rfl ?_
    refine jk_get C in_KR (ci := 10) rfl 3 (by decide) tm_427 0 rfl rfl rd_KR_perform_171 ?_
    refine jk_getN C in_Cords (ci := 5) rfl 4 (by decide) (jk_nw hZ hz tn_19) 1 rfl rfl rd_KR_perform_174 ?_
    refine jk_iload_n C rd_KR_perform_177 (k := 2) rfl ?_
    refine jk_iload_n C rd_KR_perform_178 (k := 3) rfl ?_
    obtain ⟨q179, hq179, hf⟩ := jk_bind_h hf
    refine jk_callVi C hZ.1 hz (ct_Row_replace l D Z sq hZ cI cR (n_t := 40) (Nat.le_of_ble_eq_true rfl) a_t_cords_topic a_t_cords_topic_k i_t_cords_topic x2 x3 q179 hq179) tm_667 tm_668 tm_669 tm_3 tm_670 na_Row_replace ⟨Nat.le_of_ble_eq_true rfl, Nat.le_of_ble_eq_true rfl⟩ rfl [6, 7] rfl rfl rfl (ws' := wd_KR_perform cI a_t a_t_input a_t_output a_t_topics a_t_cords a_t_draftTopics a_t_draft a_t_saved a_t_history a_t_script a_t_cords_starts a_t_cords_depth a_t_cords_topic a_t_cords_value a_t_cords_nibbled a_t_cords_starts_k a_t_cords_depth_k a_t_cords_topic_k a_t_cords_value_k a_t_cords_nibbled_k i_t_hasSaved i_t_reportedCode i_t_reportedOffset i_t_cords_clusters i_t_cords_size i_t_cords_starts i_t_cords_depth q179.2 i_t_cords_value i_t_cords_nibbled) rfl 6 0 rfl rfl rfl (st := []) rfl (Nat.le_of_ble_eq_true rfl) rd_KR_perform_179 ?_ ⟨Nat.le_of_ble_eq_true rfl, Nat.le_of_ble_eq_true rfl⟩
    cases hf
    exact jk_iret C rfl rd_KR_perform_182 rfl
  refine jk_eqs_c hf (fun hx hf => ?_) (fun hx8 hf => ?_)
  · refine jk_tabIn (off := 182) (tgt := 183) C rd_KR_perform_1 (k := 8) hx (by decide +kernel) (by decide) ?_
    refine jk_aload_n C rd_KR_perform_183 (k := 0) rfl ?_
    refine jk_get C in_KR (ci := 10) rfl 3 (by decide) tm_427 0 rfl rfl rd_KR_perform_184 ?_
    refine jk_iload_n C rd_KR_perform_187 (k := 2) rfl ?_
    obtain ⟨q188, hq188, hf⟩ := jk_bind_h hf
    refine jk_callVi C hZ.1 hz (ct_Cords_mend l D Z sq hZ cI cR a_t_cords a_t_cords_starts a_t_cords_depth a_t_cords_topic a_t_cords_value a_t_cords_nibbled a_t_cords_starts_k a_t_cords_value_k a_t_cords_nibbled_k i_t_cords_clusters i_t_cords_size i_t_cords_starts i_t_cords_value i_t_cords_nibbled x2 q188 hq188) tm_671 tm_672 tm_673 tm_6 tm_674 na_Cords_mend ⟨Nat.le_of_ble_eq_true rfl, Nat.le_of_ble_eq_true rfl⟩ rfl [1, 2, 3, 8, 9, 10, 11] rfl rfl rfl (ws' := wd_KR_perform cI a_t a_t_input a_t_output a_t_topics a_t_cords a_t_draftTopics a_t_draft a_t_saved a_t_history a_t_script a_t_cords_starts a_t_cords_depth a_t_cords_topic a_t_cords_value a_t_cords_nibbled a_t_cords_starts_k a_t_cords_depth_k a_t_cords_topic_k a_t_cords_value_k a_t_cords_nibbled_k i_t_hasSaved i_t_reportedCode i_t_reportedOffset i_t_cords_clusters i_t_cords_size i_t_cords_starts i_t_cords_depth i_t_cords_topic q188.2.1 q188.2.2) rfl 1 5 rfl rfl rfl (st := []) rfl (Nat.le_of_ble_eq_true rfl) rd_KR_perform_188 ?_ ⟨Nat.le_of_ble_eq_true rfl, Nat.le_of_ble_eq_true rfl⟩
    cases hf
    exact jk_iret C rfl rd_KR_perform_191 rfl
  refine jk_tabOut (tgt := 192) C rd_KR_perform_1 (jk_rg_h hf).1 (by omega) (by decide) ?_
  replace hf := (jk_rg_h hf).2
  refine jk_iconst C rd_KR_perform_192 ?_
  cases hf
  exact jk_iret C rfl rd_KR_perform_193 rfl
def wd_KR_isPlace (cI : ClassId)  : va_W := []
set_option maxHeartbeats 4000000 in
set_option maxRecDepth 20000 in
theorem ct_KR_isPlace (l : Launch) (D : va_G) (Z : (Nat → Prop) → State → Heap → Prop) (sq : Nat → Nat) (hZ : jk_ZK Z sq) (cI cR : ClassId) (x0 : Int) (q : Int) (hf : fn_KR_isPlace x0 = some q) : jk_MI l D jk_cl (jk_ty cI cR) Z mn_KR_isPlace (.code mn_KR_isPlace mb_KR_isPlace 1 (some .boolean) :: jk_WA) (jk_rm 0 0) [jk_V x0] (wd_KR_isPlace cI) (wd_KR_isPlace cI) q := by
  intro sz
  refine jk_body (by decide +kernel) (fun p e s m args below meth c hsz hz hin C => ?_) (Nat.le_of_ble_eq_true rfl)
  subst hsz
  unfold fn_KR_isPlace at hf
  refine jk_iload_n C rd_KR_isPlace_0 (k := 0) rfl ?_
  refine jk_if_lt (tgt := 13) C rd_KR_isPlace_1 (by decide) hf (fun _ hf => ?_) (fun _ hf => ?_)
  · refine jk_iconst C rd_KR_isPlace_13 ?_
    cases hf
    exact jk_zret C (Or.inl rfl) rfl rd_KR_isPlace_14 rfl
  · refine jk_iload_n C rd_KR_isPlace_4 (k := 0) rfl ?_
    refine jk_iconst C rd_KR_isPlace_5 ?_
    refine jk_icmp_ge (tgt := 13) C rd_KR_isPlace_6 (by decide) hf (fun _ hf => ?_) (fun _ hf => ?_)
    · refine jk_iconst C rd_KR_isPlace_13 ?_
      cases hf
      exact jk_zret C (Or.inl rfl) rfl rd_KR_isPlace_14 rfl
    · refine jk_iconst C rd_KR_isPlace_9 ?_
      refine jk_goto (tgt := 14) C rd_KR_isPlace_10 (by decide) ?_
      cases hf
      exact jk_zret C (Or.inr rfl) rfl rd_KR_isPlace_14 rfl
def wd_KR_knotsProblem (cI : ClassId) (a_t a_t_input a_t_output a_t_topics a_t_cords a_t_draftTopics a_t_draft a_t_saved a_t_history a_t_script a_t_cords_starts a_t_cords_depth a_t_cords_topic a_t_cords_value a_t_cords_nibbled a_t_cords_nibbled_k : Nat) (i_t_hasSaved : Int) (i_t_reportedCode : Int) (i_t_reportedOffset : Int) (i_t_cords_clusters : Int) (i_t_cords_size : Int) (i_t_cords_nibbled : (Int → Int)) : va_W := [(a_t, .inr (10, [.ref a_t_input, .ref a_t_output, .ref a_t_topics, .ref a_t_cords, .ref a_t_draftTopics, .ref a_t_draft, .ref a_t_saved, .ref a_t_history, .ref a_t_script, jk_V i_t_hasSaved, jk_V i_t_reportedCode, jk_V i_t_reportedOffset])), (a_t_cords, .inr (5, [jk_V i_t_cords_clusters, jk_V i_t_cords_size, .ref a_t_cords_starts, .ref a_t_cords_depth, .ref a_t_cords_topic, .ref a_t_cords_value, .ref a_t_cords_nibbled])), (a_t_cords_nibbled, .inr (0, [.ref a_t_cords_nibbled_k])), (a_t_cords_nibbled_k, jk_W cI 40 i_t_cords_nibbled)]
set_option maxHeartbeats 4000000 in
set_option maxRecDepth 20000 in
theorem ct_KR_knotsProblem (l : Launch) (D : va_G) (Z : (Nat → Prop) → State → Heap → Prop) (sq : Nat → Nat) (hZ : jk_ZK Z sq) (cI cR : ClassId) (a_t a_t_input a_t_output a_t_topics a_t_cords a_t_draftTopics a_t_draft a_t_saved a_t_history a_t_script a_t_cords_starts a_t_cords_depth a_t_cords_topic a_t_cords_value a_t_cords_nibbled a_t_cords_nibbled_k : Nat) (i_t_hasSaved : Int) (i_t_reportedCode : Int) (i_t_reportedOffset : Int) (i_t_cords_clusters : Int) (i_t_cords_size : Int) (i_t_cords_nibbled : (Int → Int)) (x1 : Int) (x2 : Int) (x3 : Int) (q : Int) (hf : fn_KR_knotsProblem i_t_cords_size i_t_cords_nibbled x1 x2 x3 = some q) : jk_MI l D jk_cl (jk_ty cI cR) Z mn_KR_knotsProblem (.code mn_KR_knotsProblem mb_KR_knotsProblem 4 (some .int) :: jk_WA) (jk_rm 1 21) [.ref a_t, jk_V x1, jk_V x2, jk_V x3] (wd_KR_knotsProblem cI a_t a_t_input a_t_output a_t_topics a_t_cords a_t_draftTopics a_t_draft a_t_saved a_t_history a_t_script a_t_cords_starts a_t_cords_depth a_t_cords_topic a_t_cords_value a_t_cords_nibbled a_t_cords_nibbled_k i_t_hasSaved i_t_reportedCode i_t_reportedOffset i_t_cords_clusters i_t_cords_size i_t_cords_nibbled) (wd_KR_knotsProblem cI a_t a_t_input a_t_output a_t_topics a_t_cords a_t_draftTopics a_t_draft a_t_saved a_t_history a_t_script a_t_cords_starts a_t_cords_depth a_t_cords_topic a_t_cords_value a_t_cords_nibbled a_t_cords_nibbled_k i_t_hasSaved i_t_reportedCode i_t_reportedOffset i_t_cords_clusters i_t_cords_size i_t_cords_nibbled) q := by
  intro sz
  refine jk_body (by decide +kernel) (fun p e s m args below meth c hsz hz hin C => ?_) (Nat.le_of_ble_eq_true rfl)
  subst hsz
  unfold fn_KR_knotsProblem at hf
  refine jk_aload_n C rd_KR_knotsProblem_0 (k := 0) rfl ?_
  refine jk_get C in_KR (ci := 10) rfl 3 (by decide) tm_427 0 rfl rfl rd_KR_knotsProblem_1 ?_
  refine jk_iload_n C rd_KR_knotsProblem_4 (k := 1) rfl ?_
  obtain ⟨q5, hq5, hf⟩ := jk_bind_h hf
  refine jk_callVi C hZ.1 hz (ct_Cords_has l D Z sq hZ cI cR a_t_cords a_t_cords_starts a_t_cords_depth a_t_cords_topic a_t_cords_value a_t_cords_nibbled i_t_cords_clusters i_t_cords_size x1 q5 hq5) tm_569 tm_570 tm_571 tm_6 tm_572 na_Cords_has ⟨Nat.le_of_ble_eq_true rfl, Nat.le_of_ble_eq_true rfl⟩ rfl [1] rfl rfl rfl (ws' := wd_KR_knotsProblem cI a_t a_t_input a_t_output a_t_topics a_t_cords a_t_draftTopics a_t_draft a_t_saved a_t_history a_t_script a_t_cords_starts a_t_cords_depth a_t_cords_topic a_t_cords_value a_t_cords_nibbled a_t_cords_nibbled_k i_t_hasSaved i_t_reportedCode i_t_reportedOffset i_t_cords_clusters i_t_cords_size i_t_cords_nibbled) rfl 1 5 rfl rfl rfl (st := []) rfl (Nat.le_of_ble_eq_true rfl) rd_KR_knotsProblem_5 ?_ ⟨Nat.le_of_ble_eq_true rfl, Nat.le_of_ble_eq_true rfl⟩
  refine jk_if_ne (tgt := 13) C rd_KR_knotsProblem_8 (by decide) hf (fun _ hf => ?_) (fun _ hf => ?_)
  · refine jk_iload_n C rd_KR_knotsProblem_13 (k := 2) rfl ?_
    obtain ⟨q14, hq14, hf⟩ := jk_bind_h hf
    refine jk_callSi C hZ.1 hz (ct_KR_isPlace l D Z sq hZ cI cR x2 q14 hq14) tm_608 tm_609 tm_1 tm_610 na_KR_isPlace ⟨Nat.le_of_ble_eq_true rfl, Nat.le_of_ble_eq_true rfl⟩ rfl [] rfl rfl rfl (ws' := wd_KR_knotsProblem cI a_t a_t_input a_t_output a_t_topics a_t_cords a_t_draftTopics a_t_draft a_t_saved a_t_history a_t_script a_t_cords_starts a_t_cords_depth a_t_cords_topic a_t_cords_value a_t_cords_nibbled a_t_cords_nibbled_k i_t_hasSaved i_t_reportedCode i_t_reportedOffset i_t_cords_clusters i_t_cords_size i_t_cords_nibbled) rfl (st := []) rfl (Nat.le_of_ble_eq_true rfl) rd_KR_knotsProblem_14 ?_ ⟨Nat.le_of_ble_eq_true rfl, Nat.le_of_ble_eq_true rfl⟩
    refine jk_if_eq (tgt := 30) C rd_KR_knotsProblem_17 (by decide) hf (fun _ hf => ?_) (fun _ hf => ?_)
    · refine jk_iconst C rd_KR_knotsProblem_30 ?_
      cases hf
      exact jk_iret C rfl rd_KR_knotsProblem_31 rfl
    · refine jk_iload_n C rd_KR_knotsProblem_20 (k := 3) rfl ?_
      refine jk_if_lt (tgt := 30) C rd_KR_knotsProblem_21 (by decide) hf (fun _ hf => ?_) (fun _ hf => ?_)
      · refine jk_iconst C rd_KR_knotsProblem_30 ?_
        cases hf
        exact jk_iret C rfl rd_KR_knotsProblem_31 rfl
      · refine jk_iload_n C rd_KR_knotsProblem_24 (k := 3) rfl ?_
        refine jk_bipush C rd_KR_knotsProblem_25 (by decide +kernel) ?_
        refine jk_icmp_le (tgt := 32) C rd_KR_knotsProblem_27 (by decide) hf (fun _ hf => ?_) (fun _ hf => ?_)
        · refine jk_iload_n C rd_KR_knotsProblem_32 (k := 2) rfl ?_
          refine jk_aload_n C rd_KR_knotsProblem_33 (k := 0) rfl ?_
          refine jk_get C in_KR (ci := 10) rfl 3 (by decide) tm_427 0 rfl rfl rd_KR_knotsProblem_34 ?_
          refine jk_getN C in_Cords (ci := 5) rfl 6 (by decide) (jk_nw hZ hz tn_22) 1 rfl rfl rd_KR_knotsProblem_37 ?_
          refine jk_iload_n C rd_KR_knotsProblem_40 (k := 1) rfl ?_
          obtain ⟨q41, hq41, hf⟩ := jk_bind_h hf
          refine jk_callVi C hZ.1 hz (ct_Row_get l D Z sq hZ cI cR (n_t := 40) (Nat.le_of_ble_eq_true rfl) a_t_cords_nibbled a_t_cords_nibbled_k i_t_cords_nibbled x1 q41 hq41) tm_549 tm_292 tm_293 tm_3 tm_294 na_Row_get ⟨Nat.le_of_ble_eq_true rfl, Nat.le_of_ble_eq_true rfl⟩ rfl [2, 3] rfl rfl rfl (ws' := wd_KR_knotsProblem cI a_t a_t_input a_t_output a_t_topics a_t_cords a_t_draftTopics a_t_draft a_t_saved a_t_history a_t_script a_t_cords_starts a_t_cords_depth a_t_cords_topic a_t_cords_value a_t_cords_nibbled a_t_cords_nibbled_k i_t_hasSaved i_t_reportedCode i_t_reportedOffset i_t_cords_clusters i_t_cords_size i_t_cords_nibbled) rfl 2 0 rfl rfl rfl (st := [jk_V x2]) rfl (Nat.le_of_ble_eq_true rfl) rd_KR_knotsProblem_41 ?_ ⟨Nat.le_of_ble_eq_true rfl, Nat.le_of_ble_eq_true rfl⟩
          refine jk_icmp_lt (tgt := 51) C rd_KR_knotsProblem_44 (by decide) hf (fun _ hf => ?_) (fun _ hf => ?_)
          · refine jk_iconst C rd_KR_knotsProblem_51 ?_
            cases hf
            exact jk_iret C rfl rd_KR_knotsProblem_52 rfl
          · refine jk_iconst C rd_KR_knotsProblem_47 ?_
            refine jk_goto (tgt := 52) C rd_KR_knotsProblem_48 (by decide) ?_
            cases hf
            exact jk_iret C rfl rd_KR_knotsProblem_52 rfl
        · refine jk_iconst C rd_KR_knotsProblem_30 ?_
          cases hf
          exact jk_iret C rfl rd_KR_knotsProblem_31 rfl
  · refine jk_iconst C rd_KR_knotsProblem_11 ?_
    cases hf
    exact jk_iret C rfl rd_KR_knotsProblem_12 rfl
def wd_KR_newCordProblem (cI : ClassId) (a_t a_t_input a_t_output a_t_topics a_t_cords a_t_draftTopics a_t_draft a_t_saved a_t_history a_t_script a_t_topics_names a_t_cords_starts a_t_cords_depth a_t_cords_topic a_t_cords_value a_t_cords_nibbled : Nat) (i_t_hasSaved : Int) (i_t_reportedCode : Int) (i_t_reportedOffset : Int) (i_t_topics_size : Int) (i_t_cords_clusters : Int) (i_t_cords_size : Int) : va_W := [(a_t, .inr (10, [.ref a_t_input, .ref a_t_output, .ref a_t_topics, .ref a_t_cords, .ref a_t_draftTopics, .ref a_t_draft, .ref a_t_saved, .ref a_t_history, .ref a_t_script, jk_V i_t_hasSaved, jk_V i_t_reportedCode, jk_V i_t_reportedOffset])), (a_t_topics, .inr (2, [jk_V i_t_topics_size, .ref a_t_topics_names])), (a_t_cords, .inr (5, [jk_V i_t_cords_clusters, jk_V i_t_cords_size, .ref a_t_cords_starts, .ref a_t_cords_depth, .ref a_t_cords_topic, .ref a_t_cords_value, .ref a_t_cords_nibbled]))]
set_option maxHeartbeats 4000000 in
set_option maxRecDepth 20000 in
theorem ct_KR_newCordProblem (l : Launch) (D : va_G) (Z : (Nat → Prop) → State → Heap → Prop) (sq : Nat → Nat) (hZ : jk_ZK Z sq) (cI cR : ClassId) (a_t a_t_input a_t_output a_t_topics a_t_cords a_t_draftTopics a_t_draft a_t_saved a_t_history a_t_script a_t_topics_names a_t_cords_starts a_t_cords_depth a_t_cords_topic a_t_cords_value a_t_cords_nibbled : Nat) (i_t_hasSaved : Int) (i_t_reportedCode : Int) (i_t_reportedOffset : Int) (i_t_topics_size : Int) (i_t_cords_clusters : Int) (i_t_cords_size : Int) (x1 : Int) (x2 : Int) (x3 : Int) (x4 : Int) (q : Int) (hf : fn_KR_newCordProblem i_t_topics_size i_t_cords_size x1 x2 x3 x4 = some q) : jk_MI l D jk_cl (jk_ty cI cR) Z mn_KR_newCordProblem (.code mn_KR_newCordProblem mb_KR_newCordProblem 5 (some .int) :: jk_WA) (jk_rm 1 21) [.ref a_t, jk_V x1, jk_V x2, jk_V x3, jk_V x4] (wd_KR_newCordProblem cI a_t a_t_input a_t_output a_t_topics a_t_cords a_t_draftTopics a_t_draft a_t_saved a_t_history a_t_script a_t_topics_names a_t_cords_starts a_t_cords_depth a_t_cords_topic a_t_cords_value a_t_cords_nibbled i_t_hasSaved i_t_reportedCode i_t_reportedOffset i_t_topics_size i_t_cords_clusters i_t_cords_size) (wd_KR_newCordProblem cI a_t a_t_input a_t_output a_t_topics a_t_cords a_t_draftTopics a_t_draft a_t_saved a_t_history a_t_script a_t_topics_names a_t_cords_starts a_t_cords_depth a_t_cords_topic a_t_cords_value a_t_cords_nibbled i_t_hasSaved i_t_reportedCode i_t_reportedOffset i_t_topics_size i_t_cords_clusters i_t_cords_size) q := by
  intro sz
  refine jk_body (by decide +kernel) (fun p e s m args below meth c hsz hz hin C => ?_) (Nat.le_of_ble_eq_true rfl)
  subst hsz
  unfold fn_KR_newCordProblem at hf
  refine jk_iload_n C rd_KR_newCordProblem_0 (k := 1) rfl ?_
  refine jk_if_eq (tgt := 15) C rd_KR_newCordProblem_1 (by decide) hf (fun _ hf => ?_) (fun _ hf => ?_)
  · refine jk_iconst C rd_KR_newCordProblem_15 ?_
    cases hf
    exact jk_iret C rfl rd_KR_newCordProblem_16 rfl
  · refine jk_aload_n C rd_KR_newCordProblem_4 (k := 0) rfl ?_
    refine jk_get C in_KR (ci := 10) rfl 2 (by decide) tm_426 0 rfl rfl rd_KR_newCordProblem_5 ?_
    refine jk_iload_n C rd_KR_newCordProblem_8 (k := 3) rfl ?_
    obtain ⟨q9, hq9, hf⟩ := jk_bind_h hf
    refine jk_callVi C hZ.1 hz (ct_Topics_has l D Z sq hZ cI cR a_t_topics a_t_topics_names i_t_topics_size x3 q9 hq9) tm_562 tm_563 tm_564 tm_5 tm_565 na_Topics_has ⟨Nat.le_of_ble_eq_true rfl, Nat.le_of_ble_eq_true rfl⟩ rfl [1] rfl rfl rfl (ws' := wd_KR_newCordProblem cI a_t a_t_input a_t_output a_t_topics a_t_cords a_t_draftTopics a_t_draft a_t_saved a_t_history a_t_script a_t_topics_names a_t_cords_starts a_t_cords_depth a_t_cords_topic a_t_cords_value a_t_cords_nibbled i_t_hasSaved i_t_reportedCode i_t_reportedOffset i_t_topics_size i_t_cords_clusters i_t_cords_size) rfl 1 2 rfl rfl rfl (st := []) rfl (Nat.le_of_ble_eq_true rfl) rd_KR_newCordProblem_9 ?_ ⟨Nat.le_of_ble_eq_true rfl, Nat.le_of_ble_eq_true rfl⟩
    refine jk_if_ne (tgt := 17) C rd_KR_newCordProblem_12 (by decide) hf (fun _ hf => ?_) (fun _ hf => ?_)
    · refine jk_iload C rd_KR_newCordProblem_17 (k := 4) rfl ?_
      obtain ⟨q19, hq19, hf⟩ := jk_bind_h hf
      refine jk_callSi C hZ.1 hz (ct_KR_isValue l D Z sq hZ cI cR x4 q19 hq19) tm_566 tm_567 tm_1 tm_568 na_KR_isValue ⟨Nat.le_of_ble_eq_true rfl, Nat.le_of_ble_eq_true rfl⟩ rfl [] rfl rfl rfl (ws' := wd_KR_newCordProblem cI a_t a_t_input a_t_output a_t_topics a_t_cords a_t_draftTopics a_t_draft a_t_saved a_t_history a_t_script a_t_topics_names a_t_cords_starts a_t_cords_depth a_t_cords_topic a_t_cords_value a_t_cords_nibbled i_t_hasSaved i_t_reportedCode i_t_reportedOffset i_t_topics_size i_t_cords_clusters i_t_cords_size) rfl (st := []) rfl (Nat.le_of_ble_eq_true rfl) rd_KR_newCordProblem_19 ?_ ⟨Nat.le_of_ble_eq_true rfl, Nat.le_of_ble_eq_true rfl⟩
      refine jk_if_ne (tgt := 27) C rd_KR_newCordProblem_22 (by decide) hf (fun _ hf => ?_) (fun _ hf => ?_)
      · refine jk_iload_n C rd_KR_newCordProblem_27 (k := 2) rfl ?_
        refine jk_if_eq (tgt := 47) C rd_KR_newCordProblem_28 (by decide) hf (fun _ hf => ?_) (fun _ hf => ?_)
        · refine jk_iconst C rd_KR_newCordProblem_47 ?_
          cases hf
          exact jk_iret C rfl rd_KR_newCordProblem_48 rfl
        · refine jk_aload_n C rd_KR_newCordProblem_31 (k := 0) rfl ?_
          refine jk_get C in_KR (ci := 10) rfl 3 (by decide) tm_427 0 rfl rfl rd_KR_newCordProblem_32 ?_
          refine jk_getN C in_Cords (ci := 5) rfl 1 (by decide) (jk_nw hZ hz tn_15) 2 rfl rfl rd_KR_newCordProblem_35 ?_
          refine jk_bipush C rd_KR_newCordProblem_38 (by decide +kernel) ?_
          refine jk_icmp_ge (tgt := 47) C rd_KR_newCordProblem_40 (by decide) hf (fun _ hf => ?_) (fun _ hf => ?_)
          · refine jk_iconst C rd_KR_newCordProblem_47 ?_
            cases hf
            exact jk_iret C rfl rd_KR_newCordProblem_48 rfl
          · refine jk_iconst C rd_KR_newCordProblem_43 ?_
            refine jk_goto (tgt := 48) C rd_KR_newCordProblem_44 (by decide) ?_
            cases hf
            exact jk_iret C rfl rd_KR_newCordProblem_48 rfl
      · refine jk_iconst C rd_KR_newCordProblem_25 ?_
        cases hf
        exact jk_iret C rfl rd_KR_newCordProblem_26 rfl
    · refine jk_iconst C rd_KR_newCordProblem_15 ?_
      cases hf
      exact jk_iret C rfl rd_KR_newCordProblem_16 rfl
def wd_KR_nibbleProblem (cI : ClassId) (a_t a_t_input a_t_output a_t_topics a_t_cords a_t_draftTopics a_t_draft a_t_saved a_t_history a_t_script a_t_cords_starts a_t_cords_depth a_t_cords_topic a_t_cords_value a_t_cords_nibbled a_t_cords_nibbled_k : Nat) (i_t_hasSaved : Int) (i_t_reportedCode : Int) (i_t_reportedOffset : Int) (i_t_cords_clusters : Int) (i_t_cords_size : Int) (i_t_cords_nibbled : (Int → Int)) : va_W := [(a_t, .inr (10, [.ref a_t_input, .ref a_t_output, .ref a_t_topics, .ref a_t_cords, .ref a_t_draftTopics, .ref a_t_draft, .ref a_t_saved, .ref a_t_history, .ref a_t_script, jk_V i_t_hasSaved, jk_V i_t_reportedCode, jk_V i_t_reportedOffset])), (a_t_cords, .inr (5, [jk_V i_t_cords_clusters, jk_V i_t_cords_size, .ref a_t_cords_starts, .ref a_t_cords_depth, .ref a_t_cords_topic, .ref a_t_cords_value, .ref a_t_cords_nibbled])), (a_t_cords_nibbled, .inr (0, [.ref a_t_cords_nibbled_k])), (a_t_cords_nibbled_k, jk_W cI 40 i_t_cords_nibbled)]
set_option maxHeartbeats 4000000 in
set_option maxRecDepth 20000 in
theorem ct_KR_nibbleProblem (l : Launch) (D : va_G) (Z : (Nat → Prop) → State → Heap → Prop) (sq : Nat → Nat) (hZ : jk_ZK Z sq) (cI cR : ClassId) (a_t a_t_input a_t_output a_t_topics a_t_cords a_t_draftTopics a_t_draft a_t_saved a_t_history a_t_script a_t_cords_starts a_t_cords_depth a_t_cords_topic a_t_cords_value a_t_cords_nibbled a_t_cords_nibbled_k : Nat) (i_t_hasSaved : Int) (i_t_reportedCode : Int) (i_t_reportedOffset : Int) (i_t_cords_clusters : Int) (i_t_cords_size : Int) (i_t_cords_nibbled : (Int → Int)) (x1 : Int) (x2 : Int) (q : Int) (hf : fn_KR_nibbleProblem i_t_cords_size i_t_cords_nibbled x1 x2 = some q) : jk_MI l D jk_cl (jk_ty cI cR) Z mn_KR_nibbleProblem (.code mn_KR_nibbleProblem mb_KR_nibbleProblem 3 (some .int) :: jk_WA) (jk_rm 1 21) [.ref a_t, jk_V x1, jk_V x2] (wd_KR_nibbleProblem cI a_t a_t_input a_t_output a_t_topics a_t_cords a_t_draftTopics a_t_draft a_t_saved a_t_history a_t_script a_t_cords_starts a_t_cords_depth a_t_cords_topic a_t_cords_value a_t_cords_nibbled a_t_cords_nibbled_k i_t_hasSaved i_t_reportedCode i_t_reportedOffset i_t_cords_clusters i_t_cords_size i_t_cords_nibbled) (wd_KR_nibbleProblem cI a_t a_t_input a_t_output a_t_topics a_t_cords a_t_draftTopics a_t_draft a_t_saved a_t_history a_t_script a_t_cords_starts a_t_cords_depth a_t_cords_topic a_t_cords_value a_t_cords_nibbled a_t_cords_nibbled_k i_t_hasSaved i_t_reportedCode i_t_reportedOffset i_t_cords_clusters i_t_cords_size i_t_cords_nibbled) q := by
  intro sz
  refine jk_body (by decide +kernel) (fun p e s m args below meth c hsz hz hin C => ?_) (Nat.le_of_ble_eq_true rfl)
  subst hsz
  unfold fn_KR_nibbleProblem at hf
  refine jk_aload_n C rd_KR_nibbleProblem_0 (k := 0) rfl ?_
  refine jk_get C in_KR (ci := 10) rfl 3 (by decide) tm_427 0 rfl rfl rd_KR_nibbleProblem_1 ?_
  refine jk_iload_n C rd_KR_nibbleProblem_4 (k := 1) rfl ?_
  obtain ⟨q5, hq5, hf⟩ := jk_bind_h hf
  refine jk_callVi C hZ.1 hz (ct_Cords_has l D Z sq hZ cI cR a_t_cords a_t_cords_starts a_t_cords_depth a_t_cords_topic a_t_cords_value a_t_cords_nibbled i_t_cords_clusters i_t_cords_size x1 q5 hq5) tm_569 tm_570 tm_571 tm_6 tm_572 na_Cords_has ⟨Nat.le_of_ble_eq_true rfl, Nat.le_of_ble_eq_true rfl⟩ rfl [1] rfl rfl rfl (ws' := wd_KR_nibbleProblem cI a_t a_t_input a_t_output a_t_topics a_t_cords a_t_draftTopics a_t_draft a_t_saved a_t_history a_t_script a_t_cords_starts a_t_cords_depth a_t_cords_topic a_t_cords_value a_t_cords_nibbled a_t_cords_nibbled_k i_t_hasSaved i_t_reportedCode i_t_reportedOffset i_t_cords_clusters i_t_cords_size i_t_cords_nibbled) rfl 1 5 rfl rfl rfl (st := []) rfl (Nat.le_of_ble_eq_true rfl) rd_KR_nibbleProblem_5 ?_ ⟨Nat.le_of_ble_eq_true rfl, Nat.le_of_ble_eq_true rfl⟩
  refine jk_if_ne (tgt := 13) C rd_KR_nibbleProblem_8 (by decide) hf (fun _ hf => ?_) (fun _ hf => ?_)
  · refine jk_iload_n C rd_KR_nibbleProblem_13 (k := 2) rfl ?_
    refine jk_iconst C rd_KR_nibbleProblem_14 ?_
    refine jk_icmp_lt (tgt := 23) C rd_KR_nibbleProblem_15 (by decide) hf (fun _ hf => ?_) (fun _ hf => ?_)
    · refine jk_iconst C rd_KR_nibbleProblem_23 ?_
      cases hf
      exact jk_iret C rfl rd_KR_nibbleProblem_24 rfl
    · refine jk_iload_n C rd_KR_nibbleProblem_18 (k := 2) rfl ?_
      refine jk_iconst C rd_KR_nibbleProblem_19 ?_
      refine jk_icmp_le (tgt := 25) C rd_KR_nibbleProblem_20 (by decide) hf (fun _ hf => ?_) (fun _ hf => ?_)
      · refine jk_iload_n C rd_KR_nibbleProblem_25 (k := 2) rfl ?_
        refine jk_aload_n C rd_KR_nibbleProblem_26 (k := 0) rfl ?_
        refine jk_get C in_KR (ci := 10) rfl 3 (by decide) tm_427 0 rfl rfl rd_KR_nibbleProblem_27 ?_
        refine jk_getN C in_Cords (ci := 5) rfl 6 (by decide) (jk_nw hZ hz tn_22) 1 rfl rfl rd_KR_nibbleProblem_30 ?_
        refine jk_iload_n C rd_KR_nibbleProblem_33 (k := 1) rfl ?_
        obtain ⟨q34, hq34, hf⟩ := jk_bind_h hf
        refine jk_callVi C hZ.1 hz (ct_Row_get l D Z sq hZ cI cR (n_t := 40) (Nat.le_of_ble_eq_true rfl) a_t_cords_nibbled a_t_cords_nibbled_k i_t_cords_nibbled x1 q34 hq34) tm_549 tm_292 tm_293 tm_3 tm_294 na_Row_get ⟨Nat.le_of_ble_eq_true rfl, Nat.le_of_ble_eq_true rfl⟩ rfl [2, 3] rfl rfl rfl (ws' := wd_KR_nibbleProblem cI a_t a_t_input a_t_output a_t_topics a_t_cords a_t_draftTopics a_t_draft a_t_saved a_t_history a_t_script a_t_cords_starts a_t_cords_depth a_t_cords_topic a_t_cords_value a_t_cords_nibbled a_t_cords_nibbled_k i_t_hasSaved i_t_reportedCode i_t_reportedOffset i_t_cords_clusters i_t_cords_size i_t_cords_nibbled) rfl 2 0 rfl rfl rfl (st := [jk_V x2]) rfl (Nat.le_of_ble_eq_true rfl) rd_KR_nibbleProblem_34 ?_ ⟨Nat.le_of_ble_eq_true rfl, Nat.le_of_ble_eq_true rfl⟩
        refine jk_icmp_lt (tgt := 44) C rd_KR_nibbleProblem_37 (by decide) hf (fun _ hf => ?_) (fun _ hf => ?_)
        · refine jk_iconst C rd_KR_nibbleProblem_44 ?_
          cases hf
          exact jk_iret C rfl rd_KR_nibbleProblem_45 rfl
        · refine jk_iconst C rd_KR_nibbleProblem_40 ?_
          refine jk_goto (tgt := 45) C rd_KR_nibbleProblem_41 (by decide) ?_
          cases hf
          exact jk_iret C rfl rd_KR_nibbleProblem_45 rfl
      · refine jk_iconst C rd_KR_nibbleProblem_23 ?_
        cases hf
        exact jk_iret C rfl rd_KR_nibbleProblem_24 rfl
  · refine jk_iconst C rd_KR_nibbleProblem_11 ?_
    cases hf
    exact jk_iret C rfl rd_KR_nibbleProblem_12 rfl
def wd_KR_tieProblem (cI : ClassId) (a_t a_t_input a_t_output a_t_topics a_t_cords a_t_draftTopics a_t_draft a_t_saved a_t_history a_t_script a_t_topics_names a_t_cords_starts a_t_cords_depth a_t_cords_topic a_t_cords_value a_t_cords_nibbled a_t_cords_starts_k a_t_cords_depth_k a_t_cords_value_k a_t_cords_nibbled_k : Nat) (i_t_hasSaved : Int) (i_t_reportedCode : Int) (i_t_reportedOffset : Int) (i_t_topics_size : Int) (i_t_cords_clusters : Int) (i_t_cords_size : Int) (i_t_cords_starts : (Int → Int)) (i_t_cords_depth : (Int → Int)) (i_t_cords_value : (Int → Int)) (i_t_cords_nibbled : (Int → Int)) : va_W := [(a_t, .inr (10, [.ref a_t_input, .ref a_t_output, .ref a_t_topics, .ref a_t_cords, .ref a_t_draftTopics, .ref a_t_draft, .ref a_t_saved, .ref a_t_history, .ref a_t_script, jk_V i_t_hasSaved, jk_V i_t_reportedCode, jk_V i_t_reportedOffset])), (a_t_topics, .inr (2, [jk_V i_t_topics_size, .ref a_t_topics_names])), (a_t_cords, .inr (5, [jk_V i_t_cords_clusters, jk_V i_t_cords_size, .ref a_t_cords_starts, .ref a_t_cords_depth, .ref a_t_cords_topic, .ref a_t_cords_value, .ref a_t_cords_nibbled])), (a_t_cords_starts, .inr (0, [.ref a_t_cords_starts_k])), (a_t_cords_starts_k, jk_W cI 7 i_t_cords_starts), (a_t_cords_depth, .inr (0, [.ref a_t_cords_depth_k])), (a_t_cords_depth_k, jk_W cI 40 i_t_cords_depth), (a_t_cords_value, .inr (0, [.ref a_t_cords_value_k])), (a_t_cords_value_k, jk_W cI 40 i_t_cords_value), (a_t_cords_nibbled, .inr (0, [.ref a_t_cords_nibbled_k])), (a_t_cords_nibbled_k, jk_W cI 40 i_t_cords_nibbled)]
set_option maxHeartbeats 4000000 in
set_option maxRecDepth 20000 in
theorem ct_KR_tieProblem (l : Launch) (D : va_G) (Z : (Nat → Prop) → State → Heap → Prop) (sq : Nat → Nat) (hZ : jk_ZK Z sq) (cI cR : ClassId) (a_t a_t_input a_t_output a_t_topics a_t_cords a_t_draftTopics a_t_draft a_t_saved a_t_history a_t_script a_t_topics_names a_t_cords_starts a_t_cords_depth a_t_cords_topic a_t_cords_value a_t_cords_nibbled a_t_cords_starts_k a_t_cords_depth_k a_t_cords_value_k a_t_cords_nibbled_k : Nat) (i_t_hasSaved : Int) (i_t_reportedCode : Int) (i_t_reportedOffset : Int) (i_t_topics_size : Int) (i_t_cords_clusters : Int) (i_t_cords_size : Int) (i_t_cords_starts : (Int → Int)) (i_t_cords_depth : (Int → Int)) (i_t_cords_value : (Int → Int)) (i_t_cords_nibbled : (Int → Int)) (x1 : Int) (x2 : Int) (q : Int) (hf : fn_KR_tieProblem i_t_topics_size i_t_cords_clusters i_t_cords_size i_t_cords_starts i_t_cords_depth i_t_cords_value i_t_cords_nibbled x1 x2 = some q) : jk_MI l D jk_cl (jk_ty cI cR) Z mn_KR_tieProblem (.code mn_KR_tieProblem mb_KR_tieProblem 3 (some .int) :: jk_WA) (jk_rm 3 66) [.ref a_t, jk_V x1, jk_V x2] (wd_KR_tieProblem cI a_t a_t_input a_t_output a_t_topics a_t_cords a_t_draftTopics a_t_draft a_t_saved a_t_history a_t_script a_t_topics_names a_t_cords_starts a_t_cords_depth a_t_cords_topic a_t_cords_value a_t_cords_nibbled a_t_cords_starts_k a_t_cords_depth_k a_t_cords_value_k a_t_cords_nibbled_k i_t_hasSaved i_t_reportedCode i_t_reportedOffset i_t_topics_size i_t_cords_clusters i_t_cords_size i_t_cords_starts i_t_cords_depth i_t_cords_value i_t_cords_nibbled) (wd_KR_tieProblem cI a_t a_t_input a_t_output a_t_topics a_t_cords a_t_draftTopics a_t_draft a_t_saved a_t_history a_t_script a_t_topics_names a_t_cords_starts a_t_cords_depth a_t_cords_topic a_t_cords_value a_t_cords_nibbled a_t_cords_starts_k a_t_cords_depth_k a_t_cords_value_k a_t_cords_nibbled_k i_t_hasSaved i_t_reportedCode i_t_reportedOffset i_t_topics_size i_t_cords_clusters i_t_cords_size i_t_cords_starts i_t_cords_depth i_t_cords_value i_t_cords_nibbled) q := by
  intro sz
  refine jk_body (by decide +kernel) (fun p e s m args below meth c hsz hz hin C => ?_) (Nat.le_of_ble_eq_true rfl)
  subst hsz
  unfold fn_KR_tieProblem at hf
  refine jk_aload_n C rd_KR_tieProblem_0 (k := 0) rfl ?_
  refine jk_get C in_KR (ci := 10) rfl 3 (by decide) tm_427 0 rfl rfl rd_KR_tieProblem_1 ?_
  refine jk_iload_n C rd_KR_tieProblem_4 (k := 1) rfl ?_
  obtain ⟨q5, hq5, hf⟩ := jk_bind_h hf
  refine jk_callVi C hZ.1 hz (ct_Cords_hasCluster l D Z sq hZ cI cR a_t_cords a_t_cords_starts a_t_cords_depth a_t_cords_topic a_t_cords_value a_t_cords_nibbled i_t_cords_clusters i_t_cords_size x1 q5 hq5) tm_554 tm_555 tm_556 tm_6 tm_557 na_Cords_hasCluster ⟨Nat.le_of_ble_eq_true rfl, Nat.le_of_ble_eq_true rfl⟩ rfl [2] rfl rfl rfl (ws' := wd_KR_tieProblem cI a_t a_t_input a_t_output a_t_topics a_t_cords a_t_draftTopics a_t_draft a_t_saved a_t_history a_t_script a_t_topics_names a_t_cords_starts a_t_cords_depth a_t_cords_topic a_t_cords_value a_t_cords_nibbled a_t_cords_starts_k a_t_cords_depth_k a_t_cords_value_k a_t_cords_nibbled_k i_t_hasSaved i_t_reportedCode i_t_reportedOffset i_t_topics_size i_t_cords_clusters i_t_cords_size i_t_cords_starts i_t_cords_depth i_t_cords_value i_t_cords_nibbled) rfl 2 5 rfl rfl rfl (st := []) rfl (Nat.le_of_ble_eq_true rfl) rd_KR_tieProblem_5 ?_ ⟨Nat.le_of_ble_eq_true rfl, Nat.le_of_ble_eq_true rfl⟩
  refine jk_if_eq (tgt := 22) C rd_KR_tieProblem_8 (by decide) hf (fun _ hf => ?_) (fun _ hf => ?_)
  · refine jk_iconst C rd_KR_tieProblem_22 ?_
    cases hf
    exact jk_iret C rfl rd_KR_tieProblem_23 rfl
  · refine jk_aload_n C rd_KR_tieProblem_11 (k := 0) rfl ?_
    refine jk_get C in_KR (ci := 10) rfl 2 (by decide) tm_426 0 rfl rfl rd_KR_tieProblem_12 ?_
    refine jk_iload_n C rd_KR_tieProblem_15 (k := 2) rfl ?_
    obtain ⟨q16, hq16, hf⟩ := jk_bind_h hf
    refine jk_callVi C hZ.1 hz (ct_Topics_has l D Z sq hZ cI cR a_t_topics a_t_topics_names i_t_topics_size x2 q16 hq16) tm_562 tm_563 tm_564 tm_5 tm_565 na_Topics_has ⟨Nat.le_of_ble_eq_true rfl, Nat.le_of_ble_eq_true rfl⟩ rfl [1] rfl rfl rfl (ws' := wd_KR_tieProblem cI a_t a_t_input a_t_output a_t_topics a_t_cords a_t_draftTopics a_t_draft a_t_saved a_t_history a_t_script a_t_topics_names a_t_cords_starts a_t_cords_depth a_t_cords_topic a_t_cords_value a_t_cords_nibbled a_t_cords_starts_k a_t_cords_depth_k a_t_cords_value_k a_t_cords_nibbled_k i_t_hasSaved i_t_reportedCode i_t_reportedOffset i_t_topics_size i_t_cords_clusters i_t_cords_size i_t_cords_starts i_t_cords_depth i_t_cords_value i_t_cords_nibbled) rfl 1 2 rfl rfl rfl (st := []) rfl (Nat.le_of_ble_eq_true rfl) rd_KR_tieProblem_16 ?_ ⟨Nat.le_of_ble_eq_true rfl, Nat.le_of_ble_eq_true rfl⟩
    refine jk_if_ne (tgt := 24) C rd_KR_tieProblem_19 (by decide) hf (fun _ hf => ?_) (fun _ hf => ?_)
    · refine jk_aload_n C rd_KR_tieProblem_24 (k := 0) rfl ?_
      refine jk_get C in_KR (ci := 10) rfl 3 (by decide) tm_427 0 rfl rfl rd_KR_tieProblem_25 ?_
      refine jk_iload_n C rd_KR_tieProblem_28 (k := 1) rfl ?_
      obtain ⟨q29, hq29, hf⟩ := jk_bind_h hf
      refine jk_callVi C hZ.1 hz (ct_Cords_hasTop l D Z sq hZ cI cR a_t_cords a_t_cords_starts a_t_cords_depth a_t_cords_topic a_t_cords_value a_t_cords_nibbled a_t_cords_starts_k a_t_cords_depth_k i_t_cords_clusters i_t_cords_size i_t_cords_starts i_t_cords_depth x1 q29 hq29) tm_581 tm_349 tm_350 tm_6 tm_351 na_Cords_hasTop ⟨Nat.le_of_ble_eq_true rfl, Nat.le_of_ble_eq_true rfl⟩ rfl [2, 3, 4, 5, 6] rfl rfl rfl (ws' := wd_KR_tieProblem cI a_t a_t_input a_t_output a_t_topics a_t_cords a_t_draftTopics a_t_draft a_t_saved a_t_history a_t_script a_t_topics_names a_t_cords_starts a_t_cords_depth a_t_cords_topic a_t_cords_value a_t_cords_nibbled a_t_cords_starts_k a_t_cords_depth_k a_t_cords_value_k a_t_cords_nibbled_k i_t_hasSaved i_t_reportedCode i_t_reportedOffset i_t_topics_size i_t_cords_clusters i_t_cords_size i_t_cords_starts i_t_cords_depth i_t_cords_value i_t_cords_nibbled) rfl 2 5 rfl rfl rfl (st := []) rfl (Nat.le_of_ble_eq_true rfl) rd_KR_tieProblem_29 ?_ ⟨Nat.le_of_ble_eq_true rfl, Nat.le_of_ble_eq_true rfl⟩
      refine jk_if_ne (tgt := 66) C rd_KR_tieProblem_32 (by decide) hf (fun _ hf => ?_) (fun _ hf => ?_)
      · refine jk_iconst C rd_KR_tieProblem_66 ?_
        cases hf
        exact jk_iret C rfl rd_KR_tieProblem_67 rfl
      · refine jk_aload_n C rd_KR_tieProblem_35 (k := 0) rfl ?_
        refine jk_get C in_KR (ci := 10) rfl 3 (by decide) tm_427 0 rfl rfl rd_KR_tieProblem_36 ?_
        refine jk_iload_n C rd_KR_tieProblem_39 (k := 1) rfl ?_
        obtain ⟨q40, hq40, hf⟩ := jk_bind_h hf
        refine jk_callVi C hZ.1 hz (ct_Cords_start l D Z sq hZ cI cR a_t_cords a_t_cords_starts a_t_cords_depth a_t_cords_topic a_t_cords_value a_t_cords_nibbled a_t_cords_starts_k i_t_cords_clusters i_t_cords_size i_t_cords_starts x1 q40 hq40) tm_582 tm_365 tm_366 tm_6 tm_367 na_Cords_start ⟨Nat.le_of_ble_eq_true rfl, Nat.le_of_ble_eq_true rfl⟩ rfl [2, 3, 4] rfl rfl rfl (ws' := wd_KR_tieProblem cI a_t a_t_input a_t_output a_t_topics a_t_cords a_t_draftTopics a_t_draft a_t_saved a_t_history a_t_script a_t_topics_names a_t_cords_starts a_t_cords_depth a_t_cords_topic a_t_cords_value a_t_cords_nibbled a_t_cords_starts_k a_t_cords_depth_k a_t_cords_value_k a_t_cords_nibbled_k i_t_hasSaved i_t_reportedCode i_t_reportedOffset i_t_topics_size i_t_cords_clusters i_t_cords_size i_t_cords_starts i_t_cords_depth i_t_cords_value i_t_cords_nibbled) rfl 2 5 rfl rfl rfl (st := []) rfl (Nat.le_of_ble_eq_true rfl) rd_KR_tieProblem_40 ?_ ⟨Nat.le_of_ble_eq_true rfl, Nat.le_of_ble_eq_true rfl⟩
        refine jk_aload_n C rd_KR_tieProblem_43 (k := 0) rfl ?_
        refine jk_get C in_KR (ci := 10) rfl 3 (by decide) tm_427 0 rfl rfl rd_KR_tieProblem_44 ?_
        refine jk_iload_n C rd_KR_tieProblem_47 (k := 1) rfl ?_
        obtain ⟨q48, hq48, hf⟩ := jk_bind_h hf
        refine jk_callVi C hZ.1 hz (ct_Cords_end l D Z sq hZ cI cR a_t_cords a_t_cords_starts a_t_cords_depth a_t_cords_topic a_t_cords_value a_t_cords_nibbled a_t_cords_starts_k i_t_cords_clusters i_t_cords_size i_t_cords_starts x1 q48 hq48) tm_583 tm_584 tm_585 tm_6 tm_586 na_Cords_end ⟨Nat.le_of_ble_eq_true rfl, Nat.le_of_ble_eq_true rfl⟩ rfl [2, 3, 4] rfl rfl rfl (ws' := wd_KR_tieProblem cI a_t a_t_input a_t_output a_t_topics a_t_cords a_t_draftTopics a_t_draft a_t_saved a_t_history a_t_script a_t_topics_names a_t_cords_starts a_t_cords_depth a_t_cords_topic a_t_cords_value a_t_cords_nibbled a_t_cords_starts_k a_t_cords_depth_k a_t_cords_value_k a_t_cords_nibbled_k i_t_hasSaved i_t_reportedCode i_t_reportedOffset i_t_topics_size i_t_cords_clusters i_t_cords_size i_t_cords_starts i_t_cords_depth i_t_cords_value i_t_cords_nibbled) rfl 2 5 rfl rfl rfl (st := [jk_V q40]) rfl (Nat.le_of_ble_eq_true rfl) rd_KR_tieProblem_48 ?_ ⟨Nat.le_of_ble_eq_true rfl, Nat.le_of_ble_eq_true rfl⟩
        refine jk_icmp_eq (tgt := 66) C rd_KR_tieProblem_51 (by decide) hf (fun _ hf => ?_) (fun _ hf => ?_)
        · refine jk_iconst C rd_KR_tieProblem_66 ?_
          cases hf
          exact jk_iret C rfl rd_KR_tieProblem_67 rfl
        · refine jk_aload_n C rd_KR_tieProblem_54 (k := 0) rfl ?_
          refine jk_get C in_KR (ci := 10) rfl 3 (by decide) tm_427 0 rfl rfl rd_KR_tieProblem_55 ?_
          refine jk_getN C in_Cords (ci := 5) rfl 1 (by decide) (jk_nw hZ hz tn_15) 2 rfl rfl rd_KR_tieProblem_58 ?_
          refine jk_bipush C rd_KR_tieProblem_61 (by decide +kernel) ?_
          refine jk_icmp_lt (tgt := 68) C rd_KR_tieProblem_63 (by decide) hf (fun _ hf => ?_) (fun _ hf => ?_)
          · refine jk_aload_n C rd_KR_tieProblem_68 (k := 0) rfl ?_
            refine jk_get C in_KR (ci := 10) rfl 3 (by decide) tm_427 0 rfl rfl rd_KR_tieProblem_69 ?_
            refine jk_iload_n C rd_KR_tieProblem_72 (k := 1) rfl ?_
            obtain ⟨q73, hq73, hf⟩ := jk_bind_h hf
            refine jk_callVi C hZ.1 hz (ct_Cords_hasKnownSum l D Z sq hZ cI cR a_t_cords a_t_cords_starts a_t_cords_depth a_t_cords_topic a_t_cords_value a_t_cords_nibbled a_t_cords_starts_k a_t_cords_depth_k a_t_cords_nibbled_k i_t_cords_clusters i_t_cords_size i_t_cords_starts i_t_cords_depth i_t_cords_nibbled x1 q73 hq73) tm_587 tm_588 tm_589 tm_6 tm_590 na_Cords_hasKnownSum ⟨Nat.le_of_ble_eq_true rfl, Nat.le_of_ble_eq_true rfl⟩ rfl [2, 3, 4, 5, 6, 9, 10] rfl rfl rfl (ws' := wd_KR_tieProblem cI a_t a_t_input a_t_output a_t_topics a_t_cords a_t_draftTopics a_t_draft a_t_saved a_t_history a_t_script a_t_topics_names a_t_cords_starts a_t_cords_depth a_t_cords_topic a_t_cords_value a_t_cords_nibbled a_t_cords_starts_k a_t_cords_depth_k a_t_cords_value_k a_t_cords_nibbled_k i_t_hasSaved i_t_reportedCode i_t_reportedOffset i_t_topics_size i_t_cords_clusters i_t_cords_size i_t_cords_starts i_t_cords_depth i_t_cords_value i_t_cords_nibbled) rfl 2 5 rfl rfl rfl (st := []) rfl (Nat.le_of_ble_eq_true rfl) rd_KR_tieProblem_73 ?_ ⟨Nat.le_of_ble_eq_true rfl, Nat.le_of_ble_eq_true rfl⟩
            refine jk_if_eq (tgt := 97) C rd_KR_tieProblem_76 (by decide) hf (fun _ hf => ?_) (fun _ hf => ?_)
            · refine jk_iconst C rd_KR_tieProblem_97 ?_
              cases hf
              exact jk_iret C rfl rd_KR_tieProblem_98 rfl
            · refine jk_aload_n C rd_KR_tieProblem_79 (k := 0) rfl ?_
              refine jk_get C in_KR (ci := 10) rfl 3 (by decide) tm_427 0 rfl rfl rd_KR_tieProblem_80 ?_
              refine jk_iload_n C rd_KR_tieProblem_83 (k := 1) rfl ?_
              obtain ⟨q84, hq84, hf⟩ := jk_bind_h hf
              refine jk_callVi C hZ.1 hz (ct_Cords_sum l D Z sq hZ cI cR a_t_cords a_t_cords_starts a_t_cords_depth a_t_cords_topic a_t_cords_value a_t_cords_nibbled a_t_cords_starts_k a_t_cords_depth_k a_t_cords_value_k i_t_cords_clusters i_t_cords_size i_t_cords_starts i_t_cords_depth i_t_cords_value x1 q84 hq84) tm_596 tm_597 tm_598 tm_6 tm_599 na_Cords_sum ⟨Nat.le_of_ble_eq_true rfl, Nat.le_of_ble_eq_true rfl⟩ rfl [2, 3, 4, 5, 6, 7, 8] rfl rfl rfl (ws' := wd_KR_tieProblem cI a_t a_t_input a_t_output a_t_topics a_t_cords a_t_draftTopics a_t_draft a_t_saved a_t_history a_t_script a_t_topics_names a_t_cords_starts a_t_cords_depth a_t_cords_topic a_t_cords_value a_t_cords_nibbled a_t_cords_starts_k a_t_cords_depth_k a_t_cords_value_k a_t_cords_nibbled_k i_t_hasSaved i_t_reportedCode i_t_reportedOffset i_t_topics_size i_t_cords_clusters i_t_cords_size i_t_cords_starts i_t_cords_depth i_t_cords_value i_t_cords_nibbled) rfl 2 5 rfl rfl rfl (st := []) rfl (Nat.le_of_ble_eq_true rfl) rd_KR_tieProblem_84 ?_ ⟨Nat.le_of_ble_eq_true rfl, Nat.le_of_ble_eq_true rfl⟩
              obtain ⟨q87, hq87, hf⟩ := jk_bind_h hf
              refine jk_callSi C hZ.1 hz (ct_KR_isValue l D Z sq hZ cI cR q84 q87 hq87) tm_566 tm_567 tm_1 tm_568 na_KR_isValue ⟨Nat.le_of_ble_eq_true rfl, Nat.le_of_ble_eq_true rfl⟩ rfl [] rfl rfl rfl (ws' := wd_KR_tieProblem cI a_t a_t_input a_t_output a_t_topics a_t_cords a_t_draftTopics a_t_draft a_t_saved a_t_history a_t_script a_t_topics_names a_t_cords_starts a_t_cords_depth a_t_cords_topic a_t_cords_value a_t_cords_nibbled a_t_cords_starts_k a_t_cords_depth_k a_t_cords_value_k a_t_cords_nibbled_k i_t_hasSaved i_t_reportedCode i_t_reportedOffset i_t_topics_size i_t_cords_clusters i_t_cords_size i_t_cords_starts i_t_cords_depth i_t_cords_value i_t_cords_nibbled) rfl (st := []) rfl (Nat.le_of_ble_eq_true rfl) rd_KR_tieProblem_87 ?_ ⟨Nat.le_of_ble_eq_true rfl, Nat.le_of_ble_eq_true rfl⟩
              refine jk_if_eq (tgt := 97) C rd_KR_tieProblem_90 (by decide) hf (fun _ hf => ?_) (fun _ hf => ?_)
              · refine jk_iconst C rd_KR_tieProblem_97 ?_
                cases hf
                exact jk_iret C rfl rd_KR_tieProblem_98 rfl
              · refine jk_iconst C rd_KR_tieProblem_93 ?_
                refine jk_goto (tgt := 98) C rd_KR_tieProblem_94 (by decide) ?_
                cases hf
                exact jk_iret C rfl rd_KR_tieProblem_98 rfl
          · refine jk_iconst C rd_KR_tieProblem_66 ?_
            cases hf
            exact jk_iret C rfl rd_KR_tieProblem_67 rfl
    · refine jk_iconst C rd_KR_tieProblem_22 ?_
      cases hf
      exact jk_iret C rfl rd_KR_tieProblem_23 rfl
