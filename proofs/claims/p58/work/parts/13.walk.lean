theorem rd_Text_isWord_0 : decode mb_Text_isWord 0 = .ok (.aload_n 0, 1) := by decide +kernel
theorem rd_Text_isWord_1 : decode mb_Text_isWord 1 = .ok (.getfield 24, 3) := by decide +kernel
theorem rd_Text_isWord_4 : decode mb_Text_isWord 4 = .ok (.iconst 2, 1) := by decide +kernel
theorem rd_Text_isWord_5 : decode mb_Text_isWord 5 = .ok (.if_icmp .ne 19, 3) := by decide +kernel
theorem rd_Text_isWord_8 : decode mb_Text_isWord 8 = .ok (.aload_n 0, 1) := by decide +kernel
theorem rd_Text_isWord_9 : decode mb_Text_isWord 9 = .ok (.getfield 30, 3) := by decide +kernel
theorem rd_Text_isWord_12 : decode mb_Text_isWord 12 = .ok (.aload_n 0, 1) := by decide +kernel
theorem rd_Text_isWord_13 : decode mb_Text_isWord 13 = .ok (.getfield 27, 3) := by decide +kernel
theorem rd_Text_isWord_16 : decode mb_Text_isWord 16 = .ok (.isub, 1) := by decide +kernel
theorem rd_Text_isWord_17 : decode mb_Text_isWord 17 = .ok (.aload_n 1, 1) := by decide +kernel
theorem rd_Text_isWord_18 : decode mb_Text_isWord 18 = .ok (.invokevirtual 39, 3) := by decide +kernel
theorem rd_Text_isWord_21 : decode mb_Text_isWord 21 = .ok (.if_icmp .eq 5, 3) := by decide +kernel
theorem rd_Text_isWord_24 : decode mb_Text_isWord 24 = .ok (.iconst 0, 1) := by decide +kernel
theorem rd_Text_isWord_25 : decode mb_Text_isWord 25 = .ok (.ireturn, 1) := by decide +kernel
theorem rd_Text_isWord_26 : decode mb_Text_isWord 26 = .ok (.iconst 0, 1) := by decide +kernel
theorem rd_Text_isWord_27 : decode mb_Text_isWord 27 = .ok (.istore_n 2, 1) := by decide +kernel
theorem rd_Text_isWord_28 : decode mb_Text_isWord 28 = .ok (.iload_n 2, 1) := by decide +kernel
theorem rd_Text_isWord_29 : decode mb_Text_isWord 29 = .ok (.aload_n 1, 1) := by decide +kernel
theorem rd_Text_isWord_30 : decode mb_Text_isWord 30 = .ok (.invokevirtual 39, 3) := by decide +kernel
theorem rd_Text_isWord_33 : decode mb_Text_isWord 33 = .ok (.if_icmp .ge 32, 3) := by decide +kernel
theorem rd_Text_isWord_36 : decode mb_Text_isWord 36 = .ok (.aload_n 0, 1) := by decide +kernel
theorem rd_Text_isWord_37 : decode mb_Text_isWord 37 = .ok (.getfield 14, 3) := by decide +kernel
theorem rd_Text_isWord_40 : decode mb_Text_isWord 40 = .ok (.aload_n 0, 1) := by decide +kernel
theorem rd_Text_isWord_41 : decode mb_Text_isWord 41 = .ok (.getfield 27, 3) := by decide +kernel
theorem rd_Text_isWord_44 : decode mb_Text_isWord 44 = .ok (.iload_n 2, 1) := by decide +kernel
theorem rd_Text_isWord_45 : decode mb_Text_isWord 45 = .ok (.iadd, 1) := by decide +kernel
theorem rd_Text_isWord_46 : decode mb_Text_isWord 46 = .ok (.invokevirtual 59, 3) := by decide +kernel
theorem rd_Text_isWord_49 : decode mb_Text_isWord 49 = .ok (.aload_n 1, 1) := by decide +kernel
theorem rd_Text_isWord_50 : decode mb_Text_isWord 50 = .ok (.iload_n 2, 1) := by decide +kernel
theorem rd_Text_isWord_51 : decode mb_Text_isWord 51 = .ok (.invokevirtual 44, 3) := by decide +kernel
theorem rd_Text_isWord_54 : decode mb_Text_isWord 54 = .ok (.if_icmp .eq 5, 3) := by decide +kernel
theorem rd_Text_isWord_57 : decode mb_Text_isWord 57 = .ok (.iconst 0, 1) := by decide +kernel
theorem rd_Text_isWord_58 : decode mb_Text_isWord 58 = .ok (.ireturn, 1) := by decide +kernel
theorem rd_Text_isWord_59 : decode mb_Text_isWord 59 = .ok (.iinc 2 1, 3) := by decide +kernel
theorem rd_Text_isWord_62 : decode mb_Text_isWord 62 = .ok (.goto (-34), 3) := by decide +kernel
theorem rd_Text_isWord_65 : decode mb_Text_isWord 65 = .ok (.iconst 1, 1) := by decide +kernel
theorem rd_Text_isWord_66 : decode mb_Text_isWord 66 = .ok (.ireturn, 1) := by decide +kernel
theorem rd_Setup_checkFirstWord_0 : decode mb_Setup_checkFirstWord 0 = .ok (.aload_n 0, 1) := by decide +kernel
theorem rd_Setup_checkFirstWord_1 : decode mb_Setup_checkFirstWord 1 = .ok (.ldc 73, 2) := by decide +kernel
theorem rd_Setup_checkFirstWord_3 : decode mb_Setup_checkFirstWord 3 = .ok (.invokevirtual 28, 3) := by decide +kernel
theorem rd_Setup_checkFirstWord_6 : decode mb_Setup_checkFirstWord 6 = .ok (.istore_n 2, 1) := by decide +kernel
theorem rd_Setup_checkFirstWord_7 : decode mb_Setup_checkFirstWord 7 = .ok (.iload_n 2, 1) := by decide +kernel
theorem rd_Setup_checkFirstWord_8 : decode mb_Setup_checkFirstWord 8 = .ok (.ifCond .ne 26, 3) := by decide +kernel
theorem rd_Setup_checkFirstWord_11 : decode mb_Setup_checkFirstWord 11 = .ok (.aload_n 0, 1) := by decide +kernel
theorem rd_Setup_checkFirstWord_12 : decode mb_Setup_checkFirstWord 12 = .ok (.ldc 75, 2) := by decide +kernel
theorem rd_Setup_checkFirstWord_14 : decode mb_Setup_checkFirstWord 14 = .ok (.invokevirtual 28, 3) := by decide +kernel
theorem rd_Setup_checkFirstWord_17 : decode mb_Setup_checkFirstWord 17 = .ok (.ifCond .ne 17, 3) := by decide +kernel
theorem rd_Setup_checkFirstWord_20 : decode mb_Setup_checkFirstWord 20 = .ok (.aload_n 0, 1) := by decide +kernel
theorem rd_Setup_checkFirstWord_21 : decode mb_Setup_checkFirstWord 21 = .ok (.ldc 103, 2) := by decide +kernel
theorem rd_Setup_checkFirstWord_23 : decode mb_Setup_checkFirstWord 23 = .ok (.invokevirtual 28, 3) := by decide +kernel
theorem rd_Setup_checkFirstWord_26 : decode mb_Setup_checkFirstWord 26 = .ok (.ifCond .ne 8, 3) := by decide +kernel
theorem rd_Setup_checkFirstWord_29 : decode mb_Setup_checkFirstWord 29 = .ok (.aload_n 0, 1) := by decide +kernel
theorem rd_Setup_checkFirstWord_30 : decode mb_Setup_checkFirstWord 30 = .ok (.iconst 1, 1) := by decide +kernel
theorem rd_Setup_checkFirstWord_31 : decode mb_Setup_checkFirstWord 31 = .ok (.invokevirtual 52, 3) := by decide +kernel
theorem rd_Setup_checkFirstWord_34 : decode mb_Setup_checkFirstWord 34 = .ok (.aload_n 1, 1) := by decide +kernel
theorem rd_Setup_checkFirstWord_35 : decode mb_Setup_checkFirstWord 35 = .ok (.getfield 63, 3) := by decide +kernel
theorem rd_Setup_checkFirstWord_38 : decode mb_Setup_checkFirstWord 38 = .ok (.ifCond .eq 20, 3) := by decide +kernel
theorem rd_Setup_checkFirstWord_41 : decode mb_Setup_checkFirstWord 41 = .ok (.iload_n 2, 1) := by decide +kernel
theorem rd_Setup_checkFirstWord_42 : decode mb_Setup_checkFirstWord 42 = .ok (.ifCond .eq 21, 3) := by decide +kernel
theorem rd_Setup_checkFirstWord_45 : decode mb_Setup_checkFirstWord 45 = .ok (.aload_n 1, 1) := by decide +kernel
theorem rd_Setup_checkFirstWord_46 : decode mb_Setup_checkFirstWord 46 = .ok (.aload_n 1, 1) := by decide +kernel
theorem rd_Setup_checkFirstWord_47 : decode mb_Setup_checkFirstWord 47 = .ok (.getfield 63, 3) := by decide +kernel
theorem rd_Setup_checkFirstWord_50 : decode mb_Setup_checkFirstWord 50 = .ok (.iconst 1, 1) := by decide +kernel
theorem rd_Setup_checkFirstWord_51 : decode mb_Setup_checkFirstWord 51 = .ok (.isub, 1) := by decide +kernel
theorem rd_Setup_checkFirstWord_52 : decode mb_Setup_checkFirstWord 52 = .ok (.invokevirtual 105, 3) := by decide +kernel
theorem rd_Setup_checkFirstWord_55 : decode mb_Setup_checkFirstWord 55 = .ok (.ifCond .eq 8, 3) := by decide +kernel
theorem rd_Setup_checkFirstWord_58 : decode mb_Setup_checkFirstWord 58 = .ok (.aload_n 0, 1) := by decide +kernel
theorem rd_Setup_checkFirstWord_59 : decode mb_Setup_checkFirstWord 59 = .ok (.iconst 5, 1) := by decide +kernel
theorem rd_Setup_checkFirstWord_60 : decode mb_Setup_checkFirstWord 60 = .ok (.invokevirtual 52, 3) := by decide +kernel
theorem rd_Setup_checkFirstWord_63 : decode mb_Setup_checkFirstWord 63 = .ok (.aload_n 1, 1) := by decide +kernel
theorem rd_Setup_checkFirstWord_64 : decode mb_Setup_checkFirstWord 64 = .ok (.getfield 109, 3) := by decide +kernel
theorem rd_Setup_checkFirstWord_67 : decode mb_Setup_checkFirstWord 67 = .ok (.bipush 40, 2) := by decide +kernel
theorem rd_Setup_checkFirstWord_69 : decode mb_Setup_checkFirstWord 69 = .ok (.if_icmp .lt 9, 3) := by decide +kernel
theorem rd_Setup_checkFirstWord_72 : decode mb_Setup_checkFirstWord 72 = .ok (.aload_n 0, 1) := by decide +kernel
theorem rd_Setup_checkFirstWord_73 : decode mb_Setup_checkFirstWord 73 = .ok (.bipush 6, 2) := by decide +kernel
theorem rd_Setup_checkFirstWord_75 : decode mb_Setup_checkFirstWord 75 = .ok (.invokevirtual 52, 3) := by decide +kernel
theorem rd_Setup_checkFirstWord_78 : decode mb_Setup_checkFirstWord 78 = .ok (.return_, 1) := by decide +kernel
theorem rd_Setup_placeFor_0 : decode mb_Setup_placeFor 0 = .ok (.aload_n 0, 1) := by decide +kernel
theorem rd_Setup_placeFor_1 : decode mb_Setup_placeFor 1 = .ok (.aload_n 0, 1) := by decide +kernel
theorem rd_Setup_placeFor_2 : decode mb_Setup_placeFor 2 = .ok (.getfield 63, 3) := by decide +kernel
theorem rd_Setup_placeFor_5 : decode mb_Setup_placeFor 5 = .ok (.iconst 1, 1) := by decide +kernel
theorem rd_Setup_placeFor_6 : decode mb_Setup_placeFor 6 = .ok (.isub, 1) := by decide +kernel
theorem rd_Setup_placeFor_7 : decode mb_Setup_placeFor 7 = .ok (.invokevirtual 110, 3) := by decide +kernel
theorem rd_Setup_placeFor_10 : decode mb_Setup_placeFor 10 = .ok (.istore_n 2, 1) := by decide +kernel
theorem rd_Setup_placeFor_11 : decode mb_Setup_placeFor 11 = .ok (.iload_n 1, 1) := by decide +kernel
theorem rd_Setup_placeFor_12 : decode mb_Setup_placeFor 12 = .ok (.ifCond .ne 5, 3) := by decide +kernel
theorem rd_Setup_placeFor_15 : decode mb_Setup_placeFor 15 = .ok (.iload_n 2, 1) := by decide +kernel
theorem rd_Setup_placeFor_16 : decode mb_Setup_placeFor 16 = .ok (.ireturn, 1) := by decide +kernel
theorem rd_Setup_placeFor_17 : decode mb_Setup_placeFor 17 = .ok (.iload_n 1, 1) := by decide +kernel
theorem rd_Setup_placeFor_18 : decode mb_Setup_placeFor 18 = .ok (.iconst 1, 1) := by decide +kernel
theorem rd_Setup_placeFor_19 : decode mb_Setup_placeFor 19 = .ok (.if_icmp .ne 8, 3) := by decide +kernel
theorem rd_Setup_placeFor_22 : decode mb_Setup_placeFor 22 = .ok (.aload_n 0, 1) := by decide +kernel
theorem rd_Setup_placeFor_23 : decode mb_Setup_placeFor 23 = .ok (.getfield 109, 3) := by decide +kernel
theorem rd_Setup_placeFor_26 : decode mb_Setup_placeFor 26 = .ok (.ireturn, 1) := by decide +kernel
theorem rd_Setup_placeFor_27 : decode mb_Setup_placeFor 27 = .ok (.aload_n 0, 1) := by decide +kernel
theorem rd_Setup_placeFor_28 : decode mb_Setup_placeFor 28 = .ok (.iload_n 2, 1) := by decide +kernel
theorem rd_Setup_placeFor_29 : decode mb_Setup_placeFor 29 = .ok (.aload_n 0, 1) := by decide +kernel
theorem rd_Setup_placeFor_30 : decode mb_Setup_placeFor 30 = .ok (.getfield 109, 3) := by decide +kernel
theorem rd_Setup_placeFor_33 : decode mb_Setup_placeFor 33 = .ok (.iload_n 1, 1) := by decide +kernel
theorem rd_Setup_placeFor_34 : decode mb_Setup_placeFor 34 = .ok (.iconst 1, 1) := by decide +kernel
theorem rd_Setup_placeFor_35 : decode mb_Setup_placeFor 35 = .ok (.isub, 1) := by decide +kernel
theorem rd_Setup_placeFor_36 : decode mb_Setup_placeFor 36 = .ok (.invokevirtual 114, 3) := by decide +kernel
theorem rd_Setup_placeFor_39 : decode mb_Setup_placeFor 39 = .ok (.istore_n 3, 1) := by decide +kernel
theorem rd_Setup_placeFor_40 : decode mb_Setup_placeFor 40 = .ok (.iload_n 3, 1) := by decide +kernel
theorem rd_Setup_placeFor_41 : decode mb_Setup_placeFor 41 = .ok (.iconst (-1), 1) := by decide +kernel
theorem rd_Setup_placeFor_42 : decode mb_Setup_placeFor 42 = .ok (.if_icmp .ne 7, 3) := by decide +kernel
theorem rd_Setup_placeFor_45 : decode mb_Setup_placeFor 45 = .ok (.iconst (-1), 1) := by decide +kernel
theorem rd_Setup_placeFor_46 : decode mb_Setup_placeFor 46 = .ok (.goto 8, 3) := by decide +kernel
theorem rd_Setup_placeFor_49 : decode mb_Setup_placeFor 49 = .ok (.aload_n 0, 1) := by decide +kernel
theorem rd_Setup_placeFor_50 : decode mb_Setup_placeFor 50 = .ok (.iload_n 3, 1) := by decide +kernel
theorem rd_Setup_placeFor_51 : decode mb_Setup_placeFor 51 = .ok (.invokevirtual 118, 3) := by decide +kernel
theorem rd_Setup_placeFor_54 : decode mb_Setup_placeFor 54 = .ok (.ireturn, 1) := by decide +kernel
theorem rd_Text_readNumber_0 : decode mb_Text_readNumber 0 = .ok (.aload_n 0, 1) := by decide +kernel
theorem rd_Text_readNumber_1 : decode mb_Text_readNumber 1 = .ok (.invokevirtual 62, 3) := by decide +kernel
theorem rd_Text_readNumber_4 : decode mb_Text_readNumber 4 = .ok (.ifCond .eq 5, 3) := by decide +kernel
theorem rd_Text_readNumber_7 : decode mb_Text_readNumber 7 = .ok (.iconst 0, 1) := by decide +kernel
theorem rd_Text_readNumber_8 : decode mb_Text_readNumber 8 = .ok (.ireturn, 1) := by decide +kernel
theorem rd_Text_readNumber_9 : decode mb_Text_readNumber 9 = .ok (.aload_n 0, 1) := by decide +kernel
theorem rd_Text_readNumber_10 : decode mb_Text_readNumber 10 = .ok (.invokevirtual 66, 3) := by decide +kernel
theorem rd_Text_readNumber_13 : decode mb_Text_readNumber 13 = .ok (.aload_n 0, 1) := by decide +kernel
theorem rd_Text_readNumber_14 : decode mb_Text_readNumber 14 = .ok (.getfield 24, 3) := by decide +kernel
theorem rd_Text_readNumber_17 : decode mb_Text_readNumber 17 = .ok (.iconst 3, 1) := by decide +kernel
theorem rd_Text_readNumber_18 : decode mb_Text_readNumber 18 = .ok (.if_icmp .eq 10, 3) := by decide +kernel
theorem rd_Text_readNumber_21 : decode mb_Text_readNumber 21 = .ok (.aload_n 0, 1) := by decide +kernel
theorem rd_Text_readNumber_22 : decode mb_Text_readNumber 22 = .ok (.iconst 1, 1) := by decide +kernel
theorem rd_Text_readNumber_23 : decode mb_Text_readNumber 23 = .ok (.invokevirtual 69, 3) := by decide +kernel
theorem rd_Text_readNumber_26 : decode mb_Text_readNumber 26 = .ok (.iconst 0, 1) := by decide +kernel
theorem rd_Text_readNumber_27 : decode mb_Text_readNumber 27 = .ok (.ireturn, 1) := by decide +kernel
theorem rd_Text_readNumber_28 : decode mb_Text_readNumber 28 = .ok (.iconst 0, 1) := by decide +kernel
theorem rd_Text_readNumber_29 : decode mb_Text_readNumber 29 = .ok (.istore_n 3, 1) := by decide +kernel
theorem rd_Text_readNumber_30 : decode mb_Text_readNumber 30 = .ok (.aload_n 0, 1) := by decide +kernel
theorem rd_Text_readNumber_31 : decode mb_Text_readNumber 31 = .ok (.getfield 27, 3) := by decide +kernel
theorem rd_Text_readNumber_34 : decode mb_Text_readNumber 34 = .ok (.istore 4, 2) := by decide +kernel
theorem rd_Text_readNumber_36 : decode mb_Text_readNumber 36 = .ok (.iload 4, 2) := by decide +kernel
theorem rd_Text_readNumber_38 : decode mb_Text_readNumber 38 = .ok (.aload_n 0, 1) := by decide +kernel
theorem rd_Text_readNumber_39 : decode mb_Text_readNumber 39 = .ok (.getfield 30, 3) := by decide +kernel
theorem rd_Text_readNumber_42 : decode mb_Text_readNumber 42 = .ok (.if_icmp .ge 27, 3) := by decide +kernel
theorem rd_Text_readNumber_45 : decode mb_Text_readNumber 45 = .ok (.iload_n 3, 1) := by decide +kernel
theorem rd_Text_readNumber_46 : decode mb_Text_readNumber 46 = .ok (.bipush 10, 2) := by decide +kernel
theorem rd_Text_readNumber_48 : decode mb_Text_readNumber 48 = .ok (.imul, 1) := by decide +kernel
theorem rd_Text_readNumber_49 : decode mb_Text_readNumber 49 = .ok (.aload_n 0, 1) := by decide +kernel
theorem rd_Text_readNumber_50 : decode mb_Text_readNumber 50 = .ok (.getfield 14, 3) := by decide +kernel
theorem rd_Text_readNumber_53 : decode mb_Text_readNumber 53 = .ok (.iload 4, 2) := by decide +kernel
theorem rd_Text_readNumber_55 : decode mb_Text_readNumber 55 = .ok (.invokevirtual 59, 3) := by decide +kernel
theorem rd_Text_readNumber_58 : decode mb_Text_readNumber 58 = .ok (.iadd, 1) := by decide +kernel
theorem rd_Text_readNumber_59 : decode mb_Text_readNumber 59 = .ok (.bipush 48, 2) := by decide +kernel
theorem rd_Text_readNumber_61 : decode mb_Text_readNumber 61 = .ok (.isub, 1) := by decide +kernel
theorem rd_Text_readNumber_62 : decode mb_Text_readNumber 62 = .ok (.istore_n 3, 1) := by decide +kernel
theorem rd_Text_readNumber_63 : decode mb_Text_readNumber 63 = .ok (.iinc 4 1, 3) := by decide +kernel
theorem rd_Text_readNumber_66 : decode mb_Text_readNumber 66 = .ok (.goto (-30), 3) := by decide +kernel
theorem rd_Text_readNumber_69 : decode mb_Text_readNumber 69 = .ok (.iload_n 3, 1) := by decide +kernel
theorem rd_Text_readNumber_70 : decode mb_Text_readNumber 70 = .ok (.iload_n 1, 1) := by decide +kernel
theorem rd_Text_readNumber_71 : decode mb_Text_readNumber 71 = .ok (.if_icmp .lt 8, 3) := by decide +kernel
theorem rd_Text_readNumber_74 : decode mb_Text_readNumber 74 = .ok (.iload_n 3, 1) := by decide +kernel
theorem rd_Text_readNumber_75 : decode mb_Text_readNumber 75 = .ok (.iload_n 2, 1) := by decide +kernel
theorem rd_Text_readNumber_76 : decode mb_Text_readNumber 76 = .ok (.if_icmp .le 8, 3) := by decide +kernel
theorem rd_Text_readNumber_79 : decode mb_Text_readNumber 79 = .ok (.aload_n 0, 1) := by decide +kernel
theorem rd_Text_readNumber_80 : decode mb_Text_readNumber 80 = .ok (.iconst 2, 1) := by decide +kernel
theorem rd_Text_readNumber_81 : decode mb_Text_readNumber 81 = .ok (.invokevirtual 69, 3) := by decide +kernel
theorem rd_Text_readNumber_84 : decode mb_Text_readNumber 84 = .ok (.iload_n 3, 1) := by decide +kernel
theorem rd_Text_readNumber_85 : decode mb_Text_readNumber 85 = .ok (.ireturn, 1) := by decide +kernel
theorem rd_Text_name_0 : decode mb_Text_name 0 = .ok (.aload_n 0, 1) := by decide +kernel
theorem rd_Text_name_1 : decode mb_Text_name 1 = .ok (.getfield 24, 3) := by decide +kernel
theorem rd_Text_name_4 : decode mb_Text_name 4 = .ok (.iconst 2, 1) := by decide +kernel
theorem rd_Text_name_5 : decode mb_Text_name 5 = .ok (.if_icmp .ne 17, 3) := by decide +kernel
theorem rd_Text_name_8 : decode mb_Text_name 8 = .ok (.aload_n 0, 1) := by decide +kernel
theorem rd_Text_name_9 : decode mb_Text_name 9 = .ok (.getfield 30, 3) := by decide +kernel
theorem rd_Text_name_12 : decode mb_Text_name 12 = .ok (.aload_n 0, 1) := by decide +kernel
theorem rd_Text_name_13 : decode mb_Text_name 13 = .ok (.getfield 27, 3) := by decide +kernel
theorem rd_Text_name_16 : decode mb_Text_name 16 = .ok (.isub, 1) := by decide +kernel
theorem rd_Text_name_17 : decode mb_Text_name 17 = .ok (.bipush 6, 2) := by decide +kernel
theorem rd_Text_name_19 : decode mb_Text_name 19 = .ok (.if_icmp .le 10, 3) := by decide +kernel
theorem rd_Text_name_22 : decode mb_Text_name 22 = .ok (.aload_n 0, 1) := by decide +kernel
theorem rd_Text_name_23 : decode mb_Text_name 23 = .ok (.iconst 1, 1) := by decide +kernel
theorem rd_Text_name_24 : decode mb_Text_name 24 = .ok (.invokevirtual 69, 3) := by decide +kernel
theorem rd_Text_name_27 : decode mb_Text_name 27 = .ok (.iconst 0, 1) := by decide +kernel
theorem rd_Text_name_28 : decode mb_Text_name 28 = .ok (.ireturn, 1) := by decide +kernel
theorem rd_Text_name_29 : decode mb_Text_name 29 = .ok (.iconst 0, 1) := by decide +kernel
theorem rd_Text_name_30 : decode mb_Text_name 30 = .ok (.istore_n 1, 1) := by decide +kernel
theorem rd_Text_name_31 : decode mb_Text_name 31 = .ok (.aload_n 0, 1) := by decide +kernel
theorem rd_Text_name_32 : decode mb_Text_name 32 = .ok (.getfield 30, 3) := by decide +kernel
theorem rd_Text_name_35 : decode mb_Text_name 35 = .ok (.iconst 1, 1) := by decide +kernel
theorem rd_Text_name_36 : decode mb_Text_name 36 = .ok (.isub, 1) := by decide +kernel
theorem rd_Text_name_37 : decode mb_Text_name 37 = .ok (.istore_n 2, 1) := by decide +kernel
theorem rd_Text_name_38 : decode mb_Text_name 38 = .ok (.iload_n 2, 1) := by decide +kernel
theorem rd_Text_name_39 : decode mb_Text_name 39 = .ok (.aload_n 0, 1) := by decide +kernel
theorem rd_Text_name_40 : decode mb_Text_name 40 = .ok (.getfield 27, 3) := by decide +kernel
theorem rd_Text_name_43 : decode mb_Text_name 43 = .ok (.if_icmp .lt 27, 3) := by decide +kernel
theorem rd_Text_name_46 : decode mb_Text_name 46 = .ok (.iload_n 1, 1) := by decide +kernel
theorem rd_Text_name_47 : decode mb_Text_name 47 = .ok (.iconst 5, 1) := by decide +kernel
theorem rd_Text_name_48 : decode mb_Text_name 48 = .ok (.ishl, 1) := by decide +kernel
theorem rd_Text_name_49 : decode mb_Text_name 49 = .ok (.aload_n 0, 1) := by decide +kernel
theorem rd_Text_name_50 : decode mb_Text_name 50 = .ok (.getfield 14, 3) := by decide +kernel
theorem rd_Text_name_53 : decode mb_Text_name 53 = .ok (.iload_n 2, 1) := by decide +kernel
theorem rd_Text_name_54 : decode mb_Text_name 54 = .ok (.invokevirtual 59, 3) := by decide +kernel
theorem rd_Text_name_57 : decode mb_Text_name 57 = .ok (.bipush 97, 2) := by decide +kernel
theorem rd_Text_name_59 : decode mb_Text_name 59 = .ok (.isub, 1) := by decide +kernel
theorem rd_Text_name_60 : decode mb_Text_name 60 = .ok (.iconst 1, 1) := by decide +kernel
theorem rd_Text_name_61 : decode mb_Text_name 61 = .ok (.iadd, 1) := by decide +kernel
theorem rd_Text_name_62 : decode mb_Text_name 62 = .ok (.ior, 1) := by decide +kernel
theorem rd_Text_name_63 : decode mb_Text_name 63 = .ok (.istore_n 1, 1) := by decide +kernel
theorem rd_Text_name_64 : decode mb_Text_name 64 = .ok (.iinc 2 (-1), 3) := by decide +kernel
theorem rd_Text_name_67 : decode mb_Text_name 67 = .ok (.goto (-29), 3) := by decide +kernel
theorem rd_Text_name_70 : decode mb_Text_name 70 = .ok (.iload_n 1, 1) := by decide +kernel
theorem rd_Text_name_71 : decode mb_Text_name 71 = .ok (.ireturn, 1) := by decide +kernel
theorem rd_Topics_find_0 : decode mb_Topics_find 0 = .ok (.iconst 0, 1) := by decide +kernel
theorem rd_Topics_find_1 : decode mb_Topics_find 1 = .ok (.istore_n 2, 1) := by decide +kernel
theorem rd_Topics_find_2 : decode mb_Topics_find 2 = .ok (.iload_n 2, 1) := by decide +kernel
theorem rd_Topics_find_3 : decode mb_Topics_find 3 = .ok (.aload_n 0, 1) := by decide +kernel
theorem rd_Topics_find_4 : decode mb_Topics_find 4 = .ok (.getfield 9, 3) := by decide +kernel
theorem rd_Topics_find_7 : decode mb_Topics_find 7 = .ok (.if_icmp .ge 23, 3) := by decide +kernel
theorem rd_Topics_find_10 : decode mb_Topics_find 10 = .ok (.aload_n 0, 1) := by decide +kernel
theorem rd_Topics_find_11 : decode mb_Topics_find 11 = .ok (.getfield 20, 3) := by decide +kernel
theorem rd_Topics_find_14 : decode mb_Topics_find 14 = .ok (.iload_n 2, 1) := by decide +kernel
theorem rd_Topics_find_15 : decode mb_Topics_find 15 = .ok (.invokevirtual 28, 3) := by decide +kernel
theorem rd_Topics_find_18 : decode mb_Topics_find 18 = .ok (.iload_n 1, 1) := by decide +kernel
theorem rd_Topics_find_19 : decode mb_Topics_find 19 = .ok (.if_icmp .ne 5, 3) := by decide +kernel
theorem rd_Topics_find_22 : decode mb_Topics_find 22 = .ok (.iload_n 2, 1) := by decide +kernel
theorem rd_Topics_find_23 : decode mb_Topics_find 23 = .ok (.ireturn, 1) := by decide +kernel
theorem rd_Topics_find_24 : decode mb_Topics_find 24 = .ok (.iinc 2 1, 3) := by decide +kernel
theorem rd_Topics_find_27 : decode mb_Topics_find 27 = .ok (.goto (-25), 3) := by decide +kernel
theorem rd_Topics_find_30 : decode mb_Topics_find 30 = .ok (.iconst (-1), 1) := by decide +kernel
theorem rd_Topics_find_31 : decode mb_Topics_find 31 = .ok (.ireturn, 1) := by decide +kernel
theorem rd_Text_readTopic_0 : decode mb_Text_readTopic 0 = .ok (.aload_n 0, 1) := by decide +kernel
theorem rd_Text_readTopic_1 : decode mb_Text_readTopic 1 = .ok (.invokevirtual 62, 3) := by decide +kernel
theorem rd_Text_readTopic_4 : decode mb_Text_readTopic 4 = .ok (.ifCond .eq 5, 3) := by decide +kernel
theorem rd_Text_readTopic_7 : decode mb_Text_readTopic 7 = .ok (.iconst 0, 1) := by decide +kernel
theorem rd_Text_readTopic_8 : decode mb_Text_readTopic 8 = .ok (.ireturn, 1) := by decide +kernel
theorem rd_Text_readTopic_9 : decode mb_Text_readTopic 9 = .ok (.aload_n 0, 1) := by decide +kernel
theorem rd_Text_readTopic_10 : decode mb_Text_readTopic 10 = .ok (.invokevirtual 66, 3) := by decide +kernel
theorem rd_Text_readTopic_13 : decode mb_Text_readTopic 13 = .ok (.aload_n 1, 1) := by decide +kernel
theorem rd_Text_readTopic_14 : decode mb_Text_readTopic 14 = .ok (.aload_n 0, 1) := by decide +kernel
theorem rd_Text_readTopic_15 : decode mb_Text_readTopic 15 = .ok (.invokevirtual 72, 3) := by decide +kernel
theorem rd_Text_readTopic_18 : decode mb_Text_readTopic 18 = .ok (.invokevirtual 75, 3) := by decide +kernel
theorem rd_Text_readTopic_21 : decode mb_Text_readTopic 21 = .ok (.istore_n 2, 1) := by decide +kernel
theorem rd_Text_readTopic_22 : decode mb_Text_readTopic 22 = .ok (.iload_n 2, 1) := by decide +kernel
theorem rd_Text_readTopic_23 : decode mb_Text_readTopic 23 = .ok (.iconst (-1), 1) := by decide +kernel
theorem rd_Text_readTopic_24 : decode mb_Text_readTopic 24 = .ok (.if_icmp .ne 8, 3) := by decide +kernel
theorem rd_Text_readTopic_27 : decode mb_Text_readTopic 27 = .ok (.aload_n 0, 1) := by decide +kernel
theorem rd_Text_readTopic_28 : decode mb_Text_readTopic 28 = .ok (.iconst 4, 1) := by decide +kernel
theorem rd_Text_readTopic_29 : decode mb_Text_readTopic 29 = .ok (.invokevirtual 69, 3) := by decide +kernel
theorem rd_Text_readTopic_32 : decode mb_Text_readTopic 32 = .ok (.iload_n 2, 1) := by decide +kernel
theorem rd_Text_readTopic_33 : decode mb_Text_readTopic 33 = .ok (.ireturn, 1) := by decide +kernel
theorem rd_Text_takesWord_0 : decode mb_Text_takesWord 0 = .ok (.aload_n 0, 1) := by decide +kernel
theorem rd_Text_takesWord_1 : decode mb_Text_takesWord 1 = .ok (.invokevirtual 62, 3) := by decide +kernel
theorem rd_Text_takesWord_4 : decode mb_Text_takesWord 4 = .ok (.ifCond .eq 5, 3) := by decide +kernel
theorem rd_Text_takesWord_7 : decode mb_Text_takesWord 7 = .ok (.iconst 0, 1) := by decide +kernel
theorem rd_Text_takesWord_8 : decode mb_Text_takesWord 8 = .ok (.ireturn, 1) := by decide +kernel
theorem rd_Text_takesWord_9 : decode mb_Text_takesWord 9 = .ok (.aload_n 0, 1) := by decide +kernel
theorem rd_Text_takesWord_10 : decode mb_Text_takesWord 10 = .ok (.invokevirtual 66, 3) := by decide +kernel
theorem rd_Text_takesWord_13 : decode mb_Text_takesWord 13 = .ok (.aload_n 0, 1) := by decide +kernel
theorem rd_Text_takesWord_14 : decode mb_Text_takesWord 14 = .ok (.aload_n 1, 1) := by decide +kernel
theorem rd_Text_takesWord_15 : decode mb_Text_takesWord 15 = .ok (.invokevirtual 83, 3) := by decide +kernel
theorem rd_Text_takesWord_18 : decode mb_Text_takesWord 18 = .ok (.ifCond .eq 5, 3) := by decide +kernel
theorem rd_Text_takesWord_21 : decode mb_Text_takesWord 21 = .ok (.iconst 1, 1) := by decide +kernel
theorem rd_Text_takesWord_22 : decode mb_Text_takesWord 22 = .ok (.ireturn, 1) := by decide +kernel
theorem rd_Text_takesWord_23 : decode mb_Text_takesWord 23 = .ok (.aload_n 0, 1) := by decide +kernel
theorem rd_Text_takesWord_24 : decode mb_Text_takesWord 24 = .ok (.aload_n 0, 1) := by decide +kernel
theorem rd_Text_takesWord_25 : decode mb_Text_takesWord 25 = .ok (.getfield 27, 3) := by decide +kernel
theorem rd_Text_takesWord_28 : decode mb_Text_takesWord 28 = .ok (.putfield 30, 3) := by decide +kernel
theorem rd_Text_takesWord_31 : decode mb_Text_takesWord 31 = .ok (.iconst 0, 1) := by decide +kernel
theorem rd_Text_takesWord_32 : decode mb_Text_takesWord 32 = .ok (.ireturn, 1) := by decide +kernel
theorem rd_Setup_readCord_0 : decode mb_Setup_readCord 0 = .ok (.aload_n 0, 1) := by decide +kernel
theorem rd_Setup_readCord_1 : decode mb_Setup_readCord 1 = .ok (.aload_n 2, 1) := by decide +kernel
theorem rd_Setup_readCord_2 : decode mb_Setup_readCord 2 = .ok (.invokestatic 70, 3) := by decide +kernel
theorem rd_Setup_readCord_5 : decode mb_Setup_readCord 5 = .ok (.aload_n 0, 1) := by decide +kernel
theorem rd_Setup_readCord_6 : decode mb_Setup_readCord 6 = .ok (.ldc 73, 2) := by decide +kernel
theorem rd_Setup_readCord_8 : decode mb_Setup_readCord 8 = .ok (.invokevirtual 28, 3) := by decide +kernel
theorem rd_Setup_readCord_11 : decode mb_Setup_readCord 11 = .ok (.ifCond .eq 7, 3) := by decide +kernel
theorem rd_Setup_readCord_14 : decode mb_Setup_readCord 14 = .ok (.iconst 0, 1) := by decide +kernel
theorem rd_Setup_readCord_15 : decode mb_Setup_readCord 15 = .ok (.goto 22, 3) := by decide +kernel
theorem rd_Setup_readCord_18 : decode mb_Setup_readCord 18 = .ok (.aload_n 0, 1) := by decide +kernel
theorem rd_Setup_readCord_19 : decode mb_Setup_readCord 19 = .ok (.ldc 75, 2) := by decide +kernel
theorem rd_Setup_readCord_21 : decode mb_Setup_readCord 21 = .ok (.invokevirtual 28, 3) := by decide +kernel
theorem rd_Setup_readCord_24 : decode mb_Setup_readCord 24 = .ok (.ifCond .eq 7, 3) := by decide +kernel
theorem rd_Setup_readCord_27 : decode mb_Setup_readCord 27 = .ok (.iconst 1, 1) := by decide +kernel
theorem rd_Setup_readCord_28 : decode mb_Setup_readCord 28 = .ok (.goto 9, 3) := by decide +kernel
theorem rd_Setup_readCord_31 : decode mb_Setup_readCord 31 = .ok (.aload_n 0, 1) := by decide +kernel
theorem rd_Setup_readCord_32 : decode mb_Setup_readCord 32 = .ok (.iconst 2, 1) := by decide +kernel
theorem rd_Setup_readCord_33 : decode mb_Setup_readCord 33 = .ok (.iconst 3, 1) := by decide +kernel
theorem rd_Setup_readCord_34 : decode mb_Setup_readCord 34 = .ok (.invokevirtual 77, 3) := by decide +kernel
theorem rd_Setup_readCord_37 : decode mb_Setup_readCord 37 = .ok (.istore_n 3, 1) := by decide +kernel
theorem rd_Setup_readCord_38 : decode mb_Setup_readCord 38 = .ok (.aload_n 2, 1) := by decide +kernel
theorem rd_Setup_readCord_39 : decode mb_Setup_readCord 39 = .ok (.iload_n 3, 1) := by decide +kernel
theorem rd_Setup_readCord_40 : decode mb_Setup_readCord 40 = .ok (.invokestatic 81, 3) := by decide +kernel
theorem rd_Setup_readCord_43 : decode mb_Setup_readCord 43 = .ok (.istore 4, 2) := by decide +kernel
theorem rd_Setup_readCord_45 : decode mb_Setup_readCord 45 = .ok (.iload 4, 2) := by decide +kernel
theorem rd_Setup_readCord_47 : decode mb_Setup_readCord 47 = .ok (.iconst (-1), 1) := by decide +kernel
theorem rd_Setup_readCord_48 : decode mb_Setup_readCord 48 = .ok (.if_icmp .ne 8, 3) := by decide +kernel
theorem rd_Setup_readCord_51 : decode mb_Setup_readCord 51 = .ok (.aload_n 0, 1) := by decide +kernel
theorem rd_Setup_readCord_52 : decode mb_Setup_readCord 52 = .ok (.iconst 5, 1) := by decide +kernel
theorem rd_Setup_readCord_53 : decode mb_Setup_readCord 53 = .ok (.invokevirtual 52, 3) := by decide +kernel
theorem rd_Setup_readCord_56 : decode mb_Setup_readCord 56 = .ok (.aload_n 0, 1) := by decide +kernel
theorem rd_Setup_readCord_57 : decode mb_Setup_readCord 57 = .ok (.aload_n 1, 1) := by decide +kernel
theorem rd_Setup_readCord_58 : decode mb_Setup_readCord 58 = .ok (.invokevirtual 85, 3) := by decide +kernel
theorem rd_Setup_readCord_61 : decode mb_Setup_readCord 61 = .ok (.istore 5, 2) := by decide +kernel
theorem rd_Setup_readCord_63 : decode mb_Setup_readCord 63 = .ok (.aload_n 0, 1) := by decide +kernel
theorem rd_Setup_readCord_64 : decode mb_Setup_readCord 64 = .ok (.iconst 0, 1) := by decide +kernel
theorem rd_Setup_readCord_65 : decode mb_Setup_readCord 65 = .ok (.sipush 9999, 3) := by decide +kernel
theorem rd_Setup_readCord_68 : decode mb_Setup_readCord 68 = .ok (.invokevirtual 77, 3) := by decide +kernel
theorem rd_Setup_readCord_71 : decode mb_Setup_readCord 71 = .ok (.istore 6, 2) := by decide +kernel
theorem rd_Setup_readCord_73 : decode mb_Setup_readCord 73 = .ok (.aload_n 0, 1) := by decide +kernel
theorem rd_Setup_readCord_74 : decode mb_Setup_readCord 74 = .ok (.ldc 88, 2) := by decide +kernel
theorem rd_Setup_readCord_76 : decode mb_Setup_readCord 76 = .ok (.invokevirtual 90, 3) := by decide +kernel
theorem rd_Setup_readCord_79 : decode mb_Setup_readCord 79 = .ok (.ifCond .eq 12, 3) := by decide +kernel
theorem rd_Setup_readCord_82 : decode mb_Setup_readCord 82 = .ok (.aload_n 0, 1) := by decide +kernel
theorem rd_Setup_readCord_83 : decode mb_Setup_readCord 83 = .ok (.iconst 1, 1) := by decide +kernel
theorem rd_Setup_readCord_84 : decode mb_Setup_readCord 84 = .ok (.iconst 4, 1) := by decide +kernel
theorem rd_Setup_readCord_85 : decode mb_Setup_readCord 85 = .ok (.invokevirtual 77, 3) := by decide +kernel
theorem rd_Setup_readCord_88 : decode mb_Setup_readCord 88 = .ok (.goto 4, 3) := by decide +kernel
theorem rd_Setup_readCord_91 : decode mb_Setup_readCord 91 = .ok (.iconst 0, 1) := by decide +kernel
theorem rd_Setup_readCord_92 : decode mb_Setup_readCord 92 = .ok (.istore 7, 2) := by decide +kernel
theorem rd_Setup_readCord_94 : decode mb_Setup_readCord 94 = .ok (.aload_n 0, 1) := by decide +kernel
theorem rd_Setup_readCord_95 : decode mb_Setup_readCord 95 = .ok (.invokevirtual 60, 3) := by decide +kernel
theorem rd_Setup_readCord_98 : decode mb_Setup_readCord 98 = .ok (.aload_n 0, 1) := by decide +kernel
theorem rd_Setup_readCord_99 : decode mb_Setup_readCord 99 = .ok (.invokevirtual 93, 3) := by decide +kernel
theorem rd_Setup_readCord_102 : decode mb_Setup_readCord 102 = .ok (.ifCond .ne 30, 3) := by decide +kernel
theorem rd_Setup_readCord_105 : decode mb_Setup_readCord 105 = .ok (.aload_n 2, 1) := by decide +kernel
theorem rd_Setup_readCord_106 : decode mb_Setup_readCord 106 = .ok (.iload 4, 2) := by decide +kernel
theorem rd_Setup_readCord_108 : decode mb_Setup_readCord 108 = .ok (.aload_n 2, 1) := by decide +kernel
theorem rd_Setup_readCord_109 : decode mb_Setup_readCord 109 = .ok (.getfield 63, 3) := by decide +kernel
theorem rd_Setup_readCord_112 : decode mb_Setup_readCord 112 = .ok (.iconst 1, 1) := by decide +kernel
theorem rd_Setup_readCord_113 : decode mb_Setup_readCord 113 = .ok (.isub, 1) := by decide +kernel
theorem rd_Setup_readCord_114 : decode mb_Setup_readCord 114 = .ok (.iload_n 3, 1) := by decide +kernel
theorem rd_Setup_readCord_115 : decode mb_Setup_readCord 115 = .ok (.iload 5, 2) := by decide +kernel
theorem rd_Setup_readCord_117 : decode mb_Setup_readCord 117 = .ok (.iload 6, 2) := by decide +kernel
theorem rd_Setup_readCord_119 : decode mb_Setup_readCord 119 = .ok (.invokevirtual 96, 3) := by decide +kernel
theorem rd_Setup_readCord_122 : decode mb_Setup_readCord 122 = .ok (.pop, 1) := by decide +kernel
theorem rd_Setup_readCord_123 : decode mb_Setup_readCord 123 = .ok (.aload_n 2, 1) := by decide +kernel
theorem rd_Setup_readCord_124 : decode mb_Setup_readCord 124 = .ok (.iload 4, 2) := by decide +kernel
theorem rd_Setup_readCord_126 : decode mb_Setup_readCord 126 = .ok (.iload 7, 2) := by decide +kernel
theorem rd_Setup_readCord_128 : decode mb_Setup_readCord 128 = .ok (.invokevirtual 100, 3) := by decide +kernel
theorem rd_Setup_readCord_131 : decode mb_Setup_readCord 131 = .ok (.pop, 1) := by decide +kernel
theorem rd_Setup_readCord_132 : decode mb_Setup_readCord 132 = .ok (.return_, 1) := by decide +kernel
theorem rd_Topics_add_0 : decode mb_Topics_add 0 = .ok (.aload_n 0, 1) := by decide +kernel
theorem rd_Topics_add_1 : decode mb_Topics_add 1 = .ok (.getfield 9, 3) := by decide +kernel
theorem rd_Topics_add_4 : decode mb_Topics_add 4 = .ok (.bipush 8, 2) := by decide +kernel
theorem rd_Topics_add_6 : decode mb_Topics_add 6 = .ok (.if_icmp .ge 25, 3) := by decide +kernel
theorem rd_Topics_add_9 : decode mb_Topics_add 9 = .ok (.aload_n 0, 1) := by decide +kernel
theorem rd_Topics_add_10 : decode mb_Topics_add 10 = .ok (.getfield 20, 3) := by decide +kernel
theorem rd_Topics_add_13 : decode mb_Topics_add 13 = .ok (.aload_n 0, 1) := by decide +kernel
theorem rd_Topics_add_14 : decode mb_Topics_add 14 = .ok (.getfield 9, 3) := by decide +kernel
theorem rd_Topics_add_17 : decode mb_Topics_add 17 = .ok (.iload_n 1, 1) := by decide +kernel
theorem rd_Topics_add_18 : decode mb_Topics_add 18 = .ok (.invokevirtual 32, 3) := by decide +kernel
theorem rd_Topics_add_21 : decode mb_Topics_add 21 = .ok (.aload_n 0, 1) := by decide +kernel
theorem rd_Topics_add_22 : decode mb_Topics_add 22 = .ok (.dup, 1) := by decide +kernel
theorem rd_Topics_add_23 : decode mb_Topics_add 23 = .ok (.getfield 9, 3) := by decide +kernel
theorem rd_Topics_add_26 : decode mb_Topics_add 26 = .ok (.iconst 1, 1) := by decide +kernel
theorem rd_Topics_add_27 : decode mb_Topics_add 27 = .ok (.iadd, 1) := by decide +kernel
theorem rd_Topics_add_28 : decode mb_Topics_add 28 = .ok (.putfield 9, 3) := by decide +kernel
theorem rd_Topics_add_31 : decode mb_Topics_add 31 = .ok (.return_, 1) := by decide +kernel
theorem rd_Text_readNewTopic_0 : decode mb_Text_readNewTopic 0 = .ok (.aload_n 0, 1) := by decide +kernel
theorem rd_Text_readNewTopic_1 : decode mb_Text_readNewTopic 1 = .ok (.invokevirtual 62, 3) := by decide +kernel
theorem rd_Text_readNewTopic_4 : decode mb_Text_readNewTopic 4 = .ok (.ifCond .eq 4, 3) := by decide +kernel
theorem rd_Text_readNewTopic_7 : decode mb_Text_readNewTopic 7 = .ok (.return_, 1) := by decide +kernel
theorem rd_Text_readNewTopic_8 : decode mb_Text_readNewTopic 8 = .ok (.aload_n 0, 1) := by decide +kernel
theorem rd_Text_readNewTopic_9 : decode mb_Text_readNewTopic 9 = .ok (.invokevirtual 66, 3) := by decide +kernel
theorem rd_Text_readNewTopic_12 : decode mb_Text_readNewTopic 12 = .ok (.aload_n 0, 1) := by decide +kernel
theorem rd_Text_readNewTopic_13 : decode mb_Text_readNewTopic 13 = .ok (.invokevirtual 72, 3) := by decide +kernel
theorem rd_Text_readNewTopic_16 : decode mb_Text_readNewTopic 16 = .ok (.istore_n 2, 1) := by decide +kernel
theorem rd_Text_readNewTopic_17 : decode mb_Text_readNewTopic 17 = .ok (.aload_n 1, 1) := by decide +kernel
theorem rd_Text_readNewTopic_18 : decode mb_Text_readNewTopic 18 = .ok (.iload_n 2, 1) := by decide +kernel
theorem rd_Text_readNewTopic_19 : decode mb_Text_readNewTopic 19 = .ok (.invokevirtual 75, 3) := by decide +kernel
theorem rd_Text_readNewTopic_22 : decode mb_Text_readNewTopic 22 = .ok (.iconst (-1), 1) := by decide +kernel
theorem rd_Text_readNewTopic_23 : decode mb_Text_readNewTopic 23 = .ok (.if_icmp .eq 8, 3) := by decide +kernel
theorem rd_Text_readNewTopic_26 : decode mb_Text_readNewTopic 26 = .ok (.aload_n 0, 1) := by decide +kernel
theorem rd_Text_readNewTopic_27 : decode mb_Text_readNewTopic 27 = .ok (.iconst 3, 1) := by decide +kernel
theorem rd_Text_readNewTopic_28 : decode mb_Text_readNewTopic 28 = .ok (.invokevirtual 69, 3) := by decide +kernel
theorem rd_Text_readNewTopic_31 : decode mb_Text_readNewTopic 31 = .ok (.aload_n 0, 1) := by decide +kernel
theorem rd_Text_readNewTopic_32 : decode mb_Text_readNewTopic 32 = .ok (.invokevirtual 62, 3) := by decide +kernel
theorem rd_Text_readNewTopic_35 : decode mb_Text_readNewTopic 35 = .ok (.ifCond .ne 8, 3) := by decide +kernel
theorem rd_Text_readNewTopic_38 : decode mb_Text_readNewTopic 38 = .ok (.aload_n 1, 1) := by decide +kernel
theorem rd_Text_readNewTopic_39 : decode mb_Text_readNewTopic 39 = .ok (.iload_n 2, 1) := by decide +kernel
theorem rd_Text_readNewTopic_40 : decode mb_Text_readNewTopic 40 = .ok (.invokevirtual 80, 3) := by decide +kernel
theorem rd_Text_readNewTopic_43 : decode mb_Text_readNewTopic 43 = .ok (.return_, 1) := by decide +kernel
theorem rd_Setup_readTopic_0 : decode mb_Setup_readTopic 0 = .ok (.aload_n 1, 1) := by decide +kernel
theorem rd_Setup_readTopic_1 : decode mb_Setup_readTopic 1 = .ok (.getfield 48, 3) := by decide +kernel
theorem rd_Setup_readTopic_4 : decode mb_Setup_readTopic 4 = .ok (.bipush 8, 2) := by decide +kernel
theorem rd_Setup_readTopic_6 : decode mb_Setup_readTopic 6 = .ok (.if_icmp .lt 9, 3) := by decide +kernel
theorem rd_Setup_readTopic_9 : decode mb_Setup_readTopic 9 = .ok (.aload_n 0, 1) := by decide +kernel
theorem rd_Setup_readTopic_10 : decode mb_Setup_readTopic 10 = .ok (.bipush 6, 2) := by decide +kernel
theorem rd_Setup_readTopic_12 : decode mb_Setup_readTopic 12 = .ok (.invokevirtual 52, 3) := by decide +kernel
theorem rd_Setup_readTopic_15 : decode mb_Setup_readTopic 15 = .ok (.aload_n 0, 1) := by decide +kernel
theorem rd_Setup_readTopic_16 : decode mb_Setup_readTopic 16 = .ok (.aload_n 1, 1) := by decide +kernel
theorem rd_Setup_readTopic_17 : decode mb_Setup_readTopic 17 = .ok (.invokevirtual 56, 3) := by decide +kernel
theorem rd_Setup_readTopic_20 : decode mb_Setup_readTopic 20 = .ok (.aload_n 0, 1) := by decide +kernel
theorem rd_Setup_readTopic_21 : decode mb_Setup_readTopic 21 = .ok (.invokevirtual 60, 3) := by decide +kernel
theorem rd_Setup_readTopic_24 : decode mb_Setup_readTopic 24 = .ok (.return_, 1) := by decide +kernel
theorem rd_Text_begin_0 : decode mb_Text_begin 0 = .ok (.aload_n 0, 1) := by decide +kernel
theorem rd_Text_begin_1 : decode mb_Text_begin 1 = .ok (.iconst 0, 1) := by decide +kernel
theorem rd_Text_begin_2 : decode mb_Text_begin 2 = .ok (.putfield 30, 3) := by decide +kernel
theorem rd_Text_begin_5 : decode mb_Text_begin 5 = .ok (.aload_n 0, 1) := by decide +kernel
theorem rd_Text_begin_6 : decode mb_Text_begin 6 = .ok (.iconst 0, 1) := by decide +kernel
theorem rd_Text_begin_7 : decode mb_Text_begin 7 = .ok (.putfield 33, 3) := by decide +kernel
theorem rd_Text_begin_10 : decode mb_Text_begin 10 = .ok (.aload_n 0, 1) := by decide +kernel
theorem rd_Text_begin_11 : decode mb_Text_begin 11 = .ok (.iconst (-1), 1) := by decide +kernel
theorem rd_Text_begin_12 : decode mb_Text_begin 12 = .ok (.putfield 36, 3) := by decide +kernel
theorem rd_Text_begin_15 : decode mb_Text_begin 15 = .ok (.return_, 1) := by decide +kernel
theorem rd_Text_nextStatement_0 : decode mb_Text_nextStatement 0 = .ok (.aload_n 0, 1) := by decide +kernel
theorem rd_Text_nextStatement_1 : decode mb_Text_nextStatement 1 = .ok (.invokevirtual 62, 3) := by decide +kernel
theorem rd_Text_nextStatement_4 : decode mb_Text_nextStatement 4 = .ok (.ifCond .eq 5, 3) := by decide +kernel
theorem rd_Text_nextStatement_7 : decode mb_Text_nextStatement 7 = .ok (.iconst 0, 1) := by decide +kernel
theorem rd_Text_nextStatement_8 : decode mb_Text_nextStatement 8 = .ok (.ireturn, 1) := by decide +kernel
theorem rd_Text_nextStatement_9 : decode mb_Text_nextStatement 9 = .ok (.aload_n 0, 1) := by decide +kernel
theorem rd_Text_nextStatement_10 : decode mb_Text_nextStatement 10 = .ok (.invokevirtual 66, 3) := by decide +kernel
theorem rd_Text_nextStatement_13 : decode mb_Text_nextStatement 13 = .ok (.aload_n 0, 1) := by decide +kernel
theorem rd_Text_nextStatement_14 : decode mb_Text_nextStatement 14 = .ok (.getfield 24, 3) := by decide +kernel
theorem rd_Text_nextStatement_17 : decode mb_Text_nextStatement 17 = .ok (.ifCond .eq 7, 3) := by decide +kernel
theorem rd_Text_nextStatement_20 : decode mb_Text_nextStatement 20 = .ok (.iconst 1, 1) := by decide +kernel
theorem rd_Text_nextStatement_21 : decode mb_Text_nextStatement 21 = .ok (.goto 4, 3) := by decide +kernel
theorem rd_Text_nextStatement_24 : decode mb_Text_nextStatement 24 = .ok (.iconst 0, 1) := by decide +kernel
theorem rd_Text_nextStatement_25 : decode mb_Text_nextStatement 25 = .ok (.ireturn, 1) := by decide +kernel
def wd_Text_isWord (cI : ClassId) (a_t a_t_bytes a_t_bytes_k : Nat) (i_t_length : Int) (i_t_kind : Int) (i_t_start : Int) (i_t_end : Int) (i_t_code : Int) (i_t_offset : Int) (i_t_bytes : (Int → Int)) : va_W := [(a_t, .inr (3, [.ref a_t_bytes, jk_V i_t_length, jk_V i_t_kind, jk_V i_t_start, jk_V i_t_end, jk_V i_t_code, jk_V i_t_offset])), (a_t_bytes, .inr (0, [.ref a_t_bytes_k])), (a_t_bytes_k, jk_W cI 700 i_t_bytes)]
set_option maxHeartbeats 4000000 in
set_option maxRecDepth 20000 in
theorem ct_Text_isWord (l : Launch) (D : va_G) (Z : (Nat → Prop) → State → Heap → Prop) (sq : Nat → Nat) (hZ : jk_ZK Z sq) (cI cR : ClassId) (a_t a_t_bytes a_t_bytes_k : Nat) (i_t_length : Int) (i_t_kind : Int) (i_t_start : Int) (i_t_end : Int) (i_t_code : Int) (i_t_offset : Int) (i_t_bytes : (Int → Int)) (i_x1 : List Int) (q_i_x1 : Nat) (hq_i_x1 : jk_St Z q_i_x1 i_x1) (q : Int) (hf : fn_Text_isWord i_t_bytes i_t_kind i_t_start i_t_end i_x1 = some q) : jk_MI l D jk_cl (jk_ty cI cR) Z mn_Text_isWord (.code mn_Text_isWord mb_Text_isWord 3 (some .boolean) :: jk_WA) (jk_rm 6 300) [.ref a_t, .ref q_i_x1] (wd_Text_isWord cI a_t a_t_bytes a_t_bytes_k i_t_length i_t_kind i_t_start i_t_end i_t_code i_t_offset i_t_bytes) (wd_Text_isWord cI a_t a_t_bytes a_t_bytes_k i_t_length i_t_kind i_t_start i_t_end i_t_code i_t_offset i_t_bytes) q := by
  intro sz
  refine jk_body (by decide +kernel) (fun p e s m args below meth c hsz hz hin C => ?_) (Nat.le_of_ble_eq_true rfl)
  subst hsz
  unfold fn_Text_isWord at hf
  have bk_28 : ∀ (n : Nat) (v2 : Int), fn_Text_isWord_b28 n i_t_bytes i_t_start i_x1 v2 = some q → jk_J p l e (jk_rm 6 300) s m args below meth c 0 0 (jk_QI below D jk_cl (jk_ty cI cR) (wd_Text_isWord cI a_t a_t_bytes a_t_bytes_k i_t_length i_t_kind i_t_start i_t_end i_t_code i_t_offset i_t_bytes) (wd_Text_isWord cI a_t a_t_bytes a_t_bytes_k i_t_length i_t_kind i_t_start i_t_end i_t_code i_t_offset i_t_bytes) args s q) D jk_cl (va_A (wd_Text_isWord cI a_t a_t_bytes a_t_bytes_k i_t_length i_t_kind i_t_start i_t_end i_t_code i_t_offset i_t_bytes) s.heap.size) 3 (wd_Text_isWord cI a_t a_t_bytes a_t_bytes_k i_t_length i_t_kind i_t_start i_t_end i_t_code i_t_offset i_t_bytes) [(0, .ref a_t), (1, .ref q_i_x1), (2, jk_V v2)] 28 [] := by
    intro n
    induction n with
    | zero => intro v2 hf; exact nomatch (show none = some q from hf)
    | succ n ih =>
      intro v2 hf
      rw [fn_Text_isWord_b28] at hf
      refine jk_iload_n C rd_Text_isWord_28 (k := 2) rfl ?_
      refine jk_aload_n C rd_Text_isWord_29 (k := 1) rfl ?_
      refine jk_slen C hZ hz hq_i_x1 rd_Text_isWord_30 W_slen_Text_39 ⟨Nat.le_of_ble_eq_true rfl, Nat.le_of_ble_eq_true rfl⟩ (Nat.le_of_ble_eq_true rfl) ⟨Nat.le_of_ble_eq_true rfl, Nat.le_of_ble_eq_true rfl⟩ ?_
      refine jk_icmp_ge (tgt := 65) C rd_Text_isWord_33 (by decide) hf (fun _ hf => ?_) (fun _ hf => ?_)
      · refine jk_iconst C rd_Text_isWord_65 ?_
        cases hf
        exact jk_zret C (Or.inr rfl) rfl rd_Text_isWord_66 rfl
      · refine jk_aload_n C rd_Text_isWord_36 (k := 0) rfl ?_
        refine jk_get C in_Text (ci := 3) rfl 0 (by decide) tm_65 0 rfl rfl rd_Text_isWord_37 ?_
        refine jk_aload_n C rd_Text_isWord_40 (k := 0) rfl ?_
        refine jk_get C in_Text (ci := 3) rfl 3 (by decide) tm_69 0 rfl rfl rd_Text_isWord_41 ?_
        refine jk_iload_n C rd_Text_isWord_44 (k := 2) rfl ?_
        refine jk_iadd C rd_Text_isWord_45 ?_
        obtain ⟨q46, hq46, hf⟩ := jk_bind_h hf
        refine jk_callVi C hZ.1 hz (ct_Row_get l D Z sq hZ cI cR (n_t := 700) (Nat.le_of_ble_eq_true rfl) a_t_bytes a_t_bytes_k i_t_bytes (i_t_start + v2) q46 hq46) tm_298 tm_299 tm_300 tm_3 tm_301 na_Row_get ⟨Nat.le_of_ble_eq_true rfl, Nat.le_of_ble_eq_true rfl⟩ rfl [1, 2] rfl rfl rfl (ws' := wd_Text_isWord cI a_t a_t_bytes a_t_bytes_k i_t_length i_t_kind i_t_start i_t_end i_t_code i_t_offset i_t_bytes) rfl 1 0 rfl rfl rfl (st := []) rfl (Nat.le_of_ble_eq_true rfl) rd_Text_isWord_46 ?_ ⟨Nat.le_of_ble_eq_true rfl, Nat.le_of_ble_eq_true rfl⟩
        refine jk_aload_n C rd_Text_isWord_49 (k := 1) rfl ?_
        refine jk_iload_n C rd_Text_isWord_50 (k := 2) rfl ?_
        refine jk_sch C hZ hz hq_i_x1 rd_Text_isWord_51 W_sch_Text_44 ⟨Nat.le_of_ble_eq_true rfl, Nat.le_of_ble_eq_true rfl⟩ (Nat.le_of_ble_eq_true rfl) ⟨Nat.le_of_ble_eq_true rfl, Nat.le_of_ble_eq_true rfl⟩ hf (fun hf => ?_)
        refine jk_icmp_eq (tgt := 59) C rd_Text_isWord_54 (by decide) hf (fun _ hf => ?_) (fun _ hf => ?_)
        · refine jk_iinc C rd_Text_isWord_59 (k := 2) rfl (by decide) (lv' := [(2, jk_V (v2 + 1)), (0, .ref a_t), (1, .ref q_i_x1)]) rfl ?_
          refine jk_goto (tgt := 28) C rd_Text_isWord_62 (by decide) ?_
          refine jk_lv (lv' := [(0, .ref a_t), (1, .ref q_i_x1), (2, jk_V (v2 + 1))]) [1, 2, 0] rfl ?_
          exact ih (v2 + 1) hf
        · refine jk_iconst C rd_Text_isWord_57 ?_
          cases hf
          exact jk_zret C (Or.inl rfl) rfl rd_Text_isWord_58 rfl
  refine jk_aload_n C rd_Text_isWord_0 (k := 0) rfl ?_
  refine jk_get C in_Text (ci := 3) rfl 2 (by decide) tm_68 0 rfl rfl rd_Text_isWord_1 ?_
  refine jk_iconst C rd_Text_isWord_4 ?_
  refine jk_icmp_ne (tgt := 24) C rd_Text_isWord_5 (by decide) hf (fun _ hf => ?_) (fun _ hf => ?_)
  · refine jk_iconst C rd_Text_isWord_24 ?_
    cases hf
    exact jk_zret C (Or.inl rfl) rfl rd_Text_isWord_25 rfl
  · refine jk_aload_n C rd_Text_isWord_8 (k := 0) rfl ?_
    refine jk_get C in_Text (ci := 3) rfl 4 (by decide) tm_70 0 rfl rfl rd_Text_isWord_9 ?_
    refine jk_aload_n C rd_Text_isWord_12 (k := 0) rfl ?_
    refine jk_get C in_Text (ci := 3) rfl 3 (by decide) tm_69 0 rfl rfl rd_Text_isWord_13 ?_
    refine jk_isub C rd_Text_isWord_16 ?_
    refine jk_aload_n C rd_Text_isWord_17 (k := 1) rfl ?_
    refine jk_slen C hZ hz hq_i_x1 rd_Text_isWord_18 W_slen_Text_39 ⟨Nat.le_of_ble_eq_true rfl, Nat.le_of_ble_eq_true rfl⟩ (Nat.le_of_ble_eq_true rfl) ⟨Nat.le_of_ble_eq_true rfl, Nat.le_of_ble_eq_true rfl⟩ ?_
    refine jk_icmp_eq (tgt := 26) C rd_Text_isWord_21 (by decide) hf (fun _ hf => ?_) (fun _ hf => ?_)
    · refine jk_iconst C rd_Text_isWord_26 ?_
      refine jk_istore_n C rd_Text_isWord_27 (by decide) (lv' := [(2, jk_V 0), (0, .ref a_t), (1, .ref q_i_x1)]) rfl ?_
      refine jk_lv (lv' := [(0, .ref a_t), (1, .ref q_i_x1), (2, jk_V 0)]) [1, 2, 0] rfl ?_
      exact bk_28 jk_F 0 hf
    · refine jk_iconst C rd_Text_isWord_24 ?_
      cases hf
      exact jk_zret C (Or.inl rfl) rfl rd_Text_isWord_25 rfl
def wd_Setup_checkFirstWord (cI : ClassId) (a_a a_a_bytes a_a_bytes_k a_b a_b_starts a_b_depth a_b_topic a_b_value a_b_nibbled a_b_starts_k a_b_depth_k : Nat) (i_a_length : Int) (i_a_kind : Int) (i_a_start : Int) (i_a_end : Int) (i_a_code : Int) (i_a_offset : Int) (i_a_bytes : (Int → Int)) (i_b_clusters : Int) (i_b_size : Int) (i_b_starts : (Int → Int)) (i_b_depth : (Int → Int)) : va_W := [(a_a, .inr (3, [.ref a_a_bytes, jk_V i_a_length, jk_V i_a_kind, jk_V i_a_start, jk_V i_a_end, jk_V i_a_code, jk_V i_a_offset])), (a_a_bytes, .inr (0, [.ref a_a_bytes_k])), (a_a_bytes_k, jk_W cI 700 i_a_bytes), (a_b, .inr (5, [jk_V i_b_clusters, jk_V i_b_size, .ref a_b_starts, .ref a_b_depth, .ref a_b_topic, .ref a_b_value, .ref a_b_nibbled])), (a_b_starts, .inr (0, [.ref a_b_starts_k])), (a_b_starts_k, jk_W cI 7 i_b_starts), (a_b_depth, .inr (0, [.ref a_b_depth_k])), (a_b_depth_k, jk_W cI 40 i_b_depth)]
set_option maxHeartbeats 4000000 in
set_option maxRecDepth 20000 in
theorem ct_Setup_checkFirstWord (l : Launch) (D : va_G) (Z : (Nat → Prop) → State → Heap → Prop) (sq : Nat → Nat) (hZ : jk_ZK Z sq) (cI cR : ClassId) (a_a a_a_bytes a_a_bytes_k a_b a_b_starts a_b_depth a_b_topic a_b_value a_b_nibbled a_b_starts_k a_b_depth_k : Nat) (i_a_length : Int) (i_a_kind : Int) (i_a_start : Int) (i_a_end : Int) (i_a_code : Int) (i_a_offset : Int) (i_a_bytes : (Int → Int)) (i_b_clusters : Int) (i_b_size : Int) (i_b_starts : (Int → Int)) (i_b_depth : (Int → Int)) (q : Int × Int) (hf : fn_Setup_checkFirstWord i_a_bytes i_a_kind i_a_start i_a_end i_a_code i_a_offset i_b_clusters i_b_size i_b_starts i_b_depth = some q) : jk_MV l D jk_cl (jk_ty cI cR) Z mn_Setup_checkFirstWord (.code mn_Setup_checkFirstWord mb_Setup_checkFirstWord 3 none :: jk_WA) (jk_rm 7 322) [.ref a_a, .ref a_b] (wd_Setup_checkFirstWord cI a_a a_a_bytes a_a_bytes_k a_b a_b_starts a_b_depth a_b_topic a_b_value a_b_nibbled a_b_starts_k a_b_depth_k i_a_length i_a_kind i_a_start i_a_end i_a_code i_a_offset i_a_bytes i_b_clusters i_b_size i_b_starts i_b_depth) (wd_Setup_checkFirstWord cI a_a a_a_bytes a_a_bytes_k a_b a_b_starts a_b_depth a_b_topic a_b_value a_b_nibbled a_b_starts_k a_b_depth_k i_a_length i_a_kind i_a_start i_a_end q.1 q.2 i_a_bytes i_b_clusters i_b_size i_b_starts i_b_depth) := by
  intro sz
  refine jk_body (by decide +kernel) (fun p e s m args below meth c hsz hz hin C => ?_) (Nat.le_of_ble_eq_true rfl)
  subst hsz
  unfold fn_Setup_checkFirstWord at hf
  have bk_58 : ∀ (a_code : Int) (a_offset : Int), fn_Setup_checkFirstWord_b58 i_a_start a_code a_offset i_b_size = some q → jk_J p l e (jk_rm 7 322) s m args below meth c 0 0 (jk_QV below D jk_cl (jk_ty cI cR) (wd_Setup_checkFirstWord cI a_a a_a_bytes a_a_bytes_k a_b a_b_starts a_b_depth a_b_topic a_b_value a_b_nibbled a_b_starts_k a_b_depth_k i_a_length i_a_kind i_a_start i_a_end i_a_code i_a_offset i_a_bytes i_b_clusters i_b_size i_b_starts i_b_depth) (wd_Setup_checkFirstWord cI a_a a_a_bytes a_a_bytes_k a_b a_b_starts a_b_depth a_b_topic a_b_value a_b_nibbled a_b_starts_k a_b_depth_k i_a_length i_a_kind i_a_start i_a_end q.1 q.2 i_a_bytes i_b_clusters i_b_size i_b_starts i_b_depth) args s) D jk_cl (va_A (wd_Setup_checkFirstWord cI a_a a_a_bytes a_a_bytes_k a_b a_b_starts a_b_depth a_b_topic a_b_value a_b_nibbled a_b_starts_k a_b_depth_k i_a_length i_a_kind i_a_start i_a_end i_a_code i_a_offset i_a_bytes i_b_clusters i_b_size i_b_starts i_b_depth) s.heap.size) 3 (wd_Setup_checkFirstWord cI a_a a_a_bytes a_a_bytes_k a_b a_b_starts a_b_depth a_b_topic a_b_value a_b_nibbled a_b_starts_k a_b_depth_k i_a_length i_a_kind i_a_start i_a_end a_code a_offset i_a_bytes i_b_clusters i_b_size i_b_starts i_b_depth) [(0, .ref a_a), (1, .ref a_b)] 58 [] := by
    intro a_code a_offset hf
    unfold fn_Setup_checkFirstWord_b58 at hf
    refine jk_aload_n C rd_Setup_checkFirstWord_58 (k := 0) rfl ?_
    refine jk_iconst C rd_Setup_checkFirstWord_59 ?_
    obtain ⟨q60, hq60, hf⟩ := jk_bind_h hf
    refine jk_callVv C hZ.1 hz (ct_Text_fail l D Z sq hZ cI cR a_a a_a_bytes i_a_length i_a_kind i_a_start i_a_end a_code a_offset 5 q60 hq60) tm_310 tm_311 tm_312 tm_2 tm_313 na_Text_fail ⟨Nat.le_of_ble_eq_true rfl, Nat.le_of_ble_eq_true rfl⟩ rfl [0] rfl rfl rfl (ws' := wd_Setup_checkFirstWord cI a_a a_a_bytes a_a_bytes_k a_b a_b_starts a_b_depth a_b_topic a_b_value a_b_nibbled a_b_starts_k a_b_depth_k i_a_length i_a_kind i_a_start i_a_end q60.1 q60.2 i_a_bytes i_b_clusters i_b_size i_b_starts i_b_depth) rfl 0 3 rfl rfl rfl (st := []) rfl (Nat.le_of_ble_eq_true rfl) rd_Setup_checkFirstWord_60 ?_ ⟨Nat.le_of_ble_eq_true rfl, Nat.le_of_ble_eq_true rfl⟩
    refine jk_aload_n C rd_Setup_checkFirstWord_63 (k := 1) rfl ?_
    refine jk_getN C in_Cords (ci := 5) rfl 1 (by decide) (jk_nw hZ hz tn_13) 3 rfl rfl rd_Setup_checkFirstWord_64 ?_
    refine jk_bipush C rd_Setup_checkFirstWord_67 (by decide +kernel) ?_
    refine jk_icmp_lt (tgt := 78) C rd_Setup_checkFirstWord_69 (by decide) hf (fun _ hf => ?_) (fun _ hf => ?_)
    · cases hf
      exact jk_vret C rfl rd_Setup_checkFirstWord_78 rfl
    · refine jk_aload_n C rd_Setup_checkFirstWord_72 (k := 0) rfl ?_
      refine jk_bipush C rd_Setup_checkFirstWord_73 (by decide +kernel) ?_
      obtain ⟨q75, hq75, hf⟩ := jk_bind_h hf
      refine jk_callVv C hZ.1 hz (ct_Text_fail l D Z sq hZ cI cR a_a a_a_bytes i_a_length i_a_kind i_a_start i_a_end q60.1 q60.2 6 q75 hq75) tm_310 tm_311 tm_312 tm_2 tm_313 na_Text_fail ⟨Nat.le_of_ble_eq_true rfl, Nat.le_of_ble_eq_true rfl⟩ rfl [0] rfl rfl rfl (ws' := wd_Setup_checkFirstWord cI a_a a_a_bytes a_a_bytes_k a_b a_b_starts a_b_depth a_b_topic a_b_value a_b_nibbled a_b_starts_k a_b_depth_k i_a_length i_a_kind i_a_start i_a_end q75.1 q75.2 i_a_bytes i_b_clusters i_b_size i_b_starts i_b_depth) rfl 0 3 rfl rfl rfl (st := []) rfl (Nat.le_of_ble_eq_true rfl) rd_Setup_checkFirstWord_75 ?_ ⟨Nat.le_of_ble_eq_true rfl, Nat.le_of_ble_eq_true rfl⟩
      cases hf
      exact jk_vret C rfl rd_Setup_checkFirstWord_78 rfl
  have bk_34 : ∀ (a_code : Int) (a_offset : Int) (v2 : Int), fn_Setup_checkFirstWord_b34 i_a_start a_code a_offset i_b_clusters i_b_size i_b_starts i_b_depth v2 = some q → jk_J p l e (jk_rm 7 322) s m args below meth c 0 0 (jk_QV below D jk_cl (jk_ty cI cR) (wd_Setup_checkFirstWord cI a_a a_a_bytes a_a_bytes_k a_b a_b_starts a_b_depth a_b_topic a_b_value a_b_nibbled a_b_starts_k a_b_depth_k i_a_length i_a_kind i_a_start i_a_end i_a_code i_a_offset i_a_bytes i_b_clusters i_b_size i_b_starts i_b_depth) (wd_Setup_checkFirstWord cI a_a a_a_bytes a_a_bytes_k a_b a_b_starts a_b_depth a_b_topic a_b_value a_b_nibbled a_b_starts_k a_b_depth_k i_a_length i_a_kind i_a_start i_a_end q.1 q.2 i_a_bytes i_b_clusters i_b_size i_b_starts i_b_depth) args s) D jk_cl (va_A (wd_Setup_checkFirstWord cI a_a a_a_bytes a_a_bytes_k a_b a_b_starts a_b_depth a_b_topic a_b_value a_b_nibbled a_b_starts_k a_b_depth_k i_a_length i_a_kind i_a_start i_a_end i_a_code i_a_offset i_a_bytes i_b_clusters i_b_size i_b_starts i_b_depth) s.heap.size) 3 (wd_Setup_checkFirstWord cI a_a a_a_bytes a_a_bytes_k a_b a_b_starts a_b_depth a_b_topic a_b_value a_b_nibbled a_b_starts_k a_b_depth_k i_a_length i_a_kind i_a_start i_a_end a_code a_offset i_a_bytes i_b_clusters i_b_size i_b_starts i_b_depth) [(0, .ref a_a), (1, .ref a_b), (2, jk_V v2)] 34 [] := by
    intro a_code a_offset v2 hf
    unfold fn_Setup_checkFirstWord_b34 at hf
    refine jk_aload_n C rd_Setup_checkFirstWord_34 (k := 1) rfl ?_
    refine jk_getN C in_Cords (ci := 5) rfl 0 (by decide) (jk_nw hZ hz tn_9) 3 rfl rfl rd_Setup_checkFirstWord_35 ?_
    refine jk_if_eq (tgt := 58) C rd_Setup_checkFirstWord_38 (by decide) hf (fun _ hf => ?_) (fun _ hf => ?_)
    · refine jk_lv (lv' := [(0, .ref a_a), (1, .ref a_b)]) [0, 1] rfl ?_
      exact bk_58 a_code a_offset hf
    · refine jk_iload_n C rd_Setup_checkFirstWord_41 (k := 2) rfl ?_
      refine jk_if_eq (tgt := 63) C rd_Setup_checkFirstWord_42 (by decide) hf (fun _ hf => ?_) (fun _ hf => ?_)
      · refine jk_aload_n C rd_Setup_checkFirstWord_63 (k := 1) rfl ?_
        refine jk_getN C in_Cords (ci := 5) rfl 1 (by decide) (jk_nw hZ hz tn_13) 3 rfl rfl rd_Setup_checkFirstWord_64 ?_
        refine jk_bipush C rd_Setup_checkFirstWord_67 (by decide +kernel) ?_
        refine jk_icmp_lt (tgt := 78) C rd_Setup_checkFirstWord_69 (by decide) hf (fun _ hf => ?_) (fun _ hf => ?_)
        · cases hf
          exact jk_vret C rfl rd_Setup_checkFirstWord_78 rfl
        · refine jk_aload_n C rd_Setup_checkFirstWord_72 (k := 0) rfl ?_
          refine jk_bipush C rd_Setup_checkFirstWord_73 (by decide +kernel) ?_
          obtain ⟨q75, hq75, hf⟩ := jk_bind_h hf
          refine jk_callVv C hZ.1 hz (ct_Text_fail l D Z sq hZ cI cR a_a a_a_bytes i_a_length i_a_kind i_a_start i_a_end a_code a_offset 6 q75 hq75) tm_310 tm_311 tm_312 tm_2 tm_313 na_Text_fail ⟨Nat.le_of_ble_eq_true rfl, Nat.le_of_ble_eq_true rfl⟩ rfl [0] rfl rfl rfl (ws' := wd_Setup_checkFirstWord cI a_a a_a_bytes a_a_bytes_k a_b a_b_starts a_b_depth a_b_topic a_b_value a_b_nibbled a_b_starts_k a_b_depth_k i_a_length i_a_kind i_a_start i_a_end q75.1 q75.2 i_a_bytes i_b_clusters i_b_size i_b_starts i_b_depth) rfl 0 3 rfl rfl rfl (st := []) rfl (Nat.le_of_ble_eq_true rfl) rd_Setup_checkFirstWord_75 ?_ ⟨Nat.le_of_ble_eq_true rfl, Nat.le_of_ble_eq_true rfl⟩
          cases hf
          exact jk_vret C rfl rd_Setup_checkFirstWord_78 rfl
      · refine jk_aload_n C rd_Setup_checkFirstWord_45 (k := 1) rfl ?_
        refine jk_aload_n C rd_Setup_checkFirstWord_46 (k := 1) rfl ?_
        refine jk_getN C in_Cords (ci := 5) rfl 0 (by decide) (jk_nw hZ hz tn_9) 3 rfl rfl rd_Setup_checkFirstWord_47 ?_
        refine jk_iconst C rd_Setup_checkFirstWord_50 ?_
        refine jk_isub C rd_Setup_checkFirstWord_51 ?_
        obtain ⟨q52, hq52, hf⟩ := jk_bind_h hf
        refine jk_callVi C hZ.1 hz (ct_Cords_hasTop l D Z sq hZ cI cR a_b a_b_starts a_b_depth a_b_topic a_b_value a_b_nibbled a_b_starts_k a_b_depth_k i_b_clusters i_b_size i_b_starts i_b_depth (i_b_clusters - 1) q52 hq52) tm_355 tm_356 tm_357 tm_6 tm_358 na_Cords_hasTop ⟨Nat.le_of_ble_eq_true rfl, Nat.le_of_ble_eq_true rfl⟩ rfl [3, 4, 5, 6, 7] rfl rfl rfl (ws' := wd_Setup_checkFirstWord cI a_a a_a_bytes a_a_bytes_k a_b a_b_starts a_b_depth a_b_topic a_b_value a_b_nibbled a_b_starts_k a_b_depth_k i_a_length i_a_kind i_a_start i_a_end a_code a_offset i_a_bytes i_b_clusters i_b_size i_b_starts i_b_depth) rfl 3 5 rfl rfl rfl (st := []) rfl (Nat.le_of_ble_eq_true rfl) rd_Setup_checkFirstWord_52 ?_ ⟨Nat.le_of_ble_eq_true rfl, Nat.le_of_ble_eq_true rfl⟩
        refine jk_if_eq (tgt := 63) C rd_Setup_checkFirstWord_55 (by decide) hf (fun _ hf => ?_) (fun _ hf => ?_)
        · refine jk_aload_n C rd_Setup_checkFirstWord_63 (k := 1) rfl ?_
          refine jk_getN C in_Cords (ci := 5) rfl 1 (by decide) (jk_nw hZ hz tn_13) 3 rfl rfl rd_Setup_checkFirstWord_64 ?_
          refine jk_bipush C rd_Setup_checkFirstWord_67 (by decide +kernel) ?_
          refine jk_icmp_lt (tgt := 78) C rd_Setup_checkFirstWord_69 (by decide) hf (fun _ hf => ?_) (fun _ hf => ?_)
          · cases hf
            exact jk_vret C rfl rd_Setup_checkFirstWord_78 rfl
          · refine jk_aload_n C rd_Setup_checkFirstWord_72 (k := 0) rfl ?_
            refine jk_bipush C rd_Setup_checkFirstWord_73 (by decide +kernel) ?_
            obtain ⟨q75, hq75, hf⟩ := jk_bind_h hf
            refine jk_callVv C hZ.1 hz (ct_Text_fail l D Z sq hZ cI cR a_a a_a_bytes i_a_length i_a_kind i_a_start i_a_end a_code a_offset 6 q75 hq75) tm_310 tm_311 tm_312 tm_2 tm_313 na_Text_fail ⟨Nat.le_of_ble_eq_true rfl, Nat.le_of_ble_eq_true rfl⟩ rfl [0] rfl rfl rfl (ws' := wd_Setup_checkFirstWord cI a_a a_a_bytes a_a_bytes_k a_b a_b_starts a_b_depth a_b_topic a_b_value a_b_nibbled a_b_starts_k a_b_depth_k i_a_length i_a_kind i_a_start i_a_end q75.1 q75.2 i_a_bytes i_b_clusters i_b_size i_b_starts i_b_depth) rfl 0 3 rfl rfl rfl (st := []) rfl (Nat.le_of_ble_eq_true rfl) rd_Setup_checkFirstWord_75 ?_ ⟨Nat.le_of_ble_eq_true rfl, Nat.le_of_ble_eq_true rfl⟩
            cases hf
            exact jk_vret C rfl rd_Setup_checkFirstWord_78 rfl
        · refine jk_lv (lv' := [(0, .ref a_a), (1, .ref a_b)]) [0, 1] rfl ?_
          exact bk_58 a_code a_offset hf
  refine jk_aload_n C rd_Setup_checkFirstWord_0 (k := 0) rfl ?_
  refine jk_ldcs C hZ hz rd_Setup_checkFirstWord_1 (k := 3) rfl ?_
  obtain ⟨q3, hq3, hf⟩ := jk_bind_h hf
  refine jk_callVi C hZ.1 hz (ct_Text_isWord l D Z sq hZ cI cR a_a a_a_bytes a_a_bytes_k i_a_length i_a_kind i_a_start i_a_end i_a_code i_a_offset i_a_bytes ([116, 111, 112]) ((sq 3)) ((jk_zs hZ (k := 3) rfl)) q3 hq3) tm_303 tm_304 tm_305 tm_2 tm_306 na_Text_isWord ⟨Nat.le_of_ble_eq_true rfl, Nat.le_of_ble_eq_true rfl⟩ rfl [0, 1, 2] rfl rfl rfl (ws' := wd_Setup_checkFirstWord cI a_a a_a_bytes a_a_bytes_k a_b a_b_starts a_b_depth a_b_topic a_b_value a_b_nibbled a_b_starts_k a_b_depth_k i_a_length i_a_kind i_a_start i_a_end i_a_code i_a_offset i_a_bytes i_b_clusters i_b_size i_b_starts i_b_depth) rfl 0 3 rfl rfl rfl (st := []) rfl (Nat.le_of_ble_eq_true rfl) rd_Setup_checkFirstWord_3 ?_ ⟨Nat.le_of_ble_eq_true rfl, Nat.le_of_ble_eq_true rfl⟩
  refine jk_istore_n C rd_Setup_checkFirstWord_6 (by decide) (lv' := [(2, jk_V q3), (0, .ref a_a), (1, .ref a_b)]) rfl ?_
  refine jk_iload_n C rd_Setup_checkFirstWord_7 (k := 0) rfl ?_
  refine jk_if_ne (tgt := 34) C rd_Setup_checkFirstWord_8 (by decide) hf (fun _ hf => ?_) (fun _ hf => ?_)
  · refine jk_lv (lv' := [(0, .ref a_a), (1, .ref a_b), (2, jk_V q3)]) [1, 2, 0] rfl ?_
    exact bk_34 i_a_code i_a_offset q3 hf
  · refine jk_aload_n C rd_Setup_checkFirstWord_11 (k := 1) rfl ?_
    refine jk_ldcs C hZ hz rd_Setup_checkFirstWord_12 (k := 4) rfl ?_
    obtain ⟨q14, hq14, hf⟩ := jk_bind_h hf
    refine jk_callVi C hZ.1 hz (ct_Text_isWord l D Z sq hZ cI cR a_a a_a_bytes a_a_bytes_k i_a_length i_a_kind i_a_start i_a_end i_a_code i_a_offset i_a_bytes ([112, 101, 110, 100, 97, 110, 116]) ((sq 4)) ((jk_zs hZ (k := 4) rfl)) q14 hq14) tm_303 tm_304 tm_305 tm_2 tm_306 na_Text_isWord ⟨Nat.le_of_ble_eq_true rfl, Nat.le_of_ble_eq_true rfl⟩ rfl [0, 1, 2] rfl rfl rfl (ws' := wd_Setup_checkFirstWord cI a_a a_a_bytes a_a_bytes_k a_b a_b_starts a_b_depth a_b_topic a_b_value a_b_nibbled a_b_starts_k a_b_depth_k i_a_length i_a_kind i_a_start i_a_end i_a_code i_a_offset i_a_bytes i_b_clusters i_b_size i_b_starts i_b_depth) rfl 0 3 rfl rfl rfl (st := []) rfl (Nat.le_of_ble_eq_true rfl) rd_Setup_checkFirstWord_14 ?_ ⟨Nat.le_of_ble_eq_true rfl, Nat.le_of_ble_eq_true rfl⟩
    refine jk_if_ne (tgt := 34) C rd_Setup_checkFirstWord_17 (by decide) hf (fun _ hf => ?_) (fun _ hf => ?_)
    · refine jk_lv (lv' := [(0, .ref a_a), (1, .ref a_b), (2, jk_V q3)]) [1, 2, 0] rfl ?_
      exact bk_34 i_a_code i_a_offset q3 hf
    · refine jk_aload_n C rd_Setup_checkFirstWord_20 (k := 1) rfl ?_
      refine jk_ldcs C hZ hz rd_Setup_checkFirstWord_21 (k := 5) rfl ?_
      obtain ⟨q23, hq23, hf⟩ := jk_bind_h hf
      refine jk_callVi C hZ.1 hz (ct_Text_isWord l D Z sq hZ cI cR a_a a_a_bytes a_a_bytes_k i_a_length i_a_kind i_a_start i_a_end i_a_code i_a_offset i_a_bytes ([115, 117, 98]) ((sq 5)) ((jk_zs hZ (k := 5) rfl)) q23 hq23) tm_303 tm_304 tm_305 tm_2 tm_306 na_Text_isWord ⟨Nat.le_of_ble_eq_true rfl, Nat.le_of_ble_eq_true rfl⟩ rfl [0, 1, 2] rfl rfl rfl (ws' := wd_Setup_checkFirstWord cI a_a a_a_bytes a_a_bytes_k a_b a_b_starts a_b_depth a_b_topic a_b_value a_b_nibbled a_b_starts_k a_b_depth_k i_a_length i_a_kind i_a_start i_a_end i_a_code i_a_offset i_a_bytes i_b_clusters i_b_size i_b_starts i_b_depth) rfl 0 3 rfl rfl rfl (st := []) rfl (Nat.le_of_ble_eq_true rfl) rd_Setup_checkFirstWord_23 ?_ ⟨Nat.le_of_ble_eq_true rfl, Nat.le_of_ble_eq_true rfl⟩
      refine jk_if_ne (tgt := 34) C rd_Setup_checkFirstWord_26 (by decide) hf (fun _ hf => ?_) (fun _ hf => ?_)
      · refine jk_lv (lv' := [(0, .ref a_a), (1, .ref a_b), (2, jk_V q3)]) [1, 2, 0] rfl ?_
        exact bk_34 i_a_code i_a_offset q3 hf
      · refine jk_aload_n C rd_Setup_checkFirstWord_29 (k := 1) rfl ?_
        refine jk_iconst C rd_Setup_checkFirstWord_30 ?_
        obtain ⟨q31, hq31, hf⟩ := jk_bind_h hf
        refine jk_callVv C hZ.1 hz (ct_Text_fail l D Z sq hZ cI cR a_a a_a_bytes i_a_length i_a_kind i_a_start i_a_end i_a_code i_a_offset 1 q31 hq31) tm_310 tm_311 tm_312 tm_2 tm_313 na_Text_fail ⟨Nat.le_of_ble_eq_true rfl, Nat.le_of_ble_eq_true rfl⟩ rfl [0] rfl rfl rfl (ws' := wd_Setup_checkFirstWord cI a_a a_a_bytes a_a_bytes_k a_b a_b_starts a_b_depth a_b_topic a_b_value a_b_nibbled a_b_starts_k a_b_depth_k i_a_length i_a_kind i_a_start i_a_end q31.1 q31.2 i_a_bytes i_b_clusters i_b_size i_b_starts i_b_depth) rfl 0 3 rfl rfl rfl (st := []) rfl (Nat.le_of_ble_eq_true rfl) rd_Setup_checkFirstWord_31 ?_ ⟨Nat.le_of_ble_eq_true rfl, Nat.le_of_ble_eq_true rfl⟩
        refine jk_lv (lv' := [(0, .ref a_a), (1, .ref a_b), (2, jk_V q3)]) [1, 2, 0] rfl ?_
        exact bk_34 q31.1 q31.2 q3 hf
def wd_Setup_placeFor (cI : ClassId) (a_a a_a_starts a_a_depth a_a_topic a_a_value a_a_nibbled a_a_starts_k a_a_depth_k : Nat) (i_a_clusters : Int) (i_a_size : Int) (i_a_starts : (Int → Int)) (i_a_depth : (Int → Int)) : va_W := [(a_a, .inr (5, [jk_V i_a_clusters, jk_V i_a_size, .ref a_a_starts, .ref a_a_depth, .ref a_a_topic, .ref a_a_value, .ref a_a_nibbled])), (a_a_starts, .inr (0, [.ref a_a_starts_k])), (a_a_starts_k, jk_W cI 7 i_a_starts), (a_a_depth, .inr (0, [.ref a_a_depth_k])), (a_a_depth_k, jk_W cI 40 i_a_depth)]
set_option maxHeartbeats 4000000 in
set_option maxRecDepth 20000 in
theorem ct_Setup_placeFor (l : Launch) (D : va_G) (Z : (Nat → Prop) → State → Heap → Prop) (sq : Nat → Nat) (hZ : jk_ZK Z sq) (cI cR : ClassId) (a_a a_a_starts a_a_depth a_a_topic a_a_value a_a_nibbled a_a_starts_k a_a_depth_k : Nat) (i_a_clusters : Int) (i_a_size : Int) (i_a_starts : (Int → Int)) (i_a_depth : (Int → Int)) (x1 : Int) (q : Int) (hf : fn_Setup_placeFor i_a_clusters i_a_size i_a_starts i_a_depth x1 = some q) : jk_MI l D jk_cl (jk_ty cI cR) Z mn_Setup_placeFor (.code mn_Setup_placeFor mb_Setup_placeFor 4 (some .int) :: jk_WA) (jk_rm 2 45) [.ref a_a, jk_V x1] (wd_Setup_placeFor cI a_a a_a_starts a_a_depth a_a_topic a_a_value a_a_nibbled a_a_starts_k a_a_depth_k i_a_clusters i_a_size i_a_starts i_a_depth) (wd_Setup_placeFor cI a_a a_a_starts a_a_depth a_a_topic a_a_value a_a_nibbled a_a_starts_k a_a_depth_k i_a_clusters i_a_size i_a_starts i_a_depth) q := by
  intro sz
  refine jk_body (by decide +kernel) (fun p e s m args below meth c hsz hz hin C => ?_) (Nat.le_of_ble_eq_true rfl)
  subst hsz
  unfold fn_Setup_placeFor at hf
  refine jk_aload_n C rd_Setup_placeFor_0 (k := 0) rfl ?_
  refine jk_aload_n C rd_Setup_placeFor_1 (k := 0) rfl ?_
  refine jk_getN C in_Cords (ci := 5) rfl 0 (by decide) (jk_nw hZ hz tn_9) 0 rfl rfl rd_Setup_placeFor_2 ?_
  refine jk_iconst C rd_Setup_placeFor_5 ?_
  refine jk_isub C rd_Setup_placeFor_6 ?_
  obtain ⟨q7, hq7, hf⟩ := jk_bind_h hf
  refine jk_callVi C hZ.1 hz (ct_Cords_start l D Z sq hZ cI cR a_a a_a_starts a_a_depth a_a_topic a_a_value a_a_nibbled a_a_starts_k i_a_clusters i_a_size i_a_starts (i_a_clusters - 1) q7 hq7) tm_371 tm_372 tm_373 tm_6 tm_374 na_Cords_start ⟨Nat.le_of_ble_eq_true rfl, Nat.le_of_ble_eq_true rfl⟩ rfl [0, 1, 2] rfl rfl rfl (ws' := wd_Setup_placeFor cI a_a a_a_starts a_a_depth a_a_topic a_a_value a_a_nibbled a_a_starts_k a_a_depth_k i_a_clusters i_a_size i_a_starts i_a_depth) rfl 0 5 rfl rfl rfl (st := []) rfl (Nat.le_of_ble_eq_true rfl) rd_Setup_placeFor_7 ?_ ⟨Nat.le_of_ble_eq_true rfl, Nat.le_of_ble_eq_true rfl⟩
  refine jk_istore_n C rd_Setup_placeFor_10 (by decide) (lv' := [(2, jk_V q7), (0, .ref a_a), (1, jk_V x1)]) rfl ?_
  refine jk_iload_n C rd_Setup_placeFor_11 (k := 2) rfl ?_
  refine jk_if_ne (tgt := 17) C rd_Setup_placeFor_12 (by decide) hf (fun _ hf => ?_) (fun _ hf => ?_)
  · refine jk_iload_n C rd_Setup_placeFor_17 (k := 2) rfl ?_
    refine jk_iconst C rd_Setup_placeFor_18 ?_
    refine jk_icmp_ne (tgt := 27) C rd_Setup_placeFor_19 (by decide) hf (fun _ hf => ?_) (fun _ hf => ?_)
    · refine jk_aload_n C rd_Setup_placeFor_27 (k := 1) rfl ?_
      refine jk_iload_n C rd_Setup_placeFor_28 (k := 0) rfl ?_
      refine jk_aload_n C rd_Setup_placeFor_29 (k := 1) rfl ?_
      refine jk_getN C in_Cords (ci := 5) rfl 1 (by decide) (jk_nw hZ hz tn_13) 0 rfl rfl rd_Setup_placeFor_30 ?_
      refine jk_iload_n C rd_Setup_placeFor_33 (k := 2) rfl ?_
      refine jk_iconst C rd_Setup_placeFor_34 ?_
      refine jk_isub C rd_Setup_placeFor_35 ?_
      obtain ⟨q36, hq36, hf⟩ := jk_bind_h hf
      refine jk_callVi C hZ.1 hz (ct_Cords_latestAtDepth l D Z sq hZ cI cR a_a a_a_starts a_a_depth a_a_topic a_a_value a_a_nibbled a_a_depth_k i_a_clusters i_a_size i_a_depth q7 i_a_size (x1 - 1) q36 hq36) tm_375 tm_376 tm_377 tm_6 tm_378 na_Cords_latestAtDepth ⟨Nat.le_of_ble_eq_true rfl, Nat.le_of_ble_eq_true rfl⟩ rfl [0, 3, 4] rfl rfl rfl (ws' := wd_Setup_placeFor cI a_a a_a_starts a_a_depth a_a_topic a_a_value a_a_nibbled a_a_starts_k a_a_depth_k i_a_clusters i_a_size i_a_starts i_a_depth) rfl 0 5 rfl rfl rfl (st := []) rfl (Nat.le_of_ble_eq_true rfl) rd_Setup_placeFor_36 ?_ ⟨Nat.le_of_ble_eq_true rfl, Nat.le_of_ble_eq_true rfl⟩
      refine jk_istore_n C rd_Setup_placeFor_39 (by decide) (lv' := [(3, jk_V q36), (2, jk_V q7), (0, .ref a_a), (1, jk_V x1)]) rfl ?_
      refine jk_iload_n C rd_Setup_placeFor_40 (k := 0) rfl ?_
      refine jk_iconst C rd_Setup_placeFor_41 ?_
      refine jk_icmp_ne (tgt := 49) C rd_Setup_placeFor_42 (by decide) hf (fun _ hf => ?_) (fun _ hf => ?_)
      · refine jk_aload_n C rd_Setup_placeFor_49 (k := 2) rfl ?_
        refine jk_iload_n C rd_Setup_placeFor_50 (k := 0) rfl ?_
        obtain ⟨q51, hq51, hf⟩ := jk_bind_h hf
        refine jk_callVi C hZ.1 hz (ct_Cords_branchEnd l D Z sq hZ cI cR a_a a_a_starts a_a_depth a_a_topic a_a_value a_a_nibbled a_a_depth_k i_a_clusters i_a_size i_a_depth q36 q51 hq51) tm_379 tm_380 tm_381 tm_6 tm_382 na_Cords_branchEnd ⟨Nat.le_of_ble_eq_true rfl, Nat.le_of_ble_eq_true rfl⟩ rfl [0, 3, 4] rfl rfl rfl (ws' := wd_Setup_placeFor cI a_a a_a_starts a_a_depth a_a_topic a_a_value a_a_nibbled a_a_starts_k a_a_depth_k i_a_clusters i_a_size i_a_starts i_a_depth) rfl 0 5 rfl rfl rfl (st := []) rfl (Nat.le_of_ble_eq_true rfl) rd_Setup_placeFor_51 ?_ ⟨Nat.le_of_ble_eq_true rfl, Nat.le_of_ble_eq_true rfl⟩
        cases hf
        exact jk_iret C rfl rd_Setup_placeFor_54 rfl
      · refine jk_iconst C rd_Setup_placeFor_45 ?_
        refine jk_goto (tgt := 54) C rd_Setup_placeFor_46 (by decide) ?_
        cases hf
        exact jk_iret C rfl rd_Setup_placeFor_54 rfl
    · refine jk_aload_n C rd_Setup_placeFor_22 (k := 1) rfl ?_
      refine jk_getN C in_Cords (ci := 5) rfl 1 (by decide) (jk_nw hZ hz tn_13) 0 rfl rfl rd_Setup_placeFor_23 ?_
      cases hf
      exact jk_iret C rfl rd_Setup_placeFor_26 rfl
  · refine jk_iload_n C rd_Setup_placeFor_15 (k := 0) rfl ?_
    cases hf
    exact jk_iret C rfl rd_Setup_placeFor_16 rfl
def wd_Text_readNumber (cI : ClassId) (a_t a_t_bytes a_t_bytes_k : Nat) (i_t_length : Int) (i_t_kind : Int) (i_t_start : Int) (i_t_end : Int) (i_t_code : Int) (i_t_offset : Int) (i_t_bytes : (Int → Int)) : va_W := [(a_t, .inr (3, [.ref a_t_bytes, jk_V i_t_length, jk_V i_t_kind, jk_V i_t_start, jk_V i_t_end, jk_V i_t_code, jk_V i_t_offset])), (a_t_bytes, .inr (0, [.ref a_t_bytes_k])), (a_t_bytes_k, jk_W cI 700 i_t_bytes)]
set_option maxHeartbeats 4000000 in
set_option maxRecDepth 20000 in
theorem ct_Text_readNumber (l : Launch) (D : va_G) (Z : (Nat → Prop) → State → Heap → Prop) (sq : Nat → Nat) (hZ : jk_ZK Z sq) (cI cR : ClassId) (a_t a_t_bytes a_t_bytes_k : Nat) (i_t_length : Int) (i_t_kind : Int) (i_t_start : Int) (i_t_end : Int) (i_t_code : Int) (i_t_offset : Int) (i_t_bytes : (Int → Int)) (x1 : Int) (x2 : Int) (q : Int × Int × Int × Int × Int × Int) (hf : fn_Text_readNumber i_t_bytes i_t_length i_t_kind i_t_start i_t_end i_t_code i_t_offset x1 x2 = some q) : jk_MI l D jk_cl (jk_ty cI cR) Z mn_Text_readNumber (.code mn_Text_readNumber mb_Text_readNumber 5 (some .int) :: jk_WA) (jk_rm 3 64) [.ref a_t, jk_V x1, jk_V x2] (wd_Text_readNumber cI a_t a_t_bytes a_t_bytes_k i_t_length i_t_kind i_t_start i_t_end i_t_code i_t_offset i_t_bytes) (wd_Text_readNumber cI a_t a_t_bytes a_t_bytes_k i_t_length q.2.1 q.2.2.1 q.2.2.2.1 q.2.2.2.2.1 q.2.2.2.2.2 i_t_bytes) q.1 := by
  intro sz
  refine jk_body (by decide +kernel) (fun p e s m args below meth c hsz hz hin C => ?_) (Nat.le_of_ble_eq_true rfl)
  subst hsz
  unfold fn_Text_readNumber at hf
  have bk_36 : ∀ (n : Nat) (t_kind : Int) (t_start : Int) (t_end : Int) (t_code : Int) (t_offset : Int) (v1 : Int) (v2 : Int) (v3 : Int) (v4 : Int), fn_Text_readNumber_b36 n i_t_bytes t_kind t_start t_end t_code t_offset v1 v2 v3 v4 = some q → jk_J p l e (jk_rm 3 64) s m args below meth c 0 0 (jk_QI below D jk_cl (jk_ty cI cR) (wd_Text_readNumber cI a_t a_t_bytes a_t_bytes_k i_t_length i_t_kind i_t_start i_t_end i_t_code i_t_offset i_t_bytes) (wd_Text_readNumber cI a_t a_t_bytes a_t_bytes_k i_t_length q.2.1 q.2.2.1 q.2.2.2.1 q.2.2.2.2.1 q.2.2.2.2.2 i_t_bytes) args s q.1) D jk_cl (va_A (wd_Text_readNumber cI a_t a_t_bytes a_t_bytes_k i_t_length i_t_kind i_t_start i_t_end i_t_code i_t_offset i_t_bytes) s.heap.size) 5 (wd_Text_readNumber cI a_t a_t_bytes a_t_bytes_k i_t_length t_kind t_start t_end t_code t_offset i_t_bytes) [(0, .ref a_t), (1, jk_V v1), (2, jk_V v2), (3, jk_V v3), (4, jk_V v4)] 36 [] := by
    intro n
    induction n with
    | zero => intro t_kind t_start t_end t_code t_offset v1 v2 v3 v4 hf; exact nomatch (show none = some q from hf)
    | succ n ih =>
      intro t_kind t_start t_end t_code t_offset v1 v2 v3 v4 hf
      rw [fn_Text_readNumber_b36] at hf
      refine jk_iload C rd_Text_readNumber_36 (k := 4) rfl ?_
      refine jk_aload_n C rd_Text_readNumber_38 (k := 0) rfl ?_
      refine jk_get C in_Text (ci := 3) rfl 4 (by decide) tm_70 0 rfl rfl rd_Text_readNumber_39 ?_
      refine jk_icmp_ge (tgt := 69) C rd_Text_readNumber_42 (by decide) hf (fun _ hf => ?_) (fun _ hf => ?_)
      · refine jk_iload_n C rd_Text_readNumber_69 (k := 3) rfl ?_
        refine jk_iload_n C rd_Text_readNumber_70 (k := 1) rfl ?_
        refine jk_icmp_lt (tgt := 79) C rd_Text_readNumber_71 (by decide) hf (fun _ hf => ?_) (fun _ hf => ?_)
        · refine jk_aload_n C rd_Text_readNumber_79 (k := 0) rfl ?_
          refine jk_iconst C rd_Text_readNumber_80 ?_
          obtain ⟨q81, hq81, hf⟩ := jk_bind_h hf
          refine jk_callVv C hZ.1 hz (ct_Text_fail l D Z sq hZ cI cR a_t a_t_bytes i_t_length t_kind t_start t_end t_code t_offset 2 q81 hq81) tm_322 tm_311 tm_312 tm_2 tm_313 na_Text_fail ⟨Nat.le_of_ble_eq_true rfl, Nat.le_of_ble_eq_true rfl⟩ rfl [0] rfl rfl rfl (ws' := wd_Text_readNumber cI a_t a_t_bytes a_t_bytes_k i_t_length t_kind t_start t_end q81.1 q81.2 i_t_bytes) rfl 0 3 rfl rfl rfl (st := []) rfl (Nat.le_of_ble_eq_true rfl) rd_Text_readNumber_81 ?_ ⟨Nat.le_of_ble_eq_true rfl, Nat.le_of_ble_eq_true rfl⟩
          refine jk_iload_n C rd_Text_readNumber_84 (k := 3) rfl ?_
          cases hf
          exact jk_iret C rfl rd_Text_readNumber_85 rfl
        · refine jk_iload_n C rd_Text_readNumber_74 (k := 3) rfl ?_
          refine jk_iload_n C rd_Text_readNumber_75 (k := 2) rfl ?_
          refine jk_icmp_le (tgt := 84) C rd_Text_readNumber_76 (by decide) hf (fun _ hf => ?_) (fun _ hf => ?_)
          · refine jk_iload_n C rd_Text_readNumber_84 (k := 3) rfl ?_
            cases hf
            exact jk_iret C rfl rd_Text_readNumber_85 rfl
          · refine jk_aload_n C rd_Text_readNumber_79 (k := 0) rfl ?_
            refine jk_iconst C rd_Text_readNumber_80 ?_
            obtain ⟨q81, hq81, hf⟩ := jk_bind_h hf
            refine jk_callVv C hZ.1 hz (ct_Text_fail l D Z sq hZ cI cR a_t a_t_bytes i_t_length t_kind t_start t_end t_code t_offset 2 q81 hq81) tm_322 tm_311 tm_312 tm_2 tm_313 na_Text_fail ⟨Nat.le_of_ble_eq_true rfl, Nat.le_of_ble_eq_true rfl⟩ rfl [0] rfl rfl rfl (ws' := wd_Text_readNumber cI a_t a_t_bytes a_t_bytes_k i_t_length t_kind t_start t_end q81.1 q81.2 i_t_bytes) rfl 0 3 rfl rfl rfl (st := []) rfl (Nat.le_of_ble_eq_true rfl) rd_Text_readNumber_81 ?_ ⟨Nat.le_of_ble_eq_true rfl, Nat.le_of_ble_eq_true rfl⟩
            refine jk_iload_n C rd_Text_readNumber_84 (k := 3) rfl ?_
            cases hf
            exact jk_iret C rfl rd_Text_readNumber_85 rfl
      · refine jk_iload_n C rd_Text_readNumber_45 (k := 3) rfl ?_
        refine jk_bipush C rd_Text_readNumber_46 (by decide +kernel) ?_
        refine jk_imul C rd_Text_readNumber_48 ?_
        refine jk_aload_n C rd_Text_readNumber_49 (k := 0) rfl ?_
        refine jk_get C in_Text (ci := 3) rfl 0 (by decide) tm_65 0 rfl rfl rd_Text_readNumber_50 ?_
        refine jk_iload C rd_Text_readNumber_53 (k := 4) rfl ?_
        obtain ⟨q55, hq55, hf⟩ := jk_bind_h hf
        refine jk_callVi C hZ.1 hz (ct_Row_get l D Z sq hZ cI cR (n_t := 700) (Nat.le_of_ble_eq_true rfl) a_t_bytes a_t_bytes_k i_t_bytes v4 q55 hq55) tm_298 tm_299 tm_300 tm_3 tm_301 na_Row_get ⟨Nat.le_of_ble_eq_true rfl, Nat.le_of_ble_eq_true rfl⟩ rfl [1, 2] rfl rfl rfl (ws' := wd_Text_readNumber cI a_t a_t_bytes a_t_bytes_k i_t_length t_kind t_start t_end t_code t_offset i_t_bytes) rfl 1 0 rfl rfl rfl (st := [jk_V (v3 * 10)]) rfl (Nat.le_of_ble_eq_true rfl) rd_Text_readNumber_55 ?_ ⟨Nat.le_of_ble_eq_true rfl, Nat.le_of_ble_eq_true rfl⟩
        refine jk_iadd C rd_Text_readNumber_58 ?_
        refine jk_bipush C rd_Text_readNumber_59 (by decide +kernel) ?_
        refine jk_isub C rd_Text_readNumber_61 ?_
        refine jk_istore_n C rd_Text_readNumber_62 (by decide) (lv' := [(3, jk_V (((v3 * 10) + q55) - 48)), (0, .ref a_t), (1, jk_V v1), (2, jk_V v2), (4, jk_V v4)]) rfl ?_
        refine jk_iinc C rd_Text_readNumber_63 (k := 4) rfl (by decide) (lv' := [(4, jk_V (v4 + 1)), (3, jk_V (((v3 * 10) + q55) - 48)), (0, .ref a_t), (1, jk_V v1), (2, jk_V v2)]) rfl ?_
        refine jk_goto (tgt := 36) C rd_Text_readNumber_66 (by decide) ?_
        refine jk_lv (lv' := [(0, .ref a_t), (1, jk_V v1), (2, jk_V v2), (3, jk_V (((v3 * 10) + q55) - 48)), (4, jk_V (v4 + 1))]) [2, 3, 4, 1, 0] rfl ?_
        exact ih t_kind t_start t_end t_code t_offset v1 v2 (((v3 * 10) + q55) - 48) (v4 + 1) hf
  refine jk_aload_n C rd_Text_readNumber_0 (k := 0) rfl ?_
  obtain ⟨q1, hq1, hf⟩ := jk_bind_h hf
  refine jk_callVi C hZ.1 hz (ct_Text_hasFailed l D Z sq hZ cI cR a_t a_t_bytes i_t_length i_t_kind i_t_start i_t_end i_t_code i_t_offset q1 hq1) tm_286 tm_287 tm_288 tm_2 tm_289 na_Text_hasFailed ⟨Nat.le_of_ble_eq_true rfl, Nat.le_of_ble_eq_true rfl⟩ rfl [0] rfl rfl rfl (ws' := wd_Text_readNumber cI a_t a_t_bytes a_t_bytes_k i_t_length i_t_kind i_t_start i_t_end i_t_code i_t_offset i_t_bytes) rfl 0 3 rfl rfl rfl (st := []) rfl (Nat.le_of_ble_eq_true rfl) rd_Text_readNumber_1 ?_ ⟨Nat.le_of_ble_eq_true rfl, Nat.le_of_ble_eq_true rfl⟩
  refine jk_if_eq (tgt := 9) C rd_Text_readNumber_4 (by decide) hf (fun _ hf => ?_) (fun _ hf => ?_)
  · refine jk_aload_n C rd_Text_readNumber_9 (k := 0) rfl ?_
    obtain ⟨q10, hq10, hf⟩ := jk_bind_h hf
    refine jk_callVv C hZ.1 hz (ct_Text_next l D Z sq hZ cI cR a_t a_t_bytes a_t_bytes_k i_t_length i_t_kind i_t_start i_t_end i_t_code i_t_offset i_t_bytes q10 hq10) tm_290 tm_291 tm_292 tm_2 tm_293 na_Text_next ⟨Nat.le_of_ble_eq_true rfl, Nat.le_of_ble_eq_true rfl⟩ rfl [0, 1, 2] rfl rfl rfl (ws' := wd_Text_readNumber cI a_t a_t_bytes a_t_bytes_k i_t_length q10.1 q10.2.1 q10.2.2 i_t_code i_t_offset i_t_bytes) rfl 0 3 rfl rfl rfl (st := []) rfl (Nat.le_of_ble_eq_true rfl) rd_Text_readNumber_10 ?_ ⟨Nat.le_of_ble_eq_true rfl, Nat.le_of_ble_eq_true rfl⟩
    refine jk_aload_n C rd_Text_readNumber_13 (k := 0) rfl ?_
    refine jk_get C in_Text (ci := 3) rfl 2 (by decide) tm_68 0 rfl rfl rd_Text_readNumber_14 ?_
    refine jk_iconst C rd_Text_readNumber_17 ?_
    refine jk_icmp_eq (tgt := 28) C rd_Text_readNumber_18 (by decide) hf (fun _ hf => ?_) (fun _ hf => ?_)
    · refine jk_iconst C rd_Text_readNumber_28 ?_
      refine jk_istore_n C rd_Text_readNumber_29 (by decide) (lv' := [(3, jk_V 0), (0, .ref a_t), (1, jk_V x1), (2, jk_V x2)]) rfl ?_
      refine jk_aload_n C rd_Text_readNumber_30 (k := 1) rfl ?_
      refine jk_get C in_Text (ci := 3) rfl 3 (by decide) tm_69 0 rfl rfl rd_Text_readNumber_31 ?_
      refine jk_istore C rd_Text_readNumber_34 (by decide) (lv' := [(4, jk_V q10.2.1), (3, jk_V 0), (0, .ref a_t), (1, jk_V x1), (2, jk_V x2)]) rfl ?_
      refine jk_lv (lv' := [(0, .ref a_t), (1, jk_V x1), (2, jk_V x2), (3, jk_V 0), (4, jk_V q10.2.1)]) [2, 3, 4, 1, 0] rfl ?_
      exact bk_36 jk_F q10.1 q10.2.1 q10.2.2 i_t_code i_t_offset x1 x2 0 q10.2.1 hf
    · refine jk_aload_n C rd_Text_readNumber_21 (k := 0) rfl ?_
      refine jk_iconst C rd_Text_readNumber_22 ?_
      obtain ⟨q23, hq23, hf⟩ := jk_bind_h hf
      refine jk_callVv C hZ.1 hz (ct_Text_fail l D Z sq hZ cI cR a_t a_t_bytes i_t_length q10.1 q10.2.1 q10.2.2 i_t_code i_t_offset 1 q23 hq23) tm_322 tm_311 tm_312 tm_2 tm_313 na_Text_fail ⟨Nat.le_of_ble_eq_true rfl, Nat.le_of_ble_eq_true rfl⟩ rfl [0] rfl rfl rfl (ws' := wd_Text_readNumber cI a_t a_t_bytes a_t_bytes_k i_t_length q10.1 q10.2.1 q10.2.2 q23.1 q23.2 i_t_bytes) rfl 0 3 rfl rfl rfl (st := []) rfl (Nat.le_of_ble_eq_true rfl) rd_Text_readNumber_23 ?_ ⟨Nat.le_of_ble_eq_true rfl, Nat.le_of_ble_eq_true rfl⟩
      refine jk_iconst C rd_Text_readNumber_26 ?_
      cases hf
      exact jk_iret C rfl rd_Text_readNumber_27 rfl
  · refine jk_iconst C rd_Text_readNumber_7 ?_
    cases hf
    exact jk_iret C rfl rd_Text_readNumber_8 rfl
def wd_Text_name (cI : ClassId) (a_t a_t_bytes a_t_bytes_k : Nat) (i_t_length : Int) (i_t_kind : Int) (i_t_start : Int) (i_t_end : Int) (i_t_code : Int) (i_t_offset : Int) (i_t_bytes : (Int → Int)) : va_W := [(a_t, .inr (3, [.ref a_t_bytes, jk_V i_t_length, jk_V i_t_kind, jk_V i_t_start, jk_V i_t_end, jk_V i_t_code, jk_V i_t_offset])), (a_t_bytes, .inr (0, [.ref a_t_bytes_k])), (a_t_bytes_k, jk_W cI 700 i_t_bytes)]
set_option maxHeartbeats 4000000 in
set_option maxRecDepth 20000 in
theorem ct_Text_name (l : Launch) (D : va_G) (Z : (Nat → Prop) → State → Heap → Prop) (sq : Nat → Nat) (hZ : jk_ZK Z sq) (cI cR : ClassId) (a_t a_t_bytes a_t_bytes_k : Nat) (i_t_length : Int) (i_t_kind : Int) (i_t_start : Int) (i_t_end : Int) (i_t_code : Int) (i_t_offset : Int) (i_t_bytes : (Int → Int)) (q : Int × Int × Int) (hf : fn_Text_name i_t_bytes i_t_kind i_t_start i_t_end i_t_code i_t_offset = some q) : jk_MI l D jk_cl (jk_ty cI cR) Z mn_Text_name (.code mn_Text_name mb_Text_name 3 (some .int) :: jk_WA) (jk_rm 1 21) [.ref a_t] (wd_Text_name cI a_t a_t_bytes a_t_bytes_k i_t_length i_t_kind i_t_start i_t_end i_t_code i_t_offset i_t_bytes) (wd_Text_name cI a_t a_t_bytes a_t_bytes_k i_t_length i_t_kind i_t_start i_t_end q.2.1 q.2.2 i_t_bytes) q.1 := by
  intro sz
  refine jk_body (by decide +kernel) (fun p e s m args below meth c hsz hz hin C => ?_) (Nat.le_of_ble_eq_true rfl)
  subst hsz
  unfold fn_Text_name at hf
  have bk_38 : ∀ (n : Nat) (t_code : Int) (t_offset : Int) (v1 : Int) (v2 : Int), fn_Text_name_b38 n i_t_bytes i_t_start t_code t_offset v1 v2 = some q → jk_J p l e (jk_rm 1 21) s m args below meth c 0 0 (jk_QI below D jk_cl (jk_ty cI cR) (wd_Text_name cI a_t a_t_bytes a_t_bytes_k i_t_length i_t_kind i_t_start i_t_end i_t_code i_t_offset i_t_bytes) (wd_Text_name cI a_t a_t_bytes a_t_bytes_k i_t_length i_t_kind i_t_start i_t_end q.2.1 q.2.2 i_t_bytes) args s q.1) D jk_cl (va_A (wd_Text_name cI a_t a_t_bytes a_t_bytes_k i_t_length i_t_kind i_t_start i_t_end i_t_code i_t_offset i_t_bytes) s.heap.size) 3 (wd_Text_name cI a_t a_t_bytes a_t_bytes_k i_t_length i_t_kind i_t_start i_t_end t_code t_offset i_t_bytes) [(0, .ref a_t), (1, jk_V v1), (2, jk_V v2)] 38 [] := by
    intro n
    induction n with
    | zero => intro t_code t_offset v1 v2 hf; exact nomatch (show none = some q from hf)
    | succ n ih =>
      intro t_code t_offset v1 v2 hf
      rw [fn_Text_name_b38] at hf
      refine jk_iload_n C rd_Text_name_38 (k := 2) rfl ?_
      refine jk_aload_n C rd_Text_name_39 (k := 0) rfl ?_
      refine jk_get C in_Text (ci := 3) rfl 3 (by decide) tm_69 0 rfl rfl rd_Text_name_40 ?_
      refine jk_icmp_lt (tgt := 70) C rd_Text_name_43 (by decide) hf (fun _ hf => ?_) (fun _ hf => ?_)
      · refine jk_iload_n C rd_Text_name_70 (k := 1) rfl ?_
        cases hf
        exact jk_iret C rfl rd_Text_name_71 rfl
      · refine jk_iload_n C rd_Text_name_46 (k := 1) rfl ?_
        refine jk_iconst C rd_Text_name_47 ?_
        refine jk_ishl C rd_Text_name_48 ?_
        refine jk_aload_n C rd_Text_name_49 (k := 0) rfl ?_
        refine jk_get C in_Text (ci := 3) rfl 0 (by decide) tm_65 0 rfl rfl rd_Text_name_50 ?_
        refine jk_iload_n C rd_Text_name_53 (k := 2) rfl ?_
        obtain ⟨q54, hq54, hf⟩ := jk_bind_h hf
        refine jk_callVi C hZ.1 hz (ct_Row_get l D Z sq hZ cI cR (n_t := 700) (Nat.le_of_ble_eq_true rfl) a_t_bytes a_t_bytes_k i_t_bytes v2 q54 hq54) tm_298 tm_299 tm_300 tm_3 tm_301 na_Row_get ⟨Nat.le_of_ble_eq_true rfl, Nat.le_of_ble_eq_true rfl⟩ rfl [1, 2] rfl rfl rfl (ws' := wd_Text_name cI a_t a_t_bytes a_t_bytes_k i_t_length i_t_kind i_t_start i_t_end t_code t_offset i_t_bytes) rfl 1 0 rfl rfl rfl (st := [jk_V (jk_shl v1 5)]) rfl (Nat.le_of_ble_eq_true rfl) rd_Text_name_54 ?_ ⟨Nat.le_of_ble_eq_true rfl, Nat.le_of_ble_eq_true rfl⟩
        refine jk_bipush C rd_Text_name_57 (by decide +kernel) ?_
        refine jk_isub C rd_Text_name_59 ?_
        refine jk_iconst C rd_Text_name_60 ?_
        refine jk_iadd C rd_Text_name_61 ?_
        refine jk_ior C rd_Text_name_62 ?_
        refine jk_istore_n C rd_Text_name_63 (by decide) (lv' := [(1, jk_V (jk_or (jk_shl v1 5) ((q54 - 97) + 1))), (0, .ref a_t), (2, jk_V v2)]) rfl ?_
        refine jk_iinc C rd_Text_name_64 (k := 2) rfl (by decide) (lv' := [(2, jk_V (v2 + (-1))), (1, jk_V (jk_or (jk_shl v1 5) ((q54 - 97) + 1))), (0, .ref a_t)]) rfl ?_
        refine jk_goto (tgt := 38) C rd_Text_name_67 (by decide) ?_
        refine jk_lv (lv' := [(0, .ref a_t), (1, jk_V (jk_or (jk_shl v1 5) ((q54 - 97) + 1))), (2, jk_V (v2 + (-1)))]) [2, 1, 0] rfl ?_
        exact ih t_code t_offset (jk_or (jk_shl v1 5) ((q54 - 97) + 1)) (v2 + (-1)) hf
  refine jk_aload_n C rd_Text_name_0 (k := 0) rfl ?_
  refine jk_get C in_Text (ci := 3) rfl 2 (by decide) tm_68 0 rfl rfl rd_Text_name_1 ?_
  refine jk_iconst C rd_Text_name_4 ?_
  refine jk_icmp_ne (tgt := 22) C rd_Text_name_5 (by decide) hf (fun _ hf => ?_) (fun _ hf => ?_)
  · refine jk_aload_n C rd_Text_name_22 (k := 0) rfl ?_
    refine jk_iconst C rd_Text_name_23 ?_
    obtain ⟨q24, hq24, hf⟩ := jk_bind_h hf
    refine jk_callVv C hZ.1 hz (ct_Text_fail l D Z sq hZ cI cR a_t a_t_bytes i_t_length i_t_kind i_t_start i_t_end i_t_code i_t_offset 1 q24 hq24) tm_322 tm_311 tm_312 tm_2 tm_313 na_Text_fail ⟨Nat.le_of_ble_eq_true rfl, Nat.le_of_ble_eq_true rfl⟩ rfl [0] rfl rfl rfl (ws' := wd_Text_name cI a_t a_t_bytes a_t_bytes_k i_t_length i_t_kind i_t_start i_t_end q24.1 q24.2 i_t_bytes) rfl 0 3 rfl rfl rfl (st := []) rfl (Nat.le_of_ble_eq_true rfl) rd_Text_name_24 ?_ ⟨Nat.le_of_ble_eq_true rfl, Nat.le_of_ble_eq_true rfl⟩
    refine jk_iconst C rd_Text_name_27 ?_
    cases hf
    exact jk_iret C rfl rd_Text_name_28 rfl
  · refine jk_aload_n C rd_Text_name_8 (k := 0) rfl ?_
    refine jk_get C in_Text (ci := 3) rfl 4 (by decide) tm_70 0 rfl rfl rd_Text_name_9 ?_
    refine jk_aload_n C rd_Text_name_12 (k := 0) rfl ?_
    refine jk_get C in_Text (ci := 3) rfl 3 (by decide) tm_69 0 rfl rfl rd_Text_name_13 ?_
    refine jk_isub C rd_Text_name_16 ?_
    refine jk_bipush C rd_Text_name_17 (by decide +kernel) ?_
    refine jk_icmp_le (tgt := 29) C rd_Text_name_19 (by decide) hf (fun _ hf => ?_) (fun _ hf => ?_)
    · refine jk_iconst C rd_Text_name_29 ?_
      refine jk_istore_n C rd_Text_name_30 (by decide) (lv' := [(1, jk_V 0), (0, .ref a_t)]) rfl ?_
      refine jk_aload_n C rd_Text_name_31 (k := 1) rfl ?_
      refine jk_get C in_Text (ci := 3) rfl 4 (by decide) tm_70 0 rfl rfl rd_Text_name_32 ?_
      refine jk_iconst C rd_Text_name_35 ?_
      refine jk_isub C rd_Text_name_36 ?_
      refine jk_istore_n C rd_Text_name_37 (by decide) (lv' := [(2, jk_V (i_t_end - 1)), (1, jk_V 0), (0, .ref a_t)]) rfl ?_
      refine jk_lv (lv' := [(0, .ref a_t), (1, jk_V 0), (2, jk_V (i_t_end - 1))]) [2, 1, 0] rfl ?_
      exact bk_38 jk_F i_t_code i_t_offset 0 (i_t_end - 1) hf
    · refine jk_aload_n C rd_Text_name_22 (k := 0) rfl ?_
      refine jk_iconst C rd_Text_name_23 ?_
      obtain ⟨q24, hq24, hf⟩ := jk_bind_h hf
      refine jk_callVv C hZ.1 hz (ct_Text_fail l D Z sq hZ cI cR a_t a_t_bytes i_t_length i_t_kind i_t_start i_t_end i_t_code i_t_offset 1 q24 hq24) tm_322 tm_311 tm_312 tm_2 tm_313 na_Text_fail ⟨Nat.le_of_ble_eq_true rfl, Nat.le_of_ble_eq_true rfl⟩ rfl [0] rfl rfl rfl (ws' := wd_Text_name cI a_t a_t_bytes a_t_bytes_k i_t_length i_t_kind i_t_start i_t_end q24.1 q24.2 i_t_bytes) rfl 0 3 rfl rfl rfl (st := []) rfl (Nat.le_of_ble_eq_true rfl) rd_Text_name_24 ?_ ⟨Nat.le_of_ble_eq_true rfl, Nat.le_of_ble_eq_true rfl⟩
      refine jk_iconst C rd_Text_name_27 ?_
      cases hf
      exact jk_iret C rfl rd_Text_name_28 rfl
def wd_Topics_find (cI : ClassId) (a_t a_t_names a_t_names_k : Nat) (i_t_size : Int) (i_t_names : (Int → Int)) : va_W := [(a_t, .inr (2, [jk_V i_t_size, .ref a_t_names])), (a_t_names, .inr (0, [.ref a_t_names_k])), (a_t_names_k, jk_W cI 8 i_t_names)]
set_option maxHeartbeats 4000000 in
set_option maxRecDepth 20000 in
theorem ct_Topics_find (l : Launch) (D : va_G) (Z : (Nat → Prop) → State → Heap → Prop) (sq : Nat → Nat) (hZ : jk_ZK Z sq) (cI cR : ClassId) (a_t a_t_names a_t_names_k : Nat) (i_t_size : Int) (i_t_names : (Int → Int)) (x1 : Int) (q : Int) (hf : fn_Topics_find i_t_size i_t_names x1 = some q) : jk_MI l D jk_cl (jk_ty cI cR) Z mn_Topics_find (.code mn_Topics_find mb_Topics_find 3 (some .int) :: jk_WA) (jk_rm 1 21) [.ref a_t, jk_V x1] (wd_Topics_find cI a_t a_t_names a_t_names_k i_t_size i_t_names) (wd_Topics_find cI a_t a_t_names a_t_names_k i_t_size i_t_names) q := by
  intro sz
  refine jk_body (by decide +kernel) (fun p e s m args below meth c hsz hz hin C => ?_) (Nat.le_of_ble_eq_true rfl)
  subst hsz
  unfold fn_Topics_find at hf
  have bk_2 : ∀ (n : Nat) (v1 : Int) (v2 : Int), fn_Topics_find_b2 n i_t_size i_t_names v1 v2 = some q → jk_J p l e (jk_rm 1 21) s m args below meth c 0 0 (jk_QI below D jk_cl (jk_ty cI cR) (wd_Topics_find cI a_t a_t_names a_t_names_k i_t_size i_t_names) (wd_Topics_find cI a_t a_t_names a_t_names_k i_t_size i_t_names) args s q) D jk_cl (va_A (wd_Topics_find cI a_t a_t_names a_t_names_k i_t_size i_t_names) s.heap.size) 3 (wd_Topics_find cI a_t a_t_names a_t_names_k i_t_size i_t_names) [(0, .ref a_t), (1, jk_V v1), (2, jk_V v2)] 2 [] := by
    intro n
    induction n with
    | zero => intro v1 v2 hf; exact nomatch (show none = some q from hf)
    | succ n ih =>
      intro v1 v2 hf
      rw [fn_Topics_find_b2] at hf
      refine jk_iload_n C rd_Topics_find_2 (k := 2) rfl ?_
      refine jk_aload_n C rd_Topics_find_3 (k := 0) rfl ?_
      refine jk_get C in_Topics (ci := 2) rfl 0 (by decide) tm_113 0 rfl rfl rd_Topics_find_4 ?_
      refine jk_icmp_ge (tgt := 30) C rd_Topics_find_7 (by decide) hf (fun _ hf => ?_) (fun _ hf => ?_)
      · refine jk_iconst C rd_Topics_find_30 ?_
        cases hf
        exact jk_iret C rfl rd_Topics_find_31 rfl
      · refine jk_aload_n C rd_Topics_find_10 (k := 0) rfl ?_
        refine jk_get C in_Topics (ci := 2) rfl 1 (by decide) tm_115 0 rfl rfl rd_Topics_find_11 ?_
        refine jk_iload_n C rd_Topics_find_14 (k := 2) rfl ?_
        obtain ⟨q15, hq15, hf⟩ := jk_bind_h hf
        refine jk_callVi C hZ.1 hz (ct_Row_get l D Z sq hZ cI cR (n_t := 8) (Nat.le_of_ble_eq_true rfl) a_t_names a_t_names_k i_t_names v2 q15 hq15) tm_327 tm_299 tm_300 tm_3 tm_301 na_Row_get ⟨Nat.le_of_ble_eq_true rfl, Nat.le_of_ble_eq_true rfl⟩ rfl [1, 2] rfl rfl rfl (ws' := wd_Topics_find cI a_t a_t_names a_t_names_k i_t_size i_t_names) rfl 1 0 rfl rfl rfl (st := []) rfl (Nat.le_of_ble_eq_true rfl) rd_Topics_find_15 ?_ ⟨Nat.le_of_ble_eq_true rfl, Nat.le_of_ble_eq_true rfl⟩
        refine jk_iload_n C rd_Topics_find_18 (k := 1) rfl ?_
        refine jk_icmp_ne (tgt := 24) C rd_Topics_find_19 (by decide) hf (fun _ hf => ?_) (fun _ hf => ?_)
        · refine jk_iinc C rd_Topics_find_24 (k := 2) rfl (by decide) (lv' := [(2, jk_V (v2 + 1)), (0, .ref a_t), (1, jk_V v1)]) rfl ?_
          refine jk_goto (tgt := 2) C rd_Topics_find_27 (by decide) ?_
          refine jk_lv (lv' := [(0, .ref a_t), (1, jk_V v1), (2, jk_V (v2 + 1))]) [1, 2, 0] rfl ?_
          exact ih v1 (v2 + 1) hf
        · refine jk_iload_n C rd_Topics_find_22 (k := 2) rfl ?_
          cases hf
          exact jk_iret C rfl rd_Topics_find_23 rfl
  refine jk_iconst C rd_Topics_find_0 ?_
  refine jk_istore_n C rd_Topics_find_1 (by decide) (lv' := [(2, jk_V 0), (0, .ref a_t), (1, jk_V x1)]) rfl ?_
  refine jk_lv (lv' := [(0, .ref a_t), (1, jk_V x1), (2, jk_V 0)]) [1, 2, 0] rfl ?_
  exact bk_2 jk_F x1 0 hf
def wd_Text_readTopic (cI : ClassId) (a_t a_t_bytes a_t_bytes_k a_a a_a_names a_a_names_k : Nat) (i_t_length : Int) (i_t_kind : Int) (i_t_start : Int) (i_t_end : Int) (i_t_code : Int) (i_t_offset : Int) (i_t_bytes : (Int → Int)) (i_a_size : Int) (i_a_names : (Int → Int)) : va_W := [(a_t, .inr (3, [.ref a_t_bytes, jk_V i_t_length, jk_V i_t_kind, jk_V i_t_start, jk_V i_t_end, jk_V i_t_code, jk_V i_t_offset])), (a_t_bytes, .inr (0, [.ref a_t_bytes_k])), (a_t_bytes_k, jk_W cI 700 i_t_bytes), (a_a, .inr (2, [jk_V i_a_size, .ref a_a_names])), (a_a_names, .inr (0, [.ref a_a_names_k])), (a_a_names_k, jk_W cI 8 i_a_names)]
set_option maxHeartbeats 4000000 in
set_option maxRecDepth 20000 in
theorem ct_Text_readTopic (l : Launch) (D : va_G) (Z : (Nat → Prop) → State → Heap → Prop) (sq : Nat → Nat) (hZ : jk_ZK Z sq) (cI cR : ClassId) (a_t a_t_bytes a_t_bytes_k a_a a_a_names a_a_names_k : Nat) (i_t_length : Int) (i_t_kind : Int) (i_t_start : Int) (i_t_end : Int) (i_t_code : Int) (i_t_offset : Int) (i_t_bytes : (Int → Int)) (i_a_size : Int) (i_a_names : (Int → Int)) (q : Int × Int × Int × Int × Int × Int) (hf : fn_Text_readTopic i_t_bytes i_t_length i_t_kind i_t_start i_t_end i_t_code i_t_offset i_a_size i_a_names = some q) : jk_MI l D jk_cl (jk_ty cI cR) Z mn_Text_readTopic (.code mn_Text_readTopic mb_Text_readTopic 3 (some .int) :: jk_WA) (jk_rm 3 64) [.ref a_t, .ref a_a] (wd_Text_readTopic cI a_t a_t_bytes a_t_bytes_k a_a a_a_names a_a_names_k i_t_length i_t_kind i_t_start i_t_end i_t_code i_t_offset i_t_bytes i_a_size i_a_names) (wd_Text_readTopic cI a_t a_t_bytes a_t_bytes_k a_a a_a_names a_a_names_k i_t_length q.2.1 q.2.2.1 q.2.2.2.1 q.2.2.2.2.1 q.2.2.2.2.2 i_t_bytes i_a_size i_a_names) q.1 := by
  intro sz
  refine jk_body (by decide +kernel) (fun p e s m args below meth c hsz hz hin C => ?_) (Nat.le_of_ble_eq_true rfl)
  subst hsz
  unfold fn_Text_readTopic at hf
  refine jk_aload_n C rd_Text_readTopic_0 (k := 0) rfl ?_
  obtain ⟨q1, hq1, hf⟩ := jk_bind_h hf
  refine jk_callVi C hZ.1 hz (ct_Text_hasFailed l D Z sq hZ cI cR a_t a_t_bytes i_t_length i_t_kind i_t_start i_t_end i_t_code i_t_offset q1 hq1) tm_286 tm_287 tm_288 tm_2 tm_289 na_Text_hasFailed ⟨Nat.le_of_ble_eq_true rfl, Nat.le_of_ble_eq_true rfl⟩ rfl [0] rfl rfl rfl (ws' := wd_Text_readTopic cI a_t a_t_bytes a_t_bytes_k a_a a_a_names a_a_names_k i_t_length i_t_kind i_t_start i_t_end i_t_code i_t_offset i_t_bytes i_a_size i_a_names) rfl 0 3 rfl rfl rfl (st := []) rfl (Nat.le_of_ble_eq_true rfl) rd_Text_readTopic_1 ?_ ⟨Nat.le_of_ble_eq_true rfl, Nat.le_of_ble_eq_true rfl⟩
  refine jk_if_eq (tgt := 9) C rd_Text_readTopic_4 (by decide) hf (fun _ hf => ?_) (fun _ hf => ?_)
  · refine jk_aload_n C rd_Text_readTopic_9 (k := 0) rfl ?_
    obtain ⟨q10, hq10, hf⟩ := jk_bind_h hf
    refine jk_callVv C hZ.1 hz (ct_Text_next l D Z sq hZ cI cR a_t a_t_bytes a_t_bytes_k i_t_length i_t_kind i_t_start i_t_end i_t_code i_t_offset i_t_bytes q10 hq10) tm_290 tm_291 tm_292 tm_2 tm_293 na_Text_next ⟨Nat.le_of_ble_eq_true rfl, Nat.le_of_ble_eq_true rfl⟩ rfl [0, 1, 2] rfl rfl rfl (ws' := wd_Text_readTopic cI a_t a_t_bytes a_t_bytes_k a_a a_a_names a_a_names_k i_t_length q10.1 q10.2.1 q10.2.2 i_t_code i_t_offset i_t_bytes i_a_size i_a_names) rfl 0 3 rfl rfl rfl (st := []) rfl (Nat.le_of_ble_eq_true rfl) rd_Text_readTopic_10 ?_ ⟨Nat.le_of_ble_eq_true rfl, Nat.le_of_ble_eq_true rfl⟩
    refine jk_aload_n C rd_Text_readTopic_13 (k := 1) rfl ?_
    refine jk_aload_n C rd_Text_readTopic_14 (k := 0) rfl ?_
    obtain ⟨q15, hq15, hf⟩ := jk_bind_h hf
    refine jk_callVi C hZ.1 hz (ct_Text_name l D Z sq hZ cI cR a_t a_t_bytes a_t_bytes_k i_t_length q10.1 q10.2.1 q10.2.2 i_t_code i_t_offset i_t_bytes q15 hq15) tm_318 tm_320 sl_2 tm_2 tm_321 na_Text_name ⟨Nat.le_of_ble_eq_true rfl, Nat.le_of_ble_eq_true rfl⟩ rfl [0, 1, 2] rfl rfl rfl (ws' := wd_Text_readTopic cI a_t a_t_bytes a_t_bytes_k a_a a_a_names a_a_names_k i_t_length q10.1 q10.2.1 q10.2.2 q15.2.1 q15.2.2 i_t_bytes i_a_size i_a_names) rfl 0 3 rfl rfl rfl (st := [.ref a_a]) rfl (Nat.le_of_ble_eq_true rfl) rd_Text_readTopic_15 ?_ ⟨Nat.le_of_ble_eq_true rfl, Nat.le_of_ble_eq_true rfl⟩
    obtain ⟨q18, hq18, hf⟩ := jk_bind_h hf
    refine jk_callVi C hZ.1 hz (ct_Topics_find l D Z sq hZ cI cR a_a a_a_names a_a_names_k i_a_size i_a_names q15.1 q18 hq18) tm_323 tm_324 tm_325 tm_5 tm_326 na_Topics_find ⟨Nat.le_of_ble_eq_true rfl, Nat.le_of_ble_eq_true rfl⟩ rfl [3, 4, 5] rfl rfl rfl (ws' := wd_Text_readTopic cI a_t a_t_bytes a_t_bytes_k a_a a_a_names a_a_names_k i_t_length q10.1 q10.2.1 q10.2.2 q15.2.1 q15.2.2 i_t_bytes i_a_size i_a_names) rfl 3 2 rfl rfl rfl (st := []) rfl (Nat.le_of_ble_eq_true rfl) rd_Text_readTopic_18 ?_ ⟨Nat.le_of_ble_eq_true rfl, Nat.le_of_ble_eq_true rfl⟩
    refine jk_istore_n C rd_Text_readTopic_21 (by decide) (lv' := [(2, jk_V q18), (0, .ref a_t), (1, .ref a_a)]) rfl ?_
    refine jk_iload_n C rd_Text_readTopic_22 (k := 0) rfl ?_
    refine jk_iconst C rd_Text_readTopic_23 ?_
    refine jk_icmp_ne (tgt := 32) C rd_Text_readTopic_24 (by decide) hf (fun _ hf => ?_) (fun _ hf => ?_)
    · refine jk_iload_n C rd_Text_readTopic_32 (k := 0) rfl ?_
      cases hf
      exact jk_iret C rfl rd_Text_readTopic_33 rfl
    · refine jk_aload_n C rd_Text_readTopic_27 (k := 1) rfl ?_
      refine jk_iconst C rd_Text_readTopic_28 ?_
      obtain ⟨q29, hq29, hf⟩ := jk_bind_h hf
      refine jk_callVv C hZ.1 hz (ct_Text_fail l D Z sq hZ cI cR a_t a_t_bytes i_t_length q10.1 q10.2.1 q10.2.2 q15.2.1 q15.2.2 4 q29 hq29) tm_322 tm_311 tm_312 tm_2 tm_313 na_Text_fail ⟨Nat.le_of_ble_eq_true rfl, Nat.le_of_ble_eq_true rfl⟩ rfl [0] rfl rfl rfl (ws' := wd_Text_readTopic cI a_t a_t_bytes a_t_bytes_k a_a a_a_names a_a_names_k i_t_length q10.1 q10.2.1 q10.2.2 q29.1 q29.2 i_t_bytes i_a_size i_a_names) rfl 0 3 rfl rfl rfl (st := []) rfl (Nat.le_of_ble_eq_true rfl) rd_Text_readTopic_29 ?_ ⟨Nat.le_of_ble_eq_true rfl, Nat.le_of_ble_eq_true rfl⟩
      refine jk_iload_n C rd_Text_readTopic_32 (k := 0) rfl ?_
      cases hf
      exact jk_iret C rfl rd_Text_readTopic_33 rfl
  · refine jk_iconst C rd_Text_readTopic_7 ?_
    cases hf
    exact jk_iret C rfl rd_Text_readTopic_8 rfl
def wd_Text_takesWord (cI : ClassId) (a_t a_t_bytes a_t_bytes_k : Nat) (i_t_length : Int) (i_t_kind : Int) (i_t_start : Int) (i_t_end : Int) (i_t_code : Int) (i_t_offset : Int) (i_t_bytes : (Int → Int)) : va_W := [(a_t, .inr (3, [.ref a_t_bytes, jk_V i_t_length, jk_V i_t_kind, jk_V i_t_start, jk_V i_t_end, jk_V i_t_code, jk_V i_t_offset])), (a_t_bytes, .inr (0, [.ref a_t_bytes_k])), (a_t_bytes_k, jk_W cI 700 i_t_bytes)]
set_option maxHeartbeats 4000000 in
set_option maxRecDepth 20000 in
theorem ct_Text_takesWord (l : Launch) (D : va_G) (Z : (Nat → Prop) → State → Heap → Prop) (sq : Nat → Nat) (hZ : jk_ZK Z sq) (cI cR : ClassId) (a_t a_t_bytes a_t_bytes_k : Nat) (i_t_length : Int) (i_t_kind : Int) (i_t_start : Int) (i_t_end : Int) (i_t_code : Int) (i_t_offset : Int) (i_t_bytes : (Int → Int)) (i_x1 : List Int) (q_i_x1 : Nat) (hq_i_x1 : jk_St Z q_i_x1 i_x1) (q : Int × Int × Int × Int) (hf : fn_Text_takesWord i_t_bytes i_t_length i_t_kind i_t_start i_t_end i_t_code i_x1 = some q) : jk_MI l D jk_cl (jk_ty cI cR) Z mn_Text_takesWord (.code mn_Text_takesWord mb_Text_takesWord 2 (some .boolean) :: jk_WA) (jk_rm 7 322) [.ref a_t, .ref q_i_x1] (wd_Text_takesWord cI a_t a_t_bytes a_t_bytes_k i_t_length i_t_kind i_t_start i_t_end i_t_code i_t_offset i_t_bytes) (wd_Text_takesWord cI a_t a_t_bytes a_t_bytes_k i_t_length q.2.1 q.2.2.1 q.2.2.2 i_t_code i_t_offset i_t_bytes) q.1 := by
  intro sz
  refine jk_body (by decide +kernel) (fun p e s m args below meth c hsz hz hin C => ?_) (Nat.le_of_ble_eq_true rfl)
  subst hsz
  unfold fn_Text_takesWord at hf
  refine jk_aload_n C rd_Text_takesWord_0 (k := 0) rfl ?_
  obtain ⟨q1, hq1, hf⟩ := jk_bind_h hf
  refine jk_callVi C hZ.1 hz (ct_Text_hasFailed l D Z sq hZ cI cR a_t a_t_bytes i_t_length i_t_kind i_t_start i_t_end i_t_code i_t_offset q1 hq1) tm_286 tm_287 tm_288 tm_2 tm_289 na_Text_hasFailed ⟨Nat.le_of_ble_eq_true rfl, Nat.le_of_ble_eq_true rfl⟩ rfl [0] rfl rfl rfl (ws' := wd_Text_takesWord cI a_t a_t_bytes a_t_bytes_k i_t_length i_t_kind i_t_start i_t_end i_t_code i_t_offset i_t_bytes) rfl 0 3 rfl rfl rfl (st := []) rfl (Nat.le_of_ble_eq_true rfl) rd_Text_takesWord_1 ?_ ⟨Nat.le_of_ble_eq_true rfl, Nat.le_of_ble_eq_true rfl⟩
  refine jk_if_eq (tgt := 9) C rd_Text_takesWord_4 (by decide) hf (fun _ hf => ?_) (fun _ hf => ?_)
  · refine jk_aload_n C rd_Text_takesWord_9 (k := 0) rfl ?_
    obtain ⟨q10, hq10, hf⟩ := jk_bind_h hf
    refine jk_callVv C hZ.1 hz (ct_Text_next l D Z sq hZ cI cR a_t a_t_bytes a_t_bytes_k i_t_length i_t_kind i_t_start i_t_end i_t_code i_t_offset i_t_bytes q10 hq10) tm_290 tm_291 tm_292 tm_2 tm_293 na_Text_next ⟨Nat.le_of_ble_eq_true rfl, Nat.le_of_ble_eq_true rfl⟩ rfl [0, 1, 2] rfl rfl rfl (ws' := wd_Text_takesWord cI a_t a_t_bytes a_t_bytes_k i_t_length q10.1 q10.2.1 q10.2.2 i_t_code i_t_offset i_t_bytes) rfl 0 3 rfl rfl rfl (st := []) rfl (Nat.le_of_ble_eq_true rfl) rd_Text_takesWord_10 ?_ ⟨Nat.le_of_ble_eq_true rfl, Nat.le_of_ble_eq_true rfl⟩
    refine jk_aload_n C rd_Text_takesWord_13 (k := 0) rfl ?_
    refine jk_aload_n C rd_Text_takesWord_14 (k := 1) rfl ?_
    obtain ⟨q15, hq15, hf⟩ := jk_bind_h hf
    refine jk_callVi C hZ.1 hz (ct_Text_isWord l D Z sq hZ cI cR a_t a_t_bytes a_t_bytes_k i_t_length q10.1 q10.2.1 q10.2.2 i_t_code i_t_offset i_t_bytes i_x1 q_i_x1 hq_i_x1 q15 hq15) tm_392 tm_304 tm_305 tm_2 tm_306 na_Text_isWord ⟨Nat.le_of_ble_eq_true rfl, Nat.le_of_ble_eq_true rfl⟩ rfl [0, 1, 2] rfl rfl rfl (ws' := wd_Text_takesWord cI a_t a_t_bytes a_t_bytes_k i_t_length q10.1 q10.2.1 q10.2.2 i_t_code i_t_offset i_t_bytes) rfl 0 3 rfl rfl rfl (st := []) rfl (Nat.le_of_ble_eq_true rfl) rd_Text_takesWord_15 ?_ ⟨Nat.le_of_ble_eq_true rfl, Nat.le_of_ble_eq_true rfl⟩
    refine jk_if_eq (tgt := 23) C rd_Text_takesWord_18 (by decide) hf (fun _ hf => ?_) (fun _ hf => ?_)
    · refine jk_aload_n C rd_Text_takesWord_23 (k := 0) rfl ?_
      refine jk_aload_n C rd_Text_takesWord_24 (k := 0) rfl ?_
      refine jk_get C in_Text (ci := 3) rfl 3 (by decide) tm_69 0 rfl rfl rd_Text_takesWord_25 ?_
      refine jk_putf C in_Text ty_Text nm_Text (ci := 3) rfl 4 (by decide) tm_70 rfl rfl rfl 0 rfl (Nat.le_of_ble_eq_true rfl) rd_Text_takesWord_28 (ws' := wd_Text_takesWord cI a_t a_t_bytes a_t_bytes_k i_t_length q10.1 q10.2.1 q10.2.1 i_t_code i_t_offset i_t_bytes) rfl ?_
      refine jk_iconst C rd_Text_takesWord_31 ?_
      cases hf
      exact jk_zret C (Or.inl rfl) rfl rd_Text_takesWord_32 rfl
    · refine jk_iconst C rd_Text_takesWord_21 ?_
      cases hf
      exact jk_zret C (Or.inr rfl) rfl rd_Text_takesWord_22 rfl
  · refine jk_iconst C rd_Text_takesWord_7 ?_
    cases hf
    exact jk_zret C (Or.inl rfl) rfl rd_Text_takesWord_8 rfl
def wd_Setup_readCord (cI : ClassId) (a_a a_a_bytes a_a_bytes_k a_b a_b_names a_b_names_k a_c a_c_starts a_c_depth a_c_topic a_c_value a_c_nibbled a_c_starts_k a_c_depth_k a_c_topic_k a_c_value_k a_c_nibbled_k : Nat) (i_a_length : Int) (i_a_kind : Int) (i_a_start : Int) (i_a_end : Int) (i_a_code : Int) (i_a_offset : Int) (i_a_bytes : (Int → Int)) (i_b_size : Int) (i_b_names : (Int → Int)) (i_c_clusters : Int) (i_c_size : Int) (i_c_starts : (Int → Int)) (i_c_depth : (Int → Int)) (i_c_topic : (Int → Int)) (i_c_value : (Int → Int)) (i_c_nibbled : (Int → Int)) : va_W := [(a_a, .inr (3, [.ref a_a_bytes, jk_V i_a_length, jk_V i_a_kind, jk_V i_a_start, jk_V i_a_end, jk_V i_a_code, jk_V i_a_offset])), (a_a_bytes, .inr (0, [.ref a_a_bytes_k])), (a_a_bytes_k, jk_W cI 700 i_a_bytes), (a_b, .inr (2, [jk_V i_b_size, .ref a_b_names])), (a_b_names, .inr (0, [.ref a_b_names_k])), (a_b_names_k, jk_W cI 8 i_b_names), (a_c, .inr (5, [jk_V i_c_clusters, jk_V i_c_size, .ref a_c_starts, .ref a_c_depth, .ref a_c_topic, .ref a_c_value, .ref a_c_nibbled])), (a_c_starts, .inr (0, [.ref a_c_starts_k])), (a_c_starts_k, jk_W cI 7 i_c_starts), (a_c_depth, .inr (0, [.ref a_c_depth_k])), (a_c_depth_k, jk_W cI 40 i_c_depth), (a_c_topic, .inr (0, [.ref a_c_topic_k])), (a_c_topic_k, jk_W cI 40 i_c_topic), (a_c_value, .inr (0, [.ref a_c_value_k])), (a_c_value_k, jk_W cI 40 i_c_value), (a_c_nibbled, .inr (0, [.ref a_c_nibbled_k])), (a_c_nibbled_k, jk_W cI 40 i_c_nibbled)]
set_option maxHeartbeats 4000000 in
set_option maxRecDepth 20000 in
theorem ct_Setup_readCord (l : Launch) (D : va_G) (Z : (Nat → Prop) → State → Heap → Prop) (sq : Nat → Nat) (hZ : jk_ZK Z sq) (cI cR : ClassId) (a_a a_a_bytes a_a_bytes_k a_b a_b_names a_b_names_k a_c a_c_starts a_c_depth a_c_topic a_c_value a_c_nibbled a_c_starts_k a_c_depth_k a_c_topic_k a_c_value_k a_c_nibbled_k : Nat) (i_a_length : Int) (i_a_kind : Int) (i_a_start : Int) (i_a_end : Int) (i_a_code : Int) (i_a_offset : Int) (i_a_bytes : (Int → Int)) (i_b_size : Int) (i_b_names : (Int → Int)) (i_c_clusters : Int) (i_c_size : Int) (i_c_starts : (Int → Int)) (i_c_depth : (Int → Int)) (i_c_topic : (Int → Int)) (i_c_value : (Int → Int)) (i_c_nibbled : (Int → Int)) (q : Int × Int × Int × Int × Int × Int × (Int → Int) × (Int → Int) × (Int → Int) × (Int → Int) × (Int → Int)) (hf : fn_Setup_readCord i_a_bytes i_a_length i_a_kind i_a_start i_a_end i_a_code i_a_offset i_b_size i_b_names i_c_clusters i_c_size i_c_starts i_c_depth i_c_topic i_c_value i_c_nibbled = some q) : jk_MV l D jk_cl (jk_ty cI cR) Z mn_Setup_readCord (.code mn_Setup_readCord mb_Setup_readCord 8 none :: jk_WA) (jk_rm 8 344) [.ref a_a, .ref a_b, .ref a_c] (wd_Setup_readCord cI a_a a_a_bytes a_a_bytes_k a_b a_b_names a_b_names_k a_c a_c_starts a_c_depth a_c_topic a_c_value a_c_nibbled a_c_starts_k a_c_depth_k a_c_topic_k a_c_value_k a_c_nibbled_k i_a_length i_a_kind i_a_start i_a_end i_a_code i_a_offset i_a_bytes i_b_size i_b_names i_c_clusters i_c_size i_c_starts i_c_depth i_c_topic i_c_value i_c_nibbled) (wd_Setup_readCord cI a_a a_a_bytes a_a_bytes_k a_b a_b_names a_b_names_k a_c a_c_starts a_c_depth a_c_topic a_c_value a_c_nibbled a_c_starts_k a_c_depth_k a_c_topic_k a_c_value_k a_c_nibbled_k i_a_length q.1 q.2.1 q.2.2.1 q.2.2.2.1 q.2.2.2.2.1 i_a_bytes i_b_size i_b_names i_c_clusters q.2.2.2.2.2.1 q.2.2.2.2.2.2.1 q.2.2.2.2.2.2.2.1 q.2.2.2.2.2.2.2.2.1 q.2.2.2.2.2.2.2.2.2.1 q.2.2.2.2.2.2.2.2.2.2) := by
  intro sz
  refine jk_body (by decide +kernel) (fun p e s m args below meth c hsz hz hin C => ?_) (Nat.le_of_ble_eq_true rfl)
  subst hsz
  unfold fn_Setup_readCord at hf
  have bk_92 : ∀ (a_kind : Int) (a_start : Int) (a_end : Int) (a_code : Int) (a_offset : Int) (c_size : Int) (c_starts : (Int → Int)) (c_depth : (Int → Int)) (c_topic : (Int → Int)) (c_value : (Int → Int)) (c_nibbled : (Int → Int)) (v3 : Int) (v4 : Int) (v5 : Int) (v6 : Int) (s0 : Int), fn_Setup_readCord_b92 i_a_bytes i_a_length a_kind a_start a_end a_code a_offset i_c_clusters c_size c_starts c_depth c_topic c_value c_nibbled v3 v4 v5 v6 s0 = some q → jk_J p l e (jk_rm 8 344) s m args below meth c 0 0 (jk_QV below D jk_cl (jk_ty cI cR) (wd_Setup_readCord cI a_a a_a_bytes a_a_bytes_k a_b a_b_names a_b_names_k a_c a_c_starts a_c_depth a_c_topic a_c_value a_c_nibbled a_c_starts_k a_c_depth_k a_c_topic_k a_c_value_k a_c_nibbled_k i_a_length i_a_kind i_a_start i_a_end i_a_code i_a_offset i_a_bytes i_b_size i_b_names i_c_clusters i_c_size i_c_starts i_c_depth i_c_topic i_c_value i_c_nibbled) (wd_Setup_readCord cI a_a a_a_bytes a_a_bytes_k a_b a_b_names a_b_names_k a_c a_c_starts a_c_depth a_c_topic a_c_value a_c_nibbled a_c_starts_k a_c_depth_k a_c_topic_k a_c_value_k a_c_nibbled_k i_a_length q.1 q.2.1 q.2.2.1 q.2.2.2.1 q.2.2.2.2.1 i_a_bytes i_b_size i_b_names i_c_clusters q.2.2.2.2.2.1 q.2.2.2.2.2.2.1 q.2.2.2.2.2.2.2.1 q.2.2.2.2.2.2.2.2.1 q.2.2.2.2.2.2.2.2.2.1 q.2.2.2.2.2.2.2.2.2.2) args s) D jk_cl (va_A (wd_Setup_readCord cI a_a a_a_bytes a_a_bytes_k a_b a_b_names a_b_names_k a_c a_c_starts a_c_depth a_c_topic a_c_value a_c_nibbled a_c_starts_k a_c_depth_k a_c_topic_k a_c_value_k a_c_nibbled_k i_a_length i_a_kind i_a_start i_a_end i_a_code i_a_offset i_a_bytes i_b_size i_b_names i_c_clusters i_c_size i_c_starts i_c_depth i_c_topic i_c_value i_c_nibbled) s.heap.size) 8 (wd_Setup_readCord cI a_a a_a_bytes a_a_bytes_k a_b a_b_names a_b_names_k a_c a_c_starts a_c_depth a_c_topic a_c_value a_c_nibbled a_c_starts_k a_c_depth_k a_c_topic_k a_c_value_k a_c_nibbled_k i_a_length a_kind a_start a_end a_code a_offset i_a_bytes i_b_size i_b_names i_c_clusters c_size c_starts c_depth c_topic c_value c_nibbled) [(0, .ref a_a), (2, .ref a_c), (3, jk_V v3), (4, jk_V v4), (5, jk_V v5), (6, jk_V v6)] 92 [jk_V s0] := by
    intro a_kind a_start a_end a_code a_offset c_size c_starts c_depth c_topic c_value c_nibbled v3 v4 v5 v6 s0 hf
    unfold fn_Setup_readCord_b92 at hf
    refine jk_istore C rd_Setup_readCord_92 (by decide) (lv' := [(7, jk_V s0), (0, .ref a_a), (2, .ref a_c), (3, jk_V v3), (4, jk_V v4), (5, jk_V v5), (6, jk_V v6)]) rfl ?_
    refine jk_aload_n C rd_Setup_readCord_94 (k := 1) rfl ?_
    obtain ⟨q95, hq95, hf⟩ := jk_bind_h hf
    refine jk_callVv C hZ.1 hz (ct_Text_readSemicolon l D Z sq hZ cI cR a_a a_a_bytes a_a_bytes_k i_a_length a_kind a_start a_end a_code a_offset i_a_bytes q95 hq95) tm_333 tm_334 tm_335 tm_2 tm_336 na_Text_readSemicolon ⟨Nat.le_of_ble_eq_true rfl, Nat.le_of_ble_eq_true rfl⟩ rfl [0, 1, 2] rfl rfl rfl (ws' := wd_Setup_readCord cI a_a a_a_bytes a_a_bytes_k a_b a_b_names a_b_names_k a_c a_c_starts a_c_depth a_c_topic a_c_value a_c_nibbled a_c_starts_k a_c_depth_k a_c_topic_k a_c_value_k a_c_nibbled_k i_a_length q95.1 q95.2.1 q95.2.2.1 q95.2.2.2.1 q95.2.2.2.2 i_a_bytes i_b_size i_b_names i_c_clusters c_size c_starts c_depth c_topic c_value c_nibbled) rfl 0 3 rfl rfl rfl (st := []) rfl (Nat.le_of_ble_eq_true rfl) rd_Setup_readCord_95 ?_ ⟨Nat.le_of_ble_eq_true rfl, Nat.le_of_ble_eq_true rfl⟩
    refine jk_aload_n C rd_Setup_readCord_98 (k := 1) rfl ?_
    obtain ⟨q99, hq99, hf⟩ := jk_bind_h hf
    refine jk_callVi C hZ.1 hz (ct_Text_hasFailed l D Z sq hZ cI cR a_a a_a_bytes i_a_length q95.1 q95.2.1 q95.2.2.1 q95.2.2.2.1 q95.2.2.2.2 q99 hq99) tm_393 tm_287 tm_288 tm_2 tm_289 na_Text_hasFailed ⟨Nat.le_of_ble_eq_true rfl, Nat.le_of_ble_eq_true rfl⟩ rfl [0] rfl rfl rfl (ws' := wd_Setup_readCord cI a_a a_a_bytes a_a_bytes_k a_b a_b_names a_b_names_k a_c a_c_starts a_c_depth a_c_topic a_c_value a_c_nibbled a_c_starts_k a_c_depth_k a_c_topic_k a_c_value_k a_c_nibbled_k i_a_length q95.1 q95.2.1 q95.2.2.1 q95.2.2.2.1 q95.2.2.2.2 i_a_bytes i_b_size i_b_names i_c_clusters c_size c_starts c_depth c_topic c_value c_nibbled) rfl 0 3 rfl rfl rfl (st := []) rfl (Nat.le_of_ble_eq_true rfl) rd_Setup_readCord_99 ?_ ⟨Nat.le_of_ble_eq_true rfl, Nat.le_of_ble_eq_true rfl⟩
    refine jk_if_ne (tgt := 132) C rd_Setup_readCord_102 (by decide) hf (fun _ hf => ?_) (fun _ hf => ?_)
    · cases hf
      exact jk_vret C rfl rd_Setup_readCord_132 rfl
    · refine jk_aload_n C rd_Setup_readCord_105 (k := 2) rfl ?_
      refine jk_iload C rd_Setup_readCord_106 (k := 4) rfl ?_
      refine jk_aload_n C rd_Setup_readCord_108 (k := 2) rfl ?_
      refine jk_getN C in_Cords (ci := 5) rfl 0 (by decide) (jk_nw hZ hz tn_9) 6 rfl rfl rd_Setup_readCord_109 ?_
      refine jk_iconst C rd_Setup_readCord_112 ?_
      refine jk_isub C rd_Setup_readCord_113 ?_
      refine jk_iload_n C rd_Setup_readCord_114 (k := 3) rfl ?_
      refine jk_iload C rd_Setup_readCord_115 (k := 5) rfl ?_
      refine jk_iload C rd_Setup_readCord_117 (k := 6) rfl ?_
      obtain ⟨q119, hq119, hf⟩ := jk_bind_h hf
      refine jk_callVi C hZ.1 hz (ct_Cords_insert l D Z sq hZ cI cR a_c a_c_starts a_c_depth a_c_topic a_c_value a_c_nibbled a_c_starts_k a_c_depth_k a_c_topic_k a_c_value_k a_c_nibbled_k i_c_clusters c_size c_starts c_depth c_topic c_value c_nibbled v4 (i_c_clusters - 1) v3 v5 v6 q119 hq119) tm_394 tm_395 tm_396 tm_6 tm_397 na_Cords_insert ⟨Nat.le_of_ble_eq_true rfl, Nat.le_of_ble_eq_true rfl⟩ rfl [6, 7, 8, 9, 10, 11, 12, 13, 14, 15, 16] rfl rfl rfl (ws' := wd_Setup_readCord cI a_a a_a_bytes a_a_bytes_k a_b a_b_names a_b_names_k a_c a_c_starts a_c_depth a_c_topic a_c_value a_c_nibbled a_c_starts_k a_c_depth_k a_c_topic_k a_c_value_k a_c_nibbled_k i_a_length q95.1 q95.2.1 q95.2.2.1 q95.2.2.2.1 q95.2.2.2.2 i_a_bytes i_b_size i_b_names i_c_clusters q119.2.1 q119.2.2.1 q119.2.2.2.1 q119.2.2.2.2.1 q119.2.2.2.2.2.1 q119.2.2.2.2.2.2) rfl 6 5 rfl rfl rfl (st := []) rfl (Nat.le_of_ble_eq_true rfl) rd_Setup_readCord_119 ?_ ⟨Nat.le_of_ble_eq_true rfl, Nat.le_of_ble_eq_true rfl⟩
      refine jk_pop C rd_Setup_readCord_122 rfl ?_
      refine jk_aload_n C rd_Setup_readCord_123 (k := 2) rfl ?_
      refine jk_iload C rd_Setup_readCord_124 (k := 4) rfl ?_
      refine jk_iload C rd_Setup_readCord_126 (k := 0) rfl ?_
      obtain ⟨q128, hq128, hf⟩ := jk_bind_h hf
      refine jk_callVi C hZ.1 hz (ct_Cords_loseKnots l D Z sq hZ cI cR a_c a_c_starts a_c_depth a_c_topic a_c_value a_c_nibbled a_c_value_k a_c_nibbled_k i_c_clusters q119.2.1 q119.2.2.2.2.2.1 q119.2.2.2.2.2.2 v4 s0 q128 hq128) tm_408 tm_409 tm_410 tm_6 tm_411 na_Cords_loseKnots ⟨Nat.le_of_ble_eq_true rfl, Nat.le_of_ble_eq_true rfl⟩ rfl [6, 13, 14, 15, 16] rfl rfl rfl (ws' := wd_Setup_readCord cI a_a a_a_bytes a_a_bytes_k a_b a_b_names a_b_names_k a_c a_c_starts a_c_depth a_c_topic a_c_value a_c_nibbled a_c_starts_k a_c_depth_k a_c_topic_k a_c_value_k a_c_nibbled_k i_a_length q95.1 q95.2.1 q95.2.2.1 q95.2.2.2.1 q95.2.2.2.2 i_a_bytes i_b_size i_b_names i_c_clusters q119.2.1 q119.2.2.1 q119.2.2.2.1 q119.2.2.2.2.1 q128.2.1 q128.2.2) rfl 6 5 rfl rfl rfl (st := []) rfl (Nat.le_of_ble_eq_true rfl) rd_Setup_readCord_128 ?_ ⟨Nat.le_of_ble_eq_true rfl, Nat.le_of_ble_eq_true rfl⟩
      refine jk_pop C rd_Setup_readCord_131 rfl ?_
      cases hf
      exact jk_vret C rfl rd_Setup_readCord_132 rfl
  have bk_56 : ∀ (a_kind : Int) (a_start : Int) (a_end : Int) (a_code : Int) (a_offset : Int) (c_size : Int) (c_starts : (Int → Int)) (c_depth : (Int → Int)) (c_topic : (Int → Int)) (c_value : (Int → Int)) (c_nibbled : (Int → Int)) (v3 : Int) (v4 : Int), fn_Setup_readCord_b56 i_a_bytes i_a_length a_kind a_start a_end a_code a_offset i_b_size i_b_names i_c_clusters c_size c_starts c_depth c_topic c_value c_nibbled v3 v4 = some q → jk_J p l e (jk_rm 8 344) s m args below meth c 0 0 (jk_QV below D jk_cl (jk_ty cI cR) (wd_Setup_readCord cI a_a a_a_bytes a_a_bytes_k a_b a_b_names a_b_names_k a_c a_c_starts a_c_depth a_c_topic a_c_value a_c_nibbled a_c_starts_k a_c_depth_k a_c_topic_k a_c_value_k a_c_nibbled_k i_a_length i_a_kind i_a_start i_a_end i_a_code i_a_offset i_a_bytes i_b_size i_b_names i_c_clusters i_c_size i_c_starts i_c_depth i_c_topic i_c_value i_c_nibbled) (wd_Setup_readCord cI a_a a_a_bytes a_a_bytes_k a_b a_b_names a_b_names_k a_c a_c_starts a_c_depth a_c_topic a_c_value a_c_nibbled a_c_starts_k a_c_depth_k a_c_topic_k a_c_value_k a_c_nibbled_k i_a_length q.1 q.2.1 q.2.2.1 q.2.2.2.1 q.2.2.2.2.1 i_a_bytes i_b_size i_b_names i_c_clusters q.2.2.2.2.2.1 q.2.2.2.2.2.2.1 q.2.2.2.2.2.2.2.1 q.2.2.2.2.2.2.2.2.1 q.2.2.2.2.2.2.2.2.2.1 q.2.2.2.2.2.2.2.2.2.2) args s) D jk_cl (va_A (wd_Setup_readCord cI a_a a_a_bytes a_a_bytes_k a_b a_b_names a_b_names_k a_c a_c_starts a_c_depth a_c_topic a_c_value a_c_nibbled a_c_starts_k a_c_depth_k a_c_topic_k a_c_value_k a_c_nibbled_k i_a_length i_a_kind i_a_start i_a_end i_a_code i_a_offset i_a_bytes i_b_size i_b_names i_c_clusters i_c_size i_c_starts i_c_depth i_c_topic i_c_value i_c_nibbled) s.heap.size) 8 (wd_Setup_readCord cI a_a a_a_bytes a_a_bytes_k a_b a_b_names a_b_names_k a_c a_c_starts a_c_depth a_c_topic a_c_value a_c_nibbled a_c_starts_k a_c_depth_k a_c_topic_k a_c_value_k a_c_nibbled_k i_a_length a_kind a_start a_end a_code a_offset i_a_bytes i_b_size i_b_names i_c_clusters c_size c_starts c_depth c_topic c_value c_nibbled) [(0, .ref a_a), (1, .ref a_b), (2, .ref a_c), (3, jk_V v3), (4, jk_V v4)] 56 [] := by
    intro a_kind a_start a_end a_code a_offset c_size c_starts c_depth c_topic c_value c_nibbled v3 v4 hf
    unfold fn_Setup_readCord_b56 at hf
    refine jk_aload_n C rd_Setup_readCord_56 (k := 0) rfl ?_
    refine jk_aload_n C rd_Setup_readCord_57 (k := 1) rfl ?_
    obtain ⟨q58, hq58, hf⟩ := jk_bind_h hf
    refine jk_callVi C hZ.1 hz (ct_Text_readTopic l D Z sq hZ cI cR a_a a_a_bytes a_a_bytes_k a_b a_b_names a_b_names_k i_a_length a_kind a_start a_end a_code a_offset i_a_bytes i_b_size i_b_names q58 hq58) tm_383 tm_384 tm_385 tm_2 tm_386 na_Text_readTopic ⟨Nat.le_of_ble_eq_true rfl, Nat.le_of_ble_eq_true rfl⟩ rfl [0, 1, 2, 3, 4, 5] rfl rfl rfl (ws' := wd_Setup_readCord cI a_a a_a_bytes a_a_bytes_k a_b a_b_names a_b_names_k a_c a_c_starts a_c_depth a_c_topic a_c_value a_c_nibbled a_c_starts_k a_c_depth_k a_c_topic_k a_c_value_k a_c_nibbled_k i_a_length q58.2.1 q58.2.2.1 q58.2.2.2.1 q58.2.2.2.2.1 q58.2.2.2.2.2 i_a_bytes i_b_size i_b_names i_c_clusters c_size c_starts c_depth c_topic c_value c_nibbled) rfl 0 3 rfl rfl rfl (st := []) rfl (Nat.le_of_ble_eq_true rfl) rd_Setup_readCord_58 ?_ ⟨Nat.le_of_ble_eq_true rfl, Nat.le_of_ble_eq_true rfl⟩
    refine jk_istore C rd_Setup_readCord_61 (by decide) (lv' := [(5, jk_V q58.1), (0, .ref a_a), (1, .ref a_b), (2, .ref a_c), (3, jk_V v3), (4, jk_V v4)]) rfl ?_
    refine jk_aload_n C rd_Setup_readCord_63 (k := 1) rfl ?_
    refine jk_iconst C rd_Setup_readCord_64 ?_
    refine jk_sipush C rd_Setup_readCord_65 (by decide +kernel) ?_
    obtain ⟨q68, hq68, hf⟩ := jk_bind_h hf
    refine jk_callVi C hZ.1 hz (ct_Text_readNumber l D Z sq hZ cI cR a_a a_a_bytes a_a_bytes_k i_a_length q58.2.1 q58.2.2.1 q58.2.2.2.1 q58.2.2.2.2.1 q58.2.2.2.2.2 i_a_bytes 0 9999 q68 hq68) tm_364 tm_365 tm_366 tm_2 tm_367 na_Text_readNumber ⟨Nat.le_of_ble_eq_true rfl, Nat.le_of_ble_eq_true rfl⟩ rfl [0, 1, 2] rfl rfl rfl (ws' := wd_Setup_readCord cI a_a a_a_bytes a_a_bytes_k a_b a_b_names a_b_names_k a_c a_c_starts a_c_depth a_c_topic a_c_value a_c_nibbled a_c_starts_k a_c_depth_k a_c_topic_k a_c_value_k a_c_nibbled_k i_a_length q68.2.1 q68.2.2.1 q68.2.2.2.1 q68.2.2.2.2.1 q68.2.2.2.2.2 i_a_bytes i_b_size i_b_names i_c_clusters c_size c_starts c_depth c_topic c_value c_nibbled) rfl 0 3 rfl rfl rfl (st := []) rfl (Nat.le_of_ble_eq_true rfl) rd_Setup_readCord_68 ?_ ⟨Nat.le_of_ble_eq_true rfl, Nat.le_of_ble_eq_true rfl⟩
    refine jk_istore C rd_Setup_readCord_71 (by decide) (lv' := [(6, jk_V q68.1), (5, jk_V q58.1), (0, .ref a_a), (1, .ref a_b), (2, .ref a_c), (3, jk_V v3), (4, jk_V v4)]) rfl ?_
    refine jk_aload_n C rd_Setup_readCord_73 (k := 2) rfl ?_
    refine jk_ldcs C hZ hz rd_Setup_readCord_74 (k := 6) rfl ?_
    obtain ⟨q76, hq76, hf⟩ := jk_bind_h hf
    refine jk_callVi C hZ.1 hz (ct_Text_takesWord l D Z sq hZ cI cR a_a a_a_bytes a_a_bytes_k i_a_length q68.2.1 q68.2.2.1 q68.2.2.2.1 q68.2.2.2.2.1 q68.2.2.2.2.2 i_a_bytes ([110, 105, 98, 98, 108, 101, 100]) ((sq 6)) ((jk_zs hZ (k := 6) rfl)) q76 hq76) tm_388 tm_389 tm_390 tm_2 tm_391 na_Text_takesWord ⟨Nat.le_of_ble_eq_true rfl, Nat.le_of_ble_eq_true rfl⟩ rfl [0, 1, 2] rfl rfl rfl (ws' := wd_Setup_readCord cI a_a a_a_bytes a_a_bytes_k a_b a_b_names a_b_names_k a_c a_c_starts a_c_depth a_c_topic a_c_value a_c_nibbled a_c_starts_k a_c_depth_k a_c_topic_k a_c_value_k a_c_nibbled_k i_a_length q76.2.1 q76.2.2.1 q76.2.2.2 q68.2.2.2.2.1 q68.2.2.2.2.2 i_a_bytes i_b_size i_b_names i_c_clusters c_size c_starts c_depth c_topic c_value c_nibbled) rfl 0 3 rfl rfl rfl (st := []) rfl (Nat.le_of_ble_eq_true rfl) rd_Setup_readCord_76 ?_ ⟨Nat.le_of_ble_eq_true rfl, Nat.le_of_ble_eq_true rfl⟩
    refine jk_if_eq (tgt := 91) C rd_Setup_readCord_79 (by decide) hf (fun _ hf => ?_) (fun _ hf => ?_)
    · refine jk_iconst C rd_Setup_readCord_91 ?_
      refine jk_lv (lv' := [(0, .ref a_a), (2, .ref a_c), (3, jk_V v3), (4, jk_V v4), (5, jk_V q58.1), (6, jk_V q68.1)]) [2, 4, 5, 6, 1, 0] rfl ?_
      exact bk_92 q76.2.1 q76.2.2.1 q76.2.2.2 q68.2.2.2.2.1 q68.2.2.2.2.2 c_size c_starts c_depth c_topic c_value c_nibbled v3 v4 q58.1 q68.1 0 hf
    · refine jk_aload_n C rd_Setup_readCord_82 (k := 2) rfl ?_
      refine jk_iconst C rd_Setup_readCord_83 ?_
      refine jk_iconst C rd_Setup_readCord_84 ?_
      obtain ⟨q85, hq85, hf⟩ := jk_bind_h hf
      refine jk_callVi C hZ.1 hz (ct_Text_readNumber l D Z sq hZ cI cR a_a a_a_bytes a_a_bytes_k i_a_length q76.2.1 q76.2.2.1 q76.2.2.2 q68.2.2.2.2.1 q68.2.2.2.2.2 i_a_bytes 1 4 q85 hq85) tm_364 tm_365 tm_366 tm_2 tm_367 na_Text_readNumber ⟨Nat.le_of_ble_eq_true rfl, Nat.le_of_ble_eq_true rfl⟩ rfl [0, 1, 2] rfl rfl rfl (ws' := wd_Setup_readCord cI a_a a_a_bytes a_a_bytes_k a_b a_b_names a_b_names_k a_c a_c_starts a_c_depth a_c_topic a_c_value a_c_nibbled a_c_starts_k a_c_depth_k a_c_topic_k a_c_value_k a_c_nibbled_k i_a_length q85.2.1 q85.2.2.1 q85.2.2.2.1 q85.2.2.2.2.1 q85.2.2.2.2.2 i_a_bytes i_b_size i_b_names i_c_clusters c_size c_starts c_depth c_topic c_value c_nibbled) rfl 0 3 rfl rfl rfl (st := []) rfl (Nat.le_of_ble_eq_true rfl) rd_Setup_readCord_85 ?_ ⟨Nat.le_of_ble_eq_true rfl, Nat.le_of_ble_eq_true rfl⟩
      refine jk_goto (tgt := 92) C rd_Setup_readCord_88 (by decide) ?_
      refine jk_lv (lv' := [(0, .ref a_a), (2, .ref a_c), (3, jk_V v3), (4, jk_V v4), (5, jk_V q58.1), (6, jk_V q68.1)]) [2, 4, 5, 6, 1, 0] rfl ?_
      exact bk_92 q85.2.1 q85.2.2.1 q85.2.2.2.1 q85.2.2.2.2.1 q85.2.2.2.2.2 c_size c_starts c_depth c_topic c_value c_nibbled v3 v4 q58.1 q68.1 q85.1 hf
  have bk_37 : ∀ (a_kind : Int) (a_start : Int) (a_end : Int) (a_code : Int) (a_offset : Int) (c_size : Int) (c_starts : (Int → Int)) (c_depth : (Int → Int)) (c_topic : (Int → Int)) (c_value : (Int → Int)) (c_nibbled : (Int → Int)) (s0 : Int), fn_Setup_readCord_b37 i_a_bytes i_a_length a_kind a_start a_end a_code a_offset i_b_size i_b_names i_c_clusters c_size c_starts c_depth c_topic c_value c_nibbled s0 = some q → jk_J p l e (jk_rm 8 344) s m args below meth c 0 0 (jk_QV below D jk_cl (jk_ty cI cR) (wd_Setup_readCord cI a_a a_a_bytes a_a_bytes_k a_b a_b_names a_b_names_k a_c a_c_starts a_c_depth a_c_topic a_c_value a_c_nibbled a_c_starts_k a_c_depth_k a_c_topic_k a_c_value_k a_c_nibbled_k i_a_length i_a_kind i_a_start i_a_end i_a_code i_a_offset i_a_bytes i_b_size i_b_names i_c_clusters i_c_size i_c_starts i_c_depth i_c_topic i_c_value i_c_nibbled) (wd_Setup_readCord cI a_a a_a_bytes a_a_bytes_k a_b a_b_names a_b_names_k a_c a_c_starts a_c_depth a_c_topic a_c_value a_c_nibbled a_c_starts_k a_c_depth_k a_c_topic_k a_c_value_k a_c_nibbled_k i_a_length q.1 q.2.1 q.2.2.1 q.2.2.2.1 q.2.2.2.2.1 i_a_bytes i_b_size i_b_names i_c_clusters q.2.2.2.2.2.1 q.2.2.2.2.2.2.1 q.2.2.2.2.2.2.2.1 q.2.2.2.2.2.2.2.2.1 q.2.2.2.2.2.2.2.2.2.1 q.2.2.2.2.2.2.2.2.2.2) args s) D jk_cl (va_A (wd_Setup_readCord cI a_a a_a_bytes a_a_bytes_k a_b a_b_names a_b_names_k a_c a_c_starts a_c_depth a_c_topic a_c_value a_c_nibbled a_c_starts_k a_c_depth_k a_c_topic_k a_c_value_k a_c_nibbled_k i_a_length i_a_kind i_a_start i_a_end i_a_code i_a_offset i_a_bytes i_b_size i_b_names i_c_clusters i_c_size i_c_starts i_c_depth i_c_topic i_c_value i_c_nibbled) s.heap.size) 8 (wd_Setup_readCord cI a_a a_a_bytes a_a_bytes_k a_b a_b_names a_b_names_k a_c a_c_starts a_c_depth a_c_topic a_c_value a_c_nibbled a_c_starts_k a_c_depth_k a_c_topic_k a_c_value_k a_c_nibbled_k i_a_length a_kind a_start a_end a_code a_offset i_a_bytes i_b_size i_b_names i_c_clusters c_size c_starts c_depth c_topic c_value c_nibbled) [(0, .ref a_a), (1, .ref a_b), (2, .ref a_c)] 37 [jk_V s0] := by
    intro a_kind a_start a_end a_code a_offset c_size c_starts c_depth c_topic c_value c_nibbled s0 hf
    unfold fn_Setup_readCord_b37 at hf
    refine jk_istore_n C rd_Setup_readCord_37 (by decide) (lv' := [(3, jk_V s0), (0, .ref a_a), (1, .ref a_b), (2, .ref a_c)]) rfl ?_
    refine jk_aload_n C rd_Setup_readCord_38 (k := 3) rfl ?_
    refine jk_iload_n C rd_Setup_readCord_39 (k := 0) rfl ?_
    obtain ⟨q40, hq40, hf⟩ := jk_bind_h hf
    refine jk_callSi C hZ.1 hz (ct_Setup_placeFor l D Z sq hZ cI cR a_c a_c_starts a_c_depth a_c_topic a_c_value a_c_nibbled a_c_starts_k a_c_depth_k i_c_clusters c_size c_starts c_depth s0 q40 hq40) tm_368 tm_369 tm_13 tm_370 na_Setup_placeFor ⟨Nat.le_of_ble_eq_true rfl, Nat.le_of_ble_eq_true rfl⟩ rfl [6, 7, 8, 9, 10] rfl rfl rfl (ws' := wd_Setup_readCord cI a_a a_a_bytes a_a_bytes_k a_b a_b_names a_b_names_k a_c a_c_starts a_c_depth a_c_topic a_c_value a_c_nibbled a_c_starts_k a_c_depth_k a_c_topic_k a_c_value_k a_c_nibbled_k i_a_length a_kind a_start a_end a_code a_offset i_a_bytes i_b_size i_b_names i_c_clusters c_size c_starts c_depth c_topic c_value c_nibbled) rfl (st := []) rfl (Nat.le_of_ble_eq_true rfl) rd_Setup_readCord_40 ?_ ⟨Nat.le_of_ble_eq_true rfl, Nat.le_of_ble_eq_true rfl⟩
    refine jk_istore C rd_Setup_readCord_43 (by decide) (lv' := [(4, jk_V q40), (3, jk_V s0), (0, .ref a_a), (1, .ref a_b), (2, .ref a_c)]) rfl ?_
    refine jk_iload C rd_Setup_readCord_45 (k := 0) rfl ?_
    refine jk_iconst C rd_Setup_readCord_47 ?_
    refine jk_icmp_ne (tgt := 56) C rd_Setup_readCord_48 (by decide) hf (fun _ hf => ?_) (fun _ hf => ?_)
    · refine jk_lv (lv' := [(0, .ref a_a), (1, .ref a_b), (2, .ref a_c), (3, jk_V s0), (4, jk_V q40)]) [2, 3, 4, 1, 0] rfl ?_
      exact bk_56 a_kind a_start a_end a_code a_offset c_size c_starts c_depth c_topic c_value c_nibbled s0 q40 hf
    · refine jk_aload_n C rd_Setup_readCord_51 (k := 2) rfl ?_
      refine jk_iconst C rd_Setup_readCord_52 ?_
      obtain ⟨q53, hq53, hf⟩ := jk_bind_h hf
      refine jk_callVv C hZ.1 hz (ct_Text_fail l D Z sq hZ cI cR a_a a_a_bytes i_a_length a_kind a_start a_end a_code a_offset 5 q53 hq53) tm_310 tm_311 tm_312 tm_2 tm_313 na_Text_fail ⟨Nat.le_of_ble_eq_true rfl, Nat.le_of_ble_eq_true rfl⟩ rfl [0] rfl rfl rfl (ws' := wd_Setup_readCord cI a_a a_a_bytes a_a_bytes_k a_b a_b_names a_b_names_k a_c a_c_starts a_c_depth a_c_topic a_c_value a_c_nibbled a_c_starts_k a_c_depth_k a_c_topic_k a_c_value_k a_c_nibbled_k i_a_length a_kind a_start a_end q53.1 q53.2 i_a_bytes i_b_size i_b_names i_c_clusters c_size c_starts c_depth c_topic c_value c_nibbled) rfl 0 3 rfl rfl rfl (st := []) rfl (Nat.le_of_ble_eq_true rfl) rd_Setup_readCord_53 ?_ ⟨Nat.le_of_ble_eq_true rfl, Nat.le_of_ble_eq_true rfl⟩
      refine jk_lv (lv' := [(0, .ref a_a), (1, .ref a_b), (2, .ref a_c), (3, jk_V s0), (4, jk_V q40)]) [2, 3, 4, 1, 0] rfl ?_
      exact bk_56 a_kind a_start a_end q53.1 q53.2 c_size c_starts c_depth c_topic c_value c_nibbled s0 q40 hf
  refine jk_aload_n C rd_Setup_readCord_0 (k := 0) rfl ?_
  refine jk_aload_n C rd_Setup_readCord_1 (k := 2) rfl ?_
  obtain ⟨q2, hq2, hf⟩ := jk_bind_h hf
  refine jk_callSv C hZ.1 hz (ct_Setup_checkFirstWord l D Z sq hZ cI cR a_a a_a_bytes a_a_bytes_k a_c a_c_starts a_c_depth a_c_topic a_c_value a_c_nibbled a_c_starts_k a_c_depth_k i_a_length i_a_kind i_a_start i_a_end i_a_code i_a_offset i_a_bytes i_c_clusters i_c_size i_c_starts i_c_depth q2 hq2) tm_349 tm_350 tm_13 tm_351 na_Setup_checkFirstWord ⟨Nat.le_of_ble_eq_true rfl, Nat.le_of_ble_eq_true rfl⟩ rfl [0, 1, 2, 6, 7, 8, 9, 10] rfl rfl rfl (ws' := wd_Setup_readCord cI a_a a_a_bytes a_a_bytes_k a_b a_b_names a_b_names_k a_c a_c_starts a_c_depth a_c_topic a_c_value a_c_nibbled a_c_starts_k a_c_depth_k a_c_topic_k a_c_value_k a_c_nibbled_k i_a_length i_a_kind i_a_start i_a_end q2.1 q2.2 i_a_bytes i_b_size i_b_names i_c_clusters i_c_size i_c_starts i_c_depth i_c_topic i_c_value i_c_nibbled) rfl (st := []) rfl (Nat.le_of_ble_eq_true rfl) rd_Setup_readCord_2 ?_ ⟨Nat.le_of_ble_eq_true rfl, Nat.le_of_ble_eq_true rfl⟩
  refine jk_aload_n C rd_Setup_readCord_5 (k := 0) rfl ?_
  refine jk_ldcs C hZ hz rd_Setup_readCord_6 (k := 3) rfl ?_
  obtain ⟨q8, hq8, hf⟩ := jk_bind_h hf
  refine jk_callVi C hZ.1 hz (ct_Text_isWord l D Z sq hZ cI cR a_a a_a_bytes a_a_bytes_k i_a_length i_a_kind i_a_start i_a_end q2.1 q2.2 i_a_bytes ([116, 111, 112]) ((sq 3)) ((jk_zs hZ (k := 3) rfl)) q8 hq8) tm_303 tm_304 tm_305 tm_2 tm_306 na_Text_isWord ⟨Nat.le_of_ble_eq_true rfl, Nat.le_of_ble_eq_true rfl⟩ rfl [0, 1, 2] rfl rfl rfl (ws' := wd_Setup_readCord cI a_a a_a_bytes a_a_bytes_k a_b a_b_names a_b_names_k a_c a_c_starts a_c_depth a_c_topic a_c_value a_c_nibbled a_c_starts_k a_c_depth_k a_c_topic_k a_c_value_k a_c_nibbled_k i_a_length i_a_kind i_a_start i_a_end q2.1 q2.2 i_a_bytes i_b_size i_b_names i_c_clusters i_c_size i_c_starts i_c_depth i_c_topic i_c_value i_c_nibbled) rfl 0 3 rfl rfl rfl (st := []) rfl (Nat.le_of_ble_eq_true rfl) rd_Setup_readCord_8 ?_ ⟨Nat.le_of_ble_eq_true rfl, Nat.le_of_ble_eq_true rfl⟩
  refine jk_if_eq (tgt := 18) C rd_Setup_readCord_11 (by decide) hf (fun _ hf => ?_) (fun _ hf => ?_)
  · refine jk_aload_n C rd_Setup_readCord_18 (k := 0) rfl ?_
    refine jk_ldcs C hZ hz rd_Setup_readCord_19 (k := 4) rfl ?_
    obtain ⟨q21, hq21, hf⟩ := jk_bind_h hf
    refine jk_callVi C hZ.1 hz (ct_Text_isWord l D Z sq hZ cI cR a_a a_a_bytes a_a_bytes_k i_a_length i_a_kind i_a_start i_a_end q2.1 q2.2 i_a_bytes ([112, 101, 110, 100, 97, 110, 116]) ((sq 4)) ((jk_zs hZ (k := 4) rfl)) q21 hq21) tm_303 tm_304 tm_305 tm_2 tm_306 na_Text_isWord ⟨Nat.le_of_ble_eq_true rfl, Nat.le_of_ble_eq_true rfl⟩ rfl [0, 1, 2] rfl rfl rfl (ws' := wd_Setup_readCord cI a_a a_a_bytes a_a_bytes_k a_b a_b_names a_b_names_k a_c a_c_starts a_c_depth a_c_topic a_c_value a_c_nibbled a_c_starts_k a_c_depth_k a_c_topic_k a_c_value_k a_c_nibbled_k i_a_length i_a_kind i_a_start i_a_end q2.1 q2.2 i_a_bytes i_b_size i_b_names i_c_clusters i_c_size i_c_starts i_c_depth i_c_topic i_c_value i_c_nibbled) rfl 0 3 rfl rfl rfl (st := []) rfl (Nat.le_of_ble_eq_true rfl) rd_Setup_readCord_21 ?_ ⟨Nat.le_of_ble_eq_true rfl, Nat.le_of_ble_eq_true rfl⟩
    refine jk_if_eq (tgt := 31) C rd_Setup_readCord_24 (by decide) hf (fun _ hf => ?_) (fun _ hf => ?_)
    · refine jk_aload_n C rd_Setup_readCord_31 (k := 0) rfl ?_
      refine jk_iconst C rd_Setup_readCord_32 ?_
      refine jk_iconst C rd_Setup_readCord_33 ?_
      obtain ⟨q34, hq34, hf⟩ := jk_bind_h hf
      refine jk_callVi C hZ.1 hz (ct_Text_readNumber l D Z sq hZ cI cR a_a a_a_bytes a_a_bytes_k i_a_length i_a_kind i_a_start i_a_end q2.1 q2.2 i_a_bytes 2 3 q34 hq34) tm_364 tm_365 tm_366 tm_2 tm_367 na_Text_readNumber ⟨Nat.le_of_ble_eq_true rfl, Nat.le_of_ble_eq_true rfl⟩ rfl [0, 1, 2] rfl rfl rfl (ws' := wd_Setup_readCord cI a_a a_a_bytes a_a_bytes_k a_b a_b_names a_b_names_k a_c a_c_starts a_c_depth a_c_topic a_c_value a_c_nibbled a_c_starts_k a_c_depth_k a_c_topic_k a_c_value_k a_c_nibbled_k i_a_length q34.2.1 q34.2.2.1 q34.2.2.2.1 q34.2.2.2.2.1 q34.2.2.2.2.2 i_a_bytes i_b_size i_b_names i_c_clusters i_c_size i_c_starts i_c_depth i_c_topic i_c_value i_c_nibbled) rfl 0 3 rfl rfl rfl (st := []) rfl (Nat.le_of_ble_eq_true rfl) rd_Setup_readCord_34 ?_ ⟨Nat.le_of_ble_eq_true rfl, Nat.le_of_ble_eq_true rfl⟩
      refine jk_lv (lv' := [(0, .ref a_a), (1, .ref a_b), (2, .ref a_c)]) [0, 1, 2] rfl ?_
      exact bk_37 q34.2.1 q34.2.2.1 q34.2.2.2.1 q34.2.2.2.2.1 q34.2.2.2.2.2 i_c_size i_c_starts i_c_depth i_c_topic i_c_value i_c_nibbled q34.1 hf
    · refine jk_iconst C rd_Setup_readCord_27 ?_
      refine jk_goto (tgt := 37) C rd_Setup_readCord_28 (by decide) ?_
      refine jk_lv (lv' := [(0, .ref a_a), (1, .ref a_b), (2, .ref a_c)]) [0, 1, 2] rfl ?_
      exact bk_37 i_a_kind i_a_start i_a_end q2.1 q2.2 i_c_size i_c_starts i_c_depth i_c_topic i_c_value i_c_nibbled 1 hf
  · refine jk_iconst C rd_Setup_readCord_14 ?_
    refine jk_goto (tgt := 37) C rd_Setup_readCord_15 (by decide) ?_
    refine jk_lv (lv' := [(0, .ref a_a), (1, .ref a_b), (2, .ref a_c)]) [0, 1, 2] rfl ?_
    exact bk_37 i_a_kind i_a_start i_a_end q2.1 q2.2 i_c_size i_c_starts i_c_depth i_c_topic i_c_value i_c_nibbled 0 hf
def wd_Topics_add (cI : ClassId) (a_t a_t_names a_t_names_k : Nat) (i_t_size : Int) (i_t_names : (Int → Int)) : va_W := [(a_t, .inr (2, [jk_V i_t_size, .ref a_t_names])), (a_t_names, .inr (0, [.ref a_t_names_k])), (a_t_names_k, jk_W cI 8 i_t_names)]
set_option maxHeartbeats 4000000 in
set_option maxRecDepth 20000 in
theorem ct_Topics_add (l : Launch) (D : va_G) (Z : (Nat → Prop) → State → Heap → Prop) (sq : Nat → Nat) (hZ : jk_ZK Z sq) (cI cR : ClassId) (a_t a_t_names a_t_names_k : Nat) (i_t_size : Int) (i_t_names : (Int → Int)) (x1 : Int) (q : Int × (Int → Int)) (hf : fn_Topics_add i_t_size i_t_names x1 = some q) : jk_MV l D jk_cl (jk_ty cI cR) Z mn_Topics_add (.code mn_Topics_add mb_Topics_add 2 none :: jk_WA) (jk_rm 1 22) [.ref a_t, jk_V x1] (wd_Topics_add cI a_t a_t_names a_t_names_k i_t_size i_t_names) (wd_Topics_add cI a_t a_t_names a_t_names_k q.1 q.2) := by
  intro sz
  refine jk_body (by decide +kernel) (fun p e s m args below meth c hsz hz hin C => ?_) (Nat.le_of_ble_eq_true rfl)
  subst hsz
  unfold fn_Topics_add at hf
  refine jk_aload_n C rd_Topics_add_0 (k := 0) rfl ?_
  refine jk_get C in_Topics (ci := 2) rfl 0 (by decide) tm_113 0 rfl rfl rd_Topics_add_1 ?_
  refine jk_bipush C rd_Topics_add_4 (by decide +kernel) ?_
  refine jk_icmp_ge (tgt := 31) C rd_Topics_add_6 (by decide) hf (fun _ hf => ?_) (fun _ hf => ?_)
  · cases hf
    exact jk_vret C rfl rd_Topics_add_31 rfl
  · refine jk_aload_n C rd_Topics_add_9 (k := 0) rfl ?_
    refine jk_get C in_Topics (ci := 2) rfl 1 (by decide) tm_115 0 rfl rfl rd_Topics_add_10 ?_
    refine jk_aload_n C rd_Topics_add_13 (k := 0) rfl ?_
    refine jk_get C in_Topics (ci := 2) rfl 0 (by decide) tm_113 0 rfl rfl rd_Topics_add_14 ?_
    refine jk_iload_n C rd_Topics_add_17 (k := 1) rfl ?_
    obtain ⟨q18, hq18, hf⟩ := jk_bind_h hf
    refine jk_callVv C hZ.1 hz (ct_Row_set l D Z sq hZ cI cR (n_t := 8) (Nat.le_of_ble_eq_true rfl) a_t_names a_t_names_k i_t_names i_t_size x1 q18 hq18) tm_332 tm_264 tm_265 tm_3 tm_266 na_Row_set ⟨Nat.le_of_ble_eq_true rfl, Nat.le_of_ble_eq_true rfl⟩ rfl [1, 2] rfl rfl rfl (ws' := wd_Topics_add cI a_t a_t_names a_t_names_k i_t_size q18) rfl 1 0 rfl rfl rfl (st := []) rfl (Nat.le_of_ble_eq_true rfl) rd_Topics_add_18 ?_ ⟨Nat.le_of_ble_eq_true rfl, Nat.le_of_ble_eq_true rfl⟩
    refine jk_aload_n C rd_Topics_add_21 (k := 0) rfl ?_
    refine jk_dup C rd_Topics_add_22 rfl ?_
    refine jk_get C in_Topics (ci := 2) rfl 0 (by decide) tm_113 0 rfl rfl rd_Topics_add_23 ?_
    refine jk_iconst C rd_Topics_add_26 ?_
    refine jk_iadd C rd_Topics_add_27 ?_
    refine jk_putf C in_Topics ty_Topics nm_Topics (ci := 2) rfl 0 (by decide) tm_113 rfl rfl rfl 0 rfl (Nat.le_of_ble_eq_true rfl) rd_Topics_add_28 (ws' := wd_Topics_add cI a_t a_t_names a_t_names_k (i_t_size + 1) q18) rfl ?_
    cases hf
    exact jk_vret C rfl rd_Topics_add_31 rfl
def wd_Text_readNewTopic (cI : ClassId) (a_t a_t_bytes a_t_bytes_k a_a a_a_names a_a_names_k : Nat) (i_t_length : Int) (i_t_kind : Int) (i_t_start : Int) (i_t_end : Int) (i_t_code : Int) (i_t_offset : Int) (i_t_bytes : (Int → Int)) (i_a_size : Int) (i_a_names : (Int → Int)) : va_W := [(a_t, .inr (3, [.ref a_t_bytes, jk_V i_t_length, jk_V i_t_kind, jk_V i_t_start, jk_V i_t_end, jk_V i_t_code, jk_V i_t_offset])), (a_t_bytes, .inr (0, [.ref a_t_bytes_k])), (a_t_bytes_k, jk_W cI 700 i_t_bytes), (a_a, .inr (2, [jk_V i_a_size, .ref a_a_names])), (a_a_names, .inr (0, [.ref a_a_names_k])), (a_a_names_k, jk_W cI 8 i_a_names)]
set_option maxHeartbeats 4000000 in
set_option maxRecDepth 20000 in
theorem ct_Text_readNewTopic (l : Launch) (D : va_G) (Z : (Nat → Prop) → State → Heap → Prop) (sq : Nat → Nat) (hZ : jk_ZK Z sq) (cI cR : ClassId) (a_t a_t_bytes a_t_bytes_k a_a a_a_names a_a_names_k : Nat) (i_t_length : Int) (i_t_kind : Int) (i_t_start : Int) (i_t_end : Int) (i_t_code : Int) (i_t_offset : Int) (i_t_bytes : (Int → Int)) (i_a_size : Int) (i_a_names : (Int → Int)) (q : Int × Int × Int × Int × Int × Int × (Int → Int)) (hf : fn_Text_readNewTopic i_t_bytes i_t_length i_t_kind i_t_start i_t_end i_t_code i_t_offset i_a_size i_a_names = some q) : jk_MV l D jk_cl (jk_ty cI cR) Z mn_Text_readNewTopic (.code mn_Text_readNewTopic mb_Text_readNewTopic 3 none :: jk_WA) (jk_rm 3 64) [.ref a_t, .ref a_a] (wd_Text_readNewTopic cI a_t a_t_bytes a_t_bytes_k a_a a_a_names a_a_names_k i_t_length i_t_kind i_t_start i_t_end i_t_code i_t_offset i_t_bytes i_a_size i_a_names) (wd_Text_readNewTopic cI a_t a_t_bytes a_t_bytes_k a_a a_a_names a_a_names_k i_t_length q.1 q.2.1 q.2.2.1 q.2.2.2.1 q.2.2.2.2.1 i_t_bytes q.2.2.2.2.2.1 q.2.2.2.2.2.2) := by
  intro sz
  refine jk_body (by decide +kernel) (fun p e s m args below meth c hsz hz hin C => ?_) (Nat.le_of_ble_eq_true rfl)
  subst hsz
  unfold fn_Text_readNewTopic at hf
  refine jk_aload_n C rd_Text_readNewTopic_0 (k := 0) rfl ?_
  obtain ⟨q1, hq1, hf⟩ := jk_bind_h hf
  refine jk_callVi C hZ.1 hz (ct_Text_hasFailed l D Z sq hZ cI cR a_t a_t_bytes i_t_length i_t_kind i_t_start i_t_end i_t_code i_t_offset q1 hq1) tm_286 tm_287 tm_288 tm_2 tm_289 na_Text_hasFailed ⟨Nat.le_of_ble_eq_true rfl, Nat.le_of_ble_eq_true rfl⟩ rfl [0] rfl rfl rfl (ws' := wd_Text_readNewTopic cI a_t a_t_bytes a_t_bytes_k a_a a_a_names a_a_names_k i_t_length i_t_kind i_t_start i_t_end i_t_code i_t_offset i_t_bytes i_a_size i_a_names) rfl 0 3 rfl rfl rfl (st := []) rfl (Nat.le_of_ble_eq_true rfl) rd_Text_readNewTopic_1 ?_ ⟨Nat.le_of_ble_eq_true rfl, Nat.le_of_ble_eq_true rfl⟩
  refine jk_if_eq (tgt := 8) C rd_Text_readNewTopic_4 (by decide) hf (fun _ hf => ?_) (fun _ hf => ?_)
  · refine jk_aload_n C rd_Text_readNewTopic_8 (k := 0) rfl ?_
    obtain ⟨q9, hq9, hf⟩ := jk_bind_h hf
    refine jk_callVv C hZ.1 hz (ct_Text_next l D Z sq hZ cI cR a_t a_t_bytes a_t_bytes_k i_t_length i_t_kind i_t_start i_t_end i_t_code i_t_offset i_t_bytes q9 hq9) tm_290 tm_291 tm_292 tm_2 tm_293 na_Text_next ⟨Nat.le_of_ble_eq_true rfl, Nat.le_of_ble_eq_true rfl⟩ rfl [0, 1, 2] rfl rfl rfl (ws' := wd_Text_readNewTopic cI a_t a_t_bytes a_t_bytes_k a_a a_a_names a_a_names_k i_t_length q9.1 q9.2.1 q9.2.2 i_t_code i_t_offset i_t_bytes i_a_size i_a_names) rfl 0 3 rfl rfl rfl (st := []) rfl (Nat.le_of_ble_eq_true rfl) rd_Text_readNewTopic_9 ?_ ⟨Nat.le_of_ble_eq_true rfl, Nat.le_of_ble_eq_true rfl⟩
    refine jk_aload_n C rd_Text_readNewTopic_12 (k := 0) rfl ?_
    obtain ⟨q13, hq13, hf⟩ := jk_bind_h hf
    refine jk_callVi C hZ.1 hz (ct_Text_name l D Z sq hZ cI cR a_t a_t_bytes a_t_bytes_k i_t_length q9.1 q9.2.1 q9.2.2 i_t_code i_t_offset i_t_bytes q13 hq13) tm_318 tm_320 sl_2 tm_2 tm_321 na_Text_name ⟨Nat.le_of_ble_eq_true rfl, Nat.le_of_ble_eq_true rfl⟩ rfl [0, 1, 2] rfl rfl rfl (ws' := wd_Text_readNewTopic cI a_t a_t_bytes a_t_bytes_k a_a a_a_names a_a_names_k i_t_length q9.1 q9.2.1 q9.2.2 q13.2.1 q13.2.2 i_t_bytes i_a_size i_a_names) rfl 0 3 rfl rfl rfl (st := []) rfl (Nat.le_of_ble_eq_true rfl) rd_Text_readNewTopic_13 ?_ ⟨Nat.le_of_ble_eq_true rfl, Nat.le_of_ble_eq_true rfl⟩
    refine jk_istore_n C rd_Text_readNewTopic_16 (by decide) (lv' := [(2, jk_V q13.1), (0, .ref a_t), (1, .ref a_a)]) rfl ?_
    refine jk_aload_n C rd_Text_readNewTopic_17 (k := 2) rfl ?_
    refine jk_iload_n C rd_Text_readNewTopic_18 (k := 0) rfl ?_
    obtain ⟨q19, hq19, hf⟩ := jk_bind_h hf
    refine jk_callVi C hZ.1 hz (ct_Topics_find l D Z sq hZ cI cR a_a a_a_names a_a_names_k i_a_size i_a_names q13.1 q19 hq19) tm_323 tm_324 tm_325 tm_5 tm_326 na_Topics_find ⟨Nat.le_of_ble_eq_true rfl, Nat.le_of_ble_eq_true rfl⟩ rfl [3, 4, 5] rfl rfl rfl (ws' := wd_Text_readNewTopic cI a_t a_t_bytes a_t_bytes_k a_a a_a_names a_a_names_k i_t_length q9.1 q9.2.1 q9.2.2 q13.2.1 q13.2.2 i_t_bytes i_a_size i_a_names) rfl 3 2 rfl rfl rfl (st := []) rfl (Nat.le_of_ble_eq_true rfl) rd_Text_readNewTopic_19 ?_ ⟨Nat.le_of_ble_eq_true rfl, Nat.le_of_ble_eq_true rfl⟩
    refine jk_iconst C rd_Text_readNewTopic_22 ?_
    refine jk_icmp_eq (tgt := 31) C rd_Text_readNewTopic_23 (by decide) hf (fun _ hf => ?_) (fun _ hf => ?_)
    · refine jk_aload_n C rd_Text_readNewTopic_31 (k := 1) rfl ?_
      obtain ⟨q32, hq32, hf⟩ := jk_bind_h hf
      refine jk_callVi C hZ.1 hz (ct_Text_hasFailed l D Z sq hZ cI cR a_t a_t_bytes i_t_length q9.1 q9.2.1 q9.2.2 q13.2.1 q13.2.2 q32 hq32) tm_286 tm_287 tm_288 tm_2 tm_289 na_Text_hasFailed ⟨Nat.le_of_ble_eq_true rfl, Nat.le_of_ble_eq_true rfl⟩ rfl [0] rfl rfl rfl (ws' := wd_Text_readNewTopic cI a_t a_t_bytes a_t_bytes_k a_a a_a_names a_a_names_k i_t_length q9.1 q9.2.1 q9.2.2 q13.2.1 q13.2.2 i_t_bytes i_a_size i_a_names) rfl 0 3 rfl rfl rfl (st := []) rfl (Nat.le_of_ble_eq_true rfl) rd_Text_readNewTopic_32 ?_ ⟨Nat.le_of_ble_eq_true rfl, Nat.le_of_ble_eq_true rfl⟩
      refine jk_if_ne (tgt := 43) C rd_Text_readNewTopic_35 (by decide) hf (fun _ hf => ?_) (fun _ hf => ?_)
      · cases hf
        exact jk_vret C rfl rd_Text_readNewTopic_43 rfl
      · refine jk_aload_n C rd_Text_readNewTopic_38 (k := 2) rfl ?_
        refine jk_iload_n C rd_Text_readNewTopic_39 (k := 0) rfl ?_
        obtain ⟨q40, hq40, hf⟩ := jk_bind_h hf
        refine jk_callVv C hZ.1 hz (ct_Topics_add l D Z sq hZ cI cR a_a a_a_names a_a_names_k i_a_size i_a_names q13.1 q40 hq40) tm_328 tm_329 tm_330 tm_5 tm_331 na_Topics_add ⟨Nat.le_of_ble_eq_true rfl, Nat.le_of_ble_eq_true rfl⟩ rfl [3, 4, 5] rfl rfl rfl (ws' := wd_Text_readNewTopic cI a_t a_t_bytes a_t_bytes_k a_a a_a_names a_a_names_k i_t_length q9.1 q9.2.1 q9.2.2 q13.2.1 q13.2.2 i_t_bytes q40.1 q40.2) rfl 3 2 rfl rfl rfl (st := []) rfl (Nat.le_of_ble_eq_true rfl) rd_Text_readNewTopic_40 ?_ ⟨Nat.le_of_ble_eq_true rfl, Nat.le_of_ble_eq_true rfl⟩
        cases hf
        exact jk_vret C rfl rd_Text_readNewTopic_43 rfl
    · refine jk_aload_n C rd_Text_readNewTopic_26 (k := 1) rfl ?_
      refine jk_iconst C rd_Text_readNewTopic_27 ?_
      obtain ⟨q28, hq28, hf⟩ := jk_bind_h hf
      refine jk_callVv C hZ.1 hz (ct_Text_fail l D Z sq hZ cI cR a_t a_t_bytes i_t_length q9.1 q9.2.1 q9.2.2 q13.2.1 q13.2.2 3 q28 hq28) tm_322 tm_311 tm_312 tm_2 tm_313 na_Text_fail ⟨Nat.le_of_ble_eq_true rfl, Nat.le_of_ble_eq_true rfl⟩ rfl [0] rfl rfl rfl (ws' := wd_Text_readNewTopic cI a_t a_t_bytes a_t_bytes_k a_a a_a_names a_a_names_k i_t_length q9.1 q9.2.1 q9.2.2 q28.1 q28.2 i_t_bytes i_a_size i_a_names) rfl 0 3 rfl rfl rfl (st := []) rfl (Nat.le_of_ble_eq_true rfl) rd_Text_readNewTopic_28 ?_ ⟨Nat.le_of_ble_eq_true rfl, Nat.le_of_ble_eq_true rfl⟩
      refine jk_aload_n C rd_Text_readNewTopic_31 (k := 1) rfl ?_
      obtain ⟨q32, hq32, hf⟩ := jk_bind_h hf
      refine jk_callVi C hZ.1 hz (ct_Text_hasFailed l D Z sq hZ cI cR a_t a_t_bytes i_t_length q9.1 q9.2.1 q9.2.2 q28.1 q28.2 q32 hq32) tm_286 tm_287 tm_288 tm_2 tm_289 na_Text_hasFailed ⟨Nat.le_of_ble_eq_true rfl, Nat.le_of_ble_eq_true rfl⟩ rfl [0] rfl rfl rfl (ws' := wd_Text_readNewTopic cI a_t a_t_bytes a_t_bytes_k a_a a_a_names a_a_names_k i_t_length q9.1 q9.2.1 q9.2.2 q28.1 q28.2 i_t_bytes i_a_size i_a_names) rfl 0 3 rfl rfl rfl (st := []) rfl (Nat.le_of_ble_eq_true rfl) rd_Text_readNewTopic_32 ?_ ⟨Nat.le_of_ble_eq_true rfl, Nat.le_of_ble_eq_true rfl⟩
      refine jk_if_ne (tgt := 43) C rd_Text_readNewTopic_35 (by decide) hf (fun _ hf => ?_) (fun _ hf => ?_)
      · cases hf
        exact jk_vret C rfl rd_Text_readNewTopic_43 rfl
      · refine jk_aload_n C rd_Text_readNewTopic_38 (k := 2) rfl ?_
        refine jk_iload_n C rd_Text_readNewTopic_39 (k := 0) rfl ?_
        obtain ⟨q40, hq40, hf⟩ := jk_bind_h hf
        refine jk_callVv C hZ.1 hz (ct_Topics_add l D Z sq hZ cI cR a_a a_a_names a_a_names_k i_a_size i_a_names q13.1 q40 hq40) tm_328 tm_329 tm_330 tm_5 tm_331 na_Topics_add ⟨Nat.le_of_ble_eq_true rfl, Nat.le_of_ble_eq_true rfl⟩ rfl [3, 4, 5] rfl rfl rfl (ws' := wd_Text_readNewTopic cI a_t a_t_bytes a_t_bytes_k a_a a_a_names a_a_names_k i_t_length q9.1 q9.2.1 q9.2.2 q28.1 q28.2 i_t_bytes q40.1 q40.2) rfl 3 2 rfl rfl rfl (st := []) rfl (Nat.le_of_ble_eq_true rfl) rd_Text_readNewTopic_40 ?_ ⟨Nat.le_of_ble_eq_true rfl, Nat.le_of_ble_eq_true rfl⟩
        cases hf
        exact jk_vret C rfl rd_Text_readNewTopic_43 rfl
  · cases hf
    exact jk_vret C rfl rd_Text_readNewTopic_7 rfl
def wd_Setup_readTopic (cI : ClassId) (a_a a_a_bytes a_a_bytes_k a_b a_b_names a_b_names_k : Nat) (i_a_length : Int) (i_a_kind : Int) (i_a_start : Int) (i_a_end : Int) (i_a_code : Int) (i_a_offset : Int) (i_a_bytes : (Int → Int)) (i_b_size : Int) (i_b_names : (Int → Int)) : va_W := [(a_a, .inr (3, [.ref a_a_bytes, jk_V i_a_length, jk_V i_a_kind, jk_V i_a_start, jk_V i_a_end, jk_V i_a_code, jk_V i_a_offset])), (a_a_bytes, .inr (0, [.ref a_a_bytes_k])), (a_a_bytes_k, jk_W cI 700 i_a_bytes), (a_b, .inr (2, [jk_V i_b_size, .ref a_b_names])), (a_b_names, .inr (0, [.ref a_b_names_k])), (a_b_names_k, jk_W cI 8 i_b_names)]
set_option maxHeartbeats 4000000 in
set_option maxRecDepth 20000 in
theorem ct_Setup_readTopic (l : Launch) (D : va_G) (Z : (Nat → Prop) → State → Heap → Prop) (sq : Nat → Nat) (hZ : jk_ZK Z sq) (cI cR : ClassId) (a_a a_a_bytes a_a_bytes_k a_b a_b_names a_b_names_k : Nat) (i_a_length : Int) (i_a_kind : Int) (i_a_start : Int) (i_a_end : Int) (i_a_code : Int) (i_a_offset : Int) (i_a_bytes : (Int → Int)) (i_b_size : Int) (i_b_names : (Int → Int)) (q : Int × Int × Int × Int × Int × Int × (Int → Int)) (hf : fn_Setup_readTopic i_a_bytes i_a_length i_a_kind i_a_start i_a_end i_a_code i_a_offset i_b_size i_b_names = some q) : jk_MV l D jk_cl (jk_ty cI cR) Z mn_Setup_readTopic (.code mn_Setup_readTopic mb_Setup_readTopic 2 none :: jk_WA) (jk_rm 4 86) [.ref a_a, .ref a_b] (wd_Setup_readTopic cI a_a a_a_bytes a_a_bytes_k a_b a_b_names a_b_names_k i_a_length i_a_kind i_a_start i_a_end i_a_code i_a_offset i_a_bytes i_b_size i_b_names) (wd_Setup_readTopic cI a_a a_a_bytes a_a_bytes_k a_b a_b_names a_b_names_k i_a_length q.1 q.2.1 q.2.2.1 q.2.2.2.1 q.2.2.2.2.1 i_a_bytes q.2.2.2.2.2.1 q.2.2.2.2.2.2) := by
  intro sz
  refine jk_body (by decide +kernel) (fun p e s m args below meth c hsz hz hin C => ?_) (Nat.le_of_ble_eq_true rfl)
  subst hsz
  unfold fn_Setup_readTopic at hf
  refine jk_aload_n C rd_Setup_readTopic_0 (k := 1) rfl ?_
  refine jk_getN C in_Topics (ci := 2) rfl 0 (by decide) (jk_nw hZ hz tn_6) 3 rfl rfl rd_Setup_readTopic_1 ?_
  refine jk_bipush C rd_Setup_readTopic_4 (by decide +kernel) ?_
  refine jk_icmp_lt (tgt := 15) C rd_Setup_readTopic_6 (by decide) hf (fun _ hf => ?_) (fun _ hf => ?_)
  · refine jk_aload_n C rd_Setup_readTopic_15 (k := 0) rfl ?_
    refine jk_aload_n C rd_Setup_readTopic_16 (k := 1) rfl ?_
    obtain ⟨q17, hq17, hf⟩ := jk_bind_h hf
    refine jk_callVv C hZ.1 hz (ct_Text_readNewTopic l D Z sq hZ cI cR a_a a_a_bytes a_a_bytes_k a_b a_b_names a_b_names_k i_a_length i_a_kind i_a_start i_a_end i_a_code i_a_offset i_a_bytes i_b_size i_b_names q17 hq17) tm_314 tm_315 tm_316 tm_2 tm_317 na_Text_readNewTopic ⟨Nat.le_of_ble_eq_true rfl, Nat.le_of_ble_eq_true rfl⟩ rfl [0, 1, 2, 3, 4, 5] rfl rfl rfl (ws' := wd_Setup_readTopic cI a_a a_a_bytes a_a_bytes_k a_b a_b_names a_b_names_k i_a_length q17.1 q17.2.1 q17.2.2.1 q17.2.2.2.1 q17.2.2.2.2.1 i_a_bytes q17.2.2.2.2.2.1 q17.2.2.2.2.2.2) rfl 0 3 rfl rfl rfl (st := []) rfl (Nat.le_of_ble_eq_true rfl) rd_Setup_readTopic_17 ?_ ⟨Nat.le_of_ble_eq_true rfl, Nat.le_of_ble_eq_true rfl⟩
    refine jk_aload_n C rd_Setup_readTopic_20 (k := 0) rfl ?_
    obtain ⟨q21, hq21, hf⟩ := jk_bind_h hf
    refine jk_callVv C hZ.1 hz (ct_Text_readSemicolon l D Z sq hZ cI cR a_a a_a_bytes a_a_bytes_k i_a_length q17.1 q17.2.1 q17.2.2.1 q17.2.2.2.1 q17.2.2.2.2.1 i_a_bytes q21 hq21) tm_333 tm_334 tm_335 tm_2 tm_336 na_Text_readSemicolon ⟨Nat.le_of_ble_eq_true rfl, Nat.le_of_ble_eq_true rfl⟩ rfl [0, 1, 2] rfl rfl rfl (ws' := wd_Setup_readTopic cI a_a a_a_bytes a_a_bytes_k a_b a_b_names a_b_names_k i_a_length q21.1 q21.2.1 q21.2.2.1 q21.2.2.2.1 q21.2.2.2.2 i_a_bytes q17.2.2.2.2.2.1 q17.2.2.2.2.2.2) rfl 0 3 rfl rfl rfl (st := []) rfl (Nat.le_of_ble_eq_true rfl) rd_Setup_readTopic_21 ?_ ⟨Nat.le_of_ble_eq_true rfl, Nat.le_of_ble_eq_true rfl⟩
    cases hf
    exact jk_vret C rfl rd_Setup_readTopic_24 rfl
  · refine jk_aload_n C rd_Setup_readTopic_9 (k := 0) rfl ?_
    refine jk_bipush C rd_Setup_readTopic_10 (by decide +kernel) ?_
    obtain ⟨q12, hq12, hf⟩ := jk_bind_h hf
    refine jk_callVv C hZ.1 hz (ct_Text_fail l D Z sq hZ cI cR a_a a_a_bytes i_a_length i_a_kind i_a_start i_a_end i_a_code i_a_offset 6 q12 hq12) tm_310 tm_311 tm_312 tm_2 tm_313 na_Text_fail ⟨Nat.le_of_ble_eq_true rfl, Nat.le_of_ble_eq_true rfl⟩ rfl [0] rfl rfl rfl (ws' := wd_Setup_readTopic cI a_a a_a_bytes a_a_bytes_k a_b a_b_names a_b_names_k i_a_length i_a_kind i_a_start i_a_end q12.1 q12.2 i_a_bytes i_b_size i_b_names) rfl 0 3 rfl rfl rfl (st := []) rfl (Nat.le_of_ble_eq_true rfl) rd_Setup_readTopic_12 ?_ ⟨Nat.le_of_ble_eq_true rfl, Nat.le_of_ble_eq_true rfl⟩
    refine jk_aload_n C rd_Setup_readTopic_15 (k := 0) rfl ?_
    refine jk_aload_n C rd_Setup_readTopic_16 (k := 1) rfl ?_
    obtain ⟨q17, hq17, hf⟩ := jk_bind_h hf
    refine jk_callVv C hZ.1 hz (ct_Text_readNewTopic l D Z sq hZ cI cR a_a a_a_bytes a_a_bytes_k a_b a_b_names a_b_names_k i_a_length i_a_kind i_a_start i_a_end q12.1 q12.2 i_a_bytes i_b_size i_b_names q17 hq17) tm_314 tm_315 tm_316 tm_2 tm_317 na_Text_readNewTopic ⟨Nat.le_of_ble_eq_true rfl, Nat.le_of_ble_eq_true rfl⟩ rfl [0, 1, 2, 3, 4, 5] rfl rfl rfl (ws' := wd_Setup_readTopic cI a_a a_a_bytes a_a_bytes_k a_b a_b_names a_b_names_k i_a_length q17.1 q17.2.1 q17.2.2.1 q17.2.2.2.1 q17.2.2.2.2.1 i_a_bytes q17.2.2.2.2.2.1 q17.2.2.2.2.2.2) rfl 0 3 rfl rfl rfl (st := []) rfl (Nat.le_of_ble_eq_true rfl) rd_Setup_readTopic_17 ?_ ⟨Nat.le_of_ble_eq_true rfl, Nat.le_of_ble_eq_true rfl⟩
    refine jk_aload_n C rd_Setup_readTopic_20 (k := 0) rfl ?_
    obtain ⟨q21, hq21, hf⟩ := jk_bind_h hf
    refine jk_callVv C hZ.1 hz (ct_Text_readSemicolon l D Z sq hZ cI cR a_a a_a_bytes a_a_bytes_k i_a_length q17.1 q17.2.1 q17.2.2.1 q17.2.2.2.1 q17.2.2.2.2.1 i_a_bytes q21 hq21) tm_333 tm_334 tm_335 tm_2 tm_336 na_Text_readSemicolon ⟨Nat.le_of_ble_eq_true rfl, Nat.le_of_ble_eq_true rfl⟩ rfl [0, 1, 2] rfl rfl rfl (ws' := wd_Setup_readTopic cI a_a a_a_bytes a_a_bytes_k a_b a_b_names a_b_names_k i_a_length q21.1 q21.2.1 q21.2.2.1 q21.2.2.2.1 q21.2.2.2.2 i_a_bytes q17.2.2.2.2.2.1 q17.2.2.2.2.2.2) rfl 0 3 rfl rfl rfl (st := []) rfl (Nat.le_of_ble_eq_true rfl) rd_Setup_readTopic_21 ?_ ⟨Nat.le_of_ble_eq_true rfl, Nat.le_of_ble_eq_true rfl⟩
    cases hf
    exact jk_vret C rfl rd_Setup_readTopic_24 rfl
def wd_Text_begin (cI : ClassId) (a_t a_t_bytes : Nat) (i_t_length : Int) (i_t_kind : Int) (i_t_start : Int) (i_t_end : Int) (i_t_code : Int) (i_t_offset : Int) : va_W := [(a_t, .inr (3, [.ref a_t_bytes, jk_V i_t_length, jk_V i_t_kind, jk_V i_t_start, jk_V i_t_end, jk_V i_t_code, jk_V i_t_offset]))]
set_option maxHeartbeats 4000000 in
set_option maxRecDepth 20000 in
theorem ct_Text_begin (l : Launch) (D : va_G) (Z : (Nat → Prop) → State → Heap → Prop) (sq : Nat → Nat) (hZ : jk_ZK Z sq) (cI cR : ClassId) (a_t a_t_bytes : Nat) (i_t_length : Int) (i_t_kind : Int) (i_t_start : Int) (i_t_end : Int) (i_t_code : Int) (i_t_offset : Int) (q : Int × Int × Int) (hf : fn_Text_begin i_t_end i_t_code i_t_offset = some q) : jk_MV l D jk_cl (jk_ty cI cR) Z mn_Text_begin (.code mn_Text_begin mb_Text_begin 1 none :: jk_WA) (jk_rm 0 0) [.ref a_t] (wd_Text_begin cI a_t a_t_bytes i_t_length i_t_kind i_t_start i_t_end i_t_code i_t_offset) (wd_Text_begin cI a_t a_t_bytes i_t_length i_t_kind i_t_start q.1 q.2.1 q.2.2) := by
  intro sz
  refine jk_body (by decide +kernel) (fun p e s m args below meth c hsz hz hin C => ?_) (Nat.le_of_ble_eq_true rfl)
  subst hsz
  unfold fn_Text_begin at hf
  refine jk_aload_n C rd_Text_begin_0 (k := 0) rfl ?_
  refine jk_iconst C rd_Text_begin_1 ?_
  refine jk_putf C in_Text ty_Text nm_Text (ci := 3) rfl 4 (by decide) tm_70 rfl rfl rfl 0 rfl (Nat.le_of_ble_eq_true rfl) rd_Text_begin_2 (ws' := wd_Text_begin cI a_t a_t_bytes i_t_length i_t_kind i_t_start 0 i_t_code i_t_offset) rfl ?_
  refine jk_aload_n C rd_Text_begin_5 (k := 0) rfl ?_
  refine jk_iconst C rd_Text_begin_6 ?_
  refine jk_putf C in_Text ty_Text nm_Text (ci := 3) rfl 5 (by decide) tm_71 rfl rfl rfl 0 rfl (Nat.le_of_ble_eq_true rfl) rd_Text_begin_7 (ws' := wd_Text_begin cI a_t a_t_bytes i_t_length i_t_kind i_t_start 0 0 i_t_offset) rfl ?_
  refine jk_aload_n C rd_Text_begin_10 (k := 0) rfl ?_
  refine jk_iconst C rd_Text_begin_11 ?_
  refine jk_putf C in_Text ty_Text nm_Text (ci := 3) rfl 6 (by decide) tm_73 rfl rfl rfl 0 rfl (Nat.le_of_ble_eq_true rfl) rd_Text_begin_12 (ws' := wd_Text_begin cI a_t a_t_bytes i_t_length i_t_kind i_t_start 0 0 ((-1))) rfl ?_
  cases hf
  exact jk_vret C rfl rd_Text_begin_15 rfl
def wd_Text_nextStatement (cI : ClassId) (a_t a_t_bytes a_t_bytes_k : Nat) (i_t_length : Int) (i_t_kind : Int) (i_t_start : Int) (i_t_end : Int) (i_t_code : Int) (i_t_offset : Int) (i_t_bytes : (Int → Int)) : va_W := [(a_t, .inr (3, [.ref a_t_bytes, jk_V i_t_length, jk_V i_t_kind, jk_V i_t_start, jk_V i_t_end, jk_V i_t_code, jk_V i_t_offset])), (a_t_bytes, .inr (0, [.ref a_t_bytes_k])), (a_t_bytes_k, jk_W cI 700 i_t_bytes)]
set_option maxHeartbeats 4000000 in
set_option maxRecDepth 20000 in
theorem ct_Text_nextStatement (l : Launch) (D : va_G) (Z : (Nat → Prop) → State → Heap → Prop) (sq : Nat → Nat) (hZ : jk_ZK Z sq) (cI cR : ClassId) (a_t a_t_bytes a_t_bytes_k : Nat) (i_t_length : Int) (i_t_kind : Int) (i_t_start : Int) (i_t_end : Int) (i_t_code : Int) (i_t_offset : Int) (i_t_bytes : (Int → Int)) (q : Int × Int × Int × Int) (hf : fn_Text_nextStatement i_t_bytes i_t_length i_t_kind i_t_start i_t_end i_t_code = some q) : jk_MI l D jk_cl (jk_ty cI cR) Z mn_Text_nextStatement (.code mn_Text_nextStatement mb_Text_nextStatement 1 (some .boolean) :: jk_WA) (jk_rm 3 64) [.ref a_t] (wd_Text_nextStatement cI a_t a_t_bytes a_t_bytes_k i_t_length i_t_kind i_t_start i_t_end i_t_code i_t_offset i_t_bytes) (wd_Text_nextStatement cI a_t a_t_bytes a_t_bytes_k i_t_length q.2.1 q.2.2.1 q.2.2.2 i_t_code i_t_offset i_t_bytes) q.1 := by
  intro sz
  refine jk_body (by decide +kernel) (fun p e s m args below meth c hsz hz hin C => ?_) (Nat.le_of_ble_eq_true rfl)
  subst hsz
  unfold fn_Text_nextStatement at hf
  refine jk_aload_n C rd_Text_nextStatement_0 (k := 0) rfl ?_
  obtain ⟨q1, hq1, hf⟩ := jk_bind_h hf
  refine jk_callVi C hZ.1 hz (ct_Text_hasFailed l D Z sq hZ cI cR a_t a_t_bytes i_t_length i_t_kind i_t_start i_t_end i_t_code i_t_offset q1 hq1) tm_286 tm_287 tm_288 tm_2 tm_289 na_Text_hasFailed ⟨Nat.le_of_ble_eq_true rfl, Nat.le_of_ble_eq_true rfl⟩ rfl [0] rfl rfl rfl (ws' := wd_Text_nextStatement cI a_t a_t_bytes a_t_bytes_k i_t_length i_t_kind i_t_start i_t_end i_t_code i_t_offset i_t_bytes) rfl 0 3 rfl rfl rfl (st := []) rfl (Nat.le_of_ble_eq_true rfl) rd_Text_nextStatement_1 ?_ ⟨Nat.le_of_ble_eq_true rfl, Nat.le_of_ble_eq_true rfl⟩
  refine jk_if_eq (tgt := 9) C rd_Text_nextStatement_4 (by decide) hf (fun _ hf => ?_) (fun _ hf => ?_)
  · refine jk_aload_n C rd_Text_nextStatement_9 (k := 0) rfl ?_
    obtain ⟨q10, hq10, hf⟩ := jk_bind_h hf
    refine jk_callVv C hZ.1 hz (ct_Text_next l D Z sq hZ cI cR a_t a_t_bytes a_t_bytes_k i_t_length i_t_kind i_t_start i_t_end i_t_code i_t_offset i_t_bytes q10 hq10) tm_290 tm_291 tm_292 tm_2 tm_293 na_Text_next ⟨Nat.le_of_ble_eq_true rfl, Nat.le_of_ble_eq_true rfl⟩ rfl [0, 1, 2] rfl rfl rfl (ws' := wd_Text_nextStatement cI a_t a_t_bytes a_t_bytes_k i_t_length q10.1 q10.2.1 q10.2.2 i_t_code i_t_offset i_t_bytes) rfl 0 3 rfl rfl rfl (st := []) rfl (Nat.le_of_ble_eq_true rfl) rd_Text_nextStatement_10 ?_ ⟨Nat.le_of_ble_eq_true rfl, Nat.le_of_ble_eq_true rfl⟩
    refine jk_aload_n C rd_Text_nextStatement_13 (k := 0) rfl ?_
    refine jk_get C in_Text (ci := 3) rfl 2 (by decide) tm_68 0 rfl rfl rd_Text_nextStatement_14 ?_
    refine jk_if_eq (tgt := 24) C rd_Text_nextStatement_17 (by decide) hf (fun _ hf => ?_) (fun _ hf => ?_)
    · refine jk_iconst C rd_Text_nextStatement_24 ?_
      cases hf
      exact jk_zret C (Or.inl rfl) rfl rd_Text_nextStatement_25 rfl
    · refine jk_iconst C rd_Text_nextStatement_20 ?_
      refine jk_goto (tgt := 25) C rd_Text_nextStatement_21 (by decide) ?_
      cases hf
      exact jk_zret C (Or.inr rfl) rfl rd_Text_nextStatement_25 rfl
  · refine jk_iconst C rd_Text_nextStatement_7 ?_
    cases hf
    exact jk_zret C (Or.inl rfl) rfl rd_Text_nextStatement_8 rfl
