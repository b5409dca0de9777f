theorem rd_Rd_only_31 : decode mb_Rd_only 31 = .ok (.iload_n 1, 1) := by decide +kernel
theorem rd_Rd_only_32 : decode mb_Rd_only 32 = .ok (.if_icmp .ne 36, 3) := by decide +kernel
theorem rd_Rd_only_35 : decode mb_Rd_only 35 = .ok (.aload_n 0, 1) := by decide +kernel
theorem rd_Rd_only_36 : decode mb_Rd_only 36 = .ok (.getfield 16, 3) := by decide +kernel
theorem rd_Rd_only_39 : decode mb_Rd_only 39 = .ok (.iload_n 2, 1) := by decide +kernel
theorem rd_Rd_only_40 : decode mb_Rd_only 40 = .ok (.invokeinterface 67 2, 5) := by decide +kernel
theorem rd_Rd_only_45 : decode mb_Rd_only 45 = .ok (.checkcast 38, 3) := by decide +kernel
theorem rd_Rd_only_48 : decode mb_Rd_only 48 = .ok (.getfield 83, 3) := by decide +kernel
theorem rd_Rd_only_51 : decode mb_Rd_only 51 = .ok (.ifCond .le 17, 3) := by decide +kernel
theorem rd_Rd_only_54 : decode mb_Rd_only 54 = .ok (.aload_n 0, 1) := by decide +kernel
theorem rd_Rd_only_55 : decode mb_Rd_only 55 = .ok (.getfield 16, 3) := by decide +kernel
theorem rd_Rd_only_58 : decode mb_Rd_only 58 = .ok (.iload_n 2, 1) := by decide +kernel
theorem rd_Rd_only_59 : decode mb_Rd_only 59 = .ok (.invokeinterface 67 2, 5) := by decide +kernel
theorem rd_Rd_only_64 : decode mb_Rd_only 64 = .ok (.checkcast 38, 3) := by decide +kernel
theorem rd_Rd_only_67 : decode mb_Rd_only 67 = .ok (.areturn, 1) := by decide +kernel
theorem rd_Rd_only_68 : decode mb_Rd_only 68 = .ok (.iinc 2 1, 3) := by decide +kernel
theorem rd_Rd_only_71 : decode mb_Rd_only 71 = .ok (.goto (-69), 3) := by decide +kernel
theorem rd_Rd_only_74 : decode mb_Rd_only 74 = .ok (.aconst_null, 1) := by decide +kernel
theorem rd_Rd_only_75 : decode mb_Rd_only 75 = .ok (.areturn, 1) := by decide +kernel
theorem cw_Rd_only : Jvm.Cond.code mn_Rd_only prog_15_method_5_code (3 : Nat) (Option.some (Jvm.ClassFile.FieldType.object "KnotReaderLaw$Cord")) ∈ jk_WA := jk_tb 1138 (by decide +kernel) (by decide +kernel)
theorem xw_Rd_only : Jvm.Cond.instanceMethod mn_Rd_only ∈ jk_WA := jk_tb 1136 (by decide +kernel) (by decide +kernel)
theorem sw_Rd_only : Jvm.Cond.selects "KnotReaderLaw$Reader" mn_Rd_only mn_Rd_only ∈ jk_WA := jk_tb 1137 (by decide +kernel) (by decide +kernel)
theorem rd_Rd_guess_0 : decode mb_Rd_guess 0 = .ok (.aload_n 0, 1) := by decide +kernel
theorem rd_Rd_guess_1 : decode mb_Rd_guess 1 = .ok (.getfield 10, 3) := by decide +kernel
theorem rd_Rd_guess_4 : decode mb_Rd_guess 4 = .ok (.iload_n 1, 1) := by decide +kernel
theorem rd_Rd_guess_5 : decode mb_Rd_guess 5 = .ok (.invokeinterface 67 2, 5) := by decide +kernel
theorem rd_Rd_guess_10 : decode mb_Rd_guess 10 = .ok (.checkcast 71, 3) := by decide +kernel
theorem rd_Rd_guess_13 : decode mb_Rd_guess 13 = .ok (.astore_n 2, 1) := by decide +kernel
theorem rd_Rd_guess_14 : decode mb_Rd_guess 14 = .ok (.aload_n 0, 1) := by decide +kernel
theorem rd_Rd_guess_15 : decode mb_Rd_guess 15 = .ok (.iload_n 1, 1) := by decide +kernel
theorem rd_Rd_guess_16 : decode mb_Rd_guess 16 = .ok (.invokevirtual 87, 3) := by decide +kernel
theorem rd_Rd_guess_19 : decode mb_Rd_guess 19 = .ok (.astore_n 3, 1) := by decide +kernel
theorem rd_Rd_guess_20 : decode mb_Rd_guess 20 = .ok (.aload_n 3, 1) := by decide +kernel
theorem rd_Rd_guess_21 : decode mb_Rd_guess 21 = .ok (.aload_n 2, 1) := by decide +kernel
theorem rd_Rd_guess_22 : decode mb_Rd_guess 22 = .ok (.getfield 73, 3) := by decide +kernel
theorem rd_Rd_guess_25 : decode mb_Rd_guess 25 = .ok (.if_acmp .ne 10, 3) := by decide +kernel
theorem rd_Rd_guess_28 : decode mb_Rd_guess 28 = .ok (.aload_n 2, 1) := by decide +kernel
theorem rd_Rd_guess_29 : decode mb_Rd_guess 29 = .ok (.invokevirtual 91, 3) := by decide +kernel
theorem rd_Rd_guess_32 : decode mb_Rd_guess 32 = .ok (.goto 20, 3) := by decide +kernel
theorem rd_Rd_guess_35 : decode mb_Rd_guess 35 = .ok (.aload_n 2, 1) := by decide +kernel
theorem rd_Rd_guess_36 : decode mb_Rd_guess 36 = .ok (.getfield 73, 3) := by decide +kernel
theorem rd_Rd_guess_39 : decode mb_Rd_guess 39 = .ok (.invokevirtual 94, 3) := by decide +kernel
theorem rd_Rd_guess_42 : decode mb_Rd_guess 42 = .ok (.aload_n 2, 1) := by decide +kernel
theorem rd_Rd_guess_43 : decode mb_Rd_guess 43 = .ok (.invokevirtual 91, 3) := by decide +kernel
theorem rd_Rd_guess_46 : decode mb_Rd_guess 46 = .ok (.isub, 1) := by decide +kernel
theorem rd_Rd_guess_47 : decode mb_Rd_guess 47 = .ok (.aload_n 3, 1) := by decide +kernel
theorem rd_Rd_guess_48 : decode mb_Rd_guess 48 = .ok (.invokevirtual 94, 3) := by decide +kernel
theorem rd_Rd_guess_51 : decode mb_Rd_guess 51 = .ok (.iadd, 1) := by decide +kernel
theorem rd_Rd_guess_52 : decode mb_Rd_guess 52 = .ok (.ireturn, 1) := by decide +kernel
theorem cw_Rd_guess : Jvm.Cond.code mn_Rd_guess prog_15_method_6_code (4 : Nat) (some .int) ∈ jk_WA := jk_tb 1134 (by decide +kernel) (by decide +kernel)
theorem xw_Rd_guess : Jvm.Cond.instanceMethod mn_Rd_guess ∈ jk_WA := jk_tb 1132 (by decide +kernel) (by decide +kernel)
theorem sw_Rd_guess : Jvm.Cond.selects "KnotReaderLaw$Reader" mn_Rd_guess mn_Rd_guess ∈ jk_WA := jk_tb 1133 (by decide +kernel) (by decide +kernel)
theorem rd_Rd_reason_0 : decode mb_Rd_reason 0 = .ok (.aload_n 0, 1) := by decide +kernel
theorem rd_Rd_reason_1 : decode mb_Rd_reason 1 = .ok (.getfield 10, 3) := by decide +kernel
theorem rd_Rd_reason_4 : decode mb_Rd_reason 4 = .ok (.iload_n 1, 1) := by decide +kernel
theorem rd_Rd_reason_5 : decode mb_Rd_reason 5 = .ok (.invokeinterface 67 2, 5) := by decide +kernel
theorem rd_Rd_reason_10 : decode mb_Rd_reason 10 = .ok (.checkcast 71, 3) := by decide +kernel
theorem rd_Rd_reason_13 : decode mb_Rd_reason 13 = .ok (.astore_n 2, 1) := by decide +kernel
theorem rd_Rd_reason_14 : decode mb_Rd_reason 14 = .ok (.aload_n 2, 1) := by decide +kernel
theorem rd_Rd_reason_15 : decode mb_Rd_reason 15 = .ok (.getfield 73, 3) := by decide +kernel
theorem rd_Rd_reason_18 : decode mb_Rd_reason 18 = .ok (.ifnonnull 5, 3) := by decide +kernel
theorem rd_Rd_reason_21 : decode mb_Rd_reason 21 = .ok (.iconst 1, 1) := by decide +kernel
theorem rd_Rd_reason_22 : decode mb_Rd_reason 22 = .ok (.ireturn, 1) := by decide +kernel
theorem rd_Rd_reason_23 : decode mb_Rd_reason 23 = .ok (.aload_n 2, 1) := by decide +kernel
theorem rd_Rd_reason_24 : decode mb_Rd_reason 24 = .ok (.invokevirtual 97, 3) := by decide +kernel
theorem rd_Rd_reason_27 : decode mb_Rd_reason 27 = .ok (.istore_n 3, 1) := by decide +kernel
theorem rd_Rd_reason_28 : decode mb_Rd_reason 28 = .ok (.iload_n 3, 1) := by decide +kernel
theorem rd_Rd_reason_29 : decode mb_Rd_reason 29 = .ok (.ifCond .ne 5, 3) := by decide +kernel
theorem rd_Rd_reason_32 : decode mb_Rd_reason 32 = .ok (.iconst 2, 1) := by decide +kernel
theorem rd_Rd_reason_33 : decode mb_Rd_reason 33 = .ok (.ireturn, 1) := by decide +kernel
theorem rd_Rd_reason_34 : decode mb_Rd_reason 34 = .ok (.iload_n 3, 1) := by decide +kernel
theorem rd_Rd_reason_35 : decode mb_Rd_reason 35 = .ok (.iconst 1, 1) := by decide +kernel
theorem rd_Rd_reason_36 : decode mb_Rd_reason 36 = .ok (.if_icmp .le 5, 3) := by decide +kernel
theorem rd_Rd_reason_39 : decode mb_Rd_reason 39 = .ok (.iconst 3, 1) := by decide +kernel
theorem rd_Rd_reason_40 : decode mb_Rd_reason 40 = .ok (.ireturn, 1) := by decide +kernel
theorem rd_Rd_reason_41 : decode mb_Rd_reason 41 = .ok (.aload_n 0, 1) := by decide +kernel
theorem rd_Rd_reason_42 : decode mb_Rd_reason 42 = .ok (.iload_n 1, 1) := by decide +kernel
theorem rd_Rd_reason_43 : decode mb_Rd_reason 43 = .ok (.invokevirtual 100, 3) := by decide +kernel
theorem rd_Rd_reason_46 : decode mb_Rd_reason 46 = .ok (.istore 4, 2) := by decide +kernel
theorem rd_Rd_reason_48 : decode mb_Rd_reason 48 = .ok (.iload 4, 2) := by decide +kernel
theorem rd_Rd_reason_50 : decode mb_Rd_reason 50 = .ok (.ifCond .lt 11, 3) := by decide +kernel
theorem rd_Rd_reason_53 : decode mb_Rd_reason 53 = .ok (.iload 4, 2) := by decide +kernel
theorem rd_Rd_reason_55 : decode mb_Rd_reason 55 = .ok (.sipush 9999, 3) := by decide +kernel
theorem rd_Rd_reason_58 : decode mb_Rd_reason 58 = .ok (.if_icmp .le 5, 3) := by decide +kernel
theorem rd_Rd_reason_61 : decode mb_Rd_reason 61 = .ok (.iconst 4, 1) := by decide +kernel
theorem rd_Rd_reason_62 : decode mb_Rd_reason 62 = .ok (.ireturn, 1) := by decide +kernel
theorem rd_Rd_reason_63 : decode mb_Rd_reason 63 = .ok (.aload_n 0, 1) := by decide +kernel
theorem rd_Rd_reason_64 : decode mb_Rd_reason 64 = .ok (.iload_n 1, 1) := by decide +kernel
theorem rd_Rd_reason_65 : decode mb_Rd_reason 65 = .ok (.invokevirtual 87, 3) := by decide +kernel
theorem rd_Rd_reason_68 : decode mb_Rd_reason 68 = .ok (.astore 5, 2) := by decide +kernel
theorem rd_Rd_reason_70 : decode mb_Rd_reason 70 = .ok (.new 38, 3) := by decide +kernel
theorem rd_Rd_reason_73 : decode mb_Rd_reason 73 = .ok (.dup, 1) := by decide +kernel
theorem rd_Rd_reason_74 : decode mb_Rd_reason 74 = .ok (.iconst 0, 1) := by decide +kernel
theorem rd_Rd_reason_75 : decode mb_Rd_reason 75 = .ok (.iload 4, 2) := by decide +kernel
theorem rd_Rd_reason_77 : decode mb_Rd_reason 77 = .ok (.invokespecial 104, 3) := by decide +kernel
theorem rd_Rd_reason_80 : decode mb_Rd_reason 80 = .ok (.astore 6, 2) := by decide +kernel
theorem rd_Rd_reason_82 : decode mb_Rd_reason 82 = .ok (.aload 5, 2) := by decide +kernel
theorem rd_Rd_reason_84 : decode mb_Rd_reason 84 = .ok (.getfield 83, 3) := by decide +kernel
theorem rd_Rd_reason_87 : decode mb_Rd_reason 87 = .ok (.istore 7, 2) := by decide +kernel
theorem rd_Rd_reason_89 : decode mb_Rd_reason 89 = .ok (.iload 7, 2) := by decide +kernel
theorem rd_Rd_reason_91 : decode mb_Rd_reason 91 = .ok (.iconst 4, 1) := by decide +kernel
theorem rd_Rd_reason_92 : decode mb_Rd_reason 92 = .ok (.if_icmp .ge 30, 3) := by decide +kernel
theorem rd_Rd_reason_95 : decode mb_Rd_reason 95 = .ok (.aload 6, 2) := by decide +kernel
theorem rd_Rd_reason_97 : decode mb_Rd_reason 97 = .ok (.getfield 107, 3) := by decide +kernel
theorem rd_Rd_reason_100 : decode mb_Rd_reason 100 = .ok (.iload 7, 2) := by decide +kernel
theorem rd_Rd_reason_102 : decode mb_Rd_reason 102 = .ok (.iaload, 1) := by decide +kernel
theorem rd_Rd_reason_103 : decode mb_Rd_reason 103 = .ok (.aload 5, 2) := by decide +kernel
theorem rd_Rd_reason_105 : decode mb_Rd_reason 105 = .ok (.getfield 107, 3) := by decide +kernel
theorem rd_Rd_reason_108 : decode mb_Rd_reason 108 = .ok (.iload 7, 2) := by decide +kernel
theorem rd_Rd_reason_110 : decode mb_Rd_reason 110 = .ok (.iaload, 1) := by decide +kernel
theorem rd_Rd_reason_111 : decode mb_Rd_reason 111 = .ok (.if_icmp .eq 5, 3) := by decide +kernel
theorem rd_Rd_reason_114 : decode mb_Rd_reason 114 = .ok (.iconst 4, 1) := by decide +kernel
theorem rd_Rd_reason_115 : decode mb_Rd_reason 115 = .ok (.ireturn, 1) := by decide +kernel
theorem rd_Rd_reason_116 : decode mb_Rd_reason 116 = .ok (.iinc 7 1, 3) := by decide +kernel
theorem rd_Rd_reason_119 : decode mb_Rd_reason 119 = .ok (.goto (-30), 3) := by decide +kernel
theorem rd_Rd_reason_122 : decode mb_Rd_reason 122 = .ok (.iconst 0, 1) := by decide +kernel
theorem rd_Rd_reason_123 : decode mb_Rd_reason 123 = .ok (.ireturn, 1) := by decide +kernel
theorem cw_Rd_reason : Jvm.Cond.code mn_Rd_reason prog_15_method_7_code (8 : Nat) (some .int) ∈ jk_WA := jk_tb 1129 (by decide +kernel) (by decide +kernel)
theorem xw_Rd_reason : Jvm.Cond.instanceMethod mn_Rd_reason ∈ jk_WA := jk_tb 1127 (by decide +kernel) (by decide +kernel)
theorem sw_Rd_reason : Jvm.Cond.selects "KnotReaderLaw$Reader" mn_Rd_reason mn_Rd_reason ∈ jk_WA := jk_tb 1128 (by decide +kernel) (by decide +kernel)
theorem rd_Rd_removes_0 : decode mb_Rd_removes 0 = .ok (.aload_n 0, 1) := by decide +kernel
theorem rd_Rd_removes_1 : decode mb_Rd_removes 1 = .ok (.getfield 10, 3) := by decide +kernel
theorem rd_Rd_removes_4 : decode mb_Rd_removes 4 = .ok (.invokeinterface 42 1, 5) := by decide +kernel
theorem rd_Rd_removes_9 : decode mb_Rd_removes 9 = .ok (.astore_n 2, 1) := by decide +kernel
theorem rd_Rd_removes_10 : decode mb_Rd_removes 10 = .ok (.aload_n 2, 1) := by decide +kernel
theorem rd_Rd_removes_11 : decode mb_Rd_removes 11 = .ok (.invokeinterface 46 1, 5) := by decide +kernel
theorem rd_Rd_removes_16 : decode mb_Rd_removes 16 = .ok (.ifCond .eq 38, 3) := by decide +kernel
theorem rd_Rd_removes_19 : decode mb_Rd_removes 19 = .ok (.aload_n 2, 1) := by decide +kernel
theorem rd_Rd_removes_20 : decode mb_Rd_removes 20 = .ok (.invokeinterface 52 1, 5) := by decide +kernel
theorem rd_Rd_removes_25 : decode mb_Rd_removes 25 = .ok (.checkcast 71, 3) := by decide +kernel
theorem rd_Rd_removes_28 : decode mb_Rd_removes 28 = .ok (.astore_n 3, 1) := by decide +kernel
theorem rd_Rd_removes_29 : decode mb_Rd_removes 29 = .ok (.aload_n 3, 1) := by decide +kernel
theorem rd_Rd_removes_30 : decode mb_Rd_removes 30 = .ok (.getfield 73, 3) := by decide +kernel
theorem rd_Rd_removes_33 : decode mb_Rd_removes 33 = .ok (.aload_n 1, 1) := by decide +kernel
theorem rd_Rd_removes_34 : decode mb_Rd_removes 34 = .ok (.if_acmp .ne 8, 3) := by decide +kernel
theorem rd_Rd_removes_37 : decode mb_Rd_removes 37 = .ok (.aload_n 3, 1) := by decide +kernel
theorem rd_Rd_removes_38 : decode mb_Rd_removes 38 = .ok (.aconst_null, 1) := by decide +kernel
theorem rd_Rd_removes_39 : decode mb_Rd_removes 39 = .ok (.putfield 73, 3) := by decide +kernel
theorem rd_Rd_removes_42 : decode mb_Rd_removes 42 = .ok (.aload_n 0, 1) := by decide +kernel
theorem rd_Rd_removes_43 : decode mb_Rd_removes 43 = .ok (.aload_n 3, 1) := by decide +kernel
theorem rd_Rd_removes_44 : decode mb_Rd_removes 44 = .ok (.getfield 77, 3) := by decide +kernel
theorem rd_Rd_removes_47 : decode mb_Rd_removes 47 = .ok (.aload_n 1, 1) := by decide +kernel
theorem rd_Rd_removes_48 : decode mb_Rd_removes 48 = .ok (.invokevirtual 111, 3) := by decide +kernel
theorem rd_Rd_removes_51 : decode mb_Rd_removes 51 = .ok (.goto (-41), 3) := by decide +kernel
theorem rd_Rd_removes_54 : decode mb_Rd_removes 54 = .ok (.return_, 1) := by decide +kernel
theorem cw_Rd_removes : Jvm.Cond.code mn_Rd_removes prog_15_method_8_code (4 : Nat) none ∈ jk_WA := jk_tb 1304 (by decide +kernel) (by decide +kernel)
theorem xw_Rd_removes : Jvm.Cond.instanceMethod mn_Rd_removes ∈ jk_WA := jk_tb 1302 (by decide +kernel) (by decide +kernel)
theorem sw_Rd_removes : Jvm.Cond.selects "KnotReaderLaw$Reader" mn_Rd_removes mn_Rd_removes ∈ jk_WA := jk_tb 1303 (by decide +kernel) (by decide +kernel)
theorem rd_Rd_removesFrom_0 : decode mb_Rd_removesFrom 0 = .ok (.aload_n 1, 1) := by decide +kernel
theorem rd_Rd_removesFrom_1 : decode mb_Rd_removesFrom 1 = .ok (.invokeinterface 63 1, 5) := by decide +kernel
theorem rd_Rd_removesFrom_6 : decode mb_Rd_removesFrom 6 = .ok (.iconst 1, 1) := by decide +kernel
theorem rd_Rd_removesFrom_7 : decode mb_Rd_removesFrom 7 = .ok (.isub, 1) := by decide +kernel
theorem rd_Rd_removesFrom_8 : decode mb_Rd_removesFrom 8 = .ok (.istore_n 3, 1) := by decide +kernel
theorem rd_Rd_removesFrom_9 : decode mb_Rd_removesFrom 9 = .ok (.iload_n 3, 1) := by decide +kernel
theorem rd_Rd_removesFrom_10 : decode mb_Rd_removesFrom 10 = .ok (.ifCond .lt 53, 3) := by decide +kernel
theorem rd_Rd_removesFrom_13 : decode mb_Rd_removesFrom 13 = .ok (.aload_n 1, 1) := by decide +kernel
theorem rd_Rd_removesFrom_14 : decode mb_Rd_removesFrom 14 = .ok (.iload_n 3, 1) := by decide +kernel
theorem rd_Rd_removesFrom_15 : decode mb_Rd_removesFrom 15 = .ok (.invokeinterface 67 2, 5) := by decide +kernel
theorem rd_Rd_removesFrom_20 : decode mb_Rd_removesFrom 20 = .ok (.aload_n 2, 1) := by decide +kernel
theorem rd_Rd_removesFrom_21 : decode mb_Rd_removesFrom 21 = .ok (.if_acmp .ne 18, 3) := by decide +kernel
theorem rd_Rd_removesFrom_24 : decode mb_Rd_removesFrom 24 = .ok (.aload_n 1, 1) := by decide +kernel
theorem rd_Rd_removesFrom_25 : decode mb_Rd_removesFrom 25 = .ok (.iload_n 3, 1) := by decide +kernel
theorem rd_Rd_removesFrom_26 : decode mb_Rd_removesFrom 26 = .ok (.invokeinterface 115 2, 5) := by decide +kernel
theorem rd_Rd_removesFrom_31 : decode mb_Rd_removesFrom 31 = .ok (.checkcast 38, 3) := by decide +kernel
theorem rd_Rd_removesFrom_34 : decode mb_Rd_removesFrom 34 = .ok (.astore 4, 2) := by decide +kernel
theorem rd_Rd_removesFrom_36 : decode mb_Rd_removesFrom 36 = .ok (.goto 21, 3) := by decide +kernel
theorem rd_Rd_removesFrom_39 : decode mb_Rd_removesFrom 39 = .ok (.aload_n 0, 1) := by decide +kernel
theorem rd_Rd_removesFrom_40 : decode mb_Rd_removesFrom 40 = .ok (.aload_n 1, 1) := by decide +kernel
theorem rd_Rd_removesFrom_41 : decode mb_Rd_removesFrom 41 = .ok (.iload_n 3, 1) := by decide +kernel
theorem rd_Rd_removesFrom_42 : decode mb_Rd_removesFrom 42 = .ok (.invokeinterface 67 2, 5) := by decide +kernel
theorem rd_Rd_removesFrom_47 : decode mb_Rd_removesFrom 47 = .ok (.checkcast 38, 3) := by decide +kernel
theorem rd_Rd_removesFrom_50 : decode mb_Rd_removesFrom 50 = .ok (.getfield 37, 3) := by decide +kernel
theorem rd_Rd_removesFrom_53 : decode mb_Rd_removesFrom 53 = .ok (.aload_n 2, 1) := by decide +kernel
theorem rd_Rd_removesFrom_54 : decode mb_Rd_removesFrom 54 = .ok (.invokevirtual 111, 3) := by decide +kernel
theorem rd_Rd_removesFrom_57 : decode mb_Rd_removesFrom 57 = .ok (.iinc 3 (-1), 3) := by decide +kernel
theorem rd_Rd_removesFrom_60 : decode mb_Rd_removesFrom 60 = .ok (.goto (-51), 3) := by decide +kernel
theorem rd_Rd_removesFrom_63 : decode mb_Rd_removesFrom 63 = .ok (.return_, 1) := by decide +kernel
theorem cw_Rd_removesFrom : Jvm.Cond.code mn_Rd_removesFrom prog_15_method_9_code (5 : Nat) none ∈ jk_WA := jk_tb 1308 (by decide +kernel) (by decide +kernel)
theorem xw_Rd_removesFrom : Jvm.Cond.instanceMethod mn_Rd_removesFrom ∈ jk_WA := jk_tb 1307 (by decide +kernel) (by decide +kernel)
theorem sw_Rd_removesFrom : Cond.selects mn_Rd_removesFrom.cls mn_Rd_removesFrom mn_Rd_removesFrom ∈ jk_WA := jk_sl 21 (k := 4) (by decide +kernel)
theorem rd_ASB_init_0 : decode mb_ASB_init 0 = .ok (.aload_n 0, 1) := by decide +kernel
theorem rd_ASB_init_1 : decode mb_ASB_init 1 = .ok (.invokespecial 3, 3) := by decide +kernel
theorem rd_ASB_init_4 : decode mb_ASB_init 4 = .ok (.aload_n 1, 1) := by decide +kernel
theorem rd_ASB_init_5 : decode mb_ASB_init 5 = .ok (.invokevirtual 32, 3) := by decide +kernel
theorem rd_ASB_init_8 : decode mb_ASB_init 8 = .ok (.istore_n 2, 1) := by decide +kernel
theorem rd_ASB_init_9 : decode mb_ASB_init 9 = .ok (.iload_n 2, 1) := by decide +kernel
theorem rd_ASB_init_10 : decode mb_ASB_init 10 = .ok (.ldc 38, 2) := by decide +kernel
theorem rd_ASB_init_12 : decode mb_ASB_init 12 = .ok (.if_icmp .ge 10, 3) := by decide +kernel
theorem rd_ASB_init_15 : decode mb_ASB_init 15 = .ok (.iload_n 2, 1) := by decide +kernel
theorem rd_ASB_init_16 : decode mb_ASB_init 16 = .ok (.bipush 16, 2) := by decide +kernel
theorem rd_ASB_init_18 : decode mb_ASB_init 18 = .ok (.iadd, 1) := by decide +kernel
theorem rd_ASB_init_19 : decode mb_ASB_init 19 = .ok (.goto 5, 3) := by decide +kernel
theorem rd_ASB_init_22 : decode mb_ASB_init 22 = .ok (.ldc 39, 2) := by decide +kernel
theorem rd_ASB_init_24 : decode mb_ASB_init 24 = .ok (.istore_n 3, 1) := by decide +kernel
theorem rd_ASB_init_25 : decode mb_ASB_init 25 = .ok (.aload_n 1, 1) := by decide +kernel
theorem rd_ASB_init_26 : decode mb_ASB_init 26 = .ok (.invokevirtual 40, 3) := by decide +kernel
theorem rd_ASB_init_29 : decode mb_ASB_init 29 = .ok (.istore 4, 2) := by decide +kernel
theorem rd_ASB_init_31 : decode mb_ASB_init 31 = .ok (.aload_n 0, 1) := by decide +kernel
theorem rd_ASB_init_32 : decode mb_ASB_init 32 = .ok (.iload 4, 2) := by decide +kernel
theorem rd_ASB_init_34 : decode mb_ASB_init 34 = .ok (.putfield 22, 3) := by decide +kernel
theorem rd_ASB_init_37 : decode mb_ASB_init 37 = .ok (.aload_n 0, 1) := by decide +kernel
theorem rd_ASB_init_38 : decode mb_ASB_init 38 = .ok (.iload 4, 2) := by decide +kernel
theorem rd_ASB_init_40 : decode mb_ASB_init 40 = .ok (.ifCond .ne 9, 3) := by decide +kernel
theorem rd_ASB_init_43 : decode mb_ASB_init 43 = .ok (.iload_n 3, 1) := by decide +kernel
theorem rd_ASB_init_44 : decode mb_ASB_init 44 = .ok (.newarray .byte, 2) := by decide +kernel
theorem rd_ASB_init_46 : decode mb_ASB_init 46 = .ok (.goto 7, 3) := by decide +kernel
theorem rd_ASB_init_49 : decode mb_ASB_init 49 = .ok (.iload_n 3, 1) := by decide +kernel
theorem rd_ASB_init_50 : decode mb_ASB_init 50 = .ok (.invokestatic 26, 3) := by decide +kernel
theorem rd_ASB_init_53 : decode mb_ASB_init 53 = .ok (.putfield 15, 3) := by decide +kernel
theorem rd_ASB_init_56 : decode mb_ASB_init 56 = .ok (.aload_n 0, 1) := by decide +kernel
theorem rd_ASB_init_57 : decode mb_ASB_init 57 = .ok (.aload_n 1, 1) := by decide +kernel
theorem rd_ASB_init_58 : decode mb_ASB_init 58 = .ok (.invokevirtual 43, 3) := by decide +kernel
theorem rd_ASB_init_61 : decode mb_ASB_init 61 = .ok (.pop, 1) := by decide +kernel
theorem rd_ASB_init_62 : decode mb_ASB_init 62 = .ok (.return_, 1) := by decide +kernel
theorem cw_ASB_init : Jvm.Cond.code mn_ASB_init prog_18_method_3_code (5 : Nat) none ∈ jk_WA := jk_tb 1361 (by decide +kernel) (by decide +kernel)
theorem xw_ASB_init : Jvm.Cond.instanceMethod mn_ASB_init ∈ jk_WA := jk_tb 1360 (by decide +kernel) (by decide +kernel)
theorem rd_ASB_length_0 : decode mb_ASB_length 0 = .ok (.aload_n 0, 1) := by decide +kernel
theorem rd_ASB_length_1 : decode mb_ASB_length 1 = .ok (.getfield 79, 3) := by decide +kernel
theorem rd_ASB_length_4 : decode mb_ASB_length 4 = .ok (.ireturn, 1) := by decide +kernel
theorem cw_ASB_length : Jvm.Cond.code mn_ASB_length prog_18_method_6_code (1 : Nat) (some .int) ∈ jk_WA := jk_tb 1540 (by decide +kernel) (by decide +kernel)
theorem xw_ASB_length : Jvm.Cond.instanceMethod mn_ASB_length ∈ jk_WA := jk_tb 1534 (by decide +kernel) (by decide +kernel)
theorem rd_ASB_ensureCapacityInternal_0 : decode mb_ASB_ensureCapacityInternal 0 = .ok (.aload_n 0, 1) := by decide +kernel
theorem rd_ASB_ensureCapacityInternal_1 : decode mb_ASB_ensureCapacityInternal 1 = .ok (.getfield 15, 3) := by decide +kernel
theorem rd_ASB_ensureCapacityInternal_4 : decode mb_ASB_ensureCapacityInternal 4 = .ok (.arraylength, 1) := by decide +kernel
theorem rd_ASB_ensureCapacityInternal_5 : decode mb_ASB_ensureCapacityInternal 5 = .ok (.aload_n 0, 1) := by decide +kernel
theorem rd_ASB_ensureCapacityInternal_6 : decode mb_ASB_ensureCapacityInternal 6 = .ok (.getfield 22, 3) := by decide +kernel
theorem rd_ASB_ensureCapacityInternal_9 : decode mb_ASB_ensureCapacityInternal 9 = .ok (.ishr, 1) := by decide +kernel
theorem rd_ASB_ensureCapacityInternal_10 : decode mb_ASB_ensureCapacityInternal 10 = .ok (.istore_n 2, 1) := by decide +kernel
theorem rd_ASB_ensureCapacityInternal_11 : decode mb_ASB_ensureCapacityInternal 11 = .ok (.iload_n 1, 1) := by decide +kernel
theorem rd_ASB_ensureCapacityInternal_12 : decode mb_ASB_ensureCapacityInternal 12 = .ok (.iload_n 2, 1) := by decide +kernel
theorem rd_ASB_ensureCapacityInternal_13 : decode mb_ASB_ensureCapacityInternal 13 = .ok (.isub, 1) := by decide +kernel
theorem rd_ASB_ensureCapacityInternal_14 : decode mb_ASB_ensureCapacityInternal 14 = .ok (.ifCond .le 24, 3) := by decide +kernel
theorem rd_ASB_ensureCapacityInternal_17 : decode mb_ASB_ensureCapacityInternal 17 = .ok (.aload_n 0, 1) := by decide +kernel
theorem rd_ASB_ensureCapacityInternal_18 : decode mb_ASB_ensureCapacityInternal 18 = .ok (.aload_n 0, 1) := by decide +kernel
theorem rd_ASB_ensureCapacityInternal_19 : decode mb_ASB_ensureCapacityInternal 19 = .ok (.getfield 15, 3) := by decide +kernel
theorem rd_ASB_ensureCapacityInternal_22 : decode mb_ASB_ensureCapacityInternal 22 = .ok (.aload_n 0, 1) := by decide +kernel
theorem rd_ASB_ensureCapacityInternal_23 : decode mb_ASB_ensureCapacityInternal 23 = .ok (.iload_n 1, 1) := by decide +kernel
theorem rd_ASB_ensureCapacityInternal_24 : decode mb_ASB_ensureCapacityInternal 24 = .ok (.invokevirtual 104, 3) := by decide +kernel
theorem rd_ASB_ensureCapacityInternal_27 : decode mb_ASB_ensureCapacityInternal 27 = .ok (.aload_n 0, 1) := by decide +kernel
theorem rd_ASB_ensureCapacityInternal_28 : decode mb_ASB_ensureCapacityInternal 28 = .ok (.getfield 22, 3) := by decide +kernel
theorem rd_ASB_ensureCapacityInternal_31 : decode mb_ASB_ensureCapacityInternal 31 = .ok (.ishl, 1) := by decide +kernel
theorem rd_ASB_ensureCapacityInternal_32 : decode mb_ASB_ensureCapacityInternal 32 = .ok (.invokestatic 108, 3) := by decide +kernel
theorem rd_ASB_ensureCapacityInternal_35 : decode mb_ASB_ensureCapacityInternal 35 = .ok (.putfield 15, 3) := by decide +kernel
theorem rd_ASB_ensureCapacityInternal_38 : decode mb_ASB_ensureCapacityInternal 38 = .ok (.return_, 1) := by decide +kernel
theorem cw_ASB_ensureCapacityInternal : Jvm.Cond.code mn_ASB_ensureCapacityInternal prog_18_method_9_code (3 : Nat) none ∈ jk_WA := jk_tb 1394 (by decide +kernel) (by decide +kernel)
theorem xw_ASB_ensureCapacityInternal : Jvm.Cond.instanceMethod mn_ASB_ensureCapacityInternal ∈ jk_WA := jk_tb 1393 (by decide +kernel) (by decide +kernel)
theorem rd_ASB_newCapacity_0 : decode mb_ASB_newCapacity 0 = .ok (.aload_n 0, 1) := by decide +kernel
theorem rd_ASB_newCapacity_1 : decode mb_ASB_newCapacity 1 = .ok (.getfield 15, 3) := by decide +kernel
theorem rd_ASB_newCapacity_4 : decode mb_ASB_newCapacity 4 = .ok (.arraylength, 1) := by decide +kernel
theorem rd_ASB_newCapacity_5 : decode mb_ASB_newCapacity 5 = .ok (.istore_n 2, 1) := by decide +kernel
theorem rd_ASB_newCapacity_6 : decode mb_ASB_newCapacity 6 = .ok (.iload_n 1, 1) := by decide +kernel
theorem rd_ASB_newCapacity_7 : decode mb_ASB_newCapacity 7 = .ok (.aload_n 0, 1) := by decide +kernel
theorem rd_ASB_newCapacity_8 : decode mb_ASB_newCapacity 8 = .ok (.getfield 22, 3) := by decide +kernel
theorem rd_ASB_newCapacity_11 : decode mb_ASB_newCapacity 11 = .ok (.ishl, 1) := by decide +kernel
theorem rd_ASB_newCapacity_12 : decode mb_ASB_newCapacity 12 = .ok (.istore_n 3, 1) := by decide +kernel
theorem rd_ASB_newCapacity_13 : decode mb_ASB_newCapacity 13 = .ok (.iload_n 3, 1) := by decide +kernel
theorem rd_ASB_newCapacity_14 : decode mb_ASB_newCapacity 14 = .ok (.iload_n 2, 1) := by decide +kernel
theorem rd_ASB_newCapacity_15 : decode mb_ASB_newCapacity 15 = .ok (.isub, 1) := by decide +kernel
theorem rd_ASB_newCapacity_16 : decode mb_ASB_newCapacity 16 = .ok (.istore 4, 2) := by decide +kernel
theorem rd_ASB_newCapacity_18 : decode mb_ASB_newCapacity 18 = .ok (.iload_n 2, 1) := by decide +kernel
theorem rd_ASB_newCapacity_19 : decode mb_ASB_newCapacity 19 = .ok (.iload 4, 2) := by decide +kernel
theorem rd_ASB_newCapacity_21 : decode mb_ASB_newCapacity 21 = .ok (.iload_n 2, 1) := by decide +kernel
theorem rd_ASB_newCapacity_22 : decode mb_ASB_newCapacity 22 = .ok (.iconst 2, 1) := by decide +kernel
theorem rd_ASB_newCapacity_23 : decode mb_ASB_newCapacity 23 = .ok (.aload_n 0, 1) := by decide +kernel
theorem rd_ASB_newCapacity_24 : decode mb_ASB_newCapacity 24 = .ok (.getfield 22, 3) := by decide +kernel
theorem rd_ASB_newCapacity_27 : decode mb_ASB_newCapacity 27 = .ok (.ishl, 1) := by decide +kernel
theorem rd_ASB_newCapacity_28 : decode mb_ASB_newCapacity 28 = .ok (.iadd, 1) := by decide +kernel
theorem rd_ASB_newCapacity_29 : decode mb_ASB_newCapacity 29 = .ok (.invokestatic 114, 3) := by decide +kernel
theorem rd_ASB_newCapacity_32 : decode mb_ASB_newCapacity 32 = .ok (.istore 5, 2) := by decide +kernel
theorem rd_ASB_newCapacity_34 : decode mb_ASB_newCapacity 34 = .ok (.iload 5, 2) := by decide +kernel
theorem rd_ASB_newCapacity_36 : decode mb_ASB_newCapacity 36 = .ok (.ldc 39, 2) := by decide +kernel
theorem rd_ASB_newCapacity_38 : decode mb_ASB_newCapacity 38 = .ok (.if_icmp .ne 13, 3) := by decide +kernel
theorem rd_ASB_newCapacity_41 : decode mb_ASB_newCapacity 41 = .ok (.new 120, 3) := by decide +kernel
theorem rd_ASB_newCapacity_44 : decode mb_ASB_newCapacity 44 = .ok (.dup, 1) := by decide +kernel
theorem rd_ASB_newCapacity_45 : decode mb_ASB_newCapacity 45 = .ok (.ldc 122, 2) := by decide +kernel
theorem rd_ASB_newCapacity_47 : decode mb_ASB_newCapacity 47 = .ok (.invokespecial 124, 3) := by decide +kernel
theorem rd_ASB_newCapacity_50 : decode mb_ASB_newCapacity 50 = .ok (.athrow, 1) := by decide +kernel
theorem rd_ASB_newCapacity_51 : decode mb_ASB_newCapacity 51 = .ok (.iload 5, 2) := by decide +kernel
theorem rd_ASB_newCapacity_53 : decode mb_ASB_newCapacity 53 = .ok (.aload_n 0, 1) := by decide +kernel
theorem rd_ASB_newCapacity_54 : decode mb_ASB_newCapacity 54 = .ok (.getfield 22, 3) := by decide +kernel
theorem rd_ASB_newCapacity_57 : decode mb_ASB_newCapacity 57 = .ok (.ishr, 1) := by decide +kernel
theorem rd_ASB_newCapacity_58 : decode mb_ASB_newCapacity 58 = .ok (.ireturn, 1) := by decide +kernel
theorem cw_ASB_newCapacity : Jvm.Cond.code mn_ASB_newCapacity prog_18_method_10_code (6 : Nat) (some .int) ∈ jk_WA := jk_tb 1398 (by decide +kernel) (by decide +kernel)
theorem xw_ASB_newCapacity : Jvm.Cond.instanceMethod mn_ASB_newCapacity ∈ jk_WA := jk_tb 1397 (by decide +kernel) (by decide +kernel)
theorem rd_ASB_apS_0 : decode mb_ASB_apS 0 = .ok (.aload_n 1, 1) := by decide +kernel
theorem rd_ASB_apS_1 : decode mb_ASB_apS 1 = .ok (.ifnonnull 8, 3) := by decide +kernel
theorem rd_ASB_apS_4 : decode mb_ASB_apS 4 = .ok (.aload_n 0, 1) := by decide +kernel
theorem rd_ASB_apS_5 : decode mb_ASB_apS 5 = .ok (.invokevirtual 204, 3) := by decide +kernel
theorem rd_ASB_apS_8 : decode mb_ASB_apS 8 = .ok (.areturn, 1) := by decide +kernel
theorem rd_ASB_apS_9 : decode mb_ASB_apS 9 = .ok (.aload_n 1, 1) := by decide +kernel
theorem rd_ASB_apS_10 : decode mb_ASB_apS 10 = .ok (.invokevirtual 32, 3) := by decide +kernel
theorem rd_ASB_apS_13 : decode mb_ASB_apS 13 = .ok (.istore_n 2, 1) := by decide +kernel
theorem rd_ASB_apS_14 : decode mb_ASB_apS 14 = .ok (.aload_n 0, 1) := by decide +kernel
theorem rd_ASB_apS_15 : decode mb_ASB_apS 15 = .ok (.aload_n 0, 1) := by decide +kernel
theorem rd_ASB_apS_16 : decode mb_ASB_apS 16 = .ok (.getfield 79, 3) := by decide +kernel
theorem rd_ASB_apS_19 : decode mb_ASB_apS 19 = .ok (.iload_n 2, 1) := by decide +kernel
theorem rd_ASB_apS_20 : decode mb_ASB_apS 20 = .ok (.iadd, 1) := by decide +kernel
theorem rd_ASB_apS_21 : decode mb_ASB_apS 21 = .ok (.invokevirtual 100, 3) := by decide +kernel
theorem rd_ASB_apS_24 : decode mb_ASB_apS 24 = .ok (.aload_n 0, 1) := by decide +kernel
theorem rd_ASB_apS_25 : decode mb_ASB_apS 25 = .ok (.aload_n 0, 1) := by decide +kernel
theorem rd_ASB_apS_26 : decode mb_ASB_apS 26 = .ok (.getfield 79, 3) := by decide +kernel
theorem rd_ASB_apS_29 : decode mb_ASB_apS 29 = .ok (.aload_n 1, 1) := by decide +kernel
theorem rd_ASB_apS_30 : decode mb_ASB_apS 30 = .ok (.invokevirtual 208, 3) := by decide +kernel
theorem rd_ASB_apS_33 : decode mb_ASB_apS 33 = .ok (.aload_n 0, 1) := by decide +kernel
theorem rd_ASB_apS_34 : decode mb_ASB_apS 34 = .ok (.dup, 1) := by decide +kernel
theorem rd_ASB_apS_35 : decode mb_ASB_apS 35 = .ok (.getfield 79, 3) := by decide +kernel
theorem rd_ASB_apS_38 : decode mb_ASB_apS 38 = .ok (.iload_n 2, 1) := by decide +kernel
theorem rd_ASB_apS_39 : decode mb_ASB_apS 39 = .ok (.iadd, 1) := by decide +kernel
theorem rd_ASB_apS_40 : decode mb_ASB_apS 40 = .ok (.putfield 79, 3) := by decide +kernel
theorem rd_ASB_apS_43 : decode mb_ASB_apS 43 = .ok (.aload_n 0, 1) := by decide +kernel
theorem rd_ASB_apS_44 : decode mb_ASB_apS 44 = .ok (.areturn, 1) := by decide +kernel
theorem cw_ASB_apS : Jvm.Cond.code mn_ASB_apS prog_18_method_22_code (3 : Nat) (Option.some (Jvm.ClassFile.FieldType.object "java/lang/AbstractStringBuilder")) ∈ jk_WA := jk_tb 1386 (by decide +kernel) (by decide +kernel)
theorem xw_ASB_apS : Jvm.Cond.instanceMethod mn_ASB_apS ∈ jk_WA := jk_tb 1375 (by decide +kernel) (by decide +kernel)
theorem rd_ASB_apC_0 : decode mb_ASB_apC 0 = .ok (.aload_n 0, 1) := by decide +kernel
theorem rd_ASB_apC_1 : decode mb_ASB_apC 1 = .ok (.aload_n 0, 1) := by decide +kernel
theorem rd_ASB_apC_2 : decode mb_ASB_apC 2 = .ok (.getfield 79, 3) := by decide +kernel
theorem rd_ASB_apC_5 : decode mb_ASB_apC 5 = .ok (.iconst 1, 1) := by decide +kernel
theorem rd_ASB_apC_6 : decode mb_ASB_apC 6 = .ok (.iadd, 1) := by decide +kernel
theorem rd_ASB_apC_7 : decode mb_ASB_apC 7 = .ok (.invokevirtual 100, 3) := by decide +kernel
theorem rd_ASB_apC_10 : decode mb_ASB_apC 10 = .ok (.aload_n 0, 1) := by decide +kernel
theorem rd_ASB_apC_11 : decode mb_ASB_apC 11 = .ok (.invokevirtual 83, 3) := by decide +kernel
theorem rd_ASB_apC_14 : decode mb_ASB_apC 14 = .ok (.ifCond .eq 31, 3) := by decide +kernel
theorem rd_ASB_apC_17 : decode mb_ASB_apC 17 = .ok (.iload_n 1, 1) := by decide +kernel
theorem rd_ASB_apC_18 : decode mb_ASB_apC 18 = .ok (.invokestatic 191, 3) := by decide +kernel
theorem rd_ASB_apC_21 : decode mb_ASB_apC 21 = .ok (.ifCond .eq 24, 3) := by decide +kernel
theorem rd_ASB_apC_24 : decode mb_ASB_apC 24 = .ok (.aload_n 0, 1) := by decide +kernel
theorem rd_ASB_apC_25 : decode mb_ASB_apC 25 = .ok (.getfield 15, 3) := by decide +kernel
theorem rd_ASB_apC_28 : decode mb_ASB_apC 28 = .ok (.aload_n 0, 1) := by decide +kernel
theorem rd_ASB_apC_29 : decode mb_ASB_apC 29 = .ok (.dup, 1) := by decide +kernel
theorem rd_ASB_apC_30 : decode mb_ASB_apC 30 = .ok (.getfield 79, 3) := by decide +kernel
theorem rd_ASB_apC_33 : decode mb_ASB_apC 33 = .ok (.dup_x1, 1) := by decide +kernel
theorem rd_ASB_apC_34 : decode mb_ASB_apC 34 = .ok (.iconst 1, 1) := by decide +kernel
theorem rd_ASB_apC_35 : decode mb_ASB_apC 35 = .ok (.iadd, 1) := by decide +kernel
theorem rd_ASB_apC_36 : decode mb_ASB_apC 36 = .ok (.putfield 79, 3) := by decide +kernel
theorem rd_ASB_apC_39 : decode mb_ASB_apC 39 = .ok (.iload_n 1, 1) := by decide +kernel
theorem rd_ASB_apC_40 : decode mb_ASB_apC 40 = .ok (.i2b, 1) := by decide +kernel
theorem rd_ASB_apC_41 : decode mb_ASB_apC 41 = .ok (.bastore, 1) := by decide +kernel
theorem rd_ASB_apC_42 : decode mb_ASB_apC 42 = .ok (.goto 33, 3) := by decide +kernel
theorem rd_ASB_apC_45 : decode mb_ASB_apC 45 = .ok (.aload_n 0, 1) := by decide +kernel
theorem rd_ASB_apC_46 : decode mb_ASB_apC 46 = .ok (.invokevirtual 83, 3) := by decide +kernel
theorem rd_ASB_apC_49 : decode mb_ASB_apC 49 = .ok (.ifCond .eq 7, 3) := by decide +kernel
theorem rd_ASB_apC_52 : decode mb_ASB_apC 52 = .ok (.aload_n 0, 1) := by decide +kernel
theorem rd_ASB_apC_53 : decode mb_ASB_apC 53 = .ok (.invokevirtual 195, 3) := by decide +kernel
theorem rd_ASB_apC_56 : decode mb_ASB_apC 56 = .ok (.aload_n 0, 1) := by decide +kernel
theorem rd_ASB_apC_57 : decode mb_ASB_apC 57 = .ok (.getfield 15, 3) := by decide +kernel
theorem rd_ASB_apC_60 : decode mb_ASB_apC 60 = .ok (.aload_n 0, 1) := by decide +kernel
theorem rd_ASB_apC_61 : decode mb_ASB_apC 61 = .ok (.dup, 1) := by decide +kernel
theorem rd_ASB_apC_62 : decode mb_ASB_apC 62 = .ok (.getfield 79, 3) := by decide +kernel
theorem rd_ASB_apC_65 : decode mb_ASB_apC 65 = .ok (.dup_x1, 1) := by decide +kernel
theorem rd_ASB_apC_66 : decode mb_ASB_apC 66 = .ok (.iconst 1, 1) := by decide +kernel
theorem rd_ASB_apC_67 : decode mb_ASB_apC 67 = .ok (.iadd, 1) := by decide +kernel
theorem rd_ASB_apC_68 : decode mb_ASB_apC 68 = .ok (.putfield 79, 3) := by decide +kernel
theorem rd_ASB_apC_71 : decode mb_ASB_apC 71 = .ok (.iload_n 1, 1) := by decide +kernel
theorem rd_ASB_apC_72 : decode mb_ASB_apC 72 = .ok (.invokestatic 197, 3) := by decide +kernel
theorem rd_ASB_apC_75 : decode mb_ASB_apC 75 = .ok (.aload_n 0, 1) := by decide +kernel
theorem rd_ASB_apC_76 : decode mb_ASB_apC 76 = .ok (.areturn, 1) := by decide +kernel
theorem cw_ASB_apC : Jvm.Cond.code mn_ASB_apC prog_18_method_31_code (2 : Nat) (Option.some (Jvm.ClassFile.FieldType.object "java/lang/AbstractStringBuilder")) ∈ jk_WA := jk_tb 1483 (by decide +kernel) (by decide +kernel)
theorem xw_ASB_apC : Jvm.Cond.instanceMethod mn_ASB_apC ∈ jk_WA := jk_tb 1482 (by decide +kernel) (by decide +kernel)
theorem rd_ASB_apI_0 : decode mb_ASB_apI 0 = .ok (.aload_n 0, 1) := by decide +kernel
theorem rd_ASB_apI_1 : decode mb_ASB_apI 1 = .ok (.getfield 79, 3) := by decide +kernel
theorem rd_ASB_apI_4 : decode mb_ASB_apI 4 = .ok (.istore_n 2, 1) := by decide +kernel
theorem rd_ASB_apI_5 : decode mb_ASB_apI 5 = .ok (.iload_n 2, 1) := by decide +kernel
theorem rd_ASB_apI_6 : decode mb_ASB_apI 6 = .ok (.iload_n 1, 1) := by decide +kernel
theorem rd_ASB_apI_7 : decode mb_ASB_apI 7 = .ok (.invokestatic 245, 3) := by decide +kernel
theorem rd_ASB_apI_10 : decode mb_ASB_apI 10 = .ok (.iadd, 1) := by decide +kernel
theorem rd_ASB_apI_11 : decode mb_ASB_apI 11 = .ok (.istore_n 3, 1) := by decide +kernel
theorem rd_ASB_apI_12 : decode mb_ASB_apI 12 = .ok (.aload_n 0, 1) := by decide +kernel
theorem rd_ASB_apI_13 : decode mb_ASB_apI 13 = .ok (.iload_n 3, 1) := by decide +kernel
theorem rd_ASB_apI_14 : decode mb_ASB_apI 14 = .ok (.invokevirtual 100, 3) := by decide +kernel
theorem rd_ASB_apI_17 : decode mb_ASB_apI 17 = .ok (.aload_n 0, 1) := by decide +kernel
theorem rd_ASB_apI_18 : decode mb_ASB_apI 18 = .ok (.invokevirtual 83, 3) := by decide +kernel
theorem rd_ASB_apI_21 : decode mb_ASB_apI 21 = .ok (.ifCond .eq 16, 3) := by decide +kernel
theorem rd_ASB_apI_24 : decode mb_ASB_apI 24 = .ok (.iload_n 1, 1) := by decide +kernel
theorem rd_ASB_apI_25 : decode mb_ASB_apI 25 = .ok (.iload_n 3, 1) := by decide +kernel
theorem rd_ASB_apI_26 : decode mb_ASB_apI 26 = .ok (.aload_n 0, 1) := by decide +kernel
theorem rd_ASB_apI_27 : decode mb_ASB_apI 27 = .ok (.getfield 15, 3) := by decide +kernel
theorem rd_ASB_apI_30 : decode mb_ASB_apI 30 = .ok (.invokestatic 248, 3) := by decide +kernel
theorem rd_ASB_apI_33 : decode mb_ASB_apI 33 = .ok (.pop, 1) := by decide +kernel
theorem rd_ASB_apI_34 : decode mb_ASB_apI 34 = .ok (.goto 14, 3) := by decide +kernel
theorem rd_ASB_apI_37 : decode mb_ASB_apI 37 = .ok (.iload_n 1, 1) := by decide +kernel
theorem rd_ASB_apI_38 : decode mb_ASB_apI 38 = .ok (.iload_n 2, 1) := by decide +kernel
theorem rd_ASB_apI_39 : decode mb_ASB_apI 39 = .ok (.iload_n 3, 1) := by decide +kernel
theorem rd_ASB_apI_40 : decode mb_ASB_apI 40 = .ok (.aload_n 0, 1) := by decide +kernel
theorem rd_ASB_apI_41 : decode mb_ASB_apI 41 = .ok (.getfield 15, 3) := by decide +kernel
theorem rd_ASB_apI_44 : decode mb_ASB_apI 44 = .ok (.invokestatic 251, 3) := by decide +kernel
theorem rd_ASB_apI_47 : decode mb_ASB_apI 47 = .ok (.pop, 1) := by decide +kernel
theorem rd_ASB_apI_48 : decode mb_ASB_apI 48 = .ok (.aload_n 0, 1) := by decide +kernel
theorem rd_ASB_apI_49 : decode mb_ASB_apI 49 = .ok (.iload_n 3, 1) := by decide +kernel
theorem rd_ASB_apI_50 : decode mb_ASB_apI 50 = .ok (.putfield 79, 3) := by decide +kernel
theorem rd_ASB_apI_53 : decode mb_ASB_apI 53 = .ok (.aload_n 0, 1) := by decide +kernel
theorem rd_ASB_apI_54 : decode mb_ASB_apI 54 = .ok (.areturn, 1) := by decide +kernel
theorem cw_ASB_apI : Jvm.Cond.code mn_ASB_apI prog_18_method_32_code (4 : Nat) (Option.some (Jvm.ClassFile.FieldType.object "java/lang/AbstractStringBuilder")) ∈ jk_WA := jk_tb 1496 (by decide +kernel) (by decide +kernel)
theorem xw_ASB_apI : Jvm.Cond.instanceMethod mn_ASB_apI ∈ jk_WA := jk_tb 1495 (by decide +kernel) (by decide +kernel)
theorem rd_ASB_getValue_0 : decode mb_ASB_getValue 0 = .ok (.aload_n 0, 1) := by decide +kernel
theorem rd_ASB_getValue_1 : decode mb_ASB_getValue 1 = .ok (.getfield 15, 3) := by decide +kernel
theorem rd_ASB_getValue_4 : decode mb_ASB_getValue 4 = .ok (.areturn, 1) := by decide +kernel
theorem cw_ASB_getValue : Jvm.Cond.code mn_ASB_getValue prog_18_method_64_code (1 : Nat) (Option.some (Jvm.ClassFile.FieldType.array Jvm.ClassFile.FieldType.byte)) ∈ jk_WA := jk_tb 1532 (by decide +kernel) (by decide +kernel)
theorem xw_ASB_getValue : Jvm.Cond.instanceMethod mn_ASB_getValue ∈ jk_WA := jk_tb 1529 (by decide +kernel) (by decide +kernel)
theorem rd_ASB_isLatin1_0 : decode mb_ASB_isLatin1 0 = .ok (.getstatic 18, 3) := by decide +kernel
theorem rd_ASB_isLatin1_3 : decode mb_ASB_isLatin1 3 = .ok (.ifCond .eq 14, 3) := by decide +kernel
theorem rd_ASB_isLatin1_6 : decode mb_ASB_isLatin1 6 = .ok (.aload_n 0, 1) := by decide +kernel
theorem rd_ASB_isLatin1_7 : decode mb_ASB_isLatin1 7 = .ok (.getfield 22, 3) := by decide +kernel
theorem rd_ASB_isLatin1_10 : decode mb_ASB_isLatin1 10 = .ok (.ifCond .ne 7, 3) := by decide +kernel
theorem rd_ASB_isLatin1_13 : decode mb_ASB_isLatin1 13 = .ok (.iconst 1, 1) := by decide +kernel
theorem rd_ASB_isLatin1_14 : decode mb_ASB_isLatin1 14 = .ok (.goto 4, 3) := by decide +kernel
theorem rd_ASB_isLatin1_17 : decode mb_ASB_isLatin1 17 = .ok (.iconst 0, 1) := by decide +kernel
theorem rd_ASB_isLatin1_18 : decode mb_ASB_isLatin1 18 = .ok (.ireturn, 1) := by decide +kernel
theorem cw_ASB_isLatin1 : Jvm.Cond.code mn_ASB_isLatin1 prog_18_method_68_code (1 : Nat) (some .boolean) ∈ jk_WA := jk_tb 1414 (by decide +kernel) (by decide +kernel)
theorem xw_ASB_isLatin1 : Jvm.Cond.instanceMethod mn_ASB_isLatin1 ∈ jk_WA := jk_tb 1411 (by decide +kernel) (by decide +kernel)
theorem rd_ASB_inflateIfNeededFor_0 : decode mb_ASB_inflateIfNeededFor 0 = .ok (.getstatic 18, 3) := by decide +kernel
theorem rd_ASB_inflateIfNeededFor_3 : decode mb_ASB_inflateIfNeededFor 3 = .ok (.ifCond .eq 18, 3) := by decide +kernel
theorem rd_ASB_inflateIfNeededFor_6 : decode mb_ASB_inflateIfNeededFor 6 = .ok (.aload_n 0, 1) := by decide +kernel
theorem rd_ASB_inflateIfNeededFor_7 : decode mb_ASB_inflateIfNeededFor 7 = .ok (.getfield 22, 3) := by decide +kernel
theorem rd_ASB_inflateIfNeededFor_10 : decode mb_ASB_inflateIfNeededFor 10 = .ok (.aload_n 1, 1) := by decide +kernel
theorem rd_ASB_inflateIfNeededFor_11 : decode mb_ASB_inflateIfNeededFor 11 = .ok (.invokevirtual 40, 3) := by decide +kernel
theorem rd_ASB_inflateIfNeededFor_14 : decode mb_ASB_inflateIfNeededFor 14 = .ok (.if_icmp .eq 7, 3) := by decide +kernel
theorem rd_ASB_inflateIfNeededFor_17 : decode mb_ASB_inflateIfNeededFor 17 = .ok (.aload_n 0, 1) := by decide +kernel
theorem rd_ASB_inflateIfNeededFor_18 : decode mb_ASB_inflateIfNeededFor 18 = .ok (.invokevirtual 195, 3) := by decide +kernel
theorem rd_ASB_inflateIfNeededFor_21 : decode mb_ASB_inflateIfNeededFor 21 = .ok (.return_, 1) := by decide +kernel
theorem cw_ASB_inflateIfNeededFor : Jvm.Cond.code mn_ASB_inflateIfNeededFor prog_18_method_71_code (2 : Nat) none ∈ jk_WA := jk_tb 1438 (by decide +kernel) (by decide +kernel)
theorem xw_ASB_inflateIfNeededFor : Jvm.Cond.instanceMethod mn_ASB_inflateIfNeededFor ∈ jk_WA := jk_tb 1437 (by decide +kernel) (by decide +kernel)
theorem rd_ASB_putStringAt_0 : decode mb_ASB_putStringAt 0 = .ok (.aload_n 0, 1) := by decide +kernel
theorem rd_ASB_putStringAt_1 : decode mb_ASB_putStringAt 1 = .ok (.aload_n 2, 1) := by decide +kernel
theorem rd_ASB_putStringAt_2 : decode mb_ASB_putStringAt 2 = .ok (.invokevirtual 397, 3) := by decide +kernel
theorem rd_ASB_putStringAt_5 : decode mb_ASB_putStringAt 5 = .ok (.aload_n 2, 1) := by decide +kernel
theorem rd_ASB_putStringAt_6 : decode mb_ASB_putStringAt 6 = .ok (.aload_n 0, 1) := by decide +kernel
theorem rd_ASB_putStringAt_7 : decode mb_ASB_putStringAt 7 = .ok (.getfield 15, 3) := by decide +kernel
theorem rd_ASB_putStringAt_10 : decode mb_ASB_putStringAt 10 = .ok (.iload_n 1, 1) := by decide +kernel
theorem rd_ASB_putStringAt_11 : decode mb_ASB_putStringAt 11 = .ok (.aload_n 0, 1) := by decide +kernel
theorem rd_ASB_putStringAt_12 : decode mb_ASB_putStringAt 12 = .ok (.getfield 22, 3) := by decide +kernel
theorem rd_ASB_putStringAt_15 : decode mb_ASB_putStringAt 15 = .ok (.invokevirtual 399, 3) := by decide +kernel
theorem rd_ASB_putStringAt_18 : decode mb_ASB_putStringAt 18 = .ok (.return_, 1) := by decide +kernel
theorem cw_ASB_putStringAt : Jvm.Cond.code mn_ASB_putStringAt prog_18_method_73_code (3 : Nat) none ∈ jk_WA := jk_tb 1434 (by decide +kernel) (by decide +kernel)
theorem xw_ASB_putStringAt : Jvm.Cond.instanceMethod mn_ASB_putStringAt ∈ jk_WA := jk_tb 1433 (by decide +kernel) (by decide +kernel)
theorem rd_JInt_getChars_0 : decode mb_JInt_getChars 0 = .ok (.iload_n 1, 1) := by decide +kernel
theorem rd_JInt_getChars_1 : decode mb_JInt_getChars 1 = .ok (.istore 5, 2) := by decide +kernel
theorem rd_JInt_getChars_3 : decode mb_JInt_getChars 3 = .ok (.iload_n 0, 1) := by decide +kernel
theorem rd_JInt_getChars_4 : decode mb_JInt_getChars 4 = .ok (.ifCond .ge 7, 3) := by decide +kernel
theorem rd_JInt_getChars_7 : decode mb_JInt_getChars 7 = .ok (.iconst 1, 1) := by decide +kernel
theorem rd_JInt_getChars_8 : decode mb_JInt_getChars 8 = .ok (.goto 4, 3) := by decide +kernel
theorem rd_JInt_getChars_11 : decode mb_JInt_getChars 11 = .ok (.iconst 0, 1) := by decide +kernel
theorem rd_JInt_getChars_12 : decode mb_JInt_getChars 12 = .ok (.istore 6, 2) := by decide +kernel
theorem rd_JInt_getChars_14 : decode mb_JInt_getChars 14 = .ok (.iload 6, 2) := by decide +kernel
theorem rd_JInt_getChars_16 : decode mb_JInt_getChars 16 = .ok (.ifCond .ne 6, 3) := by decide +kernel
theorem rd_JInt_getChars_19 : decode mb_JInt_getChars 19 = .ok (.iload_n 0, 1) := by decide +kernel
theorem rd_JInt_getChars_20 : decode mb_JInt_getChars 20 = .ok (.ineg, 1) := by decide +kernel
theorem rd_JInt_getChars_21 : decode mb_JInt_getChars 21 = .ok (.istore_n 0, 1) := by decide +kernel
theorem rd_JInt_getChars_22 : decode mb_JInt_getChars 22 = .ok (.iload_n 0, 1) := by decide +kernel
theorem rd_JInt_getChars_23 : decode mb_JInt_getChars 23 = .ok (.bipush (-100), 2) := by decide +kernel
theorem rd_JInt_getChars_25 : decode mb_JInt_getChars 25 = .ok (.if_icmp .gt 47, 3) := by decide +kernel
theorem rd_JInt_getChars_28 : decode mb_JInt_getChars 28 = .ok (.iload_n 0, 1) := by decide +kernel
theorem rd_JInt_getChars_29 : decode mb_JInt_getChars 29 = .ok (.bipush 100, 2) := by decide +kernel
theorem rd_JInt_getChars_31 : decode mb_JInt_getChars 31 = .ok (.idiv, 1) := by decide +kernel
theorem rd_JInt_getChars_32 : decode mb_JInt_getChars 32 = .ok (.istore_n 3, 1) := by decide +kernel
theorem rd_JInt_getChars_33 : decode mb_JInt_getChars 33 = .ok (.iload_n 3, 1) := by decide +kernel
theorem rd_JInt_getChars_34 : decode mb_JInt_getChars 34 = .ok (.bipush 100, 2) := by decide +kernel
theorem rd_JInt_getChars_36 : decode mb_JInt_getChars 36 = .ok (.imul, 1) := by decide +kernel
theorem rd_JInt_getChars_37 : decode mb_JInt_getChars 37 = .ok (.iload_n 0, 1) := by decide +kernel
theorem rd_JInt_getChars_38 : decode mb_JInt_getChars 38 = .ok (.isub, 1) := by decide +kernel
theorem rd_JInt_getChars_39 : decode mb_JInt_getChars 39 = .ok (.istore 4, 2) := by decide +kernel
theorem rd_JInt_getChars_41 : decode mb_JInt_getChars 41 = .ok (.iload_n 3, 1) := by decide +kernel
theorem rd_JInt_getChars_42 : decode mb_JInt_getChars 42 = .ok (.istore_n 0, 1) := by decide +kernel
theorem rd_JInt_getChars_43 : decode mb_JInt_getChars 43 = .ok (.aload_n 2, 1) := by decide +kernel
theorem rd_JInt_getChars_44 : decode mb_JInt_getChars 44 = .ok (.iinc 5 (-1), 3) := by decide +kernel
theorem rd_JInt_getChars_47 : decode mb_JInt_getChars 47 = .ok (.iload 5, 2) := by decide +kernel
theorem rd_JInt_getChars_49 : decode mb_JInt_getChars 49 = .ok (.getstatic 83, 3) := by decide +kernel
theorem rd_JInt_getChars_52 : decode mb_JInt_getChars 52 = .ok (.iload 4, 2) := by decide +kernel
theorem rd_JInt_getChars_54 : decode mb_JInt_getChars 54 = .ok (.baload, 1) := by decide +kernel
theorem rd_JInt_getChars_55 : decode mb_JInt_getChars 55 = .ok (.bastore, 1) := by decide +kernel
theorem rd_JInt_getChars_56 : decode mb_JInt_getChars 56 = .ok (.aload_n 2, 1) := by decide +kernel
theorem rd_JInt_getChars_57 : decode mb_JInt_getChars 57 = .ok (.iinc 5 (-1), 3) := by decide +kernel
theorem rd_JInt_getChars_60 : decode mb_JInt_getChars 60 = .ok (.iload 5, 2) := by decide +kernel
theorem rd_JInt_getChars_62 : decode mb_JInt_getChars 62 = .ok (.getstatic 87, 3) := by decide +kernel
theorem rd_JInt_getChars_65 : decode mb_JInt_getChars 65 = .ok (.iload 4, 2) := by decide +kernel
theorem rd_JInt_getChars_67 : decode mb_JInt_getChars 67 = .ok (.baload, 1) := by decide +kernel
theorem rd_JInt_getChars_68 : decode mb_JInt_getChars 68 = .ok (.bastore, 1) := by decide +kernel
theorem rd_JInt_getChars_69 : decode mb_JInt_getChars 69 = .ok (.goto (-47), 3) := by decide +kernel
theorem rd_JInt_getChars_72 : decode mb_JInt_getChars 72 = .ok (.aload_n 2, 1) := by decide +kernel
theorem rd_JInt_getChars_73 : decode mb_JInt_getChars 73 = .ok (.iinc 5 (-1), 3) := by decide +kernel
theorem rd_JInt_getChars_76 : decode mb_JInt_getChars 76 = .ok (.iload 5, 2) := by decide +kernel
theorem rd_JInt_getChars_78 : decode mb_JInt_getChars 78 = .ok (.getstatic 83, 3) := by decide +kernel
theorem rd_JInt_getChars_81 : decode mb_JInt_getChars 81 = .ok (.iload_n 0, 1) := by decide +kernel
theorem rd_JInt_getChars_82 : decode mb_JInt_getChars 82 = .ok (.ineg, 1) := by decide +kernel
theorem rd_JInt_getChars_83 : decode mb_JInt_getChars 83 = .ok (.baload, 1) := by decide +kernel
theorem rd_JInt_getChars_84 : decode mb_JInt_getChars 84 = .ok (.bastore, 1) := by decide +kernel
theorem rd_JInt_getChars_85 : decode mb_JInt_getChars 85 = .ok (.iload_n 0, 1) := by decide +kernel
theorem rd_JInt_getChars_86 : decode mb_JInt_getChars 86 = .ok (.bipush (-9), 2) := by decide +kernel
theorem rd_JInt_getChars_88 : decode mb_JInt_getChars 88 = .ok (.if_icmp .ge 16, 3) := by decide +kernel
theorem rd_JInt_getChars_91 : decode mb_JInt_getChars 91 = .ok (.aload_n 2, 1) := by decide +kernel
theorem rd_JInt_getChars_92 : decode mb_JInt_getChars 92 = .ok (.iinc 5 (-1), 3) := by decide +kernel
theorem rd_JInt_getChars_95 : decode mb_JInt_getChars 95 = .ok (.iload 5, 2) := by decide +kernel
theorem rd_JInt_getChars_97 : decode mb_JInt_getChars 97 = .ok (.getstatic 87, 3) := by decide +kernel
theorem rd_JInt_getChars_100 : decode mb_JInt_getChars 100 = .ok (.iload_n 0, 1) := by decide +kernel
theorem rd_JInt_getChars_101 : decode mb_JInt_getChars 101 = .ok (.ineg, 1) := by decide +kernel
theorem rd_JInt_getChars_102 : decode mb_JInt_getChars 102 = .ok (.baload, 1) := by decide +kernel
theorem rd_JInt_getChars_103 : decode mb_JInt_getChars 103 = .ok (.bastore, 1) := by decide +kernel
theorem rd_JInt_getChars_104 : decode mb_JInt_getChars 104 = .ok (.iload 6, 2) := by decide +kernel
theorem rd_JInt_getChars_106 : decode mb_JInt_getChars 106 = .ok (.ifCond .eq 12, 3) := by decide +kernel
theorem rd_JInt_getChars_109 : decode mb_JInt_getChars 109 = .ok (.aload_n 2, 1) := by decide +kernel
theorem rd_JInt_getChars_110 : decode mb_JInt_getChars 110 = .ok (.iinc 5 (-1), 3) := by decide +kernel
theorem rd_JInt_getChars_113 : decode mb_JInt_getChars 113 = .ok (.iload 5, 2) := by decide +kernel
theorem rd_JInt_getChars_115 : decode mb_JInt_getChars 115 = .ok (.bipush 45, 2) := by decide +kernel
theorem rd_JInt_getChars_117 : decode mb_JInt_getChars 117 = .ok (.bastore, 1) := by decide +kernel
theorem rd_JInt_getChars_118 : decode mb_JInt_getChars 118 = .ok (.iload 5, 2) := by decide +kernel
theorem rd_JInt_getChars_120 : decode mb_JInt_getChars 120 = .ok (.ireturn, 1) := by decide +kernel
theorem cw_JInt_getChars : Jvm.Cond.code mn_JInt_getChars prog_27_method_12_code (7 : Nat) (some .int) ∈ jk_WA := jk_tb 1502 (by decide +kernel) (by decide +kernel)
theorem xw_JInt_getChars : Jvm.Cond.static mn_JInt_getChars ∈ jk_WA := jk_tb 1501 (by decide +kernel) (by decide +kernel)
theorem rd_JInt_stringSize_0 : decode mb_JInt_stringSize 0 = .ok (.iconst 1, 1) := by decide +kernel
theorem rd_JInt_stringSize_1 : decode mb_JInt_stringSize 1 = .ok (.istore_n 1, 1) := by decide +kernel
theorem rd_JInt_stringSize_2 : decode mb_JInt_stringSize 2 = .ok (.iload_n 0, 1) := by decide +kernel
theorem rd_JInt_stringSize_3 : decode mb_JInt_stringSize 3 = .ok (.ifCond .lt 8, 3) := by decide +kernel
theorem rd_JInt_stringSize_6 : decode mb_JInt_stringSize 6 = .ok (.iconst 0, 1) := by decide +kernel
theorem rd_JInt_stringSize_7 : decode mb_JInt_stringSize 7 = .ok (.istore_n 1, 1) := by decide +kernel
theorem rd_JInt_stringSize_8 : decode mb_JInt_stringSize 8 = .ok (.iload_n 0, 1) := by decide +kernel
theorem rd_JInt_stringSize_9 : decode mb_JInt_stringSize 9 = .ok (.ineg, 1) := by decide +kernel
theorem rd_JInt_stringSize_10 : decode mb_JInt_stringSize 10 = .ok (.istore_n 0, 1) := by decide +kernel
theorem rd_JInt_stringSize_11 : decode mb_JInt_stringSize 11 = .ok (.bipush (-10), 2) := by decide +kernel
theorem rd_JInt_stringSize_13 : decode mb_JInt_stringSize 13 = .ok (.istore_n 2, 1) := by decide +kernel
theorem rd_JInt_stringSize_14 : decode mb_JInt_stringSize 14 = .ok (.iconst 1, 1) := by decide +kernel
theorem rd_JInt_stringSize_15 : decode mb_JInt_stringSize 15 = .ok (.istore_n 3, 1) := by decide +kernel
theorem rd_JInt_stringSize_16 : decode mb_JInt_stringSize 16 = .ok (.iload_n 3, 1) := by decide +kernel
theorem rd_JInt_stringSize_17 : decode mb_JInt_stringSize 17 = .ok (.bipush 10, 2) := by decide +kernel
theorem rd_JInt_stringSize_19 : decode mb_JInt_stringSize 19 = .ok (.if_icmp .ge 23, 3) := by decide +kernel
theorem rd_JInt_stringSize_22 : decode mb_JInt_stringSize 22 = .ok (.iload_n 0, 1) := by decide +kernel
theorem rd_JInt_stringSize_23 : decode mb_JInt_stringSize 23 = .ok (.iload_n 2, 1) := by decide +kernel
theorem rd_JInt_stringSize_24 : decode mb_JInt_stringSize 24 = .ok (.if_icmp .le 7, 3) := by decide +kernel
theorem rd_JInt_stringSize_27 : decode mb_JInt_stringSize 27 = .ok (.iload_n 3, 1) := by decide +kernel
theorem rd_JInt_stringSize_28 : decode mb_JInt_stringSize 28 = .ok (.iload_n 1, 1) := by decide +kernel
theorem rd_JInt_stringSize_29 : decode mb_JInt_stringSize 29 = .ok (.iadd, 1) := by decide +kernel
theorem rd_JInt_stringSize_30 : decode mb_JInt_stringSize 30 = .ok (.ireturn, 1) := by decide +kernel
theorem rd_JInt_stringSize_31 : decode mb_JInt_stringSize 31 = .ok (.bipush 10, 2) := by decide +kernel
theorem rd_JInt_stringSize_33 : decode mb_JInt_stringSize 33 = .ok (.iload_n 2, 1) := by decide +kernel
theorem rd_JInt_stringSize_34 : decode mb_JInt_stringSize 34 = .ok (.imul, 1) := by decide +kernel
theorem rd_JInt_stringSize_35 : decode mb_JInt_stringSize 35 = .ok (.istore_n 2, 1) := by decide +kernel
theorem rd_JInt_stringSize_36 : decode mb_JInt_stringSize 36 = .ok (.iinc 3 1, 3) := by decide +kernel
theorem rd_JInt_stringSize_39 : decode mb_JInt_stringSize 39 = .ok (.goto (-23), 3) := by decide +kernel
theorem rd_JInt_stringSize_42 : decode mb_JInt_stringSize 42 = .ok (.bipush 10, 2) := by decide +kernel
theorem rd_JInt_stringSize_44 : decode mb_JInt_stringSize 44 = .ok (.iload_n 1, 1) := by decide +kernel
theorem rd_JInt_stringSize_45 : decode mb_JInt_stringSize 45 = .ok (.iadd, 1) := by decide +kernel
theorem rd_JInt_stringSize_46 : decode mb_JInt_stringSize 46 = .ok (.ireturn, 1) := by decide +kernel
theorem cw_JInt_stringSize : Jvm.Cond.code mn_JInt_stringSize prog_27_method_13_code (4 : Nat) (some .int) ∈ jk_WA := jk_tb 1499 (by decide +kernel) (by decide +kernel)
theorem xw_JInt_stringSize : Jvm.Cond.static mn_JInt_stringSize ∈ jk_WA := jk_tb 1498 (by decide +kernel) (by decide +kernel)
theorem rd_JInt_valueOf_0 : decode mb_JInt_valueOf 0 = .ok (.iload_n 0, 1) := by decide +kernel
theorem rd_JInt_valueOf_1 : decode mb_JInt_valueOf 1 = .ok (.bipush (-128), 2) := by decide +kernel
theorem rd_JInt_valueOf_3 : decode mb_JInt_valueOf 3 = .ok (.if_icmp .lt 20, 3) := by decide +kernel
theorem rd_JInt_valueOf_6 : decode mb_JInt_valueOf 6 = .ok (.iload_n 0, 1) := by decide +kernel
theorem rd_JInt_valueOf_7 : decode mb_JInt_valueOf 7 = .ok (.getstatic 191, 3) := by decide +kernel
theorem rd_JInt_valueOf_10 : decode mb_JInt_valueOf 10 = .ok (.if_icmp .gt 13, 3) := by decide +kernel
theorem rd_JInt_valueOf_13 : decode mb_JInt_valueOf 13 = .ok (.getstatic 195, 3) := by decide +kernel
theorem rd_JInt_valueOf_16 : decode mb_JInt_valueOf 16 = .ok (.iload_n 0, 1) := by decide +kernel
theorem rd_JInt_valueOf_17 : decode mb_JInt_valueOf 17 = .ok (.sipush 128, 3) := by decide +kernel
theorem rd_JInt_valueOf_20 : decode mb_JInt_valueOf 20 = .ok (.iadd, 1) := by decide +kernel
theorem rd_JInt_valueOf_21 : decode mb_JInt_valueOf 21 = .ok (.aaload, 1) := by decide +kernel
theorem rd_JInt_valueOf_22 : decode mb_JInt_valueOf 22 = .ok (.areturn, 1) := by decide +kernel
theorem rd_JInt_valueOf_23 : decode mb_JInt_valueOf 23 = .ok (.new 1, 3) := by decide +kernel
theorem rd_JInt_valueOf_26 : decode mb_JInt_valueOf 26 = .ok (.dup, 1) := by decide +kernel
theorem rd_JInt_valueOf_27 : decode mb_JInt_valueOf 27 = .ok (.iload_n 0, 1) := by decide +kernel
theorem rd_JInt_valueOf_28 : decode mb_JInt_valueOf 28 = .ok (.invokespecial 199, 3) := by decide +kernel
theorem rd_JInt_valueOf_31 : decode mb_JInt_valueOf 31 = .ok (.areturn, 1) := by decide +kernel
theorem cw_JInt_valueOf : Jvm.Cond.code mn_JInt_valueOf prog_27_method_22_code (1 : Nat) (Option.some (Jvm.ClassFile.FieldType.object "java/lang/Integer")) ∈ jk_WA := jk_tb 880 (by decide +kernel) (by decide +kernel)
theorem xw_JInt_valueOf : Jvm.Cond.static mn_JInt_valueOf ∈ jk_WA := jk_tb 879 (by decide +kernel) (by decide +kernel)
theorem rd_JInt_intValue_0 : decode mb_JInt_intValue 0 = .ok (.aload_n 0, 1) := by decide +kernel
theorem rd_JInt_intValue_1 : decode mb_JInt_intValue 1 = .ok (.getfield 205, 3) := by decide +kernel
theorem rd_JInt_intValue_4 : decode mb_JInt_intValue 4 = .ok (.ireturn, 1) := by decide +kernel
theorem cw_JInt_intValue : Jvm.Cond.code mn_JInt_intValue prog_27_method_27_code (1 : Nat) (some .int) ∈ jk_WA := jk_tb 1028 (by decide +kernel) (by decide +kernel)
theorem xw_JInt_intValue : Jvm.Cond.instanceMethod mn_JInt_intValue ∈ jk_WA := jk_tb 1026 (by decide +kernel) (by decide +kernel)
theorem sw_JInt_intValue : Jvm.Cond.selects "java/lang/Integer" mn_JInt_intValue mn_JInt_intValue ∈ jk_WA := jk_tb 1027 (by decide +kernel) (by decide +kernel)
theorem rd_JMath_max_0 : decode mb_JMath_max 0 = .ok (.iload_n 0, 1) := by decide +kernel
theorem rd_JMath_max_1 : decode mb_JMath_max 1 = .ok (.iload_n 1, 1) := by decide +kernel
theorem rd_JMath_max_2 : decode mb_JMath_max 2 = .ok (.if_icmp .lt 7, 3) := by decide +kernel
theorem rd_JMath_max_5 : decode mb_JMath_max 5 = .ok (.iload_n 0, 1) := by decide +kernel
theorem rd_JMath_max_6 : decode mb_JMath_max 6 = .ok (.goto 4, 3) := by decide +kernel
theorem rd_JMath_max_9 : decode mb_JMath_max 9 = .ok (.iload_n 1, 1) := by decide +kernel
theorem rd_JMath_max_10 : decode mb_JMath_max 10 = .ok (.ireturn, 1) := by decide +kernel
theorem cw_JMath_max : Jvm.Cond.code mn_JMath_max prog_30_method_65_code (2 : Nat) (some .int) ∈ jk_WA := jk_tb 832 (by decide +kernel) (by decide +kernel)
theorem xw_JMath_max : Jvm.Cond.static mn_JMath_max ∈ jk_WA := jk_tb 831 (by decide +kernel) (by decide +kernel)
theorem rd_JMath_min_0 : decode mb_JMath_min 0 = .ok (.iload_n 0, 1) := by decide +kernel
theorem rd_JMath_min_1 : decode mb_JMath_min 1 = .ok (.iload_n 1, 1) := by decide +kernel
theorem rd_JMath_min_2 : decode mb_JMath_min 2 = .ok (.if_icmp .gt 7, 3) := by decide +kernel
theorem rd_JMath_min_5 : decode mb_JMath_min 5 = .ok (.iload_n 0, 1) := by decide +kernel
theorem rd_JMath_min_6 : decode mb_JMath_min 6 = .ok (.goto 4, 3) := by decide +kernel
theorem rd_JMath_min_9 : decode mb_JMath_min 9 = .ok (.iload_n 1, 1) := by decide +kernel
theorem rd_JMath_min_10 : decode mb_JMath_min 10 = .ok (.ireturn, 1) := by decide +kernel
theorem cw_JMath_min : Jvm.Cond.code mn_JMath_min prog_30_method_69_code (2 : Nat) (some .int) ∈ jk_WA := jk_tb 872 (by decide +kernel) (by decide +kernel)
theorem xw_JMath_min : Jvm.Cond.static mn_JMath_min ∈ jk_WA := jk_tb 871 (by decide +kernel) (by decide +kernel)
theorem rd_JStr_init1_0 : decode mb_JStr_init1 0 = .ok (.aload_n 0, 1) := by decide +kernel
theorem rd_JStr_init1_1 : decode mb_JStr_init1 1 = .ok (.aload_n 1, 1) := by decide +kernel
theorem rd_JStr_init1_2 : decode mb_JStr_init1 2 = .ok (.aconst_null, 1) := by decide +kernel
theorem rd_JStr_init1_3 : decode mb_JStr_init1 3 = .ok (.invokespecial 489, 3) := by decide +kernel
theorem rd_JStr_init1_6 : decode mb_JStr_init1 6 = .ok (.return_, 1) := by decide +kernel
theorem cw_JStr_init1 : Jvm.Cond.code mn_JStr_init1 prog_33_method_53_code (2 : Nat) none ∈ jk_WA := jk_tb 1523 (by decide +kernel) (by decide +kernel)
theorem xw_JStr_init1 : Jvm.Cond.instanceMethod mn_JStr_init1 ∈ jk_WA := jk_tb 1522 (by decide +kernel) (by decide +kernel)
theorem cw_JStr_length : Jvm.Cond.code mn_JStr_length prog_33_method_54_code (1 : Nat) (some .int) ∈ jk_WA := jk_tb 214 (by decide +kernel) (by decide +kernel)
theorem xw_JStr_length : Jvm.Cond.instanceMethod mn_JStr_length ∈ jk_WA := jk_tb 212 (by decide +kernel) (by decide +kernel)
theorem sw_JStr_length : Jvm.Cond.selects "java/lang/String" mn_JStr_length mn_JStr_length ∈ jk_WA := jk_tb 213 (by decide +kernel) (by decide +kernel)
theorem cw_JStr_charAt : Jvm.Cond.code mn_JStr_charAt prog_33_method_56_code (2 : Nat) (some .char) ∈ jk_WA := jk_tb 224 (by decide +kernel) (by decide +kernel)
theorem xw_JStr_charAt : Jvm.Cond.instanceMethod mn_JStr_charAt ∈ jk_WA := jk_tb 222 (by decide +kernel) (by decide +kernel)
theorem sw_JStr_charAt : Jvm.Cond.selects "java/lang/String" mn_JStr_charAt mn_JStr_charAt ∈ jk_WA := jk_tb 223 (by decide +kernel) (by decide +kernel)
theorem rd_JStr_getBytes_0 : decode mb_JStr_getBytes 0 = .ok (.aload_n 0, 1) := by decide +kernel
theorem rd_JStr_getBytes_1 : decode mb_JStr_getBytes 1 = .ok (.invokevirtual 335, 3) := by decide +kernel
theorem rd_JStr_getBytes_4 : decode mb_JStr_getBytes 4 = .ok (.iload_n 3, 1) := by decide +kernel
theorem rd_JStr_getBytes_5 : decode mb_JStr_getBytes 5 = .ok (.if_icmp .ne 23, 3) := by decide +kernel
theorem rd_JStr_getBytes_8 : decode mb_JStr_getBytes 8 = .ok (.aload_n 0, 1) := by decide +kernel
theorem rd_JStr_getBytes_9 : decode mb_JStr_getBytes 9 = .ok (.getfield 9, 3) := by decide +kernel
theorem rd_JStr_getBytes_12 : decode mb_JStr_getBytes 12 = .ok (.iconst 0, 1) := by decide +kernel
theorem rd_JStr_getBytes_13 : decode mb_JStr_getBytes 13 = .ok (.aload_n 1, 1) := by decide +kernel
theorem rd_JStr_getBytes_14 : decode mb_JStr_getBytes 14 = .ok (.iload_n 2, 1) := by decide +kernel
theorem rd_JStr_getBytes_15 : decode mb_JStr_getBytes 15 = .ok (.iload_n 3, 1) := by decide +kernel
theorem rd_JStr_getBytes_16 : decode mb_JStr_getBytes 16 = .ok (.ishl, 1) := by decide +kernel
theorem rd_JStr_getBytes_17 : decode mb_JStr_getBytes 17 = .ok (.aload_n 0, 1) := by decide +kernel
theorem rd_JStr_getBytes_18 : decode mb_JStr_getBytes 18 = .ok (.getfield 9, 3) := by decide +kernel
theorem rd_JStr_getBytes_21 : decode mb_JStr_getBytes 21 = .ok (.arraylength, 1) := by decide +kernel
theorem rd_JStr_getBytes_22 : decode mb_JStr_getBytes 22 = .ok (.invokestatic 212, 3) := by decide +kernel
theorem rd_JStr_getBytes_25 : decode mb_JStr_getBytes 25 = .ok (.goto 18, 3) := by decide +kernel
theorem rd_JStr_getBytes_28 : decode mb_JStr_getBytes 28 = .ok (.aload_n 0, 1) := by decide +kernel
theorem rd_JStr_getBytes_29 : decode mb_JStr_getBytes 29 = .ok (.getfield 9, 3) := by decide +kernel
theorem rd_JStr_getBytes_32 : decode mb_JStr_getBytes 32 = .ok (.iconst 0, 1) := by decide +kernel
theorem rd_JStr_getBytes_33 : decode mb_JStr_getBytes 33 = .ok (.aload_n 1, 1) := by decide +kernel
theorem rd_JStr_getBytes_34 : decode mb_JStr_getBytes 34 = .ok (.iload_n 2, 1) := by decide +kernel
theorem rd_JStr_getBytes_35 : decode mb_JStr_getBytes 35 = .ok (.aload_n 0, 1) := by decide +kernel
theorem rd_JStr_getBytes_36 : decode mb_JStr_getBytes 36 = .ok (.getfield 9, 3) := by decide +kernel
theorem rd_JStr_getBytes_39 : decode mb_JStr_getBytes 39 = .ok (.arraylength, 1) := by decide +kernel
theorem rd_JStr_getBytes_40 : decode mb_JStr_getBytes 40 = .ok (.invokestatic 106, 3) := by decide +kernel
theorem rd_JStr_getBytes_43 : decode mb_JStr_getBytes 43 = .ok (.return_, 1) := by decide +kernel
theorem cw_JStr_getBytes : Jvm.Cond.code mn_JStr_getBytes prog_33_method_147_code (4 : Nat) none ∈ jk_WA := jk_tb 1461 (by decide +kernel) (by decide +kernel)
theorem xw_JStr_getBytes : Jvm.Cond.instanceMethod mn_JStr_getBytes ∈ jk_WA := jk_tb 1459 (by decide +kernel) (by decide +kernel)
theorem sw_JStr_getBytes : Jvm.Cond.selects "java/lang/String" mn_JStr_getBytes mn_JStr_getBytes ∈ jk_WA := jk_tb 1460 (by decide +kernel) (by decide +kernel)
theorem rd_JStr_init2_0 : decode mb_JStr_init2 0 = .ok (.aload_n 0, 1) := by decide +kernel
theorem rd_JStr_init2_1 : decode mb_JStr_init2 1 = .ok (.invokespecial 1, 3) := by decide +kernel
theorem rd_JStr_init2_4 : decode mb_JStr_init2 4 = .ok (.aload_n 1, 1) := by decide +kernel
theorem rd_JStr_init2_5 : decode mb_JStr_init2 5 = .ok (.invokevirtual 552, 3) := by decide +kernel
theorem rd_JStr_init2_8 : decode mb_JStr_init2 8 = .ok (.astore_n 3, 1) := by decide +kernel
theorem rd_JStr_init2_9 : decode mb_JStr_init2 9 = .ok (.aload_n 1, 1) := by decide +kernel
theorem rd_JStr_init2_10 : decode mb_JStr_init2 10 = .ok (.invokevirtual 549, 3) := by decide +kernel
theorem rd_JStr_init2_13 : decode mb_JStr_init2 13 = .ok (.istore 4, 2) := by decide +kernel
theorem rd_JStr_init2_15 : decode mb_JStr_init2 15 = .ok (.aload_n 1, 1) := by decide +kernel
theorem rd_JStr_init2_16 : decode mb_JStr_init2 16 = .ok (.invokevirtual 1047, 3) := by decide +kernel
theorem rd_JStr_init2_19 : decode mb_JStr_init2 19 = .ok (.ifCond .eq 22, 3) := by decide +kernel
theorem rd_JStr_init2_22 : decode mb_JStr_init2 22 = .ok (.aload_n 0, 1) := by decide +kernel
theorem rd_JStr_init2_23 : decode mb_JStr_init2 23 = .ok (.iconst 0, 1) := by decide +kernel
theorem rd_JStr_init2_24 : decode mb_JStr_init2 24 = .ok (.putfield 15, 3) := by decide +kernel
theorem rd_JStr_init2_27 : decode mb_JStr_init2 27 = .ok (.aload_n 0, 1) := by decide +kernel
theorem rd_JStr_init2_28 : decode mb_JStr_init2 28 = .ok (.aload_n 3, 1) := by decide +kernel
theorem rd_JStr_init2_29 : decode mb_JStr_init2 29 = .ok (.iconst 0, 1) := by decide +kernel
theorem rd_JStr_init2_30 : decode mb_JStr_init2 30 = .ok (.iload 4, 2) := by decide +kernel
theorem rd_JStr_init2_32 : decode mb_JStr_init2 32 = .ok (.invokestatic 54, 3) := by decide +kernel
theorem rd_JStr_init2_35 : decode mb_JStr_init2 35 = .ok (.putfield 9, 3) := by decide +kernel
theorem rd_JStr_init2_38 : decode mb_JStr_init2 38 = .ok (.goto 59, 3) := by decide +kernel
theorem rd_JStr_init2_41 : decode mb_JStr_init2 41 = .ok (.getstatic 38, 3) := by decide +kernel
theorem rd_JStr_init2_44 : decode mb_JStr_init2 44 = .ok (.ifCond .eq 35, 3) := by decide +kernel
