theorem rd_JStr_init2_47 : decode mb_JStr_init2 47 = .ok (.aload_n 1, 1) := by decide +kernel
theorem rd_JStr_init2_48 : decode mb_JStr_init2 48 = .ok (.getfield 1048, 3) := by decide +kernel
theorem rd_JStr_init2_51 : decode mb_JStr_init2 51 = .ok (.ifCond .eq 28, 3) := by decide +kernel
theorem rd_JStr_init2_54 : decode mb_JStr_init2 54 = .ok (.aload_n 0, 1) := by decide +kernel
theorem rd_JStr_init2_55 : decode mb_JStr_init2 55 = .ok (.aload_n 3, 1) := by decide +kernel
theorem rd_JStr_init2_56 : decode mb_JStr_init2 56 = .ok (.iconst 0, 1) := by decide +kernel
theorem rd_JStr_init2_57 : decode mb_JStr_init2 57 = .ok (.iload 4, 2) := by decide +kernel
theorem rd_JStr_init2_59 : decode mb_JStr_init2 59 = .ok (.invokestatic 1051, 3) := by decide +kernel
theorem rd_JStr_init2_62 : decode mb_JStr_init2 62 = .ok (.putfield 9, 3) := by decide +kernel
theorem rd_JStr_init2_65 : decode mb_JStr_init2 65 = .ok (.aload_n 0, 1) := by decide +kernel
theorem rd_JStr_init2_66 : decode mb_JStr_init2 66 = .ok (.aload_n 0, 1) := by decide +kernel
theorem rd_JStr_init2_67 : decode mb_JStr_init2 67 = .ok (.getfield 9, 3) := by decide +kernel
theorem rd_JStr_init2_70 : decode mb_JStr_init2 70 = .ok (.iload 4, 2) := by decide +kernel
theorem rd_JStr_init2_72 : decode mb_JStr_init2 72 = .ok (.invokestatic 47, 3) := by decide +kernel
theorem rd_JStr_init2_75 : decode mb_JStr_init2 75 = .ok (.putfield 15, 3) := by decide +kernel
theorem rd_JStr_init2_78 : decode mb_JStr_init2 78 = .ok (.return_, 1) := by decide +kernel
theorem rd_JStr_init2_79 : decode mb_JStr_init2 79 = .ok (.aload_n 0, 1) := by decide +kernel
theorem rd_JStr_init2_80 : decode mb_JStr_init2 80 = .ok (.iconst 1, 1) := by decide +kernel
theorem rd_JStr_init2_81 : decode mb_JStr_init2 81 = .ok (.putfield 15, 3) := by decide +kernel
theorem rd_JStr_init2_84 : decode mb_JStr_init2 84 = .ok (.aload_n 0, 1) := by decide +kernel
theorem rd_JStr_init2_85 : decode mb_JStr_init2 85 = .ok (.aload_n 3, 1) := by decide +kernel
theorem rd_JStr_init2_86 : decode mb_JStr_init2 86 = .ok (.iconst 0, 1) := by decide +kernel
theorem rd_JStr_init2_87 : decode mb_JStr_init2 87 = .ok (.iload 4, 2) := by decide +kernel
theorem rd_JStr_init2_89 : decode mb_JStr_init2 89 = .ok (.iconst 1, 1) := by decide +kernel
theorem rd_JStr_init2_90 : decode mb_JStr_init2 90 = .ok (.ishl, 1) := by decide +kernel
theorem rd_JStr_init2_91 : decode mb_JStr_init2 91 = .ok (.invokestatic 54, 3) := by decide +kernel
theorem rd_JStr_init2_94 : decode mb_JStr_init2 94 = .ok (.putfield 9, 3) := by decide +kernel
theorem rd_JStr_init2_97 : decode mb_JStr_init2 97 = .ok (.return_, 1) := by decide +kernel
theorem cw_JStr_init2 : Jvm.Cond.code mn_JStr_init2 prog_33_method_150_code (5 : Nat) none ∈ jk_WA := jk_tb 1526 (by decide +kernel) (by decide +kernel)
theorem xw_JStr_init2 : Jvm.Cond.instanceMethod mn_JStr_init2 ∈ jk_WA := jk_tb 1525 (by decide +kernel) (by decide +kernel)
theorem cw_JStr_coder : Jvm.Cond.code mn_JStr_coder prog_33_method_152_code (1 : Nat) (some .byte) ∈ jk_WA := jk_tb 218 (by decide +kernel) (by decide +kernel)
theorem xw_JStr_coder : Jvm.Cond.instanceMethod mn_JStr_coder ∈ jk_WA := jk_tb 216 (by decide +kernel) (by decide +kernel)
theorem sw_JStr_coder : Jvm.Cond.selects "java/lang/String" mn_JStr_coder mn_JStr_coder ∈ jk_WA := jk_tb 217 (by decide +kernel) (by decide +kernel)
theorem cw_JStr_isLatin1 : Jvm.Cond.code mn_JStr_isLatin1 prog_33_method_154_code (1 : Nat) (some .boolean) ∈ jk_WA := jk_tb 228 (by decide +kernel) (by decide +kernel)
theorem xw_JStr_isLatin1 : Jvm.Cond.instanceMethod mn_JStr_isLatin1 ∈ jk_WA := jk_tb 226 (by decide +kernel) (by decide +kernel)
theorem sw_JStr_isLatin1 : Jvm.Cond.selects "java/lang/String" mn_JStr_isLatin1 mn_JStr_isLatin1 ∈ jk_WA := jk_tb 227 (by decide +kernel) (by decide +kernel)
theorem cw_JStr_checkIndex : Jvm.Cond.code mn_JStr_checkIndex prog_33_method_155_code (2 : Nat) none ∈ jk_WA := jk_tb 234 (by decide +kernel) (by decide +kernel)
theorem xw_JStr_checkIndex : Jvm.Cond.static mn_JStr_checkIndex ∈ jk_WA := jk_tb 233 (by decide +kernel) (by decide +kernel)
theorem rd_JStr_checkBoundsOffCount_0 : decode mb_JStr_checkBoundsOffCount 0 = .ok (.iload_n 0, 1) := by decide +kernel
theorem rd_JStr_checkBoundsOffCount_1 : decode mb_JStr_checkBoundsOffCount 1 = .ok (.iload_n 1, 1) := by decide +kernel
theorem rd_JStr_checkBoundsOffCount_2 : decode mb_JStr_checkBoundsOffCount 2 = .ok (.iload_n 2, 1) := by decide +kernel
theorem rd_JStr_checkBoundsOffCount_3 : decode mb_JStr_checkBoundsOffCount 3 = .ok (.getstatic 1053, 3) := by decide +kernel
theorem rd_JStr_checkBoundsOffCount_6 : decode mb_JStr_checkBoundsOffCount 6 = .ok (.invokestatic 1065, 3) := by decide +kernel
theorem rd_JStr_checkBoundsOffCount_9 : decode mb_JStr_checkBoundsOffCount 9 = .ok (.ireturn, 1) := by decide +kernel
theorem cw_JStr_checkBoundsOffCount : Jvm.Cond.code mn_JStr_checkBoundsOffCount prog_33_method_157_code (3 : Nat) (some .int) ∈ jk_WA := jk_tb 1454 (by decide +kernel) (by decide +kernel)
theorem xw_JStr_checkBoundsOffCount : Jvm.Cond.static mn_JStr_checkBoundsOffCount ∈ jk_WA := jk_tb 1453 (by decide +kernel) (by decide +kernel)
theorem rd_JStr_checkBoundsBeginEnd_0 : decode mb_JStr_checkBoundsBeginEnd 0 = .ok (.iload_n 0, 1) := by decide +kernel
theorem rd_JStr_checkBoundsBeginEnd_1 : decode mb_JStr_checkBoundsBeginEnd 1 = .ok (.iload_n 1, 1) := by decide +kernel
theorem rd_JStr_checkBoundsBeginEnd_2 : decode mb_JStr_checkBoundsBeginEnd 2 = .ok (.iload_n 2, 1) := by decide +kernel
theorem rd_JStr_checkBoundsBeginEnd_3 : decode mb_JStr_checkBoundsBeginEnd 3 = .ok (.getstatic 1053, 3) := by decide +kernel
theorem rd_JStr_checkBoundsBeginEnd_6 : decode mb_JStr_checkBoundsBeginEnd 6 = .ok (.invokestatic 1062, 3) := by decide +kernel
theorem rd_JStr_checkBoundsBeginEnd_9 : decode mb_JStr_checkBoundsBeginEnd 9 = .ok (.pop, 1) := by decide +kernel
theorem rd_JStr_checkBoundsBeginEnd_10 : decode mb_JStr_checkBoundsBeginEnd 10 = .ok (.return_, 1) := by decide +kernel
theorem cw_JStr_checkBoundsBeginEnd : Jvm.Cond.code mn_JStr_checkBoundsBeginEnd prog_33_method_158_code (3 : Nat) none ∈ jk_WA := jk_tb 1424 (by decide +kernel) (by decide +kernel)
theorem xw_JStr_checkBoundsBeginEnd : Jvm.Cond.static mn_JStr_checkBoundsBeginEnd ∈ jk_WA := jk_tb 1423 (by decide +kernel) (by decide +kernel)
theorem rd_SB_init_0 : decode mb_SB_init 0 = .ok (.aload_n 0, 1) := by decide +kernel
theorem rd_SB_init_1 : decode mb_SB_init 1 = .ok (.aload_n 1, 1) := by decide +kernel
theorem rd_SB_init_2 : decode mb_SB_init 2 = .ok (.invokespecial 7, 3) := by decide +kernel
theorem rd_SB_init_5 : decode mb_SB_init 5 = .ok (.return_, 1) := by decide +kernel
theorem cw_SB_init : Jvm.Cond.code mn_SB_init prog_34_method_3_code (2 : Nat) none ∈ jk_WA := jk_tb 1358 (by decide +kernel) (by decide +kernel)
theorem xw_SB_init : Jvm.Cond.instanceMethod mn_SB_init ∈ jk_WA := jk_tb 1357 (by decide +kernel) (by decide +kernel)
theorem rd_SB_apS_0 : decode mb_SB_apS 0 = .ok (.aload_n 0, 1) := by decide +kernel
theorem rd_SB_apS_1 : decode mb_SB_apS 1 = .ok (.aload_n 1, 1) := by decide +kernel
theorem rd_SB_apS_2 : decode mb_SB_apS 2 = .ok (.invokespecial 29, 3) := by decide +kernel
theorem rd_SB_apS_5 : decode mb_SB_apS 5 = .ok (.pop, 1) := by decide +kernel
theorem rd_SB_apS_6 : decode mb_SB_apS 6 = .ok (.aload_n 0, 1) := by decide +kernel
theorem rd_SB_apS_7 : decode mb_SB_apS 7 = .ok (.areturn, 1) := by decide +kernel
theorem cw_SB_apS : Jvm.Cond.code mn_SB_apS prog_34_method_7_code (2 : Nat) (Option.some (Jvm.ClassFile.FieldType.object "java/lang/StringBuilder")) ∈ jk_WA := jk_tb 1383 (by decide +kernel) (by decide +kernel)
theorem xw_SB_apS : Jvm.Cond.instanceMethod mn_SB_apS ∈ jk_WA := jk_tb 1381 (by decide +kernel) (by decide +kernel)
theorem sw_SB_apS : Jvm.Cond.selects "java/lang/StringBuilder" mn_SB_apS mn_SB_apS ∈ jk_WA := jk_tb 1382 (by decide +kernel) (by decide +kernel)
theorem rd_SB_apC_0 : decode mb_SB_apC 0 = .ok (.aload_n 0, 1) := by decide +kernel
theorem rd_SB_apC_1 : decode mb_SB_apC 1 = .ok (.iload_n 1, 1) := by decide +kernel
theorem rd_SB_apC_2 : decode mb_SB_apC 2 = .ok (.invokespecial 50, 3) := by decide +kernel
theorem rd_SB_apC_5 : decode mb_SB_apC 5 = .ok (.pop, 1) := by decide +kernel
theorem rd_SB_apC_6 : decode mb_SB_apC 6 = .ok (.aload_n 0, 1) := by decide +kernel
theorem rd_SB_apC_7 : decode mb_SB_apC 7 = .ok (.areturn, 1) := by decide +kernel
theorem cw_SB_apC : Jvm.Cond.code mn_SB_apC prog_34_method_14_code (2 : Nat) (Option.some (Jvm.ClassFile.FieldType.object "java/lang/StringBuilder")) ∈ jk_WA := jk_tb 1480 (by decide +kernel) (by decide +kernel)
theorem xw_SB_apC : Jvm.Cond.instanceMethod mn_SB_apC ∈ jk_WA := jk_tb 1478 (by decide +kernel) (by decide +kernel)
theorem sw_SB_apC : Jvm.Cond.selects "java/lang/StringBuilder" mn_SB_apC mn_SB_apC ∈ jk_WA := jk_tb 1479 (by decide +kernel) (by decide +kernel)
theorem rd_SB_apI_0 : decode mb_SB_apI 0 = .ok (.aload_n 0, 1) := by decide +kernel
theorem rd_SB_apI_1 : decode mb_SB_apI 1 = .ok (.iload_n 1, 1) := by decide +kernel
theorem rd_SB_apI_2 : decode mb_SB_apI 2 = .ok (.invokespecial 53, 3) := by decide +kernel
theorem rd_SB_apI_5 : decode mb_SB_apI 5 = .ok (.pop, 1) := by decide +kernel
theorem rd_SB_apI_6 : decode mb_SB_apI 6 = .ok (.aload_n 0, 1) := by decide +kernel
theorem rd_SB_apI_7 : decode mb_SB_apI 7 = .ok (.areturn, 1) := by decide +kernel
theorem cw_SB_apI : Jvm.Cond.code mn_SB_apI prog_34_method_15_code (2 : Nat) (Option.some (Jvm.ClassFile.FieldType.object "java/lang/StringBuilder")) ∈ jk_WA := jk_tb 1493 (by decide +kernel) (by decide +kernel)
theorem xw_SB_apI : Jvm.Cond.instanceMethod mn_SB_apI ∈ jk_WA := jk_tb 1491 (by decide +kernel) (by decide +kernel)
theorem sw_SB_apI : Jvm.Cond.selects "java/lang/StringBuilder" mn_SB_apI mn_SB_apI ∈ jk_WA := jk_tb 1492 (by decide +kernel) (by decide +kernel)
theorem rd_SB_toString_0 : decode mb_SB_toString 0 = .ok (.new 18, 3) := by decide +kernel
theorem rd_SB_toString_3 : decode mb_SB_toString 3 = .ok (.dup, 1) := by decide +kernel
theorem rd_SB_toString_4 : decode mb_SB_toString 4 = .ok (.aload_n 0, 1) := by decide +kernel
theorem rd_SB_toString_5 : decode mb_SB_toString 5 = .ok (.invokespecial 137, 3) := by decide +kernel
theorem rd_SB_toString_8 : decode mb_SB_toString 8 = .ok (.areturn, 1) := by decide +kernel
theorem cw_SB_toString : Jvm.Cond.code mn_SB_toString prog_34_method_42_code (1 : Nat) (Option.some (Jvm.ClassFile.FieldType.object "java/lang/String")) ∈ jk_WA := jk_tb 1518 (by decide +kernel) (by decide +kernel)
theorem xw_SB_toString : Jvm.Cond.instanceMethod mn_SB_toString ∈ jk_WA := jk_tb 1516 (by decide +kernel) (by decide +kernel)
theorem sw_SB_toString : Jvm.Cond.selects "java/lang/StringBuilder" mn_SB_toString mn_SB_toString ∈ jk_WA := jk_tb 1517 (by decide +kernel) (by decide +kernel)
theorem rd_SB_apSb_0 : decode mb_SB_apSb 0 = .ok (.aload_n 0, 1) := by decide +kernel
theorem rd_SB_apSb_1 : decode mb_SB_apSb 1 = .ok (.aload_n 1, 1) := by decide +kernel
theorem rd_SB_apSb_2 : decode mb_SB_apSb 2 = .ok (.invokevirtual 23, 3) := by decide +kernel
theorem rd_SB_apSb_5 : decode mb_SB_apSb 5 = .ok (.areturn, 1) := by decide +kernel
theorem cw_SB_apSb : Jvm.Cond.code mn_SB_apSb prog_34_method_80_code (2 : Nat) (Option.some (Jvm.ClassFile.FieldType.object "java/lang/AbstractStringBuilder")) ∈ jk_WA := jk_tb 1379 (by decide +kernel) (by decide +kernel)
theorem xw_SB_apSb : Jvm.Cond.instanceMethod mn_SB_apSb ∈ jk_WA := jk_tb 1378 (by decide +kernel) (by decide +kernel)
theorem rd_SB_length_0 : decode mb_SB_length 0 = .ok (.aload_n 0, 1) := by decide +kernel
theorem rd_SB_length_1 : decode mb_SB_length 1 = .ok (.invokespecial 343, 3) := by decide +kernel
theorem rd_SB_length_4 : decode mb_SB_length 4 = .ok (.ireturn, 1) := by decide +kernel
theorem cw_SB_length : Jvm.Cond.code mn_SB_length prog_34_method_93_code (1 : Nat) (some .int) ∈ jk_WA := jk_tb 1538 (by decide +kernel) (by decide +kernel)
theorem xw_SB_length : Jvm.Cond.instanceMethod mn_SB_length ∈ jk_WA := jk_tb 1537 (by decide +kernel) (by decide +kernel)
theorem cw_JLat_charAt : Jvm.Cond.code mn_JLat_charAt prog_35_method_2_code (2 : Nat) (some .char) ∈ jk_WA := jk_tb 231 (by decide +kernel) (by decide +kernel)
theorem xw_JLat_charAt : Jvm.Cond.static mn_JLat_charAt ∈ jk_WA := jk_tb 230 (by decide +kernel) (by decide +kernel)
theorem rd_JLat_canEncode_0 : decode mb_JLat_canEncode 0 = .ok (.iload_n 0, 1) := by decide +kernel
theorem rd_JLat_canEncode_1 : decode mb_JLat_canEncode 1 = .ok (.sipush 255, 3) := by decide +kernel
theorem rd_JLat_canEncode_4 : decode mb_JLat_canEncode 4 = .ok (.if_icmp .gt 7, 3) := by decide +kernel
theorem rd_JLat_canEncode_7 : decode mb_JLat_canEncode 7 = .ok (.iconst 1, 1) := by decide +kernel
theorem rd_JLat_canEncode_8 : decode mb_JLat_canEncode 8 = .ok (.goto 4, 3) := by decide +kernel
theorem rd_JLat_canEncode_11 : decode mb_JLat_canEncode 11 = .ok (.iconst 0, 1) := by decide +kernel
theorem rd_JLat_canEncode_12 : decode mb_JLat_canEncode 12 = .ok (.ireturn, 1) := by decide +kernel
theorem cw_JLat_canEncode : Jvm.Cond.code mn_JLat_canEncode prog_35_method_3_code (1 : Nat) (some .boolean) ∈ jk_WA := jk_tb 1486 (by decide +kernel) (by decide +kernel)
theorem xw_JLat_canEncode : Jvm.Cond.static mn_JLat_canEncode ∈ jk_WA := jk_tb 1485 (by decide +kernel) (by decide +kernel)
theorem rd_ABC_init_0 : decode mb_ABC_init 0 = .ok (.aload_n 0, 1) := by decide +kernel
theorem rd_ABC_init_1 : decode mb_ABC_init 1 = .ok (.invokespecial 1, 3) := by decide +kernel
theorem rd_ABC_init_4 : decode mb_ABC_init 4 = .ok (.return_, 1) := by decide +kernel
theorem cw_ABC_init : Jvm.Cond.code mn_ABC_init prog_41_method_1_code (1 : Nat) none ∈ jk_WA := jk_tb 601 (by decide +kernel) (by decide +kernel)
theorem xw_ABC_init : Jvm.Cond.instanceMethod mn_ABC_init ∈ jk_WA := jk_tb 600 (by decide +kernel) (by decide +kernel)
theorem rd_ABL_init_0 : decode mb_ABL_init 0 = .ok (.aload_n 0, 1) := by decide +kernel
theorem rd_ABL_init_1 : decode mb_ABL_init 1 = .ok (.invokespecial 1, 3) := by decide +kernel
theorem rd_ABL_init_4 : decode mb_ABL_init 4 = .ok (.aload_n 0, 1) := by decide +kernel
theorem rd_ABL_init_5 : decode mb_ABL_init 5 = .ok (.iconst 0, 1) := by decide +kernel
theorem rd_ABL_init_6 : decode mb_ABL_init 6 = .ok (.putfield 7, 3) := by decide +kernel
theorem rd_ABL_init_9 : decode mb_ABL_init 9 = .ok (.return_, 1) := by decide +kernel
theorem cw_ABL_init : Jvm.Cond.code mn_ABL_init prog_42_method_1_code (1 : Nat) none ∈ jk_WA := jk_tb 598 (by decide +kernel) (by decide +kernel)
theorem xw_ABL_init : Jvm.Cond.instanceMethod mn_ABL_init ∈ jk_WA := jk_tb 597 (by decide +kernel) (by decide +kernel)
theorem rd_It_init_0 : decode mb_It_init 0 = .ok (.aload_n 0, 1) := by decide +kernel
theorem rd_It_init_1 : decode mb_It_init 1 = .ok (.aload_n 1, 1) := by decide +kernel
theorem rd_It_init_2 : decode mb_It_init 2 = .ok (.putfield 1, 3) := by decide +kernel
theorem rd_It_init_5 : decode mb_It_init 5 = .ok (.aload_n 0, 1) := by decide +kernel
theorem rd_It_init_6 : decode mb_It_init 6 = .ok (.invokespecial 7, 3) := by decide +kernel
theorem rd_It_init_9 : decode mb_It_init 9 = .ok (.aload_n 0, 1) := by decide +kernel
theorem rd_It_init_10 : decode mb_It_init 10 = .ok (.iconst (-1), 1) := by decide +kernel
theorem rd_It_init_11 : decode mb_It_init 11 = .ok (.putfield 13, 3) := by decide +kernel
theorem rd_It_init_14 : decode mb_It_init 14 = .ok (.aload_n 0, 1) := by decide +kernel
theorem rd_It_init_15 : decode mb_It_init 15 = .ok (.aload_n 0, 1) := by decide +kernel
theorem rd_It_init_16 : decode mb_It_init 16 = .ok (.getfield 1, 3) := by decide +kernel
theorem rd_It_init_19 : decode mb_It_init 19 = .ok (.getfield 17, 3) := by decide +kernel
theorem rd_It_init_22 : decode mb_It_init 22 = .ok (.putfield 22, 3) := by decide +kernel
theorem rd_It_init_25 : decode mb_It_init 25 = .ok (.return_, 1) := by decide +kernel
theorem cw_It_init : Jvm.Cond.code mn_It_init prog_44_method_1_code (2 : Nat) none ∈ jk_WA := jk_tb 649 (by decide +kernel) (by decide +kernel)
theorem xw_It_init : Jvm.Cond.instanceMethod mn_It_init ∈ jk_WA := jk_tb 648 (by decide +kernel) (by decide +kernel)
theorem rd_It_hasNext_0 : decode mb_It_hasNext 0 = .ok (.aload_n 0, 1) := by decide +kernel
theorem rd_It_hasNext_1 : decode mb_It_hasNext 1 = .ok (.getfield 25, 3) := by decide +kernel
theorem rd_It_hasNext_4 : decode mb_It_hasNext 4 = .ok (.aload_n 0, 1) := by decide +kernel
theorem rd_It_hasNext_5 : decode mb_It_hasNext 5 = .ok (.getfield 1, 3) := by decide +kernel
theorem rd_It_hasNext_8 : decode mb_It_hasNext 8 = .ok (.getfield 28, 3) := by decide +kernel
theorem rd_It_hasNext_11 : decode mb_It_hasNext 11 = .ok (.if_icmp .eq 7, 3) := by decide +kernel
theorem rd_It_hasNext_14 : decode mb_It_hasNext 14 = .ok (.iconst 1, 1) := by decide +kernel
theorem rd_It_hasNext_15 : decode mb_It_hasNext 15 = .ok (.goto 4, 3) := by decide +kernel
theorem rd_It_hasNext_18 : decode mb_It_hasNext 18 = .ok (.iconst 0, 1) := by decide +kernel
theorem rd_It_hasNext_19 : decode mb_It_hasNext 19 = .ok (.ireturn, 1) := by decide +kernel
theorem cw_It_hasNext : Jvm.Cond.code mn_It_hasNext prog_44_method_2_code (1 : Nat) (some .boolean) ∈ jk_WA := jk_tb 673 (by decide +kernel) (by decide +kernel)
theorem xw_It_hasNext : Jvm.Cond.instanceMethod mn_It_hasNext ∈ jk_WA := jk_tb 671 (by decide +kernel) (by decide +kernel)
theorem rd_It_next_0 : decode mb_It_next 0 = .ok (.aload_n 0, 1) := by decide +kernel
theorem rd_It_next_1 : decode mb_It_next 1 = .ok (.invokevirtual 31, 3) := by decide +kernel
theorem rd_It_next_4 : decode mb_It_next 4 = .ok (.aload_n 0, 1) := by decide +kernel
theorem rd_It_next_5 : decode mb_It_next 5 = .ok (.getfield 25, 3) := by decide +kernel
theorem rd_It_next_8 : decode mb_It_next 8 = .ok (.istore_n 1, 1) := by decide +kernel
theorem rd_It_next_9 : decode mb_It_next 9 = .ok (.iload_n 1, 1) := by decide +kernel
theorem rd_It_next_10 : decode mb_It_next 10 = .ok (.aload_n 0, 1) := by decide +kernel
theorem rd_It_next_11 : decode mb_It_next 11 = .ok (.getfield 1, 3) := by decide +kernel
theorem rd_It_next_14 : decode mb_It_next 14 = .ok (.getfield 28, 3) := by decide +kernel
theorem rd_It_next_17 : decode mb_It_next 17 = .ok (.if_icmp .lt 11, 3) := by decide +kernel
theorem rd_It_next_20 : decode mb_It_next 20 = .ok (.new 34, 3) := by decide +kernel
theorem rd_It_next_23 : decode mb_It_next 23 = .ok (.dup, 1) := by decide +kernel
theorem rd_It_next_24 : decode mb_It_next 24 = .ok (.invokespecial 36, 3) := by decide +kernel
theorem rd_It_next_27 : decode mb_It_next 27 = .ok (.athrow, 1) := by decide +kernel
theorem rd_It_next_28 : decode mb_It_next 28 = .ok (.aload_n 0, 1) := by decide +kernel
theorem rd_It_next_29 : decode mb_It_next 29 = .ok (.getfield 1, 3) := by decide +kernel
theorem rd_It_next_32 : decode mb_It_next 32 = .ok (.getfield 37, 3) := by decide +kernel
theorem rd_It_next_35 : decode mb_It_next 35 = .ok (.astore_n 2, 1) := by decide +kernel
theorem rd_It_next_36 : decode mb_It_next 36 = .ok (.iload_n 1, 1) := by decide +kernel
theorem rd_It_next_37 : decode mb_It_next 37 = .ok (.aload_n 2, 1) := by decide +kernel
theorem rd_It_next_38 : decode mb_It_next 38 = .ok (.arraylength, 1) := by decide +kernel
theorem rd_It_next_39 : decode mb_It_next 39 = .ok (.if_icmp .lt 11, 3) := by decide +kernel
theorem rd_It_next_42 : decode mb_It_next 42 = .ok (.new 41, 3) := by decide +kernel
theorem rd_It_next_45 : decode mb_It_next 45 = .ok (.dup, 1) := by decide +kernel
theorem rd_It_next_46 : decode mb_It_next 46 = .ok (.invokespecial 43, 3) := by decide +kernel
theorem rd_It_next_49 : decode mb_It_next 49 = .ok (.athrow, 1) := by decide +kernel
theorem rd_It_next_50 : decode mb_It_next 50 = .ok (.aload_n 0, 1) := by decide +kernel
theorem rd_It_next_51 : decode mb_It_next 51 = .ok (.iload_n 1, 1) := by decide +kernel
theorem rd_It_next_52 : decode mb_It_next 52 = .ok (.iconst 1, 1) := by decide +kernel
theorem rd_It_next_53 : decode mb_It_next 53 = .ok (.iadd, 1) := by decide +kernel
theorem rd_It_next_54 : decode mb_It_next 54 = .ok (.putfield 25, 3) := by decide +kernel
theorem rd_It_next_57 : decode mb_It_next 57 = .ok (.aload_n 2, 1) := by decide +kernel
theorem rd_It_next_58 : decode mb_It_next 58 = .ok (.aload_n 0, 1) := by decide +kernel
theorem rd_It_next_59 : decode mb_It_next 59 = .ok (.iload_n 1, 1) := by decide +kernel
theorem rd_It_next_60 : decode mb_It_next 60 = .ok (.dup_x1, 1) := by decide +kernel
theorem rd_It_next_61 : decode mb_It_next 61 = .ok (.putfield 13, 3) := by decide +kernel
theorem rd_It_next_64 : decode mb_It_next 64 = .ok (.aaload, 1) := by decide +kernel
theorem rd_It_next_65 : decode mb_It_next 65 = .ok (.areturn, 1) := by decide +kernel
theorem cw_It_next : Jvm.Cond.code mn_It_next prog_44_method_3_code (3 : Nat) (Option.some (Jvm.ClassFile.FieldType.object "java/lang/Object")) ∈ jk_WA := jk_tb 682 (by decide +kernel) (by decide +kernel)
theorem xw_It_next : Jvm.Cond.instanceMethod mn_It_next ∈ jk_WA := jk_tb 680 (by decide +kernel) (by decide +kernel)
theorem rd_It_checkForComodification_0 : decode mb_It_checkForComodification 0 = .ok (.aload_n 0, 1) := by decide +kernel
theorem rd_It_checkForComodification_1 : decode mb_It_checkForComodification 1 = .ok (.getfield 1, 3) := by decide +kernel
theorem rd_It_checkForComodification_4 : decode mb_It_checkForComodification 4 = .ok (.getfield 17, 3) := by decide +kernel
theorem rd_It_checkForComodification_7 : decode mb_It_checkForComodification 7 = .ok (.aload_n 0, 1) := by decide +kernel
theorem rd_It_checkForComodification_8 : decode mb_It_checkForComodification 8 = .ok (.getfield 22, 3) := by decide +kernel
theorem rd_It_checkForComodification_11 : decode mb_It_checkForComodification 11 = .ok (.if_icmp .eq 11, 3) := by decide +kernel
theorem rd_It_checkForComodification_14 : decode mb_It_checkForComodification 14 = .ok (.new 41, 3) := by decide +kernel
theorem rd_It_checkForComodification_17 : decode mb_It_checkForComodification 17 = .ok (.dup, 1) := by decide +kernel
theorem rd_It_checkForComodification_18 : decode mb_It_checkForComodification 18 = .ok (.invokespecial 43, 3) := by decide +kernel
theorem rd_It_checkForComodification_21 : decode mb_It_checkForComodification 21 = .ok (.athrow, 1) := by decide +kernel
theorem rd_It_checkForComodification_22 : decode mb_It_checkForComodification 22 = .ok (.return_, 1) := by decide +kernel
theorem cw_It_checkForComodification : Jvm.Cond.code mn_It_checkForComodification prog_44_method_6_code (1 : Nat) none ∈ jk_WA := jk_tb 686 (by decide +kernel) (by decide +kernel)
theorem xw_It_checkForComodification : Jvm.Cond.instanceMethod mn_It_checkForComodification ∈ jk_WA := jk_tb 684 (by decide +kernel) (by decide +kernel)
theorem sw_It_checkForComodification : Jvm.Cond.selects "java/util/ArrayList$Itr" mn_It_checkForComodification mn_It_checkForComodification ∈ jk_WA := jk_tb 685 (by decide +kernel) (by decide +kernel)
theorem rd_AL_init_0 : decode mb_AL_init 0 = .ok (.aload_n 0, 1) := by decide +kernel
theorem rd_AL_init_1 : decode mb_AL_init 1 = .ok (.invokespecial 1, 3) := by decide +kernel
theorem rd_AL_init_4 : decode mb_AL_init 4 = .ok (.aload_n 0, 1) := by decide +kernel
theorem rd_AL_init_5 : decode mb_AL_init 5 = .ok (.getstatic 39, 3) := by decide +kernel
theorem rd_AL_init_8 : decode mb_AL_init 8 = .ok (.putfield 9, 3) := by decide +kernel
theorem rd_AL_init_11 : decode mb_AL_init 11 = .ok (.return_, 1) := by decide +kernel
theorem cw_AL_init : Jvm.Cond.code mn_AL_init prog_43_method_2_code (1 : Nat) none ∈ jk_WA := jk_tb 595 (by decide +kernel) (by decide +kernel)
theorem xw_AL_init : Jvm.Cond.instanceMethod mn_AL_init ∈ jk_WA := jk_tb 594 (by decide +kernel) (by decide +kernel)
theorem rd_AL_grow_0 : decode mb_AL_grow 0 = .ok (.aload_n 0, 1) := by decide +kernel
theorem rd_AL_grow_1 : decode mb_AL_grow 1 = .ok (.getfield 9, 3) := by decide +kernel
theorem rd_AL_grow_4 : decode mb_AL_grow 4 = .ok (.arraylength, 1) := by decide +kernel
theorem rd_AL_grow_5 : decode mb_AL_grow 5 = .ok (.istore_n 2, 1) := by decide +kernel
theorem rd_AL_grow_6 : decode mb_AL_grow 6 = .ok (.iload_n 2, 1) := by decide +kernel
theorem rd_AL_grow_7 : decode mb_AL_grow 7 = .ok (.ifCond .gt 13, 3) := by decide +kernel
theorem rd_AL_grow_10 : decode mb_AL_grow 10 = .ok (.aload_n 0, 1) := by decide +kernel
theorem rd_AL_grow_11 : decode mb_AL_grow 11 = .ok (.getfield 9, 3) := by decide +kernel
theorem rd_AL_grow_14 : decode mb_AL_grow 14 = .ok (.getstatic 39, 3) := by decide +kernel
theorem rd_AL_grow_17 : decode mb_AL_grow 17 = .ok (.if_acmp .eq 28, 3) := by decide +kernel
theorem rd_AL_grow_20 : decode mb_AL_grow 20 = .ok (.iload_n 2, 1) := by decide +kernel
theorem rd_AL_grow_21 : decode mb_AL_grow 21 = .ok (.iload_n 1, 1) := by decide +kernel
theorem rd_AL_grow_22 : decode mb_AL_grow 22 = .ok (.iload_n 2, 1) := by decide +kernel
theorem rd_AL_grow_23 : decode mb_AL_grow 23 = .ok (.isub, 1) := by decide +kernel
theorem rd_AL_grow_24 : decode mb_AL_grow 24 = .ok (.iload_n 2, 1) := by decide +kernel
theorem rd_AL_grow_25 : decode mb_AL_grow 25 = .ok (.iconst 1, 1) := by decide +kernel
theorem rd_AL_grow_26 : decode mb_AL_grow 26 = .ok (.ishr, 1) := by decide +kernel
theorem rd_AL_grow_27 : decode mb_AL_grow 27 = .ok (.invokestatic 73, 3) := by decide +kernel
theorem rd_AL_grow_30 : decode mb_AL_grow 30 = .ok (.istore_n 3, 1) := by decide +kernel
theorem rd_AL_grow_31 : decode mb_AL_grow 31 = .ok (.aload_n 0, 1) := by decide +kernel
theorem rd_AL_grow_32 : decode mb_AL_grow 32 = .ok (.aload_n 0, 1) := by decide +kernel
theorem rd_AL_grow_33 : decode mb_AL_grow 33 = .ok (.getfield 9, 3) := by decide +kernel
theorem rd_AL_grow_36 : decode mb_AL_grow 36 = .ok (.iload_n 3, 1) := by decide +kernel
theorem rd_AL_grow_37 : decode mb_AL_grow 37 = .ok (.invokestatic 66, 3) := by decide +kernel
theorem rd_AL_grow_40 : decode mb_AL_grow 40 = .ok (.dup_x1, 1) := by decide +kernel
theorem rd_AL_grow_41 : decode mb_AL_grow 41 = .ok (.putfield 9, 3) := by decide +kernel
theorem rd_AL_grow_44 : decode mb_AL_grow 44 = .ok (.areturn, 1) := by decide +kernel
theorem rd_AL_grow_45 : decode mb_AL_grow 45 = .ok (.aload_n 0, 1) := by decide +kernel
theorem rd_AL_grow_46 : decode mb_AL_grow 46 = .ok (.bipush 10, 2) := by decide +kernel
theorem rd_AL_grow_48 : decode mb_AL_grow 48 = .ok (.iload_n 1, 1) := by decide +kernel
theorem rd_AL_grow_49 : decode mb_AL_grow 49 = .ok (.invokestatic 79, 3) := by decide +kernel
theorem rd_AL_grow_52 : decode mb_AL_grow 52 = .ok (.anewarray 7, 3) := by decide +kernel
theorem rd_AL_grow_55 : decode mb_AL_grow 55 = .ok (.dup_x1, 1) := by decide +kernel
theorem rd_AL_grow_56 : decode mb_AL_grow 56 = .ok (.putfield 9, 3) := by decide +kernel
theorem rd_AL_grow_59 : decode mb_AL_grow 59 = .ok (.areturn, 1) := by decide +kernel
theorem cw_AL_grow : Jvm.Cond.code mn_AL_grow prog_43_method_6_code (4 : Nat) (Option.some (Jvm.ClassFile.FieldType.array (Jvm.ClassFile.FieldType.object "java/lang/Object"))) ∈ jk_WA := jk_tb 826 (by decide +kernel) (by decide +kernel)
theorem xw_AL_grow : Jvm.Cond.instanceMethod mn_AL_grow ∈ jk_WA := jk_tb 825 (by decide +kernel) (by decide +kernel)
theorem sw_AL_grow : Cond.selects mn_AL_grow.cls mn_AL_grow mn_AL_grow ∈ jk_WA := jk_sl 9 (k := 3) (by decide +kernel)
theorem rd_AL_grow0_0 : decode mb_AL_grow0 0 = .ok (.aload_n 0, 1) := by decide +kernel
theorem rd_AL_grow0_1 : decode mb_AL_grow0 1 = .ok (.aload_n 0, 1) := by decide +kernel
theorem rd_AL_grow0_2 : decode mb_AL_grow0 2 = .ok (.getfield 48, 3) := by decide +kernel
theorem rd_AL_grow0_5 : decode mb_AL_grow0 5 = .ok (.iconst 1, 1) := by decide +kernel
theorem rd_AL_grow0_6 : decode mb_AL_grow0 6 = .ok (.iadd, 1) := by decide +kernel
theorem rd_AL_grow0_7 : decode mb_AL_grow0 7 = .ok (.invokevirtual 69, 3) := by decide +kernel
theorem rd_AL_grow0_10 : decode mb_AL_grow0 10 = .ok (.areturn, 1) := by decide +kernel
theorem cw_AL_grow0 : Jvm.Cond.code mn_AL_grow0 prog_43_method_7_code (1 : Nat) (Option.some (Jvm.ClassFile.FieldType.array (Jvm.ClassFile.FieldType.object "java/lang/Object"))) ∈ jk_WA := jk_tb 822 (by decide +kernel) (by decide +kernel)
theorem xw_AL_grow0 : Jvm.Cond.instanceMethod mn_AL_grow0 ∈ jk_WA := jk_tb 821 (by decide +kernel) (by decide +kernel)
theorem sw_AL_grow0 : Cond.selects mn_AL_grow0.cls mn_AL_grow0 mn_AL_grow0 ∈ jk_WA := jk_sl 8 (k := 3) (by decide +kernel)
theorem rd_AL_size_0 : decode mb_AL_size 0 = .ok (.aload_n 0, 1) := by decide +kernel
theorem rd_AL_size_1 : decode mb_AL_size 1 = .ok (.getfield 48, 3) := by decide +kernel
theorem rd_AL_size_4 : decode mb_AL_size 4 = .ok (.ireturn, 1) := by decide +kernel
theorem cw_AL_size : Jvm.Cond.code mn_AL_size prog_43_method_8_code (1 : Nat) (some .int) ∈ jk_WA := jk_tb 783 (by decide +kernel) (by decide +kernel)
theorem xw_AL_size : Jvm.Cond.instanceMethod mn_AL_size ∈ jk_WA := jk_tb 781 (by decide +kernel) (by decide +kernel)
theorem rd_AL_isEmpty_0 : decode mb_AL_isEmpty 0 = .ok (.aload_n 0, 1) := by decide +kernel
theorem rd_AL_isEmpty_1 : decode mb_AL_isEmpty 1 = .ok (.getfield 48, 3) := by decide +kernel
theorem rd_AL_isEmpty_4 : decode mb_AL_isEmpty 4 = .ok (.ifCond .ne 7, 3) := by decide +kernel
theorem rd_AL_isEmpty_7 : decode mb_AL_isEmpty 7 = .ok (.iconst 1, 1) := by decide +kernel
theorem rd_AL_isEmpty_8 : decode mb_AL_isEmpty 8 = .ok (.goto 4, 3) := by decide +kernel
theorem rd_AL_isEmpty_11 : decode mb_AL_isEmpty 11 = .ok (.iconst 0, 1) := by decide +kernel
theorem rd_AL_isEmpty_12 : decode mb_AL_isEmpty 12 = .ok (.ireturn, 1) := by decide +kernel
theorem cw_AL_isEmpty : Jvm.Cond.code mn_AL_isEmpty prog_43_method_9_code (1 : Nat) (some .boolean) ∈ jk_WA := jk_tb 1192 (by decide +kernel) (by decide +kernel)
theorem xw_AL_isEmpty : Jvm.Cond.instanceMethod mn_AL_isEmpty ∈ jk_WA := jk_tb 1190 (by decide +kernel) (by decide +kernel)
theorem rd_AL_elementData_0 : decode mb_AL_elementData 0 = .ok (.aload_n 0, 1) := by decide +kernel
theorem rd_AL_elementData_1 : decode mb_AL_elementData 1 = .ok (.getfield 9, 3) := by decide +kernel
theorem rd_AL_elementData_4 : decode mb_AL_elementData 4 = .ok (.iload_n 1, 1) := by decide +kernel
theorem rd_AL_elementData_5 : decode mb_AL_elementData 5 = .ok (.aaload, 1) := by decide +kernel
theorem rd_AL_elementData_6 : decode mb_AL_elementData 6 = .ok (.areturn, 1) := by decide +kernel
theorem cw_AL_elementData : Jvm.Cond.code mn_AL_elementData prog_43_method_18_code (2 : Nat) (Option.some (Jvm.ClassFile.FieldType.object "java/lang/Object")) ∈ jk_WA := jk_tb 800 (by decide +kernel) (by decide +kernel)
theorem xw_AL_elementData : Jvm.Cond.instanceMethod mn_AL_elementData ∈ jk_WA := jk_tb 798 (by decide +kernel) (by decide +kernel)
theorem sw_AL_elementData : Jvm.Cond.selects "java/util/ArrayList" mn_AL_elementData mn_AL_elementData ∈ jk_WA := jk_tb 799 (by decide +kernel) (by decide +kernel)
theorem rd_AL_get_0 : decode mb_AL_get 0 = .ok (.iload_n 1, 1) := by decide +kernel
theorem rd_AL_get_1 : decode mb_AL_get 1 = .ok (.aload_n 0, 1) := by decide +kernel
theorem rd_AL_get_2 : decode mb_AL_get 2 = .ok (.getfield 48, 3) := by decide +kernel
theorem rd_AL_get_5 : decode mb_AL_get 5 = .ok (.invokestatic 118, 3) := by decide +kernel
theorem rd_AL_get_8 : decode mb_AL_get 8 = .ok (.pop, 1) := by decide +kernel
theorem rd_AL_get_9 : decode mb_AL_get 9 = .ok (.aload_n 0, 1) := by decide +kernel
theorem rd_AL_get_10 : decode mb_AL_get 10 = .ok (.iload_n 1, 1) := by decide +kernel
theorem rd_AL_get_11 : decode mb_AL_get 11 = .ok (.invokevirtual 123, 3) := by decide +kernel
theorem rd_AL_get_14 : decode mb_AL_get 14 = .ok (.areturn, 1) := by decide +kernel
theorem cw_AL_get : Jvm.Cond.code mn_AL_get prog_43_method_20_code (2 : Nat) (Option.some (Jvm.ClassFile.FieldType.object "java/lang/Object")) ∈ jk_WA := jk_tb 792 (by decide +kernel) (by decide +kernel)
theorem xw_AL_get : Jvm.Cond.instanceMethod mn_AL_get ∈ jk_WA := jk_tb 790 (by decide +kernel) (by decide +kernel)
theorem rd_AL_addp_0 : decode mb_AL_addp 0 = .ok (.iload_n 3, 1) := by decide +kernel
theorem rd_AL_addp_1 : decode mb_AL_addp 1 = .ok (.aload_n 2, 1) := by decide +kernel
theorem rd_AL_addp_2 : decode mb_AL_addp 2 = .ok (.arraylength, 1) := by decide +kernel
theorem rd_AL_addp_3 : decode mb_AL_addp 3 = .ok (.if_icmp .ne 8, 3) := by decide +kernel
theorem rd_AL_addp_6 : decode mb_AL_addp 6 = .ok (.aload_n 0, 1) := by decide +kernel
theorem rd_AL_addp_7 : decode mb_AL_addp 7 = .ok (.invokevirtual 129, 3) := by decide +kernel
theorem rd_AL_addp_10 : decode mb_AL_addp 10 = .ok (.astore_n 2, 1) := by decide +kernel
theorem rd_AL_addp_11 : decode mb_AL_addp 11 = .ok (.aload_n 2, 1) := by decide +kernel
theorem rd_AL_addp_12 : decode mb_AL_addp 12 = .ok (.iload_n 3, 1) := by decide +kernel
theorem rd_AL_addp_13 : decode mb_AL_addp 13 = .ok (.aload_n 1, 1) := by decide +kernel
theorem rd_AL_addp_14 : decode mb_AL_addp 14 = .ok (.aastore, 1) := by decide +kernel
theorem rd_AL_addp_15 : decode mb_AL_addp 15 = .ok (.aload_n 0, 1) := by decide +kernel
theorem rd_AL_addp_16 : decode mb_AL_addp 16 = .ok (.iload_n 3, 1) := by decide +kernel
theorem rd_AL_addp_17 : decode mb_AL_addp 17 = .ok (.iconst 1, 1) := by decide +kernel
theorem rd_AL_addp_18 : decode mb_AL_addp 18 = .ok (.iadd, 1) := by decide +kernel
theorem rd_AL_addp_19 : decode mb_AL_addp 19 = .ok (.putfield 48, 3) := by decide +kernel
theorem rd_AL_addp_22 : decode mb_AL_addp 22 = .ok (.return_, 1) := by decide +kernel
theorem cw_AL_addp : Jvm.Cond.code mn_AL_addp prog_43_method_24_code (4 : Nat) none ∈ jk_WA := jk_tb 818 (by decide +kernel) (by decide +kernel)
theorem xw_AL_addp : Jvm.Cond.instanceMethod mn_AL_addp ∈ jk_WA := jk_tb 817 (by decide +kernel) (by decide +kernel)
theorem sw_AL_addp : Cond.selects mn_AL_addp.cls mn_AL_addp mn_AL_addp ∈ jk_WA := jk_sl 7 (k := 3) (by decide +kernel)
theorem rd_AL_add_0 : decode mb_AL_add 0 = .ok (.aload_n 0, 1) := by decide +kernel
theorem rd_AL_add_1 : decode mb_AL_add 1 = .ok (.dup, 1) := by decide +kernel
theorem rd_AL_add_2 : decode mb_AL_add 2 = .ok (.getfield 63, 3) := by decide +kernel
theorem rd_AL_add_5 : decode mb_AL_add 5 = .ok (.iconst 1, 1) := by decide +kernel
theorem rd_AL_add_6 : decode mb_AL_add 6 = .ok (.iadd, 1) := by decide +kernel
theorem rd_AL_add_7 : decode mb_AL_add 7 = .ok (.putfield 63, 3) := by decide +kernel
theorem rd_AL_add_10 : decode mb_AL_add 10 = .ok (.aload_n 0, 1) := by decide +kernel
theorem rd_AL_add_11 : decode mb_AL_add 11 = .ok (.aload_n 1, 1) := by decide +kernel
theorem rd_AL_add_12 : decode mb_AL_add 12 = .ok (.aload_n 0, 1) := by decide +kernel
theorem rd_AL_add_13 : decode mb_AL_add 13 = .ok (.getfield 9, 3) := by decide +kernel
theorem rd_AL_add_16 : decode mb_AL_add 16 = .ok (.aload_n 0, 1) := by decide +kernel
theorem rd_AL_add_17 : decode mb_AL_add 17 = .ok (.getfield 48, 3) := by decide +kernel
theorem rd_AL_add_20 : decode mb_AL_add 20 = .ok (.invokevirtual 131, 3) := by decide +kernel
theorem rd_AL_add_23 : decode mb_AL_add 23 = .ok (.iconst 1, 1) := by decide +kernel
theorem rd_AL_add_24 : decode mb_AL_add 24 = .ok (.ireturn, 1) := by decide +kernel
theorem cw_AL_add : Jvm.Cond.code mn_AL_add prog_43_method_25_code (2 : Nat) (some .boolean) ∈ jk_WA := jk_tb 814 (by decide +kernel) (by decide +kernel)
theorem xw_AL_add : Jvm.Cond.instanceMethod mn_AL_add ∈ jk_WA := jk_tb 812 (by decide +kernel) (by decide +kernel)
theorem rd_AL_remove_0 : decode mb_AL_remove 0 = .ok (.iload_n 1, 1) := by decide +kernel
theorem rd_AL_remove_1 : decode mb_AL_remove 1 = .ok (.aload_n 0, 1) := by decide +kernel
theorem rd_AL_remove_2 : decode mb_AL_remove 2 = .ok (.getfield 48, 3) := by decide +kernel
theorem rd_AL_remove_5 : decode mb_AL_remove 5 = .ok (.invokestatic 118, 3) := by decide +kernel
theorem rd_AL_remove_8 : decode mb_AL_remove 8 = .ok (.pop, 1) := by decide +kernel
theorem rd_AL_remove_9 : decode mb_AL_remove 9 = .ok (.aload_n 0, 1) := by decide +kernel
theorem rd_AL_remove_10 : decode mb_AL_remove 10 = .ok (.getfield 9, 3) := by decide +kernel
theorem rd_AL_remove_13 : decode mb_AL_remove 13 = .ok (.astore_n 2, 1) := by decide +kernel
theorem rd_AL_remove_14 : decode mb_AL_remove 14 = .ok (.aload_n 2, 1) := by decide +kernel
theorem rd_AL_remove_15 : decode mb_AL_remove 15 = .ok (.iload_n 1, 1) := by decide +kernel
theorem rd_AL_remove_16 : decode mb_AL_remove 16 = .ok (.aaload, 1) := by decide +kernel
theorem rd_AL_remove_17 : decode mb_AL_remove 17 = .ok (.astore_n 3, 1) := by decide +kernel
theorem rd_AL_remove_18 : decode mb_AL_remove 18 = .ok (.aload_n 0, 1) := by decide +kernel
theorem rd_AL_remove_19 : decode mb_AL_remove 19 = .ok (.aload_n 2, 1) := by decide +kernel
theorem rd_AL_remove_20 : decode mb_AL_remove 20 = .ok (.iload_n 1, 1) := by decide +kernel
theorem rd_AL_remove_21 : decode mb_AL_remove 21 = .ok (.invokevirtual 144, 3) := by decide +kernel
theorem rd_AL_remove_24 : decode mb_AL_remove 24 = .ok (.aload_n 3, 1) := by decide +kernel
theorem rd_AL_remove_25 : decode mb_AL_remove 25 = .ok (.areturn, 1) := by decide +kernel
theorem cw_AL_remove : Jvm.Cond.code mn_AL_remove prog_43_method_29_code (4 : Nat) (Option.some (Jvm.ClassFile.FieldType.object "java/lang/Object")) ∈ jk_WA := jk_tb 1317 (by decide +kernel) (by decide +kernel)
theorem xw_AL_remove : Jvm.Cond.instanceMethod mn_AL_remove ∈ jk_WA := jk_tb 1315 (by decide +kernel) (by decide +kernel)
theorem rd_AL_fastRemove_0 : decode mb_AL_fastRemove 0 = .ok (.aload_n 0, 1) := by decide +kernel
theorem rd_AL_fastRemove_1 : decode mb_AL_fastRemove 1 = .ok (.dup, 1) := by decide +kernel
theorem rd_AL_fastRemove_2 : decode mb_AL_fastRemove 2 = .ok (.getfield 63, 3) := by decide +kernel
theorem rd_AL_fastRemove_5 : decode mb_AL_fastRemove 5 = .ok (.iconst 1, 1) := by decide +kernel
theorem rd_AL_fastRemove_6 : decode mb_AL_fastRemove 6 = .ok (.iadd, 1) := by decide +kernel
theorem rd_AL_fastRemove_7 : decode mb_AL_fastRemove 7 = .ok (.putfield 63, 3) := by decide +kernel
theorem rd_AL_fastRemove_10 : decode mb_AL_fastRemove 10 = .ok (.aload_n 0, 1) := by decide +kernel
theorem rd_AL_fastRemove_11 : decode mb_AL_fastRemove 11 = .ok (.getfield 48, 3) := by decide +kernel
theorem rd_AL_fastRemove_14 : decode mb_AL_fastRemove 14 = .ok (.iconst 1, 1) := by decide +kernel
theorem rd_AL_fastRemove_15 : decode mb_AL_fastRemove 15 = .ok (.isub, 1) := by decide +kernel
theorem rd_AL_fastRemove_16 : decode mb_AL_fastRemove 16 = .ok (.dup, 1) := by decide +kernel
theorem rd_AL_fastRemove_17 : decode mb_AL_fastRemove 17 = .ok (.istore_n 3, 1) := by decide +kernel
theorem rd_AL_fastRemove_18 : decode mb_AL_fastRemove 18 = .ok (.iload_n 2, 1) := by decide +kernel
theorem rd_AL_fastRemove_19 : decode mb_AL_fastRemove 19 = .ok (.if_icmp .le 15, 3) := by decide +kernel
theorem rd_AL_fastRemove_22 : decode mb_AL_fastRemove 22 = .ok (.aload_n 1, 1) := by decide +kernel
theorem rd_AL_fastRemove_23 : decode mb_AL_fastRemove 23 = .ok (.iload_n 2, 1) := by decide +kernel
theorem rd_AL_fastRemove_24 : decode mb_AL_fastRemove 24 = .ok (.iconst 1, 1) := by decide +kernel
theorem rd_AL_fastRemove_25 : decode mb_AL_fastRemove 25 = .ok (.iadd, 1) := by decide +kernel
theorem rd_AL_fastRemove_26 : decode mb_AL_fastRemove 26 = .ok (.aload_n 1, 1) := by decide +kernel
theorem rd_AL_fastRemove_27 : decode mb_AL_fastRemove 27 = .ok (.iload_n 2, 1) := by decide +kernel
theorem rd_AL_fastRemove_28 : decode mb_AL_fastRemove 28 = .ok (.iload_n 3, 1) := by decide +kernel
theorem rd_AL_fastRemove_29 : decode mb_AL_fastRemove 29 = .ok (.iload_n 2, 1) := by decide +kernel
theorem rd_AL_fastRemove_30 : decode mb_AL_fastRemove 30 = .ok (.isub, 1) := by decide +kernel
theorem rd_AL_fastRemove_31 : decode mb_AL_fastRemove 31 = .ok (.invokestatic 112, 3) := by decide +kernel
theorem rd_AL_fastRemove_34 : decode mb_AL_fastRemove 34 = .ok (.aload_n 1, 1) := by decide +kernel
theorem rd_AL_fastRemove_35 : decode mb_AL_fastRemove 35 = .ok (.aload_n 0, 1) := by decide +kernel
theorem rd_AL_fastRemove_36 : decode mb_AL_fastRemove 36 = .ok (.iload_n 3, 1) := by decide +kernel
theorem rd_AL_fastRemove_37 : decode mb_AL_fastRemove 37 = .ok (.dup_x1, 1) := by decide +kernel
theorem rd_AL_fastRemove_38 : decode mb_AL_fastRemove 38 = .ok (.putfield 48, 3) := by decide +kernel
theorem rd_AL_fastRemove_41 : decode mb_AL_fastRemove 41 = .ok (.aconst_null, 1) := by decide +kernel
theorem rd_AL_fastRemove_42 : decode mb_AL_fastRemove 42 = .ok (.aastore, 1) := by decide +kernel
theorem rd_AL_fastRemove_43 : decode mb_AL_fastRemove 43 = .ok (.return_, 1) := by decide +kernel
theorem cw_AL_fastRemove : Jvm.Cond.code mn_AL_fastRemove prog_43_method_39_code (4 : Nat) none ∈ jk_WA := jk_tb 1321 (by decide +kernel) (by decide +kernel)
theorem xw_AL_fastRemove : Jvm.Cond.instanceMethod mn_AL_fastRemove ∈ jk_WA := jk_tb 1320 (by decide +kernel) (by decide +kernel)
theorem sw_AL_fastRemove : Cond.selects mn_AL_fastRemove.cls mn_AL_fastRemove mn_AL_fastRemove ∈ jk_WA := jk_sl 22 (k := 3) (by decide +kernel)
theorem rd_AL_clear_0 : decode mb_AL_clear 0 = .ok (.aload_n 0, 1) := by decide +kernel
theorem rd_AL_clear_1 : decode mb_AL_clear 1 = .ok (.dup, 1) := by decide +kernel
theorem rd_AL_clear_2 : decode mb_AL_clear 2 = .ok (.getfield 63, 3) := by decide +kernel
theorem rd_AL_clear_5 : decode mb_AL_clear 5 = .ok (.iconst 1, 1) := by decide +kernel
theorem rd_AL_clear_6 : decode mb_AL_clear 6 = .ok (.iadd, 1) := by decide +kernel
theorem rd_AL_clear_7 : decode mb_AL_clear 7 = .ok (.putfield 63, 3) := by decide +kernel
theorem rd_AL_clear_10 : decode mb_AL_clear 10 = .ok (.aload_n 0, 1) := by decide +kernel
theorem rd_AL_clear_11 : decode mb_AL_clear 11 = .ok (.getfield 9, 3) := by decide +kernel
theorem rd_AL_clear_14 : decode mb_AL_clear 14 = .ok (.astore_n 1, 1) := by decide +kernel
theorem rd_AL_clear_15 : decode mb_AL_clear 15 = .ok (.aload_n 0, 1) := by decide +kernel
theorem rd_AL_clear_16 : decode mb_AL_clear 16 = .ok (.getfield 48, 3) := by decide +kernel
theorem rd_AL_clear_19 : decode mb_AL_clear 19 = .ok (.istore_n 2, 1) := by decide +kernel
theorem rd_AL_clear_20 : decode mb_AL_clear 20 = .ok (.aload_n 0, 1) := by decide +kernel
theorem rd_AL_clear_21 : decode mb_AL_clear 21 = .ok (.iconst 0, 1) := by decide +kernel
theorem rd_AL_clear_22 : decode mb_AL_clear 22 = .ok (.dup_x1, 1) := by decide +kernel
theorem rd_AL_clear_23 : decode mb_AL_clear 23 = .ok (.putfield 48, 3) := by decide +kernel
theorem rd_AL_clear_26 : decode mb_AL_clear 26 = .ok (.istore_n 3, 1) := by decide +kernel
theorem rd_AL_clear_27 : decode mb_AL_clear 27 = .ok (.iload_n 3, 1) := by decide +kernel
theorem rd_AL_clear_28 : decode mb_AL_clear 28 = .ok (.iload_n 2, 1) := by decide +kernel
theorem rd_AL_clear_29 : decode mb_AL_clear 29 = .ok (.if_icmp .ge 13, 3) := by decide +kernel
theorem rd_AL_clear_32 : decode mb_AL_clear 32 = .ok (.aload_n 1, 1) := by decide +kernel
theorem rd_AL_clear_33 : decode mb_AL_clear 33 = .ok (.iload_n 3, 1) := by decide +kernel
theorem rd_AL_clear_34 : decode mb_AL_clear 34 = .ok (.aconst_null, 1) := by decide +kernel
theorem rd_AL_clear_35 : decode mb_AL_clear 35 = .ok (.aastore, 1) := by decide +kernel
theorem rd_AL_clear_36 : decode mb_AL_clear 36 = .ok (.iinc 3 1, 3) := by decide +kernel
theorem rd_AL_clear_39 : decode mb_AL_clear 39 = .ok (.goto (-12), 3) := by decide +kernel
theorem rd_AL_clear_42 : decode mb_AL_clear 42 = .ok (.return_, 1) := by decide +kernel
theorem cw_AL_clear : Jvm.Cond.code mn_AL_clear prog_43_method_40_code (4 : Nat) none ∈ jk_WA := jk_tb 774 (by decide +kernel) (by decide +kernel)
theorem xw_AL_clear : Jvm.Cond.instanceMethod mn_AL_clear ∈ jk_WA := jk_tb 772 (by decide +kernel) (by decide +kernel)
theorem rd_AL_iterator_0 : decode mb_AL_iterator 0 = .ok (.new 267, 3) := by decide +kernel
theorem rd_AL_iterator_3 : decode mb_AL_iterator 3 = .ok (.dup, 1) := by decide +kernel
theorem rd_AL_iterator_4 : decode mb_AL_iterator 4 = .ok (.aload_n 0, 1) := by decide +kernel
theorem rd_AL_iterator_5 : decode mb_AL_iterator 5 = .ok (.invokespecial 269, 3) := by decide +kernel
theorem rd_AL_iterator_8 : decode mb_AL_iterator 8 = .ok (.areturn, 1) := by decide +kernel
theorem cw_AL_iterator : Jvm.Cond.code mn_AL_iterator prog_43_method_55_code (1 : Nat) (Option.some (Jvm.ClassFile.FieldType.object "java/util/Iterator")) ∈ jk_WA := jk_tb 644 (by decide +kernel) (by decide +kernel)
theorem xw_AL_iterator : Jvm.Cond.instanceMethod mn_AL_iterator ∈ jk_WA := jk_tb 642 (by decide +kernel) (by decide +kernel)
theorem rd_JArr_copyO_0 : decode mb_JArr_copyO 0 = .ok (.aload_n 0, 1) := by decide +kernel
theorem rd_JArr_copyO_1 : decode mb_JArr_copyO 1 = .ok (.iload_n 1, 1) := by decide +kernel
theorem rd_JArr_copyO_2 : decode mb_JArr_copyO 2 = .ok (.aload_n 0, 1) := by decide +kernel
theorem rd_JArr_copyO_3 : decode mb_JArr_copyO 3 = .ok (.invokevirtual 86, 3) := by decide +kernel
theorem rd_JArr_copyO_6 : decode mb_JArr_copyO 6 = .ok (.invokestatic 300, 3) := by decide +kernel
theorem rd_JArr_copyO_9 : decode mb_JArr_copyO 9 = .ok (.areturn, 1) := by decide +kernel
theorem cw_JArr_copyO : Jvm.Cond.code mn_JArr_copyO prog_45_method_119_code (2 : Nat) (Option.some (Jvm.ClassFile.FieldType.array (Jvm.ClassFile.FieldType.object "java/lang/Object"))) ∈ jk_WA := jk_tb 839 (by decide +kernel) (by decide +kernel)
theorem xw_JArr_copyO : Jvm.Cond.static mn_JArr_copyO ∈ jk_WA := jk_tb 838 (by decide +kernel) (by decide +kernel)
theorem rd_JArr_copyOC_0 : decode mb_JArr_copyOC 0 = .ok (.aload_n 2, 1) := by decide +kernel
theorem rd_JArr_copyOC_1 : decode mb_JArr_copyOC 1 = .ok (.ldc 110, 2) := by decide +kernel
theorem rd_JArr_copyOC_3 : decode mb_JArr_copyOC 3 = .ok (.if_acmp .ne 10, 3) := by decide +kernel
theorem rd_JArr_copyOC_6 : decode mb_JArr_copyOC 6 = .ok (.iload_n 1, 1) := by decide +kernel
theorem rd_JArr_copyOC_7 : decode mb_JArr_copyOC 7 = .ok (.anewarray 2, 3) := by decide +kernel
theorem rd_JArr_copyOC_10 : decode mb_JArr_copyOC 10 = .ok (.goto 14, 3) := by decide +kernel
theorem rd_JArr_copyOC_13 : decode mb_JArr_copyOC 13 = .ok (.aload_n 2, 1) := by decide +kernel
theorem rd_JArr_copyOC_14 : decode mb_JArr_copyOC 14 = .ok (.invokevirtual 90, 3) := by decide +kernel
theorem rd_JArr_copyOC_17 : decode mb_JArr_copyOC 17 = .ok (.iload_n 1, 1) := by decide +kernel
theorem rd_JArr_copyOC_18 : decode mb_JArr_copyOC 18 = .ok (.invokestatic 95, 3) := by decide +kernel
theorem rd_JArr_copyOC_21 : decode mb_JArr_copyOC 21 = .ok (.checkcast 110, 3) := by decide +kernel
theorem rd_JArr_copyOC_24 : decode mb_JArr_copyOC 24 = .ok (.astore_n 3, 1) := by decide +kernel
theorem rd_JArr_copyOC_25 : decode mb_JArr_copyOC 25 = .ok (.aload_n 0, 1) := by decide +kernel
theorem rd_JArr_copyOC_26 : decode mb_JArr_copyOC 26 = .ok (.iconst 0, 1) := by decide +kernel
theorem rd_JArr_copyOC_27 : decode mb_JArr_copyOC 27 = .ok (.aload_n 3, 1) := by decide +kernel
theorem rd_JArr_copyOC_28 : decode mb_JArr_copyOC 28 = .ok (.iconst 0, 1) := by decide +kernel
theorem rd_JArr_copyOC_29 : decode mb_JArr_copyOC 29 = .ok (.aload_n 0, 1) := by decide +kernel
theorem rd_JArr_copyOC_30 : decode mb_JArr_copyOC 30 = .ok (.arraylength, 1) := by decide +kernel
theorem rd_JArr_copyOC_31 : decode mb_JArr_copyOC 31 = .ok (.iload_n 1, 1) := by decide +kernel
theorem rd_JArr_copyOC_32 : decode mb_JArr_copyOC 32 = .ok (.invokestatic 304, 3) := by decide +kernel
theorem rd_JArr_copyOC_35 : decode mb_JArr_copyOC 35 = .ok (.invokestatic 150, 3) := by decide +kernel
theorem rd_JArr_copyOC_38 : decode mb_JArr_copyOC 38 = .ok (.aload_n 3, 1) := by decide +kernel
theorem rd_JArr_copyOC_39 : decode mb_JArr_copyOC 39 = .ok (.areturn, 1) := by decide +kernel
theorem cw_JArr_copyOC : Jvm.Cond.code mn_JArr_copyOC prog_45_method_120_code (4 : Nat) (Option.some (Jvm.ClassFile.FieldType.array (Jvm.ClassFile.FieldType.object "java/lang/Object"))) ∈ jk_WA := jk_tb 866 (by decide +kernel) (by decide +kernel)
theorem xw_JArr_copyOC : Jvm.Cond.static mn_JArr_copyOC ∈ jk_WA := jk_tb 865 (by decide +kernel) (by decide +kernel)
theorem rd_JArr_copyB_0 : decode mb_JArr_copyB 0 = .ok (.iload_n 1, 1) := by decide +kernel
theorem rd_JArr_copyB_1 : decode mb_JArr_copyB 1 = .ok (.aload_n 0, 1) := by decide +kernel
theorem rd_JArr_copyB_2 : decode mb_JArr_copyB 2 = .ok (.arraylength, 1) := by decide +kernel
theorem rd_JArr_copyB_3 : decode mb_JArr_copyB 3 = .ok (.if_icmp .ne 11, 3) := by decide +kernel
theorem rd_JArr_copyB_6 : decode mb_JArr_copyB 6 = .ok (.aload_n 0, 1) := by decide +kernel
theorem rd_JArr_copyB_7 : decode mb_JArr_copyB 7 = .ok (.invokevirtual 310, 3) := by decide +kernel
theorem rd_JArr_copyB_10 : decode mb_JArr_copyB 10 = .ok (.checkcast 311, 3) := by decide +kernel
theorem rd_JArr_copyB_13 : decode mb_JArr_copyB 13 = .ok (.areturn, 1) := by decide +kernel
theorem rd_JArr_copyB_14 : decode mb_JArr_copyB 14 = .ok (.iload_n 1, 1) := by decide +kernel
theorem rd_JArr_copyB_15 : decode mb_JArr_copyB 15 = .ok (.newarray .byte, 2) := by decide +kernel
theorem rd_JArr_copyB_17 : decode mb_JArr_copyB 17 = .ok (.astore_n 2, 1) := by decide +kernel
theorem rd_JArr_copyB_18 : decode mb_JArr_copyB 18 = .ok (.aload_n 0, 1) := by decide +kernel
theorem rd_JArr_copyB_19 : decode mb_JArr_copyB 19 = .ok (.iconst 0, 1) := by decide +kernel
theorem rd_JArr_copyB_20 : decode mb_JArr_copyB 20 = .ok (.aload_n 2, 1) := by decide +kernel
theorem rd_JArr_copyB_21 : decode mb_JArr_copyB 21 = .ok (.iconst 0, 1) := by decide +kernel
theorem rd_JArr_copyB_22 : decode mb_JArr_copyB 22 = .ok (.aload_n 0, 1) := by decide +kernel
theorem rd_JArr_copyB_23 : decode mb_JArr_copyB 23 = .ok (.arraylength, 1) := by decide +kernel
theorem rd_JArr_copyB_24 : decode mb_JArr_copyB 24 = .ok (.iload_n 1, 1) := by decide +kernel
theorem rd_JArr_copyB_25 : decode mb_JArr_copyB 25 = .ok (.invokestatic 304, 3) := by decide +kernel
theorem rd_JArr_copyB_28 : decode mb_JArr_copyB 28 = .ok (.invokestatic 150, 3) := by decide +kernel
theorem rd_JArr_copyB_31 : decode mb_JArr_copyB 31 = .ok (.aload_n 2, 1) := by decide +kernel
theorem rd_JArr_copyB_32 : decode mb_JArr_copyB 32 = .ok (.areturn, 1) := by decide +kernel
theorem cw_JArr_copyB : Jvm.Cond.code mn_JArr_copyB prog_45_method_121_code (3 : Nat) (Option.some (Jvm.ClassFile.FieldType.array Jvm.ClassFile.FieldType.byte)) ∈ jk_WA := jk_tb 1402 (by decide +kernel) (by decide +kernel)
theorem xw_JArr_copyB : Jvm.Cond.static mn_JArr_copyB ∈ jk_WA := jk_tb 1401 (by decide +kernel) (by decide +kernel)
theorem rd_JArr_checkLength_0 : decode mb_JArr_checkLength 0 = .ok (.iload_n 1, 1) := by decide +kernel
theorem rd_JArr_checkLength_1 : decode mb_JArr_checkLength 1 = .ok (.iload_n 0, 1) := by decide +kernel
theorem rd_JArr_checkLength_2 : decode mb_JArr_checkLength 2 = .ok (.if_icmp .ge 35, 3) := by decide +kernel
theorem rd_JArr_checkLength_5 : decode mb_JArr_checkLength 5 = .ok (.new 43, 3) := by decide +kernel
theorem rd_JArr_checkLength_8 : decode mb_JArr_checkLength 8 = .ok (.dup, 1) := by decide +kernel
theorem rd_JArr_checkLength_9 : decode mb_JArr_checkLength 9 = .ok (.new 45, 3) := by decide +kernel
theorem rd_JArr_checkLength_12 : decode mb_JArr_checkLength 12 = .ok (.dup, 1) := by decide +kernel
theorem rd_JArr_checkLength_13 : decode mb_JArr_checkLength 13 = .ok (.invokespecial 47, 3) := by decide +kernel
theorem rd_JArr_checkLength_16 : decode mb_JArr_checkLength 16 = .ok (.iload_n 0, 1) := by decide +kernel
theorem rd_JArr_checkLength_17 : decode mb_JArr_checkLength 17 = .ok (.invokevirtual 54, 3) := by decide +kernel
theorem rd_JArr_checkLength_20 : decode mb_JArr_checkLength 20 = .ok (.ldc_w 337, 3) := by decide +kernel
theorem rd_JArr_checkLength_23 : decode mb_JArr_checkLength 23 = .ok (.invokevirtual 50, 3) := by decide +kernel
theorem rd_JArr_checkLength_26 : decode mb_JArr_checkLength 26 = .ok (.iload_n 1, 1) := by decide +kernel
theorem rd_JArr_checkLength_27 : decode mb_JArr_checkLength 27 = .ok (.invokevirtual 54, 3) := by decide +kernel
theorem rd_JArr_checkLength_30 : decode mb_JArr_checkLength 30 = .ok (.invokevirtual 61, 3) := by decide +kernel
theorem rd_JArr_checkLength_33 : decode mb_JArr_checkLength 33 = .ok (.invokespecial 65, 3) := by decide +kernel
theorem rd_JArr_checkLength_36 : decode mb_JArr_checkLength 36 = .ok (.athrow, 1) := by decide +kernel
theorem rd_JArr_checkLength_37 : decode mb_JArr_checkLength 37 = .ok (.return_, 1) := by decide +kernel
theorem cw_JArr_checkLength : Jvm.Cond.code mn_JArr_checkLength prog_45_method_131_code (2 : Nat) none ∈ jk_WA := jk_tb 1550 (by decide +kernel) (by decide +kernel)
theorem xw_JArr_checkLength : Jvm.Cond.static mn_JArr_checkLength ∈ jk_WA := jk_tb 1549 (by decide +kernel) (by decide +kernel)
theorem rd_JArr_copyOfRange_0 : decode mb_JArr_copyOfRange 0 = .ok (.iload_n 1, 1) := by decide +kernel
theorem rd_JArr_copyOfRange_1 : decode mb_JArr_copyOfRange 1 = .ok (.ifCond .ne 9, 3) := by decide +kernel
theorem rd_JArr_copyOfRange_4 : decode mb_JArr_copyOfRange 4 = .ok (.iload_n 2, 1) := by decide +kernel
theorem rd_JArr_copyOfRange_5 : decode mb_JArr_copyOfRange 5 = .ok (.aload_n 0, 1) := by decide +kernel
theorem rd_JArr_copyOfRange_6 : decode mb_JArr_copyOfRange 6 = .ok (.arraylength, 1) := by decide +kernel
theorem rd_JArr_copyOfRange_7 : decode mb_JArr_copyOfRange 7 = .ok (.if_icmp .eq 10, 3) := by decide +kernel
theorem rd_JArr_copyOfRange_10 : decode mb_JArr_copyOfRange 10 = .ok (.aload_n 0, 1) := by decide +kernel
theorem rd_JArr_copyOfRange_11 : decode mb_JArr_copyOfRange 11 = .ok (.iload_n 1, 1) := by decide +kernel
theorem rd_JArr_copyOfRange_12 : decode mb_JArr_copyOfRange 12 = .ok (.iload_n 2, 1) := by decide +kernel
theorem rd_JArr_copyOfRange_13 : decode mb_JArr_copyOfRange 13 = .ok (.invokestatic 339, 3) := by decide +kernel
theorem rd_JArr_copyOfRange_16 : decode mb_JArr_copyOfRange 16 = .ok (.areturn, 1) := by decide +kernel
theorem rd_JArr_copyOfRange_17 : decode mb_JArr_copyOfRange 17 = .ok (.aload_n 0, 1) := by decide +kernel
theorem rd_JArr_copyOfRange_18 : decode mb_JArr_copyOfRange 18 = .ok (.invokevirtual 310, 3) := by decide +kernel
theorem rd_JArr_copyOfRange_21 : decode mb_JArr_copyOfRange 21 = .ok (.checkcast 311, 3) := by decide +kernel
theorem rd_JArr_copyOfRange_24 : decode mb_JArr_copyOfRange 24 = .ok (.areturn, 1) := by decide +kernel
theorem cw_JArr_copyOfRange : Jvm.Cond.code mn_JArr_copyOfRange prog_45_method_132_code (3 : Nat) (Option.some (Jvm.ClassFile.FieldType.array Jvm.ClassFile.FieldType.byte)) ∈ jk_WA := jk_tb 1544 (by decide +kernel) (by decide +kernel)
theorem xw_JArr_copyOfRange : Jvm.Cond.static mn_JArr_copyOfRange ∈ jk_WA := jk_tb 1543 (by decide +kernel) (by decide +kernel)
theorem rd_JArr_copyOfRangeByte_0 : decode mb_JArr_copyOfRangeByte 0 = .ok (.iload_n 1, 1) := by decide +kernel
theorem rd_JArr_copyOfRangeByte_1 : decode mb_JArr_copyOfRangeByte 1 = .ok (.iload_n 2, 1) := by decide +kernel
theorem rd_JArr_copyOfRangeByte_2 : decode mb_JArr_copyOfRangeByte 2 = .ok (.invokestatic 343, 3) := by decide +kernel
theorem rd_JArr_copyOfRangeByte_5 : decode mb_JArr_copyOfRangeByte 5 = .ok (.iload_n 2, 1) := by decide +kernel
theorem rd_JArr_copyOfRangeByte_6 : decode mb_JArr_copyOfRangeByte 6 = .ok (.iload_n 1, 1) := by decide +kernel
theorem rd_JArr_copyOfRangeByte_7 : decode mb_JArr_copyOfRangeByte 7 = .ok (.isub, 1) := by decide +kernel
theorem rd_JArr_copyOfRangeByte_8 : decode mb_JArr_copyOfRangeByte 8 = .ok (.istore_n 3, 1) := by decide +kernel
theorem rd_JArr_copyOfRangeByte_9 : decode mb_JArr_copyOfRangeByte 9 = .ok (.iload_n 3, 1) := by decide +kernel
theorem rd_JArr_copyOfRangeByte_10 : decode mb_JArr_copyOfRangeByte 10 = .ok (.newarray .byte, 2) := by decide +kernel
theorem rd_JArr_copyOfRangeByte_12 : decode mb_JArr_copyOfRangeByte 12 = .ok (.astore 4, 2) := by decide +kernel
theorem rd_JArr_copyOfRangeByte_14 : decode mb_JArr_copyOfRangeByte 14 = .ok (.aload_n 0, 1) := by decide +kernel
theorem rd_JArr_copyOfRangeByte_15 : decode mb_JArr_copyOfRangeByte 15 = .ok (.iload_n 1, 1) := by decide +kernel
theorem rd_JArr_copyOfRangeByte_16 : decode mb_JArr_copyOfRangeByte 16 = .ok (.aload 4, 2) := by decide +kernel
theorem rd_JArr_copyOfRangeByte_18 : decode mb_JArr_copyOfRangeByte 18 = .ok (.iconst 0, 1) := by decide +kernel
theorem rd_JArr_copyOfRangeByte_19 : decode mb_JArr_copyOfRangeByte 19 = .ok (.aload_n 0, 1) := by decide +kernel
theorem rd_JArr_copyOfRangeByte_20 : decode mb_JArr_copyOfRangeByte 20 = .ok (.arraylength, 1) := by decide +kernel
theorem rd_JArr_copyOfRangeByte_21 : decode mb_JArr_copyOfRangeByte 21 = .ok (.iload_n 1, 1) := by decide +kernel
theorem rd_JArr_copyOfRangeByte_22 : decode mb_JArr_copyOfRangeByte 22 = .ok (.isub, 1) := by decide +kernel
theorem rd_JArr_copyOfRangeByte_23 : decode mb_JArr_copyOfRangeByte 23 = .ok (.iload_n 3, 1) := by decide +kernel
theorem rd_JArr_copyOfRangeByte_24 : decode mb_JArr_copyOfRangeByte 24 = .ok (.invokestatic 304, 3) := by decide +kernel
theorem rd_JArr_copyOfRangeByte_27 : decode mb_JArr_copyOfRangeByte 27 = .ok (.invokestatic 150, 3) := by decide +kernel
theorem rd_JArr_copyOfRangeByte_30 : decode mb_JArr_copyOfRangeByte 30 = .ok (.aload 4, 2) := by decide +kernel
theorem rd_JArr_copyOfRangeByte_32 : decode mb_JArr_copyOfRangeByte 32 = .ok (.areturn, 1) := by decide +kernel
theorem cw_JArr_copyOfRangeByte : Jvm.Cond.code mn_JArr_copyOfRangeByte prog_45_method_133_code (5 : Nat) (Option.some (Jvm.ClassFile.FieldType.array Jvm.ClassFile.FieldType.byte)) ∈ jk_WA := jk_tb 1547 (by decide +kernel) (by decide +kernel)
theorem xw_JArr_copyOfRangeByte : Jvm.Cond.static mn_JArr_copyOfRangeByte ∈ jk_WA := jk_tb 1546 (by decide +kernel) (by decide +kernel)
theorem rd_JObj_checkIndex_0 : decode mb_JObj_checkIndex 0 = .ok (.iload_n 0, 1) := by decide +kernel
theorem rd_JObj_checkIndex_1 : decode mb_JObj_checkIndex 1 = .ok (.iload_n 1, 1) := by decide +kernel
theorem rd_JObj_checkIndex_2 : decode mb_JObj_checkIndex 2 = .ok (.aconst_null, 1) := by decide +kernel
theorem rd_JObj_checkIndex_3 : decode mb_JObj_checkIndex 3 = .ok (.invokestatic 105, 3) := by decide +kernel
theorem rd_JObj_checkIndex_6 : decode mb_JObj_checkIndex 6 = .ok (.ireturn, 1) := by decide +kernel
theorem cw_JObj_checkIndex : Jvm.Cond.code mn_JObj_checkIndex prog_50_method_17_code (2 : Nat) (some .int) ∈ jk_WA := jk_tb 795 (by decide +kernel) (by decide +kernel)
theorem xw_JObj_checkIndex : Jvm.Cond.static mn_JObj_checkIndex ∈ jk_WA := jk_tb 794 (by decide +kernel) (by decide +kernel)
theorem rd_JAS_newLength_0 : decode mb_JAS_newLength 0 = .ok (.iload_n 0, 1) := by decide +kernel
theorem rd_JAS_newLength_1 : decode mb_JAS_newLength 1 = .ok (.iload_n 1, 1) := by decide +kernel
theorem rd_JAS_newLength_2 : decode mb_JAS_newLength 2 = .ok (.iload_n 2, 1) := by decide +kernel
theorem rd_JAS_newLength_3 : decode mb_JAS_newLength 3 = .ok (.invokestatic 194, 3) := by decide +kernel
theorem rd_JAS_newLength_6 : decode mb_JAS_newLength 6 = .ok (.iadd, 1) := by decide +kernel
theorem rd_JAS_newLength_7 : decode mb_JAS_newLength 7 = .ok (.istore_n 3, 1) := by decide +kernel
theorem rd_JAS_newLength_8 : decode mb_JAS_newLength 8 = .ok (.iconst 0, 1) := by decide +kernel
theorem rd_JAS_newLength_9 : decode mb_JAS_newLength 9 = .ok (.iload_n 3, 1) := by decide +kernel
theorem rd_JAS_newLength_10 : decode mb_JAS_newLength 10 = .ok (.if_icmp .ge 11, 3) := by decide +kernel
theorem rd_JAS_newLength_13 : decode mb_JAS_newLength 13 = .ok (.iload_n 3, 1) := by decide +kernel
theorem rd_JAS_newLength_14 : decode mb_JAS_newLength 14 = .ok (.ldc 200, 2) := by decide +kernel
theorem rd_JAS_newLength_16 : decode mb_JAS_newLength 16 = .ok (.if_icmp .gt 5, 3) := by decide +kernel
theorem rd_JAS_newLength_19 : decode mb_JAS_newLength 19 = .ok (.iload_n 3, 1) := by decide +kernel
theorem rd_JAS_newLength_20 : decode mb_JAS_newLength 20 = .ok (.ireturn, 1) := by decide +kernel
theorem rd_JAS_newLength_21 : decode mb_JAS_newLength 21 = .ok (.iload_n 0, 1) := by decide +kernel
theorem rd_JAS_newLength_22 : decode mb_JAS_newLength 22 = .ok (.iload_n 1, 1) := by decide +kernel
theorem rd_JAS_newLength_23 : decode mb_JAS_newLength 23 = .ok (.invokestatic 201, 3) := by decide +kernel
theorem rd_JAS_newLength_26 : decode mb_JAS_newLength 26 = .ok (.ireturn, 1) := by decide +kernel
theorem cw_JAS_newLength : Jvm.Cond.code mn_JAS_newLength prog_53_method_27_code (4 : Nat) (some .int) ∈ jk_WA := jk_tb 829 (by decide +kernel) (by decide +kernel)
theorem xw_JAS_newLength : Jvm.Cond.static mn_JAS_newLength ∈ jk_WA := jk_tb 828 (by decide +kernel) (by decide +kernel)
theorem cw_JPre_checkIndex : Jvm.Cond.code mn_JPre_checkIndex prog_54_method_11_code (3 : Nat) (some .int) ∈ jk_WA := jk_tb 239 (by decide +kernel) (by decide +kernel)
theorem xw_JPre_checkIndex : Jvm.Cond.static mn_JPre_checkIndex ∈ jk_WA := jk_tb 238 (by decide +kernel) (by decide +kernel)
theorem rd_JPre_checkFromToIndex_0 : decode mb_JPre_checkFromToIndex 0 = .ok (.iload_n 0, 1) := by decide +kernel
theorem rd_JPre_checkFromToIndex_1 : decode mb_JPre_checkFromToIndex 1 = .ok (.ifCond .lt 13, 3) := by decide +kernel
theorem rd_JPre_checkFromToIndex_4 : decode mb_JPre_checkFromToIndex 4 = .ok (.iload_n 0, 1) := by decide +kernel
theorem rd_JPre_checkFromToIndex_5 : decode mb_JPre_checkFromToIndex 5 = .ok (.iload_n 1, 1) := by decide +kernel
theorem rd_JPre_checkFromToIndex_6 : decode mb_JPre_checkFromToIndex 6 = .ok (.if_icmp .gt 8, 3) := by decide +kernel
theorem rd_JPre_checkFromToIndex_9 : decode mb_JPre_checkFromToIndex 9 = .ok (.iload_n 1, 1) := by decide +kernel
theorem rd_JPre_checkFromToIndex_10 : decode mb_JPre_checkFromToIndex 10 = .ok (.iload_n 2, 1) := by decide +kernel
theorem rd_JPre_checkFromToIndex_11 : decode mb_JPre_checkFromToIndex 11 = .ok (.if_icmp .le 11, 3) := by decide +kernel
theorem rd_JPre_checkFromToIndex_14 : decode mb_JPre_checkFromToIndex 14 = .ok (.aload_n 3, 1) := by decide +kernel
theorem rd_JPre_checkFromToIndex_15 : decode mb_JPre_checkFromToIndex 15 = .ok (.iload_n 0, 1) := by decide +kernel
theorem rd_JPre_checkFromToIndex_16 : decode mb_JPre_checkFromToIndex 16 = .ok (.iload_n 1, 1) := by decide +kernel
theorem rd_JPre_checkFromToIndex_17 : decode mb_JPre_checkFromToIndex 17 = .ok (.iload_n 2, 1) := by decide +kernel
theorem rd_JPre_checkFromToIndex_18 : decode mb_JPre_checkFromToIndex 18 = .ok (.invokestatic 99, 3) := by decide +kernel
theorem rd_JPre_checkFromToIndex_21 : decode mb_JPre_checkFromToIndex 21 = .ok (.athrow, 1) := by decide +kernel
theorem rd_JPre_checkFromToIndex_22 : decode mb_JPre_checkFromToIndex 22 = .ok (.iload_n 0, 1) := by decide +kernel
theorem rd_JPre_checkFromToIndex_23 : decode mb_JPre_checkFromToIndex 23 = .ok (.ireturn, 1) := by decide +kernel
theorem cw_JPre_checkFromToIndex : Jvm.Cond.code mn_JPre_checkFromToIndex prog_54_method_12_code (4 : Nat) (some .int) ∈ jk_WA := jk_tb 1427 (by decide +kernel) (by decide +kernel)
theorem xw_JPre_checkFromToIndex : Jvm.Cond.static mn_JPre_checkFromToIndex ∈ jk_WA := jk_tb 1426 (by decide +kernel) (by decide +kernel)
theorem rd_JPre_checkFromIndexSize_0 : decode mb_JPre_checkFromIndexSize 0 = .ok (.iload_n 2, 1) := by decide +kernel
theorem rd_JPre_checkFromIndexSize_1 : decode mb_JPre_checkFromIndexSize 1 = .ok (.iload_n 0, 1) := by decide +kernel
theorem rd_JPre_checkFromIndexSize_2 : decode mb_JPre_checkFromIndexSize 2 = .ok (.ior, 1) := by decide +kernel
theorem rd_JPre_checkFromIndexSize_3 : decode mb_JPre_checkFromIndexSize 3 = .ok (.iload_n 1, 1) := by decide +kernel
theorem rd_JPre_checkFromIndexSize_4 : decode mb_JPre_checkFromIndexSize 4 = .ok (.ior, 1) := by decide +kernel
theorem rd_JPre_checkFromIndexSize_5 : decode mb_JPre_checkFromIndexSize 5 = .ok (.ifCond .lt 10, 3) := by decide +kernel
theorem rd_JPre_checkFromIndexSize_8 : decode mb_JPre_checkFromIndexSize 8 = .ok (.iload_n 1, 1) := by decide +kernel
theorem rd_JPre_checkFromIndexSize_9 : decode mb_JPre_checkFromIndexSize 9 = .ok (.iload_n 2, 1) := by decide +kernel
theorem rd_JPre_checkFromIndexSize_10 : decode mb_JPre_checkFromIndexSize 10 = .ok (.iload_n 0, 1) := by decide +kernel
theorem rd_JPre_checkFromIndexSize_11 : decode mb_JPre_checkFromIndexSize 11 = .ok (.isub, 1) := by decide +kernel
theorem rd_JPre_checkFromIndexSize_12 : decode mb_JPre_checkFromIndexSize 12 = .ok (.if_icmp .le 11, 3) := by decide +kernel
theorem rd_JPre_checkFromIndexSize_15 : decode mb_JPre_checkFromIndexSize 15 = .ok (.aload_n 3, 1) := by decide +kernel
theorem rd_JPre_checkFromIndexSize_16 : decode mb_JPre_checkFromIndexSize 16 = .ok (.iload_n 0, 1) := by decide +kernel
theorem rd_JPre_checkFromIndexSize_17 : decode mb_JPre_checkFromIndexSize 17 = .ok (.iload_n 1, 1) := by decide +kernel
theorem rd_JPre_checkFromIndexSize_18 : decode mb_JPre_checkFromIndexSize 18 = .ok (.iload_n 2, 1) := by decide +kernel
theorem rd_JPre_checkFromIndexSize_19 : decode mb_JPre_checkFromIndexSize 19 = .ok (.invokestatic 103, 3) := by decide +kernel
theorem rd_JPre_checkFromIndexSize_22 : decode mb_JPre_checkFromIndexSize 22 = .ok (.athrow, 1) := by decide +kernel
theorem rd_JPre_checkFromIndexSize_23 : decode mb_JPre_checkFromIndexSize 23 = .ok (.iload_n 0, 1) := by decide +kernel
theorem rd_JPre_checkFromIndexSize_24 : decode mb_JPre_checkFromIndexSize 24 = .ok (.ireturn, 1) := by decide +kernel
theorem cw_JPre_checkFromIndexSize : Jvm.Cond.code mn_JPre_checkFromIndexSize prog_54_method_13_code (4 : Nat) (some .int) ∈ jk_WA := jk_tb 1457 (by decide +kernel) (by decide +kernel)
theorem xw_JPre_checkFromIndexSize : Jvm.Cond.static mn_JPre_checkFromIndexSize ∈ jk_WA := jk_tb 1456 (by decide +kernel) (by decide +kernel)
theorem rd_Lw_cell_0 : decode mb_Lw_cell 0 = .ok (.iload_n 1, 1) := by decide +kernel
theorem rd_Lw_cell_1 : decode mb_Lw_cell 1 = .ok (.aload_n 0, 1) := by decide +kernel
theorem rd_Lw_cell_2 : decode mb_Lw_cell 2 = .ok (.arraylength, 1) := by decide +kernel
theorem rd_Lw_cell_3 : decode mb_Lw_cell 3 = .ok (.if_icmp .ge 9, 3) := by decide +kernel
theorem rd_Lw_cell_6 : decode mb_Lw_cell 6 = .ok (.aload_n 0, 1) := by decide +kernel
theorem rd_Lw_cell_7 : decode mb_Lw_cell 7 = .ok (.iload_n 1, 1) := by decide +kernel
theorem rd_Lw_cell_8 : decode mb_Lw_cell 8 = .ok (.iaload, 1) := by decide +kernel
theorem rd_Lw_cell_9 : decode mb_Lw_cell 9 = .ok (.goto 10, 3) := by decide +kernel
theorem rd_Lw_cell_12 : decode mb_Lw_cell 12 = .ok (.bipush 113, 2) := by decide +kernel
theorem rd_Lw_cell_14 : decode mb_Lw_cell 14 = .ok (.iload_n 1, 1) := by decide +kernel
theorem rd_Lw_cell_15 : decode mb_Lw_cell 15 = .ok (.imul, 1) := by decide +kernel
theorem rd_Lw_cell_16 : decode mb_Lw_cell 16 = .ok (.bipush 67, 2) := by decide +kernel
theorem rd_Lw_cell_18 : decode mb_Lw_cell 18 = .ok (.iadd, 1) := by decide +kernel
theorem rd_Lw_cell_19 : decode mb_Lw_cell 19 = .ok (.ireturn, 1) := by decide +kernel
theorem cw_Lw_cell : Jvm.Cond.code mn_Lw_cell method_2_code (2 : Nat) (some .int) ∈ jk_WA := jk_tb 907 (by decide +kernel) (by decide +kernel)
theorem xw_Lw_cell : Jvm.Cond.static mn_Lw_cell ∈ jk_WA := jk_tb 906 (by decide +kernel) (by decide +kernel)
theorem rd_Lw_bits_0 : decode mb_Lw_bits 0 = .ok (.iload_n 0, 1) := by decide +kernel
theorem rd_Lw_bits_1 : decode mb_Lw_bits 1 = .ok (.iload_n 1, 1) := by decide +kernel
theorem rd_Lw_bits_2 : decode mb_Lw_bits 2 = .ok (.iushr, 1) := by decide +kernel
theorem rd_Lw_bits_3 : decode mb_Lw_bits 3 = .ok (.iconst 1, 1) := by decide +kernel
theorem rd_Lw_bits_4 : decode mb_Lw_bits 4 = .ok (.iload_n 2, 1) := by decide +kernel
theorem rd_Lw_bits_5 : decode mb_Lw_bits 5 = .ok (.ishl, 1) := by decide +kernel
theorem rd_Lw_bits_6 : decode mb_Lw_bits 6 = .ok (.iconst 1, 1) := by decide +kernel
theorem rd_Lw_bits_7 : decode mb_Lw_bits 7 = .ok (.isub, 1) := by decide +kernel
theorem rd_Lw_bits_8 : decode mb_Lw_bits 8 = .ok (.iand, 1) := by decide +kernel
theorem rd_Lw_bits_9 : decode mb_Lw_bits 9 = .ok (.ireturn, 1) := by decide +kernel
theorem cw_Lw_bits : Jvm.Cond.code mn_Lw_bits method_3_code (3 : Nat) (some .int) ∈ jk_WA := jk_tb 910 (by decide +kernel) (by decide +kernel)
theorem xw_Lw_bits : Jvm.Cond.static mn_Lw_bits ∈ jk_WA := jk_tb 909 (by decide +kernel) (by decide +kernel)
theorem rd_Lw_told_0 : decode mb_Lw_told 0 = .ok (.iconst 0, 1) := by decide +kernel
theorem rd_Lw_told_1 : decode mb_Lw_told 1 = .ok (.istore_n 2, 1) := by decide +kernel
theorem rd_Lw_told_2 : decode mb_Lw_told 2 = .ok (.iload_n 2, 1) := by decide +kernel
theorem rd_Lw_told_3 : decode mb_Lw_told 3 = .ok (.aload_n 1, 1) := by decide +kernel
theorem rd_Lw_told_4 : decode mb_Lw_told 4 = .ok (.invokevirtual 7, 3) := by decide +kernel
