def mn_Law_topicByte : MethodName := ⟨"KnotReaderLaw", "topicByte", "(LKnotReader;II[J)I"⟩
abbrev mb_Law_topicByte : ByteArray := method_3_code
theorem na_Law_topicByte : jk_nm mn_Law_topicByte 4 := ⟨by decide +kernel, by decide +kernel, by decide +kernel⟩
def mn_Law_clusterOf : MethodName := ⟨"KnotReaderLaw", "clusterOf", "(LKnotReader;I[J)I"⟩
abbrev mb_Law_clusterOf : ByteArray := method_4_code
theorem na_Law_clusterOf : jk_nm mn_Law_clusterOf 3 := ⟨by decide +kernel, by decide +kernel, by decide +kernel⟩
def mn_Law_depthOf : MethodName := ⟨"KnotReaderLaw", "depthOf", "(LKnotReader;I[J)I"⟩
abbrev mb_Law_depthOf : ByteArray := method_5_code
theorem na_Law_depthOf : jk_nm mn_Law_depthOf 3 := ⟨by decide +kernel, by decide +kernel, by decide +kernel⟩
def mn_Law_parentOf : MethodName := ⟨"KnotReaderLaw", "parentOf", "(LKnotReader;I[J)I"⟩
abbrev mb_Law_parentOf : ByteArray := method_6_code
theorem na_Law_parentOf : jk_nm mn_Law_parentOf 3 := ⟨by decide +kernel, by decide +kernel, by decide +kernel⟩
def mn_Law_topicOf : MethodName := ⟨"KnotReaderLaw", "topicOf", "(LKnotReader;I[J)I"⟩
abbrev mb_Law_topicOf : ByteArray := method_7_code
theorem na_Law_topicOf : jk_nm mn_Law_topicOf 3 := ⟨by decide +kernel, by decide +kernel, by decide +kernel⟩
def mn_Law_subsidiariesOf : MethodName := ⟨"KnotReaderLaw", "subsidiariesOf", "(LKnotReader;I[J)I"⟩
abbrev mb_Law_subsidiariesOf : ByteArray := method_8_code
theorem na_Law_subsidiariesOf : jk_nm mn_Law_subsidiariesOf 3 := ⟨by decide +kernel, by decide +kernel, by decide +kernel⟩
def mn_Law_nibbledPlaces : MethodName := ⟨"KnotReaderLaw", "nibbledPlaces", "(LKnotReader;I[J)I"⟩
abbrev mb_Law_nibbledPlaces : ByteArray := method_9_code
theorem na_Law_nibbledPlaces : jk_nm mn_Law_nibbledPlaces 3 := ⟨by decide +kernel, by decide +kernel, by decide +kernel⟩
def mn_Law_knownValue : MethodName := ⟨"KnotReaderLaw", "knownValue", "(LKnotReader;I[J)I"⟩
abbrev mb_Law_knownValue : ByteArray := method_10_code
theorem na_Law_knownValue : jk_nm mn_Law_knownValue 3 := ⟨by decide +kernel, by decide +kernel, by decide +kernel⟩
def mn_Law_lowestTotal : MethodName := ⟨"KnotReaderLaw", "lowestTotal", "(LKnotReader;I[J)I"⟩
abbrev mb_Law_lowestTotal : ByteArray := method_11_code
theorem na_Law_lowestTotal : jk_nm mn_Law_lowestTotal 3 := ⟨by decide +kernel, by decide +kernel, by decide +kernel⟩
def mn_Law_highestTotal : MethodName := ⟨"KnotReaderLaw", "highestTotal", "(LKnotReader;I[J)I"⟩
abbrev mb_Law_highestTotal : ByteArray := method_12_code
theorem na_Law_highestTotal : jk_nm mn_Law_highestTotal 3 := ⟨by decide +kernel, by decide +kernel, by decide +kernel⟩
def mn_Law_knotsAt : MethodName := ⟨"KnotReaderLaw", "knotsAt", "(LKnotReader;II[J)I"⟩
abbrev mb_Law_knotsAt : ByteArray := method_13_code
theorem na_Law_knotsAt : jk_nm mn_Law_knotsAt 4 := ⟨by decide +kernel, by decide +kernel, by decide +kernel⟩
def mn_Law_isComplete : MethodName := ⟨"KnotReaderLaw", "isComplete", "(LKnotReader;I[J)I"⟩
abbrev mb_Law_isComplete : ByteArray := method_14_code
theorem na_Law_isComplete : jk_nm mn_Law_isComplete 3 := ⟨by decide +kernel, by decide +kernel, by decide +kernel⟩
def mn_Law_totalOf : MethodName := ⟨"KnotReaderLaw", "totalOf", "(LKnotReader;I[J)I"⟩
abbrev mb_Law_totalOf : ByteArray := method_15_code
theorem na_Law_totalOf : jk_nm mn_Law_totalOf 3 := ⟨by decide +kernel, by decide +kernel, by decide +kernel⟩
def mn_Law_pendantsIn : MethodName := ⟨"KnotReaderLaw", "pendantsIn", "(LKnotReader;I[J)I"⟩
abbrev mb_Law_pendantsIn : ByteArray := method_16_code
theorem na_Law_pendantsIn : jk_nm mn_Law_pendantsIn 3 := ⟨by decide +kernel, by decide +kernel, by decide +kernel⟩
def mn_Law_cordsIn : MethodName := ⟨"KnotReaderLaw", "cordsIn", "(LKnotReader;I[J)I"⟩
abbrev mb_Law_cordsIn : ByteArray := method_17_code
theorem na_Law_cordsIn : jk_nm mn_Law_cordsIn 3 := ⟨by decide +kernel, by decide +kernel, by decide +kernel⟩
def mn_Law_topOf : MethodName := ⟨"KnotReaderLaw", "topOf", "(LKnotReader;I[J)I"⟩
abbrev mb_Law_topOf : ByteArray := method_18_code
theorem na_Law_topOf : jk_nm mn_Law_topOf 3 := ⟨by decide +kernel, by decide +kernel, by decide +kernel⟩
def mn_Law_firstPendant : MethodName := ⟨"KnotReaderLaw", "firstPendant", "(LKnotReader;I[J)I"⟩
abbrev mb_Law_firstPendant : ByteArray := method_19_code
theorem na_Law_firstPendant : jk_nm mn_Law_firstPendant 3 := ⟨by decide +kernel, by decide +kernel, by decide +kernel⟩
def mn_Law_stateOf : MethodName := ⟨"KnotReaderLaw", "stateOf", "(LKnotReader;I[J)I"⟩
abbrev mb_Law_stateOf : ByteArray := method_20_code
theorem na_Law_stateOf : jk_nm mn_Law_stateOf 3 := ⟨by decide +kernel, by decide +kernel, by decide +kernel⟩
def mn_Law_guessObstacle : MethodName := ⟨"KnotReaderLaw", "guessObstacle", "(LKnotReader;I[J)I"⟩
abbrev mb_Law_guessObstacle : ByteArray := method_21_code
theorem na_Law_guessObstacle : jk_nm mn_Law_guessObstacle 3 := ⟨by decide +kernel, by decide +kernel, by decide +kernel⟩
def mn_Law_sumOf : MethodName := ⟨"KnotReaderLaw", "sumOf", "(LKnotReader;I[J)I"⟩
abbrev mb_Law_sumOf : ByteArray := method_22_code
theorem na_Law_sumOf : jk_nm mn_Law_sumOf 3 := ⟨by decide +kernel, by decide +kernel, by decide +kernel⟩
def mn_Law_guessIn : MethodName := ⟨"KnotReaderLaw", "guessIn", "(LKnotReader;I[J)I"⟩
abbrev mb_Law_guessIn : ByteArray := method_23_code
theorem na_Law_guessIn : jk_nm mn_Law_guessIn 3 := ⟨by decide +kernel, by decide +kernel, by decide +kernel⟩
def mn_Law_nibbledCord : MethodName := ⟨"KnotReaderLaw", "nibbledCord", "(LKnotReader;I[J)I"⟩
abbrev mb_Law_nibbledCord : ByteArray := method_24_code
theorem na_Law_nibbledCord : jk_nm mn_Law_nibbledCord 3 := ⟨by decide +kernel, by decide +kernel, by decide +kernel⟩
def mn_Law_cordsOfTopic : MethodName := ⟨"KnotReaderLaw", "cordsOfTopic", "(LKnotReader;I[J)I"⟩
abbrev mb_Law_cordsOfTopic : ByteArray := method_25_code
theorem na_Law_cordsOfTopic : jk_nm mn_Law_cordsOfTopic 3 := ⟨by decide +kernel, by decide +kernel, by decide +kernel⟩
def mn_Law_sumOfTopic : MethodName := ⟨"KnotReaderLaw", "sumOfTopic", "(LKnotReader;I[J)I"⟩
abbrev mb_Law_sumOfTopic : ByteArray := method_26_code
theorem na_Law_sumOfTopic : jk_nm mn_Law_sumOfTopic 3 := ⟨by decide +kernel, by decide +kernel, by decide +kernel⟩
def mn_Law_addCluster : MethodName := ⟨"KnotReaderLaw", "addCluster", "(LKnotReader;[J)I"⟩
abbrev mb_Law_addCluster : ByteArray := method_27_code
theorem na_Law_addCluster : jk_nm mn_Law_addCluster 2 := ⟨by decide +kernel, by decide +kernel, by decide +kernel⟩
def mn_Law_addPendant : MethodName := ⟨"KnotReaderLaw", "addPendant", "(LKnotReader;III[J)I"⟩
abbrev mb_Law_addPendant : ByteArray := method_28_code
theorem na_Law_addPendant : jk_nm mn_Law_addPendant 5 := ⟨by decide +kernel, by decide +kernel, by decide +kernel⟩
def mn_Law_addSubsidiary : MethodName := ⟨"KnotReaderLaw", "addSubsidiary", "(LKnotReader;III[J)I"⟩
abbrev mb_Law_addSubsidiary : ByteArray := method_29_code
theorem na_Law_addSubsidiary : jk_nm mn_Law_addSubsidiary 5 := ⟨by decide +kernel, by decide +kernel, by decide +kernel⟩
def mn_Law_cut : MethodName := ⟨"KnotReaderLaw", "cut", "(LKnotReader;I[J)I"⟩
abbrev mb_Law_cut : ByteArray := method_30_code
theorem na_Law_cut : jk_nm mn_Law_cut 3 := ⟨by decide +kernel, by decide +kernel, by decide +kernel⟩
def mn_Law_tieTop : MethodName := ⟨"KnotReaderLaw", "tieTop", "(LKnotReader;II[J)I"⟩
abbrev mb_Law_tieTop : ByteArray := method_31_code
theorem na_Law_tieTop : jk_nm mn_Law_tieTop 4 := ⟨by decide +kernel, by decide +kernel, by decide +kernel⟩
def mn_Law_setKnots : MethodName := ⟨"KnotReaderLaw", "setKnots", "(LKnotReader;III[J)I"⟩
abbrev mb_Law_setKnots : ByteArray := method_32_code
theorem na_Law_setKnots : jk_nm mn_Law_setKnots 5 := ⟨by decide +kernel, by decide +kernel, by decide +kernel⟩
def mn_Law_nibble : MethodName := ⟨"KnotReaderLaw", "nibble", "(LKnotReader;II[J)I"⟩
abbrev mb_Law_nibble : ByteArray := method_33_code
theorem na_Law_nibble : jk_nm mn_Law_nibble 4 := ⟨by decide +kernel, by decide +kernel, by decide +kernel⟩
def mn_Law_dye : MethodName := ⟨"KnotReaderLaw", "dye", "(LKnotReader;II[J)I"⟩
abbrev mb_Law_dye : ByteArray := method_34_code
theorem na_Law_dye : jk_nm mn_Law_dye 4 := ⟨by decide +kernel, by decide +kernel, by decide +kernel⟩
def mn_Law_repair : MethodName := ⟨"KnotReaderLaw", "repair", "(LKnotReader;I[J)I"⟩
abbrev mb_Law_repair : ByteArray := method_35_code
theorem na_Law_repair : jk_nm mn_Law_repair 3 := ⟨by decide +kernel, by decide +kernel, by decide +kernel⟩
def mn_Law_undo : MethodName := ⟨"KnotReaderLaw", "undo", "(LKnotReader;[J)I"⟩
abbrev mb_Law_undo : ByteArray := method_36_code
theorem na_Law_undo : jk_nm mn_Law_undo 2 := ⟨by decide +kernel, by decide +kernel, by decide +kernel⟩
def mn_Law_writeCluster : MethodName := ⟨"KnotReaderLaw", "writeCluster", "(LKnotReader;I[J)I"⟩
abbrev mb_Law_writeCluster : ByteArray := method_37_code
theorem na_Law_writeCluster : jk_nm mn_Law_writeCluster 3 := ⟨by decide +kernel, by decide +kernel, by decide +kernel⟩
def mn_Law_restoreState : MethodName := ⟨"KnotReaderLaw", "restoreState", "(LKnotReader;[J)I"⟩
abbrev mb_Law_restoreState : ByteArray := method_38_code
theorem na_Law_restoreState : jk_nm mn_Law_restoreState 2 := ⟨by decide +kernel, by decide +kernel, by decide +kernel⟩
theorem rd_Law_topicByte_0 : decode mb_Law_topicByte 0 = .ok (.aload_n 3, 1) := by decide +kernel
theorem rd_Law_topicByte_1 : decode mb_Law_topicByte 1 = .ok (.iconst 0, 1) := by decide +kernel
theorem rd_Law_topicByte_2 : decode mb_Law_topicByte 2 = .ok (.aload_n 0, 1) := by decide +kernel
theorem rd_Law_topicByte_3 : decode mb_Law_topicByte 3 = .ok (.iload_n 1, 1) := by decide +kernel
theorem rd_Law_topicByte_4 : decode mb_Law_topicByte 4 = .ok (.iload_n 2, 1) := by decide +kernel
theorem tm_788 : Jvm.Cond.methodLink "KnotReaderLaw" (7 : Nat) mn_KR_topicByte ∈ jk_WA := jk_tb 788 (by decide +kernel) (by decide +kernel)
theorem tm_789 : Jvm.Cond.instanceMethod mn_KR_topicByte ∈ jk_WA := jk_tb 789 (by decide +kernel) (by decide +kernel)
theorem tm_790 : Jvm.Cond.selects "KnotReader" mn_KR_topicByte mn_KR_topicByte ∈ jk_WA := jk_tb 790 (by decide +kernel) (by decide +kernel)
theorem tm_791 : Jvm.Cond.code mn_KR_topicByte prog_1_method_15_code (3 : Nat) (some .int) ∈ jk_WA := jk_tb 791 (by decide +kernel) (by decide +kernel)
theorem rd_Law_topicByte_5 : decode mb_Law_topicByte 5 = .ok (.invokevirtual 7, 3) := by decide +kernel
theorem rd_Law_topicByte_8 : decode mb_Law_topicByte 8 = .ok (.i2l, 1) := by decide +kernel
theorem rd_Law_topicByte_9 : decode mb_Law_topicByte 9 = .ok (.lastore, 1) := by decide +kernel
theorem rd_Law_topicByte_10 : decode mb_Law_topicByte 10 = .ok (.goto 7, 3) := by decide +kernel
theorem rd_Law_topicByte_17 : decode mb_Law_topicByte 17 = .ok (.iconst 0, 1) := by decide +kernel
theorem rd_Law_topicByte_18 : decode mb_Law_topicByte 18 = .ok (.ireturn, 1) := by decide +kernel
theorem tm_787 : Jvm.Cond.classLink "KnotReaderLaw" (13 : Nat) "java/lang/IndexOutOfBoundsException" ∈ jk_WA := jk_tb 787 (by decide +kernel) (by decide +kernel)
theorem rd_Law_topicByte_13 : decode mb_Law_topicByte 13 = .ok (.astore 4, 2) := by decide +kernel
theorem rd_Law_topicByte_15 : decode mb_Law_topicByte 15 = .ok (.iconst 1, 1) := by decide +kernel
theorem rd_Law_topicByte_16 : decode mb_Law_topicByte 16 = .ok (.ireturn, 1) := by decide +kernel
theorem tm_786 : Jvm.Cond.codeWith mn_Law_topicByte method_3_code (5 : Nat) (some .int) [((0 : Nat), (10 : Nat), (13 : Nat), (13 : Nat))] ∈ jk_WA := jk_tb 786 (by decide +kernel) (by decide +kernel)
theorem tm_785 : Jvm.Cond.static mn_Law_topicByte ∈ jk_WA := jk_tb 785 (by decide +kernel) (by decide +kernel)
theorem rd_Law_clusterOf_0 : decode mb_Law_clusterOf 0 = .ok (.aload_n 2, 1) := by decide +kernel
theorem rd_Law_clusterOf_1 : decode mb_Law_clusterOf 1 = .ok (.iconst 0, 1) := by decide +kernel
theorem rd_Law_clusterOf_2 : decode mb_Law_clusterOf 2 = .ok (.aload_n 0, 1) := by decide +kernel
theorem rd_Law_clusterOf_3 : decode mb_Law_clusterOf 3 = .ok (.iload_n 1, 1) := by decide +kernel
theorem tm_871 : Jvm.Cond.methodLink "KnotReaderLaw" (15 : Nat) mn_KR_clusterOf ∈ jk_WA := jk_tb 871 (by decide +kernel) (by decide +kernel)
theorem tm_872 : Jvm.Cond.instanceMethod mn_KR_clusterOf ∈ jk_WA := jk_tb 872 (by decide +kernel) (by decide +kernel)
theorem tm_873 : Jvm.Cond.selects "KnotReader" mn_KR_clusterOf mn_KR_clusterOf ∈ jk_WA := jk_tb 873 (by decide +kernel) (by decide +kernel)
theorem tm_874 : Jvm.Cond.code mn_KR_clusterOf prog_1_method_16_code (2 : Nat) (some .int) ∈ jk_WA := jk_tb 874 (by decide +kernel) (by decide +kernel)
theorem rd_Law_clusterOf_4 : decode mb_Law_clusterOf 4 = .ok (.invokevirtual 15, 3) := by decide +kernel
theorem rd_Law_clusterOf_7 : decode mb_Law_clusterOf 7 = .ok (.i2l, 1) := by decide +kernel
theorem rd_Law_clusterOf_8 : decode mb_Law_clusterOf 8 = .ok (.lastore, 1) := by decide +kernel
theorem rd_Law_clusterOf_9 : decode mb_Law_clusterOf 9 = .ok (.goto 6, 3) := by decide +kernel
theorem rd_Law_clusterOf_15 : decode mb_Law_clusterOf 15 = .ok (.iconst 0, 1) := by decide +kernel
theorem rd_Law_clusterOf_16 : decode mb_Law_clusterOf 16 = .ok (.ireturn, 1) := by decide +kernel
theorem rd_Law_clusterOf_12 : decode mb_Law_clusterOf 12 = .ok (.astore_n 3, 1) := by decide +kernel
theorem rd_Law_clusterOf_13 : decode mb_Law_clusterOf 13 = .ok (.iconst 1, 1) := by decide +kernel
theorem rd_Law_clusterOf_14 : decode mb_Law_clusterOf 14 = .ok (.ireturn, 1) := by decide +kernel
theorem tm_870 : Jvm.Cond.codeWith mn_Law_clusterOf method_4_code (4 : Nat) (some .int) [((0 : Nat), (9 : Nat), (12 : Nat), (13 : Nat))] ∈ jk_WA := jk_tb 870 (by decide +kernel) (by decide +kernel)
theorem tm_869 : Jvm.Cond.static mn_Law_clusterOf ∈ jk_WA := jk_tb 869 (by decide +kernel) (by decide +kernel)
theorem rd_Law_depthOf_0 : decode mb_Law_depthOf 0 = .ok (.aload_n 2, 1) := by decide +kernel
theorem rd_Law_depthOf_1 : decode mb_Law_depthOf 1 = .ok (.iconst 0, 1) := by decide +kernel
theorem rd_Law_depthOf_2 : decode mb_Law_depthOf 2 = .ok (.aload_n 0, 1) := by decide +kernel
theorem rd_Law_depthOf_3 : decode mb_Law_depthOf 3 = .ok (.iload_n 1, 1) := by decide +kernel
theorem tm_883 : Jvm.Cond.methodLink "KnotReaderLaw" (19 : Nat) mn_KR_depthOf ∈ jk_WA := jk_tb 883 (by decide +kernel) (by decide +kernel)
theorem tm_884 : Jvm.Cond.instanceMethod mn_KR_depthOf ∈ jk_WA := jk_tb 884 (by decide +kernel) (by decide +kernel)
theorem tm_885 : Jvm.Cond.selects "KnotReader" mn_KR_depthOf mn_KR_depthOf ∈ jk_WA := jk_tb 885 (by decide +kernel) (by decide +kernel)
theorem tm_886 : Jvm.Cond.code mn_KR_depthOf prog_1_method_17_code (2 : Nat) (some .int) ∈ jk_WA := jk_tb 886 (by decide +kernel) (by decide +kernel)
theorem rd_Law_depthOf_4 : decode mb_Law_depthOf 4 = .ok (.invokevirtual 19, 3) := by decide +kernel
theorem rd_Law_depthOf_7 : decode mb_Law_depthOf 7 = .ok (.i2l, 1) := by decide +kernel
theorem rd_Law_depthOf_8 : decode mb_Law_depthOf 8 = .ok (.lastore, 1) := by decide +kernel
theorem rd_Law_depthOf_9 : decode mb_Law_depthOf 9 = .ok (.goto 6, 3) := by decide +kernel
theorem rd_Law_depthOf_15 : decode mb_Law_depthOf 15 = .ok (.iconst 0, 1) := by decide +kernel
theorem rd_Law_depthOf_16 : decode mb_Law_depthOf 16 = .ok (.ireturn, 1) := by decide +kernel
theorem rd_Law_depthOf_12 : decode mb_Law_depthOf 12 = .ok (.astore_n 3, 1) := by decide +kernel
theorem rd_Law_depthOf_13 : decode mb_Law_depthOf 13 = .ok (.iconst 1, 1) := by decide +kernel
theorem rd_Law_depthOf_14 : decode mb_Law_depthOf 14 = .ok (.ireturn, 1) := by decide +kernel
theorem tm_882 : Jvm.Cond.codeWith mn_Law_depthOf method_5_code (4 : Nat) (some .int) [((0 : Nat), (9 : Nat), (12 : Nat), (13 : Nat))] ∈ jk_WA := jk_tb 882 (by decide +kernel) (by decide +kernel)
theorem tm_881 : Jvm.Cond.static mn_Law_depthOf ∈ jk_WA := jk_tb 881 (by decide +kernel) (by decide +kernel)
theorem rd_Law_parentOf_0 : decode mb_Law_parentOf 0 = .ok (.aload_n 2, 1) := by decide +kernel
theorem rd_Law_parentOf_1 : decode mb_Law_parentOf 1 = .ok (.iconst 0, 1) := by decide +kernel
theorem rd_Law_parentOf_2 : decode mb_Law_parentOf 2 = .ok (.aload_n 0, 1) := by decide +kernel
theorem rd_Law_parentOf_3 : decode mb_Law_parentOf 3 = .ok (.iload_n 1, 1) := by decide +kernel
theorem tm_890 : Jvm.Cond.methodLink "KnotReaderLaw" (22 : Nat) mn_KR_parentOf ∈ jk_WA := jk_tb 890 (by decide +kernel) (by decide +kernel)
theorem tm_891 : Jvm.Cond.instanceMethod mn_KR_parentOf ∈ jk_WA := jk_tb 891 (by decide +kernel) (by decide +kernel)
theorem tm_892 : Jvm.Cond.selects "KnotReader" mn_KR_parentOf mn_KR_parentOf ∈ jk_WA := jk_tb 892 (by decide +kernel) (by decide +kernel)
theorem tm_893 : Jvm.Cond.code mn_KR_parentOf prog_1_method_18_code (2 : Nat) (some .int) ∈ jk_WA := jk_tb 893 (by decide +kernel) (by decide +kernel)
theorem rd_Law_parentOf_4 : decode mb_Law_parentOf 4 = .ok (.invokevirtual 22, 3) := by decide +kernel
theorem rd_Law_parentOf_7 : decode mb_Law_parentOf 7 = .ok (.i2l, 1) := by decide +kernel
theorem rd_Law_parentOf_8 : decode mb_Law_parentOf 8 = .ok (.lastore, 1) := by decide +kernel
theorem rd_Law_parentOf_9 : decode mb_Law_parentOf 9 = .ok (.goto 6, 3) := by decide +kernel
theorem rd_Law_parentOf_15 : decode mb_Law_parentOf 15 = .ok (.iconst 0, 1) := by decide +kernel
theorem rd_Law_parentOf_16 : decode mb_Law_parentOf 16 = .ok (.ireturn, 1) := by decide +kernel
theorem rd_Law_parentOf_12 : decode mb_Law_parentOf 12 = .ok (.astore_n 3, 1) := by decide +kernel
theorem rd_Law_parentOf_13 : decode mb_Law_parentOf 13 = .ok (.iconst 1, 1) := by decide +kernel
theorem rd_Law_parentOf_14 : decode mb_Law_parentOf 14 = .ok (.ireturn, 1) := by decide +kernel
theorem tm_889 : Jvm.Cond.codeWith mn_Law_parentOf method_6_code (4 : Nat) (some .int) [((0 : Nat), (9 : Nat), (12 : Nat), (13 : Nat))] ∈ jk_WA := jk_tb 889 (by decide +kernel) (by decide +kernel)
theorem tm_888 : Jvm.Cond.static mn_Law_parentOf ∈ jk_WA := jk_tb 888 (by decide +kernel) (by decide +kernel)
theorem rd_Law_topicOf_0 : decode mb_Law_topicOf 0 = .ok (.aload_n 2, 1) := by decide +kernel
theorem rd_Law_topicOf_1 : decode mb_Law_topicOf 1 = .ok (.iconst 0, 1) := by decide +kernel
theorem rd_Law_topicOf_2 : decode mb_Law_topicOf 2 = .ok (.aload_n 0, 1) := by decide +kernel
theorem rd_Law_topicOf_3 : decode mb_Law_topicOf 3 = .ok (.iload_n 1, 1) := by decide +kernel
theorem tm_902 : Jvm.Cond.methodLink "KnotReaderLaw" (25 : Nat) mn_KR_topicOf ∈ jk_WA := jk_tb 902 (by decide +kernel) (by decide +kernel)
theorem tm_903 : Jvm.Cond.instanceMethod mn_KR_topicOf ∈ jk_WA := jk_tb 903 (by decide +kernel) (by decide +kernel)
theorem tm_904 : Jvm.Cond.selects "KnotReader" mn_KR_topicOf mn_KR_topicOf ∈ jk_WA := jk_tb 904 (by decide +kernel) (by decide +kernel)
theorem tm_905 : Jvm.Cond.code mn_KR_topicOf prog_1_method_19_code (2 : Nat) (some .int) ∈ jk_WA := jk_tb 905 (by decide +kernel) (by decide +kernel)
theorem rd_Law_topicOf_4 : decode mb_Law_topicOf 4 = .ok (.invokevirtual 25, 3) := by decide +kernel
theorem rd_Law_topicOf_7 : decode mb_Law_topicOf 7 = .ok (.i2l, 1) := by decide +kernel
theorem rd_Law_topicOf_8 : decode mb_Law_topicOf 8 = .ok (.lastore, 1) := by decide +kernel
theorem rd_Law_topicOf_9 : decode mb_Law_topicOf 9 = .ok (.goto 6, 3) := by decide +kernel
theorem rd_Law_topicOf_15 : decode mb_Law_topicOf 15 = .ok (.iconst 0, 1) := by decide +kernel
theorem rd_Law_topicOf_16 : decode mb_Law_topicOf 16 = .ok (.ireturn, 1) := by decide +kernel
theorem rd_Law_topicOf_12 : decode mb_Law_topicOf 12 = .ok (.astore_n 3, 1) := by decide +kernel
theorem rd_Law_topicOf_13 : decode mb_Law_topicOf 13 = .ok (.iconst 1, 1) := by decide +kernel
theorem rd_Law_topicOf_14 : decode mb_Law_topicOf 14 = .ok (.ireturn, 1) := by decide +kernel
theorem tm_901 : Jvm.Cond.codeWith mn_Law_topicOf method_7_code (4 : Nat) (some .int) [((0 : Nat), (9 : Nat), (12 : Nat), (13 : Nat))] ∈ jk_WA := jk_tb 901 (by decide +kernel) (by decide +kernel)
theorem tm_900 : Jvm.Cond.static mn_Law_topicOf ∈ jk_WA := jk_tb 900 (by decide +kernel) (by decide +kernel)
theorem rd_Law_subsidiariesOf_0 : decode mb_Law_subsidiariesOf 0 = .ok (.aload_n 2, 1) := by decide +kernel
theorem rd_Law_subsidiariesOf_1 : decode mb_Law_subsidiariesOf 1 = .ok (.iconst 0, 1) := by decide +kernel
theorem rd_Law_subsidiariesOf_2 : decode mb_Law_subsidiariesOf 2 = .ok (.aload_n 0, 1) := by decide +kernel
theorem rd_Law_subsidiariesOf_3 : decode mb_Law_subsidiariesOf 3 = .ok (.iload_n 1, 1) := by decide +kernel
theorem tm_909 : Jvm.Cond.methodLink "KnotReaderLaw" (28 : Nat) mn_KR_subsidiariesOf ∈ jk_WA := jk_tb 909 (by decide +kernel) (by decide +kernel)
theorem tm_910 : Jvm.Cond.instanceMethod mn_KR_subsidiariesOf ∈ jk_WA := jk_tb 910 (by decide +kernel) (by decide +kernel)
theorem tm_911 : Jvm.Cond.selects "KnotReader" mn_KR_subsidiariesOf mn_KR_subsidiariesOf ∈ jk_WA := jk_tb 911 (by decide +kernel) (by decide +kernel)
theorem tm_912 : Jvm.Cond.code mn_KR_subsidiariesOf prog_1_method_20_code (2 : Nat) (some .int) ∈ jk_WA := jk_tb 912 (by decide +kernel) (by decide +kernel)
theorem rd_Law_subsidiariesOf_4 : decode mb_Law_subsidiariesOf 4 = .ok (.invokevirtual 28, 3) := by decide +kernel
theorem rd_Law_subsidiariesOf_7 : decode mb_Law_subsidiariesOf 7 = .ok (.i2l, 1) := by decide +kernel
theorem rd_Law_subsidiariesOf_8 : decode mb_Law_subsidiariesOf 8 = .ok (.lastore, 1) := by decide +kernel
theorem rd_Law_subsidiariesOf_9 : decode mb_Law_subsidiariesOf 9 = .ok (.goto 6, 3) := by decide +kernel
theorem rd_Law_subsidiariesOf_15 : decode mb_Law_subsidiariesOf 15 = .ok (.iconst 0, 1) := by decide +kernel
theorem rd_Law_subsidiariesOf_16 : decode mb_Law_subsidiariesOf 16 = .ok (.ireturn, 1) := by decide +kernel
theorem rd_Law_subsidiariesOf_12 : decode mb_Law_subsidiariesOf 12 = .ok (.astore_n 3, 1) := by decide +kernel
theorem rd_Law_subsidiariesOf_13 : decode mb_Law_subsidiariesOf 13 = .ok (.iconst 1, 1) := by decide +kernel
theorem rd_Law_subsidiariesOf_14 : decode mb_Law_subsidiariesOf 14 = .ok (.ireturn, 1) := by decide +kernel
theorem tm_908 : Jvm.Cond.codeWith mn_Law_subsidiariesOf method_8_code (4 : Nat) (some .int) [((0 : Nat), (9 : Nat), (12 : Nat), (13 : Nat))] ∈ jk_WA := jk_tb 908 (by decide +kernel) (by decide +kernel)
theorem tm_907 : Jvm.Cond.static mn_Law_subsidiariesOf ∈ jk_WA := jk_tb 907 (by decide +kernel) (by decide +kernel)
theorem rd_Law_nibbledPlaces_0 : decode mb_Law_nibbledPlaces 0 = .ok (.aload_n 2, 1) := by decide +kernel
theorem rd_Law_nibbledPlaces_1 : decode mb_Law_nibbledPlaces 1 = .ok (.iconst 0, 1) := by decide +kernel
theorem rd_Law_nibbledPlaces_2 : decode mb_Law_nibbledPlaces 2 = .ok (.aload_n 0, 1) := by decide +kernel
theorem rd_Law_nibbledPlaces_3 : decode mb_Law_nibbledPlaces 3 = .ok (.iload_n 1, 1) := by decide +kernel
theorem tm_920 : Jvm.Cond.methodLink "KnotReaderLaw" (31 : Nat) mn_KR_nibbledPlaces ∈ jk_WA := jk_tb 920 (by decide +kernel) (by decide +kernel)
theorem tm_921 : Jvm.Cond.instanceMethod mn_KR_nibbledPlaces ∈ jk_WA := jk_tb 921 (by decide +kernel) (by decide +kernel)
theorem tm_922 : Jvm.Cond.selects "KnotReader" mn_KR_nibbledPlaces mn_KR_nibbledPlaces ∈ jk_WA := jk_tb 922 (by decide +kernel) (by decide +kernel)
theorem tm_923 : Jvm.Cond.code mn_KR_nibbledPlaces prog_1_method_21_code (2 : Nat) (some .int) ∈ jk_WA := jk_tb 923 (by decide +kernel) (by decide +kernel)
theorem rd_Law_nibbledPlaces_4 : decode mb_Law_nibbledPlaces 4 = .ok (.invokevirtual 31, 3) := by decide +kernel
theorem rd_Law_nibbledPlaces_7 : decode mb_Law_nibbledPlaces 7 = .ok (.i2l, 1) := by decide +kernel
theorem rd_Law_nibbledPlaces_8 : decode mb_Law_nibbledPlaces 8 = .ok (.lastore, 1) := by decide +kernel
theorem rd_Law_nibbledPlaces_9 : decode mb_Law_nibbledPlaces 9 = .ok (.goto 6, 3) := by decide +kernel
theorem rd_Law_nibbledPlaces_15 : decode mb_Law_nibbledPlaces 15 = .ok (.iconst 0, 1) := by decide +kernel
theorem rd_Law_nibbledPlaces_16 : decode mb_Law_nibbledPlaces 16 = .ok (.ireturn, 1) := by decide +kernel
theorem rd_Law_nibbledPlaces_12 : decode mb_Law_nibbledPlaces 12 = .ok (.astore_n 3, 1) := by decide +kernel
theorem rd_Law_nibbledPlaces_13 : decode mb_Law_nibbledPlaces 13 = .ok (.iconst 1, 1) := by decide +kernel
theorem rd_Law_nibbledPlaces_14 : decode mb_Law_nibbledPlaces 14 = .ok (.ireturn, 1) := by decide +kernel
theorem tm_919 : Jvm.Cond.codeWith mn_Law_nibbledPlaces method_9_code (4 : Nat) (some .int) [((0 : Nat), (9 : Nat), (12 : Nat), (13 : Nat))] ∈ jk_WA := jk_tb 919 (by decide +kernel) (by decide +kernel)
theorem tm_918 : Jvm.Cond.static mn_Law_nibbledPlaces ∈ jk_WA := jk_tb 918 (by decide +kernel) (by decide +kernel)
theorem rd_Law_knownValue_0 : decode mb_Law_knownValue 0 = .ok (.aload_n 2, 1) := by decide +kernel
theorem rd_Law_knownValue_1 : decode mb_Law_knownValue 1 = .ok (.iconst 0, 1) := by decide +kernel
theorem rd_Law_knownValue_2 : decode mb_Law_knownValue 2 = .ok (.aload_n 0, 1) := by decide +kernel
theorem rd_Law_knownValue_3 : decode mb_Law_knownValue 3 = .ok (.iload_n 1, 1) := by decide +kernel
theorem tm_927 : Jvm.Cond.methodLink "KnotReaderLaw" (34 : Nat) mn_KR_knownValue ∈ jk_WA := jk_tb 927 (by decide +kernel) (by decide +kernel)
theorem tm_928 : Jvm.Cond.instanceMethod mn_KR_knownValue ∈ jk_WA := jk_tb 928 (by decide +kernel) (by decide +kernel)
theorem tm_929 : Jvm.Cond.selects "KnotReader" mn_KR_knownValue mn_KR_knownValue ∈ jk_WA := jk_tb 929 (by decide +kernel) (by decide +kernel)
theorem tm_930 : Jvm.Cond.code mn_KR_knownValue prog_1_method_22_code (2 : Nat) (some .int) ∈ jk_WA := jk_tb 930 (by decide +kernel) (by decide +kernel)
theorem rd_Law_knownValue_4 : decode mb_Law_knownValue 4 = .ok (.invokevirtual 34, 3) := by decide +kernel
theorem rd_Law_knownValue_7 : decode mb_Law_knownValue 7 = .ok (.i2l, 1) := by decide +kernel
theorem rd_Law_knownValue_8 : decode mb_Law_knownValue 8 = .ok (.lastore, 1) := by decide +kernel
theorem rd_Law_knownValue_9 : decode mb_Law_knownValue 9 = .ok (.goto 6, 3) := by decide +kernel
theorem rd_Law_knownValue_15 : decode mb_Law_knownValue 15 = .ok (.iconst 0, 1) := by decide +kernel
theorem rd_Law_knownValue_16 : decode mb_Law_knownValue 16 = .ok (.ireturn, 1) := by decide +kernel
theorem rd_Law_knownValue_12 : decode mb_Law_knownValue 12 = .ok (.astore_n 3, 1) := by decide +kernel
theorem rd_Law_knownValue_13 : decode mb_Law_knownValue 13 = .ok (.iconst 1, 1) := by decide +kernel
theorem rd_Law_knownValue_14 : decode mb_Law_knownValue 14 = .ok (.ireturn, 1) := by decide +kernel
theorem tm_926 : Jvm.Cond.codeWith mn_Law_knownValue method_10_code (4 : Nat) (some .int) [((0 : Nat), (9 : Nat), (12 : Nat), (13 : Nat))] ∈ jk_WA := jk_tb 926 (by decide +kernel) (by decide +kernel)
theorem tm_925 : Jvm.Cond.static mn_Law_knownValue ∈ jk_WA := jk_tb 925 (by decide +kernel) (by decide +kernel)
theorem rd_Law_lowestTotal_0 : decode mb_Law_lowestTotal 0 = .ok (.aload_n 2, 1) := by decide +kernel
theorem rd_Law_lowestTotal_1 : decode mb_Law_lowestTotal 1 = .ok (.iconst 0, 1) := by decide +kernel
theorem rd_Law_lowestTotal_2 : decode mb_Law_lowestTotal 2 = .ok (.aload_n 0, 1) := by decide +kernel
theorem rd_Law_lowestTotal_3 : decode mb_Law_lowestTotal 3 = .ok (.iload_n 1, 1) := by decide +kernel
theorem tm_934 : Jvm.Cond.methodLink "KnotReaderLaw" (37 : Nat) mn_KR_lowestTotal ∈ jk_WA := jk_tb 934 (by decide +kernel) (by decide +kernel)
theorem tm_935 : Jvm.Cond.instanceMethod mn_KR_lowestTotal ∈ jk_WA := jk_tb 935 (by decide +kernel) (by decide +kernel)
theorem tm_936 : Jvm.Cond.selects "KnotReader" mn_KR_lowestTotal mn_KR_lowestTotal ∈ jk_WA := jk_tb 936 (by decide +kernel) (by decide +kernel)
theorem tm_937 : Jvm.Cond.code mn_KR_lowestTotal prog_1_method_23_code (2 : Nat) (some .int) ∈ jk_WA := jk_tb 937 (by decide +kernel) (by decide +kernel)
theorem rd_Law_lowestTotal_4 : decode mb_Law_lowestTotal 4 = .ok (.invokevirtual 37, 3) := by decide +kernel
theorem rd_Law_lowestTotal_7 : decode mb_Law_lowestTotal 7 = .ok (.i2l, 1) := by decide +kernel
theorem rd_Law_lowestTotal_8 : decode mb_Law_lowestTotal 8 = .ok (.lastore, 1) := by decide +kernel
theorem rd_Law_lowestTotal_9 : decode mb_Law_lowestTotal 9 = .ok (.goto 6, 3) := by decide +kernel
theorem rd_Law_lowestTotal_15 : decode mb_Law_lowestTotal 15 = .ok (.iconst 0, 1) := by decide +kernel
theorem rd_Law_lowestTotal_16 : decode mb_Law_lowestTotal 16 = .ok (.ireturn, 1) := by decide +kernel
theorem rd_Law_lowestTotal_12 : decode mb_Law_lowestTotal 12 = .ok (.astore_n 3, 1) := by decide +kernel
theorem rd_Law_lowestTotal_13 : decode mb_Law_lowestTotal 13 = .ok (.iconst 1, 1) := by decide +kernel
theorem rd_Law_lowestTotal_14 : decode mb_Law_lowestTotal 14 = .ok (.ireturn, 1) := by decide +kernel
theorem tm_933 : Jvm.Cond.codeWith mn_Law_lowestTotal method_11_code (4 : Nat) (some .int) [((0 : Nat), (9 : Nat), (12 : Nat), (13 : Nat))] ∈ jk_WA := jk_tb 933 (by decide +kernel) (by decide +kernel)
theorem tm_932 : Jvm.Cond.static mn_Law_lowestTotal ∈ jk_WA := jk_tb 932 (by decide +kernel) (by decide +kernel)
theorem rd_Law_highestTotal_0 : decode mb_Law_highestTotal 0 = .ok (.aload_n 2, 1) := by decide +kernel
theorem rd_Law_highestTotal_1 : decode mb_Law_highestTotal 1 = .ok (.iconst 0, 1) := by decide +kernel
theorem rd_Law_highestTotal_2 : decode mb_Law_highestTotal 2 = .ok (.aload_n 0, 1) := by decide +kernel
theorem rd_Law_highestTotal_3 : decode mb_Law_highestTotal 3 = .ok (.iload_n 1, 1) := by decide +kernel
theorem tm_941 : Jvm.Cond.methodLink "KnotReaderLaw" (40 : Nat) mn_KR_highestTotal ∈ jk_WA := jk_tb 941 (by decide +kernel) (by decide +kernel)
theorem tm_942 : Jvm.Cond.instanceMethod mn_KR_highestTotal ∈ jk_WA := jk_tb 942 (by decide +kernel) (by decide +kernel)
theorem tm_943 : Jvm.Cond.selects "KnotReader" mn_KR_highestTotal mn_KR_highestTotal ∈ jk_WA := jk_tb 943 (by decide +kernel) (by decide +kernel)
theorem tm_944 : Jvm.Cond.code mn_KR_highestTotal prog_1_method_24_code (2 : Nat) (some .int) ∈ jk_WA := jk_tb 944 (by decide +kernel) (by decide +kernel)
theorem rd_Law_highestTotal_4 : decode mb_Law_highestTotal 4 = .ok (.invokevirtual 40, 3) := by decide +kernel
theorem rd_Law_highestTotal_7 : decode mb_Law_highestTotal 7 = .ok (.i2l, 1) := by decide +kernel
theorem rd_Law_highestTotal_8 : decode mb_Law_highestTotal 8 = .ok (.lastore, 1) := by decide +kernel
theorem rd_Law_highestTotal_9 : decode mb_Law_highestTotal 9 = .ok (.goto 6, 3) := by decide +kernel
theorem rd_Law_highestTotal_15 : decode mb_Law_highestTotal 15 = .ok (.iconst 0, 1) := by decide +kernel
theorem rd_Law_highestTotal_16 : decode mb_Law_highestTotal 16 = .ok (.ireturn, 1) := by decide +kernel
theorem rd_Law_highestTotal_12 : decode mb_Law_highestTotal 12 = .ok (.astore_n 3, 1) := by decide +kernel
theorem rd_Law_highestTotal_13 : decode mb_Law_highestTotal 13 = .ok (.iconst 1, 1) := by decide +kernel
theorem rd_Law_highestTotal_14 : decode mb_Law_highestTotal 14 = .ok (.ireturn, 1) := by decide +kernel
theorem tm_940 : Jvm.Cond.codeWith mn_Law_highestTotal method_12_code (4 : Nat) (some .int) [((0 : Nat), (9 : Nat), (12 : Nat), (13 : Nat))] ∈ jk_WA := jk_tb 940 (by decide +kernel) (by decide +kernel)
theorem tm_939 : Jvm.Cond.static mn_Law_highestTotal ∈ jk_WA := jk_tb 939 (by decide +kernel) (by decide +kernel)
theorem rd_Law_knotsAt_0 : decode mb_Law_knotsAt 0 = .ok (.aload_n 3, 1) := by decide +kernel
theorem rd_Law_knotsAt_1 : decode mb_Law_knotsAt 1 = .ok (.iconst 0, 1) := by decide +kernel
theorem rd_Law_knotsAt_2 : decode mb_Law_knotsAt 2 = .ok (.aload_n 0, 1) := by decide +kernel
theorem rd_Law_knotsAt_3 : decode mb_Law_knotsAt 3 = .ok (.iload_n 1, 1) := by decide +kernel
theorem rd_Law_knotsAt_4 : decode mb_Law_knotsAt 4 = .ok (.iload_n 2, 1) := by decide +kernel
theorem tm_950 : Jvm.Cond.methodLink "KnotReaderLaw" (43 : Nat) mn_KR_knotsAt ∈ jk_WA := jk_tb 950 (by decide +kernel) (by decide +kernel)
theorem tm_951 : Jvm.Cond.instanceMethod mn_KR_knotsAt ∈ jk_WA := jk_tb 951 (by decide +kernel) (by decide +kernel)
theorem tm_952 : Jvm.Cond.selects "KnotReader" mn_KR_knotsAt mn_KR_knotsAt ∈ jk_WA := jk_tb 952 (by decide +kernel) (by decide +kernel)
theorem tm_953 : Jvm.Cond.code mn_KR_knotsAt prog_1_method_25_code (3 : Nat) (some .int) ∈ jk_WA := jk_tb 953 (by decide +kernel) (by decide +kernel)
theorem rd_Law_knotsAt_5 : decode mb_Law_knotsAt 5 = .ok (.invokevirtual 43, 3) := by decide +kernel
theorem rd_Law_knotsAt_8 : decode mb_Law_knotsAt 8 = .ok (.i2l, 1) := by decide +kernel
theorem rd_Law_knotsAt_9 : decode mb_Law_knotsAt 9 = .ok (.lastore, 1) := by decide +kernel
theorem rd_Law_knotsAt_10 : decode mb_Law_knotsAt 10 = .ok (.goto 11, 3) := by decide +kernel
theorem rd_Law_knotsAt_21 : decode mb_Law_knotsAt 21 = .ok (.iconst 0, 1) := by decide +kernel
theorem rd_Law_knotsAt_22 : decode mb_Law_knotsAt 22 = .ok (.ireturn, 1) := by decide +kernel
theorem rd_Law_knotsAt_13 : decode mb_Law_knotsAt 13 = .ok (.astore 4, 2) := by decide +kernel
theorem rd_Law_knotsAt_15 : decode mb_Law_knotsAt 15 = .ok (.iconst 1, 1) := by decide +kernel
theorem rd_Law_knotsAt_16 : decode mb_Law_knotsAt 16 = .ok (.ireturn, 1) := by decide +kernel
theorem tm_949 : Jvm.Cond.classLink "KnotReaderLaw" (46 : Nat) "java/lang/IllegalArgumentException" ∈ jk_WA := jk_tb 949 (by decide +kernel) (by decide +kernel)
theorem rd_Law_knotsAt_17 : decode mb_Law_knotsAt 17 = .ok (.astore 4, 2) := by decide +kernel
theorem rd_Law_knotsAt_19 : decode mb_Law_knotsAt 19 = .ok (.iconst 2, 1) := by decide +kernel
theorem rd_Law_knotsAt_20 : decode mb_Law_knotsAt 20 = .ok (.ireturn, 1) := by decide +kernel
theorem tm_948 : Jvm.Cond.codeWith mn_Law_knotsAt method_13_code (5 : Nat) (some .int) [((0 : Nat), (10 : Nat), (13 : Nat), (13 : Nat)), ((0 : Nat), (10 : Nat), (17 : Nat), (46 : Nat))] ∈ jk_WA := jk_tb 948 (by decide +kernel) (by decide +kernel)
theorem tm_947 : Jvm.Cond.static mn_Law_knotsAt ∈ jk_WA := jk_tb 947 (by decide +kernel) (by decide +kernel)
theorem rd_Law_isComplete_0 : decode mb_Law_isComplete 0 = .ok (.aload_n 2, 1) := by decide +kernel
theorem rd_Law_isComplete_1 : decode mb_Law_isComplete 1 = .ok (.iconst 0, 1) := by decide +kernel
theorem rd_Law_isComplete_2 : decode mb_Law_isComplete 2 = .ok (.aload_n 0, 1) := by decide +kernel
theorem rd_Law_isComplete_3 : decode mb_Law_isComplete 3 = .ok (.iload_n 1, 1) := by decide +kernel
theorem tm_974 : Jvm.Cond.methodLink "KnotReaderLaw" (48 : Nat) mn_KR_isComplete ∈ jk_WA := jk_tb 974 (by decide +kernel) (by decide +kernel)
theorem tm_975 : Jvm.Cond.instanceMethod mn_KR_isComplete ∈ jk_WA := jk_tb 975 (by decide +kernel) (by decide +kernel)
theorem tm_976 : Jvm.Cond.selects "KnotReader" mn_KR_isComplete mn_KR_isComplete ∈ jk_WA := jk_tb 976 (by decide +kernel) (by decide +kernel)
theorem tm_977 : Jvm.Cond.code mn_KR_isComplete prog_1_method_26_code (2 : Nat) (some .boolean) ∈ jk_WA := jk_tb 977 (by decide +kernel) (by decide +kernel)
theorem rd_Law_isComplete_4 : decode mb_Law_isComplete 4 = .ok (.invokevirtual 48, 3) := by decide +kernel
theorem rd_Law_isComplete_7 : decode mb_Law_isComplete 7 = .ok (.ifCond .eq 7, 3) := by decide +kernel
theorem rd_Law_isComplete_14 : decode mb_Law_isComplete 14 = .ok (.lconst 0, 1) := by decide +kernel
theorem rd_Law_isComplete_15 : decode mb_Law_isComplete 15 = .ok (.lastore, 1) := by decide +kernel
theorem rd_Law_isComplete_16 : decode mb_Law_isComplete 16 = .ok (.goto 6, 3) := by decide +kernel
theorem rd_Law_isComplete_22 : decode mb_Law_isComplete 22 = .ok (.iconst 0, 1) := by decide +kernel
theorem rd_Law_isComplete_23 : decode mb_Law_isComplete 23 = .ok (.ireturn, 1) := by decide +kernel
theorem rd_Law_isComplete_10 : decode mb_Law_isComplete 10 = .ok (.lconst 1, 1) := by decide +kernel
theorem rd_Law_isComplete_11 : decode mb_Law_isComplete 11 = .ok (.goto 4, 3) := by decide +kernel
theorem rd_Law_isComplete_19 : decode mb_Law_isComplete 19 = .ok (.astore_n 3, 1) := by decide +kernel
theorem rd_Law_isComplete_20 : decode mb_Law_isComplete 20 = .ok (.iconst 1, 1) := by decide +kernel
theorem rd_Law_isComplete_21 : decode mb_Law_isComplete 21 = .ok (.ireturn, 1) := by decide +kernel
theorem tm_973 : Jvm.Cond.codeWith mn_Law_isComplete method_14_code (4 : Nat) (some .int) [((0 : Nat), (16 : Nat), (19 : Nat), (13 : Nat))] ∈ jk_WA := jk_tb 973 (by decide +kernel) (by decide +kernel)
theorem tm_972 : Jvm.Cond.static mn_Law_isComplete ∈ jk_WA := jk_tb 972 (by decide +kernel) (by decide +kernel)
theorem rd_Law_totalOf_0 : decode mb_Law_totalOf 0 = .ok (.aload_n 2, 1) := by decide +kernel
theorem rd_Law_totalOf_1 : decode mb_Law_totalOf 1 = .ok (.iconst 0, 1) := by decide +kernel
theorem rd_Law_totalOf_2 : decode mb_Law_totalOf 2 = .ok (.aload_n 0, 1) := by decide +kernel
theorem rd_Law_totalOf_3 : decode mb_Law_totalOf 3 = .ok (.iload_n 1, 1) := by decide +kernel
theorem tm_982 : Jvm.Cond.methodLink "KnotReaderLaw" (52 : Nat) mn_KR_totalOf ∈ jk_WA := jk_tb 982 (by decide +kernel) (by decide +kernel)
theorem tm_983 : Jvm.Cond.instanceMethod mn_KR_totalOf ∈ jk_WA := jk_tb 983 (by decide +kernel) (by decide +kernel)
theorem tm_984 : Jvm.Cond.selects "KnotReader" mn_KR_totalOf mn_KR_totalOf ∈ jk_WA := jk_tb 984 (by decide +kernel) (by decide +kernel)
theorem tm_985 : Jvm.Cond.code mn_KR_totalOf prog_1_method_27_code (3 : Nat) (some .int) ∈ jk_WA := jk_tb 985 (by decide +kernel) (by decide +kernel)
theorem rd_Law_totalOf_4 : decode mb_Law_totalOf 4 = .ok (.invokevirtual 52, 3) := by decide +kernel
theorem rd_Law_totalOf_7 : decode mb_Law_totalOf 7 = .ok (.i2l, 1) := by decide +kernel
theorem rd_Law_totalOf_8 : decode mb_Law_totalOf 8 = .ok (.lastore, 1) := by decide +kernel
theorem rd_Law_totalOf_9 : decode mb_Law_totalOf 9 = .ok (.goto 9, 3) := by decide +kernel
theorem rd_Law_totalOf_18 : decode mb_Law_totalOf 18 = .ok (.iconst 0, 1) := by decide +kernel
theorem rd_Law_totalOf_19 : decode mb_Law_totalOf 19 = .ok (.ireturn, 1) := by decide +kernel
theorem rd_Law_totalOf_12 : decode mb_Law_totalOf 12 = .ok (.astore_n 3, 1) := by decide +kernel
theorem rd_Law_totalOf_13 : decode mb_Law_totalOf 13 = .ok (.iconst 1, 1) := by decide +kernel
theorem rd_Law_totalOf_14 : decode mb_Law_totalOf 14 = .ok (.ireturn, 1) := by decide +kernel
theorem tm_981 : Jvm.Cond.classLink "KnotReaderLaw" (55 : Nat) "java/util/NoSuchElementException" ∈ jk_WA := jk_tb 981 (by decide +kernel) (by decide +kernel)
theorem rd_Law_totalOf_15 : decode mb_Law_totalOf 15 = .ok (.astore_n 3, 1) := by decide +kernel
theorem rd_Law_totalOf_16 : decode mb_Law_totalOf 16 = .ok (.iconst 2, 1) := by decide +kernel
theorem rd_Law_totalOf_17 : decode mb_Law_totalOf 17 = .ok (.ireturn, 1) := by decide +kernel
theorem tm_980 : Jvm.Cond.codeWith mn_Law_totalOf method_15_code (4 : Nat) (some .int) [((0 : Nat), (9 : Nat), (12 : Nat), (13 : Nat)), ((0 : Nat), (9 : Nat), (15 : Nat), (55 : Nat))] ∈ jk_WA := jk_tb 980 (by decide +kernel) (by decide +kernel)
theorem tm_979 : Jvm.Cond.static mn_Law_totalOf ∈ jk_WA := jk_tb 979 (by decide +kernel) (by decide +kernel)
theorem rd_Law_pendantsIn_0 : decode mb_Law_pendantsIn 0 = .ok (.aload_n 2, 1) := by decide +kernel
theorem rd_Law_pendantsIn_1 : decode mb_Law_pendantsIn 1 = .ok (.iconst 0, 1) := by decide +kernel
theorem rd_Law_pendantsIn_2 : decode mb_Law_pendantsIn 2 = .ok (.aload_n 0, 1) := by decide +kernel
theorem rd_Law_pendantsIn_3 : decode mb_Law_pendantsIn 3 = .ok (.iload_n 1, 1) := by decide +kernel
theorem tm_1005 : Jvm.Cond.methodLink "KnotReaderLaw" (57 : Nat) mn_KR_pendantsIn ∈ jk_WA := jk_tb 1005 (by decide +kernel) (by decide +kernel)
theorem tm_1006 : Jvm.Cond.instanceMethod mn_KR_pendantsIn ∈ jk_WA := jk_tb 1006 (by decide +kernel) (by decide +kernel)
theorem tm_1007 : Jvm.Cond.selects "KnotReader" mn_KR_pendantsIn mn_KR_pendantsIn ∈ jk_WA := jk_tb 1007 (by decide +kernel) (by decide +kernel)
theorem tm_1008 : Jvm.Cond.code mn_KR_pendantsIn prog_1_method_28_code (2 : Nat) (some .int) ∈ jk_WA := jk_tb 1008 (by decide +kernel) (by decide +kernel)
theorem rd_Law_pendantsIn_4 : decode mb_Law_pendantsIn 4 = .ok (.invokevirtual 57, 3) := by decide +kernel
theorem rd_Law_pendantsIn_7 : decode mb_Law_pendantsIn 7 = .ok (.i2l, 1) := by decide +kernel
theorem rd_Law_pendantsIn_8 : decode mb_Law_pendantsIn 8 = .ok (.lastore, 1) := by decide +kernel
theorem rd_Law_pendantsIn_9 : decode mb_Law_pendantsIn 9 = .ok (.goto 6, 3) := by decide +kernel
theorem rd_Law_pendantsIn_15 : decode mb_Law_pendantsIn 15 = .ok (.iconst 0, 1) := by decide +kernel
theorem rd_Law_pendantsIn_16 : decode mb_Law_pendantsIn 16 = .ok (.ireturn, 1) := by decide +kernel
theorem rd_Law_pendantsIn_12 : decode mb_Law_pendantsIn 12 = .ok (.astore_n 3, 1) := by decide +kernel
theorem rd_Law_pendantsIn_13 : decode mb_Law_pendantsIn 13 = .ok (.iconst 1, 1) := by decide +kernel
theorem rd_Law_pendantsIn_14 : decode mb_Law_pendantsIn 14 = .ok (.ireturn, 1) := by decide +kernel
theorem tm_1004 : Jvm.Cond.codeWith mn_Law_pendantsIn method_16_code (4 : Nat) (some .int) [((0 : Nat), (9 : Nat), (12 : Nat), (13 : Nat))] ∈ jk_WA := jk_tb 1004 (by decide +kernel) (by decide +kernel)
theorem tm_1003 : Jvm.Cond.static mn_Law_pendantsIn ∈ jk_WA := jk_tb 1003 (by decide +kernel) (by decide +kernel)
theorem rd_Law_cordsIn_0 : decode mb_Law_cordsIn 0 = .ok (.aload_n 2, 1) := by decide +kernel
theorem rd_Law_cordsIn_1 : decode mb_Law_cordsIn 1 = .ok (.iconst 0, 1) := by decide +kernel
theorem rd_Law_cordsIn_2 : decode mb_Law_cordsIn 2 = .ok (.aload_n 0, 1) := by decide +kernel
theorem rd_Law_cordsIn_3 : decode mb_Law_cordsIn 3 = .ok (.iload_n 1, 1) := by decide +kernel
theorem tm_1017 : Jvm.Cond.methodLink "KnotReaderLaw" (60 : Nat) mn_KR_cordsIn ∈ jk_WA := jk_tb 1017 (by decide +kernel) (by decide +kernel)
theorem tm_1018 : Jvm.Cond.instanceMethod mn_KR_cordsIn ∈ jk_WA := jk_tb 1018 (by decide +kernel) (by decide +kernel)
theorem tm_1019 : Jvm.Cond.selects "KnotReader" mn_KR_cordsIn mn_KR_cordsIn ∈ jk_WA := jk_tb 1019 (by decide +kernel) (by decide +kernel)
theorem tm_1020 : Jvm.Cond.code mn_KR_cordsIn prog_1_method_29_code (2 : Nat) (some .int) ∈ jk_WA := jk_tb 1020 (by decide +kernel) (by decide +kernel)
theorem rd_Law_cordsIn_4 : decode mb_Law_cordsIn 4 = .ok (.invokevirtual 60, 3) := by decide +kernel
theorem rd_Law_cordsIn_7 : decode mb_Law_cordsIn 7 = .ok (.i2l, 1) := by decide +kernel
theorem rd_Law_cordsIn_8 : decode mb_Law_cordsIn 8 = .ok (.lastore, 1) := by decide +kernel
theorem rd_Law_cordsIn_9 : decode mb_Law_cordsIn 9 = .ok (.goto 6, 3) := by decide +kernel
theorem rd_Law_cordsIn_15 : decode mb_Law_cordsIn 15 = .ok (.iconst 0, 1) := by decide +kernel
theorem rd_Law_cordsIn_16 : decode mb_Law_cordsIn 16 = .ok (.ireturn, 1) := by decide +kernel
theorem rd_Law_cordsIn_12 : decode mb_Law_cordsIn 12 = .ok (.astore_n 3, 1) := by decide +kernel
theorem rd_Law_cordsIn_13 : decode mb_Law_cordsIn 13 = .ok (.iconst 1, 1) := by decide +kernel
theorem rd_Law_cordsIn_14 : decode mb_Law_cordsIn 14 = .ok (.ireturn, 1) := by decide +kernel
theorem tm_1016 : Jvm.Cond.codeWith mn_Law_cordsIn method_17_code (4 : Nat) (some .int) [((0 : Nat), (9 : Nat), (12 : Nat), (13 : Nat))] ∈ jk_WA := jk_tb 1016 (by decide +kernel) (by decide +kernel)
theorem tm_1015 : Jvm.Cond.static mn_Law_cordsIn ∈ jk_WA := jk_tb 1015 (by decide +kernel) (by decide +kernel)
theorem rd_Law_topOf_0 : decode mb_Law_topOf 0 = .ok (.aload_n 2, 1) := by decide +kernel
theorem rd_Law_topOf_1 : decode mb_Law_topOf 1 = .ok (.iconst 0, 1) := by decide +kernel
theorem rd_Law_topOf_2 : decode mb_Law_topOf 2 = .ok (.aload_n 0, 1) := by decide +kernel
theorem rd_Law_topOf_3 : decode mb_Law_topOf 3 = .ok (.iload_n 1, 1) := by decide +kernel
theorem tm_1024 : Jvm.Cond.methodLink "KnotReaderLaw" (63 : Nat) mn_KR_topOf ∈ jk_WA := jk_tb 1024 (by decide +kernel) (by decide +kernel)
theorem tm_1025 : Jvm.Cond.instanceMethod mn_KR_topOf ∈ jk_WA := jk_tb 1025 (by decide +kernel) (by decide +kernel)
theorem tm_1026 : Jvm.Cond.selects "KnotReader" mn_KR_topOf mn_KR_topOf ∈ jk_WA := jk_tb 1026 (by decide +kernel) (by decide +kernel)
theorem tm_1027 : Jvm.Cond.code mn_KR_topOf prog_1_method_30_code (2 : Nat) (some .int) ∈ jk_WA := jk_tb 1027 (by decide +kernel) (by decide +kernel)
theorem rd_Law_topOf_4 : decode mb_Law_topOf 4 = .ok (.invokevirtual 63, 3) := by decide +kernel
theorem rd_Law_topOf_7 : decode mb_Law_topOf 7 = .ok (.i2l, 1) := by decide +kernel
theorem rd_Law_topOf_8 : decode mb_Law_topOf 8 = .ok (.lastore, 1) := by decide +kernel
theorem rd_Law_topOf_9 : decode mb_Law_topOf 9 = .ok (.goto 6, 3) := by decide +kernel
theorem rd_Law_topOf_15 : decode mb_Law_topOf 15 = .ok (.iconst 0, 1) := by decide +kernel
theorem rd_Law_topOf_16 : decode mb_Law_topOf 16 = .ok (.ireturn, 1) := by decide +kernel
theorem rd_Law_topOf_12 : decode mb_Law_topOf 12 = .ok (.astore_n 3, 1) := by decide +kernel
theorem rd_Law_topOf_13 : decode mb_Law_topOf 13 = .ok (.iconst 1, 1) := by decide +kernel
theorem rd_Law_topOf_14 : decode mb_Law_topOf 14 = .ok (.ireturn, 1) := by decide +kernel
theorem tm_1023 : Jvm.Cond.codeWith mn_Law_topOf method_18_code (4 : Nat) (some .int) [((0 : Nat), (9 : Nat), (12 : Nat), (13 : Nat))] ∈ jk_WA := jk_tb 1023 (by decide +kernel) (by decide +kernel)
theorem tm_1022 : Jvm.Cond.static mn_Law_topOf ∈ jk_WA := jk_tb 1022 (by decide +kernel) (by decide +kernel)
theorem rd_Law_firstPendant_0 : decode mb_Law_firstPendant 0 = .ok (.aload_n 2, 1) := by decide +kernel
theorem rd_Law_firstPendant_1 : decode mb_Law_firstPendant 1 = .ok (.iconst 0, 1) := by decide +kernel
theorem rd_Law_firstPendant_2 : decode mb_Law_firstPendant 2 = .ok (.aload_n 0, 1) := by decide +kernel
theorem rd_Law_firstPendant_3 : decode mb_Law_firstPendant 3 = .ok (.iload_n 1, 1) := by decide +kernel
theorem tm_1031 : Jvm.Cond.methodLink "KnotReaderLaw" (66 : Nat) mn_KR_firstPendant ∈ jk_WA := jk_tb 1031 (by decide +kernel) (by decide +kernel)
theorem tm_1032 : Jvm.Cond.instanceMethod mn_KR_firstPendant ∈ jk_WA := jk_tb 1032 (by decide +kernel) (by decide +kernel)
theorem tm_1033 : Jvm.Cond.selects "KnotReader" mn_KR_firstPendant mn_KR_firstPendant ∈ jk_WA := jk_tb 1033 (by decide +kernel) (by decide +kernel)
theorem tm_1034 : Jvm.Cond.code mn_KR_firstPendant prog_1_method_31_code (3 : Nat) (some .int) ∈ jk_WA := jk_tb 1034 (by decide +kernel) (by decide +kernel)
theorem rd_Law_firstPendant_4 : decode mb_Law_firstPendant 4 = .ok (.invokevirtual 66, 3) := by decide +kernel
theorem rd_Law_firstPendant_7 : decode mb_Law_firstPendant 7 = .ok (.i2l, 1) := by decide +kernel
theorem rd_Law_firstPendant_8 : decode mb_Law_firstPendant 8 = .ok (.lastore, 1) := by decide +kernel
theorem rd_Law_firstPendant_9 : decode mb_Law_firstPendant 9 = .ok (.goto 6, 3) := by decide +kernel
theorem rd_Law_firstPendant_15 : decode mb_Law_firstPendant 15 = .ok (.iconst 0, 1) := by decide +kernel
theorem rd_Law_firstPendant_16 : decode mb_Law_firstPendant 16 = .ok (.ireturn, 1) := by decide +kernel
theorem rd_Law_firstPendant_12 : decode mb_Law_firstPendant 12 = .ok (.astore_n 3, 1) := by decide +kernel
theorem rd_Law_firstPendant_13 : decode mb_Law_firstPendant 13 = .ok (.iconst 1, 1) := by decide +kernel
theorem rd_Law_firstPendant_14 : decode mb_Law_firstPendant 14 = .ok (.ireturn, 1) := by decide +kernel
theorem tm_1030 : Jvm.Cond.codeWith mn_Law_firstPendant method_19_code (4 : Nat) (some .int) [((0 : Nat), (9 : Nat), (12 : Nat), (13 : Nat))] ∈ jk_WA := jk_tb 1030 (by decide +kernel) (by decide +kernel)
theorem tm_1029 : Jvm.Cond.static mn_Law_firstPendant ∈ jk_WA := jk_tb 1029 (by decide +kernel) (by decide +kernel)
theorem rd_Law_stateOf_0 : decode mb_Law_stateOf 0 = .ok (.aload_n 2, 1) := by decide +kernel
theorem rd_Law_stateOf_1 : decode mb_Law_stateOf 1 = .ok (.iconst 0, 1) := by decide +kernel
theorem rd_Law_stateOf_2 : decode mb_Law_stateOf 2 = .ok (.aload_n 0, 1) := by decide +kernel
theorem rd_Law_stateOf_3 : decode mb_Law_stateOf 3 = .ok (.iload_n 1, 1) := by decide +kernel
theorem tm_1039 : Jvm.Cond.methodLink "KnotReaderLaw" (69 : Nat) mn_KR_stateOf ∈ jk_WA := jk_tb 1039 (by decide +kernel) (by decide +kernel)
theorem tm_1040 : Jvm.Cond.instanceMethod mn_KR_stateOf ∈ jk_WA := jk_tb 1040 (by decide +kernel) (by decide +kernel)
theorem tm_1041 : Jvm.Cond.selects "KnotReader" mn_KR_stateOf mn_KR_stateOf ∈ jk_WA := jk_tb 1041 (by decide +kernel) (by decide +kernel)
theorem tm_1042 : Jvm.Cond.code mn_KR_stateOf prog_1_method_32_code (2 : Nat) (some .int) ∈ jk_WA := jk_tb 1042 (by decide +kernel) (by decide +kernel)
theorem rd_Law_stateOf_4 : decode mb_Law_stateOf 4 = .ok (.invokevirtual 69, 3) := by decide +kernel
theorem rd_Law_stateOf_7 : decode mb_Law_stateOf 7 = .ok (.i2l, 1) := by decide +kernel
theorem rd_Law_stateOf_8 : decode mb_Law_stateOf 8 = .ok (.lastore, 1) := by decide +kernel
theorem rd_Law_stateOf_9 : decode mb_Law_stateOf 9 = .ok (.goto 6, 3) := by decide +kernel
theorem rd_Law_stateOf_15 : decode mb_Law_stateOf 15 = .ok (.iconst 0, 1) := by decide +kernel
theorem rd_Law_stateOf_16 : decode mb_Law_stateOf 16 = .ok (.ireturn, 1) := by decide +kernel
theorem rd_Law_stateOf_12 : decode mb_Law_stateOf 12 = .ok (.astore_n 3, 1) := by decide +kernel
theorem rd_Law_stateOf_13 : decode mb_Law_stateOf 13 = .ok (.iconst 1, 1) := by decide +kernel
theorem rd_Law_stateOf_14 : decode mb_Law_stateOf 14 = .ok (.ireturn, 1) := by decide +kernel
theorem tm_1038 : Jvm.Cond.codeWith mn_Law_stateOf method_20_code (4 : Nat) (some .int) [((0 : Nat), (9 : Nat), (12 : Nat), (13 : Nat))] ∈ jk_WA := jk_tb 1038 (by decide +kernel) (by decide +kernel)
theorem tm_1037 : Jvm.Cond.static mn_Law_stateOf ∈ jk_WA := jk_tb 1037 (by decide +kernel) (by decide +kernel)
theorem rd_Law_guessObstacle_0 : decode mb_Law_guessObstacle 0 = .ok (.aload_n 2, 1) := by decide +kernel
theorem rd_Law_guessObstacle_1 : decode mb_Law_guessObstacle 1 = .ok (.iconst 0, 1) := by decide +kernel
theorem rd_Law_guessObstacle_2 : decode mb_Law_guessObstacle 2 = .ok (.aload_n 0, 1) := by decide +kernel
theorem rd_Law_guessObstacle_3 : decode mb_Law_guessObstacle 3 = .ok (.iload_n 1, 1) := by decide +kernel
theorem tm_1046 : Jvm.Cond.methodLink "KnotReaderLaw" (72 : Nat) mn_KR_guessObstacle ∈ jk_WA := jk_tb 1046 (by decide +kernel) (by decide +kernel)
theorem tm_1047 : Jvm.Cond.instanceMethod mn_KR_guessObstacle ∈ jk_WA := jk_tb 1047 (by decide +kernel) (by decide +kernel)
theorem tm_1048 : Jvm.Cond.selects "KnotReader" mn_KR_guessObstacle mn_KR_guessObstacle ∈ jk_WA := jk_tb 1048 (by decide +kernel) (by decide +kernel)
theorem tm_1049 : Jvm.Cond.code mn_KR_guessObstacle prog_1_method_33_code (2 : Nat) (some .int) ∈ jk_WA := jk_tb 1049 (by decide +kernel) (by decide +kernel)
theorem rd_Law_guessObstacle_4 : decode mb_Law_guessObstacle 4 = .ok (.invokevirtual 72, 3) := by decide +kernel
theorem rd_Law_guessObstacle_7 : decode mb_Law_guessObstacle 7 = .ok (.i2l, 1) := by decide +kernel
theorem rd_Law_guessObstacle_8 : decode mb_Law_guessObstacle 8 = .ok (.lastore, 1) := by decide +kernel
theorem rd_Law_guessObstacle_9 : decode mb_Law_guessObstacle 9 = .ok (.goto 6, 3) := by decide +kernel
theorem rd_Law_guessObstacle_15 : decode mb_Law_guessObstacle 15 = .ok (.iconst 0, 1) := by decide +kernel
theorem rd_Law_guessObstacle_16 : decode mb_Law_guessObstacle 16 = .ok (.ireturn, 1) := by decide +kernel
theorem rd_Law_guessObstacle_12 : decode mb_Law_guessObstacle 12 = .ok (.astore_n 3, 1) := by decide +kernel
theorem rd_Law_guessObstacle_13 : decode mb_Law_guessObstacle 13 = .ok (.iconst 1, 1) := by decide +kernel
theorem rd_Law_guessObstacle_14 : decode mb_Law_guessObstacle 14 = .ok (.ireturn, 1) := by decide +kernel
theorem tm_1045 : Jvm.Cond.codeWith mn_Law_guessObstacle method_21_code (4 : Nat) (some .int) [((0 : Nat), (9 : Nat), (12 : Nat), (13 : Nat))] ∈ jk_WA := jk_tb 1045 (by decide +kernel) (by decide +kernel)
theorem tm_1044 : Jvm.Cond.static mn_Law_guessObstacle ∈ jk_WA := jk_tb 1044 (by decide +kernel) (by decide +kernel)
theorem rd_Law_sumOf_0 : decode mb_Law_sumOf 0 = .ok (.aload_n 2, 1) := by decide +kernel
theorem rd_Law_sumOf_1 : decode mb_Law_sumOf 1 = .ok (.iconst 0, 1) := by decide +kernel
theorem rd_Law_sumOf_2 : decode mb_Law_sumOf 2 = .ok (.aload_n 0, 1) := by decide +kernel
theorem rd_Law_sumOf_3 : decode mb_Law_sumOf 3 = .ok (.iload_n 1, 1) := by decide +kernel
theorem tm_1053 : Jvm.Cond.methodLink "KnotReaderLaw" (75 : Nat) mn_KR_sumOf ∈ jk_WA := jk_tb 1053 (by decide +kernel) (by decide +kernel)
theorem tm_1054 : Jvm.Cond.instanceMethod mn_KR_sumOf ∈ jk_WA := jk_tb 1054 (by decide +kernel) (by decide +kernel)
theorem tm_1055 : Jvm.Cond.selects "KnotReader" mn_KR_sumOf mn_KR_sumOf ∈ jk_WA := jk_tb 1055 (by decide +kernel) (by decide +kernel)
theorem tm_1056 : Jvm.Cond.code mn_KR_sumOf prog_1_method_34_code (2 : Nat) (some .int) ∈ jk_WA := jk_tb 1056 (by decide +kernel) (by decide +kernel)
theorem rd_Law_sumOf_4 : decode mb_Law_sumOf 4 = .ok (.invokevirtual 75, 3) := by decide +kernel
theorem rd_Law_sumOf_7 : decode mb_Law_sumOf 7 = .ok (.i2l, 1) := by decide +kernel
theorem rd_Law_sumOf_8 : decode mb_Law_sumOf 8 = .ok (.lastore, 1) := by decide +kernel
theorem rd_Law_sumOf_9 : decode mb_Law_sumOf 9 = .ok (.goto 9, 3) := by decide +kernel
theorem rd_Law_sumOf_18 : decode mb_Law_sumOf 18 = .ok (.iconst 0, 1) := by decide +kernel
theorem rd_Law_sumOf_19 : decode mb_Law_sumOf 19 = .ok (.ireturn, 1) := by decide +kernel
theorem rd_Law_sumOf_12 : decode mb_Law_sumOf 12 = .ok (.astore_n 3, 1) := by decide +kernel
theorem rd_Law_sumOf_13 : decode mb_Law_sumOf 13 = .ok (.iconst 1, 1) := by decide +kernel
theorem rd_Law_sumOf_14 : decode mb_Law_sumOf 14 = .ok (.ireturn, 1) := by decide +kernel
theorem rd_Law_sumOf_15 : decode mb_Law_sumOf 15 = .ok (.astore_n 3, 1) := by decide +kernel
theorem rd_Law_sumOf_16 : decode mb_Law_sumOf 16 = .ok (.iconst 2, 1) := by decide +kernel
theorem rd_Law_sumOf_17 : decode mb_Law_sumOf 17 = .ok (.ireturn, 1) := by decide +kernel
theorem tm_1052 : Jvm.Cond.codeWith mn_Law_sumOf method_22_code (4 : Nat) (some .int) [((0 : Nat), (9 : Nat), (12 : Nat), (13 : Nat)), ((0 : Nat), (9 : Nat), (15 : Nat), (55 : Nat))] ∈ jk_WA := jk_tb 1052 (by decide +kernel) (by decide +kernel)
theorem tm_1051 : Jvm.Cond.static mn_Law_sumOf ∈ jk_WA := jk_tb 1051 (by decide +kernel) (by decide +kernel)
theorem rd_Law_guessIn_0 : decode mb_Law_guessIn 0 = .ok (.aload_n 2, 1) := by decide +kernel
theorem rd_Law_guessIn_1 : decode mb_Law_guessIn 1 = .ok (.iconst 0, 1) := by decide +kernel
theorem rd_Law_guessIn_2 : decode mb_Law_guessIn 2 = .ok (.aload_n 0, 1) := by decide +kernel
theorem rd_Law_guessIn_3 : decode mb_Law_guessIn 3 = .ok (.iload_n 1, 1) := by decide +kernel
theorem tm_1061 : Jvm.Cond.methodLink "KnotReaderLaw" (78 : Nat) mn_KR_guessIn ∈ jk_WA := jk_tb 1061 (by decide +kernel) (by decide +kernel)
theorem tm_1062 : Jvm.Cond.instanceMethod mn_KR_guessIn ∈ jk_WA := jk_tb 1062 (by decide +kernel) (by decide +kernel)
theorem tm_1063 : Jvm.Cond.selects "KnotReader" mn_KR_guessIn mn_KR_guessIn ∈ jk_WA := jk_tb 1063 (by decide +kernel) (by decide +kernel)
theorem tm_1064 : Jvm.Cond.code mn_KR_guessIn prog_1_method_35_code (2 : Nat) (some .int) ∈ jk_WA := jk_tb 1064 (by decide +kernel) (by decide +kernel)
theorem rd_Law_guessIn_4 : decode mb_Law_guessIn 4 = .ok (.invokevirtual 78, 3) := by decide +kernel
theorem rd_Law_guessIn_7 : decode mb_Law_guessIn 7 = .ok (.i2l, 1) := by decide +kernel
theorem rd_Law_guessIn_8 : decode mb_Law_guessIn 8 = .ok (.lastore, 1) := by decide +kernel
theorem rd_Law_guessIn_9 : decode mb_Law_guessIn 9 = .ok (.goto 9, 3) := by decide +kernel
theorem rd_Law_guessIn_18 : decode mb_Law_guessIn 18 = .ok (.iconst 0, 1) := by decide +kernel
theorem rd_Law_guessIn_19 : decode mb_Law_guessIn 19 = .ok (.ireturn, 1) := by decide +kernel
theorem rd_Law_guessIn_12 : decode mb_Law_guessIn 12 = .ok (.astore_n 3, 1) := by decide +kernel
theorem rd_Law_guessIn_13 : decode mb_Law_guessIn 13 = .ok (.iconst 1, 1) := by decide +kernel
theorem rd_Law_guessIn_14 : decode mb_Law_guessIn 14 = .ok (.ireturn, 1) := by decide +kernel
theorem rd_Law_guessIn_15 : decode mb_Law_guessIn 15 = .ok (.astore_n 3, 1) := by decide +kernel
theorem rd_Law_guessIn_16 : decode mb_Law_guessIn 16 = .ok (.iconst 2, 1) := by decide +kernel
theorem rd_Law_guessIn_17 : decode mb_Law_guessIn 17 = .ok (.ireturn, 1) := by decide +kernel
theorem tm_1060 : Jvm.Cond.codeWith mn_Law_guessIn method_23_code (4 : Nat) (some .int) [((0 : Nat), (9 : Nat), (12 : Nat), (13 : Nat)), ((0 : Nat), (9 : Nat), (15 : Nat), (55 : Nat))] ∈ jk_WA := jk_tb 1060 (by decide +kernel) (by decide +kernel)
theorem tm_1059 : Jvm.Cond.static mn_Law_guessIn ∈ jk_WA := jk_tb 1059 (by decide +kernel) (by decide +kernel)
theorem rd_Law_nibbledCord_0 : decode mb_Law_nibbledCord 0 = .ok (.aload_n 2, 1) := by decide +kernel
theorem rd_Law_nibbledCord_1 : decode mb_Law_nibbledCord 1 = .ok (.iconst 0, 1) := by decide +kernel
theorem rd_Law_nibbledCord_2 : decode mb_Law_nibbledCord 2 = .ok (.aload_n 0, 1) := by decide +kernel
theorem rd_Law_nibbledCord_3 : decode mb_Law_nibbledCord 3 = .ok (.iload_n 1, 1) := by decide +kernel
theorem tm_1070 : Jvm.Cond.methodLink "KnotReaderLaw" (81 : Nat) mn_KR_nibbledCord ∈ jk_WA := jk_tb 1070 (by decide +kernel) (by decide +kernel)
theorem tm_1071 : Jvm.Cond.instanceMethod mn_KR_nibbledCord ∈ jk_WA := jk_tb 1071 (by decide +kernel) (by decide +kernel)
theorem tm_1072 : Jvm.Cond.selects "KnotReader" mn_KR_nibbledCord mn_KR_nibbledCord ∈ jk_WA := jk_tb 1072 (by decide +kernel) (by decide +kernel)
theorem tm_1073 : Jvm.Cond.code mn_KR_nibbledCord prog_1_method_36_code (2 : Nat) (some .int) ∈ jk_WA := jk_tb 1073 (by decide +kernel) (by decide +kernel)
theorem rd_Law_nibbledCord_4 : decode mb_Law_nibbledCord 4 = .ok (.invokevirtual 81, 3) := by decide +kernel
theorem rd_Law_nibbledCord_7 : decode mb_Law_nibbledCord 7 = .ok (.i2l, 1) := by decide +kernel
theorem rd_Law_nibbledCord_8 : decode mb_Law_nibbledCord 8 = .ok (.lastore, 1) := by decide +kernel
theorem rd_Law_nibbledCord_9 : decode mb_Law_nibbledCord 9 = .ok (.goto 6, 3) := by decide +kernel
theorem rd_Law_nibbledCord_15 : decode mb_Law_nibbledCord 15 = .ok (.iconst 0, 1) := by decide +kernel
theorem rd_Law_nibbledCord_16 : decode mb_Law_nibbledCord 16 = .ok (.ireturn, 1) := by decide +kernel
theorem rd_Law_nibbledCord_12 : decode mb_Law_nibbledCord 12 = .ok (.astore_n 3, 1) := by decide +kernel
theorem rd_Law_nibbledCord_13 : decode mb_Law_nibbledCord 13 = .ok (.iconst 1, 1) := by decide +kernel
theorem rd_Law_nibbledCord_14 : decode mb_Law_nibbledCord 14 = .ok (.ireturn, 1) := by decide +kernel
theorem tm_1069 : Jvm.Cond.codeWith mn_Law_nibbledCord method_24_code (4 : Nat) (some .int) [((0 : Nat), (9 : Nat), (12 : Nat), (13 : Nat))] ∈ jk_WA := jk_tb 1069 (by decide +kernel) (by decide +kernel)
theorem tm_1068 : Jvm.Cond.static mn_Law_nibbledCord ∈ jk_WA := jk_tb 1068 (by decide +kernel) (by decide +kernel)
theorem rd_Law_cordsOfTopic_0 : decode mb_Law_cordsOfTopic 0 = .ok (.aload_n 2, 1) := by decide +kernel
theorem rd_Law_cordsOfTopic_1 : decode mb_Law_cordsOfTopic 1 = .ok (.iconst 0, 1) := by decide +kernel
theorem rd_Law_cordsOfTopic_2 : decode mb_Law_cordsOfTopic 2 = .ok (.aload_n 0, 1) := by decide +kernel
theorem rd_Law_cordsOfTopic_3 : decode mb_Law_cordsOfTopic 3 = .ok (.iload_n 1, 1) := by decide +kernel
theorem tm_1078 : Jvm.Cond.methodLink "KnotReaderLaw" (84 : Nat) mn_KR_cordsOfTopic ∈ jk_WA := jk_tb 1078 (by decide +kernel) (by decide +kernel)
theorem tm_1079 : Jvm.Cond.instanceMethod mn_KR_cordsOfTopic ∈ jk_WA := jk_tb 1079 (by decide +kernel) (by decide +kernel)
theorem tm_1080 : Jvm.Cond.selects "KnotReader" mn_KR_cordsOfTopic mn_KR_cordsOfTopic ∈ jk_WA := jk_tb 1080 (by decide +kernel) (by decide +kernel)
theorem tm_1081 : Jvm.Cond.code mn_KR_cordsOfTopic prog_1_method_37_code (2 : Nat) (some .int) ∈ jk_WA := jk_tb 1081 (by decide +kernel) (by decide +kernel)
theorem rd_Law_cordsOfTopic_4 : decode mb_Law_cordsOfTopic 4 = .ok (.invokevirtual 84, 3) := by decide +kernel
theorem rd_Law_cordsOfTopic_7 : decode mb_Law_cordsOfTopic 7 = .ok (.i2l, 1) := by decide +kernel
theorem rd_Law_cordsOfTopic_8 : decode mb_Law_cordsOfTopic 8 = .ok (.lastore, 1) := by decide +kernel
theorem rd_Law_cordsOfTopic_9 : decode mb_Law_cordsOfTopic 9 = .ok (.goto 6, 3) := by decide +kernel
theorem rd_Law_cordsOfTopic_15 : decode mb_Law_cordsOfTopic 15 = .ok (.iconst 0, 1) := by decide +kernel
theorem rd_Law_cordsOfTopic_16 : decode mb_Law_cordsOfTopic 16 = .ok (.ireturn, 1) := by decide +kernel
theorem rd_Law_cordsOfTopic_12 : decode mb_Law_cordsOfTopic 12 = .ok (.astore_n 3, 1) := by decide +kernel
theorem rd_Law_cordsOfTopic_13 : decode mb_Law_cordsOfTopic 13 = .ok (.iconst 1, 1) := by decide +kernel
theorem rd_Law_cordsOfTopic_14 : decode mb_Law_cordsOfTopic 14 = .ok (.ireturn, 1) := by decide +kernel
theorem tm_1077 : Jvm.Cond.codeWith mn_Law_cordsOfTopic method_25_code (4 : Nat) (some .int) [((0 : Nat), (9 : Nat), (12 : Nat), (13 : Nat))] ∈ jk_WA := jk_tb 1077 (by decide +kernel) (by decide +kernel)
theorem tm_1076 : Jvm.Cond.static mn_Law_cordsOfTopic ∈ jk_WA := jk_tb 1076 (by decide +kernel) (by decide +kernel)
theorem rd_Law_sumOfTopic_0 : decode mb_Law_sumOfTopic 0 = .ok (.aload_n 2, 1) := by decide +kernel
theorem rd_Law_sumOfTopic_1 : decode mb_Law_sumOfTopic 1 = .ok (.iconst 0, 1) := by decide +kernel
theorem rd_Law_sumOfTopic_2 : decode mb_Law_sumOfTopic 2 = .ok (.aload_n 0, 1) := by decide +kernel
theorem rd_Law_sumOfTopic_3 : decode mb_Law_sumOfTopic 3 = .ok (.iload_n 1, 1) := by decide +kernel
theorem tm_1085 : Jvm.Cond.methodLink "KnotReaderLaw" (87 : Nat) mn_KR_sumOfTopic ∈ jk_WA := jk_tb 1085 (by decide +kernel) (by decide +kernel)
theorem tm_1086 : Jvm.Cond.instanceMethod mn_KR_sumOfTopic ∈ jk_WA := jk_tb 1086 (by decide +kernel) (by decide +kernel)
theorem tm_1087 : Jvm.Cond.selects "KnotReader" mn_KR_sumOfTopic mn_KR_sumOfTopic ∈ jk_WA := jk_tb 1087 (by decide +kernel) (by decide +kernel)
theorem tm_1088 : Jvm.Cond.code mn_KR_sumOfTopic prog_1_method_38_code (4 : Nat) (some .int) ∈ jk_WA := jk_tb 1088 (by decide +kernel) (by decide +kernel)
theorem rd_Law_sumOfTopic_4 : decode mb_Law_sumOfTopic 4 = .ok (.invokevirtual 87, 3) := by decide +kernel
theorem rd_Law_sumOfTopic_7 : decode mb_Law_sumOfTopic 7 = .ok (.i2l, 1) := by decide +kernel
theorem rd_Law_sumOfTopic_8 : decode mb_Law_sumOfTopic 8 = .ok (.lastore, 1) := by decide +kernel
theorem rd_Law_sumOfTopic_9 : decode mb_Law_sumOfTopic 9 = .ok (.goto 6, 3) := by decide +kernel
theorem rd_Law_sumOfTopic_15 : decode mb_Law_sumOfTopic 15 = .ok (.iconst 0, 1) := by decide +kernel
theorem rd_Law_sumOfTopic_16 : decode mb_Law_sumOfTopic 16 = .ok (.ireturn, 1) := by decide +kernel
theorem rd_Law_sumOfTopic_12 : decode mb_Law_sumOfTopic 12 = .ok (.astore_n 3, 1) := by decide +kernel
theorem rd_Law_sumOfTopic_13 : decode mb_Law_sumOfTopic 13 = .ok (.iconst 1, 1) := by decide +kernel
theorem rd_Law_sumOfTopic_14 : decode mb_Law_sumOfTopic 14 = .ok (.ireturn, 1) := by decide +kernel
theorem tm_1084 : Jvm.Cond.codeWith mn_Law_sumOfTopic method_26_code (4 : Nat) (some .int) [((0 : Nat), (9 : Nat), (12 : Nat), (13 : Nat))] ∈ jk_WA := jk_tb 1084 (by decide +kernel) (by decide +kernel)
theorem tm_1083 : Jvm.Cond.static mn_Law_sumOfTopic ∈ jk_WA := jk_tb 1083 (by decide +kernel) (by decide +kernel)
theorem rd_Law_addCluster_0 : decode mb_Law_addCluster 0 = .ok (.aload_n 1, 1) := by decide +kernel
theorem rd_Law_addCluster_1 : decode mb_Law_addCluster 1 = .ok (.iconst 0, 1) := by decide +kernel
theorem rd_Law_addCluster_2 : decode mb_Law_addCluster 2 = .ok (.aload_n 0, 1) := by decide +kernel
theorem tm_1093 : Jvm.Cond.methodLink "KnotReaderLaw" (90 : Nat) mn_KR_addCluster ∈ jk_WA := jk_tb 1093 (by decide +kernel) (by decide +kernel)
theorem tm_1094 : Jvm.Cond.instanceMethod mn_KR_addCluster ∈ jk_WA := jk_tb 1094 (by decide +kernel) (by decide +kernel)
theorem tm_1095 : Jvm.Cond.selects "KnotReader" mn_KR_addCluster mn_KR_addCluster ∈ jk_WA := jk_tb 1095 (by decide +kernel) (by decide +kernel)
theorem tm_1096 : Jvm.Cond.code mn_KR_addCluster prog_1_method_44_code (1 : Nat) (some .int) ∈ jk_WA := jk_tb 1096 (by decide +kernel) (by decide +kernel)
theorem rd_Law_addCluster_3 : decode mb_Law_addCluster 3 = .ok (.invokevirtual 90, 3) := by decide +kernel
theorem rd_Law_addCluster_6 : decode mb_Law_addCluster 6 = .ok (.i2l, 1) := by decide +kernel
theorem rd_Law_addCluster_7 : decode mb_Law_addCluster 7 = .ok (.lastore, 1) := by decide +kernel
theorem rd_Law_addCluster_8 : decode mb_Law_addCluster 8 = .ok (.goto 6, 3) := by decide +kernel
theorem rd_Law_addCluster_14 : decode mb_Law_addCluster 14 = .ok (.iconst 0, 1) := by decide +kernel
theorem rd_Law_addCluster_15 : decode mb_Law_addCluster 15 = .ok (.ireturn, 1) := by decide +kernel
theorem tm_1092 : Jvm.Cond.classLink "KnotReaderLaw" (94 : Nat) "java/lang/IllegalStateException" ∈ jk_WA := jk_tb 1092 (by decide +kernel) (by decide +kernel)
theorem rd_Law_addCluster_11 : decode mb_Law_addCluster 11 = .ok (.astore_n 2, 1) := by decide +kernel
theorem rd_Law_addCluster_12 : decode mb_Law_addCluster 12 = .ok (.iconst 1, 1) := by decide +kernel
theorem rd_Law_addCluster_13 : decode mb_Law_addCluster 13 = .ok (.ireturn, 1) := by decide +kernel
theorem tm_1091 : Jvm.Cond.codeWith mn_Law_addCluster method_27_code (3 : Nat) (some .int) [((0 : Nat), (8 : Nat), (11 : Nat), (94 : Nat))] ∈ jk_WA := jk_tb 1091 (by decide +kernel) (by decide +kernel)
theorem tm_1090 : Jvm.Cond.static mn_Law_addCluster ∈ jk_WA := jk_tb 1090 (by decide +kernel) (by decide +kernel)
theorem rd_Law_addPendant_0 : decode mb_Law_addPendant 0 = .ok (.aload 4, 2) := by decide +kernel
theorem rd_Law_addPendant_2 : decode mb_Law_addPendant 2 = .ok (.iconst 0, 1) := by decide +kernel
theorem rd_Law_addPendant_3 : decode mb_Law_addPendant 3 = .ok (.aload_n 0, 1) := by decide +kernel
theorem rd_Law_addPendant_4 : decode mb_Law_addPendant 4 = .ok (.iload_n 1, 1) := by decide +kernel
theorem rd_Law_addPendant_5 : decode mb_Law_addPendant 5 = .ok (.iload_n 2, 1) := by decide +kernel
theorem rd_Law_addPendant_6 : decode mb_Law_addPendant 6 = .ok (.iload_n 3, 1) := by decide +kernel
theorem tm_1122 : Jvm.Cond.methodLink "KnotReaderLaw" (96 : Nat) mn_KR_addPendant ∈ jk_WA := jk_tb 1122 (by decide +kernel) (by decide +kernel)
theorem tm_1123 : Jvm.Cond.instanceMethod mn_KR_addPendant ∈ jk_WA := jk_tb 1123 (by decide +kernel) (by decide +kernel)
theorem tm_1124 : Jvm.Cond.selects "KnotReader" mn_KR_addPendant mn_KR_addPendant ∈ jk_WA := jk_tb 1124 (by decide +kernel) (by decide +kernel)
theorem tm_1125 : Jvm.Cond.code mn_KR_addPendant prog_1_method_45_code (4 : Nat) (some .int) ∈ jk_WA := jk_tb 1125 (by decide +kernel) (by decide +kernel)
theorem rd_Law_addPendant_7 : decode mb_Law_addPendant 7 = .ok (.invokevirtual 96, 3) := by decide +kernel
theorem rd_Law_addPendant_10 : decode mb_Law_addPendant 10 = .ok (.i2l, 1) := by decide +kernel
theorem rd_Law_addPendant_11 : decode mb_Law_addPendant 11 = .ok (.lastore, 1) := by decide +kernel
theorem rd_Law_addPendant_12 : decode mb_Law_addPendant 12 = .ok (.goto 15, 3) := by decide +kernel
theorem rd_Law_addPendant_27 : decode mb_Law_addPendant 27 = .ok (.iconst 0, 1) := by decide +kernel
theorem rd_Law_addPendant_28 : decode mb_Law_addPendant 28 = .ok (.ireturn, 1) := by decide +kernel
theorem rd_Law_addPendant_15 : decode mb_Law_addPendant 15 = .ok (.astore 5, 2) := by decide +kernel
theorem rd_Law_addPendant_17 : decode mb_Law_addPendant 17 = .ok (.iconst 1, 1) := by decide +kernel
theorem rd_Law_addPendant_18 : decode mb_Law_addPendant 18 = .ok (.ireturn, 1) := by decide +kernel
theorem rd_Law_addPendant_19 : decode mb_Law_addPendant 19 = .ok (.astore 5, 2) := by decide +kernel
theorem rd_Law_addPendant_21 : decode mb_Law_addPendant 21 = .ok (.iconst 2, 1) := by decide +kernel
theorem rd_Law_addPendant_22 : decode mb_Law_addPendant 22 = .ok (.ireturn, 1) := by decide +kernel
theorem rd_Law_addPendant_23 : decode mb_Law_addPendant 23 = .ok (.astore 5, 2) := by decide +kernel
theorem rd_Law_addPendant_25 : decode mb_Law_addPendant 25 = .ok (.iconst 3, 1) := by decide +kernel
theorem rd_Law_addPendant_26 : decode mb_Law_addPendant 26 = .ok (.ireturn, 1) := by decide +kernel
theorem tm_1121 : Jvm.Cond.codeWith mn_Law_addPendant method_28_code (6 : Nat) (some .int) [((0 : Nat), (12 : Nat), (15 : Nat), (13 : Nat)), ((0 : Nat), (12 : Nat), (19 : Nat), (46 : Nat)), ((0 : Nat), (12 : Nat), (23 : Nat), (94 : Nat))] ∈ jk_WA := jk_tb 1121 (by decide +kernel) (by decide +kernel)
theorem tm_1120 : Jvm.Cond.static mn_Law_addPendant ∈ jk_WA := jk_tb 1120 (by decide +kernel) (by decide +kernel)
theorem rd_Law_addSubsidiary_0 : decode mb_Law_addSubsidiary 0 = .ok (.aload 4, 2) := by decide +kernel
theorem rd_Law_addSubsidiary_2 : decode mb_Law_addSubsidiary 2 = .ok (.iconst 0, 1) := by decide +kernel
theorem rd_Law_addSubsidiary_3 : decode mb_Law_addSubsidiary 3 = .ok (.aload_n 0, 1) := by decide +kernel
theorem rd_Law_addSubsidiary_4 : decode mb_Law_addSubsidiary 4 = .ok (.iload_n 1, 1) := by decide +kernel
theorem rd_Law_addSubsidiary_5 : decode mb_Law_addSubsidiary 5 = .ok (.iload_n 2, 1) := by decide +kernel
theorem rd_Law_addSubsidiary_6 : decode mb_Law_addSubsidiary 6 = .ok (.iload_n 3, 1) := by decide +kernel
theorem tm_1129 : Jvm.Cond.methodLink "KnotReaderLaw" (100 : Nat) mn_KR_addSubsidiary ∈ jk_WA := jk_tb 1129 (by decide +kernel) (by decide +kernel)
theorem tm_1130 : Jvm.Cond.instanceMethod mn_KR_addSubsidiary ∈ jk_WA := jk_tb 1130 (by decide +kernel) (by decide +kernel)
theorem tm_1131 : Jvm.Cond.selects "KnotReader" mn_KR_addSubsidiary mn_KR_addSubsidiary ∈ jk_WA := jk_tb 1131 (by decide +kernel) (by decide +kernel)
theorem tm_1132 : Jvm.Cond.code mn_KR_addSubsidiary prog_1_method_46_code (4 : Nat) (some .int) ∈ jk_WA := jk_tb 1132 (by decide +kernel) (by decide +kernel)
theorem rd_Law_addSubsidiary_7 : decode mb_Law_addSubsidiary 7 = .ok (.invokevirtual 100, 3) := by decide +kernel
theorem rd_Law_addSubsidiary_10 : decode mb_Law_addSubsidiary 10 = .ok (.i2l, 1) := by decide +kernel
theorem rd_Law_addSubsidiary_11 : decode mb_Law_addSubsidiary 11 = .ok (.lastore, 1) := by decide +kernel
theorem rd_Law_addSubsidiary_12 : decode mb_Law_addSubsidiary 12 = .ok (.goto 15, 3) := by decide +kernel
theorem rd_Law_addSubsidiary_27 : decode mb_Law_addSubsidiary 27 = .ok (.iconst 0, 1) := by decide +kernel
theorem rd_Law_addSubsidiary_28 : decode mb_Law_addSubsidiary 28 = .ok (.ireturn, 1) := by decide +kernel
theorem rd_Law_addSubsidiary_15 : decode mb_Law_addSubsidiary 15 = .ok (.astore 5, 2) := by decide +kernel
theorem rd_Law_addSubsidiary_17 : decode mb_Law_addSubsidiary 17 = .ok (.iconst 1, 1) := by decide +kernel
theorem rd_Law_addSubsidiary_18 : decode mb_Law_addSubsidiary 18 = .ok (.ireturn, 1) := by decide +kernel
theorem rd_Law_addSubsidiary_19 : decode mb_Law_addSubsidiary 19 = .ok (.astore 5, 2) := by decide +kernel
theorem rd_Law_addSubsidiary_21 : decode mb_Law_addSubsidiary 21 = .ok (.iconst 2, 1) := by decide +kernel
theorem rd_Law_addSubsidiary_22 : decode mb_Law_addSubsidiary 22 = .ok (.ireturn, 1) := by decide +kernel
theorem rd_Law_addSubsidiary_23 : decode mb_Law_addSubsidiary 23 = .ok (.astore 5, 2) := by decide +kernel
theorem rd_Law_addSubsidiary_25 : decode mb_Law_addSubsidiary 25 = .ok (.iconst 3, 1) := by decide +kernel
theorem rd_Law_addSubsidiary_26 : decode mb_Law_addSubsidiary 26 = .ok (.ireturn, 1) := by decide +kernel
theorem tm_1128 : Jvm.Cond.codeWith mn_Law_addSubsidiary method_29_code (6 : Nat) (some .int) [((0 : Nat), (12 : Nat), (15 : Nat), (13 : Nat)), ((0 : Nat), (12 : Nat), (19 : Nat), (46 : Nat)), ((0 : Nat), (12 : Nat), (23 : Nat), (94 : Nat))] ∈ jk_WA := jk_tb 1128 (by decide +kernel) (by decide +kernel)
theorem tm_1127 : Jvm.Cond.static mn_Law_addSubsidiary ∈ jk_WA := jk_tb 1127 (by decide +kernel) (by decide +kernel)
theorem rd_Law_cut_0 : decode mb_Law_cut 0 = .ok (.aload_n 2, 1) := by decide +kernel
theorem rd_Law_cut_1 : decode mb_Law_cut 1 = .ok (.iconst 0, 1) := by decide +kernel
theorem rd_Law_cut_2 : decode mb_Law_cut 2 = .ok (.aload_n 0, 1) := by decide +kernel
theorem rd_Law_cut_3 : decode mb_Law_cut 3 = .ok (.iload_n 1, 1) := by decide +kernel
theorem tm_1136 : Jvm.Cond.methodLink "KnotReaderLaw" (103 : Nat) mn_KR_cut ∈ jk_WA := jk_tb 1136 (by decide +kernel) (by decide +kernel)
theorem tm_1137 : Jvm.Cond.instanceMethod mn_KR_cut ∈ jk_WA := jk_tb 1137 (by decide +kernel) (by decide +kernel)
theorem tm_1138 : Jvm.Cond.selects "KnotReader" mn_KR_cut mn_KR_cut ∈ jk_WA := jk_tb 1138 (by decide +kernel) (by decide +kernel)
theorem tm_1139 : Jvm.Cond.code mn_KR_cut prog_1_method_47_code (2 : Nat) (some .int) ∈ jk_WA := jk_tb 1139 (by decide +kernel) (by decide +kernel)
theorem rd_Law_cut_4 : decode mb_Law_cut 4 = .ok (.invokevirtual 103, 3) := by decide +kernel
theorem rd_Law_cut_7 : decode mb_Law_cut 7 = .ok (.i2l, 1) := by decide +kernel
theorem rd_Law_cut_8 : decode mb_Law_cut 8 = .ok (.lastore, 1) := by decide +kernel
theorem rd_Law_cut_9 : decode mb_Law_cut 9 = .ok (.goto 6, 3) := by decide +kernel
theorem rd_Law_cut_15 : decode mb_Law_cut 15 = .ok (.iconst 0, 1) := by decide +kernel
theorem rd_Law_cut_16 : decode mb_Law_cut 16 = .ok (.ireturn, 1) := by decide +kernel
theorem rd_Law_cut_12 : decode mb_Law_cut 12 = .ok (.astore_n 3, 1) := by decide +kernel
theorem rd_Law_cut_13 : decode mb_Law_cut 13 = .ok (.iconst 1, 1) := by decide +kernel
theorem rd_Law_cut_14 : decode mb_Law_cut 14 = .ok (.ireturn, 1) := by decide +kernel
theorem tm_1135 : Jvm.Cond.codeWith mn_Law_cut method_30_code (4 : Nat) (some .int) [((0 : Nat), (9 : Nat), (12 : Nat), (13 : Nat))] ∈ jk_WA := jk_tb 1135 (by decide +kernel) (by decide +kernel)
theorem tm_1134 : Jvm.Cond.static mn_Law_cut ∈ jk_WA := jk_tb 1134 (by decide +kernel) (by decide +kernel)
theorem rd_Law_tieTop_0 : decode mb_Law_tieTop 0 = .ok (.aload_n 3, 1) := by decide +kernel
theorem rd_Law_tieTop_1 : decode mb_Law_tieTop 1 = .ok (.iconst 0, 1) := by decide +kernel
theorem rd_Law_tieTop_2 : decode mb_Law_tieTop 2 = .ok (.aload_n 0, 1) := by decide +kernel
theorem rd_Law_tieTop_3 : decode mb_Law_tieTop 3 = .ok (.iload_n 1, 1) := by decide +kernel
theorem rd_Law_tieTop_4 : decode mb_Law_tieTop 4 = .ok (.iload_n 2, 1) := by decide +kernel
theorem tm_1143 : Jvm.Cond.methodLink "KnotReaderLaw" (106 : Nat) mn_KR_tieTop ∈ jk_WA := jk_tb 1143 (by decide +kernel) (by decide +kernel)
theorem tm_1144 : Jvm.Cond.instanceMethod mn_KR_tieTop ∈ jk_WA := jk_tb 1144 (by decide +kernel) (by decide +kernel)
theorem tm_1145 : Jvm.Cond.selects "KnotReader" mn_KR_tieTop mn_KR_tieTop ∈ jk_WA := jk_tb 1145 (by decide +kernel) (by decide +kernel)
theorem tm_1146 : Jvm.Cond.code mn_KR_tieTop prog_1_method_48_code (3 : Nat) (some .int) ∈ jk_WA := jk_tb 1146 (by decide +kernel) (by decide +kernel)
theorem rd_Law_tieTop_5 : decode mb_Law_tieTop 5 = .ok (.invokevirtual 106, 3) := by decide +kernel
theorem rd_Law_tieTop_8 : decode mb_Law_tieTop 8 = .ok (.i2l, 1) := by decide +kernel
theorem rd_Law_tieTop_9 : decode mb_Law_tieTop 9 = .ok (.lastore, 1) := by decide +kernel
theorem rd_Law_tieTop_10 : decode mb_Law_tieTop 10 = .ok (.goto 11, 3) := by decide +kernel
theorem rd_Law_tieTop_21 : decode mb_Law_tieTop 21 = .ok (.iconst 0, 1) := by decide +kernel
theorem rd_Law_tieTop_22 : decode mb_Law_tieTop 22 = .ok (.ireturn, 1) := by decide +kernel
theorem rd_Law_tieTop_13 : decode mb_Law_tieTop 13 = .ok (.astore 4, 2) := by decide +kernel
theorem rd_Law_tieTop_15 : decode mb_Law_tieTop 15 = .ok (.iconst 1, 1) := by decide +kernel
theorem rd_Law_tieTop_16 : decode mb_Law_tieTop 16 = .ok (.ireturn, 1) := by decide +kernel
theorem rd_Law_tieTop_17 : decode mb_Law_tieTop 17 = .ok (.astore 4, 2) := by decide +kernel
theorem rd_Law_tieTop_19 : decode mb_Law_tieTop 19 = .ok (.iconst 2, 1) := by decide +kernel
theorem rd_Law_tieTop_20 : decode mb_Law_tieTop 20 = .ok (.ireturn, 1) := by decide +kernel
theorem tm_1142 : Jvm.Cond.codeWith mn_Law_tieTop method_31_code (5 : Nat) (some .int) [((0 : Nat), (10 : Nat), (13 : Nat), (13 : Nat)), ((0 : Nat), (10 : Nat), (17 : Nat), (94 : Nat))] ∈ jk_WA := jk_tb 1142 (by decide +kernel) (by decide +kernel)
theorem tm_1141 : Jvm.Cond.static mn_Law_tieTop ∈ jk_WA := jk_tb 1141 (by decide +kernel) (by decide +kernel)
theorem rd_Law_setKnots_0 : decode mb_Law_setKnots 0 = .ok (.aload 4, 2) := by decide +kernel
theorem rd_Law_setKnots_2 : decode mb_Law_setKnots 2 = .ok (.iconst 0, 1) := by decide +kernel
theorem rd_Law_setKnots_3 : decode mb_Law_setKnots 3 = .ok (.aload_n 0, 1) := by decide +kernel
theorem rd_Law_setKnots_4 : decode mb_Law_setKnots 4 = .ok (.iload_n 1, 1) := by decide +kernel
theorem rd_Law_setKnots_5 : decode mb_Law_setKnots 5 = .ok (.iload_n 2, 1) := by decide +kernel
theorem rd_Law_setKnots_6 : decode mb_Law_setKnots 6 = .ok (.iload_n 3, 1) := by decide +kernel
theorem tm_1150 : Jvm.Cond.methodLink "KnotReaderLaw" (109 : Nat) mn_KR_setKnots ∈ jk_WA := jk_tb 1150 (by decide +kernel) (by decide +kernel)
theorem tm_1151 : Jvm.Cond.instanceMethod mn_KR_setKnots ∈ jk_WA := jk_tb 1151 (by decide +kernel) (by decide +kernel)
theorem tm_1152 : Jvm.Cond.selects "KnotReader" mn_KR_setKnots mn_KR_setKnots ∈ jk_WA := jk_tb 1152 (by decide +kernel) (by decide +kernel)
theorem tm_1153 : Jvm.Cond.code mn_KR_setKnots prog_1_method_49_code (4 : Nat) (some .int) ∈ jk_WA := jk_tb 1153 (by decide +kernel) (by decide +kernel)
theorem rd_Law_setKnots_7 : decode mb_Law_setKnots 7 = .ok (.invokevirtual 109, 3) := by decide +kernel
theorem rd_Law_setKnots_10 : decode mb_Law_setKnots 10 = .ok (.i2l, 1) := by decide +kernel
theorem rd_Law_setKnots_11 : decode mb_Law_setKnots 11 = .ok (.lastore, 1) := by decide +kernel
theorem rd_Law_setKnots_12 : decode mb_Law_setKnots 12 = .ok (.goto 15, 3) := by decide +kernel
theorem rd_Law_setKnots_27 : decode mb_Law_setKnots 27 = .ok (.iconst 0, 1) := by decide +kernel
theorem rd_Law_setKnots_28 : decode mb_Law_setKnots 28 = .ok (.ireturn, 1) := by decide +kernel
theorem rd_Law_setKnots_15 : decode mb_Law_setKnots 15 = .ok (.astore 5, 2) := by decide +kernel
theorem rd_Law_setKnots_17 : decode mb_Law_setKnots 17 = .ok (.iconst 1, 1) := by decide +kernel
theorem rd_Law_setKnots_18 : decode mb_Law_setKnots 18 = .ok (.ireturn, 1) := by decide +kernel
theorem rd_Law_setKnots_19 : decode mb_Law_setKnots 19 = .ok (.astore 5, 2) := by decide +kernel
theorem rd_Law_setKnots_21 : decode mb_Law_setKnots 21 = .ok (.iconst 2, 1) := by decide +kernel
theorem rd_Law_setKnots_22 : decode mb_Law_setKnots 22 = .ok (.ireturn, 1) := by decide +kernel
theorem rd_Law_setKnots_23 : decode mb_Law_setKnots 23 = .ok (.astore 5, 2) := by decide +kernel
theorem rd_Law_setKnots_25 : decode mb_Law_setKnots 25 = .ok (.iconst 3, 1) := by decide +kernel
theorem rd_Law_setKnots_26 : decode mb_Law_setKnots 26 = .ok (.ireturn, 1) := by decide +kernel
theorem tm_1149 : Jvm.Cond.codeWith mn_Law_setKnots method_32_code (6 : Nat) (some .int) [((0 : Nat), (12 : Nat), (15 : Nat), (13 : Nat)), ((0 : Nat), (12 : Nat), (19 : Nat), (46 : Nat)), ((0 : Nat), (12 : Nat), (23 : Nat), (94 : Nat))] ∈ jk_WA := jk_tb 1149 (by decide +kernel) (by decide +kernel)
theorem tm_1148 : Jvm.Cond.static mn_Law_setKnots ∈ jk_WA := jk_tb 1148 (by decide +kernel) (by decide +kernel)
theorem rd_Law_nibble_0 : decode mb_Law_nibble 0 = .ok (.aload_n 3, 1) := by decide +kernel
theorem rd_Law_nibble_1 : decode mb_Law_nibble 1 = .ok (.iconst 0, 1) := by decide +kernel
theorem rd_Law_nibble_2 : decode mb_Law_nibble 2 = .ok (.aload_n 0, 1) := by decide +kernel
theorem rd_Law_nibble_3 : decode mb_Law_nibble 3 = .ok (.iload_n 1, 1) := by decide +kernel
theorem rd_Law_nibble_4 : decode mb_Law_nibble 4 = .ok (.iload_n 2, 1) := by decide +kernel
theorem tm_1157 : Jvm.Cond.methodLink "KnotReaderLaw" (112 : Nat) mn_KR_nibble ∈ jk_WA := jk_tb 1157 (by decide +kernel) (by decide +kernel)
theorem tm_1158 : Jvm.Cond.instanceMethod mn_KR_nibble ∈ jk_WA := jk_tb 1158 (by decide +kernel) (by decide +kernel)
theorem tm_1159 : Jvm.Cond.selects "KnotReader" mn_KR_nibble mn_KR_nibble ∈ jk_WA := jk_tb 1159 (by decide +kernel) (by decide +kernel)
theorem tm_1160 : Jvm.Cond.code mn_KR_nibble prog_1_method_50_code (3 : Nat) (some .int) ∈ jk_WA := jk_tb 1160 (by decide +kernel) (by decide +kernel)
theorem rd_Law_nibble_5 : decode mb_Law_nibble 5 = .ok (.invokevirtual 112, 3) := by decide +kernel
theorem rd_Law_nibble_8 : decode mb_Law_nibble 8 = .ok (.i2l, 1) := by decide +kernel
theorem rd_Law_nibble_9 : decode mb_Law_nibble 9 = .ok (.lastore, 1) := by decide +kernel
theorem rd_Law_nibble_10 : decode mb_Law_nibble 10 = .ok (.goto 15, 3) := by decide +kernel
theorem rd_Law_nibble_25 : decode mb_Law_nibble 25 = .ok (.iconst 0, 1) := by decide +kernel
theorem rd_Law_nibble_26 : decode mb_Law_nibble 26 = .ok (.ireturn, 1) := by decide +kernel
theorem rd_Law_nibble_13 : decode mb_Law_nibble 13 = .ok (.astore 4, 2) := by decide +kernel
theorem rd_Law_nibble_15 : decode mb_Law_nibble 15 = .ok (.iconst 1, 1) := by decide +kernel
theorem rd_Law_nibble_16 : decode mb_Law_nibble 16 = .ok (.ireturn, 1) := by decide +kernel
theorem rd_Law_nibble_17 : decode mb_Law_nibble 17 = .ok (.astore 4, 2) := by decide +kernel
theorem rd_Law_nibble_19 : decode mb_Law_nibble 19 = .ok (.iconst 2, 1) := by decide +kernel
theorem rd_Law_nibble_20 : decode mb_Law_nibble 20 = .ok (.ireturn, 1) := by decide +kernel
theorem rd_Law_nibble_21 : decode mb_Law_nibble 21 = .ok (.astore 4, 2) := by decide +kernel
theorem rd_Law_nibble_23 : decode mb_Law_nibble 23 = .ok (.iconst 3, 1) := by decide +kernel
theorem rd_Law_nibble_24 : decode mb_Law_nibble 24 = .ok (.ireturn, 1) := by decide +kernel
theorem tm_1156 : Jvm.Cond.codeWith mn_Law_nibble method_33_code (5 : Nat) (some .int) [((0 : Nat), (10 : Nat), (13 : Nat), (13 : Nat)), ((0 : Nat), (10 : Nat), (17 : Nat), (46 : Nat)), ((0 : Nat), (10 : Nat), (21 : Nat), (94 : Nat))] ∈ jk_WA := jk_tb 1156 (by decide +kernel) (by decide +kernel)
theorem tm_1155 : Jvm.Cond.static mn_Law_nibble ∈ jk_WA := jk_tb 1155 (by decide +kernel) (by decide +kernel)
theorem rd_Law_dye_0 : decode mb_Law_dye 0 = .ok (.aload_n 3, 1) := by decide +kernel
theorem rd_Law_dye_1 : decode mb_Law_dye 1 = .ok (.iconst 0, 1) := by decide +kernel
theorem rd_Law_dye_2 : decode mb_Law_dye 2 = .ok (.aload_n 0, 1) := by decide +kernel
theorem rd_Law_dye_3 : decode mb_Law_dye 3 = .ok (.iload_n 1, 1) := by decide +kernel
theorem rd_Law_dye_4 : decode mb_Law_dye 4 = .ok (.iload_n 2, 1) := by decide +kernel
theorem tm_1164 : Jvm.Cond.methodLink "KnotReaderLaw" (115 : Nat) mn_KR_dye ∈ jk_WA := jk_tb 1164 (by decide +kernel) (by decide +kernel)
theorem tm_1165 : Jvm.Cond.instanceMethod mn_KR_dye ∈ jk_WA := jk_tb 1165 (by decide +kernel) (by decide +kernel)
theorem tm_1166 : Jvm.Cond.selects "KnotReader" mn_KR_dye mn_KR_dye ∈ jk_WA := jk_tb 1166 (by decide +kernel) (by decide +kernel)
theorem tm_1167 : Jvm.Cond.code mn_KR_dye prog_1_method_51_code (3 : Nat) (some .int) ∈ jk_WA := jk_tb 1167 (by decide +kernel) (by decide +kernel)
theorem rd_Law_dye_5 : decode mb_Law_dye 5 = .ok (.invokevirtual 115, 3) := by decide +kernel
theorem rd_Law_dye_8 : decode mb_Law_dye 8 = .ok (.i2l, 1) := by decide +kernel
theorem rd_Law_dye_9 : decode mb_Law_dye 9 = .ok (.lastore, 1) := by decide +kernel
theorem rd_Law_dye_10 : decode mb_Law_dye 10 = .ok (.goto 7, 3) := by decide +kernel
theorem rd_Law_dye_17 : decode mb_Law_dye 17 = .ok (.iconst 0, 1) := by decide +kernel
theorem rd_Law_dye_18 : decode mb_Law_dye 18 = .ok (.ireturn, 1) := by decide +kernel
theorem rd_Law_dye_13 : decode mb_Law_dye 13 = .ok (.astore 4, 2) := by decide +kernel
theorem rd_Law_dye_15 : decode mb_Law_dye 15 = .ok (.iconst 1, 1) := by decide +kernel
theorem rd_Law_dye_16 : decode mb_Law_dye 16 = .ok (.ireturn, 1) := by decide +kernel
theorem tm_1163 : Jvm.Cond.codeWith mn_Law_dye method_34_code (5 : Nat) (some .int) [((0 : Nat), (10 : Nat), (13 : Nat), (13 : Nat))] ∈ jk_WA := jk_tb 1163 (by decide +kernel) (by decide +kernel)
theorem tm_1162 : Jvm.Cond.static mn_Law_dye ∈ jk_WA := jk_tb 1162 (by decide +kernel) (by decide +kernel)
theorem rd_Law_repair_0 : decode mb_Law_repair 0 = .ok (.aload_n 2, 1) := by decide +kernel
theorem rd_Law_repair_1 : decode mb_Law_repair 1 = .ok (.iconst 0, 1) := by decide +kernel
theorem rd_Law_repair_2 : decode mb_Law_repair 2 = .ok (.aload_n 0, 1) := by decide +kernel
theorem rd_Law_repair_3 : decode mb_Law_repair 3 = .ok (.iload_n 1, 1) := by decide +kernel
theorem tm_1171 : Jvm.Cond.methodLink "KnotReaderLaw" (118 : Nat) mn_KR_repair ∈ jk_WA := jk_tb 1171 (by decide +kernel) (by decide +kernel)
theorem tm_1172 : Jvm.Cond.instanceMethod mn_KR_repair ∈ jk_WA := jk_tb 1172 (by decide +kernel) (by decide +kernel)
theorem tm_1173 : Jvm.Cond.selects "KnotReader" mn_KR_repair mn_KR_repair ∈ jk_WA := jk_tb 1173 (by decide +kernel) (by decide +kernel)
theorem tm_1174 : Jvm.Cond.code mn_KR_repair prog_1_method_52_code (2 : Nat) (some .int) ∈ jk_WA := jk_tb 1174 (by decide +kernel) (by decide +kernel)
theorem rd_Law_repair_4 : decode mb_Law_repair 4 = .ok (.invokevirtual 118, 3) := by decide +kernel
theorem rd_Law_repair_7 : decode mb_Law_repair 7 = .ok (.i2l, 1) := by decide +kernel
theorem rd_Law_repair_8 : decode mb_Law_repair 8 = .ok (.lastore, 1) := by decide +kernel
theorem rd_Law_repair_9 : decode mb_Law_repair 9 = .ok (.goto 9, 3) := by decide +kernel
theorem rd_Law_repair_18 : decode mb_Law_repair 18 = .ok (.iconst 0, 1) := by decide +kernel
theorem rd_Law_repair_19 : decode mb_Law_repair 19 = .ok (.ireturn, 1) := by decide +kernel
theorem rd_Law_repair_12 : decode mb_Law_repair 12 = .ok (.astore_n 3, 1) := by decide +kernel
theorem rd_Law_repair_13 : decode mb_Law_repair 13 = .ok (.iconst 1, 1) := by decide +kernel
theorem rd_Law_repair_14 : decode mb_Law_repair 14 = .ok (.ireturn, 1) := by decide +kernel
theorem rd_Law_repair_15 : decode mb_Law_repair 15 = .ok (.astore_n 3, 1) := by decide +kernel
theorem rd_Law_repair_16 : decode mb_Law_repair 16 = .ok (.iconst 2, 1) := by decide +kernel
theorem rd_Law_repair_17 : decode mb_Law_repair 17 = .ok (.ireturn, 1) := by decide +kernel
theorem tm_1170 : Jvm.Cond.codeWith mn_Law_repair method_35_code (4 : Nat) (some .int) [((0 : Nat), (9 : Nat), (12 : Nat), (13 : Nat)), ((0 : Nat), (9 : Nat), (15 : Nat), (94 : Nat))] ∈ jk_WA := jk_tb 1170 (by decide +kernel) (by decide +kernel)
theorem tm_1169 : Jvm.Cond.static mn_Law_repair ∈ jk_WA := jk_tb 1169 (by decide +kernel) (by decide +kernel)
theorem rd_Law_undo_0 : decode mb_Law_undo 0 = .ok (.aload_n 1, 1) := by decide +kernel
theorem rd_Law_undo_1 : decode mb_Law_undo 1 = .ok (.iconst 0, 1) := by decide +kernel
theorem rd_Law_undo_2 : decode mb_Law_undo 2 = .ok (.aload_n 0, 1) := by decide +kernel
theorem tm_1178 : Jvm.Cond.methodLink "KnotReaderLaw" (121 : Nat) mn_KR_undo ∈ jk_WA := jk_tb 1178 (by decide +kernel) (by decide +kernel)
theorem tm_1179 : Jvm.Cond.instanceMethod mn_KR_undo ∈ jk_WA := jk_tb 1179 (by decide +kernel) (by decide +kernel)
theorem tm_1180 : Jvm.Cond.selects "KnotReader" mn_KR_undo mn_KR_undo ∈ jk_WA := jk_tb 1180 (by decide +kernel) (by decide +kernel)
theorem tm_1181 : Jvm.Cond.code mn_KR_undo prog_1_method_53_code (1 : Nat) (some .int) ∈ jk_WA := jk_tb 1181 (by decide +kernel) (by decide +kernel)
theorem rd_Law_undo_3 : decode mb_Law_undo 3 = .ok (.invokevirtual 121, 3) := by decide +kernel
theorem rd_Law_undo_6 : decode mb_Law_undo 6 = .ok (.i2l, 1) := by decide +kernel
theorem rd_Law_undo_7 : decode mb_Law_undo 7 = .ok (.lastore, 1) := by decide +kernel
theorem rd_Law_undo_8 : decode mb_Law_undo 8 = .ok (.goto 6, 3) := by decide +kernel
theorem rd_Law_undo_14 : decode mb_Law_undo 14 = .ok (.iconst 0, 1) := by decide +kernel
theorem rd_Law_undo_15 : decode mb_Law_undo 15 = .ok (.ireturn, 1) := by decide +kernel
theorem rd_Law_undo_11 : decode mb_Law_undo 11 = .ok (.astore_n 2, 1) := by decide +kernel
theorem rd_Law_undo_12 : decode mb_Law_undo 12 = .ok (.iconst 1, 1) := by decide +kernel
theorem rd_Law_undo_13 : decode mb_Law_undo 13 = .ok (.ireturn, 1) := by decide +kernel
theorem tm_1177 : Jvm.Cond.codeWith mn_Law_undo method_36_code (3 : Nat) (some .int) [((0 : Nat), (8 : Nat), (11 : Nat), (55 : Nat))] ∈ jk_WA := jk_tb 1177 (by decide +kernel) (by decide +kernel)
theorem tm_1176 : Jvm.Cond.static mn_Law_undo ∈ jk_WA := jk_tb 1176 (by decide +kernel) (by decide +kernel)
theorem rd_Law_writeCluster_0 : decode mb_Law_writeCluster 0 = .ok (.aload_n 2, 1) := by decide +kernel
theorem rd_Law_writeCluster_1 : decode mb_Law_writeCluster 1 = .ok (.iconst 0, 1) := by decide +kernel
theorem rd_Law_writeCluster_2 : decode mb_Law_writeCluster 2 = .ok (.aload_n 0, 1) := by decide +kernel
theorem rd_Law_writeCluster_3 : decode mb_Law_writeCluster 3 = .ok (.iload_n 1, 1) := by decide +kernel
theorem tm_1190 : Jvm.Cond.methodLink "KnotReaderLaw" (124 : Nat) mn_KR_writeCluster ∈ jk_WA := jk_tb 1190 (by decide +kernel) (by decide +kernel)
theorem tm_1191 : Jvm.Cond.instanceMethod mn_KR_writeCluster ∈ jk_WA := jk_tb 1191 (by decide +kernel) (by decide +kernel)
theorem tm_1192 : Jvm.Cond.selects "KnotReader" mn_KR_writeCluster mn_KR_writeCluster ∈ jk_WA := jk_tb 1192 (by decide +kernel) (by decide +kernel)
theorem tm_1193 : Jvm.Cond.code mn_KR_writeCluster prog_1_method_54_code (6 : Nat) (some .int) ∈ jk_WA := jk_tb 1193 (by decide +kernel) (by decide +kernel)
theorem rd_Law_writeCluster_4 : decode mb_Law_writeCluster 4 = .ok (.invokevirtual 124, 3) := by decide +kernel
theorem rd_Law_writeCluster_7 : decode mb_Law_writeCluster 7 = .ok (.i2l, 1) := by decide +kernel
theorem rd_Law_writeCluster_8 : decode mb_Law_writeCluster 8 = .ok (.lastore, 1) := by decide +kernel
theorem rd_Law_writeCluster_9 : decode mb_Law_writeCluster 9 = .ok (.goto 6, 3) := by decide +kernel
theorem rd_Law_writeCluster_15 : decode mb_Law_writeCluster 15 = .ok (.iconst 0, 1) := by decide +kernel
theorem rd_Law_writeCluster_16 : decode mb_Law_writeCluster 16 = .ok (.ireturn, 1) := by decide +kernel
theorem rd_Law_writeCluster_12 : decode mb_Law_writeCluster 12 = .ok (.astore_n 3, 1) := by decide +kernel
theorem rd_Law_writeCluster_13 : decode mb_Law_writeCluster 13 = .ok (.iconst 1, 1) := by decide +kernel
theorem rd_Law_writeCluster_14 : decode mb_Law_writeCluster 14 = .ok (.ireturn, 1) := by decide +kernel
theorem tm_1189 : Jvm.Cond.codeWith mn_Law_writeCluster method_37_code (4 : Nat) (some .int) [((0 : Nat), (9 : Nat), (12 : Nat), (13 : Nat))] ∈ jk_WA := jk_tb 1189 (by decide +kernel) (by decide +kernel)
theorem tm_1188 : Jvm.Cond.static mn_Law_writeCluster ∈ jk_WA := jk_tb 1188 (by decide +kernel) (by decide +kernel)
theorem rd_Law_restoreState_0 : decode mb_Law_restoreState 0 = .ok (.aload_n 1, 1) := by decide +kernel
theorem rd_Law_restoreState_1 : decode mb_Law_restoreState 1 = .ok (.iconst 0, 1) := by decide +kernel
theorem rd_Law_restoreState_2 : decode mb_Law_restoreState 2 = .ok (.aload_n 0, 1) := by decide +kernel
theorem tm_1217 : Jvm.Cond.methodLink "KnotReaderLaw" (127 : Nat) mn_KR_restoreState ∈ jk_WA := jk_tb 1217 (by decide +kernel) (by decide +kernel)
theorem tm_1218 : Jvm.Cond.instanceMethod mn_KR_restoreState ∈ jk_WA := jk_tb 1218 (by decide +kernel) (by decide +kernel)
theorem tm_1219 : Jvm.Cond.selects "KnotReader" mn_KR_restoreState mn_KR_restoreState ∈ jk_WA := jk_tb 1219 (by decide +kernel) (by decide +kernel)
theorem tm_1220 : Jvm.Cond.code mn_KR_restoreState prog_1_method_57_code (1 : Nat) (some .int) ∈ jk_WA := jk_tb 1220 (by decide +kernel) (by decide +kernel)
theorem rd_Law_restoreState_3 : decode mb_Law_restoreState 3 = .ok (.invokevirtual 127, 3) := by decide +kernel
theorem rd_Law_restoreState_6 : decode mb_Law_restoreState 6 = .ok (.i2l, 1) := by decide +kernel
theorem rd_Law_restoreState_7 : decode mb_Law_restoreState 7 = .ok (.lastore, 1) := by decide +kernel
theorem rd_Law_restoreState_8 : decode mb_Law_restoreState 8 = .ok (.goto 6, 3) := by decide +kernel
theorem rd_Law_restoreState_14 : decode mb_Law_restoreState 14 = .ok (.iconst 0, 1) := by decide +kernel
theorem rd_Law_restoreState_15 : decode mb_Law_restoreState 15 = .ok (.ireturn, 1) := by decide +kernel
theorem rd_Law_restoreState_11 : decode mb_Law_restoreState 11 = .ok (.astore_n 2, 1) := by decide +kernel
theorem rd_Law_restoreState_12 : decode mb_Law_restoreState 12 = .ok (.iconst 1, 1) := by decide +kernel
theorem rd_Law_restoreState_13 : decode mb_Law_restoreState 13 = .ok (.ireturn, 1) := by decide +kernel
theorem tm_1216 : Jvm.Cond.codeWith mn_Law_restoreState method_38_code (3 : Nat) (some .int) [((0 : Nat), (8 : Nat), (11 : Nat), (55 : Nat))] ∈ jk_WA := jk_tb 1216 (by decide +kernel) (by decide +kernel)
theorem tm_1215 : Jvm.Cond.static mn_Law_restoreState ∈ jk_WA := jk_tb 1215 (by decide +kernel) (by decide +kernel)
theorem fw_cast_1 : Cond.castable (jk_exc 1) (jk_exc 1) ∈ jk_fw := List.mem_filter.mpr ⟨List.mem_append_right _ (List.mem_of_getElem? (i := 798) (by decide +kernel)), by decide +kernel⟩
theorem fw_cast_2 : Cond.castable (jk_exc 2) (jk_exc 2) ∈ jk_fw := List.mem_filter.mpr ⟨List.mem_append_right _ (List.mem_of_getElem? (i := 956) (by decide +kernel)), by decide +kernel⟩
theorem fw_cast_3 : Cond.castable (jk_exc 3) (jk_exc 3) ∈ jk_fw := List.mem_filter.mpr ⟨List.mem_append_right _ (List.mem_of_getElem? (i := 1105) (by decide +kernel)), by decide +kernel⟩
theorem fw_cast_4 : Cond.castable (jk_exc 4) (jk_exc 4) ∈ jk_fw := List.mem_filter.mpr ⟨List.mem_append_right _ (List.mem_of_getElem? (i := 988) (by decide +kernel)), by decide +kernel⟩
set_option maxHeartbeats 4000000 in
set_option maxRecDepth 20000 in
theorem wr_topicByte (l : Launch) (D : va_G) (Z : (Nat → Prop) → State → Heap → Prop) (sq : Nat → Nat) (hZ : jk_ZK Z sq) (hNC : ∀ (A : Nat → Prop) (U : State) (H : Heap), Z A U H → ∀ x ∈ jk_ncs, va_Nc (jk_exc x.1) (jk_exc x.2) U) (cI cR cL : ClassId) {W Wf : va_W} (hN : W.length = 155) {ax : Nat} {fs : List Value} (hx : W[0]? = some (ax, .inr (10, fs))) (o : Nat) (f : Nat → Int64) (x1 : Int) (x2 : Int) (q : Nat ⊕ (Int × va_W)) (hM : jk_XI l D jk_cl (jk_ty cI cR) Z mn_KR_topicByte (.code mn_KR_topicByte mb_KR_topicByte 3 (some .int) :: jk_WA) (jk_rx 7 1 6 121) [.ref ax, jk_V x1, jk_V x2] W q 1 6) {t b : Int} (ho : jk_oc [1] q W Wf t b) (hf : Wf.map (·.1) = W.map (·.1)) : jk_ME l D jk_cl (jk_t3 cI cR cL) Z mn_Law_topicByte (.codeWith mn_Law_topicByte mb_Law_topicByte 5 (some .int) [(0, 10, 13, 13)] :: jk_WA) (jk_rx 8 1 6 143) [.ref ax, jk_V x1, jk_V x2, .ref o] (W ++ [(o, .inl (cL, 1, .inr (.inl f)))]) (Wf ++ [(o, .inl (cL, 1, .inr (.inl (jk_oz q f))))]) t 1 6 := by
  intro sz
  refine jk_hbody (by decide +kernel) (fun p e s m args below meth c hsz hz htb C => ?_) (Nat.le_of_ble_eq_true rfl)
  subst hsz
  have C2 := jk_Csub C [0, 1] rfl (tys' := jk_ty cI cR)
  refine jk_aload_n C rd_Law_topicByte_0 (k := 3) rfl ?_
  refine jk_iconst C rd_Law_topicByte_1 ?_
  refine jk_aload_n C rd_Law_topicByte_2 (k := 0) rfl ?_
  refine jk_iload_n C rd_Law_topicByte_3 (k := 1) rfl ?_
  refine jk_iload_n C rd_Law_topicByte_4 (k := 2) rfl ?_
  refine jk_tryX C2 hZ.1 hz hM tm_788 tm_789 tm_790 tm_1 tm_791 na_KR_topicByte ⟨Nat.le_of_ble_eq_true rfl, Nat.le_of_ble_eq_true rfl⟩ rfl (List.range 155) (lw_pl hN) (by decide +kernel) (lw_put hN hN) 0 10 (lw_hd hN hx _) rfl rfl (st := [jk_V 0, .ref o]) rfl (Nat.le_of_ble_eq_true rfl) rd_Law_topicByte_5 ⟨Nat.le_of_ble_eq_true rfl, Nat.le_of_ble_eq_true rfl⟩ (fun z h => ?_) (fun z h => ?_) (fun k H1 locs1 ls q9 ce h hl hP hD hS hce hv hcl => ?_)
  · subst h
    obtain ⟨-, -, h3⟩ := ho
    rw [h3]
    exact hf
  · subst h
    obtain ⟨h1, h2, h3⟩ := ho
    subst h1; subst h2; subst h3
    rw [lw_put hN (lw_len hN hf)]
    refine jk_i2l C rd_Law_topicByte_8 ?_
    refine jk_last C 155 2 (lw_at (lw_len hN hf) _) rfl rd_Law_topicByte_9 (lw_set (lw_len hN hf) _ _) ?_
    refine jk_goto (tgt := 17) C rd_Law_topicByte_10 (by decide) ?_
    refine jk_iconst C rd_Law_topicByte_17 ?_
    exact jk_eret C rfl rd_Law_topicByte_18 rfl (Nat.le_of_ble_eq_true rfl) (Nat.le_of_ble_eq_true rfl)
  · subst h
    obtain ⟨j, h1, h2, h3⟩ := ho
    subst h3
    have hj : j < 1 := (List.getElem?_eq_some_iff.mp h1).1
    rcases (show j = 0 by omega) with rfl
    · cases h1
      subst h2
      refine jk_catch C (k := 1) (tgt := 13) [] ⟨0, 10, 13, 13⟩ [] (htb.trans rfl) (fun z hz2 => absurd hz2 List.not_mem_nil) (by decide) (by decide) rfl tm_787 (va_Nw.use rfl ((hZ.2.2 _ _ _ hz).2.2.2.2.2.2 _ fw_cast_1)) hl hP hD hS hce hv hcl ?_
      refine jk_astore C rd_Law_topicByte_13 (by decide) (lv' := [(4, .ref q9), (0, .ref ax), (1, jk_V x1), (2, jk_V x2), (3, .ref o)]) rfl ?_
      refine jk_iconst C rd_Law_topicByte_15 ?_
      exact jk_eret C rfl rd_Law_topicByte_16 rfl (Nat.le_of_ble_eq_true rfl) (Nat.le_of_ble_eq_true rfl)

set_option maxHeartbeats 4000000 in
set_option maxRecDepth 20000 in
theorem wr_clusterOf (l : Launch) (D : va_G) (Z : (Nat → Prop) → State → Heap → Prop) (sq : Nat → Nat) (hZ : jk_ZK Z sq) (hNC : ∀ (A : Nat → Prop) (U : State) (H : Heap), Z A U H → ∀ x ∈ jk_ncs, va_Nc (jk_exc x.1) (jk_exc x.2) U) (cI cR cL : ClassId) {W Wf : va_W} (hN : W.length = 155) {ax : Nat} {fs : List Value} (hx : W[0]? = some (ax, .inr (10, fs))) (o : Nat) (f : Nat → Int64) (x1 : Int) (q : Nat ⊕ (Int × va_W)) (hM : jk_XI l D jk_cl (jk_ty cI cR) Z mn_KR_clusterOf (.code mn_KR_clusterOf mb_KR_clusterOf 2 (some .int) :: jk_WA) (jk_rx 7 1 6 121) [.ref ax, jk_V x1] W q 1 6) {t b : Int} (ho : jk_oc [1] q W Wf t b) (hf : Wf.map (·.1) = W.map (·.1)) : jk_ME l D jk_cl (jk_t3 cI cR cL) Z mn_Law_clusterOf (.codeWith mn_Law_clusterOf mb_Law_clusterOf 4 (some .int) [(0, 9, 12, 13)] :: jk_WA) (jk_rx 8 1 6 142) [.ref ax, jk_V x1, .ref o] (W ++ [(o, .inl (cL, 1, .inr (.inl f)))]) (Wf ++ [(o, .inl (cL, 1, .inr (.inl (jk_oz q f))))]) t 1 6 := by
  intro sz
  refine jk_hbody (by decide +kernel) (fun p e s m args below meth c hsz hz htb C => ?_) (Nat.le_of_ble_eq_true rfl)
  subst hsz
  have C2 := jk_Csub C [0, 1] rfl (tys' := jk_ty cI cR)
  refine jk_aload_n C rd_Law_clusterOf_0 (k := 2) rfl ?_
  refine jk_iconst C rd_Law_clusterOf_1 ?_
  refine jk_aload_n C rd_Law_clusterOf_2 (k := 0) rfl ?_
  refine jk_iload_n C rd_Law_clusterOf_3 (k := 1) rfl ?_
  refine jk_tryX C2 hZ.1 hz hM tm_871 tm_872 tm_873 tm_1 tm_874 na_KR_clusterOf ⟨Nat.le_of_ble_eq_true rfl, Nat.le_of_ble_eq_true rfl⟩ rfl (List.range 155) (lw_pl hN) (by decide +kernel) (lw_put hN hN) 0 10 (lw_hd hN hx _) rfl rfl (st := [jk_V 0, .ref o]) rfl (Nat.le_of_ble_eq_true rfl) rd_Law_clusterOf_4 ⟨Nat.le_of_ble_eq_true rfl, Nat.le_of_ble_eq_true rfl⟩ (fun z h => ?_) (fun z h => ?_) (fun k H1 locs1 ls q9 ce h hl hP hD hS hce hv hcl => ?_)
  · subst h
    obtain ⟨-, -, h3⟩ := ho
    rw [h3]
    exact hf
  · subst h
    obtain ⟨h1, h2, h3⟩ := ho
    subst h1; subst h2; subst h3
    rw [lw_put hN (lw_len hN hf)]
    refine jk_i2l C rd_Law_clusterOf_7 ?_
    refine jk_last C 155 2 (lw_at (lw_len hN hf) _) rfl rd_Law_clusterOf_8 (lw_set (lw_len hN hf) _ _) ?_
    refine jk_goto (tgt := 15) C rd_Law_clusterOf_9 (by decide) ?_
    refine jk_iconst C rd_Law_clusterOf_15 ?_
    exact jk_eret C rfl rd_Law_clusterOf_16 rfl (Nat.le_of_ble_eq_true rfl) (Nat.le_of_ble_eq_true rfl)
  · subst h
    obtain ⟨j, h1, h2, h3⟩ := ho
    subst h3
    have hj : j < 1 := (List.getElem?_eq_some_iff.mp h1).1
    rcases (show j = 0 by omega) with rfl
    · cases h1
      subst h2
      refine jk_catch C (k := 1) (tgt := 12) [] ⟨0, 9, 12, 13⟩ [] (htb.trans rfl) (fun z hz2 => absurd hz2 List.not_mem_nil) (by decide) (by decide) rfl tm_787 (va_Nw.use rfl ((hZ.2.2 _ _ _ hz).2.2.2.2.2.2 _ fw_cast_1)) hl hP hD hS hce hv hcl ?_
      refine jk_astore_n C rd_Law_clusterOf_12 (by decide) (lv' := [(3, .ref q9), (0, .ref ax), (1, jk_V x1), (2, .ref o)]) rfl ?_
      refine jk_iconst C rd_Law_clusterOf_13 ?_
      exact jk_eret C rfl rd_Law_clusterOf_14 rfl (Nat.le_of_ble_eq_true rfl) (Nat.le_of_ble_eq_true rfl)

set_option maxHeartbeats 4000000 in
set_option maxRecDepth 20000 in
theorem wr_depthOf (l : Launch) (D : va_G) (Z : (Nat → Prop) → State → Heap → Prop) (sq : Nat → Nat) (hZ : jk_ZK Z sq) (hNC : ∀ (A : Nat → Prop) (U : State) (H : Heap), Z A U H → ∀ x ∈ jk_ncs, va_Nc (jk_exc x.1) (jk_exc x.2) U) (cI cR cL : ClassId) {W Wf : va_W} (hN : W.length = 155) {ax : Nat} {fs : List Value} (hx : W[0]? = some (ax, .inr (10, fs))) (o : Nat) (f : Nat → Int64) (x1 : Int) (q : Nat ⊕ (Int × va_W)) (hM : jk_XI l D jk_cl (jk_ty cI cR) Z mn_KR_depthOf (.code mn_KR_depthOf mb_KR_depthOf 2 (some .int) :: jk_WA) (jk_rx 7 1 6 121) [.ref ax, jk_V x1] W q 1 6) {t b : Int} (ho : jk_oc [1] q W Wf t b) (hf : Wf.map (·.1) = W.map (·.1)) : jk_ME l D jk_cl (jk_t3 cI cR cL) Z mn_Law_depthOf (.codeWith mn_Law_depthOf mb_Law_depthOf 4 (some .int) [(0, 9, 12, 13)] :: jk_WA) (jk_rx 8 1 6 142) [.ref ax, jk_V x1, .ref o] (W ++ [(o, .inl (cL, 1, .inr (.inl f)))]) (Wf ++ [(o, .inl (cL, 1, .inr (.inl (jk_oz q f))))]) t 1 6 := by
  intro sz
  refine jk_hbody (by decide +kernel) (fun p e s m args below meth c hsz hz htb C => ?_) (Nat.le_of_ble_eq_true rfl)
  subst hsz
  have C2 := jk_Csub C [0, 1] rfl (tys' := jk_ty cI cR)
  refine jk_aload_n C rd_Law_depthOf_0 (k := 2) rfl ?_
  refine jk_iconst C rd_Law_depthOf_1 ?_
  refine jk_aload_n C rd_Law_depthOf_2 (k := 0) rfl ?_
  refine jk_iload_n C rd_Law_depthOf_3 (k := 1) rfl ?_
  refine jk_tryX C2 hZ.1 hz hM tm_883 tm_884 tm_885 tm_1 tm_886 na_KR_depthOf ⟨Nat.le_of_ble_eq_true rfl, Nat.le_of_ble_eq_true rfl⟩ rfl (List.range 155) (lw_pl hN) (by decide +kernel) (lw_put hN hN) 0 10 (lw_hd hN hx _) rfl rfl (st := [jk_V 0, .ref o]) rfl (Nat.le_of_ble_eq_true rfl) rd_Law_depthOf_4 ⟨Nat.le_of_ble_eq_true rfl, Nat.le_of_ble_eq_true rfl⟩ (fun z h => ?_) (fun z h => ?_) (fun k H1 locs1 ls q9 ce h hl hP hD hS hce hv hcl => ?_)
  · subst h
    obtain ⟨-, -, h3⟩ := ho
    rw [h3]
    exact hf
  · subst h
    obtain ⟨h1, h2, h3⟩ := ho
    subst h1; subst h2; subst h3
    rw [lw_put hN (lw_len hN hf)]
    refine jk_i2l C rd_Law_depthOf_7 ?_
    refine jk_last C 155 2 (lw_at (lw_len hN hf) _) rfl rd_Law_depthOf_8 (lw_set (lw_len hN hf) _ _) ?_
    refine jk_goto (tgt := 15) C rd_Law_depthOf_9 (by decide) ?_
    refine jk_iconst C rd_Law_depthOf_15 ?_
    exact jk_eret C rfl rd_Law_depthOf_16 rfl (Nat.le_of_ble_eq_true rfl) (Nat.le_of_ble_eq_true rfl)
  · subst h
    obtain ⟨j, h1, h2, h3⟩ := ho
    subst h3
    have hj : j < 1 := (List.getElem?_eq_some_iff.mp h1).1
    rcases (show j = 0 by omega) with rfl
    · cases h1
      subst h2
      refine jk_catch C (k := 1) (tgt := 12) [] ⟨0, 9, 12, 13⟩ [] (htb.trans rfl) (fun z hz2 => absurd hz2 List.not_mem_nil) (by decide) (by decide) rfl tm_787 (va_Nw.use rfl ((hZ.2.2 _ _ _ hz).2.2.2.2.2.2 _ fw_cast_1)) hl hP hD hS hce hv hcl ?_
      refine jk_astore_n C rd_Law_depthOf_12 (by decide) (lv' := [(3, .ref q9), (0, .ref ax), (1, jk_V x1), (2, .ref o)]) rfl ?_
      refine jk_iconst C rd_Law_depthOf_13 ?_
      exact jk_eret C rfl rd_Law_depthOf_14 rfl (Nat.le_of_ble_eq_true rfl) (Nat.le_of_ble_eq_true rfl)

set_option maxHeartbeats 4000000 in
set_option maxRecDepth 20000 in
theorem wr_parentOf (l : Launch) (D : va_G) (Z : (Nat → Prop) → State → Heap → Prop) (sq : Nat → Nat) (hZ : jk_ZK Z sq) (hNC : ∀ (A : Nat → Prop) (U : State) (H : Heap), Z A U H → ∀ x ∈ jk_ncs, va_Nc (jk_exc x.1) (jk_exc x.2) U) (cI cR cL : ClassId) {W Wf : va_W} (hN : W.length = 155) {ax : Nat} {fs : List Value} (hx : W[0]? = some (ax, .inr (10, fs))) (o : Nat) (f : Nat → Int64) (x1 : Int) (q : Nat ⊕ (Int × va_W)) (hM : jk_XI l D jk_cl (jk_ty cI cR) Z mn_KR_parentOf (.code mn_KR_parentOf mb_KR_parentOf 2 (some .int) :: jk_WA) (jk_rx 7 1 6 121) [.ref ax, jk_V x1] W q 1 6) {t b : Int} (ho : jk_oc [1] q W Wf t b) (hf : Wf.map (·.1) = W.map (·.1)) : jk_ME l D jk_cl (jk_t3 cI cR cL) Z mn_Law_parentOf (.codeWith mn_Law_parentOf mb_Law_parentOf 4 (some .int) [(0, 9, 12, 13)] :: jk_WA) (jk_rx 8 1 6 142) [.ref ax, jk_V x1, .ref o] (W ++ [(o, .inl (cL, 1, .inr (.inl f)))]) (Wf ++ [(o, .inl (cL, 1, .inr (.inl (jk_oz q f))))]) t 1 6 := by
  intro sz
  refine jk_hbody (by decide +kernel) (fun p e s m args below meth c hsz hz htb C => ?_) (Nat.le_of_ble_eq_true rfl)
  subst hsz
  have C2 := jk_Csub C [0, 1] rfl (tys' := jk_ty cI cR)
  refine jk_aload_n C rd_Law_parentOf_0 (k := 2) rfl ?_
  refine jk_iconst C rd_Law_parentOf_1 ?_
  refine jk_aload_n C rd_Law_parentOf_2 (k := 0) rfl ?_
  refine jk_iload_n C rd_Law_parentOf_3 (k := 1) rfl ?_
  refine jk_tryX C2 hZ.1 hz hM tm_890 tm_891 tm_892 tm_1 tm_893 na_KR_parentOf ⟨Nat.le_of_ble_eq_true rfl, Nat.le_of_ble_eq_true rfl⟩ rfl (List.range 155) (lw_pl hN) (by decide +kernel) (lw_put hN hN) 0 10 (lw_hd hN hx _) rfl rfl (st := [jk_V 0, .ref o]) rfl (Nat.le_of_ble_eq_true rfl) rd_Law_parentOf_4 ⟨Nat.le_of_ble_eq_true rfl, Nat.le_of_ble_eq_true rfl⟩ (fun z h => ?_) (fun z h => ?_) (fun k H1 locs1 ls q9 ce h hl hP hD hS hce hv hcl => ?_)
  · subst h
    obtain ⟨-, -, h3⟩ := ho
    rw [h3]
    exact hf
  · subst h
    obtain ⟨h1, h2, h3⟩ := ho
    subst h1; subst h2; subst h3
    rw [lw_put hN (lw_len hN hf)]
    refine jk_i2l C rd_Law_parentOf_7 ?_
    refine jk_last C 155 2 (lw_at (lw_len hN hf) _) rfl rd_Law_parentOf_8 (lw_set (lw_len hN hf) _ _) ?_
    refine jk_goto (tgt := 15) C rd_Law_parentOf_9 (by decide) ?_
    refine jk_iconst C rd_Law_parentOf_15 ?_
    exact jk_eret C rfl rd_Law_parentOf_16 rfl (Nat.le_of_ble_eq_true rfl) (Nat.le_of_ble_eq_true rfl)
  · subst h
    obtain ⟨j, h1, h2, h3⟩ := ho
    subst h3
    have hj : j < 1 := (List.getElem?_eq_some_iff.mp h1).1
    rcases (show j = 0 by omega) with rfl
    · cases h1
      subst h2
      refine jk_catch C (k := 1) (tgt := 12) [] ⟨0, 9, 12, 13⟩ [] (htb.trans rfl) (fun z hz2 => absurd hz2 List.not_mem_nil) (by decide) (by decide) rfl tm_787 (va_Nw.use rfl ((hZ.2.2 _ _ _ hz).2.2.2.2.2.2 _ fw_cast_1)) hl hP hD hS hce hv hcl ?_
      refine jk_astore_n C rd_Law_parentOf_12 (by decide) (lv' := [(3, .ref q9), (0, .ref ax), (1, jk_V x1), (2, .ref o)]) rfl ?_
      refine jk_iconst C rd_Law_parentOf_13 ?_
      exact jk_eret C rfl rd_Law_parentOf_14 rfl (Nat.le_of_ble_eq_true rfl) (Nat.le_of_ble_eq_true rfl)

set_option maxHeartbeats 4000000 in
set_option maxRecDepth 20000 in
theorem wr_topicOf (l : Launch) (D : va_G) (Z : (Nat → Prop) → State → Heap → Prop) (sq : Nat → Nat) (hZ : jk_ZK Z sq) (hNC : ∀ (A : Nat → Prop) (U : State) (H : Heap), Z A U H → ∀ x ∈ jk_ncs, va_Nc (jk_exc x.1) (jk_exc x.2) U) (cI cR cL : ClassId) {W Wf : va_W} (hN : W.length = 155) {ax : Nat} {fs : List Value} (hx : W[0]? = some (ax, .inr (10, fs))) (o : Nat) (f : Nat → Int64) (x1 : Int) (q : Nat ⊕ (Int × va_W)) (hM : jk_XI l D jk_cl (jk_ty cI cR) Z mn_KR_topicOf (.code mn_KR_topicOf mb_KR_topicOf 2 (some .int) :: jk_WA) (jk_rx 7 1 6 121) [.ref ax, jk_V x1] W q 1 6) {t b : Int} (ho : jk_oc [1] q W Wf t b) (hf : Wf.map (·.1) = W.map (·.1)) : jk_ME l D jk_cl (jk_t3 cI cR cL) Z mn_Law_topicOf (.codeWith mn_Law_topicOf mb_Law_topicOf 4 (some .int) [(0, 9, 12, 13)] :: jk_WA) (jk_rx 8 1 6 142) [.ref ax, jk_V x1, .ref o] (W ++ [(o, .inl (cL, 1, .inr (.inl f)))]) (Wf ++ [(o, .inl (cL, 1, .inr (.inl (jk_oz q f))))]) t 1 6 := by
  intro sz
  refine jk_hbody (by decide +kernel) (fun p e s m args below meth c hsz hz htb C => ?_) (Nat.le_of_ble_eq_true rfl)
  subst hsz
  have C2 := jk_Csub C [0, 1] rfl (tys' := jk_ty cI cR)
  refine jk_aload_n C rd_Law_topicOf_0 (k := 2) rfl ?_
  refine jk_iconst C rd_Law_topicOf_1 ?_
  refine jk_aload_n C rd_Law_topicOf_2 (k := 0) rfl ?_
  refine jk_iload_n C rd_Law_topicOf_3 (k := 1) rfl ?_
  refine jk_tryX C2 hZ.1 hz hM tm_902 tm_903 tm_904 tm_1 tm_905 na_KR_topicOf ⟨Nat.le_of_ble_eq_true rfl, Nat.le_of_ble_eq_true rfl⟩ rfl (List.range 155) (lw_pl hN) (by decide +kernel) (lw_put hN hN) 0 10 (lw_hd hN hx _) rfl rfl (st := [jk_V 0, .ref o]) rfl (Nat.le_of_ble_eq_true rfl) rd_Law_topicOf_4 ⟨Nat.le_of_ble_eq_true rfl, Nat.le_of_ble_eq_true rfl⟩ (fun z h => ?_) (fun z h => ?_) (fun k H1 locs1 ls q9 ce h hl hP hD hS hce hv hcl => ?_)
  · subst h
    obtain ⟨-, -, h3⟩ := ho
    rw [h3]
    exact hf
  · subst h
    obtain ⟨h1, h2, h3⟩ := ho
    subst h1; subst h2; subst h3
    rw [lw_put hN (lw_len hN hf)]
    refine jk_i2l C rd_Law_topicOf_7 ?_
    refine jk_last C 155 2 (lw_at (lw_len hN hf) _) rfl rd_Law_topicOf_8 (lw_set (lw_len hN hf) _ _) ?_
    refine jk_goto (tgt := 15) C rd_Law_topicOf_9 (by decide) ?_
    refine jk_iconst C rd_Law_topicOf_15 ?_
    exact jk_eret C rfl rd_Law_topicOf_16 rfl (Nat.le_of_ble_eq_true rfl) (Nat.le_of_ble_eq_true rfl)
  · subst h
    obtain ⟨j, h1, h2, h3⟩ := ho
    subst h3
    have hj : j < 1 := (List.getElem?_eq_some_iff.mp h1).1
    rcases (show j = 0 by omega) with rfl
    · cases h1
      subst h2
      refine jk_catch C (k := 1) (tgt := 12) [] ⟨0, 9, 12, 13⟩ [] (htb.trans rfl) (fun z hz2 => absurd hz2 List.not_mem_nil) (by decide) (by decide) rfl tm_787 (va_Nw.use rfl ((hZ.2.2 _ _ _ hz).2.2.2.2.2.2 _ fw_cast_1)) hl hP hD hS hce hv hcl ?_
      refine jk_astore_n C rd_Law_topicOf_12 (by decide) (lv' := [(3, .ref q9), (0, .ref ax), (1, jk_V x1), (2, .ref o)]) rfl ?_
      refine jk_iconst C rd_Law_topicOf_13 ?_
      exact jk_eret C rfl rd_Law_topicOf_14 rfl (Nat.le_of_ble_eq_true rfl) (Nat.le_of_ble_eq_true rfl)

set_option maxHeartbeats 4000000 in
set_option maxRecDepth 20000 in
theorem wr_subsidiariesOf (l : Launch) (D : va_G) (Z : (Nat → Prop) → State → Heap → Prop) (sq : Nat → Nat) (hZ : jk_ZK Z sq) (hNC : ∀ (A : Nat → Prop) (U : State) (H : Heap), Z A U H → ∀ x ∈ jk_ncs, va_Nc (jk_exc x.1) (jk_exc x.2) U) (cI cR cL : ClassId) {W Wf : va_W} (hN : W.length = 155) {ax : Nat} {fs : List Value} (hx : W[0]? = some (ax, .inr (10, fs))) (o : Nat) (f : Nat → Int64) (x1 : Int) (q : Nat ⊕ (Int × va_W)) (hM : jk_XI l D jk_cl (jk_ty cI cR) Z mn_KR_subsidiariesOf (.code mn_KR_subsidiariesOf mb_KR_subsidiariesOf 2 (some .int) :: jk_WA) (jk_rx 7 1 6 121) [.ref ax, jk_V x1] W q 1 6) {t b : Int} (ho : jk_oc [1] q W Wf t b) (hf : Wf.map (·.1) = W.map (·.1)) : jk_ME l D jk_cl (jk_t3 cI cR cL) Z mn_Law_subsidiariesOf (.codeWith mn_Law_subsidiariesOf mb_Law_subsidiariesOf 4 (some .int) [(0, 9, 12, 13)] :: jk_WA) (jk_rx 8 1 6 142) [.ref ax, jk_V x1, .ref o] (W ++ [(o, .inl (cL, 1, .inr (.inl f)))]) (Wf ++ [(o, .inl (cL, 1, .inr (.inl (jk_oz q f))))]) t 1 6 := by
  intro sz
  refine jk_hbody (by decide +kernel) (fun p e s m args below meth c hsz hz htb C => ?_) (Nat.le_of_ble_eq_true rfl)
  subst hsz
  have C2 := jk_Csub C [0, 1] rfl (tys' := jk_ty cI cR)
  refine jk_aload_n C rd_Law_subsidiariesOf_0 (k := 2) rfl ?_
  refine jk_iconst C rd_Law_subsidiariesOf_1 ?_
  refine jk_aload_n C rd_Law_subsidiariesOf_2 (k := 0) rfl ?_
  refine jk_iload_n C rd_Law_subsidiariesOf_3 (k := 1) rfl ?_
  refine jk_tryX C2 hZ.1 hz hM tm_909 tm_910 tm_911 tm_1 tm_912 na_KR_subsidiariesOf ⟨Nat.le_of_ble_eq_true rfl, Nat.le_of_ble_eq_true rfl⟩ rfl (List.range 155) (lw_pl hN) (by decide +kernel) (lw_put hN hN) 0 10 (lw_hd hN hx _) rfl rfl (st := [jk_V 0, .ref o]) rfl (Nat.le_of_ble_eq_true rfl) rd_Law_subsidiariesOf_4 ⟨Nat.le_of_ble_eq_true rfl, Nat.le_of_ble_eq_true rfl⟩ (fun z h => ?_) (fun z h => ?_) (fun k H1 locs1 ls q9 ce h hl hP hD hS hce hv hcl => ?_)
  · subst h
    obtain ⟨-, -, h3⟩ := ho
    rw [h3]
    exact hf
  · subst h
    obtain ⟨h1, h2, h3⟩ := ho
    subst h1; subst h2; subst h3
    rw [lw_put hN (lw_len hN hf)]
    refine jk_i2l C rd_Law_subsidiariesOf_7 ?_
    refine jk_last C 155 2 (lw_at (lw_len hN hf) _) rfl rd_Law_subsidiariesOf_8 (lw_set (lw_len hN hf) _ _) ?_
    refine jk_goto (tgt := 15) C rd_Law_subsidiariesOf_9 (by decide) ?_
    refine jk_iconst C rd_Law_subsidiariesOf_15 ?_
    exact jk_eret C rfl rd_Law_subsidiariesOf_16 rfl (Nat.le_of_ble_eq_true rfl) (Nat.le_of_ble_eq_true rfl)
  · subst h
    obtain ⟨j, h1, h2, h3⟩ := ho
    subst h3
    have hj : j < 1 := (List.getElem?_eq_some_iff.mp h1).1
    rcases (show j = 0 by omega) with rfl
    · cases h1
      subst h2
      refine jk_catch C (k := 1) (tgt := 12) [] ⟨0, 9, 12, 13⟩ [] (htb.trans rfl) (fun z hz2 => absurd hz2 List.not_mem_nil) (by decide) (by decide) rfl tm_787 (va_Nw.use rfl ((hZ.2.2 _ _ _ hz).2.2.2.2.2.2 _ fw_cast_1)) hl hP hD hS hce hv hcl ?_
      refine jk_astore_n C rd_Law_subsidiariesOf_12 (by decide) (lv' := [(3, .ref q9), (0, .ref ax), (1, jk_V x1), (2, .ref o)]) rfl ?_
      refine jk_iconst C rd_Law_subsidiariesOf_13 ?_
      exact jk_eret C rfl rd_Law_subsidiariesOf_14 rfl (Nat.le_of_ble_eq_true rfl) (Nat.le_of_ble_eq_true rfl)

set_option maxHeartbeats 4000000 in
set_option maxRecDepth 20000 in
theorem wr_nibbledPlaces (l : Launch) (D : va_G) (Z : (Nat → Prop) → State → Heap → Prop) (sq : Nat → Nat) (hZ : jk_ZK Z sq) (hNC : ∀ (A : Nat → Prop) (U : State) (H : Heap), Z A U H → ∀ x ∈ jk_ncs, va_Nc (jk_exc x.1) (jk_exc x.2) U) (cI cR cL : ClassId) {W Wf : va_W} (hN : W.length = 155) {ax : Nat} {fs : List Value} (hx : W[0]? = some (ax, .inr (10, fs))) (o : Nat) (f : Nat → Int64) (x1 : Int) (q : Nat ⊕ (Int × va_W)) (hM : jk_XI l D jk_cl (jk_ty cI cR) Z mn_KR_nibbledPlaces (.code mn_KR_nibbledPlaces mb_KR_nibbledPlaces 2 (some .int) :: jk_WA) (jk_rx 7 1 6 121) [.ref ax, jk_V x1] W q 1 6) {t b : Int} (ho : jk_oc [1] q W Wf t b) (hf : Wf.map (·.1) = W.map (·.1)) : jk_ME l D jk_cl (jk_t3 cI cR cL) Z mn_Law_nibbledPlaces (.codeWith mn_Law_nibbledPlaces mb_Law_nibbledPlaces 4 (some .int) [(0, 9, 12, 13)] :: jk_WA) (jk_rx 8 1 6 142) [.ref ax, jk_V x1, .ref o] (W ++ [(o, .inl (cL, 1, .inr (.inl f)))]) (Wf ++ [(o, .inl (cL, 1, .inr (.inl (jk_oz q f))))]) t 1 6 := by
  intro sz
  refine jk_hbody (by decide +kernel) (fun p e s m args below meth c hsz hz htb C => ?_) (Nat.le_of_ble_eq_true rfl)
  subst hsz
  have C2 := jk_Csub C [0, 1] rfl (tys' := jk_ty cI cR)
  refine jk_aload_n C rd_Law_nibbledPlaces_0 (k := 2) rfl ?_
  refine jk_iconst C rd_Law_nibbledPlaces_1 ?_
  refine jk_aload_n C rd_Law_nibbledPlaces_2 (k := 0) rfl ?_
  refine jk_iload_n C rd_Law_nibbledPlaces_3 (k := 1) rfl ?_
  refine jk_tryX C2 hZ.1 hz hM tm_920 tm_921 tm_922 tm_1 tm_923 na_KR_nibbledPlaces ⟨Nat.le_of_ble_eq_true rfl, Nat.le_of_ble_eq_true rfl⟩ rfl (List.range 155) (lw_pl hN) (by decide +kernel) (lw_put hN hN) 0 10 (lw_hd hN hx _) rfl rfl (st := [jk_V 0, .ref o]) rfl (Nat.le_of_ble_eq_true rfl) rd_Law_nibbledPlaces_4 ⟨Nat.le_of_ble_eq_true rfl, Nat.le_of_ble_eq_true rfl⟩ (fun z h => ?_) (fun z h => ?_) (fun k H1 locs1 ls q9 ce h hl hP hD hS hce hv hcl => ?_)
  · subst h
    obtain ⟨-, -, h3⟩ := ho
    rw [h3]
    exact hf
  · subst h
    obtain ⟨h1, h2, h3⟩ := ho
    subst h1; subst h2; subst h3
    rw [lw_put hN (lw_len hN hf)]
    refine jk_i2l C rd_Law_nibbledPlaces_7 ?_
    refine jk_last C 155 2 (lw_at (lw_len hN hf) _) rfl rd_Law_nibbledPlaces_8 (lw_set (lw_len hN hf) _ _) ?_
    refine jk_goto (tgt := 15) C rd_Law_nibbledPlaces_9 (by decide) ?_
    refine jk_iconst C rd_Law_nibbledPlaces_15 ?_
    exact jk_eret C rfl rd_Law_nibbledPlaces_16 rfl (Nat.le_of_ble_eq_true rfl) (Nat.le_of_ble_eq_true rfl)
  · subst h
    obtain ⟨j, h1, h2, h3⟩ := ho
    subst h3
    have hj : j < 1 := (List.getElem?_eq_some_iff.mp h1).1
    rcases (show j = 0 by omega) with rfl
    · cases h1
      subst h2
      refine jk_catch C (k := 1) (tgt := 12) [] ⟨0, 9, 12, 13⟩ [] (htb.trans rfl) (fun z hz2 => absurd hz2 List.not_mem_nil) (by decide) (by decide) rfl tm_787 (va_Nw.use rfl ((hZ.2.2 _ _ _ hz).2.2.2.2.2.2 _ fw_cast_1)) hl hP hD hS hce hv hcl ?_
      refine jk_astore_n C rd_Law_nibbledPlaces_12 (by decide) (lv' := [(3, .ref q9), (0, .ref ax), (1, jk_V x1), (2, .ref o)]) rfl ?_
      refine jk_iconst C rd_Law_nibbledPlaces_13 ?_
      exact jk_eret C rfl rd_Law_nibbledPlaces_14 rfl (Nat.le_of_ble_eq_true rfl) (Nat.le_of_ble_eq_true rfl)

set_option maxHeartbeats 4000000 in
set_option maxRecDepth 20000 in
theorem wr_knownValue (l : Launch) (D : va_G) (Z : (Nat → Prop) → State → Heap → Prop) (sq : Nat → Nat) (hZ : jk_ZK Z sq) (hNC : ∀ (A : Nat → Prop) (U : State) (H : Heap), Z A U H → ∀ x ∈ jk_ncs, va_Nc (jk_exc x.1) (jk_exc x.2) U) (cI cR cL : ClassId) {W Wf : va_W} (hN : W.length = 155) {ax : Nat} {fs : List Value} (hx : W[0]? = some (ax, .inr (10, fs))) (o : Nat) (f : Nat → Int64) (x1 : Int) (q : Nat ⊕ (Int × va_W)) (hM : jk_XI l D jk_cl (jk_ty cI cR) Z mn_KR_knownValue (.code mn_KR_knownValue mb_KR_knownValue 2 (some .int) :: jk_WA) (jk_rx 7 1 6 121) [.ref ax, jk_V x1] W q 1 6) {t b : Int} (ho : jk_oc [1] q W Wf t b) (hf : Wf.map (·.1) = W.map (·.1)) : jk_ME l D jk_cl (jk_t3 cI cR cL) Z mn_Law_knownValue (.codeWith mn_Law_knownValue mb_Law_knownValue 4 (some .int) [(0, 9, 12, 13)] :: jk_WA) (jk_rx 8 1 6 142) [.ref ax, jk_V x1, .ref o] (W ++ [(o, .inl (cL, 1, .inr (.inl f)))]) (Wf ++ [(o, .inl (cL, 1, .inr (.inl (jk_oz q f))))]) t 1 6 := by
  intro sz
  refine jk_hbody (by decide +kernel) (fun p e s m args below meth c hsz hz htb C => ?_) (Nat.le_of_ble_eq_true rfl)
  subst hsz
  have C2 := jk_Csub C [0, 1] rfl (tys' := jk_ty cI cR)
  refine jk_aload_n C rd_Law_knownValue_0 (k := 2) rfl ?_
  refine jk_iconst C rd_Law_knownValue_1 ?_
  refine jk_aload_n C rd_Law_knownValue_2 (k := 0) rfl ?_
  refine jk_iload_n C rd_Law_knownValue_3 (k := 1) rfl ?_
  refine jk_tryX C2 hZ.1 hz hM tm_927 tm_928 tm_929 tm_1 tm_930 na_KR_knownValue ⟨Nat.le_of_ble_eq_true rfl, Nat.le_of_ble_eq_true rfl⟩ rfl (List.range 155) (lw_pl hN) (by decide +kernel) (lw_put hN hN) 0 10 (lw_hd hN hx _) rfl rfl (st := [jk_V 0, .ref o]) rfl (Nat.le_of_ble_eq_true rfl) rd_Law_knownValue_4 ⟨Nat.le_of_ble_eq_true rfl, Nat.le_of_ble_eq_true rfl⟩ (fun z h => ?_) (fun z h => ?_) (fun k H1 locs1 ls q9 ce h hl hP hD hS hce hv hcl => ?_)
  · subst h
    obtain ⟨-, -, h3⟩ := ho
    rw [h3]
    exact hf
  · subst h
    obtain ⟨h1, h2, h3⟩ := ho
    subst h1; subst h2; subst h3
    rw [lw_put hN (lw_len hN hf)]
    refine jk_i2l C rd_Law_knownValue_7 ?_
    refine jk_last C 155 2 (lw_at (lw_len hN hf) _) rfl rd_Law_knownValue_8 (lw_set (lw_len hN hf) _ _) ?_
    refine jk_goto (tgt := 15) C rd_Law_knownValue_9 (by decide) ?_
    refine jk_iconst C rd_Law_knownValue_15 ?_
    exact jk_eret C rfl rd_Law_knownValue_16 rfl (Nat.le_of_ble_eq_true rfl) (Nat.le_of_ble_eq_true rfl)
  · subst h
    obtain ⟨j, h1, h2, h3⟩ := ho
    subst h3
    have hj : j < 1 := (List.getElem?_eq_some_iff.mp h1).1
    rcases (show j = 0 by omega) with rfl
    · cases h1
      subst h2
      refine jk_catch C (k := 1) (tgt := 12) [] ⟨0, 9, 12, 13⟩ [] (htb.trans rfl) (fun z hz2 => absurd hz2 List.not_mem_nil) (by decide) (by decide) rfl tm_787 (va_Nw.use rfl ((hZ.2.2 _ _ _ hz).2.2.2.2.2.2 _ fw_cast_1)) hl hP hD hS hce hv hcl ?_
      refine jk_astore_n C rd_Law_knownValue_12 (by decide) (lv' := [(3, .ref q9), (0, .ref ax), (1, jk_V x1), (2, .ref o)]) rfl ?_
      refine jk_iconst C rd_Law_knownValue_13 ?_
      exact jk_eret C rfl rd_Law_knownValue_14 rfl (Nat.le_of_ble_eq_true rfl) (Nat.le_of_ble_eq_true rfl)

set_option maxHeartbeats 4000000 in
set_option maxRecDepth 20000 in
theorem wr_lowestTotal (l : Launch) (D : va_G) (Z : (Nat → Prop) → State → Heap → Prop) (sq : Nat → Nat) (hZ : jk_ZK Z sq) (hNC : ∀ (A : Nat → Prop) (U : State) (H : Heap), Z A U H → ∀ x ∈ jk_ncs, va_Nc (jk_exc x.1) (jk_exc x.2) U) (cI cR cL : ClassId) {W Wf : va_W} (hN : W.length = 155) {ax : Nat} {fs : List Value} (hx : W[0]? = some (ax, .inr (10, fs))) (o : Nat) (f : Nat → Int64) (x1 : Int) (q : Nat ⊕ (Int × va_W)) (hM : jk_XI l D jk_cl (jk_ty cI cR) Z mn_KR_lowestTotal (.code mn_KR_lowestTotal mb_KR_lowestTotal 2 (some .int) :: jk_WA) (jk_rx 7 1 6 121) [.ref ax, jk_V x1] W q 1 6) {t b : Int} (ho : jk_oc [1] q W Wf t b) (hf : Wf.map (·.1) = W.map (·.1)) : jk_ME l D jk_cl (jk_t3 cI cR cL) Z mn_Law_lowestTotal (.codeWith mn_Law_lowestTotal mb_Law_lowestTotal 4 (some .int) [(0, 9, 12, 13)] :: jk_WA) (jk_rx 8 1 6 142) [.ref ax, jk_V x1, .ref o] (W ++ [(o, .inl (cL, 1, .inr (.inl f)))]) (Wf ++ [(o, .inl (cL, 1, .inr (.inl (jk_oz q f))))]) t 1 6 := by
  intro sz
  refine jk_hbody (by decide +kernel) (fun p e s m args below meth c hsz hz htb C => ?_) (Nat.le_of_ble_eq_true rfl)
  subst hsz
  have C2 := jk_Csub C [0, 1] rfl (tys' := jk_ty cI cR)
  refine jk_aload_n C rd_Law_lowestTotal_0 (k := 2) rfl ?_
  refine jk_iconst C rd_Law_lowestTotal_1 ?_
  refine jk_aload_n C rd_Law_lowestTotal_2 (k := 0) rfl ?_
  refine jk_iload_n C rd_Law_lowestTotal_3 (k := 1) rfl ?_
  refine jk_tryX C2 hZ.1 hz hM tm_934 tm_935 tm_936 tm_1 tm_937 na_KR_lowestTotal ⟨Nat.le_of_ble_eq_true rfl, Nat.le_of_ble_eq_true rfl⟩ rfl (List.range 155) (lw_pl hN) (by decide +kernel) (lw_put hN hN) 0 10 (lw_hd hN hx _) rfl rfl (st := [jk_V 0, .ref o]) rfl (Nat.le_of_ble_eq_true rfl) rd_Law_lowestTotal_4 ⟨Nat.le_of_ble_eq_true rfl, Nat.le_of_ble_eq_true rfl⟩ (fun z h => ?_) (fun z h => ?_) (fun k H1 locs1 ls q9 ce h hl hP hD hS hce hv hcl => ?_)
  · subst h
    obtain ⟨-, -, h3⟩ := ho
    rw [h3]
    exact hf
  · subst h
    obtain ⟨h1, h2, h3⟩ := ho
    subst h1; subst h2; subst h3
    rw [lw_put hN (lw_len hN hf)]
    refine jk_i2l C rd_Law_lowestTotal_7 ?_
    refine jk_last C 155 2 (lw_at (lw_len hN hf) _) rfl rd_Law_lowestTotal_8 (lw_set (lw_len hN hf) _ _) ?_
    refine jk_goto (tgt := 15) C rd_Law_lowestTotal_9 (by decide) ?_
    refine jk_iconst C rd_Law_lowestTotal_15 ?_
    exact jk_eret C rfl rd_Law_lowestTotal_16 rfl (Nat.le_of_ble_eq_true rfl) (Nat.le_of_ble_eq_true rfl)
  · subst h
    obtain ⟨j, h1, h2, h3⟩ := ho
    subst h3
    have hj : j < 1 := (List.getElem?_eq_some_iff.mp h1).1
    rcases (show j = 0 by omega) with rfl
    · cases h1
      subst h2
      refine jk_catch C (k := 1) (tgt := 12) [] ⟨0, 9, 12, 13⟩ [] (htb.trans rfl) (fun z hz2 => absurd hz2 List.not_mem_nil) (by decide) (by decide) rfl tm_787 (va_Nw.use rfl ((hZ.2.2 _ _ _ hz).2.2.2.2.2.2 _ fw_cast_1)) hl hP hD hS hce hv hcl ?_
      refine jk_astore_n C rd_Law_lowestTotal_12 (by decide) (lv' := [(3, .ref q9), (0, .ref ax), (1, jk_V x1), (2, .ref o)]) rfl ?_
      refine jk_iconst C rd_Law_lowestTotal_13 ?_
      exact jk_eret C rfl rd_Law_lowestTotal_14 rfl (Nat.le_of_ble_eq_true rfl) (Nat.le_of_ble_eq_true rfl)

set_option maxHeartbeats 4000000 in
set_option maxRecDepth 20000 in
theorem wr_highestTotal (l : Launch) (D : va_G) (Z : (Nat → Prop) → State → Heap → Prop) (sq : Nat → Nat) (hZ : jk_ZK Z sq) (hNC : ∀ (A : Nat → Prop) (U : State) (H : Heap), Z A U H → ∀ x ∈ jk_ncs, va_Nc (jk_exc x.1) (jk_exc x.2) U) (cI cR cL : ClassId) {W Wf : va_W} (hN : W.length = 155) {ax : Nat} {fs : List Value} (hx : W[0]? = some (ax, .inr (10, fs))) (o : Nat) (f : Nat → Int64) (x1 : Int) (q : Nat ⊕ (Int × va_W)) (hM : jk_XI l D jk_cl (jk_ty cI cR) Z mn_KR_highestTotal (.code mn_KR_highestTotal mb_KR_highestTotal 2 (some .int) :: jk_WA) (jk_rx 7 1 6 121) [.ref ax, jk_V x1] W q 1 6) {t b : Int} (ho : jk_oc [1] q W Wf t b) (hf : Wf.map (·.1) = W.map (·.1)) : jk_ME l D jk_cl (jk_t3 cI cR cL) Z mn_Law_highestTotal (.codeWith mn_Law_highestTotal mb_Law_highestTotal 4 (some .int) [(0, 9, 12, 13)] :: jk_WA) (jk_rx 8 1 6 142) [.ref ax, jk_V x1, .ref o] (W ++ [(o, .inl (cL, 1, .inr (.inl f)))]) (Wf ++ [(o, .inl (cL, 1, .inr (.inl (jk_oz q f))))]) t 1 6 := by
  intro sz
  refine jk_hbody (by decide +kernel) (fun p e s m args below meth c hsz hz htb C => ?_) (Nat.le_of_ble_eq_true rfl)
  subst hsz
  have C2 := jk_Csub C [0, 1] rfl (tys' := jk_ty cI cR)
  refine jk_aload_n C rd_Law_highestTotal_0 (k := 2) rfl ?_
  refine jk_iconst C rd_Law_highestTotal_1 ?_
  refine jk_aload_n C rd_Law_highestTotal_2 (k := 0) rfl ?_
  refine jk_iload_n C rd_Law_highestTotal_3 (k := 1) rfl ?_
  refine jk_tryX C2 hZ.1 hz hM tm_941 tm_942 tm_943 tm_1 tm_944 na_KR_highestTotal ⟨Nat.le_of_ble_eq_true rfl, Nat.le_of_ble_eq_true rfl⟩ rfl (List.range 155) (lw_pl hN) (by decide +kernel) (lw_put hN hN) 0 10 (lw_hd hN hx _) rfl rfl (st := [jk_V 0, .ref o]) rfl (Nat.le_of_ble_eq_true rfl) rd_Law_highestTotal_4 ⟨Nat.le_of_ble_eq_true rfl, Nat.le_of_ble_eq_true rfl⟩ (fun z h => ?_) (fun z h => ?_) (fun k H1 locs1 ls q9 ce h hl hP hD hS hce hv hcl => ?_)
  · subst h
    obtain ⟨-, -, h3⟩ := ho
    rw [h3]
    exact hf
  · subst h
    obtain ⟨h1, h2, h3⟩ := ho
    subst h1; subst h2; subst h3
    rw [lw_put hN (lw_len hN hf)]
    refine jk_i2l C rd_Law_highestTotal_7 ?_
    refine jk_last C 155 2 (lw_at (lw_len hN hf) _) rfl rd_Law_highestTotal_8 (lw_set (lw_len hN hf) _ _) ?_
    refine jk_goto (tgt := 15) C rd_Law_highestTotal_9 (by decide) ?_
    refine jk_iconst C rd_Law_highestTotal_15 ?_
    exact jk_eret C rfl rd_Law_highestTotal_16 rfl (Nat.le_of_ble_eq_true rfl) (Nat.le_of_ble_eq_true rfl)
  · subst h
    obtain ⟨j, h1, h2, h3⟩ := ho
    subst h3
    have hj : j < 1 := (List.getElem?_eq_some_iff.mp h1).1
    rcases (show j = 0 by omega) with rfl
    · cases h1
      subst h2
      refine jk_catch C (k := 1) (tgt := 12) [] ⟨0, 9, 12, 13⟩ [] (htb.trans rfl) (fun z hz2 => absurd hz2 List.not_mem_nil) (by decide) (by decide) rfl tm_787 (va_Nw.use rfl ((hZ.2.2 _ _ _ hz).2.2.2.2.2.2 _ fw_cast_1)) hl hP hD hS hce hv hcl ?_
      refine jk_astore_n C rd_Law_highestTotal_12 (by decide) (lv' := [(3, .ref q9), (0, .ref ax), (1, jk_V x1), (2, .ref o)]) rfl ?_
      refine jk_iconst C rd_Law_highestTotal_13 ?_
      exact jk_eret C rfl rd_Law_highestTotal_14 rfl (Nat.le_of_ble_eq_true rfl) (Nat.le_of_ble_eq_true rfl)

set_option maxHeartbeats 4000000 in
set_option maxRecDepth 20000 in
theorem wr_knotsAt (l : Launch) (D : va_G) (Z : (Nat → Prop) → State → Heap → Prop) (sq : Nat → Nat) (hZ : jk_ZK Z sq) (hNC : ∀ (A : Nat → Prop) (U : State) (H : Heap), Z A U H → ∀ x ∈ jk_ncs, va_Nc (jk_exc x.1) (jk_exc x.2) U) (cI cR cL : ClassId) {W Wf : va_W} (hN : W.length = 155) {ax : Nat} {fs : List Value} (hx : W[0]? = some (ax, .inr (10, fs))) (o : Nat) (f : Nat → Int64) (x1 : Int) (x2 : Int) (q : Nat ⊕ (Int × va_W)) (hM : jk_XI l D jk_cl (jk_ty cI cR) Z mn_KR_knotsAt (.code mn_KR_knotsAt mb_KR_knotsAt 3 (some .int) :: jk_WA) (jk_rx 7 2 12 121) [.ref ax, jk_V x1, jk_V x2] W q 2 12) {t b : Int} (ho : jk_oc [1, 2] q W Wf t b) (hf : Wf.map (·.1) = W.map (·.1)) : jk_ME l D jk_cl (jk_t3 cI cR cL) Z mn_Law_knotsAt (.codeWith mn_Law_knotsAt mb_Law_knotsAt 5 (some .int) [(0, 10, 13, 13), (0, 10, 17, 46)] :: jk_WA) (jk_rx 8 2 12 143) [.ref ax, jk_V x1, jk_V x2, .ref o] (W ++ [(o, .inl (cL, 1, .inr (.inl f)))]) (Wf ++ [(o, .inl (cL, 1, .inr (.inl (jk_oz q f))))]) t 2 12 := by
  intro sz
  refine jk_hbody (by decide +kernel) (fun p e s m args below meth c hsz hz htb C => ?_) (Nat.le_of_ble_eq_true rfl)
  subst hsz
  have C2 := jk_Csub C [0, 1] rfl (tys' := jk_ty cI cR)
  refine jk_aload_n C rd_Law_knotsAt_0 (k := 3) rfl ?_
  refine jk_iconst C rd_Law_knotsAt_1 ?_
  refine jk_aload_n C rd_Law_knotsAt_2 (k := 0) rfl ?_
  refine jk_iload_n C rd_Law_knotsAt_3 (k := 1) rfl ?_
  refine jk_iload_n C rd_Law_knotsAt_4 (k := 2) rfl ?_
  refine jk_tryX C2 hZ.1 hz hM tm_950 tm_951 tm_952 tm_1 tm_953 na_KR_knotsAt ⟨Nat.le_of_ble_eq_true rfl, Nat.le_of_ble_eq_true rfl⟩ rfl (List.range 155) (lw_pl hN) (by decide +kernel) (lw_put hN hN) 0 10 (lw_hd hN hx _) rfl rfl (st := [jk_V 0, .ref o]) rfl (Nat.le_of_ble_eq_true rfl) rd_Law_knotsAt_5 ⟨Nat.le_of_ble_eq_true rfl, Nat.le_of_ble_eq_true rfl⟩ (fun z h => ?_) (fun z h => ?_) (fun k H1 locs1 ls q9 ce h hl hP hD hS hce hv hcl => ?_)
  · subst h
    obtain ⟨-, -, h3⟩ := ho
    rw [h3]
    exact hf
  · subst h
    obtain ⟨h1, h2, h3⟩ := ho
    subst h1; subst h2; subst h3
    rw [lw_put hN (lw_len hN hf)]
    refine jk_i2l C rd_Law_knotsAt_8 ?_
    refine jk_last C 155 2 (lw_at (lw_len hN hf) _) rfl rd_Law_knotsAt_9 (lw_set (lw_len hN hf) _ _) ?_
    refine jk_goto (tgt := 21) C rd_Law_knotsAt_10 (by decide) ?_
    refine jk_iconst C rd_Law_knotsAt_21 ?_
    exact jk_eret C rfl rd_Law_knotsAt_22 rfl (Nat.le_of_ble_eq_true rfl) (Nat.le_of_ble_eq_true rfl)
  · subst h
    obtain ⟨j, h1, h2, h3⟩ := ho
    subst h3
    have hj : j < 2 := (List.getElem?_eq_some_iff.mp h1).1
    rcases (show j = 0 ∨ j = 1 by omega) with rfl | rfl
    · cases h1
      subst h2
      refine jk_catch C (k := 1) (tgt := 13) [] ⟨0, 10, 13, 13⟩ [⟨0, 10, 17, 46⟩] (htb.trans rfl) (fun z hz2 => absurd hz2 List.not_mem_nil) (by decide) (by decide) rfl tm_787 (va_Nw.use rfl ((hZ.2.2 _ _ _ hz).2.2.2.2.2.2 _ fw_cast_1)) hl hP hD hS hce hv hcl ?_
      refine jk_astore C rd_Law_knotsAt_13 (by decide) (lv' := [(4, .ref q9), (0, .ref ax), (1, jk_V x1), (2, jk_V x2), (3, .ref o)]) rfl ?_
      refine jk_iconst C rd_Law_knotsAt_15 ?_
      exact jk_eret C rfl rd_Law_knotsAt_16 rfl (Nat.le_of_ble_eq_true rfl) (Nat.le_of_ble_eq_true rfl)
    · cases h1
      subst h2
      refine jk_catch C (k := 2) (tgt := 17) [⟨0, 10, 13, 13⟩] ⟨0, 10, 17, 46⟩ [] (htb.trans rfl) (List.forall_mem_cons.mpr ⟨Or.inr ⟨by decide, _, C.1.2.2.2.2 _ tm_787, hNC _ _ _ hz (2, 1) (by decide)⟩, fun z hz2 => absurd hz2 List.not_mem_nil⟩) (by decide) (by decide) rfl tm_949 (va_Nw.use rfl ((hZ.2.2 _ _ _ hz).2.2.2.2.2.2 _ fw_cast_2)) hl hP hD hS hce hv hcl ?_
      refine jk_astore C rd_Law_knotsAt_17 (by decide) (lv' := [(4, .ref q9), (0, .ref ax), (1, jk_V x1), (2, jk_V x2), (3, .ref o)]) rfl ?_
      refine jk_iconst C rd_Law_knotsAt_19 ?_
      exact jk_eret C rfl rd_Law_knotsAt_20 rfl (Nat.le_of_ble_eq_true rfl) (Nat.le_of_ble_eq_true rfl)

set_option maxHeartbeats 4000000 in
set_option maxRecDepth 20000 in
theorem wr_isComplete (l : Launch) (D : va_G) (Z : (Nat → Prop) → State → Heap → Prop) (sq : Nat → Nat) (hZ : jk_ZK Z sq) (hNC : ∀ (A : Nat → Prop) (U : State) (H : Heap), Z A U H → ∀ x ∈ jk_ncs, va_Nc (jk_exc x.1) (jk_exc x.2) U) (cI cR cL : ClassId) {W Wf : va_W} (hN : W.length = 155) {ax : Nat} {fs : List Value} (hx : W[0]? = some (ax, .inr (10, fs))) (o : Nat) (f : Nat → Int64) (x1 : Int) (q : Nat ⊕ (Int × va_W)) (hM : jk_XI l D jk_cl (jk_ty cI cR) Z mn_KR_isComplete (.code mn_KR_isComplete mb_KR_isComplete 2 (some .boolean) :: jk_WA) (jk_rx 7 1 6 121) [.ref ax, jk_V x1] W q 1 6) {t b : Int} (hb : b = 0 ∨ b = 1) (ho : jk_oc [1] q W Wf t b) (hf : Wf.map (·.1) = W.map (·.1)) : jk_ME l D jk_cl (jk_t3 cI cR cL) Z mn_Law_isComplete (.codeWith mn_Law_isComplete mb_Law_isComplete 4 (some .int) [(0, 16, 19, 13)] :: jk_WA) (jk_rx 8 1 6 142) [.ref ax, jk_V x1, .ref o] (W ++ [(o, .inl (cL, 1, .inr (.inl f)))]) (Wf ++ [(o, .inl (cL, 1, .inr (.inl (jk_oz q f))))]) t 1 6 := by
  intro sz
  refine jk_hbody (by decide +kernel) (fun p e s m args below meth c hsz hz htb C => ?_) (Nat.le_of_ble_eq_true rfl)
  subst hsz
  have C2 := jk_Csub C [0, 1] rfl (tys' := jk_ty cI cR)
  refine jk_aload_n C rd_Law_isComplete_0 (k := 2) rfl ?_
  refine jk_iconst C rd_Law_isComplete_1 ?_
  refine jk_aload_n C rd_Law_isComplete_2 (k := 0) rfl ?_
  refine jk_iload_n C rd_Law_isComplete_3 (k := 1) rfl ?_
  refine jk_tryX C2 hZ.1 hz hM tm_974 tm_975 tm_976 tm_1 tm_977 na_KR_isComplete ⟨Nat.le_of_ble_eq_true rfl, Nat.le_of_ble_eq_true rfl⟩ rfl (List.range 155) (lw_pl hN) (by decide +kernel) (lw_put hN hN) 0 10 (lw_hd hN hx _) rfl rfl (st := [jk_V 0, .ref o]) rfl (Nat.le_of_ble_eq_true rfl) rd_Law_isComplete_4 ⟨Nat.le_of_ble_eq_true rfl, Nat.le_of_ble_eq_true rfl⟩ (fun z h => ?_) (fun z h => ?_) (fun k H1 locs1 ls q9 ce h hl hP hD hS hce hv hcl => ?_)
  · subst h
    obtain ⟨-, -, h3⟩ := ho
    rw [h3]
    exact hf
  · subst h
    obtain ⟨h1, h2, h3⟩ := ho
    subst h1; subst h2; subst h3
    rw [lw_put hN (lw_len hN hf)]
    rcases hb with hb | hb
    · simp only [hb]
      refine jk_if_eq (a := some ()) (b := (none : Option Unit)) (o := ()) (tgt := 14) C rd_Law_isComplete_7 (by decide) (by decide +kernel) (fun _ _ => ?_) (fun h _ => absurd rfl h)
      refine jk_lconst C rd_Law_isComplete_14 ?_
      refine jk_last C 155 2 (lw_at (lw_len hN hf) _) rfl rd_Law_isComplete_15 (lw_set (lw_len hN hf) _ _) ?_
      refine jk_goto (tgt := 22) C rd_Law_isComplete_16 (by decide) ?_
      refine jk_iconst C rd_Law_isComplete_22 ?_
      exact jk_eret C rfl rd_Law_isComplete_23 (by unfold jk_oz; simp only [hb]; rfl) (Nat.le_of_ble_eq_true rfl) (Nat.le_of_ble_eq_true rfl)
    · simp only [hb]
      refine jk_if_eq (a := (none : Option Unit)) (b := some ()) (o := ()) (tgt := 14) C rd_Law_isComplete_7 (by decide) (by decide +kernel) (fun h _ => absurd h (by decide)) (fun _ _ => ?_)
      refine jk_lconst C rd_Law_isComplete_10 ?_
      refine jk_goto (tgt := 15) C rd_Law_isComplete_11 (by decide) ?_
      refine jk_last C 155 2 (lw_at (lw_len hN hf) _) rfl rd_Law_isComplete_15 (lw_set (lw_len hN hf) _ _) ?_
      refine jk_goto (tgt := 22) C rd_Law_isComplete_16 (by decide) ?_
      refine jk_iconst C rd_Law_isComplete_22 ?_
      exact jk_eret C rfl rd_Law_isComplete_23 (by unfold jk_oz; simp only [hb]; rfl) (Nat.le_of_ble_eq_true rfl) (Nat.le_of_ble_eq_true rfl)
  · subst h
    obtain ⟨j, h1, h2, h3⟩ := ho
    subst h3
    have hj : j < 1 := (List.getElem?_eq_some_iff.mp h1).1
    rcases (show j = 0 by omega) with rfl
    · cases h1
      subst h2
      refine jk_catch C (k := 1) (tgt := 19) [] ⟨0, 16, 19, 13⟩ [] (htb.trans rfl) (fun z hz2 => absurd hz2 List.not_mem_nil) (by decide) (by decide) rfl tm_787 (va_Nw.use rfl ((hZ.2.2 _ _ _ hz).2.2.2.2.2.2 _ fw_cast_1)) hl hP hD hS hce hv hcl ?_
      refine jk_astore_n C rd_Law_isComplete_19 (by decide) (lv' := [(3, .ref q9), (0, .ref ax), (1, jk_V x1), (2, .ref o)]) rfl ?_
      refine jk_iconst C rd_Law_isComplete_20 ?_
      exact jk_eret C rfl rd_Law_isComplete_21 rfl (Nat.le_of_ble_eq_true rfl) (Nat.le_of_ble_eq_true rfl)

set_option maxHeartbeats 4000000 in
set_option maxRecDepth 20000 in
theorem wr_totalOf (l : Launch) (D : va_G) (Z : (Nat → Prop) → State → Heap → Prop) (sq : Nat → Nat) (hZ : jk_ZK Z sq) (hNC : ∀ (A : Nat → Prop) (U : State) (H : Heap), Z A U H → ∀ x ∈ jk_ncs, va_Nc (jk_exc x.1) (jk_exc x.2) U) (cI cR cL : ClassId) {W Wf : va_W} (hN : W.length = 155) {ax : Nat} {fs : List Value} (hx : W[0]? = some (ax, .inr (10, fs))) (o : Nat) (f : Nat → Int64) (x1 : Int) (q : Nat ⊕ (Int × va_W)) (hM : jk_XI l D jk_cl (jk_ty cI cR) Z mn_KR_totalOf (.code mn_KR_totalOf mb_KR_totalOf 3 (some .int) :: jk_WA) (jk_rx 7 2 12 121) [.ref ax, jk_V x1] W q 2 12) {t b : Int} (ho : jk_oc [1, 4] q W Wf t b) (hf : Wf.map (·.1) = W.map (·.1)) : jk_ME l D jk_cl (jk_t3 cI cR cL) Z mn_Law_totalOf (.codeWith mn_Law_totalOf mb_Law_totalOf 4 (some .int) [(0, 9, 12, 13), (0, 9, 15, 55)] :: jk_WA) (jk_rx 8 2 12 143) [.ref ax, jk_V x1, .ref o] (W ++ [(o, .inl (cL, 1, .inr (.inl f)))]) (Wf ++ [(o, .inl (cL, 1, .inr (.inl (jk_oz q f))))]) t 2 12 := by
  intro sz
  refine jk_hbody (by decide +kernel) (fun p e s m args below meth c hsz hz htb C => ?_) (Nat.le_of_ble_eq_true rfl)
  subst hsz
  have C2 := jk_Csub C [0, 1] rfl (tys' := jk_ty cI cR)
  refine jk_aload_n C rd_Law_totalOf_0 (k := 2) rfl ?_
  refine jk_iconst C rd_Law_totalOf_1 ?_
  refine jk_aload_n C rd_Law_totalOf_2 (k := 0) rfl ?_
  refine jk_iload_n C rd_Law_totalOf_3 (k := 1) rfl ?_
  refine jk_tryX C2 hZ.1 hz hM tm_982 tm_983 tm_984 tm_1 tm_985 na_KR_totalOf ⟨Nat.le_of_ble_eq_true rfl, Nat.le_of_ble_eq_true rfl⟩ rfl (List.range 155) (lw_pl hN) (by decide +kernel) (lw_put hN hN) 0 10 (lw_hd hN hx _) rfl rfl (st := [jk_V 0, .ref o]) rfl (Nat.le_of_ble_eq_true rfl) rd_Law_totalOf_4 ⟨Nat.le_of_ble_eq_true rfl, Nat.le_of_ble_eq_true rfl⟩ (fun z h => ?_) (fun z h => ?_) (fun k H1 locs1 ls q9 ce h hl hP hD hS hce hv hcl => ?_)
  · subst h
    obtain ⟨-, -, h3⟩ := ho
    rw [h3]
    exact hf
  · subst h
    obtain ⟨h1, h2, h3⟩ := ho
    subst h1; subst h2; subst h3
    rw [lw_put hN (lw_len hN hf)]
    refine jk_i2l C rd_Law_totalOf_7 ?_
    refine jk_last C 155 2 (lw_at (lw_len hN hf) _) rfl rd_Law_totalOf_8 (lw_set (lw_len hN hf) _ _) ?_
    refine jk_goto (tgt := 18) C rd_Law_totalOf_9 (by decide) ?_
    refine jk_iconst C rd_Law_totalOf_18 ?_
    exact jk_eret C rfl rd_Law_totalOf_19 rfl (Nat.le_of_ble_eq_true rfl) (Nat.le_of_ble_eq_true rfl)
  · subst h
    obtain ⟨j, h1, h2, h3⟩ := ho
    subst h3
    have hj : j < 2 := (List.getElem?_eq_some_iff.mp h1).1
    rcases (show j = 0 ∨ j = 1 by omega) with rfl | rfl
    · cases h1
      subst h2
      refine jk_catch C (k := 1) (tgt := 12) [] ⟨0, 9, 12, 13⟩ [⟨0, 9, 15, 55⟩] (htb.trans rfl) (fun z hz2 => absurd hz2 List.not_mem_nil) (by decide) (by decide) rfl tm_787 (va_Nw.use rfl ((hZ.2.2 _ _ _ hz).2.2.2.2.2.2 _ fw_cast_1)) hl hP hD hS hce hv hcl ?_
      refine jk_astore_n C rd_Law_totalOf_12 (by decide) (lv' := [(3, .ref q9), (0, .ref ax), (1, jk_V x1), (2, .ref o)]) rfl ?_
      refine jk_iconst C rd_Law_totalOf_13 ?_
      exact jk_eret C rfl rd_Law_totalOf_14 rfl (Nat.le_of_ble_eq_true rfl) (Nat.le_of_ble_eq_true rfl)
    · cases h1
      subst h2
      refine jk_catch C (k := 4) (tgt := 15) [⟨0, 9, 12, 13⟩] ⟨0, 9, 15, 55⟩ [] (htb.trans rfl) (List.forall_mem_cons.mpr ⟨Or.inr ⟨by decide, _, C.1.2.2.2.2 _ tm_787, hNC _ _ _ hz (4, 1) (by decide)⟩, fun z hz2 => absurd hz2 List.not_mem_nil⟩) (by decide) (by decide) rfl tm_981 (va_Nw.use rfl ((hZ.2.2 _ _ _ hz).2.2.2.2.2.2 _ fw_cast_4)) hl hP hD hS hce hv hcl ?_
      refine jk_astore_n C rd_Law_totalOf_15 (by decide) (lv' := [(3, .ref q9), (0, .ref ax), (1, jk_V x1), (2, .ref o)]) rfl ?_
      refine jk_iconst C rd_Law_totalOf_16 ?_
      exact jk_eret C rfl rd_Law_totalOf_17 rfl (Nat.le_of_ble_eq_true rfl) (Nat.le_of_ble_eq_true rfl)

set_option maxHeartbeats 4000000 in
set_option maxRecDepth 20000 in
theorem wr_pendantsIn (l : Launch) (D : va_G) (Z : (Nat → Prop) → State → Heap → Prop) (sq : Nat → Nat) (hZ : jk_ZK Z sq) (hNC : ∀ (A : Nat → Prop) (U : State) (H : Heap), Z A U H → ∀ x ∈ jk_ncs, va_Nc (jk_exc x.1) (jk_exc x.2) U) (cI cR cL : ClassId) {W Wf : va_W} (hN : W.length = 155) {ax : Nat} {fs : List Value} (hx : W[0]? = some (ax, .inr (10, fs))) (o : Nat) (f : Nat → Int64) (x1 : Int) (q : Nat ⊕ (Int × va_W)) (hM : jk_XI l D jk_cl (jk_ty cI cR) Z mn_KR_pendantsIn (.code mn_KR_pendantsIn mb_KR_pendantsIn 2 (some .int) :: jk_WA) (jk_rx 7 1 6 121) [.ref ax, jk_V x1] W q 1 6) {t b : Int} (ho : jk_oc [1] q W Wf t b) (hf : Wf.map (·.1) = W.map (·.1)) : jk_ME l D jk_cl (jk_t3 cI cR cL) Z mn_Law_pendantsIn (.codeWith mn_Law_pendantsIn mb_Law_pendantsIn 4 (some .int) [(0, 9, 12, 13)] :: jk_WA) (jk_rx 8 1 6 142) [.ref ax, jk_V x1, .ref o] (W ++ [(o, .inl (cL, 1, .inr (.inl f)))]) (Wf ++ [(o, .inl (cL, 1, .inr (.inl (jk_oz q f))))]) t 1 6 := by
  intro sz
  refine jk_hbody (by decide +kernel) (fun p e s m args below meth c hsz hz htb C => ?_) (Nat.le_of_ble_eq_true rfl)
  subst hsz
  have C2 := jk_Csub C [0, 1] rfl (tys' := jk_ty cI cR)
  refine jk_aload_n C rd_Law_pendantsIn_0 (k := 2) rfl ?_
  refine jk_iconst C rd_Law_pendantsIn_1 ?_
  refine jk_aload_n C rd_Law_pendantsIn_2 (k := 0) rfl ?_
  refine jk_iload_n C rd_Law_pendantsIn_3 (k := 1) rfl ?_
  refine jk_tryX C2 hZ.1 hz hM tm_1005 tm_1006 tm_1007 tm_1 tm_1008 na_KR_pendantsIn ⟨Nat.le_of_ble_eq_true rfl, Nat.le_of_ble_eq_true rfl⟩ rfl (List.range 155) (lw_pl hN) (by decide +kernel) (lw_put hN hN) 0 10 (lw_hd hN hx _) rfl rfl (st := [jk_V 0, .ref o]) rfl (Nat.le_of_ble_eq_true rfl) rd_Law_pendantsIn_4 ⟨Nat.le_of_ble_eq_true rfl, Nat.le_of_ble_eq_true rfl⟩ (fun z h => ?_) (fun z h => ?_) (fun k H1 locs1 ls q9 ce h hl hP hD hS hce hv hcl => ?_)
  · subst h
    obtain ⟨-, -, h3⟩ := ho
    rw [h3]
    exact hf
  · subst h
    obtain ⟨h1, h2, h3⟩ := ho
    subst h1; subst h2; subst h3
    rw [lw_put hN (lw_len hN hf)]
    refine jk_i2l C rd_Law_pendantsIn_7 ?_
    refine jk_last C 155 2 (lw_at (lw_len hN hf) _) rfl rd_Law_pendantsIn_8 (lw_set (lw_len hN hf) _ _) ?_
    refine jk_goto (tgt := 15) C rd_Law_pendantsIn_9 (by decide) ?_
    refine jk_iconst C rd_Law_pendantsIn_15 ?_
    exact jk_eret C rfl rd_Law_pendantsIn_16 rfl (Nat.le_of_ble_eq_true rfl) (Nat.le_of_ble_eq_true rfl)
  · subst h
    obtain ⟨j, h1, h2, h3⟩ := ho
    subst h3
    have hj : j < 1 := (List.getElem?_eq_some_iff.mp h1).1
    rcases (show j = 0 by omega) with rfl
    · cases h1
      subst h2
      refine jk_catch C (k := 1) (tgt := 12) [] ⟨0, 9, 12, 13⟩ [] (htb.trans rfl) (fun z hz2 => absurd hz2 List.not_mem_nil) (by decide) (by decide) rfl tm_787 (va_Nw.use rfl ((hZ.2.2 _ _ _ hz).2.2.2.2.2.2 _ fw_cast_1)) hl hP hD hS hce hv hcl ?_
      refine jk_astore_n C rd_Law_pendantsIn_12 (by decide) (lv' := [(3, .ref q9), (0, .ref ax), (1, jk_V x1), (2, .ref o)]) rfl ?_
      refine jk_iconst C rd_Law_pendantsIn_13 ?_
      exact jk_eret C rfl rd_Law_pendantsIn_14 rfl (Nat.le_of_ble_eq_true rfl) (Nat.le_of_ble_eq_true rfl)

set_option maxHeartbeats 4000000 in
set_option maxRecDepth 20000 in
theorem wr_cordsIn (l : Launch) (D : va_G) (Z : (Nat → Prop) → State → Heap → Prop) (sq : Nat → Nat) (hZ : jk_ZK Z sq) (hNC : ∀ (A : Nat → Prop) (U : State) (H : Heap), Z A U H → ∀ x ∈ jk_ncs, va_Nc (jk_exc x.1) (jk_exc x.2) U) (cI cR cL : ClassId) {W Wf : va_W} (hN : W.length = 155) {ax : Nat} {fs : List Value} (hx : W[0]? = some (ax, .inr (10, fs))) (o : Nat) (f : Nat → Int64) (x1 : Int) (q : Nat ⊕ (Int × va_W)) (hM : jk_XI l D jk_cl (jk_ty cI cR) Z mn_KR_cordsIn (.code mn_KR_cordsIn mb_KR_cordsIn 2 (some .int) :: jk_WA) (jk_rx 7 1 6 121) [.ref ax, jk_V x1] W q 1 6) {t b : Int} (ho : jk_oc [1] q W Wf t b) (hf : Wf.map (·.1) = W.map (·.1)) : jk_ME l D jk_cl (jk_t3 cI cR cL) Z mn_Law_cordsIn (.codeWith mn_Law_cordsIn mb_Law_cordsIn 4 (some .int) [(0, 9, 12, 13)] :: jk_WA) (jk_rx 8 1 6 142) [.ref ax, jk_V x1, .ref o] (W ++ [(o, .inl (cL, 1, .inr (.inl f)))]) (Wf ++ [(o, .inl (cL, 1, .inr (.inl (jk_oz q f))))]) t 1 6 := by
  intro sz
  refine jk_hbody (by decide +kernel) (fun p e s m args below meth c hsz hz htb C => ?_) (Nat.le_of_ble_eq_true rfl)
  subst hsz
  have C2 := jk_Csub C [0, 1] rfl (tys' := jk_ty cI cR)
  refine jk_aload_n C rd_Law_cordsIn_0 (k := 2) rfl ?_
  refine jk_iconst C rd_Law_cordsIn_1 ?_
  refine jk_aload_n C rd_Law_cordsIn_2 (k := 0) rfl ?_
  refine jk_iload_n C rd_Law_cordsIn_3 (k := 1) rfl ?_
  refine jk_tryX C2 hZ.1 hz hM tm_1017 tm_1018 tm_1019 tm_1 tm_1020 na_KR_cordsIn ⟨Nat.le_of_ble_eq_true rfl, Nat.le_of_ble_eq_true rfl⟩ rfl (List.range 155) (lw_pl hN) (by decide +kernel) (lw_put hN hN) 0 10 (lw_hd hN hx _) rfl rfl (st := [jk_V 0, .ref o]) rfl (Nat.le_of_ble_eq_true rfl) rd_Law_cordsIn_4 ⟨Nat.le_of_ble_eq_true rfl, Nat.le_of_ble_eq_true rfl⟩ (fun z h => ?_) (fun z h => ?_) (fun k H1 locs1 ls q9 ce h hl hP hD hS hce hv hcl => ?_)
  · subst h
    obtain ⟨-, -, h3⟩ := ho
    rw [h3]
    exact hf
  · subst h
    obtain ⟨h1, h2, h3⟩ := ho
    subst h1; subst h2; subst h3
    rw [lw_put hN (lw_len hN hf)]
    refine jk_i2l C rd_Law_cordsIn_7 ?_
    refine jk_last C 155 2 (lw_at (lw_len hN hf) _) rfl rd_Law_cordsIn_8 (lw_set (lw_len hN hf) _ _) ?_
    refine jk_goto (tgt := 15) C rd_Law_cordsIn_9 (by decide) ?_
    refine jk_iconst C rd_Law_cordsIn_15 ?_
    exact jk_eret C rfl rd_Law_cordsIn_16 rfl (Nat.le_of_ble_eq_true rfl) (Nat.le_of_ble_eq_true rfl)
  · subst h
    obtain ⟨j, h1, h2, h3⟩ := ho
    subst h3
    have hj : j < 1 := (List.getElem?_eq_some_iff.mp h1).1
    rcases (show j = 0 by omega) with rfl
    · cases h1
      subst h2
      refine jk_catch C (k := 1) (tgt := 12) [] ⟨0, 9, 12, 13⟩ [] (htb.trans rfl) (fun z hz2 => absurd hz2 List.not_mem_nil) (by decide) (by decide) rfl tm_787 (va_Nw.use rfl ((hZ.2.2 _ _ _ hz).2.2.2.2.2.2 _ fw_cast_1)) hl hP hD hS hce hv hcl ?_
      refine jk_astore_n C rd_Law_cordsIn_12 (by decide) (lv' := [(3, .ref q9), (0, .ref ax), (1, jk_V x1), (2, .ref o)]) rfl ?_
      refine jk_iconst C rd_Law_cordsIn_13 ?_
      exact jk_eret C rfl rd_Law_cordsIn_14 rfl (Nat.le_of_ble_eq_true rfl) (Nat.le_of_ble_eq_true rfl)

set_option maxHeartbeats 4000000 in
set_option maxRecDepth 20000 in
theorem wr_topOf (l : Launch) (D : va_G) (Z : (Nat → Prop) → State → Heap → Prop) (sq : Nat → Nat) (hZ : jk_ZK Z sq) (hNC : ∀ (A : Nat → Prop) (U : State) (H : Heap), Z A U H → ∀ x ∈ jk_ncs, va_Nc (jk_exc x.1) (jk_exc x.2) U) (cI cR cL : ClassId) {W Wf : va_W} (hN : W.length = 155) {ax : Nat} {fs : List Value} (hx : W[0]? = some (ax, .inr (10, fs))) (o : Nat) (f : Nat → Int64) (x1 : Int) (q : Nat ⊕ (Int × va_W)) (hM : jk_XI l D jk_cl (jk_ty cI cR) Z mn_KR_topOf (.code mn_KR_topOf mb_KR_topOf 2 (some .int) :: jk_WA) (jk_rx 7 1 6 121) [.ref ax, jk_V x1] W q 1 6) {t b : Int} (ho : jk_oc [1] q W Wf t b) (hf : Wf.map (·.1) = W.map (·.1)) : jk_ME l D jk_cl (jk_t3 cI cR cL) Z mn_Law_topOf (.codeWith mn_Law_topOf mb_Law_topOf 4 (some .int) [(0, 9, 12, 13)] :: jk_WA) (jk_rx 8 1 6 142) [.ref ax, jk_V x1, .ref o] (W ++ [(o, .inl (cL, 1, .inr (.inl f)))]) (Wf ++ [(o, .inl (cL, 1, .inr (.inl (jk_oz q f))))]) t 1 6 := by
  intro sz
  refine jk_hbody (by decide +kernel) (fun p e s m args below meth c hsz hz htb C => ?_) (Nat.le_of_ble_eq_true rfl)
  subst hsz
  have C2 := jk_Csub C [0, 1] rfl (tys' := jk_ty cI cR)
  refine jk_aload_n C rd_Law_topOf_0 (k := 2) rfl ?_
  refine jk_iconst C rd_Law_topOf_1 ?_
  refine jk_aload_n C rd_Law_topOf_2 (k := 0) rfl ?_
  refine jk_iload_n C rd_Law_topOf_3 (k := 1) rfl ?_
  refine jk_tryX C2 hZ.1 hz hM tm_1024 tm_1025 tm_1026 tm_1 tm_1027 na_KR_topOf ⟨Nat.le_of_ble_eq_true rfl, Nat.le_of_ble_eq_true rfl⟩ rfl (List.range 155) (lw_pl hN) (by decide +kernel) (lw_put hN hN) 0 10 (lw_hd hN hx _) rfl rfl (st := [jk_V 0, .ref o]) rfl (Nat.le_of_ble_eq_true rfl) rd_Law_topOf_4 ⟨Nat.le_of_ble_eq_true rfl, Nat.le_of_ble_eq_true rfl⟩ (fun z h => ?_) (fun z h => ?_) (fun k H1 locs1 ls q9 ce h hl hP hD hS hce hv hcl => ?_)
  · subst h
    obtain ⟨-, -, h3⟩ := ho
    rw [h3]
    exact hf
  · subst h
    obtain ⟨h1, h2, h3⟩ := ho
    subst h1; subst h2; subst h3
    rw [lw_put hN (lw_len hN hf)]
    refine jk_i2l C rd_Law_topOf_7 ?_
    refine jk_last C 155 2 (lw_at (lw_len hN hf) _) rfl rd_Law_topOf_8 (lw_set (lw_len hN hf) _ _) ?_
    refine jk_goto (tgt := 15) C rd_Law_topOf_9 (by decide) ?_
    refine jk_iconst C rd_Law_topOf_15 ?_
    exact jk_eret C rfl rd_Law_topOf_16 rfl (Nat.le_of_ble_eq_true rfl) (Nat.le_of_ble_eq_true rfl)
  · subst h
    obtain ⟨j, h1, h2, h3⟩ := ho
    subst h3
    have hj : j < 1 := (List.getElem?_eq_some_iff.mp h1).1
    rcases (show j = 0 by omega) with rfl
    · cases h1
      subst h2
      refine jk_catch C (k := 1) (tgt := 12) [] ⟨0, 9, 12, 13⟩ [] (htb.trans rfl) (fun z hz2 => absurd hz2 List.not_mem_nil) (by decide) (by decide) rfl tm_787 (va_Nw.use rfl ((hZ.2.2 _ _ _ hz).2.2.2.2.2.2 _ fw_cast_1)) hl hP hD hS hce hv hcl ?_
      refine jk_astore_n C rd_Law_topOf_12 (by decide) (lv' := [(3, .ref q9), (0, .ref ax), (1, jk_V x1), (2, .ref o)]) rfl ?_
      refine jk_iconst C rd_Law_topOf_13 ?_
      exact jk_eret C rfl rd_Law_topOf_14 rfl (Nat.le_of_ble_eq_true rfl) (Nat.le_of_ble_eq_true rfl)

set_option maxHeartbeats 4000000 in
set_option maxRecDepth 20000 in
theorem wr_firstPendant (l : Launch) (D : va_G) (Z : (Nat → Prop) → State → Heap → Prop) (sq : Nat → Nat) (hZ : jk_ZK Z sq) (hNC : ∀ (A : Nat → Prop) (U : State) (H : Heap), Z A U H → ∀ x ∈ jk_ncs, va_Nc (jk_exc x.1) (jk_exc x.2) U) (cI cR cL : ClassId) {W Wf : va_W} (hN : W.length = 155) {ax : Nat} {fs : List Value} (hx : W[0]? = some (ax, .inr (10, fs))) (o : Nat) (f : Nat → Int64) (x1 : Int) (q : Nat ⊕ (Int × va_W)) (hM : jk_XI l D jk_cl (jk_ty cI cR) Z mn_KR_firstPendant (.code mn_KR_firstPendant mb_KR_firstPendant 3 (some .int) :: jk_WA) (jk_rx 7 1 6 121) [.ref ax, jk_V x1] W q 1 6) {t b : Int} (ho : jk_oc [1] q W Wf t b) (hf : Wf.map (·.1) = W.map (·.1)) : jk_ME l D jk_cl (jk_t3 cI cR cL) Z mn_Law_firstPendant (.codeWith mn_Law_firstPendant mb_Law_firstPendant 4 (some .int) [(0, 9, 12, 13)] :: jk_WA) (jk_rx 8 1 6 143) [.ref ax, jk_V x1, .ref o] (W ++ [(o, .inl (cL, 1, .inr (.inl f)))]) (Wf ++ [(o, .inl (cL, 1, .inr (.inl (jk_oz q f))))]) t 1 6 := by
  intro sz
  refine jk_hbody (by decide +kernel) (fun p e s m args below meth c hsz hz htb C => ?_) (Nat.le_of_ble_eq_true rfl)
  subst hsz
  have C2 := jk_Csub C [0, 1] rfl (tys' := jk_ty cI cR)
  refine jk_aload_n C rd_Law_firstPendant_0 (k := 2) rfl ?_
  refine jk_iconst C rd_Law_firstPendant_1 ?_
  refine jk_aload_n C rd_Law_firstPendant_2 (k := 0) rfl ?_
  refine jk_iload_n C rd_Law_firstPendant_3 (k := 1) rfl ?_
  refine jk_tryX C2 hZ.1 hz hM tm_1031 tm_1032 tm_1033 tm_1 tm_1034 na_KR_firstPendant ⟨Nat.le_of_ble_eq_true rfl, Nat.le_of_ble_eq_true rfl⟩ rfl (List.range 155) (lw_pl hN) (by decide +kernel) (lw_put hN hN) 0 10 (lw_hd hN hx _) rfl rfl (st := [jk_V 0, .ref o]) rfl (Nat.le_of_ble_eq_true rfl) rd_Law_firstPendant_4 ⟨Nat.le_of_ble_eq_true rfl, Nat.le_of_ble_eq_true rfl⟩ (fun z h => ?_) (fun z h => ?_) (fun k H1 locs1 ls q9 ce h hl hP hD hS hce hv hcl => ?_)
  · subst h
    obtain ⟨-, -, h3⟩ := ho
    rw [h3]
    exact hf
  · subst h
    obtain ⟨h1, h2, h3⟩ := ho
    subst h1; subst h2; subst h3
    rw [lw_put hN (lw_len hN hf)]
    refine jk_i2l C rd_Law_firstPendant_7 ?_
    refine jk_last C 155 2 (lw_at (lw_len hN hf) _) rfl rd_Law_firstPendant_8 (lw_set (lw_len hN hf) _ _) ?_
    refine jk_goto (tgt := 15) C rd_Law_firstPendant_9 (by decide) ?_
    refine jk_iconst C rd_Law_firstPendant_15 ?_
    exact jk_eret C rfl rd_Law_firstPendant_16 rfl (Nat.le_of_ble_eq_true rfl) (Nat.le_of_ble_eq_true rfl)
  · subst h
    obtain ⟨j, h1, h2, h3⟩ := ho
    subst h3
    have hj : j < 1 := (List.getElem?_eq_some_iff.mp h1).1
    rcases (show j = 0 by omega) with rfl
    · cases h1
      subst h2
      refine jk_catch C (k := 1) (tgt := 12) [] ⟨0, 9, 12, 13⟩ [] (htb.trans rfl) (fun z hz2 => absurd hz2 List.not_mem_nil) (by decide) (by decide) rfl tm_787 (va_Nw.use rfl ((hZ.2.2 _ _ _ hz).2.2.2.2.2.2 _ fw_cast_1)) hl hP hD hS hce hv hcl ?_
      refine jk_astore_n C rd_Law_firstPendant_12 (by decide) (lv' := [(3, .ref q9), (0, .ref ax), (1, jk_V x1), (2, .ref o)]) rfl ?_
      refine jk_iconst C rd_Law_firstPendant_13 ?_
      exact jk_eret C rfl rd_Law_firstPendant_14 rfl (Nat.le_of_ble_eq_true rfl) (Nat.le_of_ble_eq_true rfl)

set_option maxHeartbeats 4000000 in
set_option maxRecDepth 20000 in
theorem wr_stateOf (l : Launch) (D : va_G) (Z : (Nat → Prop) → State → Heap → Prop) (sq : Nat → Nat) (hZ : jk_ZK Z sq) (hNC : ∀ (A : Nat → Prop) (U : State) (H : Heap), Z A U H → ∀ x ∈ jk_ncs, va_Nc (jk_exc x.1) (jk_exc x.2) U) (cI cR cL : ClassId) {W Wf : va_W} (hN : W.length = 155) {ax : Nat} {fs : List Value} (hx : W[0]? = some (ax, .inr (10, fs))) (o : Nat) (f : Nat → Int64) (x1 : Int) (q : Nat ⊕ (Int × va_W)) (hM : jk_XI l D jk_cl (jk_ty cI cR) Z mn_KR_stateOf (.code mn_KR_stateOf mb_KR_stateOf 2 (some .int) :: jk_WA) (jk_rx 7 1 6 121) [.ref ax, jk_V x1] W q 1 6) {t b : Int} (ho : jk_oc [1] q W Wf t b) (hf : Wf.map (·.1) = W.map (·.1)) : jk_ME l D jk_cl (jk_t3 cI cR cL) Z mn_Law_stateOf (.codeWith mn_Law_stateOf mb_Law_stateOf 4 (some .int) [(0, 9, 12, 13)] :: jk_WA) (jk_rx 8 1 6 142) [.ref ax, jk_V x1, .ref o] (W ++ [(o, .inl (cL, 1, .inr (.inl f)))]) (Wf ++ [(o, .inl (cL, 1, .inr (.inl (jk_oz q f))))]) t 1 6 := by
  intro sz
  refine jk_hbody (by decide +kernel) (fun p e s m args below meth c hsz hz htb C => ?_) (Nat.le_of_ble_eq_true rfl)
  subst hsz
  have C2 := jk_Csub C [0, 1] rfl (tys' := jk_ty cI cR)
  refine jk_aload_n C rd_Law_stateOf_0 (k := 2) rfl ?_
  refine jk_iconst C rd_Law_stateOf_1 ?_
  refine jk_aload_n C rd_Law_stateOf_2 (k := 0) rfl ?_
  refine jk_iload_n C rd_Law_stateOf_3 (k := 1) rfl ?_
  refine jk_tryX C2 hZ.1 hz hM tm_1039 tm_1040 tm_1041 tm_1 tm_1042 na_KR_stateOf ⟨Nat.le_of_ble_eq_true rfl, Nat.le_of_ble_eq_true rfl⟩ rfl (List.range 155) (lw_pl hN) (by decide +kernel) (lw_put hN hN) 0 10 (lw_hd hN hx _) rfl rfl (st := [jk_V 0, .ref o]) rfl (Nat.le_of_ble_eq_true rfl) rd_Law_stateOf_4 ⟨Nat.le_of_ble_eq_true rfl, Nat.le_of_ble_eq_true rfl⟩ (fun z h => ?_) (fun z h => ?_) (fun k H1 locs1 ls q9 ce h hl hP hD hS hce hv hcl => ?_)
  · subst h
    obtain ⟨-, -, h3⟩ := ho
    rw [h3]
    exact hf
  · subst h
    obtain ⟨h1, h2, h3⟩ := ho
    subst h1; subst h2; subst h3
    rw [lw_put hN (lw_len hN hf)]
    refine jk_i2l C rd_Law_stateOf_7 ?_
    refine jk_last C 155 2 (lw_at (lw_len hN hf) _) rfl rd_Law_stateOf_8 (lw_set (lw_len hN hf) _ _) ?_
    refine jk_goto (tgt := 15) C rd_Law_stateOf_9 (by decide) ?_
    refine jk_iconst C rd_Law_stateOf_15 ?_
    exact jk_eret C rfl rd_Law_stateOf_16 rfl (Nat.le_of_ble_eq_true rfl) (Nat.le_of_ble_eq_true rfl)
  · subst h
    obtain ⟨j, h1, h2, h3⟩ := ho
    subst h3
    have hj : j < 1 := (List.getElem?_eq_some_iff.mp h1).1
    rcases (show j = 0 by omega) with rfl
    · cases h1
      subst h2
      refine jk_catch C (k := 1) (tgt := 12) [] ⟨0, 9, 12, 13⟩ [] (htb.trans rfl) (fun z hz2 => absurd hz2 List.not_mem_nil) (by decide) (by decide) rfl tm_787 (va_Nw.use rfl ((hZ.2.2 _ _ _ hz).2.2.2.2.2.2 _ fw_cast_1)) hl hP hD hS hce hv hcl ?_
      refine jk_astore_n C rd_Law_stateOf_12 (by decide) (lv' := [(3, .ref q9), (0, .ref ax), (1, jk_V x1), (2, .ref o)]) rfl ?_
      refine jk_iconst C rd_Law_stateOf_13 ?_
      exact jk_eret C rfl rd_Law_stateOf_14 rfl (Nat.le_of_ble_eq_true rfl) (Nat.le_of_ble_eq_true rfl)

set_option maxHeartbeats 4000000 in
set_option maxRecDepth 20000 in
theorem wr_guessObstacle (l : Launch) (D : va_G) (Z : (Nat → Prop) → State → Heap → Prop) (sq : Nat → Nat) (hZ : jk_ZK Z sq) (hNC : ∀ (A : Nat → Prop) (U : State) (H : Heap), Z A U H → ∀ x ∈ jk_ncs, va_Nc (jk_exc x.1) (jk_exc x.2) U) (cI cR cL : ClassId) {W Wf : va_W} (hN : W.length = 155) {ax : Nat} {fs : List Value} (hx : W[0]? = some (ax, .inr (10, fs))) (o : Nat) (f : Nat → Int64) (x1 : Int) (q : Nat ⊕ (Int × va_W)) (hM : jk_XI l D jk_cl (jk_ty cI cR) Z mn_KR_guessObstacle (.code mn_KR_guessObstacle mb_KR_guessObstacle 2 (some .int) :: jk_WA) (jk_rx 7 1 6 121) [.ref ax, jk_V x1] W q 1 6) {t b : Int} (ho : jk_oc [1] q W Wf t b) (hf : Wf.map (·.1) = W.map (·.1)) : jk_ME l D jk_cl (jk_t3 cI cR cL) Z mn_Law_guessObstacle (.codeWith mn_Law_guessObstacle mb_Law_guessObstacle 4 (some .int) [(0, 9, 12, 13)] :: jk_WA) (jk_rx 8 1 6 142) [.ref ax, jk_V x1, .ref o] (W ++ [(o, .inl (cL, 1, .inr (.inl f)))]) (Wf ++ [(o, .inl (cL, 1, .inr (.inl (jk_oz q f))))]) t 1 6 := by
  intro sz
  refine jk_hbody (by decide +kernel) (fun p e s m args below meth c hsz hz htb C => ?_) (Nat.le_of_ble_eq_true rfl)
  subst hsz
  have C2 := jk_Csub C [0, 1] rfl (tys' := jk_ty cI cR)
  refine jk_aload_n C rd_Law_guessObstacle_0 (k := 2) rfl ?_
  refine jk_iconst C rd_Law_guessObstacle_1 ?_
  refine jk_aload_n C rd_Law_guessObstacle_2 (k := 0) rfl ?_
  refine jk_iload_n C rd_Law_guessObstacle_3 (k := 1) rfl ?_
  refine jk_tryX C2 hZ.1 hz hM tm_1046 tm_1047 tm_1048 tm_1 tm_1049 na_KR_guessObstacle ⟨Nat.le_of_ble_eq_true rfl, Nat.le_of_ble_eq_true rfl⟩ rfl (List.range 155) (lw_pl hN) (by decide +kernel) (lw_put hN hN) 0 10 (lw_hd hN hx _) rfl rfl (st := [jk_V 0, .ref o]) rfl (Nat.le_of_ble_eq_true rfl) rd_Law_guessObstacle_4 ⟨Nat.le_of_ble_eq_true rfl, Nat.le_of_ble_eq_true rfl⟩ (fun z h => ?_) (fun z h => ?_) (fun k H1 locs1 ls q9 ce h hl hP hD hS hce hv hcl => ?_)
  · subst h
    obtain ⟨-, -, h3⟩ := ho
    rw [h3]
    exact hf
  · subst h
    obtain ⟨h1, h2, h3⟩ := ho
    subst h1; subst h2; subst h3
    rw [lw_put hN (lw_len hN hf)]
    refine jk_i2l C rd_Law_guessObstacle_7 ?_
    refine jk_last C 155 2 (lw_at (lw_len hN hf) _) rfl rd_Law_guessObstacle_8 (lw_set (lw_len hN hf) _ _) ?_
    refine jk_goto (tgt := 15) C rd_Law_guessObstacle_9 (by decide) ?_
    refine jk_iconst C rd_Law_guessObstacle_15 ?_
    exact jk_eret C rfl rd_Law_guessObstacle_16 rfl (Nat.le_of_ble_eq_true rfl) (Nat.le_of_ble_eq_true rfl)
  · subst h
    obtain ⟨j, h1, h2, h3⟩ := ho
    subst h3
    have hj : j < 1 := (List.getElem?_eq_some_iff.mp h1).1
    rcases (show j = 0 by omega) with rfl
    · cases h1
      subst h2
      refine jk_catch C (k := 1) (tgt := 12) [] ⟨0, 9, 12, 13⟩ [] (htb.trans rfl) (fun z hz2 => absurd hz2 List.not_mem_nil) (by decide) (by decide) rfl tm_787 (va_Nw.use rfl ((hZ.2.2 _ _ _ hz).2.2.2.2.2.2 _ fw_cast_1)) hl hP hD hS hce hv hcl ?_
      refine jk_astore_n C rd_Law_guessObstacle_12 (by decide) (lv' := [(3, .ref q9), (0, .ref ax), (1, jk_V x1), (2, .ref o)]) rfl ?_
      refine jk_iconst C rd_Law_guessObstacle_13 ?_
      exact jk_eret C rfl rd_Law_guessObstacle_14 rfl (Nat.le_of_ble_eq_true rfl) (Nat.le_of_ble_eq_true rfl)

set_option maxHeartbeats 4000000 in
set_option maxRecDepth 20000 in
theorem wr_sumOf (l : Launch) (D : va_G) (Z : (Nat → Prop) → State → Heap → Prop) (sq : Nat → Nat) (hZ : jk_ZK Z sq) (hNC : ∀ (A : Nat → Prop) (U : State) (H : Heap), Z A U H → ∀ x ∈ jk_ncs, va_Nc (jk_exc x.1) (jk_exc x.2) U) (cI cR cL : ClassId) {W Wf : va_W} (hN : W.length = 155) {ax : Nat} {fs : List Value} (hx : W[0]? = some (ax, .inr (10, fs))) (o : Nat) (f : Nat → Int64) (x1 : Int) (q : Nat ⊕ (Int × va_W)) (hM : jk_XI l D jk_cl (jk_ty cI cR) Z mn_KR_sumOf (.code mn_KR_sumOf mb_KR_sumOf 2 (some .int) :: jk_WA) (jk_rx 7 2 12 121) [.ref ax, jk_V x1] W q 2 12) {t b : Int} (ho : jk_oc [1, 4] q W Wf t b) (hf : Wf.map (·.1) = W.map (·.1)) : jk_ME l D jk_cl (jk_t3 cI cR cL) Z mn_Law_sumOf (.codeWith mn_Law_sumOf mb_Law_sumOf 4 (some .int) [(0, 9, 12, 13), (0, 9, 15, 55)] :: jk_WA) (jk_rx 8 2 12 142) [.ref ax, jk_V x1, .ref o] (W ++ [(o, .inl (cL, 1, .inr (.inl f)))]) (Wf ++ [(o, .inl (cL, 1, .inr (.inl (jk_oz q f))))]) t 2 12 := by
  intro sz
  refine jk_hbody (by decide +kernel) (fun p e s m args below meth c hsz hz htb C => ?_) (Nat.le_of_ble_eq_true rfl)
  subst hsz
  have C2 := jk_Csub C [0, 1] rfl (tys' := jk_ty cI cR)
  refine jk_aload_n C rd_Law_sumOf_0 (k := 2) rfl ?_
  refine jk_iconst C rd_Law_sumOf_1 ?_
  refine jk_aload_n C rd_Law_sumOf_2 (k := 0) rfl ?_
  refine jk_iload_n C rd_Law_sumOf_3 (k := 1) rfl ?_
  refine jk_tryX C2 hZ.1 hz hM tm_1053 tm_1054 tm_1055 tm_1 tm_1056 na_KR_sumOf ⟨Nat.le_of_ble_eq_true rfl, Nat.le_of_ble_eq_true rfl⟩ rfl (List.range 155) (lw_pl hN) (by decide +kernel) (lw_put hN hN) 0 10 (lw_hd hN hx _) rfl rfl (st := [jk_V 0, .ref o]) rfl (Nat.le_of_ble_eq_true rfl) rd_Law_sumOf_4 ⟨Nat.le_of_ble_eq_true rfl, Nat.le_of_ble_eq_true rfl⟩ (fun z h => ?_) (fun z h => ?_) (fun k H1 locs1 ls q9 ce h hl hP hD hS hce hv hcl => ?_)
  · subst h
    obtain ⟨-, -, h3⟩ := ho
    rw [h3]
    exact hf
  · subst h
    obtain ⟨h1, h2, h3⟩ := ho
    subst h1; subst h2; subst h3
    rw [lw_put hN (lw_len hN hf)]
    refine jk_i2l C rd_Law_sumOf_7 ?_
    refine jk_last C 155 2 (lw_at (lw_len hN hf) _) rfl rd_Law_sumOf_8 (lw_set (lw_len hN hf) _ _) ?_
    refine jk_goto (tgt := 18) C rd_Law_sumOf_9 (by decide) ?_
    refine jk_iconst C rd_Law_sumOf_18 ?_
    exact jk_eret C rfl rd_Law_sumOf_19 rfl (Nat.le_of_ble_eq_true rfl) (Nat.le_of_ble_eq_true rfl)
  · subst h
    obtain ⟨j, h1, h2, h3⟩ := ho
    subst h3
    have hj : j < 2 := (List.getElem?_eq_some_iff.mp h1).1
    rcases (show j = 0 ∨ j = 1 by omega) with rfl | rfl
    · cases h1
      subst h2
      refine jk_catch C (k := 1) (tgt := 12) [] ⟨0, 9, 12, 13⟩ [⟨0, 9, 15, 55⟩] (htb.trans rfl) (fun z hz2 => absurd hz2 List.not_mem_nil) (by decide) (by decide) rfl tm_787 (va_Nw.use rfl ((hZ.2.2 _ _ _ hz).2.2.2.2.2.2 _ fw_cast_1)) hl hP hD hS hce hv hcl ?_
      refine jk_astore_n C rd_Law_sumOf_12 (by decide) (lv' := [(3, .ref q9), (0, .ref ax), (1, jk_V x1), (2, .ref o)]) rfl ?_
      refine jk_iconst C rd_Law_sumOf_13 ?_
      exact jk_eret C rfl rd_Law_sumOf_14 rfl (Nat.le_of_ble_eq_true rfl) (Nat.le_of_ble_eq_true rfl)
    · cases h1
      subst h2
      refine jk_catch C (k := 4) (tgt := 15) [⟨0, 9, 12, 13⟩] ⟨0, 9, 15, 55⟩ [] (htb.trans rfl) (List.forall_mem_cons.mpr ⟨Or.inr ⟨by decide, _, C.1.2.2.2.2 _ tm_787, hNC _ _ _ hz (4, 1) (by decide)⟩, fun z hz2 => absurd hz2 List.not_mem_nil⟩) (by decide) (by decide) rfl tm_981 (va_Nw.use rfl ((hZ.2.2 _ _ _ hz).2.2.2.2.2.2 _ fw_cast_4)) hl hP hD hS hce hv hcl ?_
      refine jk_astore_n C rd_Law_sumOf_15 (by decide) (lv' := [(3, .ref q9), (0, .ref ax), (1, jk_V x1), (2, .ref o)]) rfl ?_
      refine jk_iconst C rd_Law_sumOf_16 ?_
      exact jk_eret C rfl rd_Law_sumOf_17 rfl (Nat.le_of_ble_eq_true rfl) (Nat.le_of_ble_eq_true rfl)

set_option maxHeartbeats 4000000 in
set_option maxRecDepth 20000 in
theorem wr_guessIn (l : Launch) (D : va_G) (Z : (Nat → Prop) → State → Heap → Prop) (sq : Nat → Nat) (hZ : jk_ZK Z sq) (hNC : ∀ (A : Nat → Prop) (U : State) (H : Heap), Z A U H → ∀ x ∈ jk_ncs, va_Nc (jk_exc x.1) (jk_exc x.2) U) (cI cR cL : ClassId) {W Wf : va_W} (hN : W.length = 155) {ax : Nat} {fs : List Value} (hx : W[0]? = some (ax, .inr (10, fs))) (o : Nat) (f : Nat → Int64) (x1 : Int) (q : Nat ⊕ (Int × va_W)) (hM : jk_XI l D jk_cl (jk_ty cI cR) Z mn_KR_guessIn (.code mn_KR_guessIn mb_KR_guessIn 2 (some .int) :: jk_WA) (jk_rx 7 2 12 121) [.ref ax, jk_V x1] W q 2 12) {t b : Int} (ho : jk_oc [1, 4] q W Wf t b) (hf : Wf.map (·.1) = W.map (·.1)) : jk_ME l D jk_cl (jk_t3 cI cR cL) Z mn_Law_guessIn (.codeWith mn_Law_guessIn mb_Law_guessIn 4 (some .int) [(0, 9, 12, 13), (0, 9, 15, 55)] :: jk_WA) (jk_rx 8 2 12 142) [.ref ax, jk_V x1, .ref o] (W ++ [(o, .inl (cL, 1, .inr (.inl f)))]) (Wf ++ [(o, .inl (cL, 1, .inr (.inl (jk_oz q f))))]) t 2 12 := by
  intro sz
  refine jk_hbody (by decide +kernel) (fun p e s m args below meth c hsz hz htb C => ?_) (Nat.le_of_ble_eq_true rfl)
  subst hsz
  have C2 := jk_Csub C [0, 1] rfl (tys' := jk_ty cI cR)
  refine jk_aload_n C rd_Law_guessIn_0 (k := 2) rfl ?_
  refine jk_iconst C rd_Law_guessIn_1 ?_
  refine jk_aload_n C rd_Law_guessIn_2 (k := 0) rfl ?_
  refine jk_iload_n C rd_Law_guessIn_3 (k := 1) rfl ?_
  refine jk_tryX C2 hZ.1 hz hM tm_1061 tm_1062 tm_1063 tm_1 tm_1064 na_KR_guessIn ⟨Nat.le_of_ble_eq_true rfl, Nat.le_of_ble_eq_true rfl⟩ rfl (List.range 155) (lw_pl hN) (by decide +kernel) (lw_put hN hN) 0 10 (lw_hd hN hx _) rfl rfl (st := [jk_V 0, .ref o]) rfl (Nat.le_of_ble_eq_true rfl) rd_Law_guessIn_4 ⟨Nat.le_of_ble_eq_true rfl, Nat.le_of_ble_eq_true rfl⟩ (fun z h => ?_) (fun z h => ?_) (fun k H1 locs1 ls q9 ce h hl hP hD hS hce hv hcl => ?_)
  · subst h
    obtain ⟨-, -, h3⟩ := ho
    rw [h3]
    exact hf
  · subst h
    obtain ⟨h1, h2, h3⟩ := ho
    subst h1; subst h2; subst h3
    rw [lw_put hN (lw_len hN hf)]
    refine jk_i2l C rd_Law_guessIn_7 ?_
    refine jk_last C 155 2 (lw_at (lw_len hN hf) _) rfl rd_Law_guessIn_8 (lw_set (lw_len hN hf) _ _) ?_
    refine jk_goto (tgt := 18) C rd_Law_guessIn_9 (by decide) ?_
    refine jk_iconst C rd_Law_guessIn_18 ?_
    exact jk_eret C rfl rd_Law_guessIn_19 rfl (Nat.le_of_ble_eq_true rfl) (Nat.le_of_ble_eq_true rfl)
  · subst h
    obtain ⟨j, h1, h2, h3⟩ := ho
    subst h3
    have hj : j < 2 := (List.getElem?_eq_some_iff.mp h1).1
    rcases (show j = 0 ∨ j = 1 by omega) with rfl | rfl
    · cases h1
      subst h2
      refine jk_catch C (k := 1) (tgt := 12) [] ⟨0, 9, 12, 13⟩ [⟨0, 9, 15, 55⟩] (htb.trans rfl) (fun z hz2 => absurd hz2 List.not_mem_nil) (by decide) (by decide) rfl tm_787 (va_Nw.use rfl ((hZ.2.2 _ _ _ hz).2.2.2.2.2.2 _ fw_cast_1)) hl hP hD hS hce hv hcl ?_
      refine jk_astore_n C rd_Law_guessIn_12 (by decide) (lv' := [(3, .ref q9), (0, .ref ax), (1, jk_V x1), (2, .ref o)]) rfl ?_
      refine jk_iconst C rd_Law_guessIn_13 ?_
      exact jk_eret C rfl rd_Law_guessIn_14 rfl (Nat.le_of_ble_eq_true rfl) (Nat.le_of_ble_eq_true rfl)
    · cases h1
      subst h2
      refine jk_catch C (k := 4) (tgt := 15) [⟨0, 9, 12, 13⟩] ⟨0, 9, 15, 55⟩ [] (htb.trans rfl) (List.forall_mem_cons.mpr ⟨Or.inr ⟨by decide, _, C.1.2.2.2.2 _ tm_787, hNC _ _ _ hz (4, 1) (by decide)⟩, fun z hz2 => absurd hz2 List.not_mem_nil⟩) (by decide) (by decide) rfl tm_981 (va_Nw.use rfl ((hZ.2.2 _ _ _ hz).2.2.2.2.2.2 _ fw_cast_4)) hl hP hD hS hce hv hcl ?_
      refine jk_astore_n C rd_Law_guessIn_15 (by decide) (lv' := [(3, .ref q9), (0, .ref ax), (1, jk_V x1), (2, .ref o)]) rfl ?_
      refine jk_iconst C rd_Law_guessIn_16 ?_
      exact jk_eret C rfl rd_Law_guessIn_17 rfl (Nat.le_of_ble_eq_true rfl) (Nat.le_of_ble_eq_true rfl)

set_option maxHeartbeats 4000000 in
set_option maxRecDepth 20000 in
theorem wr_nibbledCord (l : Launch) (D : va_G) (Z : (Nat → Prop) → State → Heap → Prop) (sq : Nat → Nat) (hZ : jk_ZK Z sq) (hNC : ∀ (A : Nat → Prop) (U : State) (H : Heap), Z A U H → ∀ x ∈ jk_ncs, va_Nc (jk_exc x.1) (jk_exc x.2) U) (cI cR cL : ClassId) {W Wf : va_W} (hN : W.length = 155) {ax : Nat} {fs : List Value} (hx : W[0]? = some (ax, .inr (10, fs))) (o : Nat) (f : Nat → Int64) (x1 : Int) (q : Nat ⊕ (Int × va_W)) (hM : jk_XI l D jk_cl (jk_ty cI cR) Z mn_KR_nibbledCord (.code mn_KR_nibbledCord mb_KR_nibbledCord 2 (some .int) :: jk_WA) (jk_rx 7 1 6 121) [.ref ax, jk_V x1] W q 1 6) {t b : Int} (ho : jk_oc [1] q W Wf t b) (hf : Wf.map (·.1) = W.map (·.1)) : jk_ME l D jk_cl (jk_t3 cI cR cL) Z mn_Law_nibbledCord (.codeWith mn_Law_nibbledCord mb_Law_nibbledCord 4 (some .int) [(0, 9, 12, 13)] :: jk_WA) (jk_rx 8 1 6 142) [.ref ax, jk_V x1, .ref o] (W ++ [(o, .inl (cL, 1, .inr (.inl f)))]) (Wf ++ [(o, .inl (cL, 1, .inr (.inl (jk_oz q f))))]) t 1 6 := by
  intro sz
  refine jk_hbody (by decide +kernel) (fun p e s m args below meth c hsz hz htb C => ?_) (Nat.le_of_ble_eq_true rfl)
  subst hsz
  have C2 := jk_Csub C [0, 1] rfl (tys' := jk_ty cI cR)
  refine jk_aload_n C rd_Law_nibbledCord_0 (k := 2) rfl ?_
  refine jk_iconst C rd_Law_nibbledCord_1 ?_
  refine jk_aload_n C rd_Law_nibbledCord_2 (k := 0) rfl ?_
  refine jk_iload_n C rd_Law_nibbledCord_3 (k := 1) rfl ?_
  refine jk_tryX C2 hZ.1 hz hM tm_1070 tm_1071 tm_1072 tm_1 tm_1073 na_KR_nibbledCord ⟨Nat.le_of_ble_eq_true rfl, Nat.le_of_ble_eq_true rfl⟩ rfl (List.range 155) (lw_pl hN) (by decide +kernel) (lw_put hN hN) 0 10 (lw_hd hN hx _) rfl rfl (st := [jk_V 0, .ref o]) rfl (Nat.le_of_ble_eq_true rfl) rd_Law_nibbledCord_4 ⟨Nat.le_of_ble_eq_true rfl, Nat.le_of_ble_eq_true rfl⟩ (fun z h => ?_) (fun z h => ?_) (fun k H1 locs1 ls q9 ce h hl hP hD hS hce hv hcl => ?_)
  · subst h
    obtain ⟨-, -, h3⟩ := ho
    rw [h3]
    exact hf
  · subst h
    obtain ⟨h1, h2, h3⟩ := ho
    subst h1; subst h2; subst h3
    rw [lw_put hN (lw_len hN hf)]
    refine jk_i2l C rd_Law_nibbledCord_7 ?_
    refine jk_last C 155 2 (lw_at (lw_len hN hf) _) rfl rd_Law_nibbledCord_8 (lw_set (lw_len hN hf) _ _) ?_
    refine jk_goto (tgt := 15) C rd_Law_nibbledCord_9 (by decide) ?_
    refine jk_iconst C rd_Law_nibbledCord_15 ?_
    exact jk_eret C rfl rd_Law_nibbledCord_16 rfl (Nat.le_of_ble_eq_true rfl) (Nat.le_of_ble_eq_true rfl)
  · subst h
    obtain ⟨j, h1, h2, h3⟩ := ho
    subst h3
    have hj : j < 1 := (List.getElem?_eq_some_iff.mp h1).1
    rcases (show j = 0 by omega) with rfl
    · cases h1
      subst h2
      refine jk_catch C (k := 1) (tgt := 12) [] ⟨0, 9, 12, 13⟩ [] (htb.trans rfl) (fun z hz2 => absurd hz2 List.not_mem_nil) (by decide) (by decide) rfl tm_787 (va_Nw.use rfl ((hZ.2.2 _ _ _ hz).2.2.2.2.2.2 _ fw_cast_1)) hl hP hD hS hce hv hcl ?_
      refine jk_astore_n C rd_Law_nibbledCord_12 (by decide) (lv' := [(3, .ref q9), (0, .ref ax), (1, jk_V x1), (2, .ref o)]) rfl ?_
      refine jk_iconst C rd_Law_nibbledCord_13 ?_
      exact jk_eret C rfl rd_Law_nibbledCord_14 rfl (Nat.le_of_ble_eq_true rfl) (Nat.le_of_ble_eq_true rfl)

set_option maxHeartbeats 4000000 in
set_option maxRecDepth 20000 in
theorem wr_cordsOfTopic (l : Launch) (D : va_G) (Z : (Nat → Prop) → State → Heap → Prop) (sq : Nat → Nat) (hZ : jk_ZK Z sq) (hNC : ∀ (A : Nat → Prop) (U : State) (H : Heap), Z A U H → ∀ x ∈ jk_ncs, va_Nc (jk_exc x.1) (jk_exc x.2) U) (cI cR cL : ClassId) {W Wf : va_W} (hN : W.length = 155) {ax : Nat} {fs : List Value} (hx : W[0]? = some (ax, .inr (10, fs))) (o : Nat) (f : Nat → Int64) (x1 : Int) (q : Nat ⊕ (Int × va_W)) (hM : jk_XI l D jk_cl (jk_ty cI cR) Z mn_KR_cordsOfTopic (.code mn_KR_cordsOfTopic mb_KR_cordsOfTopic 2 (some .int) :: jk_WA) (jk_rx 7 1 6 121) [.ref ax, jk_V x1] W q 1 6) {t b : Int} (ho : jk_oc [1] q W Wf t b) (hf : Wf.map (·.1) = W.map (·.1)) : jk_ME l D jk_cl (jk_t3 cI cR cL) Z mn_Law_cordsOfTopic (.codeWith mn_Law_cordsOfTopic mb_Law_cordsOfTopic 4 (some .int) [(0, 9, 12, 13)] :: jk_WA) (jk_rx 8 1 6 142) [.ref ax, jk_V x1, .ref o] (W ++ [(o, .inl (cL, 1, .inr (.inl f)))]) (Wf ++ [(o, .inl (cL, 1, .inr (.inl (jk_oz q f))))]) t 1 6 := by
  intro sz
  refine jk_hbody (by decide +kernel) (fun p e s m args below meth c hsz hz htb C => ?_) (Nat.le_of_ble_eq_true rfl)
  subst hsz
  have C2 := jk_Csub C [0, 1] rfl (tys' := jk_ty cI cR)
  refine jk_aload_n C rd_Law_cordsOfTopic_0 (k := 2) rfl ?_
  refine jk_iconst C rd_Law_cordsOfTopic_1 ?_
  refine jk_aload_n C rd_Law_cordsOfTopic_2 (k := 0) rfl ?_
  refine jk_iload_n C rd_Law_cordsOfTopic_3 (k := 1) rfl ?_
  refine jk_tryX C2 hZ.1 hz hM tm_1078 tm_1079 tm_1080 tm_1 tm_1081 na_KR_cordsOfTopic ⟨Nat.le_of_ble_eq_true rfl, Nat.le_of_ble_eq_true rfl⟩ rfl (List.range 155) (lw_pl hN) (by decide +kernel) (lw_put hN hN) 0 10 (lw_hd hN hx _) rfl rfl (st := [jk_V 0, .ref o]) rfl (Nat.le_of_ble_eq_true rfl) rd_Law_cordsOfTopic_4 ⟨Nat.le_of_ble_eq_true rfl, Nat.le_of_ble_eq_true rfl⟩ (fun z h => ?_) (fun z h => ?_) (fun k H1 locs1 ls q9 ce h hl hP hD hS hce hv hcl => ?_)
  · subst h
    obtain ⟨-, -, h3⟩ := ho
    rw [h3]
    exact hf
  · subst h
    obtain ⟨h1, h2, h3⟩ := ho
    subst h1; subst h2; subst h3
    rw [lw_put hN (lw_len hN hf)]
    refine jk_i2l C rd_Law_cordsOfTopic_7 ?_
    refine jk_last C 155 2 (lw_at (lw_len hN hf) _) rfl rd_Law_cordsOfTopic_8 (lw_set (lw_len hN hf) _ _) ?_
    refine jk_goto (tgt := 15) C rd_Law_cordsOfTopic_9 (by decide) ?_
    refine jk_iconst C rd_Law_cordsOfTopic_15 ?_
    exact jk_eret C rfl rd_Law_cordsOfTopic_16 rfl (Nat.le_of_ble_eq_true rfl) (Nat.le_of_ble_eq_true rfl)
  · subst h
    obtain ⟨j, h1, h2, h3⟩ := ho
    subst h3
    have hj : j < 1 := (List.getElem?_eq_some_iff.mp h1).1
    rcases (show j = 0 by omega) with rfl
    · cases h1
      subst h2
      refine jk_catch C (k := 1) (tgt := 12) [] ⟨0, 9, 12, 13⟩ [] (htb.trans rfl) (fun z hz2 => absurd hz2 List.not_mem_nil) (by decide) (by decide) rfl tm_787 (va_Nw.use rfl ((hZ.2.2 _ _ _ hz).2.2.2.2.2.2 _ fw_cast_1)) hl hP hD hS hce hv hcl ?_
      refine jk_astore_n C rd_Law_cordsOfTopic_12 (by decide) (lv' := [(3, .ref q9), (0, .ref ax), (1, jk_V x1), (2, .ref o)]) rfl ?_
      refine jk_iconst C rd_Law_cordsOfTopic_13 ?_
      exact jk_eret C rfl rd_Law_cordsOfTopic_14 rfl (Nat.le_of_ble_eq_true rfl) (Nat.le_of_ble_eq_true rfl)

set_option maxHeartbeats 4000000 in
set_option maxRecDepth 20000 in
theorem wr_sumOfTopic (l : Launch) (D : va_G) (Z : (Nat → Prop) → State → Heap → Prop) (sq : Nat → Nat) (hZ : jk_ZK Z sq) (hNC : ∀ (A : Nat → Prop) (U : State) (H : Heap), Z A U H → ∀ x ∈ jk_ncs, va_Nc (jk_exc x.1) (jk_exc x.2) U) (cI cR cL : ClassId) {W Wf : va_W} (hN : W.length = 155) {ax : Nat} {fs : List Value} (hx : W[0]? = some (ax, .inr (10, fs))) (o : Nat) (f : Nat → Int64) (x1 : Int) (q : Nat ⊕ (Int × va_W)) (hM : jk_XI l D jk_cl (jk_ty cI cR) Z mn_KR_sumOfTopic (.code mn_KR_sumOfTopic mb_KR_sumOfTopic 4 (some .int) :: jk_WA) (jk_rx 7 1 6 121) [.ref ax, jk_V x1] W q 1 6) {t b : Int} (ho : jk_oc [1] q W Wf t b) (hf : Wf.map (·.1) = W.map (·.1)) : jk_ME l D jk_cl (jk_t3 cI cR cL) Z mn_Law_sumOfTopic (.codeWith mn_Law_sumOfTopic mb_Law_sumOfTopic 4 (some .int) [(0, 9, 12, 13)] :: jk_WA) (jk_rx 8 1 6 144) [.ref ax, jk_V x1, .ref o] (W ++ [(o, .inl (cL, 1, .inr (.inl f)))]) (Wf ++ [(o, .inl (cL, 1, .inr (.inl (jk_oz q f))))]) t 1 6 := by
  intro sz
  refine jk_hbody (by decide +kernel) (fun p e s m args below meth c hsz hz htb C => ?_) (Nat.le_of_ble_eq_true rfl)
  subst hsz
  have C2 := jk_Csub C [0, 1] rfl (tys' := jk_ty cI cR)
  refine jk_aload_n C rd_Law_sumOfTopic_0 (k := 2) rfl ?_
  refine jk_iconst C rd_Law_sumOfTopic_1 ?_
  refine jk_aload_n C rd_Law_sumOfTopic_2 (k := 0) rfl ?_
  refine jk_iload_n C rd_Law_sumOfTopic_3 (k := 1) rfl ?_
  refine jk_tryX C2 hZ.1 hz hM tm_1085 tm_1086 tm_1087 tm_1 tm_1088 na_KR_sumOfTopic ⟨Nat.le_of_ble_eq_true rfl, Nat.le_of_ble_eq_true rfl⟩ rfl (List.range 155) (lw_pl hN) (by decide +kernel) (lw_put hN hN) 0 10 (lw_hd hN hx _) rfl rfl (st := [jk_V 0, .ref o]) rfl (Nat.le_of_ble_eq_true rfl) rd_Law_sumOfTopic_4 ⟨Nat.le_of_ble_eq_true rfl, Nat.le_of_ble_eq_true rfl⟩ (fun z h => ?_) (fun z h => ?_) (fun k H1 locs1 ls q9 ce h hl hP hD hS hce hv hcl => ?_)
  · subst h
    obtain ⟨-, -, h3⟩ := ho
    rw [h3]
    exact hf
  · subst h
    obtain ⟨h1, h2, h3⟩ := ho
    subst h1; subst h2; subst h3
    rw [lw_put hN (lw_len hN hf)]
    refine jk_i2l C rd_Law_sumOfTopic_7 ?_
    refine jk_last C 155 2 (lw_at (lw_len hN hf) _) rfl rd_Law_sumOfTopic_8 (lw_set (lw_len hN hf) _ _) ?_
    refine jk_goto (tgt := 15) C rd_Law_sumOfTopic_9 (by decide) ?_
    refine jk_iconst C rd_Law_sumOfTopic_15 ?_
    exact jk_eret C rfl rd_Law_sumOfTopic_16 rfl (Nat.le_of_ble_eq_true rfl) (Nat.le_of_ble_eq_true rfl)
  · subst h
    obtain ⟨j, h1, h2, h3⟩ := ho
    subst h3
    have hj : j < 1 := (List.getElem?_eq_some_iff.mp h1).1
    rcases (show j = 0 by omega) with rfl
    · cases h1
      subst h2
      refine jk_catch C (k := 1) (tgt := 12) [] ⟨0, 9, 12, 13⟩ [] (htb.trans rfl) (fun z hz2 => absurd hz2 List.not_mem_nil) (by decide) (by decide) rfl tm_787 (va_Nw.use rfl ((hZ.2.2 _ _ _ hz).2.2.2.2.2.2 _ fw_cast_1)) hl hP hD hS hce hv hcl ?_
      refine jk_astore_n C rd_Law_sumOfTopic_12 (by decide) (lv' := [(3, .ref q9), (0, .ref ax), (1, jk_V x1), (2, .ref o)]) rfl ?_
      refine jk_iconst C rd_Law_sumOfTopic_13 ?_
      exact jk_eret C rfl rd_Law_sumOfTopic_14 rfl (Nat.le_of_ble_eq_true rfl) (Nat.le_of_ble_eq_true rfl)

set_option maxHeartbeats 4000000 in
set_option maxRecDepth 20000 in
theorem wr_addCluster (l : Launch) (D : va_G) (Z : (Nat → Prop) → State → Heap → Prop) (sq : Nat → Nat) (hZ : jk_ZK Z sq) (hNC : ∀ (A : Nat → Prop) (U : State) (H : Heap), Z A U H → ∀ x ∈ jk_ncs, va_Nc (jk_exc x.1) (jk_exc x.2) U) (cI cR cL : ClassId) {W Wf : va_W} (hN : W.length = 155) {ax : Nat} {fs : List Value} (hx : W[0]? = some (ax, .inr (10, fs))) (o : Nat) (f : Nat → Int64) (q : Nat ⊕ (Int × va_W)) (hM : jk_XI l D jk_cl (jk_ty cI cR) Z mn_KR_addCluster (.code mn_KR_addCluster mb_KR_addCluster 1 (some .int) :: jk_WA) (jk_rx 7 3 18 143) [.ref ax] W q 3 18) {t b : Int} (ho : jk_oc [3] q W Wf t b) (hf : Wf.map (·.1) = W.map (·.1)) : jk_ME l D jk_cl (jk_t3 cI cR cL) Z mn_Law_addCluster (.codeWith mn_Law_addCluster mb_Law_addCluster 3 (some .int) [(0, 8, 11, 94)] :: jk_WA) (jk_rx 8 3 18 163) [.ref ax, .ref o] (W ++ [(o, .inl (cL, 1, .inr (.inl f)))]) (Wf ++ [(o, .inl (cL, 1, .inr (.inl (jk_oz q f))))]) t 3 18 := by
  intro sz
  refine jk_hbody (by decide +kernel) (fun p e s m args below meth c hsz hz htb C => ?_) (Nat.le_of_ble_eq_true rfl)
  subst hsz
  have C2 := jk_Csub C [0, 1] rfl (tys' := jk_ty cI cR)
  refine jk_aload_n C rd_Law_addCluster_0 (k := 1) rfl ?_
  refine jk_iconst C rd_Law_addCluster_1 ?_
  refine jk_aload_n C rd_Law_addCluster_2 (k := 0) rfl ?_
  refine jk_tryX C2 hZ.1 hz hM tm_1093 tm_1094 tm_1095 tm_1 tm_1096 na_KR_addCluster ⟨Nat.le_of_ble_eq_true rfl, Nat.le_of_ble_eq_true rfl⟩ rfl (List.range 155) (lw_pl hN) (by decide +kernel) (lw_put hN hN) 0 10 (lw_hd hN hx _) rfl rfl (st := [jk_V 0, .ref o]) rfl (Nat.le_of_ble_eq_true rfl) rd_Law_addCluster_3 ⟨Nat.le_of_ble_eq_true rfl, Nat.le_of_ble_eq_true rfl⟩ (fun z h => ?_) (fun z h => ?_) (fun k H1 locs1 ls q9 ce h hl hP hD hS hce hv hcl => ?_)
  · subst h
    obtain ⟨-, -, h3⟩ := ho
    rw [h3]
    exact hf
  · subst h
    obtain ⟨h1, h2, h3⟩ := ho
    subst h1; subst h2; subst h3
    rw [lw_put hN (lw_len hN hf)]
    refine jk_i2l C rd_Law_addCluster_6 ?_
    refine jk_last C 155 2 (lw_at (lw_len hN hf) _) rfl rd_Law_addCluster_7 (lw_set (lw_len hN hf) _ _) ?_
    refine jk_goto (tgt := 14) C rd_Law_addCluster_8 (by decide) ?_
    refine jk_iconst C rd_Law_addCluster_14 ?_
    exact jk_eret C rfl rd_Law_addCluster_15 rfl (Nat.le_of_ble_eq_true rfl) (Nat.le_of_ble_eq_true rfl)
  · subst h
    obtain ⟨j, h1, h2, h3⟩ := ho
    subst h3
    have hj : j < 1 := (List.getElem?_eq_some_iff.mp h1).1
    rcases (show j = 0 by omega) with rfl
    · cases h1
      subst h2
      refine jk_catch C (k := 3) (tgt := 11) [] ⟨0, 8, 11, 94⟩ [] (htb.trans rfl) (fun z hz2 => absurd hz2 List.not_mem_nil) (by decide) (by decide) rfl tm_1092 (va_Nw.use rfl ((hZ.2.2 _ _ _ hz).2.2.2.2.2.2 _ fw_cast_3)) hl hP hD hS hce hv hcl ?_
      refine jk_astore_n C rd_Law_addCluster_11 (by decide) (lv' := [(2, .ref q9), (0, .ref ax), (1, .ref o)]) rfl ?_
      refine jk_iconst C rd_Law_addCluster_12 ?_
      exact jk_eret C rfl rd_Law_addCluster_13 rfl (Nat.le_of_ble_eq_true rfl) (Nat.le_of_ble_eq_true rfl)

set_option maxHeartbeats 4000000 in
set_option maxRecDepth 20000 in
theorem wr_addPendant (l : Launch) (D : va_G) (Z : (Nat → Prop) → State → Heap → Prop) (sq : Nat → Nat) (hZ : jk_ZK Z sq) (hNC : ∀ (A : Nat → Prop) (U : State) (H : Heap), Z A U H → ∀ x ∈ jk_ncs, va_Nc (jk_exc x.1) (jk_exc x.2) U) (cI cR cL : ClassId) {W Wf : va_W} (hN : W.length = 155) {ax : Nat} {fs : List Value} (hx : W[0]? = some (ax, .inr (10, fs))) (o : Nat) (f : Nat → Int64) (x1 : Int) (x2 : Int) (x3 : Int) (q : Nat ⊕ (Int × va_W)) (hM : jk_XI l D jk_cl (jk_ty cI cR) Z mn_KR_addPendant (.code mn_KR_addPendant mb_KR_addPendant 4 (some .int) :: jk_WA) (jk_rx 7 3 18 143) [.ref ax, jk_V x1, jk_V x2, jk_V x3] W q 3 18) {t b : Int} (ho : jk_oc [1, 2, 3] q W Wf t b) (hf : Wf.map (·.1) = W.map (·.1)) : jk_ME l D jk_cl (jk_t3 cI cR cL) Z mn_Law_addPendant (.codeWith mn_Law_addPendant mb_Law_addPendant 6 (some .int) [(0, 12, 15, 13), (0, 12, 19, 46), (0, 12, 23, 94)] :: jk_WA) (jk_rx 8 3 18 166) [.ref ax, jk_V x1, jk_V x2, jk_V x3, .ref o] (W ++ [(o, .inl (cL, 1, .inr (.inl f)))]) (Wf ++ [(o, .inl (cL, 1, .inr (.inl (jk_oz q f))))]) t 3 18 := by
  intro sz
  refine jk_hbody (by decide +kernel) (fun p e s m args below meth c hsz hz htb C => ?_) (Nat.le_of_ble_eq_true rfl)
  subst hsz
  have C2 := jk_Csub C [0, 1] rfl (tys' := jk_ty cI cR)
  refine jk_aload C rd_Law_addPendant_0 (k := 4) rfl ?_
  refine jk_iconst C rd_Law_addPendant_2 ?_
  refine jk_aload_n C rd_Law_addPendant_3 (k := 0) rfl ?_
  refine jk_iload_n C rd_Law_addPendant_4 (k := 1) rfl ?_
  refine jk_iload_n C rd_Law_addPendant_5 (k := 2) rfl ?_
  refine jk_iload_n C rd_Law_addPendant_6 (k := 3) rfl ?_
  refine jk_tryX C2 hZ.1 hz hM tm_1122 tm_1123 tm_1124 tm_1 tm_1125 na_KR_addPendant ⟨Nat.le_of_ble_eq_true rfl, Nat.le_of_ble_eq_true rfl⟩ rfl (List.range 155) (lw_pl hN) (by decide +kernel) (lw_put hN hN) 0 10 (lw_hd hN hx _) rfl rfl (st := [jk_V 0, .ref o]) rfl (Nat.le_of_ble_eq_true rfl) rd_Law_addPendant_7 ⟨Nat.le_of_ble_eq_true rfl, Nat.le_of_ble_eq_true rfl⟩ (fun z h => ?_) (fun z h => ?_) (fun k H1 locs1 ls q9 ce h hl hP hD hS hce hv hcl => ?_)
  · subst h
    obtain ⟨-, -, h3⟩ := ho
    rw [h3]
    exact hf
  · subst h
    obtain ⟨h1, h2, h3⟩ := ho
    subst h1; subst h2; subst h3
    rw [lw_put hN (lw_len hN hf)]
    refine jk_i2l C rd_Law_addPendant_10 ?_
    refine jk_last C 155 2 (lw_at (lw_len hN hf) _) rfl rd_Law_addPendant_11 (lw_set (lw_len hN hf) _ _) ?_
    refine jk_goto (tgt := 27) C rd_Law_addPendant_12 (by decide) ?_
    refine jk_iconst C rd_Law_addPendant_27 ?_
    exact jk_eret C rfl rd_Law_addPendant_28 rfl (Nat.le_of_ble_eq_true rfl) (Nat.le_of_ble_eq_true rfl)
  · subst h
    obtain ⟨j, h1, h2, h3⟩ := ho
    subst h3
    have hj : j < 3 := (List.getElem?_eq_some_iff.mp h1).1
    rcases (show j = 0 ∨ j = 1 ∨ j = 2 by omega) with rfl | rfl | rfl
    · cases h1
      subst h2
      refine jk_catch C (k := 1) (tgt := 15) [] ⟨0, 12, 15, 13⟩ [⟨0, 12, 19, 46⟩, ⟨0, 12, 23, 94⟩] (htb.trans rfl) (fun z hz2 => absurd hz2 List.not_mem_nil) (by decide) (by decide) rfl tm_787 (va_Nw.use rfl ((hZ.2.2 _ _ _ hz).2.2.2.2.2.2 _ fw_cast_1)) hl hP hD hS hce hv hcl ?_
      refine jk_astore C rd_Law_addPendant_15 (by decide) (lv' := [(5, .ref q9), (0, .ref ax), (1, jk_V x1), (2, jk_V x2), (3, jk_V x3), (4, .ref o)]) rfl ?_
      refine jk_iconst C rd_Law_addPendant_17 ?_
      exact jk_eret C rfl rd_Law_addPendant_18 rfl (Nat.le_of_ble_eq_true rfl) (Nat.le_of_ble_eq_true rfl)
    · cases h1
      subst h2
      refine jk_catch C (k := 2) (tgt := 19) [⟨0, 12, 15, 13⟩] ⟨0, 12, 19, 46⟩ [⟨0, 12, 23, 94⟩] (htb.trans rfl) (List.forall_mem_cons.mpr ⟨Or.inr ⟨by decide, _, C.1.2.2.2.2 _ tm_787, hNC _ _ _ hz (2, 1) (by decide)⟩, fun z hz2 => absurd hz2 List.not_mem_nil⟩) (by decide) (by decide) rfl tm_949 (va_Nw.use rfl ((hZ.2.2 _ _ _ hz).2.2.2.2.2.2 _ fw_cast_2)) hl hP hD hS hce hv hcl ?_
      refine jk_astore C rd_Law_addPendant_19 (by decide) (lv' := [(5, .ref q9), (0, .ref ax), (1, jk_V x1), (2, jk_V x2), (3, jk_V x3), (4, .ref o)]) rfl ?_
      refine jk_iconst C rd_Law_addPendant_21 ?_
      exact jk_eret C rfl rd_Law_addPendant_22 rfl (Nat.le_of_ble_eq_true rfl) (Nat.le_of_ble_eq_true rfl)
    · cases h1
      subst h2
      refine jk_catch C (k := 3) (tgt := 23) [⟨0, 12, 15, 13⟩, ⟨0, 12, 19, 46⟩] ⟨0, 12, 23, 94⟩ [] (htb.trans rfl) (List.forall_mem_cons.mpr ⟨Or.inr ⟨by decide, _, C.1.2.2.2.2 _ tm_787, hNC _ _ _ hz (3, 1) (by decide)⟩, List.forall_mem_cons.mpr ⟨Or.inr ⟨by decide, _, C.1.2.2.2.2 _ tm_949, hNC _ _ _ hz (3, 2) (by decide)⟩, fun z hz2 => absurd hz2 List.not_mem_nil⟩⟩) (by decide) (by decide) rfl tm_1092 (va_Nw.use rfl ((hZ.2.2 _ _ _ hz).2.2.2.2.2.2 _ fw_cast_3)) hl hP hD hS hce hv hcl ?_
      refine jk_astore C rd_Law_addPendant_23 (by decide) (lv' := [(5, .ref q9), (0, .ref ax), (1, jk_V x1), (2, jk_V x2), (3, jk_V x3), (4, .ref o)]) rfl ?_
      refine jk_iconst C rd_Law_addPendant_25 ?_
      exact jk_eret C rfl rd_Law_addPendant_26 rfl (Nat.le_of_ble_eq_true rfl) (Nat.le_of_ble_eq_true rfl)

set_option maxHeartbeats 4000000 in
set_option maxRecDepth 20000 in
theorem wr_addSubsidiary (l : Launch) (D : va_G) (Z : (Nat → Prop) → State → Heap → Prop) (sq : Nat → Nat) (hZ : jk_ZK Z sq) (hNC : ∀ (A : Nat → Prop) (U : State) (H : Heap), Z A U H → ∀ x ∈ jk_ncs, va_Nc (jk_exc x.1) (jk_exc x.2) U) (cI cR cL : ClassId) {W Wf : va_W} (hN : W.length = 155) {ax : Nat} {fs : List Value} (hx : W[0]? = some (ax, .inr (10, fs))) (o : Nat) (f : Nat → Int64) (x1 : Int) (x2 : Int) (x3 : Int) (q : Nat ⊕ (Int × va_W)) (hM : jk_XI l D jk_cl (jk_ty cI cR) Z mn_KR_addSubsidiary (.code mn_KR_addSubsidiary mb_KR_addSubsidiary 4 (some .int) :: jk_WA) (jk_rx 7 3 18 143) [.ref ax, jk_V x1, jk_V x2, jk_V x3] W q 3 18) {t b : Int} (ho : jk_oc [1, 2, 3] q W Wf t b) (hf : Wf.map (·.1) = W.map (·.1)) : jk_ME l D jk_cl (jk_t3 cI cR cL) Z mn_Law_addSubsidiary (.codeWith mn_Law_addSubsidiary mb_Law_addSubsidiary 6 (some .int) [(0, 12, 15, 13), (0, 12, 19, 46), (0, 12, 23, 94)] :: jk_WA) (jk_rx 8 3 18 166) [.ref ax, jk_V x1, jk_V x2, jk_V x3, .ref o] (W ++ [(o, .inl (cL, 1, .inr (.inl f)))]) (Wf ++ [(o, .inl (cL, 1, .inr (.inl (jk_oz q f))))]) t 3 18 := by
  intro sz
  refine jk_hbody (by decide +kernel) (fun p e s m args below meth c hsz hz htb C => ?_) (Nat.le_of_ble_eq_true rfl)
  subst hsz
  have C2 := jk_Csub C [0, 1] rfl (tys' := jk_ty cI cR)
  refine jk_aload C rd_Law_addSubsidiary_0 (k := 4) rfl ?_
  refine jk_iconst C rd_Law_addSubsidiary_2 ?_
  refine jk_aload_n C rd_Law_addSubsidiary_3 (k := 0) rfl ?_
  refine jk_iload_n C rd_Law_addSubsidiary_4 (k := 1) rfl ?_
  refine jk_iload_n C rd_Law_addSubsidiary_5 (k := 2) rfl ?_
  refine jk_iload_n C rd_Law_addSubsidiary_6 (k := 3) rfl ?_
  refine jk_tryX C2 hZ.1 hz hM tm_1129 tm_1130 tm_1131 tm_1 tm_1132 na_KR_addSubsidiary ⟨Nat.le_of_ble_eq_true rfl, Nat.le_of_ble_eq_true rfl⟩ rfl (List.range 155) (lw_pl hN) (by decide +kernel) (lw_put hN hN) 0 10 (lw_hd hN hx _) rfl rfl (st := [jk_V 0, .ref o]) rfl (Nat.le_of_ble_eq_true rfl) rd_Law_addSubsidiary_7 ⟨Nat.le_of_ble_eq_true rfl, Nat.le_of_ble_eq_true rfl⟩ (fun z h => ?_) (fun z h => ?_) (fun k H1 locs1 ls q9 ce h hl hP hD hS hce hv hcl => ?_)
  · subst h
    obtain ⟨-, -, h3⟩ := ho
    rw [h3]
    exact hf
  · subst h
    obtain ⟨h1, h2, h3⟩ := ho
    subst h1; subst h2; subst h3
    rw [lw_put hN (lw_len hN hf)]
    refine jk_i2l C rd_Law_addSubsidiary_10 ?_
    refine jk_last C 155 2 (lw_at (lw_len hN hf) _) rfl rd_Law_addSubsidiary_11 (lw_set (lw_len hN hf) _ _) ?_
    refine jk_goto (tgt := 27) C rd_Law_addSubsidiary_12 (by decide) ?_
    refine jk_iconst C rd_Law_addSubsidiary_27 ?_
    exact jk_eret C rfl rd_Law_addSubsidiary_28 rfl (Nat.le_of_ble_eq_true rfl) (Nat.le_of_ble_eq_true rfl)
  · subst h
    obtain ⟨j, h1, h2, h3⟩ := ho
    subst h3
    have hj : j < 3 := (List.getElem?_eq_some_iff.mp h1).1
    rcases (show j = 0 ∨ j = 1 ∨ j = 2 by omega) with rfl | rfl | rfl
    · cases h1
      subst h2
      refine jk_catch C (k := 1) (tgt := 15) [] ⟨0, 12, 15, 13⟩ [⟨0, 12, 19, 46⟩, ⟨0, 12, 23, 94⟩] (htb.trans rfl) (fun z hz2 => absurd hz2 List.not_mem_nil) (by decide) (by decide) rfl tm_787 (va_Nw.use rfl ((hZ.2.2 _ _ _ hz).2.2.2.2.2.2 _ fw_cast_1)) hl hP hD hS hce hv hcl ?_
      refine jk_astore C rd_Law_addSubsidiary_15 (by decide) (lv' := [(5, .ref q9), (0, .ref ax), (1, jk_V x1), (2, jk_V x2), (3, jk_V x3), (4, .ref o)]) rfl ?_
      refine jk_iconst C rd_Law_addSubsidiary_17 ?_
      exact jk_eret C rfl rd_Law_addSubsidiary_18 rfl (Nat.le_of_ble_eq_true rfl) (Nat.le_of_ble_eq_true rfl)
    · cases h1
      subst h2
      refine jk_catch C (k := 2) (tgt := 19) [⟨0, 12, 15, 13⟩] ⟨0, 12, 19, 46⟩ [⟨0, 12, 23, 94⟩] (htb.trans rfl) (List.forall_mem_cons.mpr ⟨Or.inr ⟨by decide, _, C.1.2.2.2.2 _ tm_787, hNC _ _ _ hz (2, 1) (by decide)⟩, fun z hz2 => absurd hz2 List.not_mem_nil⟩) (by decide) (by decide) rfl tm_949 (va_Nw.use rfl ((hZ.2.2 _ _ _ hz).2.2.2.2.2.2 _ fw_cast_2)) hl hP hD hS hce hv hcl ?_
      refine jk_astore C rd_Law_addSubsidiary_19 (by decide) (lv' := [(5, .ref q9), (0, .ref ax), (1, jk_V x1), (2, jk_V x2), (3, jk_V x3), (4, .ref o)]) rfl ?_
      refine jk_iconst C rd_Law_addSubsidiary_21 ?_
      exact jk_eret C rfl rd_Law_addSubsidiary_22 rfl (Nat.le_of_ble_eq_true rfl) (Nat.le_of_ble_eq_true rfl)
    · cases h1
      subst h2
      refine jk_catch C (k := 3) (tgt := 23) [⟨0, 12, 15, 13⟩, ⟨0, 12, 19, 46⟩] ⟨0, 12, 23, 94⟩ [] (htb.trans rfl) (List.forall_mem_cons.mpr ⟨Or.inr ⟨by decide, _, C.1.2.2.2.2 _ tm_787, hNC _ _ _ hz (3, 1) (by decide)⟩, List.forall_mem_cons.mpr ⟨Or.inr ⟨by decide, _, C.1.2.2.2.2 _ tm_949, hNC _ _ _ hz (3, 2) (by decide)⟩, fun z hz2 => absurd hz2 List.not_mem_nil⟩⟩) (by decide) (by decide) rfl tm_1092 (va_Nw.use rfl ((hZ.2.2 _ _ _ hz).2.2.2.2.2.2 _ fw_cast_3)) hl hP hD hS hce hv hcl ?_
      refine jk_astore C rd_Law_addSubsidiary_23 (by decide) (lv' := [(5, .ref q9), (0, .ref ax), (1, jk_V x1), (2, jk_V x2), (3, jk_V x3), (4, .ref o)]) rfl ?_
      refine jk_iconst C rd_Law_addSubsidiary_25 ?_
      exact jk_eret C rfl rd_Law_addSubsidiary_26 rfl (Nat.le_of_ble_eq_true rfl) (Nat.le_of_ble_eq_true rfl)

set_option maxHeartbeats 4000000 in
set_option maxRecDepth 20000 in
theorem wr_cut (l : Launch) (D : va_G) (Z : (Nat → Prop) → State → Heap → Prop) (sq : Nat → Nat) (hZ : jk_ZK Z sq) (hNC : ∀ (A : Nat → Prop) (U : State) (H : Heap), Z A U H → ∀ x ∈ jk_ncs, va_Nc (jk_exc x.1) (jk_exc x.2) U) (cI cR cL : ClassId) {W Wf : va_W} (hN : W.length = 155) {ax : Nat} {fs : List Value} (hx : W[0]? = some (ax, .inr (10, fs))) (o : Nat) (f : Nat → Int64) (x1 : Int) (q : Nat ⊕ (Int × va_W)) (hM : jk_XI l D jk_cl (jk_ty cI cR) Z mn_KR_cut (.code mn_KR_cut mb_KR_cut 2 (some .int) :: jk_WA) (jk_rx 7 3 18 143) [.ref ax, jk_V x1] W q 3 18) {t b : Int} (ho : jk_oc [1] q W Wf t b) (hf : Wf.map (·.1) = W.map (·.1)) : jk_ME l D jk_cl (jk_t3 cI cR cL) Z mn_Law_cut (.codeWith mn_Law_cut mb_Law_cut 4 (some .int) [(0, 9, 12, 13)] :: jk_WA) (jk_rx 8 3 18 164) [.ref ax, jk_V x1, .ref o] (W ++ [(o, .inl (cL, 1, .inr (.inl f)))]) (Wf ++ [(o, .inl (cL, 1, .inr (.inl (jk_oz q f))))]) t 3 18 := by
  intro sz
  refine jk_hbody (by decide +kernel) (fun p e s m args below meth c hsz hz htb C => ?_) (Nat.le_of_ble_eq_true rfl)
  subst hsz
  have C2 := jk_Csub C [0, 1] rfl (tys' := jk_ty cI cR)
  refine jk_aload_n C rd_Law_cut_0 (k := 2) rfl ?_
  refine jk_iconst C rd_Law_cut_1 ?_
  refine jk_aload_n C rd_Law_cut_2 (k := 0) rfl ?_
  refine jk_iload_n C rd_Law_cut_3 (k := 1) rfl ?_
  refine jk_tryX C2 hZ.1 hz hM tm_1136 tm_1137 tm_1138 tm_1 tm_1139 na_KR_cut ⟨Nat.le_of_ble_eq_true rfl, Nat.le_of_ble_eq_true rfl⟩ rfl (List.range 155) (lw_pl hN) (by decide +kernel) (lw_put hN hN) 0 10 (lw_hd hN hx _) rfl rfl (st := [jk_V 0, .ref o]) rfl (Nat.le_of_ble_eq_true rfl) rd_Law_cut_4 ⟨Nat.le_of_ble_eq_true rfl, Nat.le_of_ble_eq_true rfl⟩ (fun z h => ?_) (fun z h => ?_) (fun k H1 locs1 ls q9 ce h hl hP hD hS hce hv hcl => ?_)
  · subst h
    obtain ⟨-, -, h3⟩ := ho
    rw [h3]
    exact hf
  · subst h
    obtain ⟨h1, h2, h3⟩ := ho
    subst h1; subst h2; subst h3
    rw [lw_put hN (lw_len hN hf)]
    refine jk_i2l C rd_Law_cut_7 ?_
    refine jk_last C 155 2 (lw_at (lw_len hN hf) _) rfl rd_Law_cut_8 (lw_set (lw_len hN hf) _ _) ?_
    refine jk_goto (tgt := 15) C rd_Law_cut_9 (by decide) ?_
    refine jk_iconst C rd_Law_cut_15 ?_
    exact jk_eret C rfl rd_Law_cut_16 rfl (Nat.le_of_ble_eq_true rfl) (Nat.le_of_ble_eq_true rfl)
  · subst h
    obtain ⟨j, h1, h2, h3⟩ := ho
    subst h3
    have hj : j < 1 := (List.getElem?_eq_some_iff.mp h1).1
    rcases (show j = 0 by omega) with rfl
    · cases h1
      subst h2
      refine jk_catch C (k := 1) (tgt := 12) [] ⟨0, 9, 12, 13⟩ [] (htb.trans rfl) (fun z hz2 => absurd hz2 List.not_mem_nil) (by decide) (by decide) rfl tm_787 (va_Nw.use rfl ((hZ.2.2 _ _ _ hz).2.2.2.2.2.2 _ fw_cast_1)) hl hP hD hS hce hv hcl ?_
      refine jk_astore_n C rd_Law_cut_12 (by decide) (lv' := [(3, .ref q9), (0, .ref ax), (1, jk_V x1), (2, .ref o)]) rfl ?_
      refine jk_iconst C rd_Law_cut_13 ?_
      exact jk_eret C rfl rd_Law_cut_14 rfl (Nat.le_of_ble_eq_true rfl) (Nat.le_of_ble_eq_true rfl)

set_option maxHeartbeats 4000000 in
set_option maxRecDepth 20000 in
theorem wr_tieTop (l : Launch) (D : va_G) (Z : (Nat → Prop) → State → Heap → Prop) (sq : Nat → Nat) (hZ : jk_ZK Z sq) (hNC : ∀ (A : Nat → Prop) (U : State) (H : Heap), Z A U H → ∀ x ∈ jk_ncs, va_Nc (jk_exc x.1) (jk_exc x.2) U) (cI cR cL : ClassId) {W Wf : va_W} (hN : W.length = 155) {ax : Nat} {fs : List Value} (hx : W[0]? = some (ax, .inr (10, fs))) (o : Nat) (f : Nat → Int64) (x1 : Int) (x2 : Int) (q : Nat ⊕ (Int × va_W)) (hM : jk_XI l D jk_cl (jk_ty cI cR) Z mn_KR_tieTop (.code mn_KR_tieTop mb_KR_tieTop 3 (some .int) :: jk_WA) (jk_rx 7 3 18 143) [.ref ax, jk_V x1, jk_V x2] W q 3 18) {t b : Int} (ho : jk_oc [1, 3] q W Wf t b) (hf : Wf.map (·.1) = W.map (·.1)) : jk_ME l D jk_cl (jk_t3 cI cR cL) Z mn_Law_tieTop (.codeWith mn_Law_tieTop mb_Law_tieTop 5 (some .int) [(0, 10, 13, 13), (0, 10, 17, 94)] :: jk_WA) (jk_rx 8 3 18 165) [.ref ax, jk_V x1, jk_V x2, .ref o] (W ++ [(o, .inl (cL, 1, .inr (.inl f)))]) (Wf ++ [(o, .inl (cL, 1, .inr (.inl (jk_oz q f))))]) t 3 18 := by
  intro sz
  refine jk_hbody (by decide +kernel) (fun p e s m args below meth c hsz hz htb C => ?_) (Nat.le_of_ble_eq_true rfl)
  subst hsz
  have C2 := jk_Csub C [0, 1] rfl (tys' := jk_ty cI cR)
  refine jk_aload_n C rd_Law_tieTop_0 (k := 3) rfl ?_
  refine jk_iconst C rd_Law_tieTop_1 ?_
  refine jk_aload_n C rd_Law_tieTop_2 (k := 0) rfl ?_
  refine jk_iload_n C rd_Law_tieTop_3 (k := 1) rfl ?_
  refine jk_iload_n C rd_Law_tieTop_4 (k := 2) rfl ?_
  refine jk_tryX C2 hZ.1 hz hM tm_1143 tm_1144 tm_1145 tm_1 tm_1146 na_KR_tieTop ⟨Nat.le_of_ble_eq_true rfl, Nat.le_of_ble_eq_true rfl⟩ rfl (List.range 155) (lw_pl hN) (by decide +kernel) (lw_put hN hN) 0 10 (lw_hd hN hx _) rfl rfl (st := [jk_V 0, .ref o]) rfl (Nat.le_of_ble_eq_true rfl) rd_Law_tieTop_5 ⟨Nat.le_of_ble_eq_true rfl, Nat.le_of_ble_eq_true rfl⟩ (fun z h => ?_) (fun z h => ?_) (fun k H1 locs1 ls q9 ce h hl hP hD hS hce hv hcl => ?_)
  · subst h
    obtain ⟨-, -, h3⟩ := ho
    rw [h3]
    exact hf
  · subst h
    obtain ⟨h1, h2, h3⟩ := ho
    subst h1; subst h2; subst h3
    rw [lw_put hN (lw_len hN hf)]
    refine jk_i2l C rd_Law_tieTop_8 ?_
    refine jk_last C 155 2 (lw_at (lw_len hN hf) _) rfl rd_Law_tieTop_9 (lw_set (lw_len hN hf) _ _) ?_
    refine jk_goto (tgt := 21) C rd_Law_tieTop_10 (by decide) ?_
    refine jk_iconst C rd_Law_tieTop_21 ?_
    exact jk_eret C rfl rd_Law_tieTop_22 rfl (Nat.le_of_ble_eq_true rfl) (Nat.le_of_ble_eq_true rfl)
  · subst h
    obtain ⟨j, h1, h2, h3⟩ := ho
    subst h3
    have hj : j < 2 := (List.getElem?_eq_some_iff.mp h1).1
    rcases (show j = 0 ∨ j = 1 by omega) with rfl | rfl
    · cases h1
      subst h2
      refine jk_catch C (k := 1) (tgt := 13) [] ⟨0, 10, 13, 13⟩ [⟨0, 10, 17, 94⟩] (htb.trans rfl) (fun z hz2 => absurd hz2 List.not_mem_nil) (by decide) (by decide) rfl tm_787 (va_Nw.use rfl ((hZ.2.2 _ _ _ hz).2.2.2.2.2.2 _ fw_cast_1)) hl hP hD hS hce hv hcl ?_
      refine jk_astore C rd_Law_tieTop_13 (by decide) (lv' := [(4, .ref q9), (0, .ref ax), (1, jk_V x1), (2, jk_V x2), (3, .ref o)]) rfl ?_
      refine jk_iconst C rd_Law_tieTop_15 ?_
      exact jk_eret C rfl rd_Law_tieTop_16 rfl (Nat.le_of_ble_eq_true rfl) (Nat.le_of_ble_eq_true rfl)
    · cases h1
      subst h2
      refine jk_catch C (k := 3) (tgt := 17) [⟨0, 10, 13, 13⟩] ⟨0, 10, 17, 94⟩ [] (htb.trans rfl) (List.forall_mem_cons.mpr ⟨Or.inr ⟨by decide, _, C.1.2.2.2.2 _ tm_787, hNC _ _ _ hz (3, 1) (by decide)⟩, fun z hz2 => absurd hz2 List.not_mem_nil⟩) (by decide) (by decide) rfl tm_1092 (va_Nw.use rfl ((hZ.2.2 _ _ _ hz).2.2.2.2.2.2 _ fw_cast_3)) hl hP hD hS hce hv hcl ?_
      refine jk_astore C rd_Law_tieTop_17 (by decide) (lv' := [(4, .ref q9), (0, .ref ax), (1, jk_V x1), (2, jk_V x2), (3, .ref o)]) rfl ?_
      refine jk_iconst C rd_Law_tieTop_19 ?_
      exact jk_eret C rfl rd_Law_tieTop_20 rfl (Nat.le_of_ble_eq_true rfl) (Nat.le_of_ble_eq_true rfl)

set_option maxHeartbeats 4000000 in
set_option maxRecDepth 20000 in
theorem wr_setKnots (l : Launch) (D : va_G) (Z : (Nat → Prop) → State → Heap → Prop) (sq : Nat → Nat) (hZ : jk_ZK Z sq) (hNC : ∀ (A : Nat → Prop) (U : State) (H : Heap), Z A U H → ∀ x ∈ jk_ncs, va_Nc (jk_exc x.1) (jk_exc x.2) U) (cI cR cL : ClassId) {W Wf : va_W} (hN : W.length = 155) {ax : Nat} {fs : List Value} (hx : W[0]? = some (ax, .inr (10, fs))) (o : Nat) (f : Nat → Int64) (x1 : Int) (x2 : Int) (x3 : Int) (q : Nat ⊕ (Int × va_W)) (hM : jk_XI l D jk_cl (jk_ty cI cR) Z mn_KR_setKnots (.code mn_KR_setKnots mb_KR_setKnots 4 (some .int) :: jk_WA) (jk_rx 7 3 18 143) [.ref ax, jk_V x1, jk_V x2, jk_V x3] W q 3 18) {t b : Int} (ho : jk_oc [1, 2, 3] q W Wf t b) (hf : Wf.map (·.1) = W.map (·.1)) : jk_ME l D jk_cl (jk_t3 cI cR cL) Z mn_Law_setKnots (.codeWith mn_Law_setKnots mb_Law_setKnots 6 (some .int) [(0, 12, 15, 13), (0, 12, 19, 46), (0, 12, 23, 94)] :: jk_WA) (jk_rx 8 3 18 166) [.ref ax, jk_V x1, jk_V x2, jk_V x3, .ref o] (W ++ [(o, .inl (cL, 1, .inr (.inl f)))]) (Wf ++ [(o, .inl (cL, 1, .inr (.inl (jk_oz q f))))]) t 3 18 := by
  intro sz
  refine jk_hbody (by decide +kernel) (fun p e s m args below meth c hsz hz htb C => ?_) (Nat.le_of_ble_eq_true rfl)
  subst hsz
  have C2 := jk_Csub C [0, 1] rfl (tys' := jk_ty cI cR)
  refine jk_aload C rd_Law_setKnots_0 (k := 4) rfl ?_
  refine jk_iconst C rd_Law_setKnots_2 ?_
  refine jk_aload_n C rd_Law_setKnots_3 (k := 0) rfl ?_
  refine jk_iload_n C rd_Law_setKnots_4 (k := 1) rfl ?_
  refine jk_iload_n C rd_Law_setKnots_5 (k := 2) rfl ?_
  refine jk_iload_n C rd_Law_setKnots_6 (k := 3) rfl ?_
  refine jk_tryX C2 hZ.1 hz hM tm_1150 tm_1151 tm_1152 tm_1 tm_1153 na_KR_setKnots ⟨Nat.le_of_ble_eq_true rfl, Nat.le_of_ble_eq_true rfl⟩ rfl (List.range 155) (lw_pl hN) (by decide +kernel) (lw_put hN hN) 0 10 (lw_hd hN hx _) rfl rfl (st := [jk_V 0, .ref o]) rfl (Nat.le_of_ble_eq_true rfl) rd_Law_setKnots_7 ⟨Nat.le_of_ble_eq_true rfl, Nat.le_of_ble_eq_true rfl⟩ (fun z h => ?_) (fun z h => ?_) (fun k H1 locs1 ls q9 ce h hl hP hD hS hce hv hcl => ?_)
  · subst h
    obtain ⟨-, -, h3⟩ := ho
    rw [h3]
    exact hf
  · subst h
    obtain ⟨h1, h2, h3⟩ := ho
    subst h1; subst h2; subst h3
    rw [lw_put hN (lw_len hN hf)]
    refine jk_i2l C rd_Law_setKnots_10 ?_
    refine jk_last C 155 2 (lw_at (lw_len hN hf) _) rfl rd_Law_setKnots_11 (lw_set (lw_len hN hf) _ _) ?_
    refine jk_goto (tgt := 27) C rd_Law_setKnots_12 (by decide) ?_
    refine jk_iconst C rd_Law_setKnots_27 ?_
    exact jk_eret C rfl rd_Law_setKnots_28 rfl (Nat.le_of_ble_eq_true rfl) (Nat.le_of_ble_eq_true rfl)
  · subst h
    obtain ⟨j, h1, h2, h3⟩ := ho
    subst h3
    have hj : j < 3 := (List.getElem?_eq_some_iff.mp h1).1
    rcases (show j = 0 ∨ j = 1 ∨ j = 2 by omega) with rfl | rfl | rfl
    · cases h1
      subst h2
      refine jk_catch C (k := 1) (tgt := 15) [] ⟨0, 12, 15, 13⟩ [⟨0, 12, 19, 46⟩, ⟨0, 12, 23, 94⟩] (htb.trans rfl) (fun z hz2 => absurd hz2 List.not_mem_nil) (by decide) (by decide) rfl tm_787 (va_Nw.use rfl ((hZ.2.2 _ _ _ hz).2.2.2.2.2.2 _ fw_cast_1)) hl hP hD hS hce hv hcl ?_
      refine jk_astore C rd_Law_setKnots_15 (by decide) (lv' := [(5, .ref q9), (0, .ref ax), (1, jk_V x1), (2, jk_V x2), (3, jk_V x3), (4, .ref o)]) rfl ?_
      refine jk_iconst C rd_Law_setKnots_17 ?_
      exact jk_eret C rfl rd_Law_setKnots_18 rfl (Nat.le_of_ble_eq_true rfl) (Nat.le_of_ble_eq_true rfl)
    · cases h1
      subst h2
      refine jk_catch C (k := 2) (tgt := 19) [⟨0, 12, 15, 13⟩] ⟨0, 12, 19, 46⟩ [⟨0, 12, 23, 94⟩] (htb.trans rfl) (List.forall_mem_cons.mpr ⟨Or.inr ⟨by decide, _, C.1.2.2.2.2 _ tm_787, hNC _ _ _ hz (2, 1) (by decide)⟩, fun z hz2 => absurd hz2 List.not_mem_nil⟩) (by decide) (by decide) rfl tm_949 (va_Nw.use rfl ((hZ.2.2 _ _ _ hz).2.2.2.2.2.2 _ fw_cast_2)) hl hP hD hS hce hv hcl ?_
      refine jk_astore C rd_Law_setKnots_19 (by decide) (lv' := [(5, .ref q9), (0, .ref ax), (1, jk_V x1), (2, jk_V x2), (3, jk_V x3), (4, .ref o)]) rfl ?_
      refine jk_iconst C rd_Law_setKnots_21 ?_
      exact jk_eret C rfl rd_Law_setKnots_22 rfl (Nat.le_of_ble_eq_true rfl) (Nat.le_of_ble_eq_true rfl)
    · cases h1
      subst h2
      refine jk_catch C (k := 3) (tgt := 23) [⟨0, 12, 15, 13⟩, ⟨0, 12, 19, 46⟩] ⟨0, 12, 23, 94⟩ [] (htb.trans rfl) (List.forall_mem_cons.mpr ⟨Or.inr ⟨by decide, _, C.1.2.2.2.2 _ tm_787, hNC _ _ _ hz (3, 1) (by decide)⟩, List.forall_mem_cons.mpr ⟨Or.inr ⟨by decide, _, C.1.2.2.2.2 _ tm_949, hNC _ _ _ hz (3, 2) (by decide)⟩, fun z hz2 => absurd hz2 List.not_mem_nil⟩⟩) (by decide) (by decide) rfl tm_1092 (va_Nw.use rfl ((hZ.2.2 _ _ _ hz).2.2.2.2.2.2 _ fw_cast_3)) hl hP hD hS hce hv hcl ?_
      refine jk_astore C rd_Law_setKnots_23 (by decide) (lv' := [(5, .ref q9), (0, .ref ax), (1, jk_V x1), (2, jk_V x2), (3, jk_V x3), (4, .ref o)]) rfl ?_
      refine jk_iconst C rd_Law_setKnots_25 ?_
      exact jk_eret C rfl rd_Law_setKnots_26 rfl (Nat.le_of_ble_eq_true rfl) (Nat.le_of_ble_eq_true rfl)

set_option maxHeartbeats 4000000 in
set_option maxRecDepth 20000 in
theorem wr_nibble (l : Launch) (D : va_G) (Z : (Nat → Prop) → State → Heap → Prop) (sq : Nat → Nat) (hZ : jk_ZK Z sq) (hNC : ∀ (A : Nat → Prop) (U : State) (H : Heap), Z A U H → ∀ x ∈ jk_ncs, va_Nc (jk_exc x.1) (jk_exc x.2) U) (cI cR cL : ClassId) {W Wf : va_W} (hN : W.length = 155) {ax : Nat} {fs : List Value} (hx : W[0]? = some (ax, .inr (10, fs))) (o : Nat) (f : Nat → Int64) (x1 : Int) (x2 : Int) (q : Nat ⊕ (Int × va_W)) (hM : jk_XI l D jk_cl (jk_ty cI cR) Z mn_KR_nibble (.code mn_KR_nibble mb_KR_nibble 3 (some .int) :: jk_WA) (jk_rx 7 3 18 143) [.ref ax, jk_V x1, jk_V x2] W q 3 18) {t b : Int} (ho : jk_oc [1, 2, 3] q W Wf t b) (hf : Wf.map (·.1) = W.map (·.1)) : jk_ME l D jk_cl (jk_t3 cI cR cL) Z mn_Law_nibble (.codeWith mn_Law_nibble mb_Law_nibble 5 (some .int) [(0, 10, 13, 13), (0, 10, 17, 46), (0, 10, 21, 94)] :: jk_WA) (jk_rx 8 3 18 165) [.ref ax, jk_V x1, jk_V x2, .ref o] (W ++ [(o, .inl (cL, 1, .inr (.inl f)))]) (Wf ++ [(o, .inl (cL, 1, .inr (.inl (jk_oz q f))))]) t 3 18 := by
  intro sz
  refine jk_hbody (by decide +kernel) (fun p e s m args below meth c hsz hz htb C => ?_) (Nat.le_of_ble_eq_true rfl)
  subst hsz
  have C2 := jk_Csub C [0, 1] rfl (tys' := jk_ty cI cR)
  refine jk_aload_n C rd_Law_nibble_0 (k := 3) rfl ?_
  refine jk_iconst C rd_Law_nibble_1 ?_
  refine jk_aload_n C rd_Law_nibble_2 (k := 0) rfl ?_
  refine jk_iload_n C rd_Law_nibble_3 (k := 1) rfl ?_
  refine jk_iload_n C rd_Law_nibble_4 (k := 2) rfl ?_
  refine jk_tryX C2 hZ.1 hz hM tm_1157 tm_1158 tm_1159 tm_1 tm_1160 na_KR_nibble ⟨Nat.le_of_ble_eq_true rfl, Nat.le_of_ble_eq_true rfl⟩ rfl (List.range 155) (lw_pl hN) (by decide +kernel) (lw_put hN hN) 0 10 (lw_hd hN hx _) rfl rfl (st := [jk_V 0, .ref o]) rfl (Nat.le_of_ble_eq_true rfl) rd_Law_nibble_5 ⟨Nat.le_of_ble_eq_true rfl, Nat.le_of_ble_eq_true rfl⟩ (fun z h => ?_) (fun z h => ?_) (fun k H1 locs1 ls q9 ce h hl hP hD hS hce hv hcl => ?_)
  · subst h
    obtain ⟨-, -, h3⟩ := ho
    rw [h3]
    exact hf
  · subst h
    obtain ⟨h1, h2, h3⟩ := ho
    subst h1; subst h2; subst h3
    rw [lw_put hN (lw_len hN hf)]
    refine jk_i2l C rd_Law_nibble_8 ?_
    refine jk_last C 155 2 (lw_at (lw_len hN hf) _) rfl rd_Law_nibble_9 (lw_set (lw_len hN hf) _ _) ?_
    refine jk_goto (tgt := 25) C rd_Law_nibble_10 (by decide) ?_
    refine jk_iconst C rd_Law_nibble_25 ?_
    exact jk_eret C rfl rd_Law_nibble_26 rfl (Nat.le_of_ble_eq_true rfl) (Nat.le_of_ble_eq_true rfl)
  · subst h
    obtain ⟨j, h1, h2, h3⟩ := ho
    subst h3
    have hj : j < 3 := (List.getElem?_eq_some_iff.mp h1).1
    rcases (show j = 0 ∨ j = 1 ∨ j = 2 by omega) with rfl | rfl | rfl
    · cases h1
      subst h2
      refine jk_catch C (k := 1) (tgt := 13) [] ⟨0, 10, 13, 13⟩ [⟨0, 10, 17, 46⟩, ⟨0, 10, 21, 94⟩] (htb.trans rfl) (fun z hz2 => absurd hz2 List.not_mem_nil) (by decide) (by decide) rfl tm_787 (va_Nw.use rfl ((hZ.2.2 _ _ _ hz).2.2.2.2.2.2 _ fw_cast_1)) hl hP hD hS hce hv hcl ?_
      refine jk_astore C rd_Law_nibble_13 (by decide) (lv' := [(4, .ref q9), (0, .ref ax), (1, jk_V x1), (2, jk_V x2), (3, .ref o)]) rfl ?_
      refine jk_iconst C rd_Law_nibble_15 ?_
      exact jk_eret C rfl rd_Law_nibble_16 rfl (Nat.le_of_ble_eq_true rfl) (Nat.le_of_ble_eq_true rfl)
    · cases h1
      subst h2
      refine jk_catch C (k := 2) (tgt := 17) [⟨0, 10, 13, 13⟩] ⟨0, 10, 17, 46⟩ [⟨0, 10, 21, 94⟩] (htb.trans rfl) (List.forall_mem_cons.mpr ⟨Or.inr ⟨by decide, _, C.1.2.2.2.2 _ tm_787, hNC _ _ _ hz (2, 1) (by decide)⟩, fun z hz2 => absurd hz2 List.not_mem_nil⟩) (by decide) (by decide) rfl tm_949 (va_Nw.use rfl ((hZ.2.2 _ _ _ hz).2.2.2.2.2.2 _ fw_cast_2)) hl hP hD hS hce hv hcl ?_
      refine jk_astore C rd_Law_nibble_17 (by decide) (lv' := [(4, .ref q9), (0, .ref ax), (1, jk_V x1), (2, jk_V x2), (3, .ref o)]) rfl ?_
      refine jk_iconst C rd_Law_nibble_19 ?_
      exact jk_eret C rfl rd_Law_nibble_20 rfl (Nat.le_of_ble_eq_true rfl) (Nat.le_of_ble_eq_true rfl)
    · cases h1
      subst h2
      refine jk_catch C (k := 3) (tgt := 21) [⟨0, 10, 13, 13⟩, ⟨0, 10, 17, 46⟩] ⟨0, 10, 21, 94⟩ [] (htb.trans rfl) (List.forall_mem_cons.mpr ⟨Or.inr ⟨by decide, _, C.1.2.2.2.2 _ tm_787, hNC _ _ _ hz (3, 1) (by decide)⟩, List.forall_mem_cons.mpr ⟨Or.inr ⟨by decide, _, C.1.2.2.2.2 _ tm_949, hNC _ _ _ hz (3, 2) (by decide)⟩, fun z hz2 => absurd hz2 List.not_mem_nil⟩⟩) (by decide) (by decide) rfl tm_1092 (va_Nw.use rfl ((hZ.2.2 _ _ _ hz).2.2.2.2.2.2 _ fw_cast_3)) hl hP hD hS hce hv hcl ?_
      refine jk_astore C rd_Law_nibble_21 (by decide) (lv' := [(4, .ref q9), (0, .ref ax), (1, jk_V x1), (2, jk_V x2), (3, .ref o)]) rfl ?_
      refine jk_iconst C rd_Law_nibble_23 ?_
      exact jk_eret C rfl rd_Law_nibble_24 rfl (Nat.le_of_ble_eq_true rfl) (Nat.le_of_ble_eq_true rfl)

set_option maxHeartbeats 4000000 in
set_option maxRecDepth 20000 in
theorem wr_dye (l : Launch) (D : va_G) (Z : (Nat → Prop) → State → Heap → Prop) (sq : Nat → Nat) (hZ : jk_ZK Z sq) (hNC : ∀ (A : Nat → Prop) (U : State) (H : Heap), Z A U H → ∀ x ∈ jk_ncs, va_Nc (jk_exc x.1) (jk_exc x.2) U) (cI cR cL : ClassId) {W Wf : va_W} (hN : W.length = 155) {ax : Nat} {fs : List Value} (hx : W[0]? = some (ax, .inr (10, fs))) (o : Nat) (f : Nat → Int64) (x1 : Int) (x2 : Int) (q : Nat ⊕ (Int × va_W)) (hM : jk_XI l D jk_cl (jk_ty cI cR) Z mn_KR_dye (.code mn_KR_dye mb_KR_dye 3 (some .int) :: jk_WA) (jk_rx 7 3 18 143) [.ref ax, jk_V x1, jk_V x2] W q 3 18) {t b : Int} (ho : jk_oc [1] q W Wf t b) (hf : Wf.map (·.1) = W.map (·.1)) : jk_ME l D jk_cl (jk_t3 cI cR cL) Z mn_Law_dye (.codeWith mn_Law_dye mb_Law_dye 5 (some .int) [(0, 10, 13, 13)] :: jk_WA) (jk_rx 8 3 18 165) [.ref ax, jk_V x1, jk_V x2, .ref o] (W ++ [(o, .inl (cL, 1, .inr (.inl f)))]) (Wf ++ [(o, .inl (cL, 1, .inr (.inl (jk_oz q f))))]) t 3 18 := by
  intro sz
  refine jk_hbody (by decide +kernel) (fun p e s m args below meth c hsz hz htb C => ?_) (Nat.le_of_ble_eq_true rfl)
  subst hsz
  have C2 := jk_Csub C [0, 1] rfl (tys' := jk_ty cI cR)
  refine jk_aload_n C rd_Law_dye_0 (k := 3) rfl ?_
  refine jk_iconst C rd_Law_dye_1 ?_
  refine jk_aload_n C rd_Law_dye_2 (k := 0) rfl ?_
  refine jk_iload_n C rd_Law_dye_3 (k := 1) rfl ?_
  refine jk_iload_n C rd_Law_dye_4 (k := 2) rfl ?_
  refine jk_tryX C2 hZ.1 hz hM tm_1164 tm_1165 tm_1166 tm_1 tm_1167 na_KR_dye ⟨Nat.le_of_ble_eq_true rfl, Nat.le_of_ble_eq_true rfl⟩ rfl (List.range 155) (lw_pl hN) (by decide +kernel) (lw_put hN hN) 0 10 (lw_hd hN hx _) rfl rfl (st := [jk_V 0, .ref o]) rfl (Nat.le_of_ble_eq_true rfl) rd_Law_dye_5 ⟨Nat.le_of_ble_eq_true rfl, Nat.le_of_ble_eq_true rfl⟩ (fun z h => ?_) (fun z h => ?_) (fun k H1 locs1 ls q9 ce h hl hP hD hS hce hv hcl => ?_)
  · subst h
    obtain ⟨-, -, h3⟩ := ho
    rw [h3]
    exact hf
  · subst h
    obtain ⟨h1, h2, h3⟩ := ho
    subst h1; subst h2; subst h3
    rw [lw_put hN (lw_len hN hf)]
    refine jk_i2l C rd_Law_dye_8 ?_
    refine jk_last C 155 2 (lw_at (lw_len hN hf) _) rfl rd_Law_dye_9 (lw_set (lw_len hN hf) _ _) ?_
    refine jk_goto (tgt := 17) C rd_Law_dye_10 (by decide) ?_
    refine jk_iconst C rd_Law_dye_17 ?_
    exact jk_eret C rfl rd_Law_dye_18 rfl (Nat.le_of_ble_eq_true rfl) (Nat.le_of_ble_eq_true rfl)
  · subst h
    obtain ⟨j, h1, h2, h3⟩ := ho
    subst h3
    have hj : j < 1 := (List.getElem?_eq_some_iff.mp h1).1
    rcases (show j = 0 by omega) with rfl
    · cases h1
      subst h2
      refine jk_catch C (k := 1) (tgt := 13) [] ⟨0, 10, 13, 13⟩ [] (htb.trans rfl) (fun z hz2 => absurd hz2 List.not_mem_nil) (by decide) (by decide) rfl tm_787 (va_Nw.use rfl ((hZ.2.2 _ _ _ hz).2.2.2.2.2.2 _ fw_cast_1)) hl hP hD hS hce hv hcl ?_
      refine jk_astore C rd_Law_dye_13 (by decide) (lv' := [(4, .ref q9), (0, .ref ax), (1, jk_V x1), (2, jk_V x2), (3, .ref o)]) rfl ?_
      refine jk_iconst C rd_Law_dye_15 ?_
      exact jk_eret C rfl rd_Law_dye_16 rfl (Nat.le_of_ble_eq_true rfl) (Nat.le_of_ble_eq_true rfl)

set_option maxHeartbeats 4000000 in
set_option maxRecDepth 20000 in
theorem wr_repair (l : Launch) (D : va_G) (Z : (Nat → Prop) → State → Heap → Prop) (sq : Nat → Nat) (hZ : jk_ZK Z sq) (hNC : ∀ (A : Nat → Prop) (U : State) (H : Heap), Z A U H → ∀ x ∈ jk_ncs, va_Nc (jk_exc x.1) (jk_exc x.2) U) (cI cR cL : ClassId) {W Wf : va_W} (hN : W.length = 155) {ax : Nat} {fs : List Value} (hx : W[0]? = some (ax, .inr (10, fs))) (o : Nat) (f : Nat → Int64) (x1 : Int) (q : Nat ⊕ (Int × va_W)) (hM : jk_XI l D jk_cl (jk_ty cI cR) Z mn_KR_repair (.code mn_KR_repair mb_KR_repair 2 (some .int) :: jk_WA) (jk_rx 7 3 18 143) [.ref ax, jk_V x1] W q 3 18) {t b : Int} (ho : jk_oc [1, 3] q W Wf t b) (hf : Wf.map (·.1) = W.map (·.1)) : jk_ME l D jk_cl (jk_t3 cI cR cL) Z mn_Law_repair (.codeWith mn_Law_repair mb_Law_repair 4 (some .int) [(0, 9, 12, 13), (0, 9, 15, 94)] :: jk_WA) (jk_rx 8 3 18 164) [.ref ax, jk_V x1, .ref o] (W ++ [(o, .inl (cL, 1, .inr (.inl f)))]) (Wf ++ [(o, .inl (cL, 1, .inr (.inl (jk_oz q f))))]) t 3 18 := by
  intro sz
  refine jk_hbody (by decide +kernel) (fun p e s m args below meth c hsz hz htb C => ?_) (Nat.le_of_ble_eq_true rfl)
  subst hsz
  have C2 := jk_Csub C [0, 1] rfl (tys' := jk_ty cI cR)
  refine jk_aload_n C rd_Law_repair_0 (k := 2) rfl ?_
  refine jk_iconst C rd_Law_repair_1 ?_
  refine jk_aload_n C rd_Law_repair_2 (k := 0) rfl ?_
  refine jk_iload_n C rd_Law_repair_3 (k := 1) rfl ?_
  refine jk_tryX C2 hZ.1 hz hM tm_1171 tm_1172 tm_1173 tm_1 tm_1174 na_KR_repair ⟨Nat.le_of_ble_eq_true rfl, Nat.le_of_ble_eq_true rfl⟩ rfl (List.range 155) (lw_pl hN) (by decide +kernel) (lw_put hN hN) 0 10 (lw_hd hN hx _) rfl rfl (st := [jk_V 0, .ref o]) rfl (Nat.le_of_ble_eq_true rfl) rd_Law_repair_4 ⟨Nat.le_of_ble_eq_true rfl, Nat.le_of_ble_eq_true rfl⟩ (fun z h => ?_) (fun z h => ?_) (fun k H1 locs1 ls q9 ce h hl hP hD hS hce hv hcl => ?_)
  · subst h
    obtain ⟨-, -, h3⟩ := ho
    rw [h3]
    exact hf
  · subst h
    obtain ⟨h1, h2, h3⟩ := ho
    subst h1; subst h2; subst h3
    rw [lw_put hN (lw_len hN hf)]
    refine jk_i2l C rd_Law_repair_7 ?_
    refine jk_last C 155 2 (lw_at (lw_len hN hf) _) rfl rd_Law_repair_8 (lw_set (lw_len hN hf) _ _) ?_
    refine jk_goto (tgt := 18) C rd_Law_repair_9 (by decide) ?_
    refine jk_iconst C rd_Law_repair_18 ?_
    exact jk_eret C rfl rd_Law_repair_19 rfl (Nat.le_of_ble_eq_true rfl) (Nat.le_of_ble_eq_true rfl)
  · subst h
    obtain ⟨j, h1, h2, h3⟩ := ho
    subst h3
    have hj : j < 2 := (List.getElem?_eq_some_iff.mp h1).1
    rcases (show j = 0 ∨ j = 1 by omega) with rfl | rfl
    · cases h1
      subst h2
      refine jk_catch C (k := 1) (tgt := 12) [] ⟨0, 9, 12, 13⟩ [⟨0, 9, 15, 94⟩] (htb.trans rfl) (fun z hz2 => absurd hz2 List.not_mem_nil) (by decide) (by decide) rfl tm_787 (va_Nw.use rfl ((hZ.2.2 _ _ _ hz).2.2.2.2.2.2 _ fw_cast_1)) hl hP hD hS hce hv hcl ?_
      refine jk_astore_n C rd_Law_repair_12 (by decide) (lv' := [(3, .ref q9), (0, .ref ax), (1, jk_V x1), (2, .ref o)]) rfl ?_
      refine jk_iconst C rd_Law_repair_13 ?_
      exact jk_eret C rfl rd_Law_repair_14 rfl (Nat.le_of_ble_eq_true rfl) (Nat.le_of_ble_eq_true rfl)
    · cases h1
      subst h2
      refine jk_catch C (k := 3) (tgt := 15) [⟨0, 9, 12, 13⟩] ⟨0, 9, 15, 94⟩ [] (htb.trans rfl) (List.forall_mem_cons.mpr ⟨Or.inr ⟨by decide, _, C.1.2.2.2.2 _ tm_787, hNC _ _ _ hz (3, 1) (by decide)⟩, fun z hz2 => absurd hz2 List.not_mem_nil⟩) (by decide) (by decide) rfl tm_1092 (va_Nw.use rfl ((hZ.2.2 _ _ _ hz).2.2.2.2.2.2 _ fw_cast_3)) hl hP hD hS hce hv hcl ?_
      refine jk_astore_n C rd_Law_repair_15 (by decide) (lv' := [(3, .ref q9), (0, .ref ax), (1, jk_V x1), (2, .ref o)]) rfl ?_
      refine jk_iconst C rd_Law_repair_16 ?_
      exact jk_eret C rfl rd_Law_repair_17 rfl (Nat.le_of_ble_eq_true rfl) (Nat.le_of_ble_eq_true rfl)

set_option maxHeartbeats 4000000 in
set_option maxRecDepth 20000 in
theorem wr_undo (l : Launch) (D : va_G) (Z : (Nat → Prop) → State → Heap → Prop) (sq : Nat → Nat) (hZ : jk_ZK Z sq) (hNC : ∀ (A : Nat → Prop) (U : State) (H : Heap), Z A U H → ∀ x ∈ jk_ncs, va_Nc (jk_exc x.1) (jk_exc x.2) U) (cI cR cL : ClassId) {W Wf : va_W} (hN : W.length = 155) {ax : Nat} {fs : List Value} (hx : W[0]? = some (ax, .inr (10, fs))) (o : Nat) (f : Nat → Int64) (q : Nat ⊕ (Int × va_W)) (hM : jk_XI l D jk_cl (jk_ty cI cR) Z mn_KR_undo (.code mn_KR_undo mb_KR_undo 1 (some .int) :: jk_WA) (jk_rx 6 1 6 100) [.ref ax] W q 1 6) {t b : Int} (ho : jk_oc [4] q W Wf t b) (hf : Wf.map (·.1) = W.map (·.1)) : jk_ME l D jk_cl (jk_t3 cI cR cL) Z mn_Law_undo (.codeWith mn_Law_undo mb_Law_undo 3 (some .int) [(0, 8, 11, 55)] :: jk_WA) (jk_rx 7 1 6 120) [.ref ax, .ref o] (W ++ [(o, .inl (cL, 1, .inr (.inl f)))]) (Wf ++ [(o, .inl (cL, 1, .inr (.inl (jk_oz q f))))]) t 1 6 := by
  intro sz
  refine jk_hbody (by decide +kernel) (fun p e s m args below meth c hsz hz htb C => ?_) (Nat.le_of_ble_eq_true rfl)
  subst hsz
  have C2 := jk_Csub C [0, 1] rfl (tys' := jk_ty cI cR)
  refine jk_aload_n C rd_Law_undo_0 (k := 1) rfl ?_
  refine jk_iconst C rd_Law_undo_1 ?_
  refine jk_aload_n C rd_Law_undo_2 (k := 0) rfl ?_
  refine jk_tryX C2 hZ.1 hz hM tm_1178 tm_1179 tm_1180 tm_1 tm_1181 na_KR_undo ⟨Nat.le_of_ble_eq_true rfl, Nat.le_of_ble_eq_true rfl⟩ rfl (List.range 155) (lw_pl hN) (by decide +kernel) (lw_put hN hN) 0 10 (lw_hd hN hx _) rfl rfl (st := [jk_V 0, .ref o]) rfl (Nat.le_of_ble_eq_true rfl) rd_Law_undo_3 ⟨Nat.le_of_ble_eq_true rfl, Nat.le_of_ble_eq_true rfl⟩ (fun z h => ?_) (fun z h => ?_) (fun k H1 locs1 ls q9 ce h hl hP hD hS hce hv hcl => ?_)
  · subst h
    obtain ⟨-, -, h3⟩ := ho
    rw [h3]
    exact hf
  · subst h
    obtain ⟨h1, h2, h3⟩ := ho
    subst h1; subst h2; subst h3
    rw [lw_put hN (lw_len hN hf)]
    refine jk_i2l C rd_Law_undo_6 ?_
    refine jk_last C 155 2 (lw_at (lw_len hN hf) _) rfl rd_Law_undo_7 (lw_set (lw_len hN hf) _ _) ?_
    refine jk_goto (tgt := 14) C rd_Law_undo_8 (by decide) ?_
    refine jk_iconst C rd_Law_undo_14 ?_
    exact jk_eret C rfl rd_Law_undo_15 rfl (Nat.le_of_ble_eq_true rfl) (Nat.le_of_ble_eq_true rfl)
  · subst h
    obtain ⟨j, h1, h2, h3⟩ := ho
    subst h3
    have hj : j < 1 := (List.getElem?_eq_some_iff.mp h1).1
    rcases (show j = 0 by omega) with rfl
    · cases h1
      subst h2
      refine jk_catch C (k := 4) (tgt := 11) [] ⟨0, 8, 11, 55⟩ [] (htb.trans rfl) (fun z hz2 => absurd hz2 List.not_mem_nil) (by decide) (by decide) rfl tm_981 (va_Nw.use rfl ((hZ.2.2 _ _ _ hz).2.2.2.2.2.2 _ fw_cast_4)) hl hP hD hS hce hv hcl ?_
      refine jk_astore_n C rd_Law_undo_11 (by decide) (lv' := [(2, .ref q9), (0, .ref ax), (1, .ref o)]) rfl ?_
      refine jk_iconst C rd_Law_undo_12 ?_
      exact jk_eret C rfl rd_Law_undo_13 rfl (Nat.le_of_ble_eq_true rfl) (Nat.le_of_ble_eq_true rfl)

set_option maxHeartbeats 4000000 in
set_option maxRecDepth 20000 in
theorem wr_writeCluster (l : Launch) (D : va_G) (Z : (Nat → Prop) → State → Heap → Prop) (sq : Nat → Nat) (hZ : jk_ZK Z sq) (hNC : ∀ (A : Nat → Prop) (U : State) (H : Heap), Z A U H → ∀ x ∈ jk_ncs, va_Nc (jk_exc x.1) (jk_exc x.2) U) (cI cR cL : ClassId) {W Wf : va_W} (hN : W.length = 155) {ax : Nat} {fs : List Value} (hx : W[0]? = some (ax, .inr (10, fs))) (o : Nat) (f : Nat → Int64) (x1 : Int) (q : Nat ⊕ (Int × va_W)) (hM : jk_XI l D jk_cl (jk_ty cI cR) Z mn_KR_writeCluster (.code mn_KR_writeCluster mb_KR_writeCluster 6 (some .int) :: jk_WA) (jk_rx 7 1 6 121) [.ref ax, jk_V x1] W q 1 6) {t b : Int} (ho : jk_oc [1] q W Wf t b) (hf : Wf.map (·.1) = W.map (·.1)) : jk_ME l D jk_cl (jk_t3 cI cR cL) Z mn_Law_writeCluster (.codeWith mn_Law_writeCluster mb_Law_writeCluster 4 (some .int) [(0, 9, 12, 13)] :: jk_WA) (jk_rx 8 1 6 146) [.ref ax, jk_V x1, .ref o] (W ++ [(o, .inl (cL, 1, .inr (.inl f)))]) (Wf ++ [(o, .inl (cL, 1, .inr (.inl (jk_oz q f))))]) t 1 6 := by
  intro sz
  refine jk_hbody (by decide +kernel) (fun p e s m args below meth c hsz hz htb C => ?_) (Nat.le_of_ble_eq_true rfl)
  subst hsz
  have C2 := jk_Csub C [0, 1] rfl (tys' := jk_ty cI cR)
  refine jk_aload_n C rd_Law_writeCluster_0 (k := 2) rfl ?_
  refine jk_iconst C rd_Law_writeCluster_1 ?_
  refine jk_aload_n C rd_Law_writeCluster_2 (k := 0) rfl ?_
  refine jk_iload_n C rd_Law_writeCluster_3 (k := 1) rfl ?_
  refine jk_tryX C2 hZ.1 hz hM tm_1190 tm_1191 tm_1192 tm_1 tm_1193 na_KR_writeCluster ⟨Nat.le_of_ble_eq_true rfl, Nat.le_of_ble_eq_true rfl⟩ rfl (List.range 155) (lw_pl hN) (by decide +kernel) (lw_put hN hN) 0 10 (lw_hd hN hx _) rfl rfl (st := [jk_V 0, .ref o]) rfl (Nat.le_of_ble_eq_true rfl) rd_Law_writeCluster_4 ⟨Nat.le_of_ble_eq_true rfl, Nat.le_of_ble_eq_true rfl⟩ (fun z h => ?_) (fun z h => ?_) (fun k H1 locs1 ls q9 ce h hl hP hD hS hce hv hcl => ?_)
  · subst h
    obtain ⟨-, -, h3⟩ := ho
    rw [h3]
    exact hf
  · subst h
    obtain ⟨h1, h2, h3⟩ := ho
    subst h1; subst h2; subst h3
    rw [lw_put hN (lw_len hN hf)]
    refine jk_i2l C rd_Law_writeCluster_7 ?_
    refine jk_last C 155 2 (lw_at (lw_len hN hf) _) rfl rd_Law_writeCluster_8 (lw_set (lw_len hN hf) _ _) ?_
    refine jk_goto (tgt := 15) C rd_Law_writeCluster_9 (by decide) ?_
    refine jk_iconst C rd_Law_writeCluster_15 ?_
    exact jk_eret C rfl rd_Law_writeCluster_16 rfl (Nat.le_of_ble_eq_true rfl) (Nat.le_of_ble_eq_true rfl)
  · subst h
    obtain ⟨j, h1, h2, h3⟩ := ho
    subst h3
    have hj : j < 1 := (List.getElem?_eq_some_iff.mp h1).1
    rcases (show j = 0 by omega) with rfl
    · cases h1
      subst h2
      refine jk_catch C (k := 1) (tgt := 12) [] ⟨0, 9, 12, 13⟩ [] (htb.trans rfl) (fun z hz2 => absurd hz2 List.not_mem_nil) (by decide) (by decide) rfl tm_787 (va_Nw.use rfl ((hZ.2.2 _ _ _ hz).2.2.2.2.2.2 _ fw_cast_1)) hl hP hD hS hce hv hcl ?_
      refine jk_astore_n C rd_Law_writeCluster_12 (by decide) (lv' := [(3, .ref q9), (0, .ref ax), (1, jk_V x1), (2, .ref o)]) rfl ?_
      refine jk_iconst C rd_Law_writeCluster_13 ?_
      exact jk_eret C rfl rd_Law_writeCluster_14 rfl (Nat.le_of_ble_eq_true rfl) (Nat.le_of_ble_eq_true rfl)

set_option maxHeartbeats 4000000 in
set_option maxRecDepth 20000 in
theorem wr_restoreState (l : Launch) (D : va_G) (Z : (Nat → Prop) → State → Heap → Prop) (sq : Nat → Nat) (hZ : jk_ZK Z sq) (hNC : ∀ (A : Nat → Prop) (U : State) (H : Heap), Z A U H → ∀ x ∈ jk_ncs, va_Nc (jk_exc x.1) (jk_exc x.2) U) (cI cR cL : ClassId) {W Wf : va_W} (hN : W.length = 155) {ax : Nat} {fs : List Value} (hx : W[0]? = some (ax, .inr (10, fs))) (o : Nat) (f : Nat → Int64) (q : Nat ⊕ (Int × va_W)) (hM : jk_XI l D jk_cl (jk_ty cI cR) Z mn_KR_restoreState (.code mn_KR_restoreState mb_KR_restoreState 1 (some .int) :: jk_WA) (jk_rx 6 1 6 100) [.ref ax] W q 1 6) {t b : Int} (ho : jk_oc [4] q W Wf t b) (hf : Wf.map (·.1) = W.map (·.1)) : jk_ME l D jk_cl (jk_t3 cI cR cL) Z mn_Law_restoreState (.codeWith mn_Law_restoreState mb_Law_restoreState 3 (some .int) [(0, 8, 11, 55)] :: jk_WA) (jk_rx 7 1 6 120) [.ref ax, .ref o] (W ++ [(o, .inl (cL, 1, .inr (.inl f)))]) (Wf ++ [(o, .inl (cL, 1, .inr (.inl (jk_oz q f))))]) t 1 6 := by
  intro sz
  refine jk_hbody (by decide +kernel) (fun p e s m args below meth c hsz hz htb C => ?_) (Nat.le_of_ble_eq_true rfl)
  subst hsz
  have C2 := jk_Csub C [0, 1] rfl (tys' := jk_ty cI cR)
  refine jk_aload_n C rd_Law_restoreState_0 (k := 1) rfl ?_
  refine jk_iconst C rd_Law_restoreState_1 ?_
  refine jk_aload_n C rd_Law_restoreState_2 (k := 0) rfl ?_
  refine jk_tryX C2 hZ.1 hz hM tm_1217 tm_1218 tm_1219 tm_1 tm_1220 na_KR_restoreState ⟨Nat.le_of_ble_eq_true rfl, Nat.le_of_ble_eq_true rfl⟩ rfl (List.range 155) (lw_pl hN) (by decide +kernel) (lw_put hN hN) 0 10 (lw_hd hN hx _) rfl rfl (st := [jk_V 0, .ref o]) rfl (Nat.le_of_ble_eq_true rfl) rd_Law_restoreState_3 ⟨Nat.le_of_ble_eq_true rfl, Nat.le_of_ble_eq_true rfl⟩ (fun z h => ?_) (fun z h => ?_) (fun k H1 locs1 ls q9 ce h hl hP hD hS hce hv hcl => ?_)
  · subst h
    obtain ⟨-, -, h3⟩ := ho
    rw [h3]
    exact hf
  · subst h
    obtain ⟨h1, h2, h3⟩ := ho
    subst h1; subst h2; subst h3
    rw [lw_put hN (lw_len hN hf)]
    refine jk_i2l C rd_Law_restoreState_6 ?_
    refine jk_last C 155 2 (lw_at (lw_len hN hf) _) rfl rd_Law_restoreState_7 (lw_set (lw_len hN hf) _ _) ?_
    refine jk_goto (tgt := 14) C rd_Law_restoreState_8 (by decide) ?_
    refine jk_iconst C rd_Law_restoreState_14 ?_
    exact jk_eret C rfl rd_Law_restoreState_15 rfl (Nat.le_of_ble_eq_true rfl) (Nat.le_of_ble_eq_true rfl)
  · subst h
    obtain ⟨j, h1, h2, h3⟩ := ho
    subst h3
    have hj : j < 1 := (List.getElem?_eq_some_iff.mp h1).1
    rcases (show j = 0 by omega) with rfl
    · cases h1
      subst h2
      refine jk_catch C (k := 4) (tgt := 11) [] ⟨0, 8, 11, 55⟩ [] (htb.trans rfl) (fun z hz2 => absurd hz2 List.not_mem_nil) (by decide) (by decide) rfl tm_981 (va_Nw.use rfl ((hZ.2.2 _ _ _ hz).2.2.2.2.2.2 _ fw_cast_4)) hl hP hD hS hce hv hcl ?_
      refine jk_astore_n C rd_Law_restoreState_11 (by decide) (lv' := [(2, .ref q9), (0, .ref ax), (1, .ref o)]) rfl ?_
      refine jk_iconst C rd_Law_restoreState_12 ?_
      exact jk_eret C rfl rd_Law_restoreState_13 rfl (Nat.le_of_ble_eq_true rfl) (Nat.le_of_ble_eq_true rfl)

