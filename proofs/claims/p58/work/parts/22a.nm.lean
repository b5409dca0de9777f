/-! names, words and decode rows of the methods of the law and of the JDK that it calls -/
def mn_Cu_init : MethodName := ⟨"KnotReaderLaw$Cluster", "<init>", "()V"⟩
abbrev mb_Cu_init : ByteArray := prog_13_method_1_code
theorem na_Cu_init : jk_nm mn_Cu_init 0 := ⟨by decide +kernel, by decide +kernel, by decide +kernel⟩
def mn_Cu_sum : MethodName := ⟨"KnotReaderLaw$Cluster", "sum", "()I"⟩
abbrev mb_Cu_sum : ByteArray := prog_13_method_2_code
theorem na_Cu_sum : jk_nm mn_Cu_sum 0 := ⟨by decide +kernel, by decide +kernel, by decide +kernel⟩
def mn_Cu_nibbledOnes : MethodName := ⟨"KnotReaderLaw$Cluster", "nibbledOnes", "()I"⟩
abbrev mb_Cu_nibbledOnes : ByteArray := prog_13_method_3_code
theorem na_Cu_nibbledOnes : jk_nm mn_Cu_nibbledOnes 0 := ⟨by decide +kernel, by decide +kernel, by decide +kernel⟩
def mn_Cu_state : MethodName := ⟨"KnotReaderLaw$Cluster", "state", "()I"⟩
abbrev mb_Cu_state : ByteArray := prog_13_method_4_code
theorem na_Cu_state : jk_nm mn_Cu_state 0 := ⟨by decide +kernel, by decide +kernel, by decide +kernel⟩
def mn_Cd_init : MethodName := ⟨"KnotReaderLaw$Cord", "<init>", "(II)V"⟩
abbrev mb_Cd_init : ByteArray := prog_14_method_1_code
theorem na_Cd_init : jk_nm mn_Cd_init 2 := ⟨by decide +kernel, by decide +kernel, by decide +kernel⟩
def mn_Cd_sets : MethodName := ⟨"KnotReaderLaw$Cord", "sets", "(I)V"⟩
abbrev mb_Cd_sets : ByteArray := prog_14_method_2_code
theorem na_Cd_sets : jk_nm mn_Cd_sets 1 := ⟨by decide +kernel, by decide +kernel, by decide +kernel⟩
def mn_Cd_known : MethodName := ⟨"KnotReaderLaw$Cord", "known", "()I"⟩
abbrev mb_Cd_known : ByteArray := prog_14_method_3_code
theorem na_Cd_known : jk_nm mn_Cd_known 0 := ⟨by decide +kernel, by decide +kernel, by decide +kernel⟩
def mn_Cd_total : MethodName := ⟨"KnotReaderLaw$Cord", "total", "()I"⟩
abbrev mb_Cd_total : ByteArray := prog_14_method_4_code
theorem na_Cd_total : jk_nm mn_Cd_total 0 := ⟨by decide +kernel, by decide +kernel, by decide +kernel⟩
def mn_Cd_many : MethodName := ⟨"KnotReaderLaw$Cord", "many", "()I"⟩
abbrev mb_Cd_many : ByteArray := prog_14_method_5_code
theorem na_Cd_many : jk_nm mn_Cd_many 0 := ⟨by decide +kernel, by decide +kernel, by decide +kernel⟩
def mn_Cd_nibbledOnes : MethodName := ⟨"KnotReaderLaw$Cord", "nibbledOnes", "()I"⟩
abbrev mb_Cd_nibbledOnes : ByteArray := prog_14_method_6_code
theorem na_Cd_nibbledOnes : jk_nm mn_Cd_nibbledOnes 0 := ⟨by decide +kernel, by decide +kernel, by decide +kernel⟩
def mn_Rd_init : MethodName := ⟨"KnotReaderLaw$Reader", "<init>", "()V"⟩
abbrev mb_Rd_init : ByteArray := prog_15_method_1_code
theorem na_Rd_init : jk_nm mn_Rd_init 0 := ⟨by decide +kernel, by decide +kernel, by decide +kernel⟩
def mn_Rd_lists : MethodName := ⟨"KnotReaderLaw$Reader", "lists", "(LKnotReaderLaw$Cord;II)V"⟩
abbrev mb_Rd_lists : ByteArray := prog_15_method_2_code
theorem na_Rd_lists : jk_nm mn_Rd_lists 3 := ⟨by decide +kernel, by decide +kernel, by decide +kernel⟩
def mn_Rd_listsAll : MethodName := ⟨"KnotReaderLaw$Reader", "listsAll", "()V"⟩
abbrev mb_Rd_listsAll : ByteArray := prog_15_method_3_code
theorem na_Rd_listsAll : jk_nm mn_Rd_listsAll 0 := ⟨by decide +kernel, by decide +kernel, by decide +kernel⟩
def mn_Rd_indexOf : MethodName := ⟨"KnotReaderLaw$Reader", "indexOf", "(LKnotReaderLaw$Cord;)I"⟩
abbrev mb_Rd_indexOf : ByteArray := prog_15_method_4_code
theorem na_Rd_indexOf : jk_nm mn_Rd_indexOf 1 := ⟨by decide +kernel, by decide +kernel, by decide +kernel⟩
def mn_Rd_only : MethodName := ⟨"KnotReaderLaw$Reader", "only", "(I)LKnotReaderLaw$Cord;"⟩
abbrev mb_Rd_only : ByteArray := prog_15_method_5_code
theorem na_Rd_only : jk_nm mn_Rd_only 1 := ⟨by decide +kernel, by decide +kernel, by decide +kernel⟩
def mn_Rd_guess : MethodName := ⟨"KnotReaderLaw$Reader", "guess", "(I)I"⟩
abbrev mb_Rd_guess : ByteArray := prog_15_method_6_code
theorem na_Rd_guess : jk_nm mn_Rd_guess 1 := ⟨by decide +kernel, by decide +kernel, by decide +kernel⟩
def mn_Rd_reason : MethodName := ⟨"KnotReaderLaw$Reader", "reason", "(I)I"⟩
abbrev mb_Rd_reason : ByteArray := prog_15_method_7_code
theorem na_Rd_reason : jk_nm mn_Rd_reason 1 := ⟨by decide +kernel, by decide +kernel, by decide +kernel⟩
def mn_Rd_removes : MethodName := ⟨"KnotReaderLaw$Reader", "removes", "(LKnotReaderLaw$Cord;)V"⟩
abbrev mb_Rd_removes : ByteArray := prog_15_method_8_code
theorem na_Rd_removes : jk_nm mn_Rd_removes 1 := ⟨by decide +kernel, by decide +kernel, by decide +kernel⟩
def mn_Rd_removesFrom : MethodName := ⟨"KnotReaderLaw$Reader", "removesFrom", "(Ljava/util/List;LKnotReaderLaw$Cord;)V"⟩
abbrev mb_Rd_removesFrom : ByteArray := prog_15_method_9_code
theorem na_Rd_removesFrom : jk_nm mn_Rd_removesFrom 2 := ⟨by decide +kernel, by decide +kernel, by decide +kernel⟩
def mn_ASB_init : MethodName := ⟨"java/lang/AbstractStringBuilder", "<init>", "(Ljava/lang/String;)V"⟩
abbrev mb_ASB_init : ByteArray := prog_18_method_3_code
theorem na_ASB_init : jk_nm mn_ASB_init 1 := ⟨by decide +kernel, by decide +kernel, by decide +kernel⟩
def mn_ASB_length : MethodName := ⟨"java/lang/AbstractStringBuilder", "length", "()I"⟩
abbrev mb_ASB_length : ByteArray := prog_18_method_6_code
theorem na_ASB_length : jk_nm mn_ASB_length 0 := ⟨by decide +kernel, by decide +kernel, by decide +kernel⟩
def mn_ASB_ensureCapacityInternal : MethodName := ⟨"java/lang/AbstractStringBuilder", "ensureCapacityInternal", "(I)V"⟩
abbrev mb_ASB_ensureCapacityInternal : ByteArray := prog_18_method_9_code
theorem na_ASB_ensureCapacityInternal : jk_nm mn_ASB_ensureCapacityInternal 1 := ⟨by decide +kernel, by decide +kernel, by decide +kernel⟩
def mn_ASB_newCapacity : MethodName := ⟨"java/lang/AbstractStringBuilder", "newCapacity", "(I)I"⟩
abbrev mb_ASB_newCapacity : ByteArray := prog_18_method_10_code
theorem na_ASB_newCapacity : jk_nm mn_ASB_newCapacity 1 := ⟨by decide +kernel, by decide +kernel, by decide +kernel⟩
def mn_ASB_apS : MethodName := ⟨"java/lang/AbstractStringBuilder", "append", "(Ljava/lang/String;)Ljava/lang/AbstractStringBuilder;"⟩
abbrev mb_ASB_apS : ByteArray := prog_18_method_22_code
theorem na_ASB_apS : jk_nm mn_ASB_apS 1 := ⟨by decide +kernel, by decide +kernel, by decide +kernel⟩
def mn_ASB_apC : MethodName := ⟨"java/lang/AbstractStringBuilder", "append", "(C)Ljava/lang/AbstractStringBuilder;"⟩
abbrev mb_ASB_apC : ByteArray := prog_18_method_31_code
theorem na_ASB_apC : jk_nm mn_ASB_apC 1 := ⟨by decide +kernel, by decide +kernel, by decide +kernel⟩
def mn_ASB_apI : MethodName := ⟨"java/lang/AbstractStringBuilder", "append", "(I)Ljava/lang/AbstractStringBuilder;"⟩
abbrev mb_ASB_apI : ByteArray := prog_18_method_32_code
theorem na_ASB_apI : jk_nm mn_ASB_apI 1 := ⟨by decide +kernel, by decide +kernel, by decide +kernel⟩
def mn_ASB_getValue : MethodName := ⟨"java/lang/AbstractStringBuilder", "getValue", "()[B"⟩
abbrev mb_ASB_getValue : ByteArray := prog_18_method_64_code
theorem na_ASB_getValue : jk_nm mn_ASB_getValue 0 := ⟨by decide +kernel, by decide +kernel, by decide +kernel⟩
def mn_ASB_isLatin1 : MethodName := ⟨"java/lang/AbstractStringBuilder", "isLatin1", "()Z"⟩
abbrev mb_ASB_isLatin1 : ByteArray := prog_18_method_68_code
theorem na_ASB_isLatin1 : jk_nm mn_ASB_isLatin1 0 := ⟨by decide +kernel, by decide +kernel, by decide +kernel⟩
def mn_ASB_inflateIfNeededFor : MethodName := ⟨"java/lang/AbstractStringBuilder", "inflateIfNeededFor", "(Ljava/lang/String;)V"⟩
abbrev mb_ASB_inflateIfNeededFor : ByteArray := prog_18_method_71_code
theorem na_ASB_inflateIfNeededFor : jk_nm mn_ASB_inflateIfNeededFor 1 := ⟨by decide +kernel, by decide +kernel, by decide +kernel⟩
def mn_ASB_putStringAt : MethodName := ⟨"java/lang/AbstractStringBuilder", "putStringAt", "(ILjava/lang/String;)V"⟩
abbrev mb_ASB_putStringAt : ByteArray := prog_18_method_73_code
theorem na_ASB_putStringAt : jk_nm mn_ASB_putStringAt 2 := ⟨by decide +kernel, by decide +kernel, by decide +kernel⟩
def mn_JInt_getChars : MethodName := ⟨"java/lang/Integer", "getChars", "(II[B)I"⟩
abbrev mb_JInt_getChars : ByteArray := prog_27_method_12_code
theorem na_JInt_getChars : jk_nm mn_JInt_getChars 3 := ⟨by decide +kernel, by decide +kernel, by decide +kernel⟩
def mn_JInt_stringSize : MethodName := ⟨"java/lang/Integer", "stringSize", "(I)I"⟩
abbrev mb_JInt_stringSize : ByteArray := prog_27_method_13_code
theorem na_JInt_stringSize : jk_nm mn_JInt_stringSize 1 := ⟨by decide +kernel, by decide +kernel, by decide +kernel⟩
def mn_JInt_valueOf : MethodName := ⟨"java/lang/Integer", "valueOf", "(I)Ljava/lang/Integer;"⟩
abbrev mb_JInt_valueOf : ByteArray := prog_27_method_22_code
theorem na_JInt_valueOf : jk_nm mn_JInt_valueOf 1 := ⟨by decide +kernel, by decide +kernel, by decide +kernel⟩
def mn_JInt_intValue : MethodName := ⟨"java/lang/Integer", "intValue", "()I"⟩
abbrev mb_JInt_intValue : ByteArray := prog_27_method_27_code
theorem na_JInt_intValue : jk_nm mn_JInt_intValue 0 := ⟨by decide +kernel, by decide +kernel, by decide +kernel⟩
def mn_JMath_max : MethodName := ⟨"java/lang/Math", "max", "(II)I"⟩
abbrev mb_JMath_max : ByteArray := prog_30_method_65_code
theorem na_JMath_max : jk_nm mn_JMath_max 2 := ⟨by decide +kernel, by decide +kernel, by decide +kernel⟩
def mn_JMath_min : MethodName := ⟨"java/lang/Math", "min", "(II)I"⟩
abbrev mb_JMath_min : ByteArray := prog_30_method_69_code
theorem na_JMath_min : jk_nm mn_JMath_min 2 := ⟨by decide +kernel, by decide +kernel, by decide +kernel⟩
def mn_JStr_init1 : MethodName := ⟨"java/lang/String", "<init>", "(Ljava/lang/StringBuilder;)V"⟩
abbrev mb_JStr_init1 : ByteArray := prog_33_method_53_code
theorem na_JStr_init1 : jk_nm mn_JStr_init1 1 := ⟨by decide +kernel, by decide +kernel, by decide +kernel⟩
def mn_JStr_getBytes : MethodName := ⟨"java/lang/String", "getBytes", "([BIB)V"⟩
abbrev mb_JStr_getBytes : ByteArray := prog_33_method_147_code
theorem na_JStr_getBytes : jk_nm mn_JStr_getBytes 3 := ⟨by decide +kernel, by decide +kernel, by decide +kernel⟩
def mn_JStr_init2 : MethodName := ⟨"java/lang/String", "<init>", "(Ljava/lang/AbstractStringBuilder;Ljava/lang/Void;)V"⟩
abbrev mb_JStr_init2 : ByteArray := prog_33_method_150_code
theorem na_JStr_init2 : jk_nm mn_JStr_init2 2 := ⟨by decide +kernel, by decide +kernel, by decide +kernel⟩
def mn_JStr_checkBoundsOffCount : MethodName := ⟨"java/lang/String", "checkBoundsOffCount", "(III)I"⟩
abbrev mb_JStr_checkBoundsOffCount : ByteArray := prog_33_method_157_code
theorem na_JStr_checkBoundsOffCount : jk_nm mn_JStr_checkBoundsOffCount 3 := ⟨by decide +kernel, by decide +kernel, by decide +kernel⟩
def mn_JStr_checkBoundsBeginEnd : MethodName := ⟨"java/lang/String", "checkBoundsBeginEnd", "(III)V"⟩
abbrev mb_JStr_checkBoundsBeginEnd : ByteArray := prog_33_method_158_code
theorem na_JStr_checkBoundsBeginEnd : jk_nm mn_JStr_checkBoundsBeginEnd 3 := ⟨by decide +kernel, by decide +kernel, by decide +kernel⟩
def mn_SB_init : MethodName := ⟨"java/lang/StringBuilder", "<init>", "(Ljava/lang/String;)V"⟩
abbrev mb_SB_init : ByteArray := prog_34_method_3_code
theorem na_SB_init : jk_nm mn_SB_init 1 := ⟨by decide +kernel, by decide +kernel, by decide +kernel⟩
def mn_SB_apS : MethodName := ⟨"java/lang/StringBuilder", "append", "(Ljava/lang/String;)Ljava/lang/StringBuilder;"⟩
abbrev mb_SB_apS : ByteArray := prog_34_method_7_code
theorem na_SB_apS : jk_nm mn_SB_apS 1 := ⟨by decide +kernel, by decide +kernel, by decide +kernel⟩
def mn_SB_apC : MethodName := ⟨"java/lang/StringBuilder", "append", "(C)Ljava/lang/StringBuilder;"⟩
abbrev mb_SB_apC : ByteArray := prog_34_method_14_code
theorem na_SB_apC : jk_nm mn_SB_apC 1 := ⟨by decide +kernel, by decide +kernel, by decide +kernel⟩
def mn_SB_apI : MethodName := ⟨"java/lang/StringBuilder", "append", "(I)Ljava/lang/StringBuilder;"⟩
abbrev mb_SB_apI : ByteArray := prog_34_method_15_code
theorem na_SB_apI : jk_nm mn_SB_apI 1 := ⟨by decide +kernel, by decide +kernel, by decide +kernel⟩
def mn_SB_toString : MethodName := ⟨"java/lang/StringBuilder", "toString", "()Ljava/lang/String;"⟩
abbrev mb_SB_toString : ByteArray := prog_34_method_42_code
theorem na_SB_toString : jk_nm mn_SB_toString 0 := ⟨by decide +kernel, by decide +kernel, by decide +kernel⟩
def mn_SB_apSb : MethodName := ⟨"java/lang/StringBuilder", "append", "(Ljava/lang/String;)Ljava/lang/AbstractStringBuilder;"⟩
abbrev mb_SB_apSb : ByteArray := prog_34_method_80_code
theorem na_SB_apSb : jk_nm mn_SB_apSb 1 := ⟨by decide +kernel, by decide +kernel, by decide +kernel⟩
def mn_SB_length : MethodName := ⟨"java/lang/StringBuilder", "length", "()I"⟩
abbrev mb_SB_length : ByteArray := prog_34_method_93_code
theorem na_SB_length : jk_nm mn_SB_length 0 := ⟨by decide +kernel, by decide +kernel, by decide +kernel⟩
def mn_JLat_canEncode : MethodName := ⟨"java/lang/StringLatin1", "canEncode", "(C)Z"⟩
abbrev mb_JLat_canEncode : ByteArray := prog_35_method_3_code
theorem na_JLat_canEncode : jk_nm mn_JLat_canEncode 1 := ⟨by decide +kernel, by decide +kernel, by decide +kernel⟩
def mn_ABC_init : MethodName := ⟨"java/util/AbstractCollection", "<init>", "()V"⟩
abbrev mb_ABC_init : ByteArray := prog_41_method_1_code
theorem na_ABC_init : jk_nm mn_ABC_init 0 := ⟨by decide +kernel, by decide +kernel, by decide +kernel⟩
def mn_ABL_init : MethodName := ⟨"java/util/AbstractList", "<init>", "()V"⟩
abbrev mb_ABL_init : ByteArray := prog_42_method_1_code
theorem na_ABL_init : jk_nm mn_ABL_init 0 := ⟨by decide +kernel, by decide +kernel, by decide +kernel⟩
def mn_It_init : MethodName := ⟨"java/util/ArrayList$Itr", "<init>", "(Ljava/util/ArrayList;)V"⟩
abbrev mb_It_init : ByteArray := prog_44_method_1_code
theorem na_It_init : jk_nm mn_It_init 1 := ⟨by decide +kernel, by decide +kernel, by decide +kernel⟩
def mn_It_hasNext : MethodName := ⟨"java/util/ArrayList$Itr", "hasNext", "()Z"⟩
abbrev mb_It_hasNext : ByteArray := prog_44_method_2_code
theorem na_It_hasNext : jk_nm mn_It_hasNext 0 := ⟨by decide +kernel, by decide +kernel, by decide +kernel⟩
def mn_It_next : MethodName := ⟨"java/util/ArrayList$Itr", "next", "()Ljava/lang/Object;"⟩
abbrev mb_It_next : ByteArray := prog_44_method_3_code
theorem na_It_next : jk_nm mn_It_next 0 := ⟨by decide +kernel, by decide +kernel, by decide +kernel⟩
def mn_It_checkForComodification : MethodName := ⟨"java/util/ArrayList$Itr", "checkForComodification", "()V"⟩
abbrev mb_It_checkForComodification : ByteArray := prog_44_method_6_code
theorem na_It_checkForComodification : jk_nm mn_It_checkForComodification 0 := ⟨by decide +kernel, by decide +kernel, by decide +kernel⟩
def mn_AL_init : MethodName := ⟨"java/util/ArrayList", "<init>", "()V"⟩
abbrev mb_AL_init : ByteArray := prog_43_method_2_code
theorem na_AL_init : jk_nm mn_AL_init 0 := ⟨by decide +kernel, by decide +kernel, by decide +kernel⟩
def mn_AL_grow : MethodName := ⟨"java/util/ArrayList", "grow", "(I)[Ljava/lang/Object;"⟩
abbrev mb_AL_grow : ByteArray := prog_43_method_6_code
theorem na_AL_grow : jk_nm mn_AL_grow 1 := ⟨by decide +kernel, by decide +kernel, by decide +kernel⟩
def mn_AL_grow0 : MethodName := ⟨"java/util/ArrayList", "grow", "()[Ljava/lang/Object;"⟩
abbrev mb_AL_grow0 : ByteArray := prog_43_method_7_code
theorem na_AL_grow0 : jk_nm mn_AL_grow0 0 := ⟨by decide +kernel, by decide +kernel, by decide +kernel⟩
def mn_AL_size : MethodName := ⟨"java/util/ArrayList", "size", "()I"⟩
abbrev mb_AL_size : ByteArray := prog_43_method_8_code
theorem na_AL_size : jk_nm mn_AL_size 0 := ⟨by decide +kernel, by decide +kernel, by decide +kernel⟩
def mn_AL_isEmpty : MethodName := ⟨"java/util/ArrayList", "isEmpty", "()Z"⟩
abbrev mb_AL_isEmpty : ByteArray := prog_43_method_9_code
theorem na_AL_isEmpty : jk_nm mn_AL_isEmpty 0 := ⟨by decide +kernel, by decide +kernel, by decide +kernel⟩
def mn_AL_elementData : MethodName := ⟨"java/util/ArrayList", "elementData", "(I)Ljava/lang/Object;"⟩
abbrev mb_AL_elementData : ByteArray := prog_43_method_18_code
theorem na_AL_elementData : jk_nm mn_AL_elementData 1 := ⟨by decide +kernel, by decide +kernel, by decide +kernel⟩
def mn_AL_get : MethodName := ⟨"java/util/ArrayList", "get", "(I)Ljava/lang/Object;"⟩
abbrev mb_AL_get : ByteArray := prog_43_method_20_code
theorem na_AL_get : jk_nm mn_AL_get 1 := ⟨by decide +kernel, by decide +kernel, by decide +kernel⟩
def mn_AL_addp : MethodName := ⟨"java/util/ArrayList", "add", "(Ljava/lang/Object;[Ljava/lang/Object;I)V"⟩
abbrev mb_AL_addp : ByteArray := prog_43_method_24_code
theorem na_AL_addp : jk_nm mn_AL_addp 3 := ⟨by decide +kernel, by decide +kernel, by decide +kernel⟩
def mn_AL_add : MethodName := ⟨"java/util/ArrayList", "add", "(Ljava/lang/Object;)Z"⟩
abbrev mb_AL_add : ByteArray := prog_43_method_25_code
theorem na_AL_add : jk_nm mn_AL_add 1 := ⟨by decide +kernel, by decide +kernel, by decide +kernel⟩
def mn_AL_remove : MethodName := ⟨"java/util/ArrayList", "remove", "(I)Ljava/lang/Object;"⟩
abbrev mb_AL_remove : ByteArray := prog_43_method_29_code
theorem na_AL_remove : jk_nm mn_AL_remove 1 := ⟨by decide +kernel, by decide +kernel, by decide +kernel⟩
def mn_AL_fastRemove : MethodName := ⟨"java/util/ArrayList", "fastRemove", "([Ljava/lang/Object;I)V"⟩
abbrev mb_AL_fastRemove : ByteArray := prog_43_method_39_code
theorem na_AL_fastRemove : jk_nm mn_AL_fastRemove 2 := ⟨by decide +kernel, by decide +kernel, by decide +kernel⟩
def mn_AL_clear : MethodName := ⟨"java/util/ArrayList", "clear", "()V"⟩
abbrev mb_AL_clear : ByteArray := prog_43_method_40_code
theorem na_AL_clear : jk_nm mn_AL_clear 0 := ⟨by decide +kernel, by decide +kernel, by decide +kernel⟩
def mn_AL_iterator : MethodName := ⟨"java/util/ArrayList", "iterator", "()Ljava/util/Iterator;"⟩
abbrev mb_AL_iterator : ByteArray := prog_43_method_55_code
theorem na_AL_iterator : jk_nm mn_AL_iterator 0 := ⟨by decide +kernel, by decide +kernel, by decide +kernel⟩
def mn_JArr_copyO : MethodName := ⟨"java/util/Arrays", "copyOf", "([Ljava/lang/Object;I)[Ljava/lang/Object;"⟩
abbrev mb_JArr_copyO : ByteArray := prog_45_method_119_code
theorem na_JArr_copyO : jk_nm mn_JArr_copyO 2 := ⟨by decide +kernel, by decide +kernel, by decide +kernel⟩
def mn_JArr_copyOC : MethodName := ⟨"java/util/Arrays", "copyOf", "([Ljava/lang/Object;ILjava/lang/Class;)[Ljava/lang/Object;"⟩
abbrev mb_JArr_copyOC : ByteArray := prog_45_method_120_code
theorem na_JArr_copyOC : jk_nm mn_JArr_copyOC 3 := ⟨by decide +kernel, by decide +kernel, by decide +kernel⟩
def mn_JArr_copyB : MethodName := ⟨"java/util/Arrays", "copyOf", "([BI)[B"⟩
abbrev mb_JArr_copyB : ByteArray := prog_45_method_121_code
theorem na_JArr_copyB : jk_nm mn_JArr_copyB 2 := ⟨by decide +kernel, by decide +kernel, by decide +kernel⟩
def mn_JArr_checkLength : MethodName := ⟨"java/util/Arrays", "checkLength", "(II)V"⟩
abbrev mb_JArr_checkLength : ByteArray := prog_45_method_131_code
theorem na_JArr_checkLength : jk_nm mn_JArr_checkLength 2 := ⟨by decide +kernel, by decide +kernel, by decide +kernel⟩
def mn_JArr_copyOfRange : MethodName := ⟨"java/util/Arrays", "copyOfRange", "([BII)[B"⟩
abbrev mb_JArr_copyOfRange : ByteArray := prog_45_method_132_code
theorem na_JArr_copyOfRange : jk_nm mn_JArr_copyOfRange 3 := ⟨by decide +kernel, by decide +kernel, by decide +kernel⟩
def mn_JArr_copyOfRangeByte : MethodName := ⟨"java/util/Arrays", "copyOfRangeByte", "([BII)[B"⟩
abbrev mb_JArr_copyOfRangeByte : ByteArray := prog_45_method_133_code
theorem na_JArr_copyOfRangeByte : jk_nm mn_JArr_copyOfRangeByte 3 := ⟨by decide +kernel, by decide +kernel, by decide +kernel⟩
def mn_JObj_checkIndex : MethodName := ⟨"java/util/Objects", "checkIndex", "(II)I"⟩
abbrev mb_JObj_checkIndex : ByteArray := prog_50_method_17_code
theorem na_JObj_checkIndex : jk_nm mn_JObj_checkIndex 2 := ⟨by decide +kernel, by decide +kernel, by decide +kernel⟩
def mn_JAS_newLength : MethodName := ⟨"jdk/internal/util/ArraysSupport", "newLength", "(III)I"⟩
abbrev mb_JAS_newLength : ByteArray := prog_53_method_27_code
theorem na_JAS_newLength : jk_nm mn_JAS_newLength 3 := ⟨by decide +kernel, by decide +kernel, by decide +kernel⟩
def mn_JPre_checkFromToIndex : MethodName := ⟨"jdk/internal/util/Preconditions", "checkFromToIndex", "(IIILjava/util/function/BiFunction;)I"⟩
abbrev mb_JPre_checkFromToIndex : ByteArray := prog_54_method_12_code
theorem na_JPre_checkFromToIndex : jk_nm mn_JPre_checkFromToIndex 4 := ⟨by decide +kernel, by decide +kernel, by decide +kernel⟩
def mn_JPre_checkFromIndexSize : MethodName := ⟨"jdk/internal/util/Preconditions", "checkFromIndexSize", "(IIILjava/util/function/BiFunction;)I"⟩
abbrev mb_JPre_checkFromIndexSize : ByteArray := prog_54_method_13_code
theorem na_JPre_checkFromIndexSize : jk_nm mn_JPre_checkFromIndexSize 4 := ⟨by decide +kernel, by decide +kernel, by decide +kernel⟩
def mn_Lw_cell : MethodName := ⟨"KnotReaderLaw", "cell", "([II)I"⟩
abbrev mb_Lw_cell : ByteArray := method_2_code
theorem na_Lw_cell : jk_nm mn_Lw_cell 2 := ⟨by decide +kernel, by decide +kernel, by decide +kernel⟩
def mn_Lw_bits : MethodName := ⟨"KnotReaderLaw", "bits", "(III)I"⟩
abbrev mb_Lw_bits : ByteArray := method_3_code
theorem na_Lw_bits : jk_nm mn_Lw_bits 3 := ⟨by decide +kernel, by decide +kernel, by decide +kernel⟩
def mn_Lw_told : MethodName := ⟨"KnotReaderLaw", "told", "(LKnotReader;Ljava/lang/String;)V"⟩
abbrev mb_Lw_told : ByteArray := method_4_code
theorem na_Lw_told : jk_nm mn_Lw_told 2 := ⟨by decide +kernel, by decide +kernel, by decide +kernel⟩
def mn_Lw_isWhole : MethodName := ⟨"KnotReaderLaw", "isWhole", "(LKnotReader;LKnotReaderLaw$Reader;)Z"⟩
abbrev mb_Lw_isWhole : ByteArray := method_5_code
theorem na_Lw_isWhole : jk_nm mn_Lw_isWhole 2 := ⟨by decide +kernel, by decide +kernel, by decide +kernel⟩
def mn_Lw_event : MethodName := ⟨"KnotReaderLaw", "event", "(LKnotReader;LKnotReaderLaw$Reader;I)Z"⟩
abbrev mb_Lw_event : ByteArray := method_6_code
theorem na_Lw_event : jk_nm mn_Lw_event 3 := ⟨by decide +kernel, by decide +kernel, by decide +kernel⟩
theorem rd_Cu_init_0 : decode mb_Cu_init 0 = .ok (.aload_n 0, 1) := by decide +kernel
theorem rd_Cu_init_1 : decode mb_Cu_init 1 = .ok (.invokespecial 1, 3) := by decide +kernel
theorem rd_Cu_init_4 : decode mb_Cu_init 4 = .ok (.aload_n 0, 1) := by decide +kernel
theorem rd_Cu_init_5 : decode mb_Cu_init 5 = .ok (.new 7, 3) := by decide +kernel
theorem rd_Cu_init_8 : decode mb_Cu_init 8 = .ok (.dup, 1) := by decide +kernel
theorem rd_Cu_init_9 : decode mb_Cu_init 9 = .ok (.invokespecial 9, 3) := by decide +kernel
theorem rd_Cu_init_12 : decode mb_Cu_init 12 = .ok (.putfield 10, 3) := by decide +kernel
theorem rd_Cu_init_15 : decode mb_Cu_init 15 = .ok (.return_, 1) := by decide +kernel
theorem cw_Cu_init : Jvm.Cond.code mn_Cu_init prog_13_method_1_code (1 : Nat) none ∈ jk_WA := jk_tb 589 (by decide +kernel) (by decide +kernel)
theorem xw_Cu_init : Jvm.Cond.instanceMethod mn_Cu_init ∈ jk_WA := jk_tb 588 (by decide +kernel) (by decide +kernel)
theorem rd_Cu_sum_0 : decode mb_Cu_sum 0 = .ok (.iconst 0, 1) := by decide +kernel
theorem rd_Cu_sum_1 : decode mb_Cu_sum 1 = .ok (.istore_n 1, 1) := by decide +kernel
theorem rd_Cu_sum_2 : decode mb_Cu_sum 2 = .ok (.aload_n 0, 1) := by decide +kernel
theorem rd_Cu_sum_3 : decode mb_Cu_sum 3 = .ok (.getfield 10, 3) := by decide +kernel
theorem rd_Cu_sum_6 : decode mb_Cu_sum 6 = .ok (.invokeinterface 16 1, 5) := by decide +kernel
theorem rd_Cu_sum_11 : decode mb_Cu_sum 11 = .ok (.astore_n 2, 1) := by decide +kernel
theorem rd_Cu_sum_12 : decode mb_Cu_sum 12 = .ok (.aload_n 2, 1) := by decide +kernel
theorem rd_Cu_sum_13 : decode mb_Cu_sum 13 = .ok (.invokeinterface 22 1, 5) := by decide +kernel
theorem rd_Cu_sum_18 : decode mb_Cu_sum 18 = .ok (.ifCond .eq 23, 3) := by decide +kernel
theorem rd_Cu_sum_21 : decode mb_Cu_sum 21 = .ok (.aload_n 2, 1) := by decide +kernel
theorem rd_Cu_sum_22 : decode mb_Cu_sum 22 = .ok (.invokeinterface 28 1, 5) := by decide +kernel
theorem rd_Cu_sum_27 : decode mb_Cu_sum 27 = .ok (.checkcast 32, 3) := by decide +kernel
theorem rd_Cu_sum_30 : decode mb_Cu_sum 30 = .ok (.astore_n 3, 1) := by decide +kernel
theorem rd_Cu_sum_31 : decode mb_Cu_sum 31 = .ok (.iload_n 1, 1) := by decide +kernel
theorem rd_Cu_sum_32 : decode mb_Cu_sum 32 = .ok (.aload_n 3, 1) := by decide +kernel
theorem rd_Cu_sum_33 : decode mb_Cu_sum 33 = .ok (.invokevirtual 34, 3) := by decide +kernel
theorem rd_Cu_sum_36 : decode mb_Cu_sum 36 = .ok (.iadd, 1) := by decide +kernel
theorem rd_Cu_sum_37 : decode mb_Cu_sum 37 = .ok (.istore_n 1, 1) := by decide +kernel
theorem rd_Cu_sum_38 : decode mb_Cu_sum 38 = .ok (.goto (-26), 3) := by decide +kernel
theorem rd_Cu_sum_41 : decode mb_Cu_sum 41 = .ok (.iload_n 1, 1) := by decide +kernel
theorem rd_Cu_sum_42 : decode mb_Cu_sum 42 = .ok (.ireturn, 1) := by decide +kernel
theorem cw_Cu_sum : Jvm.Cond.code mn_Cu_sum prog_13_method_2_code (4 : Nat) (some .int) ∈ jk_WA := jk_tb 634 (by decide +kernel) (by decide +kernel)
theorem xw_Cu_sum : Jvm.Cond.instanceMethod mn_Cu_sum ∈ jk_WA := jk_tb 632 (by decide +kernel) (by decide +kernel)
theorem sw_Cu_sum : Jvm.Cond.selects "KnotReaderLaw$Cluster" mn_Cu_sum mn_Cu_sum ∈ jk_WA := jk_tb 633 (by decide +kernel) (by decide +kernel)
theorem rd_Cu_nibbledOnes_0 : decode mb_Cu_nibbledOnes 0 = .ok (.aload_n 0, 1) := by decide +kernel
theorem rd_Cu_nibbledOnes_1 : decode mb_Cu_nibbledOnes 1 = .ok (.getfield 38, 3) := by decide +kernel
theorem rd_Cu_nibbledOnes_4 : decode mb_Cu_nibbledOnes 4 = .ok (.ifnull 17, 3) := by decide +kernel
theorem rd_Cu_nibbledOnes_7 : decode mb_Cu_nibbledOnes 7 = .ok (.aload_n 0, 1) := by decide +kernel
theorem rd_Cu_nibbledOnes_8 : decode mb_Cu_nibbledOnes 8 = .ok (.getfield 38, 3) := by decide +kernel
theorem rd_Cu_nibbledOnes_11 : decode mb_Cu_nibbledOnes 11 = .ok (.getfield 42, 3) := by decide +kernel
theorem rd_Cu_nibbledOnes_14 : decode mb_Cu_nibbledOnes 14 = .ok (.ifCond .le 7, 3) := by decide +kernel
theorem rd_Cu_nibbledOnes_17 : decode mb_Cu_nibbledOnes 17 = .ok (.iconst 1, 1) := by decide +kernel
theorem rd_Cu_nibbledOnes_18 : decode mb_Cu_nibbledOnes 18 = .ok (.goto 4, 3) := by decide +kernel
theorem rd_Cu_nibbledOnes_21 : decode mb_Cu_nibbledOnes 21 = .ok (.iconst 0, 1) := by decide +kernel
theorem rd_Cu_nibbledOnes_22 : decode mb_Cu_nibbledOnes 22 = .ok (.istore_n 1, 1) := by decide +kernel
theorem rd_Cu_nibbledOnes_23 : decode mb_Cu_nibbledOnes 23 = .ok (.aload_n 0, 1) := by decide +kernel
theorem rd_Cu_nibbledOnes_24 : decode mb_Cu_nibbledOnes 24 = .ok (.getfield 10, 3) := by decide +kernel
theorem rd_Cu_nibbledOnes_27 : decode mb_Cu_nibbledOnes 27 = .ok (.invokeinterface 16 1, 5) := by decide +kernel
theorem rd_Cu_nibbledOnes_32 : decode mb_Cu_nibbledOnes 32 = .ok (.astore_n 2, 1) := by decide +kernel
theorem rd_Cu_nibbledOnes_33 : decode mb_Cu_nibbledOnes 33 = .ok (.aload_n 2, 1) := by decide +kernel
theorem rd_Cu_nibbledOnes_34 : decode mb_Cu_nibbledOnes 34 = .ok (.invokeinterface 22 1, 5) := by decide +kernel
theorem rd_Cu_nibbledOnes_39 : decode mb_Cu_nibbledOnes 39 = .ok (.ifCond .eq 23, 3) := by decide +kernel
theorem rd_Cu_nibbledOnes_42 : decode mb_Cu_nibbledOnes 42 = .ok (.aload_n 2, 1) := by decide +kernel
theorem rd_Cu_nibbledOnes_43 : decode mb_Cu_nibbledOnes 43 = .ok (.invokeinterface 28 1, 5) := by decide +kernel
theorem rd_Cu_nibbledOnes_48 : decode mb_Cu_nibbledOnes 48 = .ok (.checkcast 32, 3) := by decide +kernel
theorem rd_Cu_nibbledOnes_51 : decode mb_Cu_nibbledOnes 51 = .ok (.astore_n 3, 1) := by decide +kernel
theorem rd_Cu_nibbledOnes_52 : decode mb_Cu_nibbledOnes 52 = .ok (.iload_n 1, 1) := by decide +kernel
theorem rd_Cu_nibbledOnes_53 : decode mb_Cu_nibbledOnes 53 = .ok (.aload_n 3, 1) := by decide +kernel
theorem rd_Cu_nibbledOnes_54 : decode mb_Cu_nibbledOnes 54 = .ok (.invokevirtual 46, 3) := by decide +kernel
theorem rd_Cu_nibbledOnes_57 : decode mb_Cu_nibbledOnes 57 = .ok (.iadd, 1) := by decide +kernel
theorem rd_Cu_nibbledOnes_58 : decode mb_Cu_nibbledOnes 58 = .ok (.istore_n 1, 1) := by decide +kernel
theorem rd_Cu_nibbledOnes_59 : decode mb_Cu_nibbledOnes 59 = .ok (.goto (-26), 3) := by decide +kernel
theorem rd_Cu_nibbledOnes_62 : decode mb_Cu_nibbledOnes 62 = .ok (.iload_n 1, 1) := by decide +kernel
theorem rd_Cu_nibbledOnes_63 : decode mb_Cu_nibbledOnes 63 = .ok (.ireturn, 1) := by decide +kernel
theorem cw_Cu_nibbledOnes : Jvm.Cond.code mn_Cu_nibbledOnes prog_13_method_3_code (4 : Nat) (some .int) ∈ jk_WA := jk_tb 1117 (by decide +kernel) (by decide +kernel)
theorem xw_Cu_nibbledOnes : Jvm.Cond.instanceMethod mn_Cu_nibbledOnes ∈ jk_WA := jk_tb 1115 (by decide +kernel) (by decide +kernel)
theorem sw_Cu_nibbledOnes : Jvm.Cond.selects "KnotReaderLaw$Cluster" mn_Cu_nibbledOnes mn_Cu_nibbledOnes ∈ jk_WA := jk_tb 1116 (by decide +kernel) (by decide +kernel)
theorem rd_Cu_state_0 : decode mb_Cu_state 0 = .ok (.aload_n 0, 1) := by decide +kernel
theorem rd_Cu_state_1 : decode mb_Cu_state 1 = .ok (.getfield 38, 3) := by decide +kernel
theorem rd_Cu_state_4 : decode mb_Cu_state 4 = .ok (.ifnonnull 5, 3) := by decide +kernel
theorem rd_Cu_state_7 : decode mb_Cu_state 7 = .ok (.iconst 0, 1) := by decide +kernel
theorem rd_Cu_state_8 : decode mb_Cu_state 8 = .ok (.ireturn, 1) := by decide +kernel
theorem rd_Cu_state_9 : decode mb_Cu_state 9 = .ok (.aload_n 0, 1) := by decide +kernel
theorem rd_Cu_state_10 : decode mb_Cu_state 10 = .ok (.invokevirtual 49, 3) := by decide +kernel
theorem rd_Cu_state_13 : decode mb_Cu_state 13 = .ok (.ifCond .le 5, 3) := by decide +kernel
theorem rd_Cu_state_16 : decode mb_Cu_state 16 = .ok (.iconst 1, 1) := by decide +kernel
theorem rd_Cu_state_17 : decode mb_Cu_state 17 = .ok (.ireturn, 1) := by decide +kernel
theorem rd_Cu_state_18 : decode mb_Cu_state 18 = .ok (.aload_n 0, 1) := by decide +kernel
theorem rd_Cu_state_19 : decode mb_Cu_state 19 = .ok (.getfield 38, 3) := by decide +kernel
theorem rd_Cu_state_22 : decode mb_Cu_state 22 = .ok (.invokevirtual 50, 3) := by decide +kernel
theorem rd_Cu_state_25 : decode mb_Cu_state 25 = .ok (.aload_n 0, 1) := by decide +kernel
theorem rd_Cu_state_26 : decode mb_Cu_state 26 = .ok (.invokevirtual 53, 3) := by decide +kernel
theorem rd_Cu_state_29 : decode mb_Cu_state 29 = .ok (.if_icmp .ne 7, 3) := by decide +kernel
theorem rd_Cu_state_32 : decode mb_Cu_state 32 = .ok (.iconst 2, 1) := by decide +kernel
theorem rd_Cu_state_33 : decode mb_Cu_state 33 = .ok (.goto 4, 3) := by decide +kernel
theorem rd_Cu_state_36 : decode mb_Cu_state 36 = .ok (.iconst 3, 1) := by decide +kernel
theorem rd_Cu_state_37 : decode mb_Cu_state 37 = .ok (.ireturn, 1) := by decide +kernel
theorem cw_Cu_state : Jvm.Cond.code mn_Cu_state prog_13_method_4_code (1 : Nat) (some .int) ∈ jk_WA := jk_tb 1113 (by decide +kernel) (by decide +kernel)
theorem xw_Cu_state : Jvm.Cond.instanceMethod mn_Cu_state ∈ jk_WA := jk_tb 1111 (by decide +kernel) (by decide +kernel)
theorem sw_Cu_state : Jvm.Cond.selects "KnotReaderLaw$Cluster" mn_Cu_state mn_Cu_state ∈ jk_WA := jk_tb 1112 (by decide +kernel) (by decide +kernel)
theorem rd_Cd_init_0 : decode mb_Cd_init 0 = .ok (.aload_n 0, 1) := by decide +kernel
theorem rd_Cd_init_1 : decode mb_Cd_init 1 = .ok (.invokespecial 1, 3) := by decide +kernel
theorem rd_Cd_init_4 : decode mb_Cd_init 4 = .ok (.aload_n 0, 1) := by decide +kernel
theorem rd_Cd_init_5 : decode mb_Cd_init 5 = .ok (.iconst 4, 1) := by decide +kernel
theorem rd_Cd_init_6 : decode mb_Cd_init 6 = .ok (.newarray .int, 2) := by decide +kernel
theorem rd_Cd_init_8 : decode mb_Cd_init 8 = .ok (.putfield 7, 3) := by decide +kernel
theorem rd_Cd_init_11 : decode mb_Cd_init 11 = .ok (.aload_n 0, 1) := by decide +kernel
theorem rd_Cd_init_12 : decode mb_Cd_init 12 = .ok (.new 13, 3) := by decide +kernel
theorem rd_Cd_init_15 : decode mb_Cd_init 15 = .ok (.dup, 1) := by decide +kernel
theorem rd_Cd_init_16 : decode mb_Cd_init 16 = .ok (.invokespecial 15, 3) := by decide +kernel
theorem rd_Cd_init_19 : decode mb_Cd_init 19 = .ok (.putfield 16, 3) := by decide +kernel
theorem rd_Cd_init_22 : decode mb_Cd_init 22 = .ok (.aload_n 0, 1) := by decide +kernel
theorem rd_Cd_init_23 : decode mb_Cd_init 23 = .ok (.iload_n 1, 1) := by decide +kernel
theorem rd_Cd_init_24 : decode mb_Cd_init 24 = .ok (.putfield 20, 3) := by decide +kernel
theorem rd_Cd_init_27 : decode mb_Cd_init 27 = .ok (.aload_n 0, 1) := by decide +kernel
theorem rd_Cd_init_28 : decode mb_Cd_init 28 = .ok (.iload_n 2, 1) := by decide +kernel
theorem rd_Cd_init_29 : decode mb_Cd_init 29 = .ok (.invokevirtual 24, 3) := by decide +kernel
theorem rd_Cd_init_32 : decode mb_Cd_init 32 = .ok (.return_, 1) := by decide +kernel
theorem cw_Cd_init : Jvm.Cond.code mn_Cd_init prog_14_method_1_code (3 : Nat) none ∈ jk_WA := jk_tb 708 (by decide +kernel) (by decide +kernel)
theorem xw_Cd_init : Jvm.Cond.instanceMethod mn_Cd_init ∈ jk_WA := jk_tb 707 (by decide +kernel) (by decide +kernel)
theorem rd_Cd_sets_0 : decode mb_Cd_sets 0 = .ok (.iload_n 1, 1) := by decide +kernel
theorem rd_Cd_sets_1 : decode mb_Cd_sets 1 = .ok (.istore_n 2, 1) := by decide +kernel
theorem rd_Cd_sets_2 : decode mb_Cd_sets 2 = .ok (.iconst 0, 1) := by decide +kernel
theorem rd_Cd_sets_3 : decode mb_Cd_sets 3 = .ok (.istore_n 3, 1) := by decide +kernel
theorem rd_Cd_sets_4 : decode mb_Cd_sets 4 = .ok (.iload_n 3, 1) := by decide +kernel
theorem rd_Cd_sets_5 : decode mb_Cd_sets 5 = .ok (.iconst 4, 1) := by decide +kernel
theorem rd_Cd_sets_6 : decode mb_Cd_sets 6 = .ok (.if_icmp .ge 24, 3) := by decide +kernel
theorem rd_Cd_sets_9 : decode mb_Cd_sets 9 = .ok (.aload_n 0, 1) := by decide +kernel
theorem rd_Cd_sets_10 : decode mb_Cd_sets 10 = .ok (.getfield 7, 3) := by decide +kernel
theorem rd_Cd_sets_13 : decode mb_Cd_sets 13 = .ok (.iload_n 3, 1) := by decide +kernel
theorem rd_Cd_sets_14 : decode mb_Cd_sets 14 = .ok (.iload_n 2, 1) := by decide +kernel
theorem rd_Cd_sets_15 : decode mb_Cd_sets 15 = .ok (.bipush 10, 2) := by decide +kernel
theorem rd_Cd_sets_17 : decode mb_Cd_sets 17 = .ok (.irem, 1) := by decide +kernel
theorem rd_Cd_sets_18 : decode mb_Cd_sets 18 = .ok (.iastore, 1) := by decide +kernel
theorem rd_Cd_sets_19 : decode mb_Cd_sets 19 = .ok (.iload_n 2, 1) := by decide +kernel
theorem rd_Cd_sets_20 : decode mb_Cd_sets 20 = .ok (.bipush 10, 2) := by decide +kernel
theorem rd_Cd_sets_22 : decode mb_Cd_sets 22 = .ok (.idiv, 1) := by decide +kernel
theorem rd_Cd_sets_23 : decode mb_Cd_sets 23 = .ok (.istore_n 2, 1) := by decide +kernel
theorem rd_Cd_sets_24 : decode mb_Cd_sets 24 = .ok (.iinc 3 1, 3) := by decide +kernel
theorem rd_Cd_sets_27 : decode mb_Cd_sets 27 = .ok (.goto (-23), 3) := by decide +kernel
theorem rd_Cd_sets_30 : decode mb_Cd_sets 30 = .ok (.return_, 1) := by decide +kernel
theorem cw_Cd_sets : Jvm.Cond.code mn_Cd_sets prog_14_method_2_code (4 : Nat) none ∈ jk_WA := jk_tb 715 (by decide +kernel) (by decide +kernel)
theorem xw_Cd_sets : Jvm.Cond.instanceMethod mn_Cd_sets ∈ jk_WA := jk_tb 713 (by decide +kernel) (by decide +kernel)
theorem sw_Cd_sets : Jvm.Cond.selects "KnotReaderLaw$Cord" mn_Cd_sets mn_Cd_sets ∈ jk_WA := jk_tb 714 (by decide +kernel) (by decide +kernel)
theorem rd_Cd_known_0 : decode mb_Cd_known 0 = .ok (.iconst 0, 1) := by decide +kernel
theorem rd_Cd_known_1 : decode mb_Cd_known 1 = .ok (.istore_n 1, 1) := by decide +kernel
theorem rd_Cd_known_2 : decode mb_Cd_known 2 = .ok (.iconst 3, 1) := by decide +kernel
theorem rd_Cd_known_3 : decode mb_Cd_known 3 = .ok (.istore_n 2, 1) := by decide +kernel
theorem rd_Cd_known_4 : decode mb_Cd_known 4 = .ok (.iload_n 2, 1) := by decide +kernel
theorem rd_Cd_known_5 : decode mb_Cd_known 5 = .ok (.ifCond .lt 33, 3) := by decide +kernel
theorem rd_Cd_known_8 : decode mb_Cd_known 8 = .ok (.bipush 10, 2) := by decide +kernel
theorem rd_Cd_known_10 : decode mb_Cd_known 10 = .ok (.iload_n 1, 1) := by decide +kernel
theorem rd_Cd_known_11 : decode mb_Cd_known 11 = .ok (.imul, 1) := by decide +kernel
theorem rd_Cd_known_12 : decode mb_Cd_known 12 = .ok (.iload_n 2, 1) := by decide +kernel
theorem rd_Cd_known_13 : decode mb_Cd_known 13 = .ok (.aload_n 0, 1) := by decide +kernel
theorem rd_Cd_known_14 : decode mb_Cd_known 14 = .ok (.getfield 28, 3) := by decide +kernel
theorem rd_Cd_known_17 : decode mb_Cd_known 17 = .ok (.if_icmp .ge 7, 3) := by decide +kernel
theorem rd_Cd_known_20 : decode mb_Cd_known 20 = .ok (.iconst 0, 1) := by decide +kernel
theorem rd_Cd_known_21 : decode mb_Cd_known 21 = .ok (.goto 9, 3) := by decide +kernel
theorem rd_Cd_known_24 : decode mb_Cd_known 24 = .ok (.aload_n 0, 1) := by decide +kernel
theorem rd_Cd_known_25 : decode mb_Cd_known 25 = .ok (.getfield 7, 3) := by decide +kernel
theorem rd_Cd_known_28 : decode mb_Cd_known 28 = .ok (.iload_n 2, 1) := by decide +kernel
theorem rd_Cd_known_29 : decode mb_Cd_known 29 = .ok (.iaload, 1) := by decide +kernel
theorem rd_Cd_known_30 : decode mb_Cd_known 30 = .ok (.iadd, 1) := by decide +kernel
theorem rd_Cd_known_31 : decode mb_Cd_known 31 = .ok (.istore_n 1, 1) := by decide +kernel
theorem rd_Cd_known_32 : decode mb_Cd_known 32 = .ok (.iinc 2 (-1), 3) := by decide +kernel
theorem rd_Cd_known_35 : decode mb_Cd_known 35 = .ok (.goto (-31), 3) := by decide +kernel
theorem rd_Cd_known_38 : decode mb_Cd_known 38 = .ok (.iload_n 1, 1) := by decide +kernel
theorem rd_Cd_known_39 : decode mb_Cd_known 39 = .ok (.ireturn, 1) := by decide +kernel
theorem cw_Cd_known : Jvm.Cond.code mn_Cd_known prog_14_method_3_code (3 : Nat) (some .int) ∈ jk_WA := jk_tb 695 (by decide +kernel) (by decide +kernel)
theorem xw_Cd_known : Jvm.Cond.instanceMethod mn_Cd_known ∈ jk_WA := jk_tb 693 (by decide +kernel) (by decide +kernel)
theorem sw_Cd_known : Jvm.Cond.selects "KnotReaderLaw$Cord" mn_Cd_known mn_Cd_known ∈ jk_WA := jk_tb 694 (by decide +kernel) (by decide +kernel)
theorem rd_Cd_total_0 : decode mb_Cd_total 0 = .ok (.aload_n 0, 1) := by decide +kernel
theorem rd_Cd_total_1 : decode mb_Cd_total 1 = .ok (.invokevirtual 31, 3) := by decide +kernel
theorem rd_Cd_total_4 : decode mb_Cd_total 4 = .ok (.istore_n 1, 1) := by decide +kernel
theorem rd_Cd_total_5 : decode mb_Cd_total 5 = .ok (.aload_n 0, 1) := by decide +kernel
theorem rd_Cd_total_6 : decode mb_Cd_total 6 = .ok (.getfield 16, 3) := by decide +kernel
theorem rd_Cd_total_9 : decode mb_Cd_total 9 = .ok (.invokeinterface 35 1, 5) := by decide +kernel
theorem rd_Cd_total_14 : decode mb_Cd_total 14 = .ok (.astore_n 2, 1) := by decide +kernel
theorem rd_Cd_total_15 : decode mb_Cd_total 15 = .ok (.aload_n 2, 1) := by decide +kernel
theorem rd_Cd_total_16 : decode mb_Cd_total 16 = .ok (.invokeinterface 41 1, 5) := by decide +kernel
theorem rd_Cd_total_21 : decode mb_Cd_total 21 = .ok (.ifCond .eq 23, 3) := by decide +kernel
theorem rd_Cd_total_24 : decode mb_Cd_total 24 = .ok (.aload_n 2, 1) := by decide +kernel
theorem rd_Cd_total_25 : decode mb_Cd_total 25 = .ok (.invokeinterface 47 1, 5) := by decide +kernel
theorem rd_Cd_total_30 : decode mb_Cd_total 30 = .ok (.checkcast 8, 3) := by decide +kernel
theorem rd_Cd_total_33 : decode mb_Cd_total 33 = .ok (.astore_n 3, 1) := by decide +kernel
theorem rd_Cd_total_34 : decode mb_Cd_total 34 = .ok (.iload_n 1, 1) := by decide +kernel
theorem rd_Cd_total_35 : decode mb_Cd_total 35 = .ok (.aload_n 3, 1) := by decide +kernel
theorem rd_Cd_total_36 : decode mb_Cd_total 36 = .ok (.invokevirtual 51, 3) := by decide +kernel
theorem rd_Cd_total_39 : decode mb_Cd_total 39 = .ok (.iadd, 1) := by decide +kernel
theorem rd_Cd_total_40 : decode mb_Cd_total 40 = .ok (.istore_n 1, 1) := by decide +kernel
theorem rd_Cd_total_41 : decode mb_Cd_total 41 = .ok (.goto (-26), 3) := by decide +kernel
theorem rd_Cd_total_44 : decode mb_Cd_total 44 = .ok (.iload_n 1, 1) := by decide +kernel
theorem rd_Cd_total_45 : decode mb_Cd_total 45 = .ok (.ireturn, 1) := by decide +kernel
theorem cw_Cd_total : Jvm.Cond.code mn_Cd_total prog_14_method_4_code (4 : Nat) (some .int) ∈ jk_WA := jk_tb 691 (by decide +kernel) (by decide +kernel)
theorem xw_Cd_total : Jvm.Cond.instanceMethod mn_Cd_total ∈ jk_WA := jk_tb 689 (by decide +kernel) (by decide +kernel)
theorem sw_Cd_total : Jvm.Cond.selects "KnotReaderLaw$Cord" mn_Cd_total mn_Cd_total ∈ jk_WA := jk_tb 690 (by decide +kernel) (by decide +kernel)
theorem rd_Cd_many_0 : decode mb_Cd_many 0 = .ok (.iconst 1, 1) := by decide +kernel
theorem rd_Cd_many_1 : decode mb_Cd_many 1 = .ok (.istore_n 1, 1) := by decide +kernel
theorem rd_Cd_many_2 : decode mb_Cd_many 2 = .ok (.aload_n 0, 1) := by decide +kernel
theorem rd_Cd_many_3 : decode mb_Cd_many 3 = .ok (.getfield 16, 3) := by decide +kernel
theorem rd_Cd_many_6 : decode mb_Cd_many 6 = .ok (.invokeinterface 35 1, 5) := by decide +kernel
theorem rd_Cd_many_11 : decode mb_Cd_many 11 = .ok (.astore_n 2, 1) := by decide +kernel
theorem rd_Cd_many_12 : decode mb_Cd_many 12 = .ok (.aload_n 2, 1) := by decide +kernel
theorem rd_Cd_many_13 : decode mb_Cd_many 13 = .ok (.invokeinterface 41 1, 5) := by decide +kernel
theorem rd_Cd_many_18 : decode mb_Cd_many 18 = .ok (.ifCond .eq 23, 3) := by decide +kernel
theorem rd_Cd_many_21 : decode mb_Cd_many 21 = .ok (.aload_n 2, 1) := by decide +kernel
theorem rd_Cd_many_22 : decode mb_Cd_many 22 = .ok (.invokeinterface 47 1, 5) := by decide +kernel
theorem rd_Cd_many_27 : decode mb_Cd_many 27 = .ok (.checkcast 8, 3) := by decide +kernel
theorem rd_Cd_many_30 : decode mb_Cd_many 30 = .ok (.astore_n 3, 1) := by decide +kernel
theorem rd_Cd_many_31 : decode mb_Cd_many 31 = .ok (.iload_n 1, 1) := by decide +kernel
theorem rd_Cd_many_32 : decode mb_Cd_many 32 = .ok (.aload_n 3, 1) := by decide +kernel
theorem rd_Cd_many_33 : decode mb_Cd_many 33 = .ok (.invokevirtual 54, 3) := by decide +kernel
theorem rd_Cd_many_36 : decode mb_Cd_many 36 = .ok (.iadd, 1) := by decide +kernel
theorem rd_Cd_many_37 : decode mb_Cd_many 37 = .ok (.istore_n 1, 1) := by decide +kernel
theorem rd_Cd_many_38 : decode mb_Cd_many 38 = .ok (.goto (-26), 3) := by decide +kernel
theorem rd_Cd_many_41 : decode mb_Cd_many 41 = .ok (.iload_n 1, 1) := by decide +kernel
theorem rd_Cd_many_42 : decode mb_Cd_many 42 = .ok (.ireturn, 1) := by decide +kernel
theorem cw_Cd_many : Jvm.Cond.code mn_Cd_many prog_14_method_5_code (4 : Nat) (some .int) ∈ jk_WA := jk_tb 1299 (by decide +kernel) (by decide +kernel)
theorem xw_Cd_many : Jvm.Cond.instanceMethod mn_Cd_many ∈ jk_WA := jk_tb 1297 (by decide +kernel) (by decide +kernel)
theorem sw_Cd_many : Jvm.Cond.selects "KnotReaderLaw$Cord" mn_Cd_many mn_Cd_many ∈ jk_WA := jk_tb 1298 (by decide +kernel) (by decide +kernel)
theorem rd_Cd_nibbledOnes_0 : decode mb_Cd_nibbledOnes 0 = .ok (.aload_n 0, 1) := by decide +kernel
theorem rd_Cd_nibbledOnes_1 : decode mb_Cd_nibbledOnes 1 = .ok (.getfield 28, 3) := by decide +kernel
theorem rd_Cd_nibbledOnes_4 : decode mb_Cd_nibbledOnes 4 = .ok (.ifCond .le 7, 3) := by decide +kernel
theorem rd_Cd_nibbledOnes_7 : decode mb_Cd_nibbledOnes 7 = .ok (.iconst 1, 1) := by decide +kernel
theorem rd_Cd_nibbledOnes_8 : decode mb_Cd_nibbledOnes 8 = .ok (.goto 4, 3) := by decide +kernel
theorem rd_Cd_nibbledOnes_11 : decode mb_Cd_nibbledOnes 11 = .ok (.iconst 0, 1) := by decide +kernel
theorem rd_Cd_nibbledOnes_12 : decode mb_Cd_nibbledOnes 12 = .ok (.istore_n 1, 1) := by decide +kernel
theorem rd_Cd_nibbledOnes_13 : decode mb_Cd_nibbledOnes 13 = .ok (.aload_n 0, 1) := by decide +kernel
theorem rd_Cd_nibbledOnes_14 : decode mb_Cd_nibbledOnes 14 = .ok (.getfield 16, 3) := by decide +kernel
theorem rd_Cd_nibbledOnes_17 : decode mb_Cd_nibbledOnes 17 = .ok (.invokeinterface 35 1, 5) := by decide +kernel
theorem rd_Cd_nibbledOnes_22 : decode mb_Cd_nibbledOnes 22 = .ok (.astore_n 2, 1) := by decide +kernel
theorem rd_Cd_nibbledOnes_23 : decode mb_Cd_nibbledOnes 23 = .ok (.aload_n 2, 1) := by decide +kernel
theorem rd_Cd_nibbledOnes_24 : decode mb_Cd_nibbledOnes 24 = .ok (.invokeinterface 41 1, 5) := by decide +kernel
theorem rd_Cd_nibbledOnes_29 : decode mb_Cd_nibbledOnes 29 = .ok (.ifCond .eq 23, 3) := by decide +kernel
theorem rd_Cd_nibbledOnes_32 : decode mb_Cd_nibbledOnes 32 = .ok (.aload_n 2, 1) := by decide +kernel
theorem rd_Cd_nibbledOnes_33 : decode mb_Cd_nibbledOnes 33 = .ok (.invokeinterface 47 1, 5) := by decide +kernel
theorem rd_Cd_nibbledOnes_38 : decode mb_Cd_nibbledOnes 38 = .ok (.checkcast 8, 3) := by decide +kernel
theorem rd_Cd_nibbledOnes_41 : decode mb_Cd_nibbledOnes 41 = .ok (.astore_n 3, 1) := by decide +kernel
theorem rd_Cd_nibbledOnes_42 : decode mb_Cd_nibbledOnes 42 = .ok (.iload_n 1, 1) := by decide +kernel
theorem rd_Cd_nibbledOnes_43 : decode mb_Cd_nibbledOnes 43 = .ok (.aload_n 3, 1) := by decide +kernel
theorem rd_Cd_nibbledOnes_44 : decode mb_Cd_nibbledOnes 44 = .ok (.invokevirtual 57, 3) := by decide +kernel
theorem rd_Cd_nibbledOnes_47 : decode mb_Cd_nibbledOnes 47 = .ok (.iadd, 1) := by decide +kernel
theorem rd_Cd_nibbledOnes_48 : decode mb_Cd_nibbledOnes 48 = .ok (.istore_n 1, 1) := by decide +kernel
theorem rd_Cd_nibbledOnes_49 : decode mb_Cd_nibbledOnes 49 = .ok (.goto (-26), 3) := by decide +kernel
theorem rd_Cd_nibbledOnes_52 : decode mb_Cd_nibbledOnes 52 = .ok (.iload_n 1, 1) := by decide +kernel
theorem rd_Cd_nibbledOnes_53 : decode mb_Cd_nibbledOnes 53 = .ok (.ireturn, 1) := by decide +kernel
theorem cw_Cd_nibbledOnes : Jvm.Cond.code mn_Cd_nibbledOnes prog_14_method_6_code (4 : Nat) (some .int) ∈ jk_WA := jk_tb 1070 (by decide +kernel) (by decide +kernel)
theorem xw_Cd_nibbledOnes : Jvm.Cond.instanceMethod mn_Cd_nibbledOnes ∈ jk_WA := jk_tb 1068 (by decide +kernel) (by decide +kernel)
theorem sw_Cd_nibbledOnes : Jvm.Cond.selects "KnotReaderLaw$Cord" mn_Cd_nibbledOnes mn_Cd_nibbledOnes ∈ jk_WA := jk_tb 1069 (by decide +kernel) (by decide +kernel)
theorem rd_Rd_init_0 : decode mb_Rd_init 0 = .ok (.aload_n 0, 1) := by decide +kernel
theorem rd_Rd_init_1 : decode mb_Rd_init 1 = .ok (.invokespecial 1, 3) := by decide +kernel
theorem rd_Rd_init_4 : decode mb_Rd_init 4 = .ok (.aload_n 0, 1) := by decide +kernel
theorem rd_Rd_init_5 : decode mb_Rd_init 5 = .ok (.new 7, 3) := by decide +kernel
theorem rd_Rd_init_8 : decode mb_Rd_init 8 = .ok (.dup, 1) := by decide +kernel
theorem rd_Rd_init_9 : decode mb_Rd_init 9 = .ok (.invokespecial 9, 3) := by decide +kernel
theorem rd_Rd_init_12 : decode mb_Rd_init 12 = .ok (.putfield 10, 3) := by decide +kernel
theorem rd_Rd_init_15 : decode mb_Rd_init 15 = .ok (.aload_n 0, 1) := by decide +kernel
theorem rd_Rd_init_16 : decode mb_Rd_init 16 = .ok (.new 7, 3) := by decide +kernel
theorem rd_Rd_init_19 : decode mb_Rd_init 19 = .ok (.dup, 1) := by decide +kernel
theorem rd_Rd_init_20 : decode mb_Rd_init 20 = .ok (.invokespecial 9, 3) := by decide +kernel
theorem rd_Rd_init_23 : decode mb_Rd_init 23 = .ok (.putfield 16, 3) := by decide +kernel
theorem rd_Rd_init_26 : decode mb_Rd_init 26 = .ok (.aload_n 0, 1) := by decide +kernel
theorem rd_Rd_init_27 : decode mb_Rd_init 27 = .ok (.new 7, 3) := by decide +kernel
theorem rd_Rd_init_30 : decode mb_Rd_init 30 = .ok (.dup, 1) := by decide +kernel
theorem rd_Rd_init_31 : decode mb_Rd_init 31 = .ok (.invokespecial 9, 3) := by decide +kernel
theorem rd_Rd_init_34 : decode mb_Rd_init 34 = .ok (.putfield 19, 3) := by decide +kernel
theorem rd_Rd_init_37 : decode mb_Rd_init 37 = .ok (.aload_n 0, 1) := by decide +kernel
theorem rd_Rd_init_38 : decode mb_Rd_init 38 = .ok (.new 7, 3) := by decide +kernel
theorem rd_Rd_init_41 : decode mb_Rd_init 41 = .ok (.dup, 1) := by decide +kernel
theorem rd_Rd_init_42 : decode mb_Rd_init 42 = .ok (.invokespecial 9, 3) := by decide +kernel
theorem rd_Rd_init_45 : decode mb_Rd_init 45 = .ok (.putfield 22, 3) := by decide +kernel
theorem rd_Rd_init_48 : decode mb_Rd_init 48 = .ok (.return_, 1) := by decide +kernel
theorem cw_Rd_init : Jvm.Cond.code mn_Rd_init prog_15_method_1_code (1 : Nat) none ∈ jk_WA := jk_tb 741 (by decide +kernel) (by decide +kernel)
theorem xw_Rd_init : Jvm.Cond.instanceMethod mn_Rd_init ∈ jk_WA := jk_tb 740 (by decide +kernel) (by decide +kernel)
theorem rd_Rd_lists_0 : decode mb_Rd_lists 0 = .ok (.aload_n 0, 1) := by decide +kernel
theorem rd_Rd_lists_1 : decode mb_Rd_lists 1 = .ok (.getfield 16, 3) := by decide +kernel
theorem rd_Rd_lists_4 : decode mb_Rd_lists 4 = .ok (.aload_n 1, 1) := by decide +kernel
theorem rd_Rd_lists_5 : decode mb_Rd_lists 5 = .ok (.invokeinterface 25 2, 5) := by decide +kernel
theorem rd_Rd_lists_10 : decode mb_Rd_lists 10 = .ok (.pop, 1) := by decide +kernel
theorem rd_Rd_lists_11 : decode mb_Rd_lists 11 = .ok (.aload_n 0, 1) := by decide +kernel
theorem rd_Rd_lists_12 : decode mb_Rd_lists 12 = .ok (.getfield 19, 3) := by decide +kernel
theorem rd_Rd_lists_15 : decode mb_Rd_lists 15 = .ok (.iload_n 2, 1) := by decide +kernel
theorem rd_Rd_lists_16 : decode mb_Rd_lists 16 = .ok (.invokestatic 31, 3) := by decide +kernel
theorem rd_Rd_lists_19 : decode mb_Rd_lists 19 = .ok (.invokeinterface 25 2, 5) := by decide +kernel
theorem rd_Rd_lists_24 : decode mb_Rd_lists 24 = .ok (.pop, 1) := by decide +kernel
theorem rd_Rd_lists_25 : decode mb_Rd_lists 25 = .ok (.aload_n 0, 1) := by decide +kernel
theorem rd_Rd_lists_26 : decode mb_Rd_lists 26 = .ok (.getfield 22, 3) := by decide +kernel
theorem rd_Rd_lists_29 : decode mb_Rd_lists 29 = .ok (.iload_n 3, 1) := by decide +kernel
theorem rd_Rd_lists_30 : decode mb_Rd_lists 30 = .ok (.invokestatic 31, 3) := by decide +kernel
theorem rd_Rd_lists_33 : decode mb_Rd_lists 33 = .ok (.invokeinterface 25 2, 5) := by decide +kernel
theorem rd_Rd_lists_38 : decode mb_Rd_lists 38 = .ok (.pop, 1) := by decide +kernel
theorem rd_Rd_lists_39 : decode mb_Rd_lists 39 = .ok (.aload_n 1, 1) := by decide +kernel
theorem rd_Rd_lists_40 : decode mb_Rd_lists 40 = .ok (.getfield 37, 3) := by decide +kernel
theorem rd_Rd_lists_43 : decode mb_Rd_lists 43 = .ok (.invokeinterface 42 1, 5) := by decide +kernel
theorem rd_Rd_lists_48 : decode mb_Rd_lists 48 = .ok (.astore 4, 2) := by decide +kernel
theorem rd_Rd_lists_50 : decode mb_Rd_lists 50 = .ok (.aload 4, 2) := by decide +kernel
theorem rd_Rd_lists_52 : decode mb_Rd_lists 52 = .ok (.invokeinterface 46 1, 5) := by decide +kernel
theorem rd_Rd_lists_57 : decode mb_Rd_lists 57 = .ok (.ifCond .eq 28, 3) := by decide +kernel
theorem rd_Rd_lists_60 : decode mb_Rd_lists 60 = .ok (.aload 4, 2) := by decide +kernel
theorem rd_Rd_lists_62 : decode mb_Rd_lists 62 = .ok (.invokeinterface 52 1, 5) := by decide +kernel
theorem rd_Rd_lists_67 : decode mb_Rd_lists 67 = .ok (.checkcast 38, 3) := by decide +kernel
theorem rd_Rd_lists_70 : decode mb_Rd_lists 70 = .ok (.astore 5, 2) := by decide +kernel
theorem rd_Rd_lists_72 : decode mb_Rd_lists 72 = .ok (.aload_n 0, 1) := by decide +kernel
theorem rd_Rd_lists_73 : decode mb_Rd_lists 73 = .ok (.aload 5, 2) := by decide +kernel
theorem rd_Rd_lists_75 : decode mb_Rd_lists 75 = .ok (.iload_n 2, 1) := by decide +kernel
theorem rd_Rd_lists_76 : decode mb_Rd_lists 76 = .ok (.iconst 1, 1) := by decide +kernel
theorem rd_Rd_lists_77 : decode mb_Rd_lists 77 = .ok (.iadd, 1) := by decide +kernel
theorem rd_Rd_lists_78 : decode mb_Rd_lists 78 = .ok (.iload_n 3, 1) := by decide +kernel
theorem rd_Rd_lists_79 : decode mb_Rd_lists 79 = .ok (.invokevirtual 56, 3) := by decide +kernel
theorem rd_Rd_lists_82 : decode mb_Rd_lists 82 = .ok (.goto (-32), 3) := by decide +kernel
theorem rd_Rd_lists_85 : decode mb_Rd_lists 85 = .ok (.return_, 1) := by decide +kernel
theorem cw_Rd_lists : Jvm.Cond.code mn_Rd_lists prog_15_method_2_code (6 : Nat) none ∈ jk_WA := jk_tb 805 (by decide +kernel) (by decide +kernel)
theorem xw_Rd_lists : Jvm.Cond.instanceMethod mn_Rd_lists ∈ jk_WA := jk_tb 804 (by decide +kernel) (by decide +kernel)
theorem sw_Rd_lists : Cond.selects mn_Rd_lists.cls mn_Rd_lists mn_Rd_lists ∈ jk_WA := jk_sl 6 (k := 4) (by decide +kernel)
theorem rd_Rd_listsAll_0 : decode mb_Rd_listsAll 0 = .ok (.aload_n 0, 1) := by decide +kernel
theorem rd_Rd_listsAll_1 : decode mb_Rd_listsAll 1 = .ok (.getfield 16, 3) := by decide +kernel
theorem rd_Rd_listsAll_4 : decode mb_Rd_listsAll 4 = .ok (.invokeinterface 60 1, 5) := by decide +kernel
theorem rd_Rd_listsAll_9 : decode mb_Rd_listsAll 9 = .ok (.aload_n 0, 1) := by decide +kernel
theorem rd_Rd_listsAll_10 : decode mb_Rd_listsAll 10 = .ok (.getfield 19, 3) := by decide +kernel
theorem rd_Rd_listsAll_13 : decode mb_Rd_listsAll 13 = .ok (.invokeinterface 60 1, 5) := by decide +kernel
theorem rd_Rd_listsAll_18 : decode mb_Rd_listsAll 18 = .ok (.aload_n 0, 1) := by decide +kernel
theorem rd_Rd_listsAll_19 : decode mb_Rd_listsAll 19 = .ok (.getfield 22, 3) := by decide +kernel
theorem rd_Rd_listsAll_22 : decode mb_Rd_listsAll 22 = .ok (.invokeinterface 60 1, 5) := by decide +kernel
theorem rd_Rd_listsAll_27 : decode mb_Rd_listsAll 27 = .ok (.iconst 0, 1) := by decide +kernel
theorem rd_Rd_listsAll_28 : decode mb_Rd_listsAll 28 = .ok (.istore_n 1, 1) := by decide +kernel
theorem rd_Rd_listsAll_29 : decode mb_Rd_listsAll 29 = .ok (.iload_n 1, 1) := by decide +kernel
theorem rd_Rd_listsAll_30 : decode mb_Rd_listsAll 30 = .ok (.aload_n 0, 1) := by decide +kernel
theorem rd_Rd_listsAll_31 : decode mb_Rd_listsAll 31 = .ok (.getfield 10, 3) := by decide +kernel
theorem rd_Rd_listsAll_34 : decode mb_Rd_listsAll 34 = .ok (.invokeinterface 63 1, 5) := by decide +kernel
theorem rd_Rd_listsAll_39 : decode mb_Rd_listsAll 39 = .ok (.if_icmp .ge 101, 3) := by decide +kernel
theorem rd_Rd_listsAll_42 : decode mb_Rd_listsAll 42 = .ok (.aload_n 0, 1) := by decide +kernel
theorem rd_Rd_listsAll_43 : decode mb_Rd_listsAll 43 = .ok (.getfield 10, 3) := by decide +kernel
theorem rd_Rd_listsAll_46 : decode mb_Rd_listsAll 46 = .ok (.iload_n 1, 1) := by decide +kernel
theorem rd_Rd_listsAll_47 : decode mb_Rd_listsAll 47 = .ok (.invokeinterface 67 2, 5) := by decide +kernel
theorem rd_Rd_listsAll_52 : decode mb_Rd_listsAll 52 = .ok (.checkcast 71, 3) := by decide +kernel
theorem rd_Rd_listsAll_55 : decode mb_Rd_listsAll 55 = .ok (.getfield 73, 3) := by decide +kernel
theorem rd_Rd_listsAll_58 : decode mb_Rd_listsAll 58 = .ok (.ifnull 25, 3) := by decide +kernel
theorem rd_Rd_listsAll_61 : decode mb_Rd_listsAll 61 = .ok (.aload_n 0, 1) := by decide +kernel
theorem rd_Rd_listsAll_62 : decode mb_Rd_listsAll 62 = .ok (.aload_n 0, 1) := by decide +kernel
theorem rd_Rd_listsAll_63 : decode mb_Rd_listsAll 63 = .ok (.getfield 10, 3) := by decide +kernel
theorem rd_Rd_listsAll_66 : decode mb_Rd_listsAll 66 = .ok (.iload_n 1, 1) := by decide +kernel
theorem rd_Rd_listsAll_67 : decode mb_Rd_listsAll 67 = .ok (.invokeinterface 67 2, 5) := by decide +kernel
theorem rd_Rd_listsAll_72 : decode mb_Rd_listsAll 72 = .ok (.checkcast 71, 3) := by decide +kernel
theorem rd_Rd_listsAll_75 : decode mb_Rd_listsAll 75 = .ok (.getfield 73, 3) := by decide +kernel
theorem rd_Rd_listsAll_78 : decode mb_Rd_listsAll 78 = .ok (.iconst 0, 1) := by decide +kernel
theorem rd_Rd_listsAll_79 : decode mb_Rd_listsAll 79 = .ok (.iload_n 1, 1) := by decide +kernel
theorem rd_Rd_listsAll_80 : decode mb_Rd_listsAll 80 = .ok (.invokevirtual 56, 3) := by decide +kernel
theorem rd_Rd_listsAll_83 : decode mb_Rd_listsAll 83 = .ok (.aload_n 0, 1) := by decide +kernel
theorem rd_Rd_listsAll_84 : decode mb_Rd_listsAll 84 = .ok (.getfield 10, 3) := by decide +kernel
theorem rd_Rd_listsAll_87 : decode mb_Rd_listsAll 87 = .ok (.iload_n 1, 1) := by decide +kernel
theorem rd_Rd_listsAll_88 : decode mb_Rd_listsAll 88 = .ok (.invokeinterface 67 2, 5) := by decide +kernel
theorem rd_Rd_listsAll_93 : decode mb_Rd_listsAll 93 = .ok (.checkcast 71, 3) := by decide +kernel
theorem rd_Rd_listsAll_96 : decode mb_Rd_listsAll 96 = .ok (.getfield 77, 3) := by decide +kernel
theorem rd_Rd_listsAll_99 : decode mb_Rd_listsAll 99 = .ok (.invokeinterface 42 1, 5) := by decide +kernel
theorem rd_Rd_listsAll_104 : decode mb_Rd_listsAll 104 = .ok (.astore_n 2, 1) := by decide +kernel
theorem rd_Rd_listsAll_105 : decode mb_Rd_listsAll 105 = .ok (.aload_n 2, 1) := by decide +kernel
theorem rd_Rd_listsAll_106 : decode mb_Rd_listsAll 106 = .ok (.invokeinterface 46 1, 5) := by decide +kernel
theorem rd_Rd_listsAll_111 : decode mb_Rd_listsAll 111 = .ok (.ifCond .eq 23, 3) := by decide +kernel
theorem rd_Rd_listsAll_114 : decode mb_Rd_listsAll 114 = .ok (.aload_n 2, 1) := by decide +kernel
theorem rd_Rd_listsAll_115 : decode mb_Rd_listsAll 115 = .ok (.invokeinterface 52 1, 5) := by decide +kernel
theorem rd_Rd_listsAll_120 : decode mb_Rd_listsAll 120 = .ok (.checkcast 38, 3) := by decide +kernel
theorem rd_Rd_listsAll_123 : decode mb_Rd_listsAll 123 = .ok (.astore_n 3, 1) := by decide +kernel
theorem rd_Rd_listsAll_124 : decode mb_Rd_listsAll 124 = .ok (.aload_n 0, 1) := by decide +kernel
theorem rd_Rd_listsAll_125 : decode mb_Rd_listsAll 125 = .ok (.aload_n 3, 1) := by decide +kernel
theorem rd_Rd_listsAll_126 : decode mb_Rd_listsAll 126 = .ok (.iconst 1, 1) := by decide +kernel
theorem rd_Rd_listsAll_127 : decode mb_Rd_listsAll 127 = .ok (.iload_n 1, 1) := by decide +kernel
theorem rd_Rd_listsAll_128 : decode mb_Rd_listsAll 128 = .ok (.invokevirtual 56, 3) := by decide +kernel
theorem rd_Rd_listsAll_131 : decode mb_Rd_listsAll 131 = .ok (.goto (-26), 3) := by decide +kernel
theorem rd_Rd_listsAll_134 : decode mb_Rd_listsAll 134 = .ok (.iinc 1 1, 3) := by decide +kernel
theorem rd_Rd_listsAll_137 : decode mb_Rd_listsAll 137 = .ok (.goto (-108), 3) := by decide +kernel
theorem rd_Rd_listsAll_140 : decode mb_Rd_listsAll 140 = .ok (.return_, 1) := by decide +kernel
theorem cw_Rd_listsAll : Jvm.Cond.code mn_Rd_listsAll prog_15_method_3_code (4 : Nat) none ∈ jk_WA := jk_tb 765 (by decide +kernel) (by decide +kernel)
theorem xw_Rd_listsAll : Jvm.Cond.instanceMethod mn_Rd_listsAll ∈ jk_WA := jk_tb 763 (by decide +kernel) (by decide +kernel)
theorem sw_Rd_listsAll : Jvm.Cond.selects "KnotReaderLaw$Reader" mn_Rd_listsAll mn_Rd_listsAll ∈ jk_WA := jk_tb 764 (by decide +kernel) (by decide +kernel)
theorem rd_Rd_indexOf_0 : decode mb_Rd_indexOf 0 = .ok (.iconst 0, 1) := by decide +kernel
theorem rd_Rd_indexOf_1 : decode mb_Rd_indexOf 1 = .ok (.istore_n 2, 1) := by decide +kernel
theorem rd_Rd_indexOf_2 : decode mb_Rd_indexOf 2 = .ok (.iload_n 2, 1) := by decide +kernel
theorem rd_Rd_indexOf_3 : decode mb_Rd_indexOf 3 = .ok (.aload_n 0, 1) := by decide +kernel
theorem rd_Rd_indexOf_4 : decode mb_Rd_indexOf 4 = .ok (.getfield 16, 3) := by decide +kernel
theorem rd_Rd_indexOf_7 : decode mb_Rd_indexOf 7 = .ok (.invokeinterface 63 1, 5) := by decide +kernel
theorem rd_Rd_indexOf_12 : decode mb_Rd_indexOf 12 = .ok (.if_icmp .ge 25, 3) := by decide +kernel
theorem rd_Rd_indexOf_15 : decode mb_Rd_indexOf 15 = .ok (.aload_n 0, 1) := by decide +kernel
theorem rd_Rd_indexOf_16 : decode mb_Rd_indexOf 16 = .ok (.getfield 16, 3) := by decide +kernel
theorem rd_Rd_indexOf_19 : decode mb_Rd_indexOf 19 = .ok (.iload_n 2, 1) := by decide +kernel
theorem rd_Rd_indexOf_20 : decode mb_Rd_indexOf 20 = .ok (.invokeinterface 67 2, 5) := by decide +kernel
theorem rd_Rd_indexOf_25 : decode mb_Rd_indexOf 25 = .ok (.aload_n 1, 1) := by decide +kernel
theorem rd_Rd_indexOf_26 : decode mb_Rd_indexOf 26 = .ok (.if_acmp .ne 5, 3) := by decide +kernel
theorem rd_Rd_indexOf_29 : decode mb_Rd_indexOf 29 = .ok (.iload_n 2, 1) := by decide +kernel
theorem rd_Rd_indexOf_30 : decode mb_Rd_indexOf 30 = .ok (.ireturn, 1) := by decide +kernel
theorem rd_Rd_indexOf_31 : decode mb_Rd_indexOf 31 = .ok (.iinc 2 1, 3) := by decide +kernel
theorem rd_Rd_indexOf_34 : decode mb_Rd_indexOf 34 = .ok (.goto (-32), 3) := by decide +kernel
theorem rd_Rd_indexOf_37 : decode mb_Rd_indexOf 37 = .ok (.iconst (-1), 1) := by decide +kernel
theorem rd_Rd_indexOf_38 : decode mb_Rd_indexOf 38 = .ok (.ireturn, 1) := by decide +kernel
theorem cw_Rd_indexOf : Jvm.Cond.code mn_Rd_indexOf prog_15_method_4_code (3 : Nat) (some .int) ∈ jk_WA := jk_tb 1158 (by decide +kernel) (by decide +kernel)
theorem xw_Rd_indexOf : Jvm.Cond.instanceMethod mn_Rd_indexOf ∈ jk_WA := jk_tb 1156 (by decide +kernel) (by decide +kernel)
theorem sw_Rd_indexOf : Jvm.Cond.selects "KnotReaderLaw$Reader" mn_Rd_indexOf mn_Rd_indexOf ∈ jk_WA := jk_tb 1157 (by decide +kernel) (by decide +kernel)
theorem rd_Rd_only_0 : decode mb_Rd_only 0 = .ok (.iconst 0, 1) := by decide +kernel
theorem rd_Rd_only_1 : decode mb_Rd_only 1 = .ok (.istore_n 2, 1) := by decide +kernel
theorem rd_Rd_only_2 : decode mb_Rd_only 2 = .ok (.iload_n 2, 1) := by decide +kernel
theorem rd_Rd_only_3 : decode mb_Rd_only 3 = .ok (.aload_n 0, 1) := by decide +kernel
theorem rd_Rd_only_4 : decode mb_Rd_only 4 = .ok (.getfield 16, 3) := by decide +kernel
theorem rd_Rd_only_7 : decode mb_Rd_only 7 = .ok (.invokeinterface 63 1, 5) := by decide +kernel
theorem rd_Rd_only_12 : decode mb_Rd_only 12 = .ok (.if_icmp .ge 62, 3) := by decide +kernel
theorem rd_Rd_only_15 : decode mb_Rd_only 15 = .ok (.aload_n 0, 1) := by decide +kernel
theorem rd_Rd_only_16 : decode mb_Rd_only 16 = .ok (.getfield 22, 3) := by decide +kernel
theorem rd_Rd_only_19 : decode mb_Rd_only 19 = .ok (.iload_n 2, 1) := by decide +kernel
theorem rd_Rd_only_20 : decode mb_Rd_only 20 = .ok (.invokeinterface 67 2, 5) := by decide +kernel
theorem rd_Rd_only_25 : decode mb_Rd_only 25 = .ok (.checkcast 32, 3) := by decide +kernel
theorem rd_Rd_only_28 : decode mb_Rd_only 28 = .ok (.invokevirtual 80, 3) := by decide +kernel
