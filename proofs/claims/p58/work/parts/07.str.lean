def mn_JStr_length : MethodName := ⟨"java/lang/String", "length", "()I"⟩
abbrev mb_JStr_length : ByteArray := prog_33_method_54_code
theorem na_JStr_length : jk_nm mn_JStr_length 0 := ⟨by decide +kernel, by decide +kernel, by decide +kernel⟩
def mn_JStr_charAt : MethodName := ⟨"java/lang/String", "charAt", "(I)C"⟩
abbrev mb_JStr_charAt : ByteArray := prog_33_method_56_code
theorem na_JStr_charAt : jk_nm mn_JStr_charAt 1 := ⟨by decide +kernel, by decide +kernel, by decide +kernel⟩
def mn_JStr_coder : MethodName := ⟨"java/lang/String", "coder", "()B"⟩
abbrev mb_JStr_coder : ByteArray := prog_33_method_152_code
theorem na_JStr_coder : jk_nm mn_JStr_coder 0 := ⟨by decide +kernel, by decide +kernel, by decide +kernel⟩
def mn_JStr_isLatin1 : MethodName := ⟨"java/lang/String", "isLatin1", "()Z"⟩
abbrev mb_JStr_isLatin1 : ByteArray := prog_33_method_154_code
theorem na_JStr_isLatin1 : jk_nm mn_JStr_isLatin1 0 := ⟨by decide +kernel, by decide +kernel, by decide +kernel⟩
def mn_JStr_checkIndex : MethodName := ⟨"java/lang/String", "checkIndex", "(II)V"⟩
abbrev mb_JStr_checkIndex : ByteArray := prog_33_method_155_code
theorem na_JStr_checkIndex : jk_nm mn_JStr_checkIndex 2 := ⟨by decide +kernel, by decide +kernel, by decide +kernel⟩
def mn_JLat_charAt : MethodName := ⟨"java/lang/StringLatin1", "charAt", "([BI)C"⟩
abbrev mb_JLat_charAt : ByteArray := prog_35_method_2_code
theorem na_JLat_charAt : jk_nm mn_JLat_charAt 2 := ⟨by decide +kernel, by decide +kernel, by decide +kernel⟩
def mn_JPre_checkIndex : MethodName := ⟨"jdk/internal/util/Preconditions", "checkIndex", "(IILjava/util/function/BiFunction;)I"⟩
abbrev mb_JPre_checkIndex : ByteArray := prog_54_method_11_code
theorem na_JPre_checkIndex : jk_nm mn_JPre_checkIndex 3 := ⟨by decide +kernel, by decide +kernel, by decide +kernel⟩
theorem rd_JStr_coder_0 : decode mb_JStr_coder 0 = .ok (.getstatic 38, 3) := by decide +kernel
theorem rd_JStr_coder_3 : decode mb_JStr_coder 3 = .ok (.ifCond .eq 10, 3) := by decide +kernel
theorem rd_JStr_coder_6 : decode mb_JStr_coder 6 = .ok (.aload_n 0, 1) := by decide +kernel
theorem rd_JStr_coder_7 : decode mb_JStr_coder 7 = .ok (.getfield 15, 3) := by decide +kernel
theorem rd_JStr_coder_10 : decode mb_JStr_coder 10 = .ok (.goto 4, 3) := by decide +kernel
theorem rd_JStr_coder_14 : decode mb_JStr_coder 14 = .ok (.ireturn, 1) := by decide +kernel
theorem rd_JStr_isLatin1_0 : decode mb_JStr_isLatin1 0 = .ok (.getstatic 38, 3) := by decide +kernel
theorem rd_JStr_isLatin1_3 : decode mb_JStr_isLatin1 3 = .ok (.ifCond .eq 14, 3) := by decide +kernel
theorem rd_JStr_isLatin1_6 : decode mb_JStr_isLatin1 6 = .ok (.aload_n 0, 1) := by decide +kernel
theorem rd_JStr_isLatin1_7 : decode mb_JStr_isLatin1 7 = .ok (.getfield 15, 3) := by decide +kernel
theorem rd_JStr_isLatin1_10 : decode mb_JStr_isLatin1 10 = .ok (.ifCond .ne 7, 3) := by decide +kernel
theorem rd_JStr_isLatin1_13 : decode mb_JStr_isLatin1 13 = .ok (.iconst 1, 1) := by decide +kernel
theorem rd_JStr_isLatin1_14 : decode mb_JStr_isLatin1 14 = .ok (.goto 4, 3) := by decide +kernel
theorem rd_JStr_isLatin1_18 : decode mb_JStr_isLatin1 18 = .ok (.ireturn, 1) := by decide +kernel
theorem rd_JStr_length_0 : decode mb_JStr_length 0 = .ok (.aload_n 0, 1) := by decide +kernel
theorem rd_JStr_length_1 : decode mb_JStr_length 1 = .ok (.getfield 9, 3) := by decide +kernel
theorem rd_JStr_length_4 : decode mb_JStr_length 4 = .ok (.arraylength, 1) := by decide +kernel
theorem rd_JStr_length_5 : decode mb_JStr_length 5 = .ok (.aload_n 0, 1) := by decide +kernel
theorem rd_JStr_length_6 : decode mb_JStr_length 6 = .ok (.invokevirtual 335, 3) := by decide +kernel
theorem rd_JStr_length_9 : decode mb_JStr_length 9 = .ok (.ishr, 1) := by decide +kernel
theorem rd_JStr_length_10 : decode mb_JStr_length 10 = .ok (.ireturn, 1) := by decide +kernel
theorem rd_JPre_checkIndex_0 : decode mb_JPre_checkIndex 0 = .ok (.iload_n 0, 1) := by decide +kernel
theorem rd_JPre_checkIndex_1 : decode mb_JPre_checkIndex 1 = .ok (.ifCond .lt 8, 3) := by decide +kernel
theorem rd_JPre_checkIndex_4 : decode mb_JPre_checkIndex 4 = .ok (.iload_n 0, 1) := by decide +kernel
theorem rd_JPre_checkIndex_5 : decode mb_JPre_checkIndex 5 = .ok (.iload_n 1, 1) := by decide +kernel
theorem rd_JPre_checkIndex_6 : decode mb_JPre_checkIndex 6 = .ok (.if_icmp .lt 10, 3) := by decide +kernel
theorem rd_JPre_checkIndex_16 : decode mb_JPre_checkIndex 16 = .ok (.iload_n 0, 1) := by decide +kernel
theorem rd_JPre_checkIndex_17 : decode mb_JPre_checkIndex 17 = .ok (.ireturn, 1) := by decide +kernel
theorem rd_JStr_checkIndex_0 : decode mb_JStr_checkIndex 0 = .ok (.iload_n 0, 1) := by decide +kernel
theorem rd_JStr_checkIndex_1 : decode mb_JStr_checkIndex 1 = .ok (.iload_n 1, 1) := by decide +kernel
theorem rd_JStr_checkIndex_2 : decode mb_JStr_checkIndex 2 = .ok (.getstatic 1053, 3) := by decide +kernel
theorem rd_JStr_checkIndex_5 : decode mb_JStr_checkIndex 5 = .ok (.invokestatic 1059, 3) := by decide +kernel
theorem rd_JStr_checkIndex_8 : decode mb_JStr_checkIndex 8 = .ok (.pop, 1) := by decide +kernel
theorem rd_JStr_checkIndex_9 : decode mb_JStr_checkIndex 9 = .ok (.return_, 1) := by decide +kernel
theorem rd_JLat_charAt_0 : decode mb_JLat_charAt 0 = .ok (.iload_n 1, 1) := by decide +kernel
theorem rd_JLat_charAt_1 : decode mb_JLat_charAt 1 = .ok (.aload_n 0, 1) := by decide +kernel
theorem rd_JLat_charAt_2 : decode mb_JLat_charAt 2 = .ok (.arraylength, 1) := by decide +kernel
theorem rd_JLat_charAt_3 : decode mb_JLat_charAt 3 = .ok (.invokestatic 9, 3) := by decide +kernel
theorem rd_JLat_charAt_6 : decode mb_JLat_charAt 6 = .ok (.aload_n 0, 1) := by decide +kernel
theorem rd_JLat_charAt_7 : decode mb_JLat_charAt 7 = .ok (.iload_n 1, 1) := by decide +kernel
theorem rd_JLat_charAt_8 : decode mb_JLat_charAt 8 = .ok (.baload, 1) := by decide +kernel
theorem rd_JLat_charAt_9 : decode mb_JLat_charAt 9 = .ok (.sipush 255, 3) := by decide +kernel
theorem rd_JLat_charAt_12 : decode mb_JLat_charAt 12 = .ok (.iand, 1) := by decide +kernel
theorem rd_JLat_charAt_13 : decode mb_JLat_charAt 13 = .ok (.i2c, 1) := by decide +kernel
theorem rd_JLat_charAt_14 : decode mb_JLat_charAt 14 = .ok (.ireturn, 1) := by decide +kernel
theorem rd_JStr_charAt_0 : decode mb_JStr_charAt 0 = .ok (.aload_n 0, 1) := by decide +kernel
theorem rd_JStr_charAt_1 : decode mb_JStr_charAt 1 = .ok (.invokevirtual 492, 3) := by decide +kernel
theorem rd_JStr_charAt_4 : decode mb_JStr_charAt 4 = .ok (.ifCond .eq 12, 3) := by decide +kernel
theorem rd_JStr_charAt_7 : decode mb_JStr_charAt 7 = .ok (.aload_n 0, 1) := by decide +kernel
theorem rd_JStr_charAt_8 : decode mb_JStr_charAt 8 = .ok (.getfield 9, 3) := by decide +kernel
theorem rd_JStr_charAt_11 : decode mb_JStr_charAt 11 = .ok (.iload_n 1, 1) := by decide +kernel
theorem rd_JStr_charAt_12 : decode mb_JStr_charAt 12 = .ok (.invokestatic 495, 3) := by decide +kernel
theorem rd_JStr_charAt_15 : decode mb_JStr_charAt 15 = .ok (.ireturn, 1) := by decide +kernel
theorem W_cs : Jvm.Cond.fieldLink "java/lang/String" (38 : Nat) "java/lang/String" "COMPACT_STRINGS" "Z" ∈ jk_WA := jk_tb 219 (by decide +kernel) (by decide +kernel)
theorem W_co : Jvm.Cond.fieldLink "java/lang/String" (15 : Nat) "java/lang/String" "coder" "B" ∈ jk_WA := jk_tb 1562 (by decide +kernel) (by decide +kernel)
theorem W_va : Jvm.Cond.fieldLink "java/lang/String" (9 : Nat) "java/lang/String" "value" "[B" ∈ jk_WA := jk_tb 1561 (by decide +kernel) (by decide +kernel)
theorem W_si : Jvm.Cond.fieldLink "java/lang/String" (1053 : Nat) "jdk/internal/util/Preconditions" "SIOOBE_FORMATTER" "Ljava/util/function/BiFunction;" ∈ jk_WA := jk_tb 235 (by decide +kernel) (by decide +kernel)
theorem W_lco : Jvm.Cond.methodLink "java/lang/String" (335 : Nat) mn_JStr_coder ∈ jk_WA := jk_tb 215 (by decide +kernel) (by decide +kernel)
theorem W_ico : Jvm.Cond.instanceMethod mn_JStr_coder ∈ jk_WA := jk_tb 216 (by decide +kernel) (by decide +kernel)
theorem W_sco : Jvm.Cond.selects "java/lang/String" mn_JStr_coder mn_JStr_coder ∈ jk_WA := jk_tb 217 (by decide +kernel) (by decide +kernel)
theorem W_iniS : Jvm.Cond.initialized "java/lang/String" ∈ jk_WA := jk_tb 9 (by decide +kernel) (by decide +kernel)
theorem W_lla : Jvm.Cond.methodLink "java/lang/String" (492 : Nat) mn_JStr_isLatin1 ∈ jk_WA := jk_tb 225 (by decide +kernel) (by decide +kernel)
theorem W_ila : Jvm.Cond.instanceMethod mn_JStr_isLatin1 ∈ jk_WA := jk_tb 226 (by decide +kernel) (by decide +kernel)
theorem W_sla : Jvm.Cond.selects "java/lang/String" mn_JStr_isLatin1 mn_JStr_isLatin1 ∈ jk_WA := jk_tb 227 (by decide +kernel) (by decide +kernel)
theorem W_llc : Jvm.Cond.methodLink "java/lang/String" (495 : Nat) mn_JLat_charAt ∈ jk_WA := jk_tb 229 (by decide +kernel) (by decide +kernel)
theorem W_slc : Jvm.Cond.static mn_JLat_charAt ∈ jk_WA := jk_tb 230 (by decide +kernel) (by decide +kernel)
theorem W_iniL : Jvm.Cond.initialized "java/lang/StringLatin1" ∈ jk_WA := jk_tb 10 (by decide +kernel) (by decide +kernel)
theorem W_lci : Jvm.Cond.methodLink "java/lang/StringLatin1" (9 : Nat) mn_JStr_checkIndex ∈ jk_WA := jk_tb 232 (by decide +kernel) (by decide +kernel)
theorem W_sci : Jvm.Cond.static mn_JStr_checkIndex ∈ jk_WA := jk_tb 233 (by decide +kernel) (by decide +kernel)
theorem W_lpc : Jvm.Cond.methodLink "java/lang/String" (1059 : Nat) mn_JPre_checkIndex ∈ jk_WA := jk_tb 237 (by decide +kernel) (by decide +kernel)
theorem W_spc : Jvm.Cond.static mn_JPre_checkIndex ∈ jk_WA := jk_tb 238 (by decide +kernel) (by decide +kernel)
theorem W_iniP : Jvm.Cond.initialized "jdk/internal/util/Preconditions" ∈ jk_WA := jk_tb 11 (by decide +kernel) (by decide +kernel)
theorem W_cco : Jvm.Cond.code mn_JStr_coder prog_33_method_152_code (1 : Nat) (some .byte) ∈ jk_WA := jk_tb 218 (by decide +kernel) (by decide +kernel)
theorem W_cla : Jvm.Cond.code mn_JStr_isLatin1 prog_33_method_154_code (1 : Nat) (some .boolean) ∈ jk_WA := jk_tb 228 (by decide +kernel) (by decide +kernel)
theorem W_clc : Jvm.Cond.code mn_JLat_charAt prog_35_method_2_code (2 : Nat) (some .char) ∈ jk_WA := jk_tb 231 (by decide +kernel) (by decide +kernel)
theorem W_cci : Jvm.Cond.code mn_JStr_checkIndex prog_33_method_155_code (2 : Nat) none ∈ jk_WA := jk_tb 234 (by decide +kernel) (by decide +kernel)
theorem W_cpc : Jvm.Cond.code mn_JPre_checkIndex prog_54_method_11_code (3 : Nat) (some .int) ∈ jk_WA := jk_tb 239 (by decide +kernel) (by decide +kernel)
theorem W_slen_Text_39 : Jvm.Cond.methodLink "KnotReader$Text" (39 : Nat) mn_JStr_length ∈ jk_WA := jk_tb 211 (by decide +kernel) (by decide +kernel)
theorem W_sch_Text_44 : Jvm.Cond.methodLink "KnotReader$Text" (44 : Nat) mn_JStr_charAt ∈ jk_WA := jk_tb 221 (by decide +kernel) (by decide +kernel)
theorem W_slen_Law_7 : Jvm.Cond.methodLink "KnotReaderLaw" (7 : Nat) mn_JStr_length ∈ jk_WA := jk_tb 914 (by decide +kernel) (by decide +kernel)
theorem W_sch_Law_13 : Jvm.Cond.methodLink "KnotReaderLaw" (13 : Nat) mn_JStr_charAt ∈ jk_WA := jk_tb 915 (by decide +kernel) (by decide +kernel)
theorem W_iln : Jvm.Cond.instanceMethod mn_JStr_length ∈ jk_WA := jk_tb 212 (by decide +kernel) (by decide +kernel)
theorem W_sln : Jvm.Cond.selects "java/lang/String" mn_JStr_length mn_JStr_length ∈ jk_WA := jk_tb 213 (by decide +kernel) (by decide +kernel)
theorem W_ich : Jvm.Cond.instanceMethod mn_JStr_charAt ∈ jk_WA := jk_tb 222 (by decide +kernel) (by decide +kernel)
theorem W_sch : Jvm.Cond.selects "java/lang/String" mn_JStr_charAt mn_JStr_charAt ∈ jk_WA := jk_tb 223 (by decide +kernel) (by decide +kernel)
theorem W_cln : Jvm.Cond.code mn_JStr_length prog_33_method_54_code (1 : Nat) (some .int) ∈ jk_WA := jk_tb 214 (by decide +kernel) (by decide +kernel)
theorem W_cch : Jvm.Cond.code mn_JStr_charAt prog_33_method_56_code (2 : Nat) (some .char) ∈ jk_WA := jk_tb 224 (by decide +kernel) (by decide +kernel)
section JS1
variable {p : Program} {l : Launch} {e : Env} {R : Room} {s : State} {m : MethodId} {args : Array Value} {below : List Frame} {meth : Method} {c : Code} {cells slots : Nat} {Q : State → Prop} {D : va_G} {cl : List vw_C} {A : Nat → Prop} {nL : Nat} {ws ws' wc wc' : va_W} {lv lv' : List (Nat × Value)} {pc : Nat} {st st0 : List Value}
variable {cc : ByteArray} {own : String} {tys : List (ClassId × FieldType)} {ret ret' : Option FieldType} {Z : (Nat → Prop) → State → Heap → Prop}
variable {y : MethodName} {bytes : ByteArray} {maxL n index : Nat} {b : Nat} {As : List Value}
theorem jk_gets (C : jk_C p s m args meth c cc own nL jk_WA D cl tys A ret) {C0 nm d : String} {v : Value} (h : va_Z C0 nm d v A s s.heap) (hlink : Cond.fieldLink own index C0 nm d ∈ jk_WA) (hdg : decode cc pc = .ok (.getstatic index, 3)) (kk : jk_J p l e R s m args below meth c cells slots Q D cl A nL ws lv (pc + 3) (v :: st)) : jk_J p l e R s m args below meth c cells slots Q D cl A nL ws lv pc st :=
  fun H locs ls hl hP hD hS => va_gets C.1.1 C.1.2.1 h hS C.1.2.2.2.1 (C.1.2.2.2.2 _ hlink) (fun _ h9 => h9) hdg (kk H locs ls hl hP hD hS)
theorem jk_ofget (C : jk_C p s m args meth c cc own nL jk_WA D cl tys A ret) {C0 nm d : String} {v : Value} {q : Nat} (h : va_OF C0 nm d v q A s s.heap) (hlink : Cond.fieldLink own index C0 nm d ∈ jk_WA) (hdg : decode cc pc = .ok (.getfield index, 3)) (kk : jk_J p l e R s m args below meth c cells slots Q D cl A nL ws lv (pc + 3) (v :: st)) : jk_J p l e R s m args below meth c cells slots Q D cl A nL ws lv pc (.ref q :: st) :=
  fun H locs ls hl hP hD hS => vk_getf C.1.1 C.1.2.1 h hS C.1.2.2.2.1 (C.1.2.2.2.2 _ hlink) (fun _ h9 => h9) hdg (kk H locs ls hl hP hD hS)
theorem jk_bald (C : jk_C p s m args meth c cc own nL jk_WA D cl tys A ret) {t N : Nat} {f : Nat → Value} {i : Int} (h : va_T .byte t N f A s s.heap) (h0 : 0 ≤ i) (h1 : i < N) (hN : N < 2147483648) (hdg : decode cc pc = .ok (.baload, 1)) (kk : jk_J p l e R s m args below meth c cells slots Q D cl A nL ws lv (pc + 1) (f i.toNat :: st)) : jk_J p l e R s m args below meth c cells slots Q D cl A nL ws lv pc (jk_V i :: .ref t :: st) :=
  fun H locs ls hl hP hD hS => va_tb C.1.1 C.1.2.1 h hS (jk_in h0 h1 hN) (by rw [jk_clamp h0 (by omega)]) hdg (kk H locs ls hl hP hD hS)
theorem jk_blen (C : jk_C p s m args meth c cc own nL jk_WA D cl tys A ret) {t N : Nat} {f : Nat → Value} (h : va_T .byte t N f A s s.heap) (hdg : decode cc pc = .ok (.arraylength, 1)) (kk : jk_J p l e R s m args below meth c cells slots Q D cl A nL ws lv (pc + 1) (jk_V (N : Int) :: st)) : jk_J p l e R s m args below meth c cells slots Q D cl A nL ws lv pc (.ref t :: st) :=
  fun H locs ls hl hP hD hS => va_tlen (v := jk_I (N : Int)) C.1.1 C.1.2.1 h hS rfl hdg (kk H locs ls hl hP hD hS)
theorem jk_i2c (C : jk_C p s m args meth c cc own nL jk_WA D cl tys A ret) {x : Int} (hx : ((jk_I x).toUInt32 % 65536).toInt32 = jk_I x) (hdg : decode cc pc = .ok (.i2c, 1)) (kk : jk_J p l e R s m args below meth c cells slots Q D cl A nL ws lv (pc + 1) (jk_V x :: st)) : jk_J p l e R s m args below meth c cells slots Q D cl A nL ws lv pc (jk_V x :: st) :=
  fun H locs ls hl hP hD hS => lv_i2c C.1.1 C.1.2.1 hdg hx (kk H locs ls hl hP hD hS)
theorem jk_nret (C : jk_C p s m args meth c cc own nL jk_WA D cl tys A ret) {ty : FieldType} (hty : ret = some ty) {sz : Nat} {w : va_W} {r : Int} (hb : narrow ty (.int (jk_I r)) = .int (jk_I r)) (hA : va_A w sz = A) (hdg : decode cc pc = .ok (.ireturn, 1)) (hw : ws = ws') : jk_J p l e R s m args below meth c cells slots (MQ below (va_Qi (fun (r' : Int32) (_ : Unit) => r' = jk_I r) (fun _ t => jk_Post D cl tys ws' t) (va_A w sz)) args s cells slots (va_A w sz)) D cl A nL ws lv pc [jk_V r] := by
  subst hw; subst hA; subst hty
  intro H locs ls hl hP hD hS
  exact W.zret C.1.1 C.1.2.1 C.2.2.2.1 hb (fun t ht hW => ⟨⟨jk_I r, (), rfl, rfl, by rw [ht]; exact hP, va_K.moved hW.alike C.2.1⟩, hS.F ht⟩) hS.2.2 hdg C.2.2.2.2
/-- a virtual call at a text -/
theorem jk_callOi (C : jk_C p s m args meth c cc own nL jk_WA D cl tys A ret) (hZ : jk_ZC Z) (hz : Z A s s.heap) {f lo : Nat} {r : Int} (hM : jk_MI l D cl tys Z y (.code y bytes maxL ret' :: jk_WA) (jk_rm f lo) (.ref b :: As) [] [] r) (hO : va_O y.cls b A s s.heap)
    (h1 : Cond.methodLink own index y ∈ jk_WA) (h2 : Cond.instanceMethod y ∈ jk_WA) (h3 : Cond.selects y.cls y y ∈ jk_WA) (h4 : Cond.initialized y.cls ∈ jk_WA) (h5 : Cond.code y bytes maxL ret' ∈ jk_WA) (hd : jk_nm y n) (hR : f + 1 ≤ R.frames ∧ 8 + (maxL + 11) + lo ≤ R.locals) (hn : As.length = n)
    (hst : st0 = As.reverse ++ .ref b :: st) (hW : (st.map fun v => v.category).sum ≤ 8) (hdg : decode cc pc = .ok (.invokevirtual index, 3))
    (kk : jk_J p l e R s m args below meth c cells slots Q D cl A nL ws lv (pc + 3) (jk_V r :: st)) : cells + 0 ≤ R.cells ∧ slots + 0 ≤ R.slots → jk_J p l e R s m args below meth c cells slots Q D cl A nL ws lv pc st0 := by
  intro hcs H locs ls hl hP hD hS
  obtain ⟨g1, g2, g3, g4⟩ := jk_pre (wc := []) (is := []) hZ hz C.2.2.1 C.2.1 hP hD hS rfl rfl (.ref b :: As)
  exact jk_goi (is := []) (wc := []) (wc' := []) (as := As) rfl rfl (jk_put_nil ws) hl hP hD hS g4 (va_runV (As := As) (rest := st) C.1 (hM H.size) (jk_cwV C h1 h2 h3 h4 h5 hd hR) ⟨g1, va_Orecv hO hS, g2⟩ rfl hn hl.1 hst (lv_room hW) hdg hcs) kk
end JS1
section JS2
variable {l : Launch} {D : va_G} {Z : (Nat → Prop) → State → Heap → Prop} {sq : Nat → Nat} {cl : List vw_C} {tys : List (ClassId × FieldType)} {q : Nat} {w : List Int}
theorem ct_JStr_coder (hZ : jk_ZK Z sq) (hq : jk_St Z q w) : jk_MI l D cl tys Z mn_JStr_coder (.code mn_JStr_coder mb_JStr_coder 1 (some .byte) :: jk_WA) (jk_rm 0 0) [.ref q] [] [] 0 := by
  intro sz
  refine jk_body (by decide +kernel) (fun p e s m args below meth c hsz hz hin C => ?_) (Nat.le_of_ble_eq_true rfl)
  subst hsz
  obtain ⟨v, hv0⟩ := hq.2
  obtain ⟨hO, hc, hv, hT⟩ := hv0 _ _ _ hz
  refine jk_gets C (hZ.2.2 _ _ _ hz).2.1 W_cs rd_JStr_coder_0 ?_
  refine jk_if_eq (x := 1) (a := (none : Option Unit)) (b := some ()) (o := ()) (tgt := 13) C rd_JStr_coder_3 (by decide) (by decide +kernel) (fun h _ => absurd h (by decide)) (fun _ _ => ?_)
  refine jk_aload_n C rd_JStr_coder_6 (k := 0) rfl ?_
  refine jk_ofget C hc W_co rd_JStr_coder_7 ?_
  refine jk_goto (tgt := 14) C rd_JStr_coder_10 (by decide) ?_
  exact jk_nret (r := 0) C rfl (by decide +kernel) rfl rd_JStr_coder_14 rfl
theorem ct_JStr_isLatin1 (hZ : jk_ZK Z sq) (hq : jk_St Z q w) : jk_MI l D cl tys Z mn_JStr_isLatin1 (.code mn_JStr_isLatin1 mb_JStr_isLatin1 1 (some .boolean) :: jk_WA) (jk_rm 0 0) [.ref q] [] [] 1 := by
  intro sz
  refine jk_body (by decide +kernel) (fun p e s m args below meth c hsz hz hin C => ?_) (Nat.le_of_ble_eq_true rfl)
  subst hsz
  obtain ⟨v, hv0⟩ := hq.2
  obtain ⟨hO, hc, hv, hT⟩ := hv0 _ _ _ hz
  refine jk_gets C (hZ.2.2 _ _ _ hz).2.1 W_cs rd_JStr_isLatin1_0 ?_
  refine jk_if_eq (x := 1) (a := (none : Option Unit)) (b := some ()) (o := ()) (tgt := 17) C rd_JStr_isLatin1_3 (by decide) (by decide +kernel) (fun h _ => absurd h (by decide)) (fun _ _ => ?_)
  refine jk_aload_n C rd_JStr_isLatin1_6 (k := 0) rfl ?_
  refine jk_ofget C hc W_co rd_JStr_isLatin1_7 ?_
  refine jk_if_ne (x := 0) (a := some ()) (b := (none : Option Unit)) (o := ()) (tgt := 17) C rd_JStr_isLatin1_10 (by decide) (by decide +kernel) (fun h _ => absurd rfl h) (fun _ _ => ?_)
  refine jk_iconst C rd_JStr_isLatin1_13 ?_
  refine jk_goto (tgt := 18) C rd_JStr_isLatin1_14 (by decide) ?_
  exact jk_zret C (Or.inr rfl) rfl rd_JStr_isLatin1_18 rfl
theorem jk_F1 {N : Nat} (h : N < 1000) : jk_R (N : Int) := ⟨by omega, by omega⟩
theorem ct_JStr_length (hZ : jk_ZK Z sq) (hq : jk_St Z q w) : jk_MI l D cl tys Z mn_JStr_length (.code mn_JStr_length mb_JStr_length 1 (some .int) :: jk_WA) (jk_rm 1 20) [.ref q] [] [] (w.length : Int) := by
  intro sz
  refine jk_body (by decide +kernel) (fun p e s m args below meth c hsz hz hin C => ?_) (Nat.le_of_ble_eq_true rfl)
  subst hsz
  obtain ⟨v, hv0⟩ := hq.2
  obtain ⟨hO, hc, hv, hT⟩ := hv0 _ _ _ hz
  refine jk_aload_n C rd_JStr_length_0 (k := 0) rfl ?_
  refine jk_ofget C hv W_va rd_JStr_length_1 ?_
  refine jk_blen C hT rd_JStr_length_4 ?_
  refine jk_aload_n C rd_JStr_length_5 (k := 0) rfl ?_
  refine jk_callOi C hZ.1 hz (ct_JStr_coder hZ hq) hO W_lco W_ico W_sco W_iniS W_cco na_JStr_coder ⟨Nat.le_of_ble_eq_true rfl, Nat.le_of_ble_eq_true rfl⟩ rfl (st := [jk_V (w.length : Int)]) rfl (Nat.le_of_ble_eq_true rfl) rd_JStr_length_6 ?_ ⟨Nat.le_refl _, Nat.le_refl _⟩
  refine jk_ishr C rd_JStr_length_9 ?_
  have e : jk_shr (w.length : Int) 0 = (w.length : Int) := by
    unfold jk_shr
    rw [show jk_I (w.length : Int) >>> (jk_I 0 &&& 31) = jk_I (w.length : Int) from sb_shr0 _]
    exact jk_toInt (jk_F1 hq.1.2)
  rw [e]
  exact jk_iret C rfl rd_JStr_length_10 rfl
theorem ct_JPre_checkIndex {i n : Int} {fr : Option Nat} (hi : 0 ≤ i) (hn : i < n) (hn2 : n < 1000) : jk_MI l D cl tys Z mn_JPre_checkIndex (.code mn_JPre_checkIndex mb_JPre_checkIndex 3 (some .int) :: jk_WA) (jk_rm 0 0) [jk_V i, jk_V n, va_rf fr] [] [] i := by
  intro sz
  refine jk_body (by decide +kernel) (fun p e s m args below meth c hsz hz hin C => ?_) (by cases fr <;> exact Nat.le_of_ble_eq_true rfl)
  subst hsz
  have h1 : jk_R i := ⟨by omega, by omega⟩
  have h2 : jk_R n := ⟨by omega, by omega⟩
  have e : lv_args 0 [jk_V i, jk_V n, va_rf fr] = [(0, jk_V i), (1, jk_V n), (2, va_rf fr)] := by cases fr <;> rfl
  rw [e]
  refine jk_iload_n C rd_JPre_checkIndex_0 (k := 0) rfl ?_
  refine jk_if_lt (a := (none : Option Unit)) (b := some ()) (o := ()) (tgt := 9) C rd_JPre_checkIndex_1 (by decide) (by unfold jk_lts; rw [if_pos ⟨h1, jk_R0⟩, if_neg (by omega)]) (fun h _ => absurd hi (by omega)) (fun _ _ => ?_)
  refine jk_iload_n C rd_JPre_checkIndex_4 (k := 0) rfl ?_
  refine jk_iload_n C rd_JPre_checkIndex_5 (k := 1) rfl ?_
  refine jk_icmp_lt (a := some ()) (b := (none : Option Unit)) (o := ()) (tgt := 16) C rd_JPre_checkIndex_6 (by decide) (by unfold jk_lts; rw [if_pos ⟨h1, h2⟩, if_pos hn]) (fun _ _ => ?_) (fun h _ => absurd hn h)
  refine jk_iload_n C rd_JPre_checkIndex_16 (k := 0) rfl ?_
  exact jk_iret C rfl rd_JPre_checkIndex_17 rfl
theorem jk_zq {A : Nat → Prop} {s : State} {H : Heap} {C n d : String} (h : va_Zq C n d A s H) : ∃ f : Option Nat, va_Z C n d (va_rf f) A s H := h.elim (fun q => ⟨none, q⟩) (fun ⟨t, q⟩ => ⟨some t, q⟩)
theorem ct_JStr_checkIndex {i n : Int} (hZ : jk_ZK Z sq) (hi : 0 ≤ i) (hn : i < n) (hn2 : n < 1000) : jk_MV l D cl tys Z mn_JStr_checkIndex (.code mn_JStr_checkIndex mb_JStr_checkIndex 2 none :: jk_WA) (jk_rm 1 22) [jk_V i, jk_V n] [] [] := by
  intro sz
  refine jk_body (by decide +kernel) (fun p e s m args below meth c hsz hz hin C => ?_) (Nat.le_of_ble_eq_true rfl)
  subst hsz
  obtain ⟨fr, hf⟩ := jk_zq (hZ.2.2 _ _ _ hz).2.2.2.2.1
  refine jk_iload_n C rd_JStr_checkIndex_0 (k := 0) rfl ?_
  refine jk_iload_n C rd_JStr_checkIndex_1 (k := 1) rfl ?_
  refine jk_gets C hf W_si rd_JStr_checkIndex_2 ?_
  refine jk_callSi C hZ.1 hz (ct_JPre_checkIndex (fr := fr) hi hn hn2) W_lpc W_spc W_iniP W_cpc na_JPre_checkIndex ⟨Nat.le_of_ble_eq_true rfl, Nat.le_of_ble_eq_true rfl⟩ rfl [] rfl rfl rfl (ws' := []) rfl (st := []) rfl (Nat.le_of_ble_eq_true rfl) rd_JStr_checkIndex_5 ?_ ⟨Nat.le_refl _, Nat.le_refl _⟩
  refine jk_pop C rd_JStr_checkIndex_8 rfl ?_
  exact jk_vret C rfl rd_JStr_checkIndex_9 rfl
theorem jk_byte {b : Int} (h : 0 ≤ b ∧ b < 128) : jk_and b 255 = b ∧ ((jk_I b).toUInt32 % 65536).toInt32 = jk_I b ∧ narrow .char (.int (jk_I b)) = .int (jk_I b) := by
  have key : ∀ n : Nat, n < 128 → jk_and (n : Int) 255 = (n : Int) ∧ ((jk_I (n : Int)).toUInt32 % 65536).toInt32 = jk_I (n : Int) ∧ narrow .char (.int (jk_I (n : Int))) = .int (jk_I (n : Int)) := by decide +kernel
  have := key b.toNat (by omega)
  rwa [Int.toNat_of_nonneg h.1] at this
theorem jk_chr (hq : jk_St Z q w) {i : Int} (h0 : 0 ≤ i) (h1 : i < (w.length : Int)) : 0 ≤ w.getD i.toNat 0 ∧ w.getD i.toNat 0 < 128 := by
  have h2 : i.toNat < w.length := by omega
  have h3 := List.all_eq_true.mp hq.1.1 (w.getD i.toNat 0) (by rw [List.getD_eq_getElem?_getD, List.getElem?_eq_getElem h2]; exact List.getElem_mem h2)
  exact of_decide_eq_true h3
theorem ct_JLat_charAt {i : Int} {v : Nat} (hZ : jk_ZK Z sq) (hq : jk_St Z q w) (h0 : 0 ≤ i) (h1 : i < (w.length : Int)) (hv : ∀ (A : Nat → Prop) (U : State) (H : Heap), Z A U H → jk_S1 q v w A U H) : jk_MI l D cl tys Z mn_JLat_charAt (.code mn_JLat_charAt mb_JLat_charAt 2 (some .char) :: jk_WA) (jk_rm 2 43) [.ref v, jk_V i] [] [] (w.getD i.toNat 0) := by
  intro sz
  refine jk_body (by decide +kernel) (fun p e s m args below meth c hsz hz hin C => ?_) (Nat.le_of_ble_eq_true rfl)
  subst hsz
  have hT := (hv _ _ _ hz).2.2.2
  have hl := hq.1.2
  obtain ⟨e1, e2, e3⟩ := jk_byte (jk_chr hq h0 h1)
  refine jk_iload_n C rd_JLat_charAt_0 (k := 1) rfl ?_
  refine jk_aload_n C rd_JLat_charAt_1 (k := 0) rfl ?_
  refine jk_blen C hT rd_JLat_charAt_2 ?_
  refine jk_callSv C hZ.1 hz (ct_JStr_checkIndex hZ h0 h1 (by omega)) W_lci W_sci W_iniS W_cci na_JStr_checkIndex ⟨Nat.le_of_ble_eq_true rfl, Nat.le_of_ble_eq_true rfl⟩ rfl [] rfl rfl rfl (ws' := []) rfl (st := []) rfl (Nat.le_of_ble_eq_true rfl) rd_JLat_charAt_3 ?_ ⟨Nat.le_refl _, Nat.le_refl _⟩
  refine jk_aload_n C rd_JLat_charAt_6 (k := 0) rfl ?_
  refine jk_iload_n C rd_JLat_charAt_7 (k := 1) rfl ?_
  refine jk_bald C hT h0 h1 (by omega) rd_JLat_charAt_8 ?_
  refine jk_sipush C rd_JLat_charAt_9 (by decide +kernel) ?_
  refine jk_iand C rd_JLat_charAt_12 ?_
  rw [e1]
  refine jk_i2c C e2 rd_JLat_charAt_13 ?_
  exact jk_nret C rfl e3 rfl rd_JLat_charAt_14 rfl
end JS2
section JS3
variable {l : Launch} {D : va_G} {Z : (Nat → Prop) → State → Heap → Prop} {sq : Nat → Nat} {cl : List vw_C} {tys : List (ClassId × FieldType)} {q : Nat} {w : List Int}
theorem ct_JStr_charAt {i : Int} (hZ : jk_ZK Z sq) (hq : jk_St Z q w) (h0 : 0 ≤ i) (h1 : i < (w.length : Int)) : jk_MI l D cl tys Z mn_JStr_charAt (.code mn_JStr_charAt mb_JStr_charAt 2 (some .char) :: jk_WA) (jk_rm 3 64) [.ref q, jk_V i] [] [] (w.getD i.toNat 0) := by
  intro sz
  refine jk_body (by decide +kernel) (fun p e s m args below meth c hsz hz hin C => ?_) (Nat.le_of_ble_eq_true rfl)
  subst hsz
  obtain ⟨v, hv0⟩ := hq.2
  obtain ⟨hO, hc, hv, hT⟩ := hv0 _ _ _ hz
  refine jk_aload_n C rd_JStr_charAt_0 (k := 0) rfl ?_
  refine jk_callOi C hZ.1 hz (ct_JStr_isLatin1 hZ hq) hO W_lla W_ila W_sla W_iniS W_cla na_JStr_isLatin1 ⟨Nat.le_of_ble_eq_true rfl, Nat.le_of_ble_eq_true rfl⟩ rfl (st := []) rfl (Nat.le_of_ble_eq_true rfl) rd_JStr_charAt_1 ?_ ⟨Nat.le_refl _, Nat.le_refl _⟩
  refine jk_if_eq (x := 1) (a := (none : Option Unit)) (b := some ()) (o := ()) (tgt := 16) C rd_JStr_charAt_4 (by decide) (by decide +kernel) (fun h _ => absurd h (by decide)) (fun _ _ => ?_)
  refine jk_aload_n C rd_JStr_charAt_7 (k := 0) rfl ?_
  refine jk_ofget C hv W_va rd_JStr_charAt_8 ?_
  refine jk_iload_n C rd_JStr_charAt_11 (k := 1) rfl ?_
  refine jk_callSi C hZ.1 hz (ct_JLat_charAt hZ hq h0 h1 hv0) W_llc W_slc W_iniL W_clc na_JLat_charAt ⟨Nat.le_of_ble_eq_true rfl, Nat.le_of_ble_eq_true rfl⟩ rfl [] rfl rfl rfl (ws' := []) rfl (st := []) rfl (Nat.le_of_ble_eq_true rfl) rd_JStr_charAt_12 ?_ ⟨Nat.le_refl _, Nat.le_refl _⟩
  exact jk_nret C rfl (jk_byte (jk_chr hq h0 h1)).2.2 rfl rd_JStr_charAt_15 rfl
end JS3
section JS4
variable {p : Program} {l : Launch} {e : Env} {R : Room} {s : State} {m : MethodId} {args : Array Value} {below : List Frame} {meth : Method} {c : Code} {cells slots : Nat} {Q : State → Prop} {D : va_G} {cl : List vw_C} {A : Nat → Prop} {nL : Nat} {ws : va_W} {lv : List (Nat × Value)} {pc : Nat} {st : List Value}
variable {cc : ByteArray} {own : String} {tys : List (ClassId × FieldType)} {ret : Option FieldType} {Z : (Nat → Prop) → State → Heap → Prop} {sq : Nat → Nat} {q index : Nat} {w : List Int}
theorem jk_slen (C : jk_C p s m args meth c cc own nL jk_WA D cl tys A ret) (hZ : jk_ZK Z sq) (hz : Z A s s.heap) (hq : jk_St Z q w) (hdg : decode cc pc = .ok (.invokevirtual index, 3)) (hlink : Cond.methodLink own index mn_JStr_length ∈ jk_WA) (hR : 2 ≤ R.frames ∧ 40 ≤ R.locals) (hW : (st.map fun v => v.category).sum ≤ 8) (hcs : cells + 0 ≤ R.cells ∧ slots + 0 ≤ R.slots)
    (kk : jk_J p l e R s m args below meth c cells slots Q D cl A nL ws lv (pc + 3) (jk_V (w.length : Int) :: st)) : jk_J p l e R s m args below meth c cells slots Q D cl A nL ws lv pc (.ref q :: st) := by
  obtain ⟨v, hv0⟩ := hq.2
  exact jk_callOi C hZ.1 hz (ct_JStr_length hZ hq) (hv0 _ _ _ hz).1 hlink W_iln W_sln W_iniS W_cln na_JStr_length ⟨hR.1, hR.2⟩ rfl (st := st) rfl hW hdg kk hcs
theorem jk_sch (C : jk_C p s m args meth c cc own nL jk_WA D cl tys A ret) {α : Type} {i : Int} {x : Option α} {o : α} (hZ : jk_ZK Z sq) (hz : Z A s s.heap) (hq : jk_St Z q w) (hdg : decode cc pc = .ok (.invokevirtual index, 3)) (hlink : Cond.methodLink own index mn_JStr_charAt ∈ jk_WA) (hR : 4 ≤ R.frames ∧ 85 ≤ R.locals) (hW : (st.map fun v => v.category).sum ≤ 8) (hcs : cells + 0 ≤ R.cells ∧ slots + 0 ≤ R.slots) (hf : jk_ix (w.length : Int) i x = some o)
    (kk : x = some o → jk_J p l e R s m args below meth c cells slots Q D cl A nL ws lv (pc + 3) (jk_V (w.getD i.toNat 0) :: st)) : jk_J p l e R s m args below meth c cells slots Q D cl A nL ws lv pc (jk_V i :: .ref q :: st) := by
  obtain ⟨v, hv0⟩ := hq.2
  obtain ⟨h1, h2⟩ := jk_ix_h hf
  exact jk_callOi C hZ.1 hz (ct_JStr_charAt hZ hq h1.1 h1.2) (hv0 _ _ _ hz).1 hlink W_ich W_sch W_iniS W_cch na_JStr_charAt ⟨hR.1, hR.2⟩ rfl (st := st) rfl hW hdg (kk h2) hcs
end JS4
