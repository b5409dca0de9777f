/-! the reference's two fractions -/
def mn_Md_averageValue : MethodName := ⟨"KnotReaderModel", "averageValue", "()D"⟩
abbrev mb_Md_averageValue : ByteArray := prog_13_method_126_code
theorem rd_Md_averageValue_0 : decode mb_Md_averageValue 0 = .ok (.aload_n 0, 1) := by decide +kernel
theorem rd_Md_averageValue_1 : decode mb_Md_averageValue 1 = .ok (.iconst 0, 1) := by decide +kernel
theorem rd_Md_averageValue_2 : decode mb_Md_averageValue 2 = .ok (.putfield 56, 3) := by decide +kernel
theorem rd_Md_averageValue_5 : decode mb_Md_averageValue 5 = .ok (.iconst 0, 1) := by decide +kernel
theorem rd_Md_averageValue_6 : decode mb_Md_averageValue 6 = .ok (.istore_n 1, 1) := by decide +kernel
theorem rd_Md_averageValue_7 : decode mb_Md_averageValue 7 = .ok (.iconst 0, 1) := by decide +kernel
theorem rd_Md_averageValue_8 : decode mb_Md_averageValue 8 = .ok (.istore_n 2, 1) := by decide +kernel
theorem rd_Md_averageValue_9 : decode mb_Md_averageValue 9 = .ok (.iload_n 2, 1) := by decide +kernel
theorem rd_Md_averageValue_10 : decode mb_Md_averageValue 10 = .ok (.aload_n 0, 1) := by decide +kernel
theorem rd_Md_averageValue_11 : decode mb_Md_averageValue 11 = .ok (.getfield 7, 3) := by decide +kernel
theorem rd_Md_averageValue_14 : decode mb_Md_averageValue 14 = .ok (.iconst 2, 1) := by decide +kernel
theorem rd_Md_averageValue_15 : decode mb_Md_averageValue 15 = .ok (.iaload, 1) := by decide +kernel
theorem rd_Md_averageValue_16 : decode mb_Md_averageValue 16 = .ok (.if_icmp .ge 18, 3) := by decide +kernel
theorem rd_Md_averageValue_19 : decode mb_Md_averageValue 19 = .ok (.iload_n 1, 1) := by decide +kernel
theorem rd_Md_averageValue_20 : decode mb_Md_averageValue 20 = .ok (.aload_n 0, 1) := by decide +kernel
theorem rd_Md_averageValue_21 : decode mb_Md_averageValue 21 = .ok (.iload_n 2, 1) := by decide +kernel
theorem rd_Md_averageValue_22 : decode mb_Md_averageValue 22 = .ok (.iconst 3, 1) := by decide +kernel
theorem rd_Md_averageValue_23 : decode mb_Md_averageValue 23 = .ok (.invokevirtual 63, 3) := by decide +kernel
theorem rd_Md_averageValue_26 : decode mb_Md_averageValue 26 = .ok (.iadd, 1) := by decide +kernel
theorem rd_Md_averageValue_27 : decode mb_Md_averageValue 27 = .ok (.istore_n 1, 1) := by decide +kernel
theorem rd_Md_averageValue_28 : decode mb_Md_averageValue 28 = .ok (.iinc 2 1, 3) := by decide +kernel
theorem rd_Md_averageValue_31 : decode mb_Md_averageValue 31 = .ok (.goto (-22), 3) := by decide +kernel
theorem rd_Md_averageValue_34 : decode mb_Md_averageValue 34 = .ok (.aload_n 0, 1) := by decide +kernel
theorem rd_Md_averageValue_35 : decode mb_Md_averageValue 35 = .ok (.getfield 7, 3) := by decide +kernel
theorem rd_Md_averageValue_38 : decode mb_Md_averageValue 38 = .ok (.iconst 2, 1) := by decide +kernel
theorem rd_Md_averageValue_39 : decode mb_Md_averageValue 39 = .ok (.iaload, 1) := by decide +kernel
theorem rd_Md_averageValue_40 : decode mb_Md_averageValue 40 = .ok (.ifCond .ne 7, 3) := by decide +kernel
theorem rd_Md_averageValue_43 : decode mb_Md_averageValue 43 = .ok (.dconst 0, 1) := by decide +kernel
theorem rd_Md_averageValue_44 : decode mb_Md_averageValue 44 = .ok (.goto 13, 3) := by decide +kernel
theorem rd_Md_averageValue_47 : decode mb_Md_averageValue 47 = .ok (.iload_n 1, 1) := by decide +kernel
theorem rd_Md_averageValue_48 : decode mb_Md_averageValue 48 = .ok (.i2d, 1) := by decide +kernel
theorem rd_Md_averageValue_49 : decode mb_Md_averageValue 49 = .ok (.aload_n 0, 1) := by decide +kernel
theorem rd_Md_averageValue_50 : decode mb_Md_averageValue 50 = .ok (.getfield 7, 3) := by decide +kernel
theorem rd_Md_averageValue_53 : decode mb_Md_averageValue 53 = .ok (.iconst 2, 1) := by decide +kernel
theorem rd_Md_averageValue_54 : decode mb_Md_averageValue 54 = .ok (.iaload, 1) := by decide +kernel
theorem rd_Md_averageValue_55 : decode mb_Md_averageValue 55 = .ok (.i2d, 1) := by decide +kernel
theorem rd_Md_averageValue_56 : decode mb_Md_averageValue 56 = .ok (.ddiv, 1) := by decide +kernel
theorem rd_Md_averageValue_57 : decode mb_Md_averageValue 57 = .ok (.dreturn, 1) := by decide +kernel
def fn_Md_average_b9 : Nat → (Int → Int) → Int → Int → Option Int
  | 0, _, _, _ => none
  | n + 1, i_t_w, v1, v2 => jk_ix 259 2 (jk_lts v2 (i_t_w 2) ((fn_Md_of i_t_w v2 3).bind fun q18 => fn_Md_average_b9 n i_t_w (v1 + q18) (v2 + 1)) (some v1))
set_option maxHeartbeats 4000000 in
set_option maxRecDepth 20000 in
theorem lp_Md_averageValue (l : Launch) (D : va_G) (Z : (Nat → Prop) → State → Heap → Prop) (sq : Nat → Nat) (hZ : jk_ZK Z sq) (cI cR : ClassId) (a_t a_t_w a_t_wKept a_t_saved a_t_past a_t_input a_t_n a_t_order a_t_numbers a_t_output : Nat) (i_t_pastMany i_t_isSaved : Int) (i_t_thrown : Int) (i_t_inputMany i_t_lastError i_t_lastOffset i_t_error i_t_offset i_t_nextByte i_t_begin i_t_value i_t_token i_t_got i_t_orders i_t_outputMany : Int) (i_t_w : (Int → Int)) (q : Int) {p : Program} {e : Env} {s : State} {m : MethodId} {args : Array Value} {below : List Frame} {meth : Method} {c : Code} {Q : State → Prop} {AA : Nat → Prop} {ret : Option FieldType}
    (C : jk_C p s m args meth c mb_Md_averageValue "KnotReaderModel" 3 jk_WA D jk_cl (jk_ty cI cR) AA ret) (hz : Z AA s s.heap) (kk : ∀ v2, jk_J p l e (jk_rm 3 65) s m args below meth c 0 0 Q D jk_cl AA 3 (wd_Md_cordsWith cI a_t a_t_w a_t_wKept a_t_saved a_t_past a_t_input a_t_n a_t_order a_t_numbers a_t_output i_t_pastMany i_t_isSaved i_t_thrown i_t_inputMany i_t_lastError i_t_lastOffset i_t_error i_t_offset i_t_nextByte i_t_begin i_t_value i_t_token i_t_got i_t_orders i_t_outputMany i_t_w) [(0, .ref a_t), (1, jk_V q), (2, jk_V v2)] 34 []) : ∀ (n : Nat) (v1 v2 : Int), fn_Md_average_b9 n i_t_w v1 v2 = some q → jk_J p l e (jk_rm 3 65) s m args below meth c 0 0 Q D jk_cl AA 3 (wd_Md_cordsWith cI a_t a_t_w a_t_wKept a_t_saved a_t_past a_t_input a_t_n a_t_order a_t_numbers a_t_output i_t_pastMany i_t_isSaved i_t_thrown i_t_inputMany i_t_lastError i_t_lastOffset i_t_error i_t_offset i_t_nextByte i_t_begin i_t_value i_t_token i_t_got i_t_orders i_t_outputMany i_t_w) [(0, .ref a_t), (1, jk_V v1), (2, jk_V v2)] 9 [] := by
  intro n
  induction n with
  | zero => intro v1 v2 hf; exact nomatch (show none = some q from hf)
  | succ n ih =>
    intro v1 v2 hf
    rw [fn_Md_average_b9] at hf
    refine jk_iload_n C rd_Md_averageValue_9 (k := 2) rfl ?_
    refine jk_aload_n C rd_Md_averageValue_10 (k := 0) rfl ?_
    refine jk_get C in_Md (ci := 11) rfl 0 (by decide) tm_1263 0 rfl rfl rd_Md_averageValue_11 ?_
    refine jk_iconst C rd_Md_averageValue_14 ?_
    refine jk_iald C 1 0 rfl rfl (Nat.le_of_ble_eq_true rfl) rd_Md_averageValue_15 hf (fun hf => ?_)
    refine jk_icmp_ge (tgt := 34) C rd_Md_averageValue_16 (by decide) hf (fun _ hf => ?_) (fun _ hf => ?_)
    · cases hf
      exact kk v2
    · refine jk_iload_n C rd_Md_averageValue_19 (k := 1) rfl ?_
      refine jk_aload_n C rd_Md_averageValue_20 (k := 0) rfl ?_
      refine jk_iload_n C rd_Md_averageValue_21 (k := 2) rfl ?_
      refine jk_iconst C rd_Md_averageValue_22 ?_
      obtain ⟨q18, hq18, hf⟩ := jk_bind_h hf
      refine jk_callVi C hZ.1 hz (ct_Md_of l D Z sq hZ cI cR a_t a_t_w a_t_wKept a_t_saved a_t_past a_t_input a_t_n a_t_order a_t_numbers a_t_output i_t_pastMany i_t_isSaved i_t_thrown i_t_inputMany i_t_lastError i_t_lastOffset i_t_error i_t_offset i_t_nextByte i_t_begin i_t_value i_t_token i_t_got i_t_orders i_t_outputMany i_t_w v2 3 q18 hq18) tm_1256 tm_1258 sl_26 tm_15 tm_1259 na_Md_of ⟨Nat.le_of_ble_eq_true rfl, Nat.le_of_ble_eq_true rfl⟩ rfl [0, 1] rfl rfl rfl (ws' := wd_Md_cordsWith cI a_t a_t_w a_t_wKept a_t_saved a_t_past a_t_input a_t_n a_t_order a_t_numbers a_t_output i_t_pastMany i_t_isSaved i_t_thrown i_t_inputMany i_t_lastError i_t_lastOffset i_t_error i_t_offset i_t_nextByte i_t_begin i_t_value i_t_token i_t_got i_t_orders i_t_outputMany i_t_w) rfl 0 11 rfl rfl rfl (st := [jk_V v1]) rfl (Nat.le_of_ble_eq_true rfl) rd_Md_averageValue_23 ?_ ⟨Nat.le_of_ble_eq_true rfl, Nat.le_of_ble_eq_true rfl⟩
      refine jk_iadd C rd_Md_averageValue_26 ?_
      refine jk_istore_n C rd_Md_averageValue_27 (by decide) (lv' := [(1, jk_V (v1 + q18)), (0, .ref a_t), (2, jk_V v2)]) rfl ?_
      refine jk_iinc C rd_Md_averageValue_28 (k := 2) rfl (by decide) (lv' := [(2, jk_V (v2 + 1)), (1, jk_V (v1 + q18)), (0, .ref a_t)]) rfl ?_
      refine jk_goto (tgt := 9) C rd_Md_averageValue_31 (by decide) ?_
      refine jk_lv (lv' := [(0, .ref a_t), (1, jk_V (v1 + q18)), (2, jk_V (v2 + 1))]) [2, 1, 0] rfl ?_
      exact ih (v1 + q18) (v2 + 1) hf
set_option maxHeartbeats 4000000 in
set_option maxRecDepth 20000 in
theorem ct_Md_averageValue {cs : List Choice} (hn : nanBits ∈ cs) (l : Launch) (D : va_G) (Z : (Nat → Prop) → State → Heap → Prop) (sq : Nat → Nat) (hZ : jk_ZK Z sq) (cI cR : ClassId) (a_t a_t_w a_t_wKept a_t_saved a_t_past a_t_input a_t_n a_t_order a_t_numbers a_t_output : Nat) (i_t_pastMany i_t_isSaved : Int) (i_t_thrown : Int) (i_t_inputMany i_t_lastError i_t_lastOffset i_t_error i_t_offset i_t_nextByte i_t_begin i_t_value i_t_token i_t_got i_t_orders i_t_outputMany : Int) (i_t_w : (Int → Int)) (hw2 : 0 ≤ i_t_w 2 ∧ i_t_w 2 ≤ 40) (q : Int) (hf : fn_Md_average_b9 jk_F i_t_w 0 0 = some q) : jk_MD cs l D jk_cl (jk_ty cI cR) Z mn_Md_averageValue (.code mn_Md_averageValue mb_Md_averageValue 3 (some .double) :: jk_WA) (jk_rm 3 65) [.ref a_t] (wd_Md_cordsWith cI a_t a_t_w a_t_wKept a_t_saved a_t_past a_t_input a_t_n a_t_order a_t_numbers a_t_output i_t_pastMany i_t_isSaved i_t_thrown i_t_inputMany i_t_lastError i_t_lastOffset i_t_error i_t_offset i_t_nextByte i_t_begin i_t_value i_t_token i_t_got i_t_orders i_t_outputMany i_t_w) (wd_Md_cordsWith cI a_t a_t_w a_t_wKept a_t_saved a_t_past a_t_input a_t_n a_t_order a_t_numbers a_t_output i_t_pastMany i_t_isSaved 0 i_t_inputMany i_t_lastError i_t_lastOffset i_t_error i_t_offset i_t_nextByte i_t_begin i_t_value i_t_token i_t_got i_t_orders i_t_outputMany i_t_w) (if i_t_w 2 = 0 then FP.dconst0 else FP.ddiv (FP.i2d (jk_I q)) (FP.i2d (jk_I (i_t_w 2)))) := by
  intro sz
  refine jk_bodyD (by decide +kernel) hZ.1 (fun p e s m args below meth c d0 hsz2 hd0 hz C => ?_) (Nat.le_of_ble_eq_true rfl)
  subst hsz2
  have hne : jk_eqs (i_t_w 2) 0 (some (0 : Int)) (some 0) = some 0 := by
    by_cases x : i_t_w 2 = 0
    · exact zk_eq (by omega) (by omega) x
    · exact zk_ne (by omega) (by omega) (by omega) (by omega) x
  have hix : jk_ix 259 2 (some (0 : Int)) = some 0 := zk_ix (by omega) (by omega)
  refine jk_aload_n C rd_Md_averageValue_0 (k := 0) rfl ?_
  refine jk_iconst C rd_Md_averageValue_1 ?_
  refine jk_putf C in_Md ty_Md nm_Md (ci := 11) rfl 6 (by decide) tm_1269 rfl rfl rfl 0 rfl (Nat.le_of_ble_eq_true rfl) rd_Md_averageValue_2 (ws' := wd_Md_cordsWith cI a_t a_t_w a_t_wKept a_t_saved a_t_past a_t_input a_t_n a_t_order a_t_numbers a_t_output i_t_pastMany i_t_isSaved 0 i_t_inputMany i_t_lastError i_t_lastOffset i_t_error i_t_offset i_t_nextByte i_t_begin i_t_value i_t_token i_t_got i_t_orders i_t_outputMany i_t_w) rfl ?_
  refine jk_iconst C rd_Md_averageValue_5 ?_
  refine jk_istore_n C rd_Md_averageValue_6 (by decide) (lv' := [(1, jk_V 0), (0, .ref a_t)]) rfl ?_
  refine jk_iconst C rd_Md_averageValue_7 ?_
  refine jk_istore_n C rd_Md_averageValue_8 (by decide) (lv' := [(2, jk_V 0), (1, jk_V 0), (0, .ref a_t)]) rfl ?_
  refine jk_lv (lv' := [(0, .ref a_t), (1, jk_V 0), (2, jk_V 0)]) [2, 1, 0] rfl ?_
  refine lp_Md_averageValue l D Z sq hZ cI cR a_t a_t_w a_t_wKept a_t_saved a_t_past a_t_input a_t_n a_t_order a_t_numbers a_t_output i_t_pastMany i_t_isSaved 0 i_t_inputMany i_t_lastError i_t_lastOffset i_t_error i_t_offset i_t_nextByte i_t_begin i_t_value i_t_token i_t_got i_t_orders i_t_outputMany i_t_w q C hz (fun v2 => ?_) jk_F 0 0 hf
  refine jk_aload_n C rd_Md_averageValue_34 (k := 0) rfl ?_
  refine jk_get C in_Md (ci := 11) rfl 0 (by decide) tm_1263 0 rfl rfl rd_Md_averageValue_35 ?_
  refine jk_iconst C rd_Md_averageValue_38 ?_
  refine jk_iald C 1 0 rfl rfl (Nat.le_of_ble_eq_true rfl) rd_Md_averageValue_39 hix (fun _ => ?_)
  refine jk_if_ne C (tgt := 47) rd_Md_averageValue_40 (by decide) hne (fun h _ => ?_) (fun h _ => ?_)
  · rw [if_neg h]
    refine jk_iload_n C rd_Md_averageValue_47 (k := 1) rfl ?_
    refine jk_i2d C rd_Md_averageValue_48 ?_
    refine jk_aload_n C rd_Md_averageValue_49 (k := 0) rfl ?_
    refine jk_get C in_Md (ci := 11) rfl 0 (by decide) tm_1263 0 rfl rfl rd_Md_averageValue_50 ?_
    refine jk_iconst C rd_Md_averageValue_53 ?_
    refine jk_iald C 1 0 rfl rfl (Nat.le_of_ble_eq_true rfl) rd_Md_averageValue_54 hix (fun _ => ?_)
    refine jk_i2d C rd_Md_averageValue_55 ?_
    refine jk_ddiv hd0 hn C rd_Md_averageValue_56 (fun r d1 hal hd1 C1 => ?_)
    exact jk_dret hd1 C1 hal rfl rd_Md_averageValue_57 rfl
  · rw [if_pos h]
    refine jk_dconst0 C rd_Md_averageValue_43 ?_
    refine jk_goto (tgt := 57) C rd_Md_averageValue_44 (by decide) ?_
    exact jk_dret hd0 C (jk_al64 _) rfl rd_Md_averageValue_57 rfl
def mn_Md_nibbledPart : MethodName := ⟨"KnotReaderModel", "nibbledPart", "()F"⟩
abbrev mb_Md_nibbledPart : ByteArray := prog_13_method_127_code
theorem rd_Md_nibbledPart_0 : decode mb_Md_nibbledPart 0 = .ok (.aload_n 0, 1) := by decide +kernel
theorem rd_Md_nibbledPart_1 : decode mb_Md_nibbledPart 1 = .ok (.iconst 0, 1) := by decide +kernel
theorem rd_Md_nibbledPart_2 : decode mb_Md_nibbledPart 2 = .ok (.putfield 56, 3) := by decide +kernel
theorem rd_Md_nibbledPart_5 : decode mb_Md_nibbledPart 5 = .ok (.aload_n 0, 1) := by decide +kernel
theorem rd_Md_nibbledPart_6 : decode mb_Md_nibbledPart 6 = .ok (.getfield 7, 3) := by decide +kernel
theorem rd_Md_nibbledPart_9 : decode mb_Md_nibbledPart 9 = .ok (.iconst 2, 1) := by decide +kernel
theorem rd_Md_nibbledPart_10 : decode mb_Md_nibbledPart 10 = .ok (.iaload, 1) := by decide +kernel
theorem rd_Md_nibbledPart_11 : decode mb_Md_nibbledPart 11 = .ok (.ifCond .ne 7, 3) := by decide +kernel
theorem rd_Md_nibbledPart_14 : decode mb_Md_nibbledPart 14 = .ok (.fconst 0, 1) := by decide +kernel
theorem rd_Md_nibbledPart_15 : decode mb_Md_nibbledPart 15 = .ok (.goto 16, 3) := by decide +kernel
theorem rd_Md_nibbledPart_18 : decode mb_Md_nibbledPart 18 = .ok (.aload_n 0, 1) := by decide +kernel
theorem rd_Md_nibbledPart_19 : decode mb_Md_nibbledPart 19 = .ok (.invokevirtual 370, 3) := by decide +kernel
theorem rd_Md_nibbledPart_22 : decode mb_Md_nibbledPart 22 = .ok (.i2f, 1) := by decide +kernel
theorem rd_Md_nibbledPart_23 : decode mb_Md_nibbledPart 23 = .ok (.aload_n 0, 1) := by decide +kernel
theorem rd_Md_nibbledPart_24 : decode mb_Md_nibbledPart 24 = .ok (.getfield 7, 3) := by decide +kernel
theorem rd_Md_nibbledPart_27 : decode mb_Md_nibbledPart 27 = .ok (.iconst 2, 1) := by decide +kernel
theorem rd_Md_nibbledPart_28 : decode mb_Md_nibbledPart 28 = .ok (.iaload, 1) := by decide +kernel
theorem rd_Md_nibbledPart_29 : decode mb_Md_nibbledPart 29 = .ok (.i2f, 1) := by decide +kernel
theorem rd_Md_nibbledPart_30 : decode mb_Md_nibbledPart 30 = .ok (.fdiv, 1) := by decide +kernel
theorem rd_Md_nibbledPart_31 : decode mb_Md_nibbledPart 31 = .ok (.freturn, 1) := by decide +kernel
set_option maxHeartbeats 4000000 in
set_option maxRecDepth 20000 in
theorem ct_Md_nibbledPart {cs : List Choice} (hn : nanBits ∈ cs) (l : Launch) (D : va_G) (Z : (Nat → Prop) → State → Heap → Prop) (sq : Nat → Nat) (hZ : jk_ZK Z sq) (cI cR : ClassId) (a_t a_t_w a_t_wKept a_t_saved a_t_past a_t_input a_t_n a_t_order a_t_numbers a_t_output : Nat) (i_t_pastMany i_t_isSaved : Int) (i_t_thrown : Int) (i_t_inputMany i_t_lastError i_t_lastOffset i_t_error i_t_offset i_t_nextByte i_t_begin i_t_value i_t_token i_t_got i_t_orders i_t_outputMany : Int) (i_t_w : (Int → Int)) (hw2 : 0 ≤ i_t_w 2 ∧ i_t_w 2 ≤ 40) (q : Int) (hf : fn_Md_nibbled i_t_w = some q) : jk_MF cs l D jk_cl (jk_ty cI cR) Z mn_Md_nibbledPart (.code mn_Md_nibbledPart mb_Md_nibbledPart 1 (some .float) :: jk_WA) (jk_rm 3 65) [.ref a_t] (wd_Md_cordsWith cI a_t a_t_w a_t_wKept a_t_saved a_t_past a_t_input a_t_n a_t_order a_t_numbers a_t_output i_t_pastMany i_t_isSaved i_t_thrown i_t_inputMany i_t_lastError i_t_lastOffset i_t_error i_t_offset i_t_nextByte i_t_begin i_t_value i_t_token i_t_got i_t_orders i_t_outputMany i_t_w) (wd_Md_cordsWith cI a_t a_t_w a_t_wKept a_t_saved a_t_past a_t_input a_t_n a_t_order a_t_numbers a_t_output i_t_pastMany i_t_isSaved 0 i_t_inputMany i_t_lastError i_t_lastOffset i_t_error i_t_offset i_t_nextByte i_t_begin i_t_value i_t_token i_t_got i_t_orders i_t_outputMany i_t_w) (if i_t_w 2 = 0 then FP.fconst0 else FP.fdiv (FP.i2f (jk_I q)) (FP.i2f (jk_I (i_t_w 2)))) := by
  intro sz
  refine jk_bodyD (by decide +kernel) hZ.1 (fun p e s m args below meth c d0 hsz2 hd0 hz C => ?_) (Nat.le_of_ble_eq_true rfl)
  subst hsz2
  have hne : jk_eqs (i_t_w 2) 0 (some (0 : Int)) (some 0) = some 0 := by
    by_cases x : i_t_w 2 = 0
    · exact zk_eq (by omega) (by omega) x
    · exact zk_ne (by omega) (by omega) (by omega) (by omega) x
  have hix : jk_ix 259 2 (some (0 : Int)) = some 0 := zk_ix (by omega) (by omega)
  refine jk_aload_n C rd_Md_nibbledPart_0 (k := 0) rfl ?_
  refine jk_iconst C rd_Md_nibbledPart_1 ?_
  refine jk_putf C in_Md ty_Md nm_Md (ci := 11) rfl 6 (by decide) tm_1269 rfl rfl rfl 0 rfl (Nat.le_of_ble_eq_true rfl) rd_Md_nibbledPart_2 (ws' := wd_Md_cordsWith cI a_t a_t_w a_t_wKept a_t_saved a_t_past a_t_input a_t_n a_t_order a_t_numbers a_t_output i_t_pastMany i_t_isSaved 0 i_t_inputMany i_t_lastError i_t_lastOffset i_t_error i_t_offset i_t_nextByte i_t_begin i_t_value i_t_token i_t_got i_t_orders i_t_outputMany i_t_w) rfl ?_
  refine jk_aload_n C rd_Md_nibbledPart_5 (k := 0) rfl ?_
  refine jk_get C in_Md (ci := 11) rfl 0 (by decide) tm_1263 0 rfl rfl rd_Md_nibbledPart_6 ?_
  refine jk_iconst C rd_Md_nibbledPart_9 ?_
  refine jk_iald C 1 0 rfl rfl (Nat.le_of_ble_eq_true rfl) rd_Md_nibbledPart_10 hix (fun _ => ?_)
  refine jk_if_ne C (tgt := 18) rd_Md_nibbledPart_11 (by decide) hne (fun h _ => ?_) (fun h _ => ?_)
  · rw [if_neg h]
    refine jk_aload_n C rd_Md_nibbledPart_18 (k := 0) rfl ?_
    refine jk_callVi C hZ.1 hz (ct_Md_nibbled l D Z sq hZ cI cR a_t a_t_w a_t_wKept a_t_saved a_t_past a_t_input a_t_n a_t_order a_t_numbers a_t_output i_t_pastMany i_t_isSaved 0 i_t_inputMany i_t_lastError i_t_lastOffset i_t_error i_t_offset i_t_nextByte i_t_begin i_t_value i_t_token i_t_got i_t_orders i_t_outputMany i_t_w q hf) tm_1739 tm_1741 sl_94 tm_15 tm_1742 na_Md_nibbled ⟨Nat.le_of_ble_eq_true rfl, Nat.le_of_ble_eq_true rfl⟩ rfl [0, 1] rfl rfl rfl (ws' := wd_Md_cordsWith cI a_t a_t_w a_t_wKept a_t_saved a_t_past a_t_input a_t_n a_t_order a_t_numbers a_t_output i_t_pastMany i_t_isSaved 0 i_t_inputMany i_t_lastError i_t_lastOffset i_t_error i_t_offset i_t_nextByte i_t_begin i_t_value i_t_token i_t_got i_t_orders i_t_outputMany i_t_w) rfl 0 11 rfl rfl rfl (st := []) rfl (Nat.le_of_ble_eq_true rfl) rd_Md_nibbledPart_19 ?_ ⟨Nat.le_of_ble_eq_true rfl, Nat.le_of_ble_eq_true rfl⟩
    refine jk_i2f C rd_Md_nibbledPart_22 ?_
    refine jk_aload_n C rd_Md_nibbledPart_23 (k := 0) rfl ?_
    refine jk_get C in_Md (ci := 11) rfl 0 (by decide) tm_1263 0 rfl rfl rd_Md_nibbledPart_24 ?_
    refine jk_iconst C rd_Md_nibbledPart_27 ?_
    refine jk_iald C 1 0 rfl rfl (Nat.le_of_ble_eq_true rfl) rd_Md_nibbledPart_28 hix (fun _ => ?_)
    refine jk_i2f C rd_Md_nibbledPart_29 ?_
    refine jk_fdiv hd0 hn C rd_Md_nibbledPart_30 (fun r d1 hal hd1 C1 => ?_)
    exact jk_fret hd1 C1 hal rfl rd_Md_nibbledPart_31 rfl
  · rw [if_pos h]
    refine jk_fconst0 C rd_Md_nibbledPart_14 ?_
    refine jk_goto (tgt := 31) C rd_Md_nibbledPart_15 (by decide) ?_
    exact jk_fret hd0 C (jk_al32 _) rfl rd_Md_nibbledPart_31 rfl
