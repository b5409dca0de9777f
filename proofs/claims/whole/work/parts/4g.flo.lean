/-! the component's two fractions -/
def mn_KR_averageValue : MethodName := ⟨"KnotReader", "averageValue", "()D"⟩
abbrev mb_KR_averageValue : ByteArray := prog_1_method_41_code
theorem rd_KR_averageValue_0 : decode mb_KR_averageValue 0 = .ok (.aload_n 0, 1) := by decide +kernel
theorem rd_KR_averageValue_1 : decode mb_KR_averageValue 1 = .ok (.getfield 33, 3) := by decide +kernel
theorem rd_KR_averageValue_4 : decode mb_KR_averageValue 4 = .ok (.getfield 105, 3) := by decide +kernel
theorem rd_KR_averageValue_7 : decode mb_KR_averageValue 7 = .ok (.ifCond .gt 5, 3) := by decide +kernel
theorem rd_KR_averageValue_10 : decode mb_KR_averageValue 10 = .ok (.dconst 0, 1) := by decide +kernel
theorem rd_KR_averageValue_11 : decode mb_KR_averageValue 11 = .ok (.dreturn, 1) := by decide +kernel
theorem rd_KR_averageValue_12 : decode mb_KR_averageValue 12 = .ok (.aload_n 0, 1) := by decide +kernel
theorem rd_KR_averageValue_13 : decode mb_KR_averageValue 13 = .ok (.getfield 33, 3) := by decide +kernel
theorem rd_KR_averageValue_16 : decode mb_KR_averageValue 16 = .ok (.iconst 0, 1) := by decide +kernel
theorem rd_KR_averageValue_17 : decode mb_KR_averageValue 17 = .ok (.aload_n 0, 1) := by decide +kernel
theorem rd_KR_averageValue_18 : decode mb_KR_averageValue 18 = .ok (.getfield 33, 3) := by decide +kernel
theorem rd_KR_averageValue_21 : decode mb_KR_averageValue 21 = .ok (.getfield 105, 3) := by decide +kernel
theorem rd_KR_averageValue_24 : decode mb_KR_averageValue 24 = .ok (.invokevirtual 197, 3) := by decide +kernel
theorem rd_KR_averageValue_27 : decode mb_KR_averageValue 27 = .ok (.i2d, 1) := by decide +kernel
theorem rd_KR_averageValue_28 : decode mb_KR_averageValue 28 = .ok (.aload_n 0, 1) := by decide +kernel
theorem rd_KR_averageValue_29 : decode mb_KR_averageValue 29 = .ok (.getfield 33, 3) := by decide +kernel
theorem rd_KR_averageValue_32 : decode mb_KR_averageValue 32 = .ok (.getfield 105, 3) := by decide +kernel
theorem rd_KR_averageValue_35 : decode mb_KR_averageValue 35 = .ok (.i2d, 1) := by decide +kernel
theorem rd_KR_averageValue_36 : decode mb_KR_averageValue 36 = .ok (.ddiv, 1) := by decide +kernel
theorem rd_KR_averageValue_37 : decode mb_KR_averageValue 37 = .ok (.dreturn, 1) := by decide +kernel
def wd_KR_averageValue (cI : ClassId) (a_t a_t_input a_t_output a_t_topics a_t_cords a_t_draftTopics a_t_draft a_t_saved a_t_history a_t_script a_t_cords_starts a_t_cords_depth a_t_cords_topic a_t_cords_value a_t_cords_nibbled a_t_cords_value_k : Nat) (i_t_hasSaved i_t_reportedCode i_t_reportedOffset i_t_cords_clusters i_t_cords_size : Int) (i_t_cords_value : (Int → Int)) : va_W := [(a_t, .inr (10, [.ref a_t_input, .ref a_t_output, .ref a_t_topics, .ref a_t_cords, .ref a_t_draftTopics, .ref a_t_draft, .ref a_t_saved, .ref a_t_history, .ref a_t_script, jk_V i_t_hasSaved, jk_V i_t_reportedCode, jk_V i_t_reportedOffset])), (a_t_cords, .inr (5, [jk_V i_t_cords_clusters, jk_V i_t_cords_size, .ref a_t_cords_starts, .ref a_t_cords_depth, .ref a_t_cords_topic, .ref a_t_cords_value, .ref a_t_cords_nibbled])), (a_t_cords_value, .inr (0, [.ref a_t_cords_value_k])), (a_t_cords_value_k, jk_W cI 40 i_t_cords_value)]
set_option maxHeartbeats 4000000 in
set_option maxRecDepth 20000 in
theorem ct_KR_averageValue {cs : List Choice} (hn : nanBits ∈ cs) (l : Launch) (D : va_G) (Z : (Nat → Prop) → State → Heap → Prop) (sq : Nat → Nat) (hZ : jk_ZK Z sq) (cI cR : ClassId) (a_t a_t_input a_t_output a_t_topics a_t_cords a_t_draftTopics a_t_draft a_t_saved a_t_history a_t_script a_t_cords_starts a_t_cords_depth a_t_cords_topic a_t_cords_value a_t_cords_nibbled a_t_cords_value_k : Nat) (i_t_hasSaved i_t_reportedCode i_t_reportedOffset i_t_cords_clusters i_t_cords_size : Int) (i_t_cords_value : (Int → Int)) (hsz : 0 ≤ i_t_cords_size ∧ i_t_cords_size ≤ 40) (q : Int) (hf : fn_Cords_lowestSum i_t_cords_value 0 i_t_cords_size = some q) : jk_MD cs l D jk_cl (jk_ty cI cR) Z mn_KR_averageValue (.code mn_KR_averageValue mb_KR_averageValue 1 (some .double) :: jk_WA) (jk_rm 2 45) [.ref a_t] (wd_KR_averageValue cI a_t a_t_input a_t_output a_t_topics a_t_cords a_t_draftTopics a_t_draft a_t_saved a_t_history a_t_script a_t_cords_starts a_t_cords_depth a_t_cords_topic a_t_cords_value a_t_cords_nibbled a_t_cords_value_k i_t_hasSaved i_t_reportedCode i_t_reportedOffset i_t_cords_clusters i_t_cords_size i_t_cords_value) (wd_KR_averageValue cI a_t a_t_input a_t_output a_t_topics a_t_cords a_t_draftTopics a_t_draft a_t_saved a_t_history a_t_script a_t_cords_starts a_t_cords_depth a_t_cords_topic a_t_cords_value a_t_cords_nibbled a_t_cords_value_k i_t_hasSaved i_t_reportedCode i_t_reportedOffset i_t_cords_clusters i_t_cords_size i_t_cords_value) (if 0 < i_t_cords_size then FP.ddiv (FP.i2d (jk_I q)) (FP.i2d (jk_I i_t_cords_size)) else FP.dconst0) := by
  intro sz
  refine jk_bodyD (by decide +kernel) hZ.1 (fun p e s m args below meth c d0 hsz2 hd0 hz C => ?_) (Nat.le_of_ble_eq_true rfl)
  subst hsz2
  have hlt : jk_lts 0 i_t_cords_size (some (0 : Int)) (some 0) = some 0 := by
    by_cases x : 0 < i_t_cords_size
    · exact zk_lt (by omega) (by omega) (by omega) (by omega) x
    · exact zk_nl (by omega) (by omega) (by omega) (by omega) (by omega)
  refine jk_aload_n C rd_KR_averageValue_0 (k := 0) rfl ?_
  refine jk_get C in_KR (ci := 10) rfl 3 (by decide) tm_427 0 rfl rfl rd_KR_averageValue_1 ?_
  refine jk_getN C in_Cords (ci := 5) rfl 1 (by decide) (jk_nw hZ hz tn_15) 1 rfl rfl rd_KR_averageValue_4 ?_
  refine jk_if_gt C (tgt := 12) rd_KR_averageValue_7 (by decide) hlt (fun h _ => ?_) (fun h _ => ?_)
  · rw [if_pos h]
    refine jk_aload_n C rd_KR_averageValue_12 (k := 0) rfl ?_
    refine jk_get C in_KR (ci := 10) rfl 3 (by decide) tm_427 0 rfl rfl rd_KR_averageValue_13 ?_
    refine jk_iconst C rd_KR_averageValue_16 ?_
    refine jk_aload_n C rd_KR_averageValue_17 (k := 0) rfl ?_
    refine jk_get C in_KR (ci := 10) rfl 3 (by decide) tm_427 0 rfl rfl rd_KR_averageValue_18 ?_
    refine jk_getN C in_Cords (ci := 5) rfl 1 (by decide) (jk_nw hZ hz tn_15) 1 rfl rfl rd_KR_averageValue_21 ?_
    refine jk_callVi C hZ.1 hz (ct_Cords_lowestSum l D Z sq hZ cI cR a_t_cords a_t_cords_starts a_t_cords_depth a_t_cords_topic a_t_cords_value a_t_cords_nibbled a_t_cords_value_k i_t_cords_clusters i_t_cords_size i_t_cords_value 0 i_t_cords_size q hf) tm_729 tm_601 tm_602 tm_6 tm_603 na_Cords_lowestSum ⟨Nat.le_of_ble_eq_true rfl, Nat.le_of_ble_eq_true rfl⟩ rfl [1, 2, 3] rfl rfl rfl (ws' := wd_KR_averageValue cI a_t a_t_input a_t_output a_t_topics a_t_cords a_t_draftTopics a_t_draft a_t_saved a_t_history a_t_script a_t_cords_starts a_t_cords_depth a_t_cords_topic a_t_cords_value a_t_cords_nibbled a_t_cords_value_k i_t_hasSaved i_t_reportedCode i_t_reportedOffset i_t_cords_clusters i_t_cords_size i_t_cords_value) rfl 1 5 rfl rfl rfl (st := []) rfl (Nat.le_of_ble_eq_true rfl) rd_KR_averageValue_24 ?_ ⟨Nat.le_of_ble_eq_true rfl, Nat.le_of_ble_eq_true rfl⟩
    refine jk_i2d C rd_KR_averageValue_27 ?_
    refine jk_aload_n C rd_KR_averageValue_28 (k := 0) rfl ?_
    refine jk_get C in_KR (ci := 10) rfl 3 (by decide) tm_427 0 rfl rfl rd_KR_averageValue_29 ?_
    refine jk_getN C in_Cords (ci := 5) rfl 1 (by decide) (jk_nw hZ hz tn_15) 1 rfl rfl rd_KR_averageValue_32 ?_
    refine jk_i2d C rd_KR_averageValue_35 ?_
    refine jk_ddiv hd0 hn C rd_KR_averageValue_36 (fun r d1 hal hd1 C1 => ?_)
    exact jk_dret hd1 C1 hal rfl rd_KR_averageValue_37 rfl
  · rw [if_neg h]
    refine jk_dconst0 C rd_KR_averageValue_10 ?_
    exact jk_dret hd0 C (jk_al64 _) rfl rd_KR_averageValue_11 rfl
def mn_KR_nibbledPart : MethodName := ⟨"KnotReader", "nibbledPart", "()F"⟩
abbrev mb_KR_nibbledPart : ByteArray := prog_1_method_42_code
theorem rd_KR_nibbledPart_0 : decode mb_KR_nibbledPart 0 = .ok (.aload_n 0, 1) := by decide +kernel
theorem rd_KR_nibbledPart_1 : decode mb_KR_nibbledPart 1 = .ok (.getfield 33, 3) := by decide +kernel
theorem rd_KR_nibbledPart_4 : decode mb_KR_nibbledPart 4 = .ok (.getfield 105, 3) := by decide +kernel
theorem rd_KR_nibbledPart_7 : decode mb_KR_nibbledPart 7 = .ok (.ifCond .gt 5, 3) := by decide +kernel
theorem rd_KR_nibbledPart_10 : decode mb_KR_nibbledPart 10 = .ok (.fconst 0, 1) := by decide +kernel
theorem rd_KR_nibbledPart_11 : decode mb_KR_nibbledPart 11 = .ok (.freturn, 1) := by decide +kernel
theorem rd_KR_nibbledPart_12 : decode mb_KR_nibbledPart 12 = .ok (.aload_n 0, 1) := by decide +kernel
theorem rd_KR_nibbledPart_13 : decode mb_KR_nibbledPart 13 = .ok (.getfield 33, 3) := by decide +kernel
theorem rd_KR_nibbledPart_16 : decode mb_KR_nibbledPart 16 = .ok (.iconst 0, 1) := by decide +kernel
theorem rd_KR_nibbledPart_17 : decode mb_KR_nibbledPart 17 = .ok (.aload_n 0, 1) := by decide +kernel
theorem rd_KR_nibbledPart_18 : decode mb_KR_nibbledPart 18 = .ok (.getfield 33, 3) := by decide +kernel
theorem rd_KR_nibbledPart_21 : decode mb_KR_nibbledPart 21 = .ok (.getfield 105, 3) := by decide +kernel
theorem rd_KR_nibbledPart_24 : decode mb_KR_nibbledPart 24 = .ok (.invokevirtual 159, 3) := by decide +kernel
theorem rd_KR_nibbledPart_27 : decode mb_KR_nibbledPart 27 = .ok (.i2f, 1) := by decide +kernel
theorem rd_KR_nibbledPart_28 : decode mb_KR_nibbledPart 28 = .ok (.aload_n 0, 1) := by decide +kernel
theorem rd_KR_nibbledPart_29 : decode mb_KR_nibbledPart 29 = .ok (.getfield 33, 3) := by decide +kernel
theorem rd_KR_nibbledPart_32 : decode mb_KR_nibbledPart 32 = .ok (.getfield 105, 3) := by decide +kernel
theorem rd_KR_nibbledPart_35 : decode mb_KR_nibbledPart 35 = .ok (.i2f, 1) := by decide +kernel
theorem rd_KR_nibbledPart_36 : decode mb_KR_nibbledPart 36 = .ok (.fdiv, 1) := by decide +kernel
theorem rd_KR_nibbledPart_37 : decode mb_KR_nibbledPart 37 = .ok (.freturn, 1) := by decide +kernel
def wd_KR_nibbledPart (cI : ClassId) (a_t a_t_input a_t_output a_t_topics a_t_cords a_t_draftTopics a_t_draft a_t_saved a_t_history a_t_script a_t_cords_starts a_t_cords_depth a_t_cords_topic a_t_cords_value a_t_cords_nibbled a_t_cords_nibbled_k : Nat) (i_t_hasSaved i_t_reportedCode i_t_reportedOffset i_t_cords_clusters i_t_cords_size : Int) (i_t_cords_nibbled : (Int → Int)) : va_W := [(a_t, .inr (10, [.ref a_t_input, .ref a_t_output, .ref a_t_topics, .ref a_t_cords, .ref a_t_draftTopics, .ref a_t_draft, .ref a_t_saved, .ref a_t_history, .ref a_t_script, jk_V i_t_hasSaved, jk_V i_t_reportedCode, jk_V i_t_reportedOffset])), (a_t_cords, .inr (5, [jk_V i_t_cords_clusters, jk_V i_t_cords_size, .ref a_t_cords_starts, .ref a_t_cords_depth, .ref a_t_cords_topic, .ref a_t_cords_value, .ref a_t_cords_nibbled])), (a_t_cords_nibbled, .inr (0, [.ref a_t_cords_nibbled_k])), (a_t_cords_nibbled_k, jk_W cI 40 i_t_cords_nibbled)]
set_option maxHeartbeats 4000000 in
set_option maxRecDepth 20000 in
theorem ct_KR_nibbledPart {cs : List Choice} (hn : nanBits ∈ cs) (l : Launch) (D : va_G) (Z : (Nat → Prop) → State → Heap → Prop) (sq : Nat → Nat) (hZ : jk_ZK Z sq) (cI cR : ClassId) (a_t a_t_input a_t_output a_t_topics a_t_cords a_t_draftTopics a_t_draft a_t_saved a_t_history a_t_script a_t_cords_starts a_t_cords_depth a_t_cords_topic a_t_cords_value a_t_cords_nibbled a_t_cords_nibbled_k : Nat) (i_t_hasSaved i_t_reportedCode i_t_reportedOffset i_t_cords_clusters i_t_cords_size : Int) (i_t_cords_nibbled : (Int → Int)) (hsz : 0 ≤ i_t_cords_size ∧ i_t_cords_size ≤ 40) (q : Int) (hf : fn_Cords_nibbledAmong i_t_cords_nibbled 0 i_t_cords_size = some q) : jk_MF cs l D jk_cl (jk_ty cI cR) Z mn_KR_nibbledPart (.code mn_KR_nibbledPart mb_KR_nibbledPart 1 (some .float) :: jk_WA) (jk_rm 2 45) [.ref a_t] (wd_KR_nibbledPart cI a_t a_t_input a_t_output a_t_topics a_t_cords a_t_draftTopics a_t_draft a_t_saved a_t_history a_t_script a_t_cords_starts a_t_cords_depth a_t_cords_topic a_t_cords_value a_t_cords_nibbled a_t_cords_nibbled_k i_t_hasSaved i_t_reportedCode i_t_reportedOffset i_t_cords_clusters i_t_cords_size i_t_cords_nibbled) (wd_KR_nibbledPart cI a_t a_t_input a_t_output a_t_topics a_t_cords a_t_draftTopics a_t_draft a_t_saved a_t_history a_t_script a_t_cords_starts a_t_cords_depth a_t_cords_topic a_t_cords_value a_t_cords_nibbled a_t_cords_nibbled_k i_t_hasSaved i_t_reportedCode i_t_reportedOffset i_t_cords_clusters i_t_cords_size i_t_cords_nibbled) (if 0 < i_t_cords_size then FP.fdiv (FP.i2f (jk_I q)) (FP.i2f (jk_I i_t_cords_size)) else FP.fconst0) := by
  intro sz
  refine jk_bodyD (by decide +kernel) hZ.1 (fun p e s m args below meth c d0 hsz2 hd0 hz C => ?_) (Nat.le_of_ble_eq_true rfl)
  subst hsz2
  have hlt : jk_lts 0 i_t_cords_size (some (0 : Int)) (some 0) = some 0 := by
    by_cases x : 0 < i_t_cords_size
    · exact zk_lt (by omega) (by omega) (by omega) (by omega) x
    · exact zk_nl (by omega) (by omega) (by omega) (by omega) (by omega)
  refine jk_aload_n C rd_KR_nibbledPart_0 (k := 0) rfl ?_
  refine jk_get C in_KR (ci := 10) rfl 3 (by decide) tm_427 0 rfl rfl rd_KR_nibbledPart_1 ?_
  refine jk_getN C in_Cords (ci := 5) rfl 1 (by decide) (jk_nw hZ hz tn_15) 1 rfl rfl rd_KR_nibbledPart_4 ?_
  refine jk_if_gt C (tgt := 12) rd_KR_nibbledPart_7 (by decide) hlt (fun h _ => ?_) (fun h _ => ?_)
  · rw [if_pos h]
    refine jk_aload_n C rd_KR_nibbledPart_12 (k := 0) rfl ?_
    refine jk_get C in_KR (ci := 10) rfl 3 (by decide) tm_427 0 rfl rfl rd_KR_nibbledPart_13 ?_
    refine jk_iconst C rd_KR_nibbledPart_16 ?_
    refine jk_aload_n C rd_KR_nibbledPart_17 (k := 0) rfl ?_
    refine jk_get C in_KR (ci := 10) rfl 3 (by decide) tm_427 0 rfl rfl rd_KR_nibbledPart_18 ?_
    refine jk_getN C in_Cords (ci := 5) rfl 1 (by decide) (jk_nw hZ hz tn_15) 1 rfl rfl rd_KR_nibbledPart_21 ?_
    refine jk_callVi C hZ.1 hz (ct_Cords_nibbledAmong l D Z sq hZ cI cR a_t_cords a_t_cords_starts a_t_cords_depth a_t_cords_topic a_t_cords_value a_t_cords_nibbled a_t_cords_nibbled_k i_t_cords_clusters i_t_cords_size i_t_cords_nibbled 0 i_t_cords_size q hf) tm_704 tm_593 tm_594 tm_6 tm_595 na_Cords_nibbledAmong ⟨Nat.le_of_ble_eq_true rfl, Nat.le_of_ble_eq_true rfl⟩ rfl [1, 2, 3] rfl rfl rfl (ws' := wd_KR_nibbledPart cI a_t a_t_input a_t_output a_t_topics a_t_cords a_t_draftTopics a_t_draft a_t_saved a_t_history a_t_script a_t_cords_starts a_t_cords_depth a_t_cords_topic a_t_cords_value a_t_cords_nibbled a_t_cords_nibbled_k i_t_hasSaved i_t_reportedCode i_t_reportedOffset i_t_cords_clusters i_t_cords_size i_t_cords_nibbled) rfl 1 5 rfl rfl rfl (st := []) rfl (Nat.le_of_ble_eq_true rfl) rd_KR_nibbledPart_24 ?_ ⟨Nat.le_of_ble_eq_true rfl, Nat.le_of_ble_eq_true rfl⟩
    refine jk_i2f C rd_KR_nibbledPart_27 ?_
    refine jk_aload_n C rd_KR_nibbledPart_28 (k := 0) rfl ?_
    refine jk_get C in_KR (ci := 10) rfl 3 (by decide) tm_427 0 rfl rfl rd_KR_nibbledPart_29 ?_
    refine jk_getN C in_Cords (ci := 5) rfl 1 (by decide) (jk_nw hZ hz tn_15) 1 rfl rfl rd_KR_nibbledPart_32 ?_
    refine jk_i2f C rd_KR_nibbledPart_35 ?_
    refine jk_fdiv hd0 hn C rd_KR_nibbledPart_36 (fun r d1 hal hd1 C1 => ?_)
    exact jk_fret hd1 C1 hal rfl rd_KR_nibbledPart_37 rfl
  · rw [if_neg h]
    refine jk_fconst0 C rd_KR_nibbledPart_10 ?_
    exact jk_fret hd0 C (jk_al32 _) rfl rd_KR_nibbledPart_11 rfl
