/-! text builders: numbers put behind; made; turned into texts -/
section SB3
variable (l : Launch) (D : va_G) {Z : (Nat → Prop) → State → Heap → Prop} {sq iad : Nat → Nat} {z0 zi mi : Nat} (cI cR cO cB : ClassId)
theorem jl_nt_le3 (n : Nat) : (jl_nt n).length ≤ 3 := by
  rw [jl_nt_len]
  split
  · decide
  · split <;> decide
set_option maxHeartbeats 1000000 in
theorem ct_ASB_apI (hZ : jl_ZK Z sq iad z0 zi mi) {d1 d2 : Nat} (hD2 : jl_ZD Z d1 d2) {M : jm_M} {ow : Nat → Nat} {t a k0 : Nat} {tx : List Int} (hS : jl_SB cB ow M t a tx k0) {n : Nat} (hn : n < 1000) (hk0 : 1 ≤ k0) (hlen : tx.length + (jl_nt n).length ≤ 520) : jm_Met l D jk_cl (jl_ty cI cR cO cB) Z mn_ASB_apI (.code mn_ASB_apI mb_ASB_apI 4 (some (.object "java/lang/AbstractStringBuilder")) :: jk_WA) (jk_rx 4 1 1100 104) [.ref a, jk_V ((n : Int))] M (fun v M' => v = some (.ref a) ∧ ∃ ow', jl_SB cB ow' M' t a (tx ++ jl_nt n) 1 ∧ jl_Fr ow M ow' M' t) 1 1100 := by
  refine jm_body (by decide +kernel) (fun p ev s m args below meth cod w hw hz hin C => ?_) (Nat.le_of_ble_eq_true rfl)
  obtain ⟨v0, cap, f, ml, h1, h2, h3, h4, h5, h6, h7⟩ := id hS
  have hnl := jl_nt_le3 n
  have hnl1 := jl_ge1 n
  rw [← jl_nt_len] at hnl1
  refine jk_aload_n C rd_ASB_apI_0 (k := 0) rfl ?_
  refine jm_get C hw in_SB (ci := 16) rfl 3 (Nat.le_of_ble_eq_true rfl) lk_ASB_79 h1 rfl rd_ASB_apI_1 ?_
  refine jk_istore_n C rd_ASB_apI_4 (Nat.le_of_ble_eq_true rfl) rfl ?_
  refine jk_iload_n C rd_ASB_apI_5 (k := 0) rfl ?_
  refine jk_iload_n C rd_ASB_apI_6 (k := 2) rfl ?_
  refine jm_callS C hZ.1.1 hz hw (ct_JInt_stringSize l D cI cR cO cB hZ (M := M) hn) lk_ASB_245 xw_JInt_stringSize iw_JInt cw_JInt_stringSize na_JInt_stringSize ⟨by dsimp only [jk_rx]; omega, by dsimp only [jk_rx]; omega⟩ rfl (st := [jk_V ((tx.length : Int))]) rfl (Nat.le_of_ble_eq_true rfl) rd_ASB_apI_7 ⟨by dsimp only [jk_rx]; omega, by dsimp only [jk_rx]; omega⟩ (fun v w1 hp2 => ?_)
  obtain ⟨rfl, hk1⟩ := hp2
  refine jk_iadd C rd_ASB_apI_10 ?_
  rw [show (tx.length : Int) + ((jl_nt n).length : Int) = ((tx.length + (jl_nt n).length : Nat) : Int) by omega]
  refine jk_istore_n C rd_ASB_apI_11 (Nat.le_of_ble_eq_true rfl) rfl ?_
  refine jk_aload_n C rd_ASB_apI_12 (k := 2) rfl ?_
  refine jk_iload_n C rd_ASB_apI_13 (k := 0) rfl ?_
  refine jm_callP C (q := ("java/lang/StringBuilder", tb_SB, 4)) (ci := 16) hZ.1.1 hz hk1 (ct_ASB_ensureCapacityInternal l D cI cR cO cB hZ hS (k := tx.length + (jl_nt n).length) hlen hk0) lk_ASB_100 sm_ASB_ensureCapacityInternal xw_ASB_ensureCapacityInternal iw_ASB cw_ASB_ensureCapacityInternal (pw_ASB_ensureCapacityInternal hZ.1 hz) nw_SB na_ASB_ensureCapacityInternal ⟨by dsimp only [jk_rx]; omega, by dsimp only [jk_rx]; omega⟩ rfl h1 rfl (st := []) rfl (Nat.le_of_ble_eq_true rfl) rd_ASB_apI_14 ⟨by dsimp only [jk_rx]; omega, by dsimp only [jk_rx]; omega⟩ (fun v w3 hp4 => ?_)
  obtain ⟨rfl, ow1, hS1, hF1⟩ := hp4
  clear h1 h2 h3 h4 h5 h6 h7
  obtain ⟨v1, cap1, f1, ml1, h1, h2, h3, h4, h5, h6, h7⟩ := id hS1
  refine jk_aload_n C rd_ASB_apI_17 (k := 2) rfl ?_
  refine jm_callU C (q := ("java/lang/StringBuilder", tb_SB, 4)) (ci := 16) (x := mn_ASB_isLatin1) (owner := "java/lang/AbstractStringBuilder") hZ.1.1 hz (rfl : jm_lk w3 = _) (ct_ASB_isLatin1 l D cI cR cO cB hZ h1) (by simp only [List.mem_cons, List.not_mem_nil, or_false, forall_eq_or_imp, forall_eq]; exact ⟨lk_ASB_83, sm_ASB_isLatin1, sw_SB_ASB_isLatin1, xw_ASB_isLatin1, iw_ASB⟩) cw_ASB_isLatin1 rfl ⟨by decide +kernel, by decide +kernel, by decide +kernel⟩ ⟨by dsimp only [jk_rx]; omega, by dsimp only [jk_rx]; omega⟩ rfl h1 rfl (st := []) rfl (Nat.le_of_ble_eq_true rfl) rd_ASB_apI_18 ⟨by dsimp only [jk_rx]; omega, by dsimp only [jk_rx]; omega⟩ (fun v w5 hp6 => ?_)
  obtain ⟨rfl, hk2⟩ := hp6
  refine jr_if_eq C rd_ASB_apI_21 (tgt := 37) rfl ⟨by omega, by omega⟩ (fun hc => absurd hc (by omega)) (fun _ => ?_)
  refine jk_iload_n C rd_ASB_apI_24 (k := 3) rfl ?_
  refine jk_iload_n C rd_ASB_apI_25 (k := 0) rfl ?_
  refine jk_aload_n C rd_ASB_apI_26 (k := 2) rfl ?_
  refine jm_get C hk2 in_SB (ci := 16) rfl 0 (Nat.le_of_ble_eq_true rfl) lk_ASB_15 h1 rfl rd_ASB_apI_27 ?_
  refine jm_callS C hZ.1.1 hz hk2 (ct_JInt_getChars l D cI cR cO cB hZ hD2 (k := tx.length + (jl_nt n).length) hn (by omega) (by omega) h5 h3) lk_ASB_248 xw_JInt_getChars iw_JInt cw_JInt_getChars na_JInt_getChars ⟨by dsimp only [jk_rx]; omega, by dsimp only [jk_rx]; omega⟩ rfl (st := []) rfl (Nat.le_of_ble_eq_true rfl) rd_ASB_apI_30 ⟨by dsimp only [jk_rx]; omega, by dsimp only [jk_rx]; omega⟩ (fun v w7 hp8 => ?_)
  obtain ⟨rfl, hk3⟩ := hp8
  rw [Nat.add_sub_cancel] at hk3
  obtain ⟨M9, hM9⟩ : ∃ M9 : jm_M, M9 = jm_up (jm_lk w3) v1 (jk_W cB cap1 (jl_cpb (jl_ntf n) f1 0 tx.length (jl_nt n).length)) := ⟨_, rfl⟩
  rw [← hM9] at hk3
  have hav := jm_nek h1 h3 rfl
  have h19 := jm_keep hM9 h1 hav
  have h39 := jm_this hM9
  refine jk_pop C rd_ASB_apI_33 rfl ?_
  refine jk_goto C rd_ASB_apI_34 (tgt := 48) rfl ?_
  refine jk_aload_n C rd_ASB_apI_48 (k := 2) rfl ?_
  refine jk_iload_n C rd_ASB_apI_49 (k := 0) rfl ?_
  refine jm_put C hk3 in_SB (ty0 := tf_SB) ty_SB nm_SB (ci := 16) rfl 3 (Nat.le_of_ble_eq_true rfl) lk_ASB_79 rfl rfl rfl h19 (Nat.le_of_ble_eq_true rfl) rd_ASB_apI_50 (fun w9 hw9 => ?_)
  obtain ⟨M10, hM10⟩ : ∃ Mx : jm_M, Mx = jm_up M9 a (.inr (16, [.ref v1, jk_V 0, jk_V ml1, jk_V (((tx.length + (jl_nt n).length : Nat) : Int))])) := ⟨_, rfl⟩
  replace hw9 : jm_lk w9 = M10 := by rw [hM10]; exact hw9
  have hc10_a := jm_this hM10
  refine jk_aload_n C rd_ASB_apI_53 (k := 2) rfl ?_
  refine jm_ret_q C rfl (Or.inl ⟨_, rfl⟩) (Or.inr ⟨_, rfl⟩) hw9 ⟨rfl, ow1, ⟨v1, cap1, _, ml1, (by rw [List.length_append]; exact hc10_a), h2, jm_keep hM10 h39 hav.symm, h4, h5, by omega, h7.app (fun i hi => ⟨by unfold jl_ntf; rw [Int.toNat_natCast], by unfold jl_ntf; rw [Int.toNat_natCast]; exact jl_nt_bd hn i hi⟩) rfl (by omega)⟩, hF1.trans ((jl_Fr.put hM9 h4).trans (jl_Fr.put hM10 h2))⟩ (by omega) (by omega) rd_ASB_apI_54
set_option maxHeartbeats 1000000 in
theorem ct_SB_apI (hZ : jl_ZK Z sq iad z0 zi mi) {d1 d2 : Nat} (hD2 : jl_ZD Z d1 d2) {M : jm_M} {ow : Nat → Nat} {t a k0 : Nat} {tx : List Int} (hS : jl_SB cB ow M t a tx k0) {n : Nat} (hn : n < 1000) (hk0 : 1 ≤ k0) (hlen : tx.length + (jl_nt n).length ≤ 520) : jm_Met l D jk_cl (jl_ty cI cR cO cB) Z mn_SB_apI (.code mn_SB_apI mb_SB_apI 2 (some (.object "java/lang/StringBuilder")) :: jk_WA) (jk_rx 5 1 1100 127) [.ref a, jk_V ((n : Int))] M (fun v M' => v = some (.ref a) ∧ ∃ ow', jl_SB cB ow' M' t a (tx ++ jl_nt n) 1 ∧ jl_Fr ow M ow' M' t) 1 1100 := by
  refine jm_body (by decide +kernel) (fun p ev s m args below meth cod w hw hz hin C => ?_) (Nat.le_of_ble_eq_true rfl)
  obtain ⟨v0, cap, f, ml, h1, -⟩ := id hS
  refine jk_aload_n C rd_SB_apI_0 (k := 0) rfl ?_
  refine jk_iload_n C rd_SB_apI_1 (k := 1) rfl ?_
  refine jm_callSU C (q := ("java/lang/StringBuilder", tb_SB, 4)) (ci := 16) hZ.1.1 hz hw (ct_ASB_apI l D cI cR cO cB hZ hD2 hS hn hk0 hlen) (by simp only [List.mem_cons, List.not_mem_nil, or_false, forall_eq_or_imp, forall_eq]; exact ⟨lk_SB_53, sm_ASB_apI, uw_SB, xw_ASB_apI, iw_ASB⟩) cw_ASB_apI (by decide +kernel) na_ASB_apI ⟨by dsimp only [jk_rx]; omega, by dsimp only [jk_rx]; omega⟩ rfl h1 rfl (st := []) rfl (Nat.le_of_ble_eq_true rfl) rd_SB_apI_2 ⟨by dsimp only [jk_rx]; omega, by dsimp only [jk_rx]; omega⟩ (fun v w1 hp2 => ?_)
  obtain ⟨rfl, ow1, hS1, hF1⟩ := hp2
  refine jk_pop C rd_SB_apI_5 rfl ?_
  refine jk_aload_n C rd_SB_apI_6 (k := 0) rfl ?_
  exact jm_ret_q C rfl (Or.inl ⟨_, rfl⟩) (Or.inr ⟨_, rfl⟩) (rfl : jm_lk w1 = _) ⟨rfl, ow1, hS1, hF1⟩ (by omega) (by omega) rd_SB_apI_7
set_option maxHeartbeats 1000000 in
theorem ct_ASB_init (hZ : jl_ZK Z sq iad z0 zi mi) {M : jm_M} {ow : Nat → Nat} {t a : Nat} {ml : Int} (h1 : M a = some (.inr (16, [.null, jk_V 0, jk_V ml, jk_V 0]))) (hown : ow a = t) {q : Nat} {tc : List Int} (hq : jk_St Z q tc) (hlen : tc.length ≤ 400) : jm_Met l D jk_cl (jl_ty cI cR cO cB) Z mn_ASB_init (.code mn_ASB_init mb_ASB_init 5 none :: jk_WA) (jk_rx 7 2 2200 169) [.ref a, .ref q] M (fun v M' => v = none ∧ ∃ ow', jl_SB cB ow' M' t a tc 1 ∧ jl_Fr ow M ow' M' t) 2 2200 := by
  refine jm_body (by decide +kernel) (fun p ev s m args below meth cod w hw hz hin C => ?_) (Nat.le_of_ble_eq_true rfl)
  obtain ⟨v9, hv0⟩ := id hq.2
  have hOq := (hv0 _ _ _ hz).1
  refine jk_aload_n C rd_ASB_init_0 (k := 0) rfl ?_
  refine jk_objInit C lk_ASB_3 xw_obj cw_obj rd_ASB_init_1 (Nat.le_of_ble_eq_true rfl) (Nat.le_of_ble_eq_true rfl) ?_
  refine jk_aload_n C rd_ASB_init_4 (k := 1) rfl ?_
  refine jk_slen C hZ.1 hz hq rd_ASB_init_5 lk_ASB_32 ⟨Nat.le_of_ble_eq_true rfl, Nat.le_of_ble_eq_true rfl⟩ (Nat.le_of_ble_eq_true rfl) ⟨by dsimp only [jk_rx]; omega, by dsimp only [jk_rx]; omega⟩ ?_
  refine jk_istore_n C rd_ASB_init_8 (Nat.le_of_ble_eq_true rfl) rfl ?_
  refine jk_iload_n C rd_ASB_init_9 (k := 0) rfl ?_
  refine jm_ldci C (x := 2147483631) rfl kw_ASB_38 rd_ASB_init_10 ?_
  refine jr_icmp_ge C rd_ASB_init_12 (tgt := 22) rfl ⟨by omega, by omega⟩ ⟨by omega, by omega⟩ (fun hc => absurd hc (by omega)) (fun _ => ?_)
  refine jk_iload_n C rd_ASB_init_15 (k := 0) rfl ?_
  refine jk_bipush C rd_ASB_init_16 (by decide +kernel) ?_
  refine jk_iadd C rd_ASB_init_18 ?_
  refine jk_goto C rd_ASB_init_19 (tgt := 24) rfl ?_
  refine jk_istore_n C rd_ASB_init_24 (Nat.le_of_ble_eq_true rfl) rfl ?_
  refine jk_aload_n C rd_ASB_init_25 (k := 3) rfl ?_
  rw [show (tc.length : Int) + 16 = ((tc.length + 16 : Nat) : Int) by omega]
  refine jk_callOi C hZ.1.1 hz (ct_JStr_coder hZ.1 hq) (hv0 _ _ _ hz).1 lk_ASB_40 W_ico W_sco W_iniS W_cco na_JStr_coder ⟨Nat.le_of_ble_eq_true rfl, Nat.le_of_ble_eq_true rfl⟩ rfl (st := []) rfl (Nat.le_of_ble_eq_true rfl) rd_ASB_init_26 ?_ ⟨by dsimp only [jk_rx]; omega, by dsimp only [jk_rx]; omega⟩
  refine jk_istore C rd_ASB_init_29 (Nat.le_of_ble_eq_true rfl) rfl ?_
  refine jk_aload_n C rd_ASB_init_31 (k := 3) rfl ?_
  refine jk_iload C rd_ASB_init_32 (k := 0) rfl ?_
  refine jm_put C hw in_SB (ty0 := tf_SB) ty_SB nm_SB (ci := 16) rfl 1 (Nat.le_of_ble_eq_true rfl) lk_ASB_22 rfl rfl rfl h1 (Nat.le_of_ble_eq_true rfl) rd_ASB_init_34 (fun w1 hw1 => ?_)
  obtain ⟨M2, hM2⟩ : ∃ Mx : jm_M, Mx = jm_up M a (.inr (16, [.null, jk_V 0, jk_V ml, jk_V 0])) := ⟨_, rfl⟩
  replace hw1 : jm_lk w1 = M2 := by rw [hM2]; exact hw1
  have hc2_a := jm_this hM2
  refine jk_aload_n C rd_ASB_init_37 (k := 3) rfl ?_
  refine jk_iload C rd_ASB_init_38 (k := 0) rfl ?_
  refine jr_if_ne C rd_ASB_init_40 (tgt := 49) rfl ⟨by omega, by omega⟩ (fun hc => absurd rfl hc) (fun _ => ?_)
  refine jk_iload_n C rd_ASB_init_43 (k := 1) rfl ?_
  refine jm_newb C hw1 (n := tc.length + 16) rfl (by omega) 3 rfl aw_byte ⟨by dsimp only [jk_rx]; omega, by dsimp only [jk_rx]; omega⟩ rd_ASB_init_44 (fun b wb hb hwb => ?_)
  obtain ⟨M3, hM3⟩ : ∃ Mx : jm_M, Mx = jm_up M2 b (jk_W cB (tc.length + 16) (fun _ => 0)) := ⟨_, rfl⟩
  replace hwb : jm_lk wb = M3 := by rw [hM3]; exact hwb
  have hne3_a := jm_nen hc2_a hb
  have hc3_a := jm_keep hM3 hc2_a hne3_a
  have hc3_b := jm_this hM3
  refine jk_goto C rd_ASB_init_46 (tgt := 53) rfl ?_
  refine jm_put C hwb in_SB (ty0 := tf_SB) ty_SB nm_SB (ci := 16) rfl 0 (Nat.le_of_ble_eq_true rfl) lk_ASB_15 rfl rfl rfl hc3_a (Nat.le_of_ble_eq_true rfl) rd_ASB_init_53 (fun w4 hw4 => ?_)
  obtain ⟨M5, hM5⟩ : ∃ Mx : jm_M, Mx = jm_up M3 a (.inr (16, [.ref b, jk_V 0, jk_V ml, jk_V 0])) := ⟨_, rfl⟩
  replace hw4 : jm_lk w4 = M5 := by rw [hM5]; exact hw4
  have hc5_b := jm_keep hM5 hc3_b (hne3_a).symm
  have hc5_a := jm_this hM5
  refine jk_aload_n C rd_ASB_init_56 (k := 3) rfl ?_
  refine jk_aload_n C rd_ASB_init_57 (k := 4) rfl ?_
  have hS3 : jl_SB cB (fun z => if z = b then t else ow z) M5 t a [] (tc.length + 16) := ⟨b, tc.length + 16, fun _ => 0, _, hc5_a, (if_neg hne3_a).trans hown, hc5_b, if_pos rfl, by omega, Nat.le_refl _, fun i h0 h1 => ⟨Int.le_refl 0, (by decide : (0 : Int) < 128)⟩, Nat.zero_le _, fun i hi => absurd hi (Nat.not_lt_zero i)⟩
  refine jm_callO C (q := ("java/lang/StringBuilder", tb_SB, 4)) (ci := 16) (x := mn_ASB_apS) (owner := "java/lang/AbstractStringBuilder") hZ.1.1 hz hw4 (ct_SB_apSb l D cI cR cO cB hZ hS3 hq (by omega) (by rw [List.length_nil]; omega)) (by simp only [List.mem_cons, List.not_mem_nil, or_false, forall_eq_or_imp, forall_eq]; exact ⟨lk_ASB_43, sm_ASB_apS, xw_ASB_apS, sw_SB_ASB_apS, xw_SB_apSb, iw_SB⟩) cw_SB_apSb cw_ASB_apS na_ASB_apS ⟨by dsimp only [jk_rx]; omega, by dsimp only [jk_rx]; omega⟩ rfl hc5_a rfl (st := []) rfl (Nat.le_of_ble_eq_true rfl) rd_ASB_init_58 ⟨by dsimp only [jk_rx]; omega, by dsimp only [jk_rx]; omega⟩ (fun v w6 hp7 => ?_)
  obtain ⟨rfl, ow4, hS4, hF4⟩ := hp7
  refine jk_pop C rd_ASB_init_61 rfl ?_
  refine jm_ret_v C (rfl : jm_lk w6 = _) ⟨rfl, ow4, by rw [List.nil_append] at hS4; exact hS4, ?_⟩ (by omega) (by omega) rd_ASB_init_62
  exact ((jl_Fr.put hM2 hown).trans (jl_FrP.new hM3 hb)).trans ((jl_Fr.put hM5 (show (if a = b then t else ow a) = t from (if_neg hne3_a).trans hown)).trans hF4)
set_option maxHeartbeats 1000000 in
theorem ct_SB_init (hZ : jl_ZK Z sq iad z0 zi mi) {M : jm_M} {ow : Nat → Nat} {t a : Nat} {ml : Int} (h1 : M a = some (.inr (16, [.null, jk_V 0, jk_V ml, jk_V 0]))) (hown : ow a = t) {q : Nat} {tc : List Int} (hq : jk_St Z q tc) (hlen : tc.length ≤ 400) : jm_Met l D jk_cl (jl_ty cI cR cO cB) Z mn_SB_init (.code mn_SB_init mb_SB_init 2 none :: jk_WA) (jk_rx 8 2 2200 193) [.ref a, .ref q] M (fun v M' => v = none ∧ ∃ ow', jl_SB cB ow' M' t a tc 1 ∧ jl_Fr ow M ow' M' t) 2 2200 := by
  refine jm_body (by decide +kernel) (fun p ev s m args below meth cod w hw hz hin C => ?_) (Nat.le_of_ble_eq_true rfl)
  refine jk_aload_n C rd_SB_init_0 (k := 0) rfl ?_
  refine jk_aload_n C rd_SB_init_1 (k := 1) rfl ?_
  refine jm_callI C hZ.1.1 hz hw (ct_ASB_init l D cI cR cO cB hZ h1 hown hq hlen) lk_SB_7 xw_ASB_init iw_ASB cw_ASB_init rfl na_ASB_init ⟨by dsimp only [jk_rx]; omega, by dsimp only [jk_rx]; omega⟩ rfl (st := []) rfl (Nat.le_of_ble_eq_true rfl) rd_SB_init_2 ⟨by dsimp only [jk_rx]; omega, by dsimp only [jk_rx]; omega⟩ (fun v w1 hp2 => ?_)
  obtain ⟨rfl, ow1, hS1, hF1⟩ := hp2
  exact jm_ret_v C (rfl : jm_lk w1 = _) ⟨rfl, ow1, hS1, hF1⟩ (by omega) (by omega) rd_SB_init_5
end SB3
