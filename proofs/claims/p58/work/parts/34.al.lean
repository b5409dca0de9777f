/-! lists: iterators, emptied, one taken out -/
theorem jm_up_id {M : jm_M} {a : Nat} {e : va_E} (h : M a = some e) : jm_up M a e = M := by
  funext b
  by_cases hb : b = a
  · rw [hb, jm_up_s, h]
  · exact jm_up_n hb
section AL4
variable (l : Launch) (D : va_G) {Z : (Nat → Prop) → State → Heap → Prop} {sq iad : Nat → Nat} {z0 zi mi : Nat} (cI cR cO cB : ClassId)
set_option maxHeartbeats 1000000 in
theorem ct_It_init (hZ : jl_ZK Z sq iad z0 zi mi) {M : jm_M} {a b : Nat} {mc : Int} {v1 v2 v3 v4 v5 : Value} (hb : M b = some (.inr (15, [jk_V 0, v1, v2, v3]))) (h1 : M a = some (.inr (14, [jk_V mc, v4, v5]))) : jm_Met l D jk_cl (jl_ty cI cR cO cB) Z mn_It_init (.code mn_It_init mb_It_init 2 none :: jk_WA) (jk_rx 1 0 0 13) [.ref b, .ref a] M (fun v M' => v = none ∧ M' = jm_up M b (.inr (15, [jk_V 0, jk_V (-1), jk_V mc, .ref a]))) 0 0 := by
  refine jm_body (by decide +kernel) (fun p ev s m args below meth cod w hw hz hin C => ?_) (Nat.le_of_ble_eq_true rfl)
  refine jk_aload_n C rd_It_init_0 (k := 0) rfl ?_
  refine jk_aload_n C rd_It_init_1 (k := 1) rfl ?_
  refine jm_putF C hw in_It (ty0 := tf_It) ty_It nm_It (ci := 15) rfl 3 (Nat.le_of_ble_eq_true rfl) lk_It_1 rfl (hin rfl) rfl rfl rfl hb (Nat.le_of_ble_eq_true rfl) rd_It_init_2 (fun w1 hw1 => ?_)
  obtain ⟨M2, hM2⟩ : ∃ Mx : jm_M, Mx = jm_up M b (.inr (15, [jk_V 0, v1, v2, .ref a])) := ⟨_, rfl⟩
  replace hw1 : jm_lk w1 = M2 := by rw [hM2]; exact hw1
  have hc2_a := jm_keep hM2 h1 (jm_nek h1 hb rfl)
  have hc2_b := jm_this hM2
  refine jk_aload_n C rd_It_init_5 (k := 0) rfl ?_
  refine jk_objInit C lk_It_7 xw_obj cw_obj rd_It_init_6 (Nat.le_of_ble_eq_true rfl) (Nat.le_of_ble_eq_true rfl) ?_
  refine jk_aload_n C rd_It_init_9 (k := 0) rfl ?_
  refine jk_iconst C rd_It_init_10 ?_
  refine jm_put C hw1 in_It (ty0 := tf_It) ty_It nm_It (ci := 15) rfl 1 (Nat.le_of_ble_eq_true rfl) lk_It_13 rfl rfl rfl hc2_b (Nat.le_of_ble_eq_true rfl) rd_It_init_11 (fun w3 hw3 => ?_)
  obtain ⟨M4, hM4⟩ : ∃ Mx : jm_M, Mx = jm_up M2 b (.inr (15, [jk_V 0, jk_V ((-1)), v2, .ref a])) := ⟨_, rfl⟩
  replace hw3 : jm_lk w3 = M4 := by rw [hM4]; exact hw3
  have hc4_a := jm_keep hM4 hc2_a (jm_nek h1 hb rfl)
  have hc4_b := jm_this hM4
  refine jk_aload_n C rd_It_init_14 (k := 0) rfl ?_
  refine jk_aload_n C rd_It_init_15 (k := 0) rfl ?_
  refine jm_get C hw3 in_It (ci := 15) rfl 3 (Nat.le_of_ble_eq_true rfl) lk_It_1 hc4_b rfl rd_It_init_16 ?_
  refine jm_getS C hw3 in_AL (ci := 14) rfl 0 (Nat.le_of_ble_eq_true rfl) lk_It_17 (fun x hx => u_same (C.1.2.2.2.2 _ sf_modCount) x hx) hc4_a rfl rd_It_init_19 ?_
  refine jm_put C hw3 in_It (ty0 := tf_It) ty_It nm_It (ci := 15) rfl 2 (Nat.le_of_ble_eq_true rfl) lk_It_22 rfl rfl rfl hc4_b (Nat.le_of_ble_eq_true rfl) rd_It_init_22 (fun w5 hw5 => ?_)
  obtain ⟨M6, hM6⟩ : ∃ Mx : jm_M, Mx = jm_up M4 b (.inr (15, [jk_V 0, jk_V ((-1)), jk_V mc, .ref a])) := ⟨_, rfl⟩
  replace hw5 : jm_lk w5 = M6 := by rw [hM6]; exact hw5
  have hc6_a := jm_keep hM6 hc4_a (jm_nek h1 hb rfl)
  have hc6_b := jm_this hM6
  exact jm_ret_v C hw5 ⟨rfl, by rw [hM6, hM4, hM2, jm_up_up, jm_up_up]⟩ (Nat.le_refl _) (Nat.le_refl _) rd_It_init_25
set_option maxHeartbeats 1000000 in
theorem ct_AL_iterator (hZ : jl_ZK Z sq iad z0 zi mi) {M : jm_M} {a : Nat} {mc : Int} {v4 v5 : Value} (h1 : M a = some (.inr (14, [jk_V mc, v4, v5]))) : jm_Met l D jk_cl (jl_ty cI cR cO cB) Z mn_AL_iterator (.code mn_AL_iterator mb_AL_iterator 1 (some (.object "java/util/Iterator")) :: jk_WA) (jk_rx 2 1 4 34) [.ref a] M (fun v M' => ∃ q, v = some (.ref q) ∧ M q = none ∧ M' = jm_up M q (.inr (15, [jk_V 0, jk_V (-1), jk_V mc, .ref a]))) 1 4 := by
  refine jm_body (by decide +kernel) (fun p ev s m args below meth cod w hw hz hin C => ?_) (Nat.le_of_ble_eq_true rfl)
  refine jm_new C hw in_It (ty0 := tf_It) ty_It lk_AL_267 nw_It iw_It (ci := 15) rfl (fs := [jk_V 0, jk_V 0, jk_V 0, .null]) (by intro j hj; rcases j with _ | _ | _ | _ | j <;> first | rfl | omega) ⟨Nat.le_of_ble_eq_true rfl, Nat.le_of_ble_eq_true rfl⟩ rd_AL_iterator_0 (fun q w1 hq hw1 => ?_)
  obtain ⟨M1, hM1⟩ : ∃ Mx : jm_M, Mx = jm_up M q (.inr (15, [jk_V 0, jk_V 0, jk_V 0, .null])) := ⟨_, rfl⟩
  replace hw1 : jm_lk w1 = M1 := by rw [hM1]; exact hw1
  have hne1_a := jm_nen h1 hq
  have hc1_a := jm_keep hM1 h1 hne1_a
  have hc1_q := jm_this hM1
  refine jk_dup C rd_AL_iterator_3 rfl ?_
  refine jk_aload_n C rd_AL_iterator_4 (k := 0) rfl ?_
  refine jm_callI C hZ.1.1 hz hw1 (ct_It_init l D cI cR cO cB hZ hc1_q hc1_a) lk_AL_269 xw_It_init iw_It cw_It_init rfl na_It_init ⟨Nat.le_of_ble_eq_true rfl, Nat.le_of_ble_eq_true rfl⟩ rfl (st := [.ref q]) rfl (Nat.le_of_ble_eq_true rfl) rd_AL_iterator_5 ⟨Nat.le_of_ble_eq_true rfl, Nat.le_of_ble_eq_true rfl⟩ (fun v w2 hp3 => ?_)
  obtain ⟨rfl, hW1⟩ := hp3
  exact jm_ret_q C rfl (Or.inl ⟨_, rfl⟩) (Or.inr ⟨_, rfl⟩) hW1 ⟨q, rfl, hq, by rw [hM1, jm_up_up]⟩ (by omega) (by omega) rd_AL_iterator_8
set_option maxHeartbeats 1000000 in
theorem ct_It_hasNext (hZ : jl_ZK Z sq iad z0 zi mi) {M : jm_M} {a b : Nat} {i n : Int} {v1 v2 v3 v4 : Value} (hb : M b = some (.inr (15, [jk_V i, v1, v2, .ref a]))) (h1 : M a = some (.inr (14, [v3, v4, jk_V n]))) (hi : jk_R i) (hn : jk_R n) : jm_Met l D jk_cl (jl_ty cI cR cO cB) Z mn_It_hasNext (.code mn_It_hasNext mb_It_hasNext 1 (some .boolean) :: jk_WA) (jk_rx 0 0 0 0) [.ref b] M (fun v M' => v = some (jk_V (if i = n then 0 else 1)) ∧ M' = M) 0 0 := by
  refine jm_body (by decide +kernel) (fun p ev s m args below meth cod w hw hz hin C => ?_) (Nat.le_of_ble_eq_true rfl)
  refine jk_aload_n C rd_It_hasNext_0 (k := 0) rfl ?_
  refine jm_get C hw in_It (ci := 15) rfl 0 (Nat.le_of_ble_eq_true rfl) lk_It_25 hb rfl rd_It_hasNext_1 ?_
  refine jk_aload_n C rd_It_hasNext_4 (k := 0) rfl ?_
  refine jm_get C hw in_It (ci := 15) rfl 3 (Nat.le_of_ble_eq_true rfl) lk_It_1 hb rfl rd_It_hasNext_5 ?_
  refine jm_getN C hw in_AL (ci := 14) rfl 2 (Nat.le_of_ble_eq_true rfl) (jk_nw hZ.1 hz lk_It_28) h1 rfl rd_It_hasNext_8 ?_
  refine jr_icmp_eq C rd_It_hasNext_11 (tgt := 18) rfl hi hn (fun hc => ?_) (fun hc => ?_)
  · refine jk_iconst C rd_It_hasNext_18 ?_
    exact jm_ret_z C (Or.inl rfl) hw ⟨by rw [if_pos hc], rfl⟩ (Nat.le_refl _) (Nat.le_refl _) rd_It_hasNext_19
  · refine jk_iconst C rd_It_hasNext_14 ?_
    refine jk_goto C rd_It_hasNext_15 (tgt := 19) rfl ?_
    exact jm_ret_z C (Or.inr rfl) hw ⟨by rw [if_neg hc], rfl⟩ (Nat.le_refl _) (Nat.le_refl _) rd_It_hasNext_19
set_option maxHeartbeats 1000000 in
theorem ct_It_checkForComodification (hZ : jl_ZK Z sq iad z0 zi mi) {M : jm_M} {a b : Nat} {mc : Int} {v0 v1 v4 v5 : Value} (hb : M b = some (.inr (15, [v0, v1, jk_V mc, .ref a]))) (h1 : M a = some (.inr (14, [jk_V mc, v4, v5]))) : jm_Met l D jk_cl (jl_ty cI cR cO cB) Z mn_It_checkForComodification (.code mn_It_checkForComodification mb_It_checkForComodification 1 none :: jk_WA) (jk_rx 0 0 0 0) [.ref b] M (fun v M' => v = none ∧ M' = M) 0 0 := by
  refine jm_body (by decide +kernel) (fun p ev s m args below meth cod w hw hz hin C => ?_) (Nat.le_of_ble_eq_true rfl)
  refine jk_aload_n C rd_It_checkForComodification_0 (k := 0) rfl ?_
  refine jm_get C hw in_It (ci := 15) rfl 3 (Nat.le_of_ble_eq_true rfl) lk_It_1 hb rfl rd_It_checkForComodification_1 ?_
  refine jm_getS C hw in_AL (ci := 14) rfl 0 (Nat.le_of_ble_eq_true rfl) lk_It_17 (fun x hx => u_same (C.1.2.2.2.2 _ sf_modCount) x hx) h1 rfl rd_It_checkForComodification_4 ?_
  refine jk_aload_n C rd_It_checkForComodification_7 (k := 0) rfl ?_
  refine jm_get C hw in_It (ci := 15) rfl 2 (Nat.le_of_ble_eq_true rfl) lk_It_22 hb rfl rd_It_checkForComodification_8 ?_
  rw [show jk_V mc = jk_V (jk_I mc).toInt by show Value.int _ = Value.int _; rw [jk_of]]
  refine jr_icmp_eq C rd_It_checkForComodification_11 (tgt := 22) rfl (jk_Rof _) (jk_Rof _) (fun _ => ?_) (fun hc => absurd rfl hc)
  exact jm_ret_v C hw ⟨rfl, rfl⟩ (Nat.le_refl _) (Nat.le_refl _) rd_It_checkForComodification_22
set_option maxHeartbeats 1000000 in
theorem ct_It_next (hZ : jl_ZK Z sq iad z0 zi mi) {M : jm_M} {a b e x i n cap : Nat} {mc : Int} {v1 : Value} {g : Nat → Option Nat} (hb : M b = some (.inr (15, [jk_V (i : Int), v1, jk_V mc, .ref a]))) (h1 : M a = some (.inr (14, [jk_V mc, .ref e, jk_V (n : Int)]))) (he : M e = some (jm_Q cO cap g)) (hi : i < n) (hn : n ≤ cap) (hc : cap ≤ 60) (hg : g i = some x) : jm_Met l D jk_cl (jl_ty cI cR cO cB) Z mn_It_next (.code mn_It_next mb_It_next 3 (some (.object "java/lang/Object")) :: jk_WA) (jk_rx 1 0 0 20) [.ref b] M (fun v M' => v = some (.ref x) ∧ M' = jm_up M b (.inr (15, [jk_V ((i : Int) + 1), jk_V (i : Int), jk_V mc, .ref a]))) 0 0 := by
  refine jm_body (by decide +kernel) (fun p ev s m args below meth cod w hw hz hin C => ?_) (Nat.le_of_ble_eq_true rfl)
  refine jk_aload_n C rd_It_next_0 (k := 0) rfl ?_
  refine jm_callV C hZ.1.1 hz hw (ct_It_checkForComodification l D cI cR cO cB hZ hb h1) lk_It_31 xw_It_checkForComodification sw_It_checkForComodification iw_It cw_It_checkForComodification na_It_checkForComodification ⟨Nat.le_of_ble_eq_true rfl, Nat.le_of_ble_eq_true rfl⟩ rfl hb rfl rfl (st := []) rfl (Nat.le_of_ble_eq_true rfl) rd_It_next_1 ⟨Nat.le_of_ble_eq_true rfl, Nat.le_of_ble_eq_true rfl⟩ (fun v w1 hp2 => ?_)
  obtain ⟨rfl, hM1⟩ := hp2
  refine jk_aload_n C rd_It_next_4 (k := 0) rfl ?_
  refine jm_get C hM1 in_It (ci := 15) rfl 0 (Nat.le_of_ble_eq_true rfl) lk_It_25 hb rfl rd_It_next_5 ?_
  refine jk_istore_n C rd_It_next_8 (Nat.le_of_ble_eq_true rfl) rfl ?_
  refine jk_iload_n C rd_It_next_9 (k := 0) rfl ?_
  refine jk_aload_n C rd_It_next_10 (k := 1) rfl ?_
  refine jm_get C hM1 in_It (ci := 15) rfl 3 (Nat.le_of_ble_eq_true rfl) lk_It_1 hb rfl rd_It_next_11 ?_
  refine jm_getN C hM1 in_AL (ci := 14) rfl 2 (Nat.le_of_ble_eq_true rfl) (jk_nw hZ.1 hz lk_It_28) h1 rfl rd_It_next_14 ?_
  refine jr_icmp_lt C rd_It_next_17 (tgt := 28) rfl ⟨by omega, by omega⟩ ⟨by omega, by omega⟩ (fun _ => ?_) (fun hc => absurd (by omega) hc)
  refine jk_aload_n C rd_It_next_28 (k := 1) rfl ?_
  refine jm_get C hM1 in_It (ci := 15) rfl 3 (Nat.le_of_ble_eq_true rfl) lk_It_1 hb rfl rd_It_next_29 ?_
  refine jm_get C hM1 in_AL (ci := 14) rfl 1 (Nat.le_of_ble_eq_true rfl) lk_It_37 h1 rfl rd_It_next_32 ?_
  refine jr_astore_n C rd_It_next_35 (Nat.le_of_ble_eq_true rfl) rfl ?_
  refine jk_iload_n C rd_It_next_36 (k := 1) rfl ?_
  refine jk_aload_n C rd_It_next_37 (k := 0) rfl ?_
  refine jm_qlen C hM1 2 he rfl rd_It_next_38 ?_
  refine jr_icmp_lt C rd_It_next_39 (tgt := 50) rfl ⟨by omega, by omega⟩ ⟨by omega, by omega⟩ (fun _ => ?_) (fun hc => absurd (by omega) hc)
  refine jk_aload_n C rd_It_next_50 (k := 2) rfl ?_
  refine jk_iload_n C rd_It_next_51 (k := 1) rfl ?_
  refine jk_iconst C rd_It_next_52 ?_
  refine jk_iadd C rd_It_next_53 ?_
  refine jm_put C hM1 in_It (ty0 := tf_It) ty_It nm_It (ci := 15) rfl 0 (Nat.le_of_ble_eq_true rfl) lk_It_25 rfl rfl rfl hb (Nat.le_of_ble_eq_true rfl) rd_It_next_54 (fun w3 hw3 => ?_)
  obtain ⟨M4, hM4⟩ : ∃ Mx : jm_M, Mx = jm_up M b (.inr (15, [jk_V (((i : Int)) + 1), v1, jk_V mc, .ref a])) := ⟨_, rfl⟩
  replace hw3 : jm_lk w3 = M4 := by rw [hM4]; exact hw3
  have hc4_a := jm_keep hM4 h1 (jm_nek h1 hb rfl)
  have hc4_e := jm_keep hM4 he (jm_nek he hb rfl)
  have hc4_b := jm_this hM4
  refine jk_aload_n C rd_It_next_57 (k := 0) rfl ?_
  refine jk_aload_n C rd_It_next_58 (k := 2) rfl ?_
  refine jk_iload_n C rd_It_next_59 (k := 1) rfl ?_
  refine jr_dup_x1 C rd_It_next_60 rfl rfl ?_
  refine jm_put C hw3 in_It (ty0 := tf_It) ty_It nm_It (ci := 15) rfl 1 (Nat.le_of_ble_eq_true rfl) lk_It_13 rfl rfl rfl hc4_b (Nat.le_of_ble_eq_true rfl) rd_It_next_61 (fun w5 hw5 => ?_)
  obtain ⟨M6, hM6⟩ : ∃ Mx : jm_M, Mx = jm_up M4 b (.inr (15, [jk_V (((i : Int)) + 1), jk_V ((i : Int)), jk_V mc, .ref a])) := ⟨_, rfl⟩
  replace hw5 : jm_lk w5 = M6 := by rw [hM6]; exact hw5
  have hc6_a := jm_keep hM6 hc4_a (jm_nek h1 hb rfl)
  have hc6_e := jm_keep hM6 hc4_e (jm_nek he hb rfl)
  have hc6_b := jm_this hM6
  refine jm_qald C hw5 (t0 := 2) hc6_e rfl (by omega) (by omega) (by omega) rd_It_next_64 ?_
  rw [Int.toNat_natCast, hg]
  exact jm_ret_q C rfl (Or.inl ⟨_, rfl⟩) (Or.inr ⟨_, rfl⟩) hw5 ⟨rfl, by rw [hM6, hM4, jm_up_up]⟩ (Nat.le_refl _) (Nat.le_refl _) rd_It_next_65
set_option maxHeartbeats 1000000 in
theorem ct_AL_clear (hZ : jl_ZK Z sq iad z0 zi mi) {M : jm_M} {ow : Nat → Nat} {t a : Nat} {xs : List Nat} (hL : jl_AL cO z0 ow M t a xs) : jm_Met l D jk_cl (jl_ty cI cR cO cB) Z mn_AL_clear (.code mn_AL_clear mb_AL_clear 4 none :: jk_WA) (jk_rx 0 0 0 0) [.ref a] M (fun v M' => v = none ∧ jl_AL cO z0 ow M' t a [] ∧ jl_Fr ow M ow M' t) 0 0 := by
  obtain ⟨mc, e, cap, g, h1, h2, h3, h4, h5, h6⟩ := hL
  refine jm_body (by decide +kernel) (fun p ev s m args below meth cod w hw hz hin C => ?_) (Nat.le_of_ble_eq_true rfl)
  refine jk_aload_n C rd_AL_clear_0 (k := 0) rfl ?_
  refine jk_dup C rd_AL_clear_1 rfl ?_
  refine jm_getS C hw in_AL (ci := 14) rfl 0 (Nat.le_of_ble_eq_true rfl) lk_AL_63 (fun x hx => u_same (C.1.2.2.2.2 _ sf_modCount) x hx) h1 rfl rd_AL_clear_2 ?_
  refine jk_iconst C rd_AL_clear_5 ?_
  refine jk_iadd C rd_AL_clear_6 ?_
  refine jm_putS C hw in_AL (ty0 := tf_AL) ty_AL nm_AL (ci := 14) rfl 0 (Nat.le_of_ble_eq_true rfl) lk_AL_63 (fun x hx => u_same (C.1.2.2.2.2 _ sf_modCount) x hx) rfl rfl rfl h1 (Nat.le_of_ble_eq_true rfl) rd_AL_clear_7 (fun w1 hw1 => ?_)
  obtain ⟨M2, hM2⟩ : ∃ Mx : jm_M, Mx = jm_up M a (.inr (14, [jk_V (mc + 1), .ref e, jk_V ((xs.length : Int))])) := ⟨_, rfl⟩
  replace hw1 : jm_lk w1 = M2 := by rw [hM2]; exact hw1
  have hc2_a := jm_this hM2
  refine jk_aload_n C rd_AL_clear_10 (k := 0) rfl ?_
  refine jm_get C hw1 in_AL (ci := 14) rfl 1 (Nat.le_of_ble_eq_true rfl) lk_AL_9 hc2_a rfl rd_AL_clear_11 ?_
  refine jr_astore_n C rd_AL_clear_14 (Nat.le_of_ble_eq_true rfl) rfl ?_
  refine jk_aload_n C rd_AL_clear_15 (k := 1) rfl ?_
  refine jm_get C hw1 in_AL (ci := 14) rfl 2 (Nat.le_of_ble_eq_true rfl) lk_AL_48 hc2_a rfl rd_AL_clear_16 ?_
  refine jk_istore_n C rd_AL_clear_19 (Nat.le_of_ble_eq_true rfl) rfl ?_
  refine jk_aload_n C rd_AL_clear_20 (k := 2) rfl ?_
  refine jk_iconst C rd_AL_clear_21 ?_
  refine jr_dup_x1 C rd_AL_clear_22 rfl rfl ?_
  refine jm_put C hw1 in_AL (ty0 := tf_AL) ty_AL nm_AL (ci := 14) rfl 2 (Nat.le_of_ble_eq_true rfl) lk_AL_48 rfl rfl rfl hc2_a (Nat.le_of_ble_eq_true rfl) rd_AL_clear_23 (fun w3 hw3 => ?_)
  obtain ⟨M4, hM4⟩ : ∃ Mx : jm_M, Mx = jm_up M2 a (.inr (14, [jk_V (mc + 1), .ref e, jk_V 0])) := ⟨_, rfl⟩
  replace hw3 : jm_lk w3 = M4 := by rw [hM4]; exact hw3
  have hc4_a := jm_this hM4
  refine jk_istore_n C rd_AL_clear_26 (Nat.le_of_ble_eq_true rfl) rfl ?_
  rcases h3 with ⟨h30, he⟩ | ⟨h30, h8, h9⟩
  · refine jk_iload_n C rd_AL_clear_27 (k := 0) rfl ?_
    refine jk_iload_n C rd_AL_clear_28 (k := 1) rfl ?_
    refine jr_icmp_ge C rd_AL_clear_29 (tgt := 42) rfl ⟨by omega, by omega⟩ ⟨by omega, by omega⟩ (fun _ => ?_) (fun hc => absurd hc (by omega))
    refine jm_ret_v C hw3 ⟨rfl, ⟨_, e, cap, fun _ => none, (by rw [hM4]; exact jm_up_s), h2, Or.inl ⟨h30, he⟩, Nat.zero_le _, h5, (fun i hi => by omega)⟩, ?_⟩ (by omega) (by omega) rd_AL_clear_42
    refine jl_FrP.mk ((jl_dom.up hM2).trans (jl_dom.up hM4)) (fun b eb hb => ?_)
    refine ⟨rfl, fun hne => ?_⟩
    exact jm_keep hM4 (jm_keep hM2 hb (fun z => hne (by rw [z]; exact h2))) (fun z => hne (by rw [z]; exact h2))
  · have key : ∀ (Q0 : State → Prop), (∀ (gi : Nat → Option Nat) (ws : va_W), jm_lk ws = jm_up M4 e (jm_Q cO cap gi) → (∀ j, j < cap → gi j = none) → jk_J p l ev (jk_rx 0 0 0 0) s m args below meth cod 0 0 Q0 D jk_cl (va_A w s.heap.size) 4 ws [(3, jk_V ((xs.length : Int))), (2, jk_V ((xs.length : Int))), (1, .ref e), (0, .ref a)] 42 []) → ∀ (k i : Nat) (gi : Nat → Option Nat) (ws : va_W), i + k = xs.length → jm_lk ws = jm_up M4 e (jm_Q cO cap gi) → (∀ j, j < cap → gi j = if j < i then none else xs[j]?) → jk_J p l ev (jk_rx 0 0 0 0) s m args below meth cod 0 0 Q0 D jk_cl (va_A w s.heap.size) 4 ws [(3, jk_V ((i : Int))), (2, jk_V ((xs.length : Int))), (1, .ref e), (0, .ref a)] 27 [] := by
      intro Q0 hex k
      induction k with
      | zero =>
        intro i gi ws hik hws hgi
        refine jk_iload_n C rd_AL_clear_27 (k := 0) rfl ?_
        refine jk_iload_n C rd_AL_clear_28 (k := 1) rfl ?_
        refine jr_icmp_ge C rd_AL_clear_29 (tgt := 42) rfl ⟨by omega, by omega⟩ ⟨by omega, by omega⟩ (fun _ => ?_) (fun hc => absurd hc (by omega))
        have e1 : i = xs.length := by omega
        subst e1
        exact hex gi ws hws (fun j hj => by rw [hgi j hj]; split; rfl; exact List.getElem?_eq_none (by omega))
      | succ k ih =>
        intro i gi ws hik hws hgi
        refine jk_iload_n C rd_AL_clear_27 (k := 0) rfl ?_
        refine jk_iload_n C rd_AL_clear_28 (k := 1) rfl ?_
        refine jr_icmp_ge C rd_AL_clear_29 (tgt := 42) rfl ⟨by omega, by omega⟩ ⟨by omega, by omega⟩ (fun hc => absurd (by omega) hc) (fun _ => ?_)
        refine jk_aload_n C rd_AL_clear_32 (k := 2) rfl ?_
        refine jk_iload_n C rd_AL_clear_33 (k := 0) rfl ?_
        refine jr_null C rd_AL_clear_34 ?_
        refine jm_qastN C hws 2 jm_up_s rfl (by omega) (by omega) (by omega) rd_AL_clear_35 (fun w8 hw8 => ?_)
        refine jk_iinc C rd_AL_clear_36 (k := 0) rfl (Nat.le_of_ble_eq_true rfl) rfl ?_
        refine jk_goto C rd_AL_clear_39 (tgt := 27) rfl ?_
        rw [Int.toNat_natCast, jm_up_up] at hw8
        refine ih (i + 1) (va_up gi i none) w8 (by omega) hw8 (fun j hj => ?_)
        unfold va_up
        by_cases hq : j = i
        · rw [if_pos hq, if_pos (by omega)]
        · rw [if_neg hq, hgi j hj]; by_cases hlt : j < i
          · rw [if_pos hlt, if_pos (by omega)]
          · rw [if_neg hlt, if_neg (by omega)]
    have h18 := (jm_keep hM4 (jm_keep hM2 h8 (jm_nek h8 h1 rfl)) (jm_nek h8 h1 rfl))
    refine key _ (fun gi ws hws hgi => ?_) xs.length 0 g w3 (by omega) (by rw [jm_up_id h18]; exact hw3) (fun j hj => by rw [if_neg (by omega)]; exact h6 j hj)
    refine jm_ret_v C hws ⟨rfl, ⟨_, e, cap, gi, (by rw [jm_up_n (jm_nek h1 h8 rfl), hM4]; exact jm_up_s), h2, Or.inr ⟨h30, jm_up_s, h9⟩, Nat.zero_le _, h5, (fun i hi => by rw [hgi i hi]; rfl)⟩, ?_⟩ (by omega) (by omega) rd_AL_clear_42
    refine jl_FrP.mk (((jl_dom.up hM2).trans (jl_dom.up hM4)).trans (jl_dom.up rfl)) (fun b eb hb => ?_)
    refine ⟨rfl, fun hne => ?_⟩
    rw [jm_up_n (fun z => hne (by rw [z]; exact h9))]
    exact jm_keep hM4 (jm_keep hM2 hb (fun z => hne (by rw [z]; exact h2))) (fun z => hne (by rw [z]; exact h2))
end AL4
