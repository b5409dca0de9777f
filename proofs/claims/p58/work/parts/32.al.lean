/-! lists: made, grown, added to -/
section AL2
variable (l : Launch) (D : va_G) {Z : (Nat → Prop) → State → Heap → Prop} {sq iad : Nat → Nat} {z0 zi mi : Nat} (cI cR cO cB : ClassId)
set_option maxHeartbeats 1000000 in
theorem ct_ABC_init (hZ : jl_ZK Z sq iad z0 zi mi) {M : jm_M} {a : Nat} : jm_Met l D jk_cl (jl_ty cI cR cO cB) Z mn_ABC_init (.code mn_ABC_init mb_ABC_init 1 none :: jk_WA) (jk_rx 1 0 0 13) [.ref a] M (fun v M' => v = none ∧ M' = M) 0 0 := by
  refine jm_body (by decide +kernel) (fun p ev s m args below meth cod w hw hz hin C => ?_) (Nat.le_of_ble_eq_true rfl)
  refine jk_aload_n C rd_ABC_init_0 (k := 0) rfl ?_
  refine jk_objInit C lk_ABC_1 xw_obj cw_obj rd_ABC_init_1 (Nat.le_of_ble_eq_true rfl) (Nat.le_of_ble_eq_true rfl) ?_
  exact jm_ret_v C hw ⟨rfl, rfl⟩ (Nat.le_refl _) (Nat.le_refl _) rd_ABC_init_4
set_option maxHeartbeats 1000000 in
theorem ct_ABL_init (hZ : jl_ZK Z sq iad z0 zi mi) {M : jm_M} {a : Nat} {v0 v1 v2 : Value} (h1 : M a = some (.inr (14, [v0, v1, v2]))) : jm_Met l D jk_cl (jl_ty cI cR cO cB) Z mn_ABL_init (.code mn_ABL_init mb_ABL_init 1 none :: jk_WA) (jk_rx 2 0 0 33) [.ref a] M (fun v M' => v = none ∧ M' = jm_up M a (.inr (14, [jk_V 0, v1, v2]))) 0 0 := by
  refine jm_body (by decide +kernel) (fun p ev s m args below meth cod w hw hz hin C => ?_) (Nat.le_of_ble_eq_true rfl)
  refine jk_aload_n C rd_ABL_init_0 (k := 0) rfl ?_
  refine jm_callI C hZ.1.1 hz hw (ct_ABC_init l D cI cR cO cB hZ (M := M) (a := a)) lk_ABL_1 xw_ABC_init iw_ABC cw_ABC_init rfl na_ABC_init ⟨Nat.le_of_ble_eq_true rfl, Nat.le_of_ble_eq_true rfl⟩ rfl (st := []) rfl (Nat.le_of_ble_eq_true rfl) rd_ABL_init_1 ⟨Nat.le_of_ble_eq_true rfl, Nat.le_of_ble_eq_true rfl⟩ (fun v w1 hp2 => ?_)
  obtain ⟨rfl, hM1⟩ := hp2
  refine jk_aload_n C rd_ABL_init_4 (k := 0) rfl ?_
  refine jk_iconst C rd_ABL_init_5 ?_
  refine jm_put C hM1 in_AL (ty0 := tf_AL) ty_AL nm_AL (ci := 14) rfl 0 (Nat.le_of_ble_eq_true rfl) lk_ABL_7 rfl rfl rfl h1 (Nat.le_of_ble_eq_true rfl) rd_ABL_init_6 (fun w3 hw3 => ?_)
  obtain ⟨M4, hM4⟩ : ∃ Mx : jm_M, Mx = jm_up M a (.inr (14, [jk_V 0, v1, v2])) := ⟨_, rfl⟩
  replace hw3 : jm_lk w3 = M4 := by rw [hM4]; exact hw3
  have hc4_a := jm_this hM4
  exact jm_ret_v C hw3 ⟨rfl, hM4⟩ (Nat.le_refl _) (Nat.le_refl _) rd_ABL_init_9
set_option maxHeartbeats 1000000 in
theorem ct_AL_init (hZ : jl_ZK Z sq iad z0 zi mi) {M : jm_M} {a : Nat} {v0 v1 : Value} (h1 : M a = some (.inr (14, [v0, v1, jk_V 0]))) : jm_Met l D jk_cl (jl_ty cI cR cO cB) Z mn_AL_init (.code mn_AL_init mb_AL_init 1 none :: jk_WA) (jk_rx 3 0 0 53) [.ref a] M (fun v M' => v = none ∧ M' = jm_up M a (.inr (14, [jk_V 0, .ref z0, jk_V 0]))) 0 0 := by
  refine jm_body (by decide +kernel) (fun p ev s m args below meth cod w hw hz hin C => ?_) (Nat.le_of_ble_eq_true rfl)
  refine jk_aload_n C rd_AL_init_0 (k := 0) rfl ?_
  refine jm_callI C hZ.1.1 hz hw (ct_ABL_init l D cI cR cO cB hZ h1) lk_AL_1 xw_ABL_init iw_ABL cw_ABL_init rfl na_ABL_init ⟨Nat.le_of_ble_eq_true rfl, Nat.le_of_ble_eq_true rfl⟩ rfl (st := []) rfl (Nat.le_of_ble_eq_true rfl) rd_AL_init_1 ⟨Nat.le_of_ble_eq_true rfl, Nat.le_of_ble_eq_true rfl⟩ (fun v w1 hp2 => ?_)
  obtain ⟨rfl, hM1⟩ := hp2
  obtain ⟨M9, hM9⟩ : ∃ M9 : jm_M, M9 = jm_up M a (.inr (14, [jk_V 0, v1, jk_V 0])) := ⟨_, rfl⟩
  rw [← hM9] at hM1
  have h19 := jm_this hM9
  refine jk_aload_n C rd_AL_init_4 (k := 0) rfl ?_
  refine jm_gets C (hZ.2 _ s s.heap hz).2.2.2.2.1 lk_AL_39 rd_AL_init_5 ?_
  refine jm_put C hM1 in_AL (ty0 := tf_AL) ty_AL nm_AL (ci := 14) rfl 1 (Nat.le_of_ble_eq_true rfl) lk_AL_9 rfl rfl rfl h19 (Nat.le_of_ble_eq_true rfl) rd_AL_init_8 (fun w3 hw3 => ?_)
  obtain ⟨M4, hM4⟩ : ∃ Mx : jm_M, Mx = jm_up M9 a (.inr (14, [jk_V 0, .ref z0, jk_V 0])) := ⟨_, rfl⟩
  replace hw3 : jm_lk w3 = M4 := by rw [hM4]; exact hw3
  have hc4_a := jm_this hM4
  exact jm_ret_v C hw3 ⟨rfl, by rw [hM4, hM9, jm_up_up]⟩ (Nat.le_refl _) (Nat.le_refl _) rd_AL_init_11
set_option maxHeartbeats 1000000 in
theorem ct_JAS_newLength (hZ : jl_ZK Z sq iad z0 zi mi) {M : jm_M} {n g k : Nat} (hn : 0 < n ∧ n < 1000) (hg : g < 1000) (hk : k < 1000) : jm_Met l D jk_cl (jl_ty cI cR cO cB) Z mn_JAS_newLength (.code mn_JAS_newLength mb_JAS_newLength 4 (some .int) :: jk_WA) (jk_rx 1 0 0 14) [jk_V ((n : Int)), jk_V ((g : Int)), jk_V ((k : Int))] M (fun v M' => v = some (jk_V ((n : Int) + (if (g : Int) < (k : Int) then (k : Int) else (g : Int)))) ∧ M' = M) 0 0 := by
  refine jm_body (by decide +kernel) (fun p ev s m args below meth cod w hw hz hin C => ?_) (Nat.le_of_ble_eq_true rfl)
  refine jk_iload_n C rd_JAS_newLength_0 (k := 0) rfl ?_
  refine jk_iload_n C rd_JAS_newLength_1 (k := 1) rfl ?_
  refine jk_iload_n C rd_JAS_newLength_2 (k := 2) rfl ?_
  refine jm_mmax C ⟨by omega, by omega⟩ ⟨by omega, by omega⟩ lk_JAS_194 (Nat.le_of_ble_eq_true rfl) (Nat.le_of_ble_eq_true rfl) ⟨Nat.le_of_ble_eq_true rfl, Nat.le_of_ble_eq_true rfl⟩ rd_JAS_newLength_3 ?_
  refine jk_iadd C rd_JAS_newLength_6 ?_
  refine jk_istore_n C rd_JAS_newLength_7 (Nat.le_of_ble_eq_true rfl) rfl ?_
  refine jk_iconst C rd_JAS_newLength_8 ?_
  refine jk_iload_n C rd_JAS_newLength_9 (k := 0) rfl ?_
  have hr : 0 < (n : Int) + (if (g : Int) < (k : Int) then (k : Int) else (g : Int)) ∧ (n : Int) + (if (g : Int) < (k : Int) then (k : Int) else (g : Int)) < 1000000 := by split <;> omega
  refine jr_icmp_ge C rd_JAS_newLength_10 (tgt := 21) rfl ⟨by omega, by omega⟩ ⟨by omega, by omega⟩ (fun hc => absurd hr.1 hc) (fun _ => ?_)
  refine jk_iload_n C rd_JAS_newLength_13 (k := 0) rfl ?_
  refine jm_ldci C (x := 2147483639) rfl kw_JAS_200 rd_JAS_newLength_14 ?_
  refine jr_icmp_gt C rd_JAS_newLength_16 (tgt := 21) rfl ⟨by omega, by omega⟩ ⟨by omega, by omega⟩ (fun hc => absurd hc (by omega)) (fun _ => ?_)
  refine jk_iload_n C rd_JAS_newLength_19 (k := 0) rfl ?_
  exact jm_ret_i C hw ⟨rfl, rfl⟩ (Nat.le_refl _) (Nat.le_refl _) rd_JAS_newLength_20
set_option maxHeartbeats 1000000 in
theorem ct_JArr_copyOC (hZ : jl_ZK Z sq iad z0 zi mi) {M : jm_M} {b n k : Nat} {g : Nat → Option Nat} (hb : M b = some (jm_Q cO n g)) (hn : n ≤ k) (hk : k < 1000) (hel : ∀ y, (∃ i, i < n ∧ g i = some y) → jl_el iad M y) : jm_Met l D jk_cl (jl_ty cI cR cO cB) Z mn_JArr_copyOC (.code mn_JArr_copyOC mb_JArr_copyOC 4 (some (.array (.object "java/lang/Object"))) :: jk_WA) (jk_rx 1 1 k 60) [.ref b, jk_V ((k : Int)), .ref mi] M (fun v M' => ∃ q, v = some (.ref q) ∧ M q = none ∧ M' = jm_up M q (jm_Q cO k (va_cpy g (fun _ => none) 0 0 n))) 1 k := by
  refine jm_body (by decide +kernel) (fun p ev s m args below meth cod w hw hz hin C => ?_) (Nat.le_of_ble_eq_true rfl)
  refine jk_aload_n C rd_JArr_copyOC_0 (k := 2) rfl ?_
  refine jm_ldcM C (hZ.2 _ s s.heap hz).2.2.2.2.2.2.2.2 lk_JArr_110 rd_JArr_copyOC_1 ?_
  refine jr_acmp_ne C rd_JArr_copyOC_3 (rx := some mi) (ry := some mi) (tgt := 13) rfl (fun hc => absurd rfl hc) (fun _ => ?_)
  refine jk_iload_n C rd_JArr_copyOC_6 (k := 1) rfl ?_
  refine jm_newq C hw (hZ.2 _ s s.heap hz).2.2.2.2.2.2.1 (n := k) rfl (by omega) 2 rfl lk_JArr_2 ⟨by dsimp only [jk_rx]; omega, by dsimp only [jk_rx]; omega⟩ rd_JArr_copyOC_7 (fun q w1 hq hw1 => ?_)
  obtain ⟨M1, hM1⟩ : ∃ Mx : jm_M, Mx = jm_up M q (jm_Q cO k (fun _ => none)) := ⟨_, rfl⟩
  replace hw1 : jm_lk w1 = M1 := by rw [hM1]; exact hw1
  have hne1_b := jm_nen hb hq
  have hc1_b := jm_keep hM1 hb hne1_b
  have hc1_q := jm_this hM1
  refine jk_goto C rd_JArr_copyOC_10 (tgt := 24) rfl ?_
  refine jr_astore_n C rd_JArr_copyOC_24 (Nat.le_of_ble_eq_true rfl) rfl ?_
  refine jk_aload_n C rd_JArr_copyOC_25 (k := 1) rfl ?_
  refine jk_iconst C rd_JArr_copyOC_26 ?_
  refine jk_aload_n C rd_JArr_copyOC_27 (k := 0) rfl ?_
  refine jk_iconst C rd_JArr_copyOC_28 ?_
  refine jk_aload_n C rd_JArr_copyOC_29 (k := 1) rfl ?_
  refine jm_qlen C hw1 2 hc1_b rfl rd_JArr_copyOC_30 ?_
  refine jk_iload_n C rd_JArr_copyOC_31 (k := 2) rfl ?_
  refine jm_mmin C ⟨by omega, by omega⟩ ⟨by omega, by omega⟩ lk_JArr_304 (Nat.le_of_ble_eq_true rfl) (Nat.le_of_ble_eq_true rfl) ⟨by dsimp only [jk_rx]; omega, by dsimp only [jk_rx]; omega⟩ rd_JArr_copyOC_32 ?_
  rw [if_neg (by omega : ¬ (k : Int) < (n : Int))]
  refine jm_copyq C hw1 2 hc1_b hc1_q rfl 0 0 n (by omega) (by omega) (by omega) (by omega) (fun H locs hP hS i hi y hy => ?_) lk_JArr_150 tw_acopy xw_acopy iw_Sys (Nat.le_of_ble_eq_true rfl) (Nat.le_trans (Nat.le_of_eq (Nat.zero_add _)) jl_nfw) rd_JArr_copyOC_35 (fun w3 hw3 => ?_)
  · refine jl_any hZ hz C.2.1 hw1 (jl_el.mono (hel y ?_) (fun b e hb => by rw [hM1]; exact jm_le.new hq b e hb)) hP hS
    exact ⟨0 + i, by omega, hy⟩
  · refine jk_aload_n C rd_JArr_copyOC_38 (k := 0) rfl ?_
    refine jm_ret_q C rfl (Or.inr ⟨_, rfl⟩) (Or.inr ⟨_, rfl⟩) hw3 ⟨q, rfl, hq, ?_⟩ (by omega) (by omega) rd_JArr_copyOC_39
    rw [hM1, jm_up_up]
set_option maxHeartbeats 1000000 in
theorem ct_JArr_copyO (hZ : jl_ZK Z sq iad z0 zi mi) {M : jm_M} {b n k : Nat} {g : Nat → Option Nat} (hb : M b = some (jm_Q cO n g)) (hn : n ≤ k) (hk : k < 1000) (hel : ∀ y, (∃ i, i < n ∧ g i = some y) → jl_el iad M y) : jm_Met l D jk_cl (jl_ty cI cR cO cB) Z mn_JArr_copyO (.code mn_JArr_copyO mb_JArr_copyO 2 (some (.array (.object "java/lang/Object"))) :: jk_WA) (jk_rx 2 1 k 83) [.ref b, jk_V ((k : Int))] M (fun v M' => ∃ q, v = some (.ref q) ∧ M q = none ∧ M' = jm_up M q (jm_Q cO k (va_cpy g (fun _ => none) 0 0 n))) 1 k := by
  refine jm_body (by decide +kernel) (fun p ev s m args below meth cod w hw hz hin C => ?_) (Nat.le_of_ble_eq_true rfl)
  refine jk_aload_n C rd_JArr_copyO_0 (k := 0) rfl ?_
  refine jk_iload_n C rd_JArr_copyO_1 (k := 1) rfl ?_
  refine jk_aload_n C rd_JArr_copyO_2 (k := 0) rfl ?_
  refine jm_getC C hw hb (t0 := 2) rfl (hZ.2 _ s s.heap hz).2.2.2.2.2.2.2.1 (hZ.2 _ s s.heap hz).2.2.2.2.2.2.2.2 lk_JArr_86 gw_sel gw_inst gw_nat (Nat.le_of_ble_eq_true rfl) (Nat.le_of_ble_eq_true rfl) rd_JArr_copyO_3 ?_
  refine jm_callS C hZ.1.1 hz hw (ct_JArr_copyOC l D cI cR cO cB hZ hb hn hk hel) lk_JArr_300 xw_JArr_copyOC iw_JArr cw_JArr_copyOC na_JArr_copyOC ⟨Nat.le_of_ble_eq_true rfl, Nat.le_of_ble_eq_true rfl⟩ rfl (st := []) rfl (Nat.le_of_ble_eq_true rfl) rd_JArr_copyO_6 ⟨by dsimp only [jk_rx]; omega, by dsimp only [jk_rx]; omega⟩ (fun v w1 hp2 => ?_)
  obtain ⟨q, rfl, hq, hM1⟩ := hp2
  exact jm_ret_q C rfl (Or.inr ⟨_, rfl⟩) (Or.inr ⟨_, rfl⟩) hM1 ⟨q, rfl, hq, rfl⟩ (by omega) (by omega) rd_JArr_copyO_9
end AL2
