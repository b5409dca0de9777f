/-! a reader made -/
def jl_RT (r : Nat) (z : Nat) : Prop := ∃ j, j < 6 ∧ z = 8 * r + j
theorem jl_AL.nil {cO : ClassId} {z0 : Nat} {ow : Nat → Nat} {M : jm_M} {t a : Nat} (h : M a = some (.inr (14, [jk_V 0, .ref z0, jk_V 0]))) (ho : ow a = t) : jl_AL cO z0 ow M t a [] := ⟨0, z0, 0, fun _ => none, h, ho, Or.inl ⟨rfl, rfl⟩, Nat.le_refl _, by omega, fun i hi => absurd hi (Nat.not_lt_zero i)⟩
section RD0
variable (l : Launch) (D : va_G) {Z : (Nat → Prop) → State → Heap → Prop} {sq iad : Nat → Nat} {z0 zi mi : Nat} (cI cR cO cB : ClassId)
set_option maxHeartbeats 1000000 in
theorem ct_Rd_init (hZ : jl_ZK Z sq iad z0 zi mi) {M : jm_M} {ow : Nat → Nat} {r : Nat} (h1 : M r = some (.inr (13, [.null, .null, .null, .null]))) (hown : ow r = 8 * r) : jm_Met l D jk_cl (jl_ty cI cR cO cB) Z mn_Rd_init (.code mn_Rd_init mb_Rd_init 1 none :: jk_WA) (jk_rx 4 4 12 73) [.ref r] M (fun v M' => v = none ∧ ∃ (rc ro rd ri : Nat) (ow' : Nat → Nat), jl_Rd cO z0 ow' M' r rc ro rd ri [] [] [] [] ∧ jl_FrP ow M ow' M' (jl_RT r)) 4 12 := by
  refine jm_body (by decide +kernel) (fun p ev s m args below meth cod w hw hz hin C => ?_) (Nat.le_of_ble_eq_true rfl)
  refine jk_aload_n C rd_Rd_init_0 (k := 0) rfl ?_
  refine jk_objInit C lk_Rd_1 xw_obj cw_obj rd_Rd_init_1 (Nat.le_of_ble_eq_true rfl) (Nat.le_of_ble_eq_true rfl) ?_
  refine jk_aload_n C rd_Rd_init_4 (k := 0) rfl ?_
  refine jm_new C hw in_AL (ty0 := tf_AL) ty_AL lk_Rd_7 nw_AL iw_AL (ci := 14) rfl (fs := [jk_V 0, .null, jk_V 0]) (by intro j hj; rcases j with _ | _ | _ | j <;> first | rfl | omega) ⟨Nat.le_of_ble_eq_true rfl, Nat.le_of_ble_eq_true rfl⟩ rd_Rd_init_5 (fun b1 wa0 hb0 hwa0 => ?_)
  obtain ⟨M1, hM1⟩ : ∃ Mx : jm_M, Mx = jm_up M b1 (.inr (14, [jk_V 0, .null, jk_V 0])) := ⟨_, rfl⟩
  replace hwa0 : jm_lk wa0 = M1 := by rw [hM1]; exact hwa0
  have hne1_r := jm_nen h1 hb0
  have hc1_r := jm_keep hM1 h1 hne1_r
  have hc1_b1 := jm_this hM1
  refine jk_dup C rd_Rd_init_8 rfl ?_
  refine jm_callI C hZ.1.1 hz hwa0 (ct_AL_init l D cI cR cO cB hZ hc1_b1) lk_Rd_9 xw_AL_init iw_AL cw_AL_init rfl na_AL_init ⟨by dsimp only [jk_rx]; omega, by dsimp only [jk_rx]; omega⟩ rfl (st := [.ref b1, .ref r]) rfl (Nat.le_of_ble_eq_true rfl) rd_Rd_init_9 ⟨by dsimp only [jk_rx]; omega, by dsimp only [jk_rx]; omega⟩ (fun v w2 hp3 => ?_)
  obtain ⟨rfl, hW0⟩ := hp3
  obtain ⟨N0, hN0⟩ : ∃ Mx : jm_M, Mx = jm_up M1 b1 (.inr (14, [jk_V 0, .ref z0, jk_V 0])) := ⟨_, rfl⟩
  rw [← hN0] at hW0
  have hk0_r := jm_keep hN0 hc1_r hne1_r
  have hk0_b1 := jm_this hN0
  refine jm_putF C hW0 in_Rd (ty0 := tf_Rd) ty_Rd nm_Rd (ci := 13) rfl 0 (Nat.le_of_ble_eq_true rfl) lk_Rd_10 rfl (hin rfl) rfl rfl rfl hk0_r (Nat.le_of_ble_eq_true rfl) rd_Rd_init_12 (fun w4 hw4 => ?_)
  obtain ⟨M5, hM5⟩ : ∃ Mx : jm_M, Mx = jm_up N0 r (.inr (13, [.ref b1, .null, .null, .null])) := ⟨_, rfl⟩
  replace hw4 : jm_lk w4 = M5 := by rw [hM5]; exact hw4
  have hc5_b1 := jm_keep hM5 hk0_b1 hne1_r.symm
  have hc5_r := jm_this hM5
  have ho0 : (fun z => if z = b1 then 8 * r + 2 else ow z) r = 8 * r := (if_neg hne1_r).trans hown
  refine jk_aload_n C rd_Rd_init_15 (k := 0) rfl ?_
  refine jm_new C hw4 in_AL (ty0 := tf_AL) ty_AL lk_Rd_7 nw_AL iw_AL (ci := 14) rfl (fs := [jk_V 0, .null, jk_V 0]) (by intro j hj; rcases j with _ | _ | _ | j <;> first | rfl | omega) ⟨Nat.le_of_ble_eq_true rfl, Nat.le_of_ble_eq_true rfl⟩ rd_Rd_init_16 (fun b2 wa1 hb1 hwa1 => ?_)
  obtain ⟨M6, hM6⟩ : ∃ Mx : jm_M, Mx = jm_up M5 b2 (.inr (14, [jk_V 0, .null, jk_V 0])) := ⟨_, rfl⟩
  replace hwa1 : jm_lk wa1 = M6 := by rw [hM6]; exact hwa1
  have hne6_b1 := jm_nen hc5_b1 hb1
  have hc6_b1 := jm_keep hM6 hc5_b1 hne6_b1
  have hne6_r := jm_nen hc5_r hb1
  have hc6_r := jm_keep hM6 hc5_r hne6_r
  have hc6_b2 := jm_this hM6
  refine jk_dup C rd_Rd_init_19 rfl ?_
  refine jm_callI C hZ.1.1 hz hwa1 (ct_AL_init l D cI cR cO cB hZ hc6_b2) lk_Rd_9 xw_AL_init iw_AL cw_AL_init rfl na_AL_init ⟨by dsimp only [jk_rx]; omega, by dsimp only [jk_rx]; omega⟩ rfl (st := [.ref b2, .ref r]) rfl (Nat.le_of_ble_eq_true rfl) rd_Rd_init_20 ⟨by dsimp only [jk_rx]; omega, by dsimp only [jk_rx]; omega⟩ (fun v w7 hp8 => ?_)
  obtain ⟨rfl, hW1⟩ := hp8
  obtain ⟨N1, hN1⟩ : ∃ Mx : jm_M, Mx = jm_up M6 b2 (.inr (14, [jk_V 0, .ref z0, jk_V 0])) := ⟨_, rfl⟩
  rw [← hN1] at hW1
  have hk1_b1 := jm_keep hN1 hc6_b1 hne6_b1
  have hk1_r := jm_keep hN1 hc6_r hne6_r
  have hk1_b2 := jm_this hN1
  refine jm_putF C hW1 in_Rd (ty0 := tf_Rd) ty_Rd nm_Rd (ci := 13) rfl 1 (Nat.le_of_ble_eq_true rfl) lk_Rd_16 rfl (hin rfl) rfl rfl rfl hk1_r (Nat.le_of_ble_eq_true rfl) rd_Rd_init_23 (fun w9 hw9 => ?_)
  obtain ⟨M10, hM10⟩ : ∃ Mx : jm_M, Mx = jm_up N1 r (.inr (13, [.ref b1, .ref b2, .null, .null])) := ⟨_, rfl⟩
  replace hw9 : jm_lk w9 = M10 := by rw [hM10]; exact hw9
  have hc10_b1 := jm_keep hM10 hk1_b1 hne1_r.symm
  have hc10_b2 := jm_keep hM10 hk1_b2 hne6_r.symm
  have hc10_r := jm_this hM10
  have ho1 : (fun z => if z = b2 then 8 * r + 3 else (fun z => if z = b1 then 8 * r + 2 else ow z) z) r = 8 * r := (if_neg hne6_r).trans ((if_neg hne1_r).trans hown)
  refine jk_aload_n C rd_Rd_init_26 (k := 0) rfl ?_
  refine jm_new C hw9 in_AL (ty0 := tf_AL) ty_AL lk_Rd_7 nw_AL iw_AL (ci := 14) rfl (fs := [jk_V 0, .null, jk_V 0]) (by intro j hj; rcases j with _ | _ | _ | j <;> first | rfl | omega) ⟨Nat.le_of_ble_eq_true rfl, Nat.le_of_ble_eq_true rfl⟩ rd_Rd_init_27 (fun b3 wa2 hb2 hwa2 => ?_)
  obtain ⟨M11, hM11⟩ : ∃ Mx : jm_M, Mx = jm_up M10 b3 (.inr (14, [jk_V 0, .null, jk_V 0])) := ⟨_, rfl⟩
  replace hwa2 : jm_lk wa2 = M11 := by rw [hM11]; exact hwa2
  have hne11_b1 := jm_nen hc10_b1 hb2
  have hc11_b1 := jm_keep hM11 hc10_b1 hne11_b1
  have hne11_b2 := jm_nen hc10_b2 hb2
  have hc11_b2 := jm_keep hM11 hc10_b2 hne11_b2
  have hne11_r := jm_nen hc10_r hb2
  have hc11_r := jm_keep hM11 hc10_r hne11_r
  have hc11_b3 := jm_this hM11
  refine jk_dup C rd_Rd_init_30 rfl ?_
  refine jm_callI C hZ.1.1 hz hwa2 (ct_AL_init l D cI cR cO cB hZ hc11_b3) lk_Rd_9 xw_AL_init iw_AL cw_AL_init rfl na_AL_init ⟨by dsimp only [jk_rx]; omega, by dsimp only [jk_rx]; omega⟩ rfl (st := [.ref b3, .ref r]) rfl (Nat.le_of_ble_eq_true rfl) rd_Rd_init_31 ⟨by dsimp only [jk_rx]; omega, by dsimp only [jk_rx]; omega⟩ (fun v w12 hp13 => ?_)
  obtain ⟨rfl, hW2⟩ := hp13
  obtain ⟨N2, hN2⟩ : ∃ Mx : jm_M, Mx = jm_up M11 b3 (.inr (14, [jk_V 0, .ref z0, jk_V 0])) := ⟨_, rfl⟩
  rw [← hN2] at hW2
  have hk2_b1 := jm_keep hN2 hc11_b1 hne11_b1
  have hk2_b2 := jm_keep hN2 hc11_b2 hne11_b2
  have hk2_r := jm_keep hN2 hc11_r hne11_r
  have hk2_b3 := jm_this hN2
  refine jm_putF C hW2 in_Rd (ty0 := tf_Rd) ty_Rd nm_Rd (ci := 13) rfl 2 (Nat.le_of_ble_eq_true rfl) lk_Rd_19 rfl (hin rfl) rfl rfl rfl hk2_r (Nat.le_of_ble_eq_true rfl) rd_Rd_init_34 (fun w14 hw14 => ?_)
  obtain ⟨M15, hM15⟩ : ∃ Mx : jm_M, Mx = jm_up N2 r (.inr (13, [.ref b1, .ref b2, .ref b3, .null])) := ⟨_, rfl⟩
  replace hw14 : jm_lk w14 = M15 := by rw [hM15]; exact hw14
  have hc15_b1 := jm_keep hM15 hk2_b1 hne1_r.symm
  have hc15_b2 := jm_keep hM15 hk2_b2 hne6_r.symm
  have hc15_b3 := jm_keep hM15 hk2_b3 hne11_r.symm
  have hc15_r := jm_this hM15
  have ho2 : (fun z => if z = b3 then 8 * r + 4 else (fun z => if z = b2 then 8 * r + 3 else (fun z => if z = b1 then 8 * r + 2 else ow z) z) z) r = 8 * r := (if_neg hne11_r).trans ((if_neg hne6_r).trans ((if_neg hne1_r).trans hown))
  refine jk_aload_n C rd_Rd_init_37 (k := 0) rfl ?_
  refine jm_new C hw14 in_AL (ty0 := tf_AL) ty_AL lk_Rd_7 nw_AL iw_AL (ci := 14) rfl (fs := [jk_V 0, .null, jk_V 0]) (by intro j hj; rcases j with _ | _ | _ | j <;> first | rfl | omega) ⟨Nat.le_of_ble_eq_true rfl, Nat.le_of_ble_eq_true rfl⟩ rd_Rd_init_38 (fun b4 wa3 hb3 hwa3 => ?_)
  obtain ⟨M16, hM16⟩ : ∃ Mx : jm_M, Mx = jm_up M15 b4 (.inr (14, [jk_V 0, .null, jk_V 0])) := ⟨_, rfl⟩
  replace hwa3 : jm_lk wa3 = M16 := by rw [hM16]; exact hwa3
  have hne16_b1 := jm_nen hc15_b1 hb3
  have hc16_b1 := jm_keep hM16 hc15_b1 hne16_b1
  have hne16_b2 := jm_nen hc15_b2 hb3
  have hc16_b2 := jm_keep hM16 hc15_b2 hne16_b2
  have hne16_b3 := jm_nen hc15_b3 hb3
  have hc16_b3 := jm_keep hM16 hc15_b3 hne16_b3
  have hne16_r := jm_nen hc15_r hb3
  have hc16_r := jm_keep hM16 hc15_r hne16_r
  have hc16_b4 := jm_this hM16
  refine jk_dup C rd_Rd_init_41 rfl ?_
  refine jm_callI C hZ.1.1 hz hwa3 (ct_AL_init l D cI cR cO cB hZ hc16_b4) lk_Rd_9 xw_AL_init iw_AL cw_AL_init rfl na_AL_init ⟨by dsimp only [jk_rx]; omega, by dsimp only [jk_rx]; omega⟩ rfl (st := [.ref b4, .ref r]) rfl (Nat.le_of_ble_eq_true rfl) rd_Rd_init_42 ⟨by dsimp only [jk_rx]; omega, by dsimp only [jk_rx]; omega⟩ (fun v w17 hp18 => ?_)
  obtain ⟨rfl, hW3⟩ := hp18
  obtain ⟨N3, hN3⟩ : ∃ Mx : jm_M, Mx = jm_up M16 b4 (.inr (14, [jk_V 0, .ref z0, jk_V 0])) := ⟨_, rfl⟩
  rw [← hN3] at hW3
  have hk3_b1 := jm_keep hN3 hc16_b1 hne16_b1
  have hk3_b2 := jm_keep hN3 hc16_b2 hne16_b2
  have hk3_b3 := jm_keep hN3 hc16_b3 hne16_b3
  have hk3_r := jm_keep hN3 hc16_r hne16_r
  have hk3_b4 := jm_this hN3
  refine jm_putF C hW3 in_Rd (ty0 := tf_Rd) ty_Rd nm_Rd (ci := 13) rfl 3 (Nat.le_of_ble_eq_true rfl) lk_Rd_22 rfl (hin rfl) rfl rfl rfl hk3_r (Nat.le_of_ble_eq_true rfl) rd_Rd_init_45 (fun w19 hw19 => ?_)
  obtain ⟨M20, hM20⟩ : ∃ Mx : jm_M, Mx = jm_up N3 r (.inr (13, [.ref b1, .ref b2, .ref b3, .ref b4])) := ⟨_, rfl⟩
  replace hw19 : jm_lk w19 = M20 := by rw [hM20]; exact hw19
  have hc20_b1 := jm_keep hM20 hk3_b1 hne1_r.symm
  have hc20_b2 := jm_keep hM20 hk3_b2 hne6_r.symm
  have hc20_b3 := jm_keep hM20 hk3_b3 hne11_r.symm
  have hc20_b4 := jm_keep hM20 hk3_b4 hne16_r.symm
  have hc20_r := jm_this hM20
  have ho3 : (fun z => if z = b4 then 8 * r + 5 else (fun z => if z = b3 then 8 * r + 4 else (fun z => if z = b2 then 8 * r + 3 else (fun z => if z = b1 then 8 * r + 2 else ow z) z) z) z) r = 8 * r := (if_neg hne16_r).trans ((if_neg hne11_r).trans ((if_neg hne6_r).trans ((if_neg hne1_r).trans hown)))
  refine jm_ret_v C hw19 ⟨rfl, b1, b2, b3, b4, (fun z => if z = b4 then 8 * r + 5 else (fun z => if z = b3 then 8 * r + 4 else (fun z => if z = b2 then 8 * r + 3 else (fun z => if z = b1 then 8 * r + 2 else ow z) z) z) z), ⟨hc20_r, ho3, jl_AL.nil hc20_b1 ((if_neg hne16_b1).trans ((if_neg hne11_b1).trans ((if_neg hne6_b1).trans (if_pos rfl)))), jl_AL.nil hc20_b2 ((if_neg hne16_b2).trans ((if_neg hne11_b2).trans (if_pos rfl))), jl_AL.nil hc20_b3 ((if_neg hne16_b3).trans (if_pos rfl)), jl_AL.nil hc20_b4 (if_pos rfl)⟩, ?_⟩ (by omega) (by omega) rd_Rd_init_48
  exact ((((((((((((jl_FrP.new (t := 8 * r + 2) (T := jl_RT r) hM1 hb0).trans ((jl_Fr.put (ow := (fun z => if z = b1 then 8 * r + 2 else ow z)) (t := 8 * r + 2) hN0 (if_pos rfl)).wide (fun z hz => ⟨2, by omega, hz⟩))).trans ((jl_Fr.put (t := 8 * r) hM5 ho0).wide (fun z hz => ⟨0, by omega, by rw [Nat.add_zero]; exact hz⟩))).trans (jl_FrP.new (t := 8 * r + 3) (T := jl_RT r) hM6 hb1)).trans ((jl_Fr.put (ow := (fun z => if z = b2 then 8 * r + 3 else (fun z => if z = b1 then 8 * r + 2 else ow z) z)) (t := 8 * r + 3) hN1 (if_pos rfl)).wide (fun z hz => ⟨3, by omega, hz⟩))).trans ((jl_Fr.put (t := 8 * r) hM10 ho1).wide (fun z hz => ⟨0, by omega, by rw [Nat.add_zero]; exact hz⟩))).trans (jl_FrP.new (t := 8 * r + 4) (T := jl_RT r) hM11 hb2)).trans ((jl_Fr.put (ow := (fun z => if z = b3 then 8 * r + 4 else (fun z => if z = b2 then 8 * r + 3 else (fun z => if z = b1 then 8 * r + 2 else ow z) z) z)) (t := 8 * r + 4) hN2 (if_pos rfl)).wide (fun z hz => ⟨4, by omega, hz⟩))).trans ((jl_Fr.put (t := 8 * r) hM15 ho2).wide (fun z hz => ⟨0, by omega, by rw [Nat.add_zero]; exact hz⟩))).trans (jl_FrP.new (t := 8 * r + 5) (T := jl_RT r) hM16 hb3)).trans ((jl_Fr.put (ow := (fun z => if z = b4 then 8 * r + 5 else (fun z => if z = b3 then 8 * r + 4 else (fun z => if z = b2 then 8 * r + 3 else (fun z => if z = b1 then 8 * r + 2 else ow z) z) z) z)) (t := 8 * r + 5) hN3 (if_pos rfl)).wide (fun z hz => ⟨5, by omega, hz⟩))).trans ((jl_Fr.put (t := 8 * r) hM20 ho3).wide (fun z hz => ⟨0, by omega, by rw [Nat.add_zero]; exact hz⟩)))
end RD0
