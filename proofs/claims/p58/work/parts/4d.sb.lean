/-! texts made of a builder, read -/
/-- a text tx at the cell a -/
def jl_Tx (cB : ClassId) (ow : Nat → Nat) (M : jm_M) (t a : Nat) (tx : List Int) : Prop := ∃ (v : Nat) (f : Int → Int), M a = some (.inr (17, [.ref v, jk_V 0, jk_V 0, jk_V 0])) ∧ ow a = t ∧ M v = some (jk_W cB tx.length f) ∧ ow v = t ∧ (∀ i : Nat, i < tx.length → f (i : Int) = tx.getD i 0 ∧ 0 ≤ f (i : Int) ∧ f (i : Int) < 128) ∧ tx.length ≤ 1100
theorem jl_Tx.fr {cB : ClassId} {ow ow' : Nat → Nat} {M M' : jm_M} {T : Nat → Prop} {t a : Nat} {tx : List Int} (h : jl_Tx cB ow M t a tx) (hF : jl_FrP ow M ow' M' T) (hne : ¬ T t) : jl_Tx cB ow' M' t a tx := by
  obtain ⟨v, f, h1, h2, h3, h4, h5⟩ := h
  exact ⟨v, f, (hF _ _ h1).2.2 (by rw [h2]; exact hne), (hF _ _ h1).1.trans h2, (hF _ _ h3).2.2 (by rw [h4]; exact hne), (hF _ _ h3).1.trans h4, h5⟩
theorem bw_nm {D : va_G} {s : State} {cI cR cO cB : ClassId} (hK : va_K D jk_cl (jl_ty cI cR cO cB) s) : s.vm.findClass "[B" = some cB := (hK.2 3 _ rfl).2
section SB4
variable (l : Launch) (D : va_G) {Z : (Nat → Prop) → State → Heap → Prop} {sq iad : Nat → Nat} {z0 zi mi : Nat} (cI cR cO cB : ClassId)
set_option maxHeartbeats 1000000 in
theorem ct_ASB_getValue (hZ : jl_ZK Z sq iad z0 zi mi) {M : jm_M} {a v0 n : Nat} {x2 : Value} (h1 : M a = some (.inr (16, [.ref v0, jk_V 0, x2, jk_V (n : Int)]))) : jm_Met l D jk_cl (jl_ty cI cR cO cB) Z mn_ASB_getValue (.code mn_ASB_getValue mb_ASB_getValue 1 (some (.array .byte)) :: jk_WA) (jk_rx 0 0 0 0) [.ref a] M (fun v M' => v = some (.ref v0) ∧ M' = M) 0 0 := by
  refine jm_body (by decide +kernel) (fun p ev s m args below meth cod w hw hz hin C => ?_) (Nat.le_of_ble_eq_true rfl)
  refine jk_aload_n C rd_ASB_getValue_0 (k := 0) rfl ?_
  refine jm_get C hw in_SB (ci := 16) rfl 0 (Nat.le_of_ble_eq_true rfl) lk_ASB_15 h1 rfl rd_ASB_getValue_1 ?_
  exact jm_ret_q C rfl (Or.inr ⟨_, rfl⟩) (Or.inr ⟨_, rfl⟩) hw ⟨rfl, rfl⟩ (by omega) (by omega) rd_ASB_getValue_4
set_option maxHeartbeats 1000000 in
theorem ct_ASB_length (hZ : jl_ZK Z sq iad z0 zi mi) {M : jm_M} {a v0 n : Nat} {x2 : Value} (h1 : M a = some (.inr (16, [.ref v0, jk_V 0, x2, jk_V (n : Int)]))) : jm_Met l D jk_cl (jl_ty cI cR cO cB) Z mn_ASB_length (.code mn_ASB_length mb_ASB_length 1 (some .int) :: jk_WA) (jk_rx 0 0 0 0) [.ref a] M (fun v M' => v = some (jk_V (n : Int)) ∧ M' = M) 0 0 := by
  refine jm_body (by decide +kernel) (fun p ev s m args below meth cod w hw hz hin C => ?_) (Nat.le_of_ble_eq_true rfl)
  refine jk_aload_n C rd_ASB_length_0 (k := 0) rfl ?_
  refine jm_get C hw in_SB (ci := 16) rfl 3 (Nat.le_of_ble_eq_true rfl) lk_ASB_79 h1 rfl rd_ASB_length_1 ?_
  exact jm_ret_i C hw ⟨rfl, rfl⟩ (by omega) (by omega) rd_ASB_length_4
set_option maxHeartbeats 1000000 in
theorem ct_SB_length (hZ : jl_ZK Z sq iad z0 zi mi) {M : jm_M} {a v0 n : Nat} {x2 : Value} (h1 : M a = some (.inr (16, [.ref v0, jk_V 0, x2, jk_V (n : Int)]))) : jm_Met l D jk_cl (jl_ty cI cR cO cB) Z mn_SB_length (.code mn_SB_length mb_SB_length 1 (some .int) :: jk_WA) (jk_rx 1 0 0 20) [.ref a] M (fun v M' => v = some (jk_V (n : Int)) ∧ M' = M) 0 0 := by
  refine jm_body (by decide +kernel) (fun p ev s m args below meth cod w hw hz hin C => ?_) (Nat.le_of_ble_eq_true rfl)
  refine jk_aload_n C rd_SB_length_0 (k := 0) rfl ?_
  refine jm_callSU C (q := ("java/lang/StringBuilder", tb_SB, 4)) (ci := 16) hZ.1.1 hz hw (ct_ASB_length l D cI cR cO cB hZ h1) (by simp only [List.mem_cons, List.not_mem_nil, or_false, forall_eq_or_imp, forall_eq]; exact ⟨lk_SB_343, sm_ASB_length, uw_SB, xw_ASB_length, iw_ASB⟩) cw_ASB_length (by decide +kernel) na_ASB_length ⟨Nat.le_of_ble_eq_true rfl, Nat.le_of_ble_eq_true rfl⟩ rfl h1 rfl (st := []) rfl (Nat.le_of_ble_eq_true rfl) rd_SB_length_1 ⟨Nat.le_of_ble_eq_true rfl, Nat.le_of_ble_eq_true rfl⟩ (fun v w1 hp2 => ?_)
  obtain ⟨rfl, hk1⟩ := hp2
  exact jm_ret_i C hk1 ⟨rfl, rfl⟩ (by omega) (by omega) rd_SB_length_4
set_option maxHeartbeats 1000000 in
theorem ct_JArr_checkLength (hZ : jl_ZK Z sq iad z0 zi mi) {M : jm_M} {n : Nat} (hn : n < 5000) : jm_Met l D jk_cl (jl_ty cI cR cO cB) Z mn_JArr_checkLength (.code mn_JArr_checkLength mb_JArr_checkLength 2 none :: jk_WA) (jk_rx 0 0 0 0) [jk_V 0, jk_V ((n : Int))] M (fun v M' => v = none ∧ M' = M) 0 0 := by
  refine jm_body (by decide +kernel) (fun p ev s m args below meth cod w hw hz hin C => ?_) (Nat.le_of_ble_eq_true rfl)
  refine jk_iload_n C rd_JArr_checkLength_0 (k := 1) rfl ?_
  refine jk_iload_n C rd_JArr_checkLength_1 (k := 0) rfl ?_
  refine jr_icmp_ge C rd_JArr_checkLength_2 (tgt := 37) rfl ⟨by omega, by omega⟩ ⟨by omega, by omega⟩ (fun _ => ?_) (fun hc => absurd hc (by omega))
  exact jm_ret_v C hw ⟨rfl, rfl⟩ (by omega) (by omega) rd_JArr_checkLength_37
theorem jl_mn {n cap : Nat} (h : n ≤ cap) : (if (n : Int) < (cap : Int) then (n : Int) else (cap : Int)) = (n : Int) := by
  split <;> omega
set_option maxHeartbeats 1000000 in
theorem ct_JArr_copyOfRangeByte (hZ : jl_ZK Z sq iad z0 zi mi) {M : jm_M} {b cap n : Nat} {f : Int → Int} (hb : M b = some (jk_W cB cap f)) (hn : n ≤ cap) (hcap : cap ≤ 1100) (hfit : ∀ i : Int, 0 ≤ i → i < cap → 0 ≤ f i ∧ f i < 128) : jm_Met l D jk_cl (jl_ty cI cR cO cB) Z mn_JArr_copyOfRangeByte (.code mn_JArr_copyOfRangeByte mb_JArr_copyOfRangeByte 5 (some (.array .byte)) :: jk_WA) (jk_rx 1 1 n 60) [.ref b, jk_V 0, jk_V ((n : Int))] M (fun v M' => ∃ (q : Nat) (g : Int → Int), v = some (.ref q) ∧ M q = none ∧ M' = jm_up M q (jk_W cB n g) ∧ ∀ i : Int, 0 ≤ i → i < n → g i = f i) 1 n := by
  refine jm_body (by decide +kernel) (fun p ev s m args below meth cod w hw hz hin C => ?_) (Nat.le_of_ble_eq_true rfl)
  refine jk_iload_n C rd_JArr_copyOfRangeByte_0 (k := 1) rfl ?_
  refine jk_iload_n C rd_JArr_copyOfRangeByte_1 (k := 2) rfl ?_
  refine jm_callS C hZ.1.1 hz hw (ct_JArr_checkLength l D cI cR cO cB hZ (M := M) (n := n) (by omega)) lk_JArr_343 xw_JArr_checkLength iw_JArr cw_JArr_checkLength na_JArr_checkLength ⟨by dsimp only [jk_rx]; omega, by dsimp only [jk_rx]; omega⟩ rfl (st := []) rfl (Nat.le_of_ble_eq_true rfl) rd_JArr_copyOfRangeByte_2 ⟨by dsimp only [jk_rx]; omega, by dsimp only [jk_rx]; omega⟩ (fun v w1 hp2 => ?_)
  obtain ⟨rfl, hk1⟩ := hp2
  refine jk_iload_n C rd_JArr_copyOfRangeByte_5 (k := 2) rfl ?_
  refine jk_iload_n C rd_JArr_copyOfRangeByte_6 (k := 1) rfl ?_
  refine jk_isub C rd_JArr_copyOfRangeByte_7 ?_
  rw [Int.sub_zero]
  refine jk_istore_n C rd_JArr_copyOfRangeByte_8 (Nat.le_of_ble_eq_true rfl) rfl ?_
  refine jk_iload_n C rd_JArr_copyOfRangeByte_9 (k := 0) rfl ?_
  refine jm_newb C hk1 (n := n) rfl (by omega) 3 rfl aw_byte ⟨by dsimp only [jk_rx]; omega, by dsimp only [jk_rx]; omega⟩ rd_JArr_copyOfRangeByte_10 (fun q w1 hq hw1 => ?_)
  obtain ⟨M3, hM3⟩ : ∃ Mx : jm_M, Mx = jm_up M q (jk_W cB n (fun _ => 0)) := ⟨_, rfl⟩
  replace hw1 : jm_lk w1 = M3 := by rw [hM3]; exact hw1
  have hne3_b := jm_nen hb hq
  have hc3_b := jm_keep hM3 hb hne3_b
  have hc3_q := jm_this hM3
  refine jr_astore C rd_JArr_copyOfRangeByte_12 (Nat.le_of_ble_eq_true rfl) rfl ?_
  refine jk_aload_n C rd_JArr_copyOfRangeByte_14 (k := 2) rfl ?_
  refine jk_iload_n C rd_JArr_copyOfRangeByte_15 (k := 3) rfl ?_
  refine jk_aload C rd_JArr_copyOfRangeByte_16 (k := 0) rfl ?_
  refine jk_iconst C rd_JArr_copyOfRangeByte_18 ?_
  refine jk_aload_n C rd_JArr_copyOfRangeByte_19 (k := 2) rfl ?_
  refine jm_blen C hw1 3 hc3_b rfl rd_JArr_copyOfRangeByte_20 ?_
  refine jk_iload_n C rd_JArr_copyOfRangeByte_21 (k := 3) rfl ?_
  refine jk_isub C rd_JArr_copyOfRangeByte_22 ?_
  rw [Int.sub_zero]
  refine jk_iload_n C rd_JArr_copyOfRangeByte_23 (k := 1) rfl ?_
  refine jm_mmin C ⟨by omega, by omega⟩ ⟨by omega, by omega⟩ lk_JArr_304 (Nat.le_of_ble_eq_true rfl) (Nat.le_of_ble_eq_true rfl) ⟨by dsimp only [jk_rx]; omega, by dsimp only [jk_rx]; omega⟩ rd_JArr_copyOfRangeByte_24 ?_
  rw [jl_mn hn]
  refine jm_copyb C hw1 3 hc3_b hc3_q rfl 0 0 n (by omega) (by omega) (by omega) (by omega) hfit lk_JArr_150 tw_acopy xw_acopy iw_Sys (Nat.le_of_ble_eq_true rfl) (Nat.le_trans (Nat.le_of_eq (Nat.zero_add _)) jl_nfw) rd_JArr_copyOfRangeByte_27 (fun w3 hw3 => ?_)
  refine jk_aload C rd_JArr_copyOfRangeByte_30 (k := 0) rfl ?_
  refine jm_ret_q C rfl (Or.inr ⟨_, rfl⟩) (Or.inr ⟨_, rfl⟩) hw3 ⟨q, _, rfl, hq, by rw [hM3, jm_up_up], fun i h0 h1 => ?_⟩ (by omega) (by omega) rd_JArr_copyOfRangeByte_32
  unfold jl_cpb
  rw [if_pos (by omega), show ((0 : Nat) : Int) + (i - ((0 : Nat) : Int)) = i by omega]
set_option maxHeartbeats 1000000 in
theorem ct_JArr_copyOfRange (hZ : jl_ZK Z sq iad z0 zi mi) {M : jm_M} {b cap n : Nat} {f : Int → Int} (hb : M b = some (jk_W cB cap f)) (hn : n ≤ cap) (hcap : cap ≤ 1100) (hfit : ∀ i : Int, 0 ≤ i → i < cap → 0 ≤ f i ∧ f i < 128) : jm_Met l D jk_cl (jl_ty cI cR cO cB) Z mn_JArr_copyOfRange (.code mn_JArr_copyOfRange mb_JArr_copyOfRange 3 (some (.array .byte)) :: jk_WA) (jk_rx 2 1 n 84) [.ref b, jk_V 0, jk_V ((n : Int))] M (fun v M' => ∃ (q : Nat) (g : Int → Int), v = some (.ref q) ∧ M q = none ∧ M' = jm_up M q (jk_W cB n g) ∧ ∀ i : Int, 0 ≤ i → i < n → g i = f i) 1 n := by
  refine jm_body (by decide +kernel) (fun p ev s m args below meth cod w hw hz hin C => ?_) (Nat.le_of_ble_eq_true rfl)
  refine jk_iload_n C rd_JArr_copyOfRange_0 (k := 1) rfl ?_
  refine jr_if_ne C rd_JArr_copyOfRange_1 (tgt := 10) rfl ⟨by omega, by omega⟩ (fun hc => absurd rfl hc) (fun _ => ?_)
  refine jk_iload_n C rd_JArr_copyOfRange_4 (k := 2) rfl ?_
  refine jk_aload_n C rd_JArr_copyOfRange_5 (k := 0) rfl ?_
  refine jm_blen C hw 3 hb rfl rd_JArr_copyOfRange_6 ?_
  refine jr_icmp_eq C rd_JArr_copyOfRange_7 (tgt := 17) rfl ⟨by omega, by omega⟩ ⟨by omega, by omega⟩ (fun hc => ?_) (fun hc => ?_)
  · obtain rfl : n = cap := by omega
    refine jk_aload_n C rd_JArr_copyOfRange_17 (k := 0) rfl ?_
    refine jm_cloneb C hw 3 hb rfl (by omega) hfit (bw_ca hZ.1 hz) lk_JArr_310 bw_same bw_nat bw_inst bw_sel (Nat.le_of_ble_eq_true rfl) (Nat.le_of_ble_eq_true rfl) ⟨by dsimp only [jk_rx]; omega, by dsimp only [jk_rx]; omega⟩ rd_JArr_copyOfRange_18 (fun q w1 hq hw1 => ?_)
    obtain ⟨M1, hM1⟩ : ∃ Mx : jm_M, Mx = jm_up M q (jk_W cB n f) := ⟨_, rfl⟩
    replace hw1 : jm_lk w1 = M1 := by rw [hM1]; exact hw1
    have hne1_b := jm_nen hb hq
    have hc1_b := jm_keep hM1 hb hne1_b
    have hc1_q := jm_this hM1
    refine jr_castA C (ty := .byte) hw1 3 hc1_q (bw_nm C.2.1) lk_JArr_311 rd_JArr_copyOfRange_21 ?_
    exact jm_ret_q C rfl (Or.inr ⟨_, rfl⟩) (Or.inr ⟨_, rfl⟩) hw1 ⟨q, f, rfl, hq, hM1, fun i _ _ => rfl⟩ (by omega) (by omega) rd_JArr_copyOfRange_24
  · refine jk_aload_n C rd_JArr_copyOfRange_10 (k := 0) rfl ?_
    refine jk_iload_n C rd_JArr_copyOfRange_11 (k := 1) rfl ?_
    refine jk_iload_n C rd_JArr_copyOfRange_12 (k := 2) rfl ?_
    refine jm_callS C hZ.1.1 hz hw (ct_JArr_copyOfRangeByte l D cI cR cO cB hZ hb hn hcap hfit) lk_JArr_339 xw_JArr_copyOfRangeByte iw_JArr cw_JArr_copyOfRangeByte na_JArr_copyOfRangeByte ⟨by dsimp only [jk_rx]; omega, by dsimp only [jk_rx]; omega⟩ rfl (st := []) rfl (Nat.le_of_ble_eq_true rfl) rd_JArr_copyOfRange_13 ⟨by dsimp only [jk_rx]; omega, by dsimp only [jk_rx]; omega⟩ (fun v w2 hp3 => ?_)
    obtain ⟨q, g, rfl, hq, hM2, hg⟩ := hp3
    exact jm_ret_q C rfl (Or.inr ⟨_, rfl⟩) (Or.inr ⟨_, rfl⟩) hM2 ⟨q, g, rfl, hq, rfl, hg⟩ (by omega) (by omega) rd_JArr_copyOfRange_16
set_option maxHeartbeats 1000000 in
theorem ct_JStr_init2 (hZ : jl_ZK Z sq iad z0 zi mi) {M : jm_M} {ow : Nat → Nat} {t t2 a q k0 : Nat} {tx : List Int} (hS : jl_SB cB ow M t2 a tx k0) (hs : M q = some (.inr (17, [.null, jk_V 0, jk_V 0, jk_V 0]))) (hown : ow q = t) : jm_Met l D jk_cl (jl_ty cI cR cO cB) Z mn_JStr_init2 (.code mn_JStr_init2 mb_JStr_init2 5 none :: jk_WA) (jk_rx 3 1 1100 106) [.ref q, .ref a, .null] M (fun v M' => v = none ∧ ∃ ow', jl_Tx cB ow' M' t q tx ∧ jl_Fr ow M ow' M' t) 1 1100 := by
  refine jm_body (by decide +kernel) (fun p ev s m args below meth cod w hw hz hin C => ?_) (Nat.le_of_ble_eq_true rfl)
  obtain ⟨v0, cap, f, ml, h1, h2, h3, h4, h5, h6, h7⟩ := id hS
  have h72 : tx.length ≤ cap := h7.2.1
  refine jk_aload_n C rd_JStr_init2_0 (k := 0) rfl ?_
  refine jk_objInit C lk_JStr_1 xw_obj cw_obj rd_JStr_init2_1 (Nat.le_of_ble_eq_true rfl) (Nat.le_of_ble_eq_true rfl) ?_
  refine jk_aload_n C rd_JStr_init2_4 (k := 1) rfl ?_
  refine jm_callU C (q := ("java/lang/StringBuilder", tb_SB, 4)) (ci := 16) (x := mn_ASB_getValue) (owner := "java/lang/AbstractStringBuilder") hZ.1.1 hz hw (ct_ASB_getValue l D cI cR cO cB hZ h1) (by simp only [List.mem_cons, List.not_mem_nil, or_false, forall_eq_or_imp, forall_eq]; exact ⟨lk_JStr_552, sm_ASB_getValue, sw_SB_ASB_getValue, xw_ASB_getValue, iw_ASB⟩) cw_ASB_getValue rfl ⟨by decide +kernel, by decide +kernel, by decide +kernel⟩ ⟨by dsimp only [jk_rx]; omega, by dsimp only [jk_rx]; omega⟩ rfl h1 rfl (st := []) rfl (Nat.le_of_ble_eq_true rfl) rd_JStr_init2_5 ⟨by dsimp only [jk_rx]; omega, by dsimp only [jk_rx]; omega⟩ (fun v w1 hp2 => ?_)
  obtain ⟨rfl, hk1⟩ := hp2
  refine jr_astore_n C rd_JStr_init2_8 (Nat.le_of_ble_eq_true rfl) rfl ?_
  refine jk_aload_n C rd_JStr_init2_9 (k := 2) rfl ?_
  refine jm_callO C (q := ("java/lang/StringBuilder", tb_SB, 4)) (ci := 16) (x := mn_ASB_length) (owner := "java/lang/AbstractStringBuilder") hZ.1.1 hz hk1 (ct_SB_length l D cI cR cO cB hZ h1) (by simp only [List.mem_cons, List.not_mem_nil, or_false, forall_eq_or_imp, forall_eq]; exact ⟨lk_JStr_549, sm_ASB_length, xw_ASB_length, sw_SB_ASB_length, xw_SB_length, iw_SB⟩) cw_SB_length cw_ASB_length na_ASB_length ⟨by dsimp only [jk_rx]; omega, by dsimp only [jk_rx]; omega⟩ rfl h1 rfl (st := []) rfl (Nat.le_of_ble_eq_true rfl) rd_JStr_init2_10 ⟨by dsimp only [jk_rx]; omega, by dsimp only [jk_rx]; omega⟩ (fun v w3 hp4 => ?_)
  obtain ⟨rfl, hk2⟩ := hp4
  refine jk_istore C rd_JStr_init2_13 (Nat.le_of_ble_eq_true rfl) rfl ?_
  refine jk_aload_n C rd_JStr_init2_15 (k := 3) rfl ?_
  refine jm_callU C (q := ("java/lang/StringBuilder", tb_SB, 4)) (ci := 16) (x := mn_ASB_isLatin1) (owner := "java/lang/AbstractStringBuilder") hZ.1.1 hz hk2 (ct_ASB_isLatin1 l D cI cR cO cB hZ h1) (by simp only [List.mem_cons, List.not_mem_nil, or_false, forall_eq_or_imp, forall_eq]; exact ⟨lk_JStr_1047, sm_ASB_isLatin1, sw_SB_ASB_isLatin1, xw_ASB_isLatin1, iw_ASB⟩) cw_ASB_isLatin1 rfl ⟨by decide +kernel, by decide +kernel, by decide +kernel⟩ ⟨by dsimp only [jk_rx]; omega, by dsimp only [jk_rx]; omega⟩ rfl h1 rfl (st := []) rfl (Nat.le_of_ble_eq_true rfl) rd_JStr_init2_16 ⟨by dsimp only [jk_rx]; omega, by dsimp only [jk_rx]; omega⟩ (fun v w5 hp6 => ?_)
  obtain ⟨rfl, hk3⟩ := hp6
  refine jr_if_eq C rd_JStr_init2_19 (tgt := 41) rfl ⟨by omega, by omega⟩ (fun hc => absurd hc (by omega)) (fun _ => ?_)
  refine jk_aload_n C rd_JStr_init2_22 (k := 2) rfl ?_
  refine jk_iconst C rd_JStr_init2_23 ?_
  refine jm_putF C hk3 in_JStr (ty0 := tf_JStr) ty_JStr nm_JStr (ci := 17) rfl 1 (Nat.le_of_ble_eq_true rfl) lk_JStr_15 rfl (hin rfl) rfl rfl rfl hs (Nat.le_of_ble_eq_true rfl) rd_JStr_init2_24 (fun w7 hw7 => ?_)
  obtain ⟨M8, hM8⟩ : ∃ Mx : jm_M, Mx = jm_up M q (.inr (17, [.null, jk_V 0, jk_V 0, jk_V 0])) := ⟨_, rfl⟩
  replace hw7 : jm_lk w7 = M8 := by rw [hM8]; exact hw7
  have hc8_a := jm_keep hM8 h1 (jm_nek h1 hs rfl)
  have hc8_q := jm_this hM8
  refine jk_aload_n C rd_JStr_init2_27 (k := 2) rfl ?_
  refine jk_aload_n C rd_JStr_init2_28 (k := 1) rfl ?_
  refine jk_iconst C rd_JStr_init2_29 ?_
  refine jk_iload C rd_JStr_init2_30 (k := 0) rfl ?_
  have h31 := jm_keep hM8 h3 (jm_nek h3 hs rfl)
  refine jm_callS C hZ.1.1 hz hw7 (ct_JArr_copyOfRange l D cI cR cO cB hZ h31 (n := tx.length) h7.2.1 h5 h7.1) lk_JStr_54 xw_JArr_copyOfRange iw_JArr cw_JArr_copyOfRange na_JArr_copyOfRange ⟨by dsimp only [jk_rx]; omega, by dsimp only [jk_rx]; omega⟩ rfl (st := [.ref q]) rfl (Nat.le_of_ble_eq_true rfl) rd_JStr_init2_32 ⟨by dsimp only [jk_rx]; omega, by dsimp only [jk_rx]; omega⟩ (fun v w9 hp10 => ?_)
  obtain ⟨b, g, rfl, hb, hM2, hg⟩ := hp10
  skip
  obtain ⟨Mq8, hMq8⟩ : ∃ Mx : jm_M, Mx = jm_up M8 b (jk_W cB tx.length g) := ⟨_, rfl⟩
  rw [← hMq8] at hM2
  have hqb := jm_nen hc8_q hb
  have hq8 := jm_keep hMq8 hc8_q hqb
  have hb8 := jm_this hMq8
  refine jm_putF C hM2 in_JStr (ty0 := tf_JStr) ty_JStr nm_JStr (ci := 17) rfl 0 (Nat.le_of_ble_eq_true rfl) lk_JStr_9 rfl (hin rfl) rfl rfl rfl hq8 (Nat.le_of_ble_eq_true rfl) rd_JStr_init2_35 (fun w11 hw11 => ?_)
  obtain ⟨M12, hM12⟩ : ∃ Mx : jm_M, Mx = jm_up Mq8 q (.inr (17, [.ref b, jk_V 0, jk_V 0, jk_V 0])) := ⟨_, rfl⟩
  replace hw11 : jm_lk w11 = M12 := by rw [hM12]; exact hw11
  have hc12_b := jm_keep hM12 hb8 (jm_nek hb8 hq8 rfl)
  have hc12_q := jm_this hM12
  refine jk_goto C rd_JStr_init2_38 (tgt := 97) rfl ?_
  refine jm_ret_v C hw11 ⟨rfl, (fun z => if z = b then t else ow z), ⟨b, g, hc12_q, (if_neg hqb).trans hown, hc12_b, if_pos rfl, fun i hi => ?_, Nat.le_trans h7.2.1 h5⟩, ?_⟩ (by omega) (by omega) rd_JStr_init2_97
  · rw [hg _ (by omega) (by omega), h7.2.2 i hi]
    exact ⟨rfl, by rw [← h7.2.2 i hi]; exact h7.1 _ (by omega) (by have := h7.2.1; omega)⟩
  · exact ((jl_Fr.put hM8 hown).trans (jl_FrP.new hMq8 hb)).trans (jl_Fr.put hM12 (show (if q = b then t else ow q) = t from (if_neg hqb).trans hown))
set_option maxHeartbeats 1000000 in
theorem ct_JStr_init1 (hZ : jl_ZK Z sq iad z0 zi mi) {M : jm_M} {ow : Nat → Nat} {t t2 a q k0 : Nat} {tx : List Int} (hS : jl_SB cB ow M t2 a tx k0) (hs : M q = some (.inr (17, [.null, jk_V 0, jk_V 0, jk_V 0]))) (hown : ow q = t) : jm_Met l D jk_cl (jl_ty cI cR cO cB) Z mn_JStr_init1 (.code mn_JStr_init1 mb_JStr_init1 2 none :: jk_WA) (jk_rx 4 1 1100 130) [.ref q, .ref a] M (fun v M' => v = none ∧ ∃ ow', jl_Tx cB ow' M' t q tx ∧ jl_Fr ow M ow' M' t) 1 1100 := by
  refine jm_body (by decide +kernel) (fun p ev s m args below meth cod w hw hz hin C => ?_) (Nat.le_of_ble_eq_true rfl)
  refine jk_aload_n C rd_JStr_init1_0 (k := 0) rfl ?_
  refine jk_aload_n C rd_JStr_init1_1 (k := 1) rfl ?_
  refine jr_null C rd_JStr_init1_2 ?_
  refine jm_callI C hZ.1.1 hz hw (ct_JStr_init2 l D cI cR cO cB hZ hS hs hown) lk_JStr_489 xw_JStr_init2 iw_JStr cw_JStr_init2 rfl na_JStr_init2 ⟨by dsimp only [jk_rx]; omega, by dsimp only [jk_rx]; omega⟩ rfl (st := []) rfl (Nat.le_of_ble_eq_true rfl) rd_JStr_init1_3 ⟨by dsimp only [jk_rx]; omega, by dsimp only [jk_rx]; omega⟩ (fun v w1 hp2 => ?_)
  obtain ⟨rfl, ow1, hT, hF⟩ := hp2
  exact jm_ret_v C (rfl : jm_lk w1 = _) ⟨rfl, ow1, hT, hF⟩ (by omega) (by omega) rd_JStr_init1_6
set_option maxHeartbeats 1000000 in
theorem ct_SB_toString (hZ : jl_ZK Z sq iad z0 zi mi) {M : jm_M} {ow : Nat → Nat} {t t2 a k0 : Nat} {tx : List Int} (hS : jl_SB cB ow M t2 a tx k0) (hne : t2 ≠ t) : jm_Met l D jk_cl (jl_ty cI cR cO cB) Z mn_SB_toString (.code mn_SB_toString mb_SB_toString 1 (some (.object "java/lang/String")) :: jk_WA) (jk_rx 5 2 1104 151) [.ref a] M (fun v M' => ∃ q, v = some (.ref q) ∧ M q = none ∧ ∃ ow', jl_Tx cB ow' M' t q tx ∧ jl_Fr ow M ow' M' t) 2 1104 := by
  refine jm_body (by decide +kernel) (fun p ev s m args below meth cod w hw hz hin C => ?_) (Nat.le_of_ble_eq_true rfl)
  obtain ⟨v0, cap, f, ml, h1, h2, h3, h4, h5, h6, h7⟩ := id hS
  refine jm_new C hw in_JStr (ty0 := tf_JStr) ty_JStr lk_SB_18 nw_JStr iw_JStr (ci := 17) rfl (fs := [.null, jk_V 0, jk_V 0, jk_V 0]) (by intro j hj; rcases j with _ | _ | _ | _ | j <;> first | rfl | omega) ⟨by dsimp only [jk_rx]; omega, by dsimp only [jk_rx]; omega⟩ rd_SB_toString_0 (fun q w1 hq hw1 => ?_)
  obtain ⟨M1, hM1⟩ : ∃ Mx : jm_M, Mx = jm_up M q (.inr (17, [.null, jk_V 0, jk_V 0, jk_V 0])) := ⟨_, rfl⟩
  replace hw1 : jm_lk w1 = M1 := by rw [hM1]; exact hw1
  have hc1_q := jm_this hM1
  refine jk_dup C rd_SB_toString_3 rfl ?_
  refine jk_aload_n C rd_SB_toString_4 (k := 0) rfl ?_
  have hS1 := hS.fr (jl_FrP.new (t := t) (T := fun z => z = t) hM1 hq) hne
  refine jm_callI C hZ.1.1 hz hw1 (ct_JStr_init1 l D cI cR cO cB hZ hS1 hc1_q (if_pos rfl)) lk_SB_137 xw_JStr_init1 iw_JStr cw_JStr_init1 rfl na_JStr_init1 ⟨by dsimp only [jk_rx]; omega, by dsimp only [jk_rx]; omega⟩ rfl (st := [.ref q]) rfl (Nat.le_of_ble_eq_true rfl) rd_SB_toString_5 ⟨by dsimp only [jk_rx]; omega, by dsimp only [jk_rx]; omega⟩ (fun v w2 hp3 => ?_)
  obtain ⟨rfl, ow2, hT, hF⟩ := hp3
  exact jm_ret_q C rfl (Or.inl ⟨_, rfl⟩) (Or.inr ⟨_, rfl⟩) (rfl : jm_lk w2 = _) ⟨q, rfl, hq, ow2, hT, (jl_FrP.new hM1 hq).trans hF⟩ (by omega) (by omega) rd_SB_toString_8
set_option maxHeartbeats 1000000 in
theorem cm_JStr_coder (hZ : jl_ZK Z sq iad z0 zi mi) {M : jm_M} {ow : Nat → Nat} {t a : Nat} {tx : List Int} (hT : jl_Tx cB ow M t a tx) : jm_Met l D jk_cl (jl_ty cI cR cO cB) Z mn_JStr_coder (.code mn_JStr_coder mb_JStr_coder 1 (some .byte) :: jk_WA) (jk_rx 0 0 0 0) [.ref a] M (fun v M' => v = some (jk_V 0) ∧ M' = M) 0 0 := by
  refine jm_body (by decide +kernel) (fun p ev s m args below meth cod w hw hz hin C => ?_) (Nat.le_of_ble_eq_true rfl)
  obtain ⟨v0, f, h1, -, h2, -, h3, h4⟩ := id hT
  refine jm_gets C (v := jk_V 1) (hZ.1.2.2 _ s s.heap hz).2.1 W_cs rd_JStr_coder_0 ?_
  refine jr_if_eq C rd_JStr_coder_3 (tgt := 13) rfl ⟨by omega, by omega⟩ (fun hc => absurd hc (by omega)) (fun _ => ?_)
  refine jk_aload_n C rd_JStr_coder_6 (k := 0) rfl ?_
  refine jm_get C hw in_JStr (ci := 17) rfl 1 (Nat.le_of_ble_eq_true rfl) W_co h1 rfl rd_JStr_coder_7 ?_
  refine jk_goto C rd_JStr_coder_10 (tgt := 14) rfl ?_
  exact jm_ret_n C rfl (by decide +kernel) hw ⟨rfl, rfl⟩ (by omega) (by omega) rd_JStr_coder_14
set_option maxHeartbeats 1000000 in
theorem cm_JStr_isLatin1 (hZ : jl_ZK Z sq iad z0 zi mi) {M : jm_M} {ow : Nat → Nat} {t a : Nat} {tx : List Int} (hT : jl_Tx cB ow M t a tx) : jm_Met l D jk_cl (jl_ty cI cR cO cB) Z mn_JStr_isLatin1 (.code mn_JStr_isLatin1 mb_JStr_isLatin1 1 (some .boolean) :: jk_WA) (jk_rx 0 0 0 0) [.ref a] M (fun v M' => v = some (jk_V 1) ∧ M' = M) 0 0 := by
  refine jm_body (by decide +kernel) (fun p ev s m args below meth cod w hw hz hin C => ?_) (Nat.le_of_ble_eq_true rfl)
  obtain ⟨v0, f, h1, -, h2, -, h3, h4⟩ := id hT
  refine jm_gets C (v := jk_V 1) (hZ.1.2.2 _ s s.heap hz).2.1 W_cs rd_JStr_isLatin1_0 ?_
  refine jr_if_eq C rd_JStr_isLatin1_3 (tgt := 17) rfl ⟨by omega, by omega⟩ (fun hc => absurd hc (by omega)) (fun _ => ?_)
  refine jk_aload_n C rd_JStr_isLatin1_6 (k := 0) rfl ?_
  refine jm_get C hw in_JStr (ci := 17) rfl 1 (Nat.le_of_ble_eq_true rfl) W_co h1 rfl rd_JStr_isLatin1_7 ?_
  refine jr_if_ne C rd_JStr_isLatin1_10 (tgt := 17) rfl ⟨by omega, by omega⟩ (fun hc => absurd rfl hc) (fun _ => ?_)
  refine jk_iconst C rd_JStr_isLatin1_13 ?_
  refine jk_goto C rd_JStr_isLatin1_14 (tgt := 18) rfl ?_
  exact jm_ret_z C (Or.inr rfl) hw ⟨rfl, rfl⟩ (by omega) (by omega) rd_JStr_isLatin1_18
set_option maxHeartbeats 1000000 in
theorem cm_JStr_length (hZ : jl_ZK Z sq iad z0 zi mi) {M : jm_M} {ow : Nat → Nat} {t a : Nat} {tx : List Int} (hT : jl_Tx cB ow M t a tx) : jm_Met l D jk_cl (jl_ty cI cR cO cB) Z mn_JStr_length (.code mn_JStr_length mb_JStr_length 1 (some .int) :: jk_WA) (jk_rx 1 0 0 20) [.ref a] M (fun v M' => v = some (jk_V (tx.length : Int)) ∧ M' = M) 0 0 := by
  refine jm_body (by decide +kernel) (fun p ev s m args below meth cod w hw hz hin C => ?_) (Nat.le_of_ble_eq_true rfl)
  obtain ⟨v0, f, h1, -, h2, -, h3, h4⟩ := id hT
  refine jk_aload_n C rd_JStr_length_0 (k := 0) rfl ?_
  refine jm_get C hw in_JStr (ci := 17) rfl 0 (Nat.le_of_ble_eq_true rfl) W_va h1 rfl rd_JStr_length_1 ?_
  refine jm_blen C hw 3 h2 rfl rd_JStr_length_4 ?_
  refine jk_aload_n C rd_JStr_length_5 (k := 0) rfl ?_
  refine jm_callV C hZ.1.1 hz hw (cm_JStr_coder l D cI cR cO cB hZ hT) W_lco W_ico W_sco W_iniS W_cco na_JStr_coder ⟨Nat.le_of_ble_eq_true rfl, Nat.le_of_ble_eq_true rfl⟩ rfl h1 rfl rfl (st := [jk_V ((tx.length : Int))]) rfl (Nat.le_of_ble_eq_true rfl) rd_JStr_length_6 ⟨Nat.le_of_ble_eq_true rfl, Nat.le_of_ble_eq_true rfl⟩ (fun v w1 hp2 => ?_)
  obtain ⟨rfl, hk1⟩ := hp2
  refine jk_ishr C rd_JStr_length_9 ?_
  rw [(jl_sh0 (by omega)).1]
  exact jm_ret_i C hk1 ⟨rfl, rfl⟩ (by omega) (by omega) rd_JStr_length_10
set_option maxHeartbeats 1000000 in
theorem cm_JPre_checkIndex (hZ : jl_ZK Z sq iad z0 zi mi) {M : jm_M} {i n : Int} (hi0 : 0 ≤ i) (hi1 : i < n) (hn : n < 100000) {fr : Option Nat} : jm_Met l D jk_cl (jl_ty cI cR cO cB) Z mn_JPre_checkIndex (.code mn_JPre_checkIndex mb_JPre_checkIndex 3 (some .int) :: jk_WA) (jk_rx 0 0 0 0) [jk_V i, jk_V n, va_rf fr] M (fun v M' => v = some (jk_V i) ∧ M' = M) 0 0 := by
  refine jm_body (by decide +kernel) (fun p ev s m args below meth cod w hw hz hin C => ?_) (by cases fr <;> exact Nat.le_of_ble_eq_true rfl)
  rw [show lv_args 0 [jk_V i, jk_V n, va_rf fr] = [(0, jk_V i), (1, jk_V n), (2, va_rf fr)] by cases fr <;> rfl]
  refine jk_iload_n C rd_JPre_checkIndex_0 (k := 0) rfl ?_
  refine jr_if_lt C rd_JPre_checkIndex_1 (tgt := 9) rfl ⟨by omega, by omega⟩ (fun hc => absurd hc (by omega)) (fun _ => ?_)
  refine jk_iload_n C rd_JPre_checkIndex_4 (k := 0) rfl ?_
  refine jk_iload_n C rd_JPre_checkIndex_5 (k := 1) rfl ?_
  refine jr_icmp_lt C rd_JPre_checkIndex_6 (tgt := 16) rfl ⟨by omega, by omega⟩ ⟨by omega, by omega⟩ (fun _ => ?_) (fun hc => absurd hi1 hc)
  refine jk_iload_n C rd_JPre_checkIndex_16 (k := 0) rfl ?_
  exact jm_ret_i C hw ⟨rfl, rfl⟩ (by omega) (by omega) rd_JPre_checkIndex_17
set_option maxHeartbeats 1000000 in
theorem cm_JStr_checkIndex (hZ : jl_ZK Z sq iad z0 zi mi) {M : jm_M} {i n : Int} (hi0 : 0 ≤ i) (hi1 : i < n) (hn : n < 100000) : jm_Met l D jk_cl (jl_ty cI cR cO cB) Z mn_JStr_checkIndex (.code mn_JStr_checkIndex mb_JStr_checkIndex 2 none :: jk_WA) (jk_rx 1 0 0 22) [jk_V i, jk_V n] M (fun v M' => v = none ∧ M' = M) 0 0 := by
  refine jm_body (by decide +kernel) (fun p ev s m args below meth cod w hw hz hin C => ?_) (Nat.le_of_ble_eq_true rfl)
  obtain ⟨fr, hfr⟩ := jk_zq (hZ.1.2.2 _ _ _ hz).2.2.2.2.1
  refine jk_iload_n C rd_JStr_checkIndex_0 (k := 0) rfl ?_
  refine jk_iload_n C rd_JStr_checkIndex_1 (k := 1) rfl ?_
  refine jm_gets C hfr W_si rd_JStr_checkIndex_2 ?_
  refine jm_callS C hZ.1.1 hz hw (cm_JPre_checkIndex l D cI cR cO cB hZ (M := M) hi0 hi1 hn) W_lpc W_spc W_iniP W_cpc na_JPre_checkIndex ⟨Nat.le_of_ble_eq_true rfl, Nat.le_of_ble_eq_true rfl⟩ rfl (st := []) rfl (Nat.le_of_ble_eq_true rfl) rd_JStr_checkIndex_5 ⟨Nat.le_of_ble_eq_true rfl, Nat.le_of_ble_eq_true rfl⟩ (fun v w1 hp2 => ?_)
  obtain ⟨rfl, hk1⟩ := hp2
  refine jk_pop C rd_JStr_checkIndex_8 rfl ?_
  exact jm_ret_v C hk1 ⟨rfl, rfl⟩ (by omega) (by omega) rd_JStr_checkIndex_9
set_option maxHeartbeats 1000000 in
theorem cm_JLat_charAt (hZ : jl_ZK Z sq iad z0 zi mi) {M : jm_M} {v0 n i : Nat} {f : Int → Int} (h2 : M v0 = some (jk_W cB n f)) (hi : i < n) (hn : n ≤ 1100) (hb : 0 ≤ f (i : Int) ∧ f (i : Int) < 128) : jm_Met l D jk_cl (jl_ty cI cR cO cB) Z mn_JLat_charAt (.code mn_JLat_charAt mb_JLat_charAt 2 (some .char) :: jk_WA) (jk_rx 2 0 0 43) [.ref v0, jk_V ((i : Int))] M (fun v M' => v = some (jk_V (f (i : Int))) ∧ M' = M) 0 0 := by
  refine jm_body (by decide +kernel) (fun p ev s m args below meth cod w hw hz hin C => ?_) (Nat.le_of_ble_eq_true rfl)
  refine jk_iload_n C rd_JLat_charAt_0 (k := 1) rfl ?_
  refine jk_aload_n C rd_JLat_charAt_1 (k := 0) rfl ?_
  refine jm_blen C hw 3 h2 rfl rd_JLat_charAt_2 ?_
  refine jm_callS C hZ.1.1 hz hw (cm_JStr_checkIndex l D cI cR cO cB hZ (M := M) (i := (i : Int)) (n := (n : Int)) (by omega) (by omega) (by omega)) W_lci W_sci W_iniS W_cci na_JStr_checkIndex ⟨Nat.le_of_ble_eq_true rfl, Nat.le_of_ble_eq_true rfl⟩ rfl (st := []) rfl (Nat.le_of_ble_eq_true rfl) rd_JLat_charAt_3 ⟨Nat.le_of_ble_eq_true rfl, Nat.le_of_ble_eq_true rfl⟩ (fun v w1 hp2 => ?_)
  obtain ⟨rfl, hk1⟩ := hp2
  refine jk_aload_n C rd_JLat_charAt_6 (k := 0) rfl ?_
  refine jk_iload_n C rd_JLat_charAt_7 (k := 1) rfl ?_
  refine jm_bald C hk1 3 h2 rfl (by omega) (by omega) (by omega) rd_JLat_charAt_8 ?_
  refine jk_sipush C rd_JLat_charAt_9 (by decide +kernel) ?_
  refine jk_iand C rd_JLat_charAt_12 ?_
  rw [(jk_byte hb).1]
  refine jm_i2c C hb rd_JLat_charAt_13 ?_
  exact jm_ret_n C rfl (jk_byte hb).2.2 hk1 ⟨rfl, rfl⟩ (by omega) (by omega) rd_JLat_charAt_14
set_option maxHeartbeats 1000000 in
theorem cm_JStr_charAt (hZ : jl_ZK Z sq iad z0 zi mi) {M : jm_M} {ow : Nat → Nat} {t a : Nat} {tx : List Int} (hT : jl_Tx cB ow M t a tx) {i : Nat} (hi : i < tx.length) : jm_Met l D jk_cl (jl_ty cI cR cO cB) Z mn_JStr_charAt (.code mn_JStr_charAt mb_JStr_charAt 2 (some .char) :: jk_WA) (jk_rx 3 0 0 64) [.ref a, jk_V ((i : Int))] M (fun v M' => v = some (jk_V (tx.getD i 0)) ∧ M' = M) 0 0 := by
  refine jm_body (by decide +kernel) (fun p ev s m args below meth cod w hw hz hin C => ?_) (Nat.le_of_ble_eq_true rfl)
  obtain ⟨v0, f, h1, -, h2, -, h3, h4⟩ := id hT
  obtain ⟨hf, hb⟩ := h3 i hi
  refine jk_aload_n C rd_JStr_charAt_0 (k := 0) rfl ?_
  refine jm_callV C hZ.1.1 hz hw (cm_JStr_isLatin1 l D cI cR cO cB hZ hT) W_lla W_ila W_sla W_iniS W_cla na_JStr_isLatin1 ⟨Nat.le_of_ble_eq_true rfl, Nat.le_of_ble_eq_true rfl⟩ rfl h1 rfl rfl (st := []) rfl (Nat.le_of_ble_eq_true rfl) rd_JStr_charAt_1 ⟨Nat.le_of_ble_eq_true rfl, Nat.le_of_ble_eq_true rfl⟩ (fun v w1 hp2 => ?_)
  obtain ⟨rfl, hk1⟩ := hp2
  refine jr_if_eq C rd_JStr_charAt_4 (tgt := 16) rfl ⟨by omega, by omega⟩ (fun hc => absurd hc (by omega)) (fun _ => ?_)
  refine jk_aload_n C rd_JStr_charAt_7 (k := 0) rfl ?_
  refine jm_get C hk1 in_JStr (ci := 17) rfl 0 (Nat.le_of_ble_eq_true rfl) W_va h1 rfl rd_JStr_charAt_8 ?_
  refine jk_iload_n C rd_JStr_charAt_11 (k := 1) rfl ?_
  refine jm_callS C hZ.1.1 hz hk1 (cm_JLat_charAt l D cI cR cO cB hZ h2 hi h4 hb) W_llc W_slc W_iniL W_clc na_JLat_charAt ⟨Nat.le_of_ble_eq_true rfl, Nat.le_of_ble_eq_true rfl⟩ rfl (st := []) rfl (Nat.le_of_ble_eq_true rfl) rd_JStr_charAt_12 ⟨Nat.le_of_ble_eq_true rfl, Nat.le_of_ble_eq_true rfl⟩ (fun v w3 hp4 => ?_)
  obtain ⟨rfl, hk2⟩ := hp4
  refine jm_ret_n C rfl (jk_byte hb).2.2 hk2 ⟨by rw [hf], rfl⟩ (by omega) (by omega) rd_JStr_charAt_15
end SB4
