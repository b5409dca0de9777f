/-! text builders -/
def jl_By (f : Int → Int) (cap : Nat) (tx : List Int) : Prop := (∀ i : Int, 0 ≤ i → i < cap → 0 ≤ f i ∧ f i < 128) ∧ tx.length ≤ cap ∧ ∀ i : Nat, i < tx.length → f (i : Int) = tx.getD i 0
/-- a builder at a that holds the text tx, with room for k -/
def jl_SB (cB : ClassId) (ow : Nat → Nat) (M : jm_M) (t a : Nat) (tx : List Int) (k : Nat) : Prop := ∃ (v cap : Nat) (f : Int → Int) (ml : Int), M a = some (.inr (16, [.ref v, jk_V 0, jk_V ml, jk_V (tx.length : Int)])) ∧ ow a = t ∧ M v = some (jk_W cB cap f) ∧ ow v = t ∧ cap ≤ 1100 ∧ k ≤ cap ∧ jl_By f cap tx
theorem jl_SB.fr {cB : ClassId} {ow ow' : Nat → Nat} {M M' : jm_M} {T : Nat → Prop} {t a k : Nat} {tx : List Int} (h : jl_SB cB ow M t a tx k) (hF : jl_FrP ow M ow' M' T) (hne : ¬ T t) : jl_SB cB ow' M' t a tx k := by
  obtain ⟨v, cap, f, ml, h1, h2, h3, h4, h5⟩ := h
  exact ⟨v, cap, f, ml, (hF _ _ h1).2.2 (by rw [h2]; exact hne), (hF _ _ h1).1.trans h2, (hF _ _ h3).2.2 (by rw [h4]; exact hne), (hF _ _ h3).1.trans h4, h5⟩
theorem jl_By.cpy {f : Int → Int} {cap k : Nat} {tx : List Int} (h : jl_By f cap tx) (hk : cap ≤ k) : jl_By (jl_cpb f (fun _ => 0) 0 0 cap) k tx := by
  refine ⟨fun i h0 h1 => ?_, Nat.le_trans h.2.1 hk, fun i hi => ?_⟩
  · unfold jl_cpb
    split
    · exact h.1 _ (by omega) (by omega)
    · exact ⟨Int.le_refl 0, (by decide : (0 : Int) < 128)⟩
  · have := h.2.1
    unfold jl_cpb
    rw [if_pos (by omega), show ((0 : Nat) : Int) + ((i : Int) - ((0 : Nat) : Int)) = i by omega]
    exact h.2.2 i hi
/-- a text put behind -/
theorem jl_By.app {f g : Int → Int} {cap n : Nat} {tx w : List Int} (h : jl_By f cap tx) (hw : ∀ i : Nat, i < w.length → g (i : Int) = w.getD i 0 ∧ 0 ≤ g (i : Int) ∧ g (i : Int) < 128) (hn : n = w.length) (hc : tx.length + w.length ≤ cap) : jl_By (jl_cpb g f 0 tx.length n) cap (tx ++ w) := by
  subst hn
  refine ⟨fun i h0 h1 => ?_, by rw [List.length_append]; exact hc, fun i hi => ?_⟩
  · unfold jl_cpb
    split
    · obtain ⟨j, hj⟩ := Int.eq_ofNat_of_zero_le (show (0 : Int) ≤ ((0 : Nat) : Int) + (i - (tx.length : Int)) by omega)
      rw [hj]
      exact (hw j (by omega)).2
    · exact h.1 i h0 h1
  · rw [List.length_append] at hi
    unfold jl_cpb
    by_cases hl : i < tx.length
    · rw [if_neg (by omega), h.2.2 i hl, List.getD_eq_getElem?_getD, List.getD_eq_getElem?_getD, List.getElem?_append_left hl]
    · rw [if_pos (by omega), show ((0 : Nat) : Int) + ((i : Int) - (tx.length : Int)) = ((i - tx.length : Nat) : Int) by omega, (hw _ (by omega)).1, List.getD_eq_getElem?_getD, List.getD_eq_getElem?_getD, List.getElem?_append_right (by omega)]
section SB1
variable (l : Launch) (D : va_G) {Z : (Nat → Prop) → State → Heap → Prop} {sq iad : Nat → Nat} {z0 zi mi : Nat} (cI cR cO cB : ClassId)
set_option maxHeartbeats 1000000 in
theorem ct_JArr_copyB (hZ : jl_ZK Z sq iad z0 zi mi) {M : jm_M} {b n k : Nat} {f : Int → Int} (hb : M b = some (jk_W cB n f)) (hn : n < k) (hk : k < 5000) (hfit : ∀ i : Int, 0 ≤ i → i < n → 0 ≤ f i ∧ f i < 128) : jm_Met l D jk_cl (jl_ty cI cR cO cB) Z mn_JArr_copyB (.code mn_JArr_copyB mb_JArr_copyB 3 (some (.array .byte)) :: jk_WA) (jk_rx 1 1 k 60) [.ref b, jk_V ((k : Int))] M (fun v M' => ∃ q, v = some (.ref q) ∧ M q = none ∧ M' = jm_up M q (jk_W cB k (jl_cpb f (fun _ => 0) 0 0 n))) 1 k := by
  refine jm_body (by decide +kernel) (fun p ev s m args below meth cod w hw hz hin C => ?_) (Nat.le_of_ble_eq_true rfl)
  refine jk_iload_n C rd_JArr_copyB_0 (k := 1) rfl ?_
  refine jk_aload_n C rd_JArr_copyB_1 (k := 0) rfl ?_
  refine jm_blen C hw 3 hb rfl rd_JArr_copyB_2 ?_
  refine jr_icmp_ne C rd_JArr_copyB_3 (tgt := 14) rfl ⟨by omega, by omega⟩ ⟨by omega, by omega⟩ (fun _ => ?_) (fun hc => absurd hc (by omega))
  refine jk_iload_n C rd_JArr_copyB_14 (k := 1) rfl ?_
  refine jm_newb C hw (n := k) rfl (by omega) 3 rfl aw_byte ⟨by dsimp only [jk_rx]; omega, by dsimp only [jk_rx]; omega⟩ rd_JArr_copyB_15 (fun q w1 hq hw1 => ?_)
  obtain ⟨M1, hM1⟩ : ∃ Mx : jm_M, Mx = jm_up M q (jk_W cB k (fun _ => 0)) := ⟨_, rfl⟩
  replace hw1 : jm_lk w1 = M1 := by rw [hM1]; exact hw1
  have hne1_b := jm_nen hb hq
  have hc1_b := jm_keep hM1 hb hne1_b
  have hc1_q := jm_this hM1
  refine jr_astore_n C rd_JArr_copyB_17 (Nat.le_of_ble_eq_true rfl) rfl ?_
  refine jk_aload_n C rd_JArr_copyB_18 (k := 1) rfl ?_
  refine jk_iconst C rd_JArr_copyB_19 ?_
  refine jk_aload_n C rd_JArr_copyB_20 (k := 0) rfl ?_
  refine jk_iconst C rd_JArr_copyB_21 ?_
  refine jk_aload_n C rd_JArr_copyB_22 (k := 1) rfl ?_
  refine jm_blen C hw1 3 hc1_b rfl rd_JArr_copyB_23 ?_
  refine jk_iload_n C rd_JArr_copyB_24 (k := 2) rfl ?_
  refine jm_mmin C ⟨by omega, by omega⟩ ⟨by omega, by omega⟩ lk_JArr_304 (Nat.le_of_ble_eq_true rfl) (Nat.le_of_ble_eq_true rfl) ⟨by dsimp only [jk_rx]; omega, by dsimp only [jk_rx]; omega⟩ rd_JArr_copyB_25 ?_
  rw [if_neg (by omega : ¬ (k : Int) < (n : Int))]
  refine jm_copyb C hw1 3 hc1_b hc1_q rfl 0 0 n (by omega) (by omega) (by omega) (by omega) hfit lk_JArr_150 tw_acopy xw_acopy iw_Sys (Nat.le_of_ble_eq_true rfl) (Nat.le_trans (Nat.le_of_eq (Nat.zero_add _)) jl_nfw) rd_JArr_copyB_28 (fun w3 hw3 => ?_)
  refine jk_aload_n C rd_JArr_copyB_31 (k := 0) rfl ?_
  refine jm_ret_q C rfl (Or.inr ⟨_, rfl⟩) (Or.inr ⟨_, rfl⟩) hw3 ⟨q, rfl, hq, ?_⟩ (by omega) (by omega) rd_JArr_copyB_32
  rw [hM1, jm_up_up]
set_option maxHeartbeats 1000000 in
theorem ct_ASB_newCapacity (hZ : jl_ZK Z sq iad z0 zi mi) {M : jm_M} {a v0 cap k : Nat} {x2 x3 : Value} {f : Int → Int} (h1 : M a = some (.inr (16, [.ref v0, jk_V 0, x2, x3]))) (h3 : M v0 = some (jk_W cB cap f)) (hk : cap < k) (h0 : 0 < cap) (hk2 : k ≤ 520) : jm_Met l D jk_cl (jl_ty cI cR cO cB) Z mn_ASB_newCapacity (.code mn_ASB_newCapacity mb_ASB_newCapacity 6 (some .int) :: jk_WA) (jk_rx 2 0 0 37) [.ref a, jk_V ((k : Int))] M (fun v M' => ∃ L : Nat, v = some (jk_V (L : Int)) ∧ k ≤ L ∧ L ≤ 1100 ∧ M' = M) 0 0 := by
  refine jm_body (by decide +kernel) (fun p ev s m args below meth cod w hw hz hin C => ?_) (Nat.le_of_ble_eq_true rfl)
  refine jk_aload_n C rd_ASB_newCapacity_0 (k := 0) rfl ?_
  refine jm_get C hw in_SB (ci := 16) rfl 0 (Nat.le_of_ble_eq_true rfl) lk_ASB_15 h1 rfl rd_ASB_newCapacity_1 ?_
  refine jm_blen C hw 3 h3 rfl rd_ASB_newCapacity_4 ?_
  refine jk_istore_n C rd_ASB_newCapacity_5 (Nat.le_of_ble_eq_true rfl) rfl ?_
  refine jk_iload_n C rd_ASB_newCapacity_6 (k := 2) rfl ?_
  refine jk_aload_n C rd_ASB_newCapacity_7 (k := 1) rfl ?_
  refine jm_get C hw in_SB (ci := 16) rfl 1 (Nat.le_of_ble_eq_true rfl) lk_ASB_22 h1 rfl rd_ASB_newCapacity_8 ?_
  refine jk_ishl C rd_ASB_newCapacity_11 ?_
  rw [(jl_sh0 (by omega)).2]
  refine jk_istore_n C rd_ASB_newCapacity_12 (Nat.le_of_ble_eq_true rfl) rfl ?_
  refine jk_iload_n C rd_ASB_newCapacity_13 (k := 0) rfl ?_
  refine jk_iload_n C rd_ASB_newCapacity_14 (k := 1) rfl ?_
  refine jk_isub C rd_ASB_newCapacity_15 ?_
  refine jk_istore C rd_ASB_newCapacity_16 (Nat.le_of_ble_eq_true rfl) rfl ?_
  refine jk_iload_n C rd_ASB_newCapacity_18 (k := 2) rfl ?_
  refine jk_iload C rd_ASB_newCapacity_19 (k := 0) rfl ?_
  refine jk_iload_n C rd_ASB_newCapacity_21 (k := 2) rfl ?_
  refine jk_iconst C rd_ASB_newCapacity_22 ?_
  refine jk_aload_n C rd_ASB_newCapacity_23 (k := 3) rfl ?_
  refine jm_get C hw in_SB (ci := 16) rfl 1 (Nat.le_of_ble_eq_true rfl) lk_ASB_22 h1 rfl rd_ASB_newCapacity_24 ?_
  rw [show jk_V 2 = jk_V ((2 : Nat) : Int) from rfl]
  refine jk_ishl C rd_ASB_newCapacity_27 ?_
  rw [(jl_sh0 (by omega)).2]
  refine jk_iadd C rd_ASB_newCapacity_28 ?_
  rw [show (k : Int) - (cap : Int) = ((k - cap : Nat) : Int) by omega, show (cap : Int) + ((2 : Nat) : Int) = ((cap + 2 : Nat) : Int) by omega]
  refine jm_callS C hZ.1.1 hz hw (ct_JAS_newLength l D cI cR cO cB hZ (M := M) (n := cap) (g := k - cap) (k := cap + 2) ⟨by omega, by omega⟩ (by omega) (by omega)) lk_ASB_114 xw_JAS_newLength iw_JAS cw_JAS_newLength na_JAS_newLength ⟨by dsimp only [jk_rx]; omega, by dsimp only [jk_rx]; omega⟩ rfl (st := []) rfl (Nat.le_of_ble_eq_true rfl) rd_ASB_newCapacity_29 ⟨by dsimp only [jk_rx]; omega, by dsimp only [jk_rx]; omega⟩ (fun v w1 hp2 => ?_)
  obtain ⟨rfl, hk1⟩ := hp2
  obtain ⟨L, hL, hL2, hL3⟩ : ∃ L : Nat, (cap : Int) + (if ((k - cap : Nat) : Int) < ((cap + 2 : Nat) : Int) then ((cap + 2 : Nat) : Int) else ((k - cap : Nat) : Int)) = (L : Int) ∧ k ≤ L ∧ L ≤ 1100 := ⟨cap + (if k - cap < cap + 2 then cap + 2 else k - cap), by split <;> split <;> omega, by split <;> omega, by split <;> omega⟩
  rw [hL]
  refine jk_istore C rd_ASB_newCapacity_32 (Nat.le_of_ble_eq_true rfl) rfl ?_
  refine jk_iload C rd_ASB_newCapacity_34 (k := 0) rfl ?_
  refine jm_ldci C (x := 2147483647) rfl kw_ASB_39 rd_ASB_newCapacity_36 ?_
  refine jr_icmp_ne C rd_ASB_newCapacity_38 (tgt := 51) rfl ⟨by omega, by omega⟩ ⟨by omega, by omega⟩ (fun _ => ?_) (fun hc => absurd hc (by omega))
  refine jk_iload C rd_ASB_newCapacity_51 (k := 0) rfl ?_
  refine jk_aload_n C rd_ASB_newCapacity_53 (k := 4) rfl ?_
  refine jm_get C hk1 in_SB (ci := 16) rfl 1 (Nat.le_of_ble_eq_true rfl) lk_ASB_22 h1 rfl rd_ASB_newCapacity_54 ?_
  refine jk_ishr C rd_ASB_newCapacity_57 ?_
  rw [(jl_sh0 (by omega)).1]
  exact jm_ret_i C hk1 ⟨L, rfl, hL2, hL3, rfl⟩ (by omega) (by omega) rd_ASB_newCapacity_58
set_option maxHeartbeats 1000000 in
theorem ct_ASB_ensureCapacityInternal (hZ : jl_ZK Z sq iad z0 zi mi) {M : jm_M} {ow : Nat → Nat} {t a k0 : Nat} {tx : List Int} (hS : jl_SB cB ow M t a tx k0) {k : Nat} (hk : k ≤ 520) (hk0 : 1 ≤ k0) : jm_Met l D jk_cl (jl_ty cI cR cO cB) Z mn_ASB_ensureCapacityInternal (.code mn_ASB_ensureCapacityInternal mb_ASB_ensureCapacityInternal 3 none :: jk_WA) (jk_rx 3 1 1100 82) [.ref a, jk_V ((k : Int))] M (fun v M' => v = none ∧ ∃ ow', jl_SB cB ow' M' t a tx (max k k0) ∧ jl_Fr ow M ow' M' t) 1 1100 := by
  obtain ⟨v0, cap, f, ml, h1, h2, h3, h4, h5, h6, h7⟩ := hS
  refine jm_body (by decide +kernel) (fun p ev s m args below meth cod w hw hz hin C => ?_) (Nat.le_of_ble_eq_true rfl)
  refine jk_aload_n C rd_ASB_ensureCapacityInternal_0 (k := 0) rfl ?_
  refine jm_get C hw in_SB (ci := 16) rfl 0 (Nat.le_of_ble_eq_true rfl) lk_ASB_15 h1 rfl rd_ASB_ensureCapacityInternal_1 ?_
  refine jm_blen C hw 3 h3 rfl rd_ASB_ensureCapacityInternal_4 ?_
  refine jk_aload_n C rd_ASB_ensureCapacityInternal_5 (k := 0) rfl ?_
  refine jm_get C hw in_SB (ci := 16) rfl 1 (Nat.le_of_ble_eq_true rfl) lk_ASB_22 h1 rfl rd_ASB_ensureCapacityInternal_6 ?_
  refine jk_ishr C rd_ASB_ensureCapacityInternal_9 ?_
  rw [(jl_sh0 (by omega)).1]
  refine jk_istore_n C rd_ASB_ensureCapacityInternal_10 (Nat.le_of_ble_eq_true rfl) rfl ?_
  refine jk_iload_n C rd_ASB_ensureCapacityInternal_11 (k := 2) rfl ?_
  refine jk_iload_n C rd_ASB_ensureCapacityInternal_12 (k := 0) rfl ?_
  refine jk_isub C rd_ASB_ensureCapacityInternal_13 ?_
  refine jr_if_le C rd_ASB_ensureCapacityInternal_14 (tgt := 38) rfl ⟨by omega, by omega⟩ (fun hc => ?_) (fun hc => ?_)
  · exact jm_ret_v C hw ⟨rfl, ow, ⟨v0, cap, f, ml, h1, h2, h3, h4, h5, Nat.max_le.mpr ⟨by omega, h6⟩, h7⟩, jl_FrP.rf⟩ (by omega) (by omega) rd_ASB_ensureCapacityInternal_38
  · refine jk_aload_n C rd_ASB_ensureCapacityInternal_17 (k := 1) rfl ?_
    refine jk_aload_n C rd_ASB_ensureCapacityInternal_18 (k := 1) rfl ?_
    refine jm_get C hw in_SB (ci := 16) rfl 0 (Nat.le_of_ble_eq_true rfl) lk_ASB_15 h1 rfl rd_ASB_ensureCapacityInternal_19 ?_
    refine jk_aload_n C rd_ASB_ensureCapacityInternal_22 (k := 1) rfl ?_
    refine jk_iload_n C rd_ASB_ensureCapacityInternal_23 (k := 2) rfl ?_
    refine jm_callP C (q := ("java/lang/StringBuilder", tb_SB, 4)) (ci := 16) hZ.1.1 hz hw (ct_ASB_newCapacity l D cI cR cO cB hZ h1 h3 (k := k) (by omega) (by omega) hk) lk_ASB_104 sm_ASB_newCapacity xw_ASB_newCapacity iw_ASB cw_ASB_newCapacity (pw_ASB_newCapacity hZ.1 hz) nw_SB na_ASB_newCapacity ⟨by dsimp only [jk_rx]; omega, by dsimp only [jk_rx]; omega⟩ rfl h1 rfl (st := [.ref v0, .ref a]) rfl (Nat.le_of_ble_eq_true rfl) rd_ASB_ensureCapacityInternal_24 ⟨by dsimp only [jk_rx]; omega, by dsimp only [jk_rx]; omega⟩ (fun v w1 hp2 => ?_)
    obtain ⟨L, rfl, hL1, hL2, hk1⟩ := hp2
    refine jk_aload_n C rd_ASB_ensureCapacityInternal_27 (k := 1) rfl ?_
    refine jm_get C hk1 in_SB (ci := 16) rfl 1 (Nat.le_of_ble_eq_true rfl) lk_ASB_22 h1 rfl rd_ASB_ensureCapacityInternal_28 ?_
    refine jk_ishl C rd_ASB_ensureCapacityInternal_31 ?_
    rw [(jl_sh0 (by omega)).2]
    refine jm_callS C hZ.1.1 hz hk1 (ct_JArr_copyB l D cI cR cO cB hZ h3 (k := L) (by omega) (by omega) h7.1) lk_ASB_108 xw_JArr_copyB iw_JArr cw_JArr_copyB na_JArr_copyB ⟨by dsimp only [jk_rx]; omega, by dsimp only [jk_rx]; omega⟩ rfl (st := [.ref a]) rfl (Nat.le_of_ble_eq_true rfl) rd_ASB_ensureCapacityInternal_32 ⟨by dsimp only [jk_rx]; omega, by dsimp only [jk_rx]; omega⟩ (fun v w3 hp4 => ?_)
    obtain ⟨q, rfl, hq, hk2⟩ := hp4
    obtain ⟨M9, hM9⟩ : ∃ M9 : jm_M, M9 = jm_up M q (jk_W cB L (jl_cpb f (fun _ => 0) 0 0 cap)) := ⟨_, rfl⟩
    rw [← hM9] at hk2
    have haq := jm_nen h1 hq
    have h19 := jm_keep hM9 h1 haq
    refine jm_put C hk2 in_SB (ty0 := tf_SB) ty_SB nm_SB (ci := 16) rfl 0 (Nat.le_of_ble_eq_true rfl) lk_ASB_15 rfl rfl rfl h19 (Nat.le_of_ble_eq_true rfl) rd_ASB_ensureCapacityInternal_35 (fun w5 hw5 => ?_)
    obtain ⟨M6, hM6⟩ : ∃ Mx : jm_M, Mx = jm_up M9 a (.inr (16, [.ref q, jk_V 0, jk_V ml, jk_V ((tx.length : Int))])) := ⟨_, rfl⟩
    replace hw5 : jm_lk w5 = M6 := by rw [hM6]; exact hw5
    have hc6_a := jm_this hM6
    refine jm_ret_v C hw5 ⟨rfl, (fun b => if b = q then t else ow b), ⟨q, L, _, ml, hc6_a, (if_neg haq).trans h2, jm_keep hM6 (jm_this hM9) haq.symm, if_pos rfl, hL2, Nat.max_le.mpr ⟨hL1, by omega⟩, h7.cpy (by omega)⟩, ?_⟩ (by omega) (by omega) rd_ASB_ensureCapacityInternal_38
    exact (jl_FrP.new hM9 hq).trans (jl_Fr.put hM6 ((if_neg haq).trans h2))
set_option maxHeartbeats 1000000 in
theorem ct_ASB_isLatin1 (hZ : jl_ZK Z sq iad z0 zi mi) {M : jm_M} {a : Nat} {x0 x2 x3 : Value} (h1 : M a = some (.inr (16, [x0, jk_V 0, x2, x3]))) : jm_Met l D jk_cl (jl_ty cI cR cO cB) Z mn_ASB_isLatin1 (.code mn_ASB_isLatin1 mb_ASB_isLatin1 1 (some .boolean) :: jk_WA) (jk_rx 0 0 0 0) [.ref a] M (fun v M' => v = some (jk_V 1) ∧ M' = M) 0 0 := by
  refine jm_body (by decide +kernel) (fun p ev s m args below meth cod w hw hz hin C => ?_) (Nat.le_of_ble_eq_true rfl)
  refine jm_gets C (v := jk_V 1) (hZ.1.2.2 _ s s.heap hz).2.1 lk_ASB_18 rd_ASB_isLatin1_0 ?_
  refine jr_if_eq C rd_ASB_isLatin1_3 (tgt := 17) rfl ⟨by omega, by omega⟩ (fun hc => absurd hc (by omega)) (fun _ => ?_)
  refine jk_aload_n C rd_ASB_isLatin1_6 (k := 0) rfl ?_
  refine jm_get C hw in_SB (ci := 16) rfl 1 (Nat.le_of_ble_eq_true rfl) lk_ASB_22 h1 rfl rd_ASB_isLatin1_7 ?_
  refine jr_if_ne C rd_ASB_isLatin1_10 (tgt := 17) rfl ⟨by omega, by omega⟩ (fun hc => absurd rfl hc) (fun _ => ?_)
  refine jk_iconst C rd_ASB_isLatin1_13 ?_
  refine jk_goto C rd_ASB_isLatin1_14 (tgt := 18) rfl ?_
  exact jm_ret_z C (Or.inr rfl) hw ⟨rfl, rfl⟩ (by omega) (by omega) rd_ASB_isLatin1_18
set_option maxHeartbeats 1000000 in
theorem ct_ASB_inflateIfNeededFor (hZ : jl_ZK Z sq iad z0 zi mi) {M : jm_M} {a : Nat} {x0 x2 x3 : Value} (h1 : M a = some (.inr (16, [x0, jk_V 0, x2, x3]))) {q : Nat} {tc : List Int} (hq : jk_St Z q tc) : jm_Met l D jk_cl (jl_ty cI cR cO cB) Z mn_ASB_inflateIfNeededFor (.code mn_ASB_inflateIfNeededFor mb_ASB_inflateIfNeededFor 2 none :: jk_WA) (jk_rx 1 0 0 20) [.ref a, .ref q] M (fun v M' => v = none ∧ M' = M) 0 0 := by
  refine jm_body (by decide +kernel) (fun p ev s m args below meth cod w hw hz hin C => ?_) (Nat.le_of_ble_eq_true rfl)
  obtain ⟨v, hv0⟩ := id hq.2
  refine jm_gets C (v := jk_V 1) (hZ.1.2.2 _ s s.heap hz).2.1 lk_ASB_18 rd_ASB_inflateIfNeededFor_0 ?_
  refine jr_if_eq C rd_ASB_inflateIfNeededFor_3 (tgt := 21) rfl ⟨by omega, by omega⟩ (fun hc => absurd hc (by omega)) (fun _ => ?_)
  refine jk_aload_n C rd_ASB_inflateIfNeededFor_6 (k := 0) rfl ?_
  refine jm_get C hw in_SB (ci := 16) rfl 1 (Nat.le_of_ble_eq_true rfl) lk_ASB_22 h1 rfl rd_ASB_inflateIfNeededFor_7 ?_
  refine jk_aload_n C rd_ASB_inflateIfNeededFor_10 (k := 1) rfl ?_
  refine jk_callOi C hZ.1.1 hz (ct_JStr_coder hZ.1 hq) (hv0 _ _ _ hz).1 lk_ASB_40 W_ico W_sco W_iniS W_cco na_JStr_coder ⟨Nat.le_of_ble_eq_true rfl, Nat.le_of_ble_eq_true rfl⟩ rfl (st := [jk_V 0]) rfl (Nat.le_of_ble_eq_true rfl) rd_ASB_inflateIfNeededFor_11 ?_ ⟨by dsimp only [jk_rx]; omega, by dsimp only [jk_rx]; omega⟩
  refine jr_icmp_eq C rd_ASB_inflateIfNeededFor_14 (tgt := 21) rfl ⟨by omega, by omega⟩ ⟨by omega, by omega⟩ (fun _ => ?_) (fun hc => absurd rfl hc)
  exact jm_ret_v C hw ⟨rfl, rfl⟩ (by omega) (by omega) rd_ASB_inflateIfNeededFor_21
theorem jl_lt128 {tc : List Int} (h : tc.all (fun b => decide (0 ≤ b ∧ b < 128)) = true) (i : Nat) : 0 ≤ tc.getD i 0 ∧ tc.getD i 0 < 128 := by
  rcases Nat.lt_or_ge i tc.length with hl | hl
  · rw [List.getD_eq_getElem?_getD, List.getElem?_eq_getElem hl]
    have := List.all_eq_true.mp h _ (List.getElem_mem hl)
    simpa using this
  · rw [List.getD_eq_getElem?_getD, List.getElem?_eq_none hl]
    exact ⟨by decide, by decide⟩
set_option maxHeartbeats 1000000 in
theorem ct_JStr_getBytes (hZ : jl_ZK Z sq iad z0 zi mi) {M : jm_M} {b cap k : Nat} {f : Int → Int} (hb : M b = some (jk_W cB cap f)) {q : Nat} {tc : List Int} (hq : jk_St Z q tc) (hk : k + tc.length ≤ cap) (hcap : cap ≤ 1100) : jm_Met l D jk_cl (jl_ty cI cR cO cB) Z mn_JStr_getBytes (.code mn_JStr_getBytes mb_JStr_getBytes 4 none :: jk_WA) (jk_rx 1 0 0 60) [.ref q, .ref b, jk_V ((k : Int)), jk_V 0] M (fun v M' => v = none ∧ M' = jm_up M b (jk_W cB cap (jl_cpb (fun i => tc.getD i.toNat 0) f 0 k tc.length))) 0 0 := by
  refine jm_body (by decide +kernel) (fun p ev s m args below meth cod w hw hz hin C => ?_) (Nat.le_of_ble_eq_true rfl)
  obtain ⟨v9, hv0⟩ := id hq.2
  obtain ⟨hO, hcd, hvl, hT⟩ := hv0 _ _ _ hz
  have htl := hq.1.2
  refine jk_aload_n C rd_JStr_getBytes_0 (k := 0) rfl ?_
  refine jk_callOi C hZ.1.1 hz (ct_JStr_coder hZ.1 hq) (hv0 _ _ _ hz).1 lk_JStr_335 W_ico W_sco W_iniS W_cco na_JStr_coder ⟨Nat.le_of_ble_eq_true rfl, Nat.le_of_ble_eq_true rfl⟩ rfl (st := []) rfl (Nat.le_of_ble_eq_true rfl) rd_JStr_getBytes_1 ?_ ⟨by dsimp only [jk_rx]; omega, by dsimp only [jk_rx]; omega⟩
  refine jk_iload_n C rd_JStr_getBytes_4 (k := 3) rfl ?_
  refine jr_icmp_ne C rd_JStr_getBytes_5 (tgt := 28) rfl ⟨by omega, by omega⟩ ⟨by omega, by omega⟩ (fun hc => absurd rfl hc) (fun _ => ?_)
  refine jk_aload_n C rd_JStr_getBytes_8 (k := 0) rfl ?_
  refine jk_ofget C hvl lk_JStr_9 rd_JStr_getBytes_9 ?_
  refine jk_iconst C rd_JStr_getBytes_12 ?_
  refine jk_aload_n C rd_JStr_getBytes_13 (k := 1) rfl ?_
  refine jk_iload_n C rd_JStr_getBytes_14 (k := 2) rfl ?_
  refine jk_iload_n C rd_JStr_getBytes_15 (k := 3) rfl ?_
  refine jk_ishl C rd_JStr_getBytes_16 ?_
  rw [(jl_sh0 (by omega)).2]
  refine jk_aload_n C rd_JStr_getBytes_17 (k := 0) rfl ?_
  refine jk_ofget C hvl lk_JStr_9 rd_JStr_getBytes_18 ?_
  refine jk_blen C hT rd_JStr_getBytes_21 ?_
  refine jm_copyT C hw (f := fun i => tc.getD i.toNat 0) 3 (by simpa only [Int.toNat_natCast] using hT) hb rfl 0 k tc.length (by omega) (by omega) (by omega) (by omega) (fun i h0 h1 => jl_lt128 hq.1.1 _) lk_JStr_212 tw_acopy xw_acopy iw_Sys (Nat.le_of_ble_eq_true rfl) (Nat.le_trans (Nat.le_of_eq (Nat.zero_add _)) jl_nfw) rd_JStr_getBytes_22 (fun w3 hw3 => ?_)
  refine jk_goto C rd_JStr_getBytes_25 (tgt := 43) rfl ?_
  exact jm_ret_v C hw3 ⟨rfl, rfl⟩ (by omega) (by omega) rd_JStr_getBytes_43
set_option maxHeartbeats 1000000 in
theorem ct_ASB_putStringAt (hZ : jl_ZK Z sq iad z0 zi mi) {M : jm_M} {a v0 cap k : Nat} {x2 x3 : Value} {f : Int → Int} (h1 : M a = some (.inr (16, [.ref v0, jk_V 0, x2, x3]))) (hb : M v0 = some (jk_W cB cap f)) {q : Nat} {tc : List Int} (hq : jk_St Z q tc) (hk : k + tc.length ≤ cap) (hcap : cap ≤ 1100) : jm_Met l D jk_cl (jl_ty cI cR cO cB) Z mn_ASB_putStringAt (.code mn_ASB_putStringAt mb_ASB_putStringAt 3 none :: jk_WA) (jk_rx 2 0 0 83) [.ref a, jk_V ((k : Int)), .ref q] M (fun v M' => v = none ∧ M' = jm_up M v0 (jk_W cB cap (jl_cpb (fun i => tc.getD i.toNat 0) f 0 k tc.length))) 0 0 := by
  refine jm_body (by decide +kernel) (fun p ev s m args below meth cod w hw hz hin C => ?_) (Nat.le_of_ble_eq_true rfl)
  refine jk_aload_n C rd_ASB_putStringAt_0 (k := 0) rfl ?_
  refine jk_aload_n C rd_ASB_putStringAt_1 (k := 2) rfl ?_
  refine jm_callP C (q := ("java/lang/StringBuilder", tb_SB, 4)) (ci := 16) hZ.1.1 hz hw (ct_ASB_inflateIfNeededFor l D cI cR cO cB hZ h1 hq) lk_ASB_397 sm_ASB_inflateIfNeededFor xw_ASB_inflateIfNeededFor iw_ASB cw_ASB_inflateIfNeededFor (pw_ASB_inflateIfNeededFor hZ.1 hz) nw_SB na_ASB_inflateIfNeededFor ⟨Nat.le_of_ble_eq_true rfl, Nat.le_of_ble_eq_true rfl⟩ rfl h1 rfl (st := []) rfl (Nat.le_of_ble_eq_true rfl) rd_ASB_putStringAt_2 ⟨Nat.le_of_ble_eq_true rfl, Nat.le_of_ble_eq_true rfl⟩ (fun v w1 hp2 => ?_)
  obtain ⟨rfl, hk1⟩ := hp2
  refine jk_aload_n C rd_ASB_putStringAt_5 (k := 2) rfl ?_
  refine jk_aload_n C rd_ASB_putStringAt_6 (k := 0) rfl ?_
  refine jm_get C hk1 in_SB (ci := 16) rfl 0 (Nat.le_of_ble_eq_true rfl) lk_ASB_15 h1 rfl rd_ASB_putStringAt_7 ?_
  refine jk_iload_n C rd_ASB_putStringAt_10 (k := 1) rfl ?_
  refine jk_aload_n C rd_ASB_putStringAt_11 (k := 0) rfl ?_
  refine jm_get C hk1 in_SB (ci := 16) rfl 1 (Nat.le_of_ble_eq_true rfl) lk_ASB_22 h1 rfl rd_ASB_putStringAt_12 ?_
  obtain ⟨v9, hv0⟩ := id hq.2
  have hOq := (hv0 _ _ _ hz).1
  refine jm_callVr C hZ.1.1 hz hk1 (ct_JStr_getBytes l D cI cR cO cB hZ hb hq hk hcap) lk_ASB_399 xw_JStr_getBytes sw_JStr_getBytes iw_JStr cw_JStr_getBytes na_JStr_getBytes ⟨Nat.le_of_ble_eq_true rfl, Nat.le_of_ble_eq_true rfl⟩ rfl (fun H locs _ hS => va_Orecv hOq hS) (st := []) rfl (Nat.le_of_ble_eq_true rfl) rd_ASB_putStringAt_15 ⟨Nat.le_of_ble_eq_true rfl, Nat.le_of_ble_eq_true rfl⟩ (fun v w3 hp4 => ?_)
  obtain ⟨rfl, hk2⟩ := hp4
  exact jm_ret_v C hk2 ⟨rfl, rfl⟩ (by omega) (by omega) rd_ASB_putStringAt_18
set_option maxHeartbeats 1000000 in
theorem ct_ASB_apS (hZ : jl_ZK Z sq iad z0 zi mi) {M : jm_M} {ow : Nat → Nat} {t a k0 : Nat} {tx : List Int} (hS : jl_SB cB ow M t a tx k0) {q : Nat} {tc : List Int} (hq : jk_St Z q tc) (hk0 : 1 ≤ k0) (hlen : tx.length + tc.length ≤ 520) : jm_Met l D jk_cl (jl_ty cI cR cO cB) Z mn_ASB_apS (.code mn_ASB_apS mb_ASB_apS 3 (some (.object "java/lang/AbstractStringBuilder")) :: jk_WA) (jk_rx 4 1 1100 105) [.ref a, .ref q] M (fun v M' => v = some (.ref a) ∧ ∃ ow', jl_SB cB ow' M' t a (tx ++ tc) 1 ∧ jl_Fr ow M ow' M' t) 1 1100 := by
  refine jm_body (by decide +kernel) (fun p ev s m args below meth cod w hw hz hin C => ?_) (Nat.le_of_ble_eq_true rfl)
  refine jk_aload_n C rd_ASB_apS_0 (k := 1) rfl ?_
  refine jr_ifnonnull C rd_ASB_apS_1 (tgt := 9) rfl ?_
  refine jk_aload_n C rd_ASB_apS_9 (k := 1) rfl ?_
  refine jk_slen C hZ.1 hz hq rd_ASB_apS_10 lk_ASB_32 ⟨Nat.le_of_ble_eq_true rfl, Nat.le_of_ble_eq_true rfl⟩ (Nat.le_of_ble_eq_true rfl) ⟨by dsimp only [jk_rx]; omega, by dsimp only [jk_rx]; omega⟩ ?_
  obtain ⟨v0, cap, f, ml, h1, h2, h3, h4, h5, h6, h7⟩ := id hS
  refine jk_istore_n C rd_ASB_apS_13 (Nat.le_of_ble_eq_true rfl) rfl ?_
  refine jk_aload_n C rd_ASB_apS_14 (k := 1) rfl ?_
  refine jk_aload_n C rd_ASB_apS_15 (k := 1) rfl ?_
  refine jm_get C hw in_SB (ci := 16) rfl 3 (Nat.le_of_ble_eq_true rfl) lk_ASB_79 h1 rfl rd_ASB_apS_16 ?_
  refine jk_iload_n C rd_ASB_apS_19 (k := 0) rfl ?_
  refine jk_iadd C rd_ASB_apS_20 ?_
  rw [show (tx.length : Int) + (tc.length : Int) = ((tx.length + tc.length : Nat) : Int) by omega]
  refine jm_callP C (q := ("java/lang/StringBuilder", tb_SB, 4)) (ci := 16) hZ.1.1 hz hw (ct_ASB_ensureCapacityInternal l D cI cR cO cB hZ hS (k := tx.length + tc.length) hlen hk0) lk_ASB_100 sm_ASB_ensureCapacityInternal xw_ASB_ensureCapacityInternal iw_ASB cw_ASB_ensureCapacityInternal (pw_ASB_ensureCapacityInternal hZ.1 hz) nw_SB na_ASB_ensureCapacityInternal ⟨by dsimp only [jk_rx]; omega, by dsimp only [jk_rx]; omega⟩ rfl h1 rfl (st := []) rfl (Nat.le_of_ble_eq_true rfl) rd_ASB_apS_21 ⟨by dsimp only [jk_rx]; omega, by dsimp only [jk_rx]; omega⟩ (fun v w1 hp2 => ?_)
  obtain ⟨rfl, ow1, hS1, hF1⟩ := hp2
  clear h1 h2 h3 h4 h5 h6 h7
  obtain ⟨v1, cap1, f1, ml1, h1, h2, h3, h4, h5, h6, h7⟩ := id hS1
  refine jk_aload_n C rd_ASB_apS_24 (k := 1) rfl ?_
  refine jk_aload_n C rd_ASB_apS_25 (k := 1) rfl ?_
  refine jm_get C (rfl : jm_lk w1 = _) in_SB (ci := 16) rfl 3 (Nat.le_of_ble_eq_true rfl) lk_ASB_79 h1 rfl rd_ASB_apS_26 ?_
  refine jk_aload_n C rd_ASB_apS_29 (k := 2) rfl ?_
  refine jm_callP C (q := ("java/lang/StringBuilder", tb_SB, 4)) (ci := 16) hZ.1.1 hz (rfl : jm_lk w1 = _) (ct_ASB_putStringAt l D cI cR cO cB hZ h1 h3 hq (k := tx.length) (by omega) h5) lk_ASB_208 sm_ASB_putStringAt xw_ASB_putStringAt iw_ASB cw_ASB_putStringAt (pw_ASB_putStringAt hZ.1 hz) nw_SB na_ASB_putStringAt ⟨by dsimp only [jk_rx]; omega, by dsimp only [jk_rx]; omega⟩ rfl h1 rfl (st := []) rfl (Nat.le_of_ble_eq_true rfl) rd_ASB_apS_30 ⟨by dsimp only [jk_rx]; omega, by dsimp only [jk_rx]; omega⟩ (fun v w3 hp4 => ?_)
  obtain ⟨rfl, hk2⟩ := hp4
  obtain ⟨M9, hM9⟩ : ∃ M9 : jm_M, M9 = jm_up (jm_lk w1) v1 (jk_W cB cap1 (jl_cpb (fun i => tc.getD i.toNat 0) f1 0 tx.length tc.length)) := ⟨_, rfl⟩
  rw [← hM9] at hk2
  have hav := jm_nek h1 h3 rfl
  have h19 := jm_keep hM9 h1 hav
  have h39 := jm_this hM9
  refine jk_aload_n C rd_ASB_apS_33 (k := 1) rfl ?_
  refine jk_dup C rd_ASB_apS_34 rfl ?_
  refine jm_get C hk2 in_SB (ci := 16) rfl 3 (Nat.le_of_ble_eq_true rfl) lk_ASB_79 h19 rfl rd_ASB_apS_35 ?_
  refine jk_iload_n C rd_ASB_apS_38 (k := 0) rfl ?_
  refine jk_iadd C rd_ASB_apS_39 ?_
  refine jm_put C hk2 in_SB (ty0 := tf_SB) ty_SB nm_SB (ci := 16) rfl 3 (Nat.le_of_ble_eq_true rfl) lk_ASB_79 rfl rfl rfl h19 (Nat.le_of_ble_eq_true rfl) rd_ASB_apS_40 (fun w5 hw5 => ?_)
  obtain ⟨M6, hM6⟩ : ∃ Mx : jm_M, Mx = jm_up M9 a (.inr (16, [.ref v1, jk_V 0, jk_V ml1, jk_V (((tx.length : Int)) + ((tc.length : Int)))])) := ⟨_, rfl⟩
  replace hw5 : jm_lk w5 = M6 := by rw [hM6]; exact hw5
  have hc6_a := jm_this hM6
  refine jk_aload_n C rd_ASB_apS_43 (k := 1) rfl ?_
  refine jm_ret_q C rfl (Or.inl ⟨_, rfl⟩) (Or.inr ⟨_, rfl⟩) hw5 ⟨rfl, ow1, ⟨v1, cap1, _, ml1, (by rw [List.length_append, Int.natCast_add]; exact hc6_a), h2, jm_keep hM6 h39 hav.symm, h4, h5, by omega, h7.app (fun i hi => ⟨by rw [Int.toNat_natCast], jl_lt128 hq.1.1 _⟩) rfl (by omega)⟩, hF1.trans ((jl_Fr.put hM9 h4).trans (jl_Fr.put hM6 h2))⟩ (by omega) (by omega) rd_ASB_apS_44
set_option maxHeartbeats 1000000 in
theorem ct_SB_apS (hZ : jl_ZK Z sq iad z0 zi mi) {M : jm_M} {ow : Nat → Nat} {t a k0 : Nat} {tx : List Int} (hS : jl_SB cB ow M t a tx k0) {q : Nat} {tc : List Int} (hq : jk_St Z q tc) (hk0 : 1 ≤ k0) (hlen : tx.length + tc.length ≤ 520) : jm_Met l D jk_cl (jl_ty cI cR cO cB) Z mn_SB_apS (.code mn_SB_apS mb_SB_apS 2 (some (.object "java/lang/StringBuilder")) :: jk_WA) (jk_rx 5 1 1100 127) [.ref a, .ref q] M (fun v M' => v = some (.ref a) ∧ ∃ ow', jl_SB cB ow' M' t a (tx ++ tc) 1 ∧ jl_Fr ow M ow' M' t) 1 1100 := by
  refine jm_body (by decide +kernel) (fun p ev s m args below meth cod w hw hz hin C => ?_) (Nat.le_of_ble_eq_true rfl)
  obtain ⟨v0, cap, f, ml, h1, -⟩ := id hS
  refine jk_aload_n C rd_SB_apS_0 (k := 0) rfl ?_
  refine jk_aload_n C rd_SB_apS_1 (k := 1) rfl ?_
  refine jm_callSU C (q := ("java/lang/StringBuilder", tb_SB, 4)) (ci := 16) hZ.1.1 hz hw (ct_ASB_apS l D cI cR cO cB hZ hS hq hk0 hlen) (by simp only [List.mem_cons, List.not_mem_nil, or_false, forall_eq_or_imp, forall_eq]; exact ⟨lk_SB_29, sm_ASB_apS, uw_SB, xw_ASB_apS, iw_ASB⟩) cw_ASB_apS (by decide +kernel) na_ASB_apS ⟨by dsimp only [jk_rx]; omega, by dsimp only [jk_rx]; omega⟩ rfl h1 rfl (st := []) rfl (Nat.le_of_ble_eq_true rfl) rd_SB_apS_2 ⟨by dsimp only [jk_rx]; omega, by dsimp only [jk_rx]; omega⟩ (fun v w1 hp2 => ?_)
  obtain ⟨rfl, ow1, hS1, hF1⟩ := hp2
  refine jk_pop C rd_SB_apS_5 rfl ?_
  refine jk_aload_n C rd_SB_apS_6 (k := 0) rfl ?_
  exact jm_ret_q C rfl (Or.inl ⟨_, rfl⟩) (Or.inr ⟨_, rfl⟩) (rfl : jm_lk w1 = _) ⟨rfl, ow1, hS1, hF1⟩ (by omega) (by omega) rd_SB_apS_7
set_option maxHeartbeats 1000000 in
theorem ct_SB_apSb (hZ : jl_ZK Z sq iad z0 zi mi) {M : jm_M} {ow : Nat → Nat} {t a k0 : Nat} {tx : List Int} (hS : jl_SB cB ow M t a tx k0) {q : Nat} {tc : List Int} (hq : jk_St Z q tc) (hk0 : 1 ≤ k0) (hlen : tx.length + tc.length ≤ 520) : jm_Met l D jk_cl (jl_ty cI cR cO cB) Z mn_SB_apSb (.code mn_SB_apSb mb_SB_apSb 2 (some (.object "java/lang/AbstractStringBuilder")) :: jk_WA) (jk_rx 6 1 1100 148) [.ref a, .ref q] M (fun v M' => v = some (.ref a) ∧ ∃ ow', jl_SB cB ow' M' t a (tx ++ tc) 1 ∧ jl_Fr ow M ow' M' t) 1 1100 := by
  refine jm_body (by decide +kernel) (fun p ev s m args below meth cod w hw hz hin C => ?_) (Nat.le_of_ble_eq_true rfl)
  obtain ⟨v0, cap, f, ml, h1, -⟩ := id hS
  refine jk_aload_n C rd_SB_apSb_0 (k := 0) rfl ?_
  refine jk_aload_n C rd_SB_apSb_1 (k := 1) rfl ?_
  refine jm_callV C hZ.1.1 hz hw (ct_SB_apS l D cI cR cO cB hZ hS hq hk0 hlen) lk_SB_23 xw_SB_apS sw_SB_apS iw_SB cw_SB_apS na_SB_apS ⟨by dsimp only [jk_rx]; omega, by dsimp only [jk_rx]; omega⟩ rfl h1 rfl rfl (st := []) rfl (Nat.le_of_ble_eq_true rfl) rd_SB_apSb_2 ⟨by dsimp only [jk_rx]; omega, by dsimp only [jk_rx]; omega⟩ (fun v w1 hp2 => ?_)
  obtain ⟨rfl, ow1, hS1, hF1⟩ := hp2
  exact jm_ret_q C rfl (Or.inl ⟨_, rfl⟩) (Or.inr ⟨_, rfl⟩) (rfl : jm_lk w1 = _) ⟨rfl, ow1, hS1, hF1⟩ (by omega) (by omega) rd_SB_apSb_5
set_option maxHeartbeats 1000000 in
theorem ct_JLat_canEncode (hZ : jl_ZK Z sq iad z0 zi mi) {M : jm_M} {x : Int} (hx : 0 ≤ x ∧ x < 128) : jm_Met l D jk_cl (jl_ty cI cR cO cB) Z mn_JLat_canEncode (.code mn_JLat_canEncode mb_JLat_canEncode 1 (some .boolean) :: jk_WA) (jk_rx 0 0 0 0) [jk_V x] M (fun v M' => v = some (jk_V 1) ∧ M' = M) 0 0 := by
  refine jm_body (by decide +kernel) (fun p ev s m args below meth cod w hw hz hin C => ?_) (Nat.le_of_ble_eq_true rfl)
  refine jk_iload_n C rd_JLat_canEncode_0 (k := 0) rfl ?_
  refine jk_sipush C rd_JLat_canEncode_1 (by decide +kernel) ?_
  refine jr_icmp_gt C rd_JLat_canEncode_4 (tgt := 11) rfl ⟨by omega, by omega⟩ ⟨by omega, by omega⟩ (fun hc => absurd hc (by omega)) (fun _ => ?_)
  refine jk_iconst C rd_JLat_canEncode_7 ?_
  refine jk_goto C rd_JLat_canEncode_8 (tgt := 12) rfl ?_
  exact jm_ret_z C (Or.inr rfl) hw ⟨rfl, rfl⟩ (by omega) (by omega) rd_JLat_canEncode_12
theorem jl_By.one {f : Int → Int} {cap : Nat} {x : Int} {tx : List Int} (h : jl_By f cap tx) (hx : 0 ≤ x ∧ x < 128) (hc : tx.length + 1 ≤ cap) : jl_By (jk_up f (tx.length : Int) x) cap (tx ++ [x]) := by
  refine ⟨fun i h0 h1 => ?_, by rw [List.length_append]; exact hc, fun i hi => ?_⟩
  · unfold jk_up
    split
    · exact hx
    · exact h.1 i h0 h1
  · rw [List.length_append] at hi
    change i < tx.length + 1 at hi
    unfold jk_up
    rw [List.getD_eq_getElem?_getD]
    by_cases hl : i = tx.length
    · subst hl
      rw [if_pos rfl, List.getElem?_append_right (Nat.le_refl _), Nat.sub_self]
      rfl
    · rw [if_neg (by omega), h.2.2 i (by omega), List.getElem?_append_left (by omega), List.getD_eq_getElem?_getD]
set_option maxHeartbeats 1000000 in
theorem ct_ASB_apC (hZ : jl_ZK Z sq iad z0 zi mi) {M : jm_M} {ow : Nat → Nat} {t a k0 : Nat} {tx : List Int} (hS : jl_SB cB ow M t a tx k0) {x : Int} (hx : 0 ≤ x ∧ x < 128) (hk0 : 1 ≤ k0) (hlen : tx.length + 1 ≤ 520) : jm_Met l D jk_cl (jl_ty cI cR cO cB) Z mn_ASB_apC (.code mn_ASB_apC mb_ASB_apC 2 (some (.object "java/lang/AbstractStringBuilder")) :: jk_WA) (jk_rx 4 1 1100 104) [.ref a, jk_V x] M (fun v M' => v = some (.ref a) ∧ ∃ ow', jl_SB cB ow' M' t a (tx ++ [x]) 1 ∧ jl_Fr ow M ow' M' t) 1 1100 := by
  refine jm_body (by decide +kernel) (fun p ev s m args below meth cod w hw hz hin C => ?_) (Nat.le_of_ble_eq_true rfl)
  obtain ⟨v0, cap, f, ml, h1, h2, h3, h4, h5, h6, h7⟩ := id hS
  refine jk_aload_n C rd_ASB_apC_0 (k := 0) rfl ?_
  refine jk_aload_n C rd_ASB_apC_1 (k := 0) rfl ?_
  refine jm_get C hw in_SB (ci := 16) rfl 3 (Nat.le_of_ble_eq_true rfl) lk_ASB_79 h1 rfl rd_ASB_apC_2 ?_
  refine jk_iconst C rd_ASB_apC_5 ?_
  refine jk_iadd C rd_ASB_apC_6 ?_
  rw [show (tx.length : Int) + 1 = ((tx.length + 1 : Nat) : Int) by omega]
  refine jm_callP C (q := ("java/lang/StringBuilder", tb_SB, 4)) (ci := 16) hZ.1.1 hz hw (ct_ASB_ensureCapacityInternal l D cI cR cO cB hZ hS (k := tx.length + 1) hlen hk0) lk_ASB_100 sm_ASB_ensureCapacityInternal xw_ASB_ensureCapacityInternal iw_ASB cw_ASB_ensureCapacityInternal (pw_ASB_ensureCapacityInternal hZ.1 hz) nw_SB na_ASB_ensureCapacityInternal ⟨by dsimp only [jk_rx]; omega, by dsimp only [jk_rx]; omega⟩ rfl h1 rfl (st := []) rfl (Nat.le_of_ble_eq_true rfl) rd_ASB_apC_7 ⟨by dsimp only [jk_rx]; omega, by dsimp only [jk_rx]; omega⟩ (fun v w1 hp2 => ?_)
  obtain ⟨rfl, ow1, hS1, hF1⟩ := hp2
  clear h1 h2 h3 h4 h5 h6 h7
  obtain ⟨v1, cap1, f1, ml1, h1, h2, h3, h4, h5, h6, h7⟩ := id hS1
  refine jk_aload_n C rd_ASB_apC_10 (k := 0) rfl ?_
  refine jm_callU C (q := ("java/lang/StringBuilder", tb_SB, 4)) (ci := 16) (x := mn_ASB_isLatin1) (owner := "java/lang/AbstractStringBuilder") hZ.1.1 hz (rfl : jm_lk w1 = _) (ct_ASB_isLatin1 l D cI cR cO cB hZ h1) (by simp only [List.mem_cons, List.not_mem_nil, or_false, forall_eq_or_imp, forall_eq]; exact ⟨lk_ASB_83, sm_ASB_isLatin1, sw_SB_ASB_isLatin1, xw_ASB_isLatin1, iw_ASB⟩) cw_ASB_isLatin1 rfl ⟨by decide +kernel, by decide +kernel, by decide +kernel⟩ ⟨by dsimp only [jk_rx]; omega, by dsimp only [jk_rx]; omega⟩ rfl h1 rfl (st := []) rfl (Nat.le_of_ble_eq_true rfl) rd_ASB_apC_11 ⟨by dsimp only [jk_rx]; omega, by dsimp only [jk_rx]; omega⟩ (fun v w3 hp4 => ?_)
  obtain ⟨rfl, hk2⟩ := hp4
  refine jr_if_eq C rd_ASB_apC_14 (tgt := 45) rfl ⟨by omega, by omega⟩ (fun hc => absurd hc (by omega)) (fun _ => ?_)
  refine jk_iload_n C rd_ASB_apC_17 (k := 1) rfl ?_
  refine jm_callS C hZ.1.1 hz hk2 (ct_JLat_canEncode l D cI cR cO cB hZ (M := jm_lk w1) hx) lk_ASB_191 xw_JLat_canEncode iw_JLat cw_JLat_canEncode na_JLat_canEncode ⟨by dsimp only [jk_rx]; omega, by dsimp only [jk_rx]; omega⟩ rfl (st := []) rfl (Nat.le_of_ble_eq_true rfl) rd_ASB_apC_18 ⟨by dsimp only [jk_rx]; omega, by dsimp only [jk_rx]; omega⟩ (fun v w5 hp6 => ?_)
  obtain ⟨rfl, hk3⟩ := hp6
  refine jr_if_eq C rd_ASB_apC_21 (tgt := 45) rfl ⟨by omega, by omega⟩ (fun hc => absurd hc (by omega)) (fun _ => ?_)
  refine jk_aload_n C rd_ASB_apC_24 (k := 0) rfl ?_
  refine jm_get C hk3 in_SB (ci := 16) rfl 0 (Nat.le_of_ble_eq_true rfl) lk_ASB_15 h1 rfl rd_ASB_apC_25 ?_
  refine jk_aload_n C rd_ASB_apC_28 (k := 0) rfl ?_
  refine jk_dup C rd_ASB_apC_29 rfl ?_
  refine jm_get C hk3 in_SB (ci := 16) rfl 3 (Nat.le_of_ble_eq_true rfl) lk_ASB_79 h1 rfl rd_ASB_apC_30 ?_
  refine jr_dup_x1 C rd_ASB_apC_33 rfl rfl ?_
  refine jk_iconst C rd_ASB_apC_34 ?_
  refine jk_iadd C rd_ASB_apC_35 ?_
  refine jm_put C hk3 in_SB (ty0 := tf_SB) ty_SB nm_SB (ci := 16) rfl 3 (Nat.le_of_ble_eq_true rfl) lk_ASB_79 rfl rfl rfl h1 (Nat.le_of_ble_eq_true rfl) rd_ASB_apC_36 (fun w7 hw7 => ?_)
  obtain ⟨M8, hM8⟩ : ∃ Mx : jm_M, Mx = jm_up (jm_lk w1) a (.inr (16, [.ref v1, jk_V 0, jk_V ml1, jk_V (((tx.length : Int)) + 1)])) := ⟨_, rfl⟩
  replace hw7 : jm_lk w7 = M8 := by rw [hM8]; exact hw7
  have hc8_v1 := jm_keep hM8 h3 (jm_nek h3 h1 rfl)
  have hc8_a := jm_this hM8
  refine jk_iload_n C rd_ASB_apC_39 (k := 1) rfl ?_
  refine jm_i2b C hx rd_ASB_apC_40 ?_
  refine jm_bast C hw7 3 hc8_v1 rfl hx (by omega) (by omega) (by omega) rd_ASB_apC_41 (fun w8 hw8 => ?_)
  obtain ⟨M9, hM9⟩ : ∃ Mx : jm_M, Mx = jm_up M8 v1 (jk_W cB cap1 (jk_up f1 (tx.length : Int) x)) := ⟨_, rfl⟩
  replace hw8 : jm_lk w8 = M9 := by rw [hM9]; exact hw8
  have hc9_a := jm_keep hM9 hc8_a (jm_nek h1 h3 rfl)
  have hc9_v1 := jm_this hM9
  refine jk_goto C rd_ASB_apC_42 (tgt := 75) rfl ?_
  refine jk_aload_n C rd_ASB_apC_75 (k := 0) rfl ?_
  refine jm_ret_q C rfl (Or.inl ⟨_, rfl⟩) (Or.inr ⟨_, rfl⟩) hw8 ⟨rfl, ow1, ⟨v1, cap1, _, ml1, (by rw [List.length_append, Int.natCast_add]; exact hc9_a), h2, hc9_v1, h4, h5, by omega, h7.one hx (by omega)⟩, hF1.trans ((jl_Fr.put hM8 h2).trans (jl_Fr.put hM9 h4))⟩ (by omega) (by omega) rd_ASB_apC_76
set_option maxHeartbeats 1000000 in
theorem ct_SB_apC (hZ : jl_ZK Z sq iad z0 zi mi) {M : jm_M} {ow : Nat → Nat} {t a k0 : Nat} {tx : List Int} (hS : jl_SB cB ow M t a tx k0) {x : Int} (hx : 0 ≤ x ∧ x < 128) (hk0 : 1 ≤ k0) (hlen : tx.length + 1 ≤ 520) : jm_Met l D jk_cl (jl_ty cI cR cO cB) Z mn_SB_apC (.code mn_SB_apC mb_SB_apC 2 (some (.object "java/lang/StringBuilder")) :: jk_WA) (jk_rx 5 1 1100 125) [.ref a, jk_V x] M (fun v M' => v = some (.ref a) ∧ ∃ ow', jl_SB cB ow' M' t a (tx ++ [x]) 1 ∧ jl_Fr ow M ow' M' t) 1 1100 := by
  refine jm_body (by decide +kernel) (fun p ev s m args below meth cod w hw hz hin C => ?_) (Nat.le_of_ble_eq_true rfl)
  obtain ⟨v0, cap, f, ml, h1, -⟩ := id hS
  refine jk_aload_n C rd_SB_apC_0 (k := 0) rfl ?_
  refine jk_iload_n C rd_SB_apC_1 (k := 1) rfl ?_
  refine jm_callSU C (q := ("java/lang/StringBuilder", tb_SB, 4)) (ci := 16) hZ.1.1 hz hw (ct_ASB_apC l D cI cR cO cB hZ hS hx hk0 hlen) (by simp only [List.mem_cons, List.not_mem_nil, or_false, forall_eq_or_imp, forall_eq]; exact ⟨lk_SB_50, sm_ASB_apC, uw_SB, xw_ASB_apC, iw_ASB⟩) cw_ASB_apC (by decide +kernel) na_ASB_apC ⟨by dsimp only [jk_rx]; omega, by dsimp only [jk_rx]; omega⟩ rfl h1 rfl (st := []) rfl (Nat.le_of_ble_eq_true rfl) rd_SB_apC_2 ⟨by dsimp only [jk_rx]; omega, by dsimp only [jk_rx]; omega⟩ (fun v w1 hp2 => ?_)
  obtain ⟨rfl, ow1, hS1, hF1⟩ := hp2
  refine jk_pop C rd_SB_apC_5 rfl ?_
  refine jk_aload_n C rd_SB_apC_6 (k := 0) rfl ?_
  exact jm_ret_q C rfl (Or.inl ⟨_, rfl⟩) (Or.inr ⟨_, rfl⟩) (rfl : jm_lk w1 = _) ⟨rfl, ow1, hS1, hF1⟩ (by omega) (by omega) rd_SB_apC_7
end SB1
