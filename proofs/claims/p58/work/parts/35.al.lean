/-! lists: one taken out by its place -/
theorem jl_ers {cap i : Nat} {g : Nat → Option Nat} {xs : List Nat} (h : ∀ j, j < cap → g j = xs[j]?) (hi : i < xs.length) (hl : xs.length ≤ cap) : ∀ j, j < cap → va_up (va_cpy g g (i + 1) i (xs.length - 1 - i)) (xs.length - 1) none j = (xs.eraseIdx i)[j]? := by
  intro j hj
  rw [List.getElem?_eraseIdx]
  unfold va_up va_cpy
  by_cases h1 : j = xs.length - 1
  · rw [if_pos h1, if_neg (by omega), List.getElem?_eq_none (by omega)]
  · rw [if_neg h1]
    by_cases h2 : j < i
    · rw [if_neg (by omega), if_pos h2, h j hj]
    · rw [if_neg h2]
      by_cases h3 : j < xs.length - 1
      · rw [if_pos (by omega), h _ (by omega)]
        congr 1
        omega
      · rw [if_neg (by omega), h j hj, List.getElem?_eq_none (by omega), List.getElem?_eq_none (by omega)]
theorem jl_ers0 {cap i : Nat} {g : Nat → Option Nat} {xs : List Nat} (h : ∀ j, j < cap → g j = xs[j]?) (hi : i + 1 = xs.length) (hl : xs.length ≤ cap) : ∀ j, j < cap → va_up g (xs.length - 1) none j = (xs.eraseIdx i)[j]? := by
  intro j hj
  rw [List.getElem?_eraseIdx]
  unfold va_up
  by_cases h1 : j = xs.length - 1
  · rw [if_pos h1, if_neg (by omega), List.getElem?_eq_none (by omega)]
  · rw [if_neg h1, h j hj]
    by_cases h2 : j < i
    · rw [if_pos h2]
    · rw [if_neg h2, List.getElem?_eq_none (by omega), List.getElem?_eq_none (by omega)]
section AL5
variable (l : Launch) (D : va_G) {Z : (Nat → Prop) → State → Heap → Prop} {sq iad : Nat → Nat} {z0 zi mi : Nat} (cI cR cO cB : ClassId)
set_option maxHeartbeats 1000000 in
theorem ct_AL_fastRemove (hZ : jl_ZK Z sq iad z0 zi mi) {M : jm_M} {ow : Nat → Nat} {t a e cap i : Nat} {mc : Int} {g : Nat → Option Nat} {xs : List Nat} (h1 : M a = some (.inr (14, [jk_V mc, .ref e, jk_V (xs.length : Int)]))) (h2 : ow a = t) (h8 : M e = some (jm_Q cO cap g)) (h9 : ow e = t) (h4 : xs.length ≤ cap) (h5 : cap ≤ 60) (h6 : ∀ i, i < cap → g i = xs[i]?) (hi : i < xs.length) (hel : ∀ y, (∃ i, i < cap ∧ g i = some y) → jl_el iad M y) : jm_Met l D jk_cl (jl_ty cI cR cO cB) Z mn_AL_fastRemove (.code mn_AL_fastRemove mb_AL_fastRemove 4 none :: jk_WA) (jk_rx 1 0 0 60) [.ref a, .ref e, jk_V ((i : Int))] M (fun v M' => v = none ∧ jl_AL cO z0 ow M' t a (xs.eraseIdx i) ∧ jl_Fr ow M ow M' t) 0 0 := by
  refine jm_body (by decide +kernel) (fun p ev s m args below meth cod w hw hz hin C => ?_) (Nat.le_of_ble_eq_true rfl)
  refine jk_aload_n C rd_AL_fastRemove_0 (k := 0) rfl ?_
  refine jk_dup C rd_AL_fastRemove_1 rfl ?_
  refine jm_getS C hw in_AL (ci := 14) rfl 0 (Nat.le_of_ble_eq_true rfl) lk_AL_63 (fun x hx => u_same (C.1.2.2.2.2 _ sf_modCount) x hx) h1 rfl rd_AL_fastRemove_2 ?_
  refine jk_iconst C rd_AL_fastRemove_5 ?_
  refine jk_iadd C rd_AL_fastRemove_6 ?_
  refine jm_putS C hw in_AL (ty0 := tf_AL) ty_AL nm_AL (ci := 14) rfl 0 (Nat.le_of_ble_eq_true rfl) lk_AL_63 (fun x hx => u_same (C.1.2.2.2.2 _ sf_modCount) x hx) rfl rfl rfl h1 (Nat.le_of_ble_eq_true rfl) rd_AL_fastRemove_7 (fun w1 hw1 => ?_)
  obtain ⟨M2, hM2⟩ : ∃ Mx : jm_M, Mx = jm_up M a (.inr (14, [jk_V (mc + 1), .ref e, jk_V ((xs.length : Int))])) := ⟨_, rfl⟩
  replace hw1 : jm_lk w1 = M2 := by rw [hM2]; exact hw1
  have hc2_e := jm_keep hM2 h8 (jm_nek h8 h1 rfl)
  have hc2_a := jm_this hM2
  refine jk_aload_n C rd_AL_fastRemove_10 (k := 0) rfl ?_
  refine jm_get C hw1 in_AL (ci := 14) rfl 2 (Nat.le_of_ble_eq_true rfl) lk_AL_48 hc2_a rfl rd_AL_fastRemove_11 ?_
  refine jk_iconst C rd_AL_fastRemove_14 ?_
  refine jk_isub C rd_AL_fastRemove_15 ?_
  refine jk_dup C rd_AL_fastRemove_16 rfl ?_
  refine jk_istore_n C rd_AL_fastRemove_17 (Nat.le_of_ble_eq_true rfl) rfl ?_
  refine jk_iload_n C rd_AL_fastRemove_18 (k := 3) rfl ?_
  refine jr_icmp_le C rd_AL_fastRemove_19 (tgt := 34) rfl ⟨by omega, by omega⟩ ⟨by omega, by omega⟩ (fun hc => ?_) (fun hc => ?_)
  · refine jk_aload_n C rd_AL_fastRemove_34 (k := 2) rfl ?_
    refine jk_aload_n C rd_AL_fastRemove_35 (k := 1) rfl ?_
    refine jk_iload_n C rd_AL_fastRemove_36 (k := 0) rfl ?_
    refine jr_dup_x1 C rd_AL_fastRemove_37 rfl rfl ?_
    refine jm_put C hw1 in_AL (ty0 := tf_AL) ty_AL nm_AL (ci := 14) rfl 2 (Nat.le_of_ble_eq_true rfl) lk_AL_48 rfl rfl rfl hc2_a (Nat.le_of_ble_eq_true rfl) rd_AL_fastRemove_38 (fun w31 hw31 => ?_)
    obtain ⟨M32, hM32⟩ : ∃ Mx : jm_M, Mx = jm_up M2 a (.inr (14, [jk_V (mc + 1), .ref e, jk_V (((xs.length : Int)) - 1)])) := ⟨_, rfl⟩
    replace hw31 : jm_lk w31 = M32 := by rw [hM32]; exact hw31
    have hc32_e := jm_keep hM32 hc2_e (jm_nek h8 h1 rfl)
    have hc32_a := jm_this hM32
    refine jr_null C rd_AL_fastRemove_41 ?_
    have ec : (xs.length : Int) - 1 = ((xs.length - 1 : Nat) : Int) := by omega
    refine jm_qastN C hw31 2 hc32_e rfl (by omega) (by omega) (by omega) rd_AL_fastRemove_42 (fun w8 hw8 => ?_)
    rw [show ((xs.length : Int) - 1).toNat = xs.length - 1 by omega] at hw8
    obtain ⟨M33, hM33⟩ : ∃ Mx : jm_M, Mx = jm_up M32 e (jm_Q cO cap (va_up g (xs.length - 1) none)) := ⟨_, rfl⟩
    replace hw8 : jm_lk w8 = M33 := by rw [hM33]; exact hw8
    have hc33_a := jm_keep hM33 hc32_a (jm_nek h1 h8 rfl)
    have hc33_e := jm_this hM33
    have el : (xs.eraseIdx i).length = xs.length - 1 := by rw [List.length_eraseIdx, if_pos hi]
    refine jm_ret_v C hw8 ⟨rfl, ⟨_, e, cap, _, (by rw [el, ← ec]; exact hc33_a), h2, Or.inr ⟨by omega, hc33_e, h9⟩, by omega, h5, (jl_ers0 h6 (by omega) h4)⟩, ?_⟩ (by omega) (by omega) rd_AL_fastRemove_43
    refine jl_FrP.mk (((jl_dom.up hM2).trans (jl_dom.up hM32)).trans (jl_dom.up hM33)) (fun b eb hb => ?_)
    refine ⟨rfl, fun hne => ?_⟩
    have ba : b ≠ a := fun z => hne (by rw [z]; exact h2)
    have be : b ≠ e := fun z => hne (by rw [z]; exact h9)
    exact (jm_keep hM33 (jm_keep hM32 (jm_keep hM2 hb ba) ba) be)
  · refine jk_aload_n C rd_AL_fastRemove_22 (k := 2) rfl ?_
    refine jk_iload_n C rd_AL_fastRemove_23 (k := 3) rfl ?_
    refine jk_iconst C rd_AL_fastRemove_24 ?_
    refine jk_iadd C rd_AL_fastRemove_25 ?_
    refine jk_aload_n C rd_AL_fastRemove_26 (k := 2) rfl ?_
    refine jk_iload_n C rd_AL_fastRemove_27 (k := 3) rfl ?_
    refine jk_iload_n C rd_AL_fastRemove_28 (k := 0) rfl ?_
    refine jk_iload_n C rd_AL_fastRemove_29 (k := 3) rfl ?_
    refine jk_isub C rd_AL_fastRemove_30 ?_
    rw [show (xs.length : Int) - 1 - (i : Int) = ((xs.length - 1 - i : Nat) : Int) by omega, show (i : Int) + 1 = ((i + 1 : Nat) : Int) by omega]
    refine jm_copyq C hw1 2 hc2_e hc2_e rfl (i + 1) i (xs.length - 1 - i) (by omega) (by omega) (by omega) (by omega) (fun H locs hP hS j hj y hy => jl_any hZ hz C.2.1 hw1 ((hel y ⟨_, by omega, hy⟩).up hM2 h1 rfl) hP hS) lk_AL_112 tw_acopy xw_acopy iw_Sys (Nat.le_of_ble_eq_true rfl) (Nat.le_trans (Nat.le_of_eq (Nat.zero_add _)) jl_nfw) rd_AL_fastRemove_31 (fun w7 hw7 => ?_)
    obtain ⟨M51, hM51⟩ : ∃ Mx : jm_M, Mx = jm_up M2 e (jm_Q cO cap (va_cpy g g (i + 1) i (xs.length - 1 - i))) := ⟨_, rfl⟩
    replace hw7 : jm_lk w7 = M51 := by rw [hM51]; exact hw7
    have hc51_a := jm_keep hM51 hc2_a (jm_nek h1 h8 rfl)
    have hc51_e := jm_this hM51
    refine jk_aload_n C rd_AL_fastRemove_34 (k := 2) rfl ?_
    refine jk_aload_n C rd_AL_fastRemove_35 (k := 1) rfl ?_
    refine jk_iload_n C rd_AL_fastRemove_36 (k := 0) rfl ?_
    refine jr_dup_x1 C rd_AL_fastRemove_37 rfl rfl ?_
    refine jm_put C hw7 in_AL (ty0 := tf_AL) ty_AL nm_AL (ci := 14) rfl 2 (Nat.le_of_ble_eq_true rfl) lk_AL_48 rfl rfl rfl hc51_a (Nat.le_of_ble_eq_true rfl) rd_AL_fastRemove_38 (fun w52 hw52 => ?_)
    obtain ⟨M53, hM53⟩ : ∃ Mx : jm_M, Mx = jm_up M51 a (.inr (14, [jk_V (mc + 1), .ref e, jk_V (((xs.length : Int)) - 1)])) := ⟨_, rfl⟩
    replace hw52 : jm_lk w52 = M53 := by rw [hM53]; exact hw52
    have hc53_e := jm_keep hM53 hc51_e (jm_nek h8 h1 rfl)
    have hc53_a := jm_this hM53
    refine jr_null C rd_AL_fastRemove_41 ?_
    have ec : (xs.length : Int) - 1 = ((xs.length - 1 : Nat) : Int) := by omega
    refine jm_qastN C hw52 2 hc53_e rfl (by omega) (by omega) (by omega) rd_AL_fastRemove_42 (fun w8 hw8 => ?_)
    rw [show ((xs.length : Int) - 1).toNat = xs.length - 1 by omega] at hw8
    obtain ⟨M54, hM54⟩ : ∃ Mx : jm_M, Mx = jm_up M53 e (jm_Q cO cap (va_up (va_cpy g g (i + 1) i (xs.length - 1 - i)) (xs.length - 1) none)) := ⟨_, rfl⟩
    replace hw8 : jm_lk w8 = M54 := by rw [hM54]; exact hw8
    have hc54_a := jm_keep hM54 hc53_a (jm_nek h1 h8 rfl)
    have hc54_e := jm_this hM54
    have el : (xs.eraseIdx i).length = xs.length - 1 := by rw [List.length_eraseIdx, if_pos hi]
    refine jm_ret_v C hw8 ⟨rfl, ⟨_, e, cap, _, (by rw [el, ← ec]; exact hc54_a), h2, Or.inr ⟨by omega, hc54_e, h9⟩, by omega, h5, (jl_ers h6 hi h4)⟩, ?_⟩ (by omega) (by omega) rd_AL_fastRemove_43
    refine jl_FrP.mk ((((jl_dom.up hM2).trans (jl_dom.up hM51)).trans (jl_dom.up hM53)).trans (jl_dom.up hM54)) (fun b eb hb => ?_)
    refine ⟨rfl, fun hne => ?_⟩
    have ba : b ≠ a := fun z => hne (by rw [z]; exact h2)
    have be : b ≠ e := fun z => hne (by rw [z]; exact h9)
    exact (jm_keep hM54 (jm_keep hM53 (jm_keep hM51 (jm_keep hM2 hb ba) be) ba) be)
set_option maxHeartbeats 1000000 in
theorem ct_AL_remove (hZ : jl_ZK Z sq iad z0 zi mi) {M : jm_M} {ow : Nat → Nat} {t a i x : Nat} {xs : List Nat} (hL : jl_AL cO z0 ow M t a xs) (hx : xs[i]? = some x) (hxs : ∀ y ∈ xs, jl_el iad M y) : jm_Met l D jk_cl (jl_ty cI cR cO cB) Z mn_AL_remove (.code mn_AL_remove mb_AL_remove 4 (some (.object "java/lang/Object")) :: jk_WA) (jk_rx 2 0 0 83) [.ref a, jk_V ((i : Int))] M (fun v M' => v = some (.ref x) ∧ jl_AL cO z0 ow M' t a (xs.eraseIdx i) ∧ jl_Fr ow M ow M' t) 0 0 := by
  have hi : i < xs.length := (List.getElem?_eq_some_iff.mp hx).1
  obtain ⟨mc, e, cap, g, h1, h7, h4, h5, h6, h2, h8⟩ := hL.opn hi
  refine jm_body (by decide +kernel) (fun p ev s m args below meth cod w hw hz hin C => ?_) (Nat.le_of_ble_eq_true rfl)
  refine jk_iload_n C rd_AL_remove_0 (k := 1) rfl ?_
  refine jk_aload_n C rd_AL_remove_1 (k := 0) rfl ?_
  refine jm_get C hw in_AL (ci := 14) rfl 2 (Nat.le_of_ble_eq_true rfl) lk_AL_48 h1 rfl rd_AL_remove_2 ?_
  refine jm_callS C hZ.1.1 hz hw (ct_JObj_checkIndex l D cI cR cO cB hZ (M := M) (i := (i : Int)) (n := (xs.length : Int)) (by omega) (by omega) (by omega)) lk_AL_118 xw_JObj_checkIndex iw_JObj cw_JObj_checkIndex na_JObj_checkIndex ⟨Nat.le_of_ble_eq_true rfl, Nat.le_of_ble_eq_true rfl⟩ rfl (st := []) rfl (Nat.le_of_ble_eq_true rfl) rd_AL_remove_5 ⟨Nat.le_of_ble_eq_true rfl, Nat.le_of_ble_eq_true rfl⟩ (fun v w1 hp2 => ?_)
  obtain ⟨rfl, hW1⟩ := hp2
  refine jk_pop C rd_AL_remove_8 rfl ?_
  refine jk_aload_n C rd_AL_remove_9 (k := 0) rfl ?_
  refine jm_get C hW1 in_AL (ci := 14) rfl 1 (Nat.le_of_ble_eq_true rfl) lk_AL_9 h1 rfl rd_AL_remove_10 ?_
  refine jr_astore_n C rd_AL_remove_13 (Nat.le_of_ble_eq_true rfl) rfl ?_
  refine jk_aload_n C rd_AL_remove_14 (k := 0) rfl ?_
  refine jk_iload_n C rd_AL_remove_15 (k := 2) rfl ?_
  refine jm_qald C hW1 (t0 := 2) h7 rfl (by omega) (by omega) (by omega) rd_AL_remove_16 ?_
  rw [Int.toNat_natCast, h6 i (by omega), hx]
  show jk_J _ _ _ _ _ _ _ _ _ _ _ _ _ _ _ _ _ _ _ _ (.ref x :: _)
  refine jr_astore_n C rd_AL_remove_17 (Nat.le_of_ble_eq_true rfl) rfl ?_
  refine jk_aload_n C rd_AL_remove_18 (k := 2) rfl ?_
  refine jk_aload_n C rd_AL_remove_19 (k := 1) rfl ?_
  refine jk_iload_n C rd_AL_remove_20 (k := 3) rfl ?_
  refine jm_callV C hZ.1.1 hz hW1 (ct_AL_fastRemove l D cI cR cO cB hZ h1 h2 h7 h8 h4 h5 h6 hi (fun y hy => hxs y (by obtain ⟨j, hj, hy⟩ := hy; exact List.mem_of_getElem? ((h6 j hj).symm.trans hy)))) lk_AL_144 xw_AL_fastRemove sw_AL_fastRemove iw_AL cw_AL_fastRemove na_AL_fastRemove ⟨Nat.le_of_ble_eq_true rfl, Nat.le_of_ble_eq_true rfl⟩ rfl h1 rfl rfl (st := []) rfl (Nat.le_of_ble_eq_true rfl) rd_AL_remove_21 ⟨Nat.le_of_ble_eq_true rfl, Nat.le_of_ble_eq_true rfl⟩ (fun v w3 hp4 => ?_)
  obtain ⟨rfl, hA, hF⟩ := hp4
  refine jk_aload_n C rd_AL_remove_24 (k := 0) rfl ?_
  exact jm_ret_q C rfl (Or.inl ⟨_, rfl⟩) (Or.inr ⟨_, rfl⟩) (rfl : jm_lk w3 = _) ⟨rfl, hA, hF⟩ (Nat.le_refl _) (Nat.le_refl _) rd_AL_remove_25
end AL5
