/-! lists: growth, one more at the end -/
theorem jl_el.up {iad : Nat → Nat} {M M' : jm_M} {b x : Nat} {e1 e2 : va_E} (h : jl_el iad M x) (hM : M' = jm_up M b e2) (hb : M b = some e1) (hk : Nat.ble 13 (jm_kd e1) = true) : jl_el iad M' x := by
  have hk' := Nat.le_of_ble_eq_true hk
  have ne : ∀ {ci : Nat} {fs : List Value}, M x = some (.inr (ci, fs)) → ci < 13 → x ≠ b := fun {ci fs} hx hc z => by
    subst z
    rw [hx] at hb
    rw [← Option.some.inj hb] at hk'
    have : 13 ≤ ci := hk'
    omega
  rcases h with ⟨fs, h⟩ | ⟨fs, h⟩ | h
  · exact Or.inl ⟨fs, jm_keep hM h (ne h (by omega))⟩
  · exact Or.inr (Or.inl ⟨fs, jm_keep hM h (ne h (by omega))⟩)
  · exact Or.inr (Or.inr h)
theorem jl_upd {cap : Nat} {g : Nat → Option Nat} {xs : List Nat} {x : Nat} (h : ∀ i, i < cap → g i = xs[i]?) : ∀ i, i < cap → va_up g xs.length (some x) i = (xs ++ [x])[i]? := by
  intro i hi
  unfold va_up
  by_cases hq : i = xs.length
  · subst hq
    rw [if_pos rfl]
    simp
  · rw [if_neg hq, h i hi]
    rcases Nat.lt_or_ge i xs.length with hl | hl
    · rw [List.getElem?_append_left hl]
    · rw [List.getElem?_eq_none hl, List.getElem?_eq_none (by rw [List.length_append]; show xs.length + 1 ≤ i; omega)]
theorem jl_cpy {cap k : Nat} {g : Nat → Option Nat} {xs : List Nat} (h : ∀ i, i < cap → g i = xs[i]?) (hl : xs.length = cap) : ∀ i, i < k → va_cpy g (fun _ => none) 0 0 cap i = xs[i]? := by
  intro i _
  unfold va_cpy
  by_cases hi : i < cap
  · rw [if_pos ⟨by omega, by omega⟩, show 0 + (i - 0) = i by omega]
    exact h i hi
  · rw [if_neg (by omega), List.getElem?_eq_none (by omega)]
section AL3
variable (l : Launch) (D : va_G) {Z : (Nat → Prop) → State → Heap → Prop} {sq iad : Nat → Nat} {z0 zi mi : Nat} (cI cR cO cB : ClassId)
set_option maxHeartbeats 1000000 in
theorem ct_AL_grow (hZ : jl_ZK Z sq iad z0 zi mi) {M : jm_M} {a e cap : Nat} {mc : Int} {g : Nat → Option Nat} {xs : List Nat} (h1 : M a = some (.inr (14, [jk_V mc, .ref e, jk_V (xs.length : Int)]))) (h3 : (cap = 0 ∧ e = z0) ∨ (0 < cap ∧ M e = some (jm_Q cO cap g))) (h6 : ∀ i, i < cap → g i = xs[i]?) (hfull : xs.length = cap) (hc40 : cap ≤ 40) (hel : ∀ y, (∃ i, i < cap ∧ g i = some y) → jl_el iad M y) : jm_Met l D jk_cl (jl_ty cI cR cO cB) Z mn_AL_grow (.code mn_AL_grow mb_AL_grow 4 (some (.array (.object "java/lang/Object"))) :: jk_WA) (jk_rx 3 1 60 104) [.ref a, jk_V ((xs.length : Int) + 1)] M (fun v M' => ∃ q cap' g', v = some (.ref q) ∧ M q = none ∧ M' = jm_up (jm_up M q (jm_Q cO cap' g')) a (.inr (14, [jk_V mc, .ref q, jk_V (xs.length : Int)])) ∧ cap < cap' ∧ cap' ≤ 60 ∧ ∀ i, i < cap' → g' i = xs[i]?) 1 60 := by
  rcases h3 with ⟨h3, he⟩ | ⟨h3, h8⟩
  · have he2 := he.symm
    subst he2
    refine jm_body (by decide +kernel) (fun p ev s m args below meth cod w hw hz hin C => ?_) (Nat.le_of_ble_eq_true rfl)
    refine jk_aload_n C rd_AL_grow_0 (k := 0) rfl ?_
    refine jm_get C hw in_AL (ci := 14) rfl 1 (Nat.le_of_ble_eq_true rfl) lk_AL_9 h1 rfl rd_AL_grow_1 ?_
    refine jm_tlen C (hZ.2 _ s s.heap hz).2.2.2.2.2.1 rd_AL_grow_4 ?_
    refine jk_istore_n C rd_AL_grow_5 (Nat.le_of_ble_eq_true rfl) rfl ?_
    refine jk_iload_n C rd_AL_grow_6 (k := 0) rfl ?_
    refine jr_if_gt C rd_AL_grow_7 (tgt := 20) rfl ⟨by omega, by omega⟩ (fun hc => absurd hc (by omega)) (fun _ => ?_)
    refine jk_aload_n C rd_AL_grow_10 (k := 1) rfl ?_
    refine jm_get C hw in_AL (ci := 14) rfl 1 (Nat.le_of_ble_eq_true rfl) lk_AL_9 h1 rfl rd_AL_grow_11 ?_
    refine jm_gets C (hZ.2 _ s s.heap hz).2.2.2.2.1 lk_AL_39 rd_AL_grow_14 ?_
    refine jr_acmp_eq C rd_AL_grow_17 (rx := some z0) (ry := some z0) (tgt := 45) rfl (fun _ => ?_) (fun hc => absurd rfl hc)
    refine jk_aload_n C rd_AL_grow_45 (k := 1) rfl ?_
    refine jk_bipush C rd_AL_grow_46 (by decide +kernel) ?_
    refine jk_iload_n C rd_AL_grow_48 (k := 2) rfl ?_
    refine jm_mmax C ⟨by omega, by omega⟩ ⟨by omega, by omega⟩ lk_AL_79 (Nat.le_of_ble_eq_true rfl) (Nat.le_of_ble_eq_true rfl) ⟨by dsimp only [jk_rx]; omega, by dsimp only [jk_rx]; omega⟩ rd_AL_grow_49 ?_
    rw [if_neg (by omega : ¬ (10 : Int) < (xs.length : Int) + 1)]
    refine jm_newq C hw (hZ.2 _ s s.heap hz).2.2.2.2.2.2.1 (n := 10) rfl (by omega) 2 rfl lk_AL_7 ⟨by dsimp only [jk_rx]; omega, by dsimp only [jk_rx]; omega⟩ rd_AL_grow_52 (fun q w1 hq hw1 => ?_)
    obtain ⟨M1, hM1⟩ : ∃ Mx : jm_M, Mx = jm_up M q (jm_Q cO 10 (fun _ => none)) := ⟨_, rfl⟩
    replace hw1 : jm_lk w1 = M1 := by rw [hM1]; exact hw1
    have hne1_a := jm_nen h1 hq
    have hc1_a := jm_keep hM1 h1 hne1_a
    have hc1_q := jm_this hM1
    refine jr_dup_x1 C rd_AL_grow_55 rfl rfl ?_
    refine jm_put C hw1 in_AL (ty0 := tf_AL) ty_AL nm_AL (ci := 14) rfl 1 (Nat.le_of_ble_eq_true rfl) lk_AL_9 rfl rfl rfl hc1_a (Nat.le_of_ble_eq_true rfl) rd_AL_grow_56 (fun w2 hw2 => ?_)
    obtain ⟨M3, hM3⟩ : ∃ Mx : jm_M, Mx = jm_up M1 a (.inr (14, [jk_V mc, .ref q, jk_V ((xs.length : Int))])) := ⟨_, rfl⟩
    replace hw2 : jm_lk w2 = M3 := by rw [hM3]; exact hw2
    have hc3_q := jm_keep hM3 hc1_q (hne1_a).symm
    have hc3_a := jm_this hM3
    refine jm_ret_q C rfl (Or.inr ⟨_, rfl⟩) (Or.inr ⟨_, rfl⟩) hw2 ⟨q, 10, fun _ => none, rfl, hq, by rw [hM3, hM1], by omega, by omega, fun i _ => ?_⟩ (by omega) (by omega) rd_AL_grow_59
    rw [List.getElem?_eq_none (by omega)]
  · refine jm_body (by decide +kernel) (fun p ev s m args below meth cod w hw hz hin C => ?_) (Nat.le_of_ble_eq_true rfl)
    refine jk_aload_n C rd_AL_grow_0 (k := 0) rfl ?_
    refine jm_get C hw in_AL (ci := 14) rfl 1 (Nat.le_of_ble_eq_true rfl) lk_AL_9 h1 rfl rd_AL_grow_1 ?_
    refine jm_qlen C hw 2 h8 rfl rd_AL_grow_4 ?_
    refine jk_istore_n C rd_AL_grow_5 (Nat.le_of_ble_eq_true rfl) rfl ?_
    refine jk_iload_n C rd_AL_grow_6 (k := 0) rfl ?_
    refine jr_if_gt C rd_AL_grow_7 (tgt := 20) rfl ⟨by omega, by omega⟩ (fun _ => ?_) (fun hc => absurd (by omega) hc)
    refine jk_iload_n C rd_AL_grow_20 (k := 0) rfl ?_
    refine jk_iload_n C rd_AL_grow_21 (k := 2) rfl ?_
    refine jk_iload_n C rd_AL_grow_22 (k := 0) rfl ?_
    refine jk_isub C rd_AL_grow_23 ?_
    refine jk_iload_n C rd_AL_grow_24 (k := 0) rfl ?_
    refine jk_iconst C rd_AL_grow_25 ?_
    refine jk_ishr C rd_AL_grow_26 ?_
    rw [jl_shr1 (by omega), show (xs.length : Int) + 1 - (cap : Int) = ((1 : Nat) : Int) by omega]
    refine jm_callS C hZ.1.1 hz hw (ct_JAS_newLength l D cI cR cO cB hZ (M := M) (n := cap) (g := 1) (k := cap / 2) ⟨by omega, by omega⟩ (by omega) (by omega)) lk_AL_73 xw_JAS_newLength iw_JAS cw_JAS_newLength na_JAS_newLength ⟨Nat.le_of_ble_eq_true rfl, Nat.le_of_ble_eq_true rfl⟩ rfl (st := []) rfl (Nat.le_of_ble_eq_true rfl) rd_AL_grow_27 ⟨by dsimp only [jk_rx]; omega, by dsimp only [jk_rx]; omega⟩ (fun v w1 hp2 => ?_)
    obtain ⟨rfl, hM1⟩ := hp2
    obtain ⟨k, hk, hk2⟩ : ∃ k : Nat, (cap : Int) + (if ((1 : Nat) : Int) < ((cap / 2 : Nat) : Int) then ((cap / 2 : Nat) : Int) else ((1 : Nat) : Int)) = (k : Int) ∧ cap < k ∧ k ≤ 60 := ⟨cap + (if 1 < cap / 2 then cap / 2 else 1), by split <;> split <;> omega, by split <;> omega, by split <;> omega⟩
    rw [hk]
    refine jk_istore_n C rd_AL_grow_30 (Nat.le_of_ble_eq_true rfl) rfl ?_
    refine jk_aload_n C rd_AL_grow_31 (k := 2) rfl ?_
    refine jk_aload_n C rd_AL_grow_32 (k := 2) rfl ?_
    refine jm_get C hM1 in_AL (ci := 14) rfl 1 (Nat.le_of_ble_eq_true rfl) lk_AL_9 h1 rfl rd_AL_grow_33 ?_
    refine jk_iload_n C rd_AL_grow_36 (k := 0) rfl ?_
    refine jm_callS C hZ.1.1 hz hM1 (ct_JArr_copyO l D cI cR cO cB hZ h8 (k := k) (by omega) (by omega) (fun y hy => hel y hy)) lk_AL_66 xw_JArr_copyO iw_JArr cw_JArr_copyO na_JArr_copyO ⟨Nat.le_of_ble_eq_true rfl, Nat.le_of_ble_eq_true rfl⟩ rfl (st := [.ref a]) rfl (Nat.le_of_ble_eq_true rfl) rd_AL_grow_37 ⟨by dsimp only [jk_rx]; omega, by dsimp only [jk_rx]; omega⟩ (fun v w3 hp4 => ?_)
    obtain ⟨q, rfl, hq, hM2⟩ := hp4
    obtain ⟨M9, hM9⟩ : ∃ M9 : jm_M, M9 = jm_up M q (jm_Q cO k (va_cpy g (fun _ => none) 0 0 cap)) := ⟨_, rfl⟩
    rw [← hM9] at hM2
    have h19 := jm_keep hM9 h1 (jm_nen h1 hq)
    refine jr_dup_x1 C rd_AL_grow_40 rfl rfl ?_
    refine jm_put C hM2 in_AL (ty0 := tf_AL) ty_AL nm_AL (ci := 14) rfl 1 (Nat.le_of_ble_eq_true rfl) lk_AL_9 rfl rfl rfl h19 (Nat.le_of_ble_eq_true rfl) rd_AL_grow_41 (fun w5 hw5 => ?_)
    obtain ⟨M6, hM6⟩ : ∃ Mx : jm_M, Mx = jm_up M9 a (.inr (14, [jk_V mc, .ref q, jk_V ((xs.length : Int))])) := ⟨_, rfl⟩
    replace hw5 : jm_lk w5 = M6 := by rw [hM6]; exact hw5
    have hc6_a := jm_this hM6
    exact jm_ret_q C rfl (Or.inr ⟨_, rfl⟩) (Or.inr ⟨_, rfl⟩) hw5 ⟨q, k, _, rfl, hq, by rw [hM6, hM9], hk2.1, hk2.2, jl_cpy h6 hfull⟩ (by omega) (by omega) rd_AL_grow_44
set_option maxHeartbeats 1000000 in
theorem ct_AL_grow0 (hZ : jl_ZK Z sq iad z0 zi mi) {M : jm_M} {a e cap : Nat} {mc : Int} {g : Nat → Option Nat} {xs : List Nat} (h1 : M a = some (.inr (14, [jk_V mc, .ref e, jk_V (xs.length : Int)]))) (h3 : (cap = 0 ∧ e = z0) ∨ (0 < cap ∧ M e = some (jm_Q cO cap g))) (h6 : ∀ i, i < cap → g i = xs[i]?) (hfull : xs.length = cap) (hc40 : cap ≤ 40) (hel : ∀ y, (∃ i, i < cap ∧ g i = some y) → jl_el iad M y) : jm_Met l D jk_cl (jl_ty cI cR cO cB) Z mn_AL_grow0 (.code mn_AL_grow0 mb_AL_grow0 1 (some (.array (.object "java/lang/Object"))) :: jk_WA) (jk_rx 4 1 60 127) [.ref a] M (fun v M' => ∃ q cap' g', v = some (.ref q) ∧ M q = none ∧ M' = jm_up (jm_up M q (jm_Q cO cap' g')) a (.inr (14, [jk_V mc, .ref q, jk_V (xs.length : Int)])) ∧ cap < cap' ∧ cap' ≤ 60 ∧ ∀ i, i < cap' → g' i = xs[i]?) 1 60 := by
  refine jm_body (by decide +kernel) (fun p ev s m args below meth cod w hw hz hin C => ?_) (Nat.le_of_ble_eq_true rfl)
  refine jk_aload_n C rd_AL_grow0_0 (k := 0) rfl ?_
  refine jk_aload_n C rd_AL_grow0_1 (k := 0) rfl ?_
  refine jm_get C hw in_AL (ci := 14) rfl 2 (Nat.le_of_ble_eq_true rfl) lk_AL_48 h1 rfl rd_AL_grow0_2 ?_
  refine jk_iconst C rd_AL_grow0_5 ?_
  refine jk_iadd C rd_AL_grow0_6 ?_
  refine jm_callV C hZ.1.1 hz hw (ct_AL_grow l D cI cR cO cB hZ h1 h3 h6 hfull hc40 hel) lk_AL_69 xw_AL_grow sw_AL_grow iw_AL cw_AL_grow na_AL_grow ⟨Nat.le_of_ble_eq_true rfl, Nat.le_of_ble_eq_true rfl⟩ rfl h1 rfl rfl (st := []) rfl (Nat.le_of_ble_eq_true rfl) rd_AL_grow0_7 ⟨by dsimp only [jk_rx]; omega, by dsimp only [jk_rx]; omega⟩ (fun v w1 hp2 => ?_)
  obtain ⟨q, cap', g', rfl, hq, hM1, k1, k2, k3⟩ := hp2
  exact jm_ret_q C rfl (Or.inr ⟨_, rfl⟩) (Or.inr ⟨_, rfl⟩) hM1 ⟨q, cap', g', rfl, hq, rfl, k1, k2, k3⟩ (by omega) (by omega) rd_AL_grow0_10
set_option maxHeartbeats 1000000 in
theorem ct_AL_addp (hZ : jl_ZK Z sq iad z0 zi mi) {M : jm_M} {ow : Nat → Nat} {t a e cap x : Nat} {mc : Int} {g : Nat → Option Nat} {xs : List Nat} (h1 : M a = some (.inr (14, [jk_V mc, .ref e, jk_V (xs.length : Int)]))) (h2 : ow a = t) (h3 : (cap = 0 ∧ e = z0) ∨ (0 < cap ∧ M e = some (jm_Q cO cap g) ∧ ow e = t)) (h4 : xs.length ≤ cap) (h5 : cap ≤ 60) (h6 : ∀ i, i < cap → g i = xs[i]?) (hx : jl_el iad M x) (hlen : xs.length ≤ 40) (hxs : ∀ y ∈ xs, jl_el iad M y) : jm_Met l D jk_cl (jl_ty cI cR cO cB) Z mn_AL_addp (.code mn_AL_addp mb_AL_addp 4 none :: jk_WA) (jk_rx 5 1 60 147) [.ref a, .ref x, .ref e, jk_V ((xs.length : Int))] M (fun v M' => v = none ∧ ∃ ow', jl_AL cO z0 ow' M' t a (xs ++ [x]) ∧ jl_Fr ow M ow' M' t) 1 60 := by
  by_cases hfull : xs.length = cap
  · have h3' : (cap = 0 ∧ e = z0) ∨ (0 < cap ∧ M e = some (jm_Q cO cap g)) := h3.imp id (fun z => ⟨z.1, z.2.1⟩)
    have hel : ∀ y, (∃ i, i < cap ∧ g i = some y) → jl_el iad M y := fun y ⟨i, hi, hy⟩ => hxs y (List.mem_of_getElem? ((h6 i hi).symm.trans hy))
    refine jm_body (by decide +kernel) (fun p ev s m args below meth cod w hw hz hin C => ?_) (Nat.le_of_ble_eq_true rfl)
    refine jk_iload_n C rd_AL_addp_0 (k := 3) rfl ?_
    refine jk_aload_n C rd_AL_addp_1 (k := 2) rfl ?_
    rcases h3 with ⟨h30, he⟩ | ⟨h30, h8, h9⟩
    · have he2 := he.symm
      subst he2
      refine jm_tlen C (hZ.2 _ s s.heap hz).2.2.2.2.2.1 rd_AL_addp_2 ?_
      refine jr_icmp_ne C rd_AL_addp_3 (tgt := 11) rfl ⟨by omega, by omega⟩ ⟨by omega, by omega⟩ (fun hc => absurd (by omega) hc) (fun _ => ?_)
      refine jk_aload_n C rd_AL_addp_6 (k := 0) rfl ?_
      refine jm_callV C hZ.1.1 hz hw (ct_AL_grow0 l D cI cR cO cB hZ h1 (Or.inl ⟨h30, rfl⟩) h6 hfull (by omega) hel) lk_AL_129 xw_AL_grow0 sw_AL_grow0 iw_AL cw_AL_grow0 na_AL_grow0 ⟨Nat.le_of_ble_eq_true rfl, Nat.le_of_ble_eq_true rfl⟩ rfl h1 rfl rfl (st := []) rfl (Nat.le_of_ble_eq_true rfl) rd_AL_addp_7 ⟨by dsimp only [jk_rx]; omega, by dsimp only [jk_rx]; omega⟩ (fun v w41 hp42 => ?_)
      obtain ⟨q, cap', g', rfl, hq, hM1, k1, k2, k3⟩ := hp42
      obtain ⟨M6, hM6⟩ : ∃ M6 : jm_M, M6 = jm_up M q (jm_Q cO cap' g') := ⟨_, rfl⟩
      obtain ⟨M7, hM7⟩ : ∃ M7 : jm_M, M7 = jm_up M6 a (.inr (14, [jk_V mc, .ref q, jk_V (xs.length : Int)])) := ⟨_, rfl⟩
      rw [← hM6, ← hM7] at hM1
      have haq := jm_nen h1 hq
      have h17 := jm_this hM7
      have h18 := jm_keep hM7 (jm_this hM6) haq.symm
      refine jr_astore_n C rd_AL_addp_10 (Nat.le_of_ble_eq_true rfl) rfl ?_
      refine jk_aload_n C rd_AL_addp_11 (k := 0) rfl ?_
      refine jk_iload_n C rd_AL_addp_12 (k := 3) rfl ?_
      refine jk_aload_n C rd_AL_addp_13 (k := 2) rfl ?_
      have hx9 := ((hx.mono (fun b e hb => by rw [hM6]; exact jm_le.new hq b e hb)).up (e1 := .inr (14, [jk_V mc, .ref z0, jk_V (xs.length : Int)])) hM7 (jm_keep hM6 h1 haq) rfl)
      refine jm_qast C hM1 2 h18 rfl (fun H locs hP hS => jl_any hZ hz C.2.1 hM1 hx9 hP hS) (by omega) (by omega) (by omega) rd_AL_addp_14 (fun w8 hw8 => ?_)
      rw [Int.toNat_natCast] at hw8
      obtain ⟨M43, hM43⟩ : ∃ Mx : jm_M, Mx = jm_up M7 q (jm_Q cO cap' (va_up g' xs.length (some x))) := ⟨_, rfl⟩
      replace hw8 : jm_lk w8 = M43 := by rw [hM43]; exact hw8
      have hc43_a := jm_keep hM43 h17 haq
      have hc43_q := jm_this hM43
      refine jk_aload_n C rd_AL_addp_15 (k := 1) rfl ?_
      refine jk_iload_n C rd_AL_addp_16 (k := 3) rfl ?_
      refine jk_iconst C rd_AL_addp_17 ?_
      refine jk_iadd C rd_AL_addp_18 ?_
      refine jm_put C hw8 in_AL (ty0 := tf_AL) ty_AL nm_AL (ci := 14) rfl 2 (Nat.le_of_ble_eq_true rfl) lk_AL_48 rfl rfl rfl hc43_a (Nat.le_of_ble_eq_true rfl) rd_AL_addp_19 (fun w44 hw44 => ?_)
      obtain ⟨M45, hM45⟩ : ∃ Mx : jm_M, Mx = jm_up M43 a (.inr (14, [jk_V mc, .ref q, jk_V (((xs.length : Int)) + 1)])) := ⟨_, rfl⟩
      replace hw44 : jm_lk w44 = M45 := by rw [hM45]; exact hw44
      have hc45_q := jm_keep hM45 hc43_q haq.symm
      have hc45_a := jm_this hM45
      refine jm_ret_v C hw44 ⟨rfl, (fun b => if b = q then t else ow b), ⟨mc, q, cap', _, (by rw [List.length_append]; exact hc45_a), (if_neg haq).trans h2, Or.inr ⟨by omega, hc45_q, if_pos rfl⟩, by rw [List.length_append]; show xs.length + 1 ≤ cap'; omega, k2, jl_upd k3⟩, ?_⟩ (by omega) (by omega) rd_AL_addp_22
      refine jl_FrP.mk ((((jl_dom.up hM6).trans (jl_dom.up hM7)).trans (jl_dom.up hM43)).trans (jl_dom.up hM45)) (fun b eb hb => ?_)
      have hbq := jm_nen hb hq
      refine ⟨if_neg hbq, fun hne => ?_⟩
      have hba : b ≠ a := fun z => hne (by rw [z]; exact h2)
      exact jm_keep hM45 (jm_keep hM43 (jm_keep hM7 (jm_keep hM6 hb hbq) hba) hbq) hba
    · refine jm_qlen C hw 2 h8 rfl rd_AL_addp_2 ?_
      refine jr_icmp_ne C rd_AL_addp_3 (tgt := 11) rfl ⟨by omega, by omega⟩ ⟨by omega, by omega⟩ (fun hc => absurd (by omega) hc) (fun _ => ?_)
      refine jk_aload_n C rd_AL_addp_6 (k := 0) rfl ?_
      refine jm_callV C hZ.1.1 hz hw (ct_AL_grow0 l D cI cR cO cB hZ h1 h3' h6 hfull (by omega) hel) lk_AL_129 xw_AL_grow0 sw_AL_grow0 iw_AL cw_AL_grow0 na_AL_grow0 ⟨Nat.le_of_ble_eq_true rfl, Nat.le_of_ble_eq_true rfl⟩ rfl h1 rfl rfl (st := []) rfl (Nat.le_of_ble_eq_true rfl) rd_AL_addp_7 ⟨by dsimp only [jk_rx]; omega, by dsimp only [jk_rx]; omega⟩ (fun v w41 hp42 => ?_)
      obtain ⟨q, cap', g', rfl, hq, hM1, k1, k2, k3⟩ := hp42
      obtain ⟨M6, hM6⟩ : ∃ M6 : jm_M, M6 = jm_up M q (jm_Q cO cap' g') := ⟨_, rfl⟩
      obtain ⟨M7, hM7⟩ : ∃ M7 : jm_M, M7 = jm_up M6 a (.inr (14, [jk_V mc, .ref q, jk_V (xs.length : Int)])) := ⟨_, rfl⟩
      rw [← hM6, ← hM7] at hM1
      have haq := jm_nen h1 hq
      have h17 := jm_this hM7
      have h18 := jm_keep hM7 (jm_this hM6) haq.symm
      refine jr_astore_n C rd_AL_addp_10 (Nat.le_of_ble_eq_true rfl) rfl ?_
      refine jk_aload_n C rd_AL_addp_11 (k := 0) rfl ?_
      refine jk_iload_n C rd_AL_addp_12 (k := 3) rfl ?_
      refine jk_aload_n C rd_AL_addp_13 (k := 2) rfl ?_
      have hx9 := ((hx.mono (fun b e hb => by rw [hM6]; exact jm_le.new hq b e hb)).up (e1 := .inr (14, [jk_V mc, .ref e, jk_V (xs.length : Int)])) hM7 (jm_keep hM6 h1 haq) rfl)
      refine jm_qast C hM1 2 h18 rfl (fun H locs hP hS => jl_any hZ hz C.2.1 hM1 hx9 hP hS) (by omega) (by omega) (by omega) rd_AL_addp_14 (fun w8 hw8 => ?_)
      rw [Int.toNat_natCast] at hw8
      obtain ⟨M43, hM43⟩ : ∃ Mx : jm_M, Mx = jm_up M7 q (jm_Q cO cap' (va_up g' xs.length (some x))) := ⟨_, rfl⟩
      replace hw8 : jm_lk w8 = M43 := by rw [hM43]; exact hw8
      have hc43_a := jm_keep hM43 h17 haq
      have hc43_q := jm_this hM43
      refine jk_aload_n C rd_AL_addp_15 (k := 1) rfl ?_
      refine jk_iload_n C rd_AL_addp_16 (k := 3) rfl ?_
      refine jk_iconst C rd_AL_addp_17 ?_
      refine jk_iadd C rd_AL_addp_18 ?_
      refine jm_put C hw8 in_AL (ty0 := tf_AL) ty_AL nm_AL (ci := 14) rfl 2 (Nat.le_of_ble_eq_true rfl) lk_AL_48 rfl rfl rfl hc43_a (Nat.le_of_ble_eq_true rfl) rd_AL_addp_19 (fun w44 hw44 => ?_)
      obtain ⟨M45, hM45⟩ : ∃ Mx : jm_M, Mx = jm_up M43 a (.inr (14, [jk_V mc, .ref q, jk_V (((xs.length : Int)) + 1)])) := ⟨_, rfl⟩
      replace hw44 : jm_lk w44 = M45 := by rw [hM45]; exact hw44
      have hc45_q := jm_keep hM45 hc43_q haq.symm
      have hc45_a := jm_this hM45
      refine jm_ret_v C hw44 ⟨rfl, (fun b => if b = q then t else ow b), ⟨mc, q, cap', _, (by rw [List.length_append]; exact hc45_a), (if_neg haq).trans h2, Or.inr ⟨by omega, hc45_q, if_pos rfl⟩, by rw [List.length_append]; show xs.length + 1 ≤ cap'; omega, k2, jl_upd k3⟩, ?_⟩ (by omega) (by omega) rd_AL_addp_22
      refine jl_FrP.mk ((((jl_dom.up hM6).trans (jl_dom.up hM7)).trans (jl_dom.up hM43)).trans (jl_dom.up hM45)) (fun b eb hb => ?_)
      have hbq := jm_nen hb hq
      refine ⟨if_neg hbq, fun hne => ?_⟩
      have hba : b ≠ a := fun z => hne (by rw [z]; exact h2)
      exact jm_keep hM45 (jm_keep hM43 (jm_keep hM7 (jm_keep hM6 hb hbq) hba) hbq) hba
  · rcases h3 with ⟨h30, -⟩ | ⟨h30, h8, h9⟩
    · omega
    refine jm_body (by decide +kernel) (fun p ev s m args below meth cod w hw hz hin C => ?_) (Nat.le_of_ble_eq_true rfl)
    refine jk_iload_n C rd_AL_addp_0 (k := 3) rfl ?_
    refine jk_aload_n C rd_AL_addp_1 (k := 2) rfl ?_
    refine jm_qlen C hw 2 h8 rfl rd_AL_addp_2 ?_
    refine jr_icmp_ne C rd_AL_addp_3 (tgt := 11) rfl ⟨by omega, by omega⟩ ⟨by omega, by omega⟩ (fun _ => ?_) (fun hc => absurd hc (by omega))
    refine jk_aload_n C rd_AL_addp_11 (k := 2) rfl ?_
    refine jk_iload_n C rd_AL_addp_12 (k := 3) rfl ?_
    refine jk_aload_n C rd_AL_addp_13 (k := 1) rfl ?_
    have hx9 := hx
    refine jm_qast C hw 2 h8 rfl (fun H locs hP hS => jl_any hZ hz C.2.1 hw hx9 hP hS) (by omega) (by omega) (by omega) rd_AL_addp_14 (fun w8 hw8 => ?_)
    rw [Int.toNat_natCast] at hw8
    obtain ⟨M21, hM21⟩ : ∃ Mx : jm_M, Mx = jm_up M e (jm_Q cO cap (va_up g xs.length (some x))) := ⟨_, rfl⟩
    replace hw8 : jm_lk w8 = M21 := by rw [hM21]; exact hw8
    have hc21_a := jm_keep hM21 h1 (jm_nek h1 h8 rfl)
    have hc21_e := jm_this hM21
    refine jk_aload_n C rd_AL_addp_15 (k := 0) rfl ?_
    refine jk_iload_n C rd_AL_addp_16 (k := 3) rfl ?_
    refine jk_iconst C rd_AL_addp_17 ?_
    refine jk_iadd C rd_AL_addp_18 ?_
    refine jm_put C hw8 in_AL (ty0 := tf_AL) ty_AL nm_AL (ci := 14) rfl 2 (Nat.le_of_ble_eq_true rfl) lk_AL_48 rfl rfl rfl hc21_a (Nat.le_of_ble_eq_true rfl) rd_AL_addp_19 (fun w22 hw22 => ?_)
    obtain ⟨M23, hM23⟩ : ∃ Mx : jm_M, Mx = jm_up M21 a (.inr (14, [jk_V mc, .ref e, jk_V (((xs.length : Int)) + 1)])) := ⟨_, rfl⟩
    replace hw22 : jm_lk w22 = M23 := by rw [hM23]; exact hw22
    have hc23_e := jm_keep hM23 hc21_e (jm_nek h8 h1 rfl)
    have hc23_a := jm_this hM23
    refine jm_ret_v C hw22 ⟨rfl, ow, ⟨mc, e, cap, _, (by rw [List.length_append]; exact hc23_a), h2, Or.inr ⟨by omega, hc23_e, h9⟩, by rw [List.length_append]; show xs.length + 1 ≤ cap; omega, h5, jl_upd h6⟩, ?_⟩ (by omega) (by omega) rd_AL_addp_22
    refine jl_FrP.mk ((jl_dom.up hM21).trans (jl_dom.up hM23)) (fun b eb hb => ?_)
    refine ⟨rfl, fun hne => ?_⟩
    exact jm_keep hM23 (jm_keep hM21 hb (fun z => hne (by rw [z]; exact h9))) (fun z => hne (by rw [z]; exact h2))
set_option maxHeartbeats 1000000 in
theorem ct_AL_add (hZ : jl_ZK Z sq iad z0 zi mi) {M : jm_M} {ow : Nat → Nat} {t a x : Nat} {xs : List Nat} (hL : jl_AL cO z0 ow M t a xs) (hx : jl_el iad M x) (hlen : xs.length ≤ 40) (hxs : ∀ y ∈ xs, jl_el iad M y) : jm_Met l D jk_cl (jl_ty cI cR cO cB) Z mn_AL_add (.code mn_AL_add mb_AL_add 2 (some .boolean) :: jk_WA) (jk_rx 6 1 60 170) [.ref a, .ref x] M (fun v M' => v = some (jk_V 1) ∧ ∃ ow', jl_AL cO z0 ow' M' t a (xs ++ [x]) ∧ jl_Fr ow M ow' M' t) 1 60 := by
  obtain ⟨mc, e, cap, g, h1, h2, h3, h4, h5, h6⟩ := hL
  refine jm_body (by decide +kernel) (fun p ev s m args below meth cod w hw hz hin C => ?_) (Nat.le_of_ble_eq_true rfl)
  refine jk_aload_n C rd_AL_add_0 (k := 0) rfl ?_
  refine jk_dup C rd_AL_add_1 rfl ?_
  refine jm_getS C hw in_AL (ci := 14) rfl 0 (Nat.le_of_ble_eq_true rfl) lk_AL_63 (fun x hx => u_same (C.1.2.2.2.2 _ sf_modCount) x hx) h1 rfl rd_AL_add_2 ?_
  refine jk_iconst C rd_AL_add_5 ?_
  refine jk_iadd C rd_AL_add_6 ?_
  refine jm_putS C hw in_AL (ty0 := tf_AL) ty_AL nm_AL (ci := 14) rfl 0 (Nat.le_of_ble_eq_true rfl) lk_AL_63 (fun x hx => u_same (C.1.2.2.2.2 _ sf_modCount) x hx) rfl rfl rfl h1 (Nat.le_of_ble_eq_true rfl) rd_AL_add_7 (fun w1 hw1 => ?_)
  obtain ⟨M2, hM2⟩ : ∃ Mx : jm_M, Mx = jm_up M a (.inr (14, [jk_V (mc + 1), .ref e, jk_V ((xs.length : Int))])) := ⟨_, rfl⟩
  replace hw1 : jm_lk w1 = M2 := by rw [hM2]; exact hw1
  have hc2_a := jm_this hM2
  refine jk_aload_n C rd_AL_add_10 (k := 0) rfl ?_
  refine jk_aload_n C rd_AL_add_11 (k := 1) rfl ?_
  refine jk_aload_n C rd_AL_add_12 (k := 0) rfl ?_
  refine jm_get C hw1 in_AL (ci := 14) rfl 1 (Nat.le_of_ble_eq_true rfl) lk_AL_9 hc2_a rfl rd_AL_add_13 ?_
  refine jk_aload_n C rd_AL_add_16 (k := 0) rfl ?_
  refine jm_get C hw1 in_AL (ci := 14) rfl 2 (Nat.le_of_ble_eq_true rfl) lk_AL_48 hc2_a rfl rd_AL_add_17 ?_
  have hF0 := jl_Fr.put (t := t) hM2 h2
  have k3 : (cap = 0 ∧ e = z0) ∨ (0 < cap ∧ M2 e = some (jm_Q cO cap g) ∧ ow e = t) := h3.imp id (fun z => ⟨z.1, jm_keep hM2 z.2.1 (jm_nek z.2.1 h1 rfl), z.2.2⟩)
  refine jm_callV C hZ.1.1 hz hw1 (ct_AL_addp l D cI cR cO cB hZ hc2_a h2 k3 h4 h5 h6 (hx.up hM2 h1 rfl) hlen (fun y hy => (hxs y hy).up hM2 h1 rfl)) lk_AL_131 xw_AL_addp sw_AL_addp iw_AL cw_AL_addp na_AL_addp ⟨Nat.le_of_ble_eq_true rfl, Nat.le_of_ble_eq_true rfl⟩ rfl hc2_a rfl rfl (st := []) rfl (Nat.le_of_ble_eq_true rfl) rd_AL_add_20 ⟨by dsimp only [jk_rx]; omega, by dsimp only [jk_rx]; omega⟩ (fun v w3 hp4 => ?_)
  obtain ⟨rfl, ow', hA, hF⟩ := hp4
  refine jk_iconst C rd_AL_add_23 ?_
  exact jm_ret_z C (Or.inr rfl) (rfl : jm_lk w3 = _) ⟨rfl, ow', hA, hF0.trans hF⟩ (by omega) (by omega) rd_AL_add_24
end AL3
