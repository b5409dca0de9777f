/-! cords -/
/-- the cords' data by their addresses: the knots' row, the list below, the knots, the topic, the nibbled places, the cords below -/
abbrev jl_S : Type := (Nat → Nat) × (Nat → Nat) × (Nat → Int → Int) × (Nat → Int) × (Nat → Int) × (Nat → List Nat)
def jS_kn (S : jl_S) : Nat → Nat := S.1
def jS_bl (S : jl_S) : Nat → Nat := S.2.1
def jS_dg (S : jl_S) : Nat → Int → Int := S.2.2.1
def jS_tp (S : jl_S) : Nat → Int := S.2.2.2.1
def jS_nb (S : jl_S) : Nat → Int := S.2.2.2.2.1
def jS_ch (S : jl_S) : Nat → List Nat := S.2.2.2.2.2
def jl_Cd (cI cO : ClassId) (z0 : Nat) (ow : Nat → Nat) (M : jm_M) (S : jl_S) (a : Nat) : Prop :=
  M a = some (.inr (11, [.ref (jS_kn S a), jk_V (jS_tp S a), jk_V (jS_nb S a), .ref (jS_bl S a)])) ∧ ow a = 8 * a ∧ M (jS_kn S a) = some (jk_W cI 4 (jS_dg S a)) ∧ ow (jS_kn S a) = 8 * a + 1 ∧ jl_AL cO z0 ow M (8 * a + 2) (jS_bl S a) (jS_ch S a)
theorem jl_Cd.mono {cI cO : ClassId} {z0 : Nat} {ow : Nat → Nat} {M M' : jm_M} {S : jl_S} {a : Nat} (h : jl_Cd cI cO z0 ow M S a) (hl : jm_le M M') : jl_Cd cI cO z0 ow M' S a :=
  ⟨hl _ _ h.1, h.2.1, hl _ _ h.2.2.1, h.2.2.2.1, h.2.2.2.2.mono hl⟩
def jl_kv (f : Int → Int) : Nat → Int → Int
  | 0, s => s
  | k + 1, s => jl_kv f k (10 * s + f k)
/-- the known value -/
def jS_kv (S : jl_S) (a : Nat) : Int := jl_kv (fun i => if i < jS_nb S a then 0 else jS_dg S a i) 4 0
/-- the digits of a value, at the places 0 to 3 -/
def jl_dgs (f : Int → Int) (v : Int) : Int → Int := jk_up (jk_up (jk_up (jk_up f 0 (v % 10)) 1 (v / 10 % 10)) 2 (v / 10 / 10 % 10)) 3 (v / 10 / 10 / 10 % 10)
section CD1
variable (l : Launch) (D : va_G) {Z : (Nat → Prop) → State → Heap → Prop} {sq iad : Nat → Nat} {z0 zi mi : Nat} (cI cR cO cB : ClassId)
set_option maxHeartbeats 1000000 in
theorem ct_Cd_sets (hZ : jl_ZK Z sq iad z0 zi mi) {M : jm_M} {a k bl : Nat} {tp nb v : Int} {f : Int → Int} (h1 : M a = some (.inr (11, [.ref k, jk_V tp, jk_V nb, .ref bl]))) (h2 : M k = some (jk_W cI 4 f)) (hv : 0 ≤ v ∧ v < 100000) : jm_Met l D jk_cl (jl_ty cI cR cO cB) Z mn_Cd_sets (.code mn_Cd_sets mb_Cd_sets 4 none :: jk_WA) (jk_rx 0 0 0 0) [.ref a, jk_V v] M (fun v9 M' => v9 = none ∧ M' = jm_up M k (jk_W cI 4 (jl_dgs f v))) 0 0 := by
  refine jm_body (by decide +kernel) (fun p ev s m args below meth cod w hw hz hin C => ?_) (Nat.le_of_ble_eq_true rfl)
  refine jk_iload_n C rd_Cd_sets_0 (k := 1) rfl ?_
  refine jk_istore_n C rd_Cd_sets_1 (Nat.le_of_ble_eq_true rfl) rfl ?_
  refine jk_iconst C rd_Cd_sets_2 ?_
  refine jk_istore_n C rd_Cd_sets_3 (Nat.le_of_ble_eq_true rfl) rfl ?_
  refine jk_iload_n C rd_Cd_sets_4 (k := 0) rfl ?_
  refine jk_iconst C rd_Cd_sets_5 ?_
  refine jr_icmp_ge C rd_Cd_sets_6 (tgt := 30) rfl ⟨by omega, by omega⟩ ⟨by omega, by omega⟩ (fun hc => absurd hc (by omega)) (fun _ => ?_)
  refine jk_aload_n C rd_Cd_sets_9 (k := 2) rfl ?_
  refine jm_get C hw in_Cd (ci := 11) rfl 0 (Nat.le_of_ble_eq_true rfl) lk_Cd_7 h1 rfl rd_Cd_sets_10 ?_
  refine jk_iload_n C rd_Cd_sets_13 (k := 0) rfl ?_
  refine jk_iload_n C rd_Cd_sets_14 (k := 1) rfl ?_
  refine jk_bipush C rd_Cd_sets_15 (by decide +kernel) ?_
  refine jr_irem C ⟨by omega, by omega⟩ ⟨by omega, by omega⟩ rd_Cd_sets_17 ?_
  refine jm_iast C hw 0 h2 rfl (by omega) (by omega) (by omega) rd_Cd_sets_18 (fun w70 hw70 => ?_)
  obtain ⟨M1, hM1⟩ : ∃ Mx : jm_M, Mx = jm_up M k (jk_W cI 4 (jk_up f 0 (v % 10))) := ⟨_, rfl⟩
  replace hw70 : jm_lk w70 = M1 := by rw [hM1]; exact hw70
  have hc1_a := jm_keep hM1 h1 (jm_nek h1 h2 rfl)
  have hc1_k := jm_this hM1
  refine jk_iload_n C rd_Cd_sets_19 (k := 1) rfl ?_
  refine jk_bipush C rd_Cd_sets_20 (by decide +kernel) ?_
  refine jr_idiv C ⟨by omega, by omega⟩ ⟨by omega, by omega⟩ rd_Cd_sets_22 ?_
  refine jk_istore_n C rd_Cd_sets_23 (Nat.le_of_ble_eq_true rfl) rfl ?_
  refine jk_iinc C rd_Cd_sets_24 (k := 1) rfl (Nat.le_of_ble_eq_true rfl) rfl ?_
  refine jk_goto C rd_Cd_sets_27 (tgt := 4) rfl ?_
  refine jk_iload_n C rd_Cd_sets_4 (k := 0) rfl ?_
  refine jk_iconst C rd_Cd_sets_5 ?_
  refine jr_icmp_ge C rd_Cd_sets_6 (tgt := 30) rfl ⟨by omega, by omega⟩ ⟨by omega, by omega⟩ (fun hc => absurd hc (by omega)) (fun _ => ?_)
  rw [show (0 : Int) + 1 = 1 from rfl]
  refine jk_aload_n C rd_Cd_sets_9 (k := 2) rfl ?_
  refine jm_get C hw70 in_Cd (ci := 11) rfl 0 (Nat.le_of_ble_eq_true rfl) lk_Cd_7 hc1_a rfl rd_Cd_sets_10 ?_
  refine jk_iload_n C rd_Cd_sets_13 (k := 0) rfl ?_
  refine jk_iload_n C rd_Cd_sets_14 (k := 1) rfl ?_
  refine jk_bipush C rd_Cd_sets_15 (by decide +kernel) ?_
  refine jr_irem C ⟨by omega, by omega⟩ ⟨by omega, by omega⟩ rd_Cd_sets_17 ?_
  refine jm_iast C hw70 0 hc1_k rfl (by omega) (by omega) (by omega) rd_Cd_sets_18 (fun w71 hw71 => ?_)
  obtain ⟨M2, hM2⟩ : ∃ Mx : jm_M, Mx = jm_up M1 k (jk_W cI 4 (jk_up (jk_up f 0 (v % 10)) 1 (v / 10 % 10))) := ⟨_, rfl⟩
  replace hw71 : jm_lk w71 = M2 := by rw [hM2]; exact hw71
  have hc2_a := jm_keep hM2 hc1_a (jm_nek h1 h2 rfl)
  have hc2_k := jm_this hM2
  refine jk_iload_n C rd_Cd_sets_19 (k := 1) rfl ?_
  refine jk_bipush C rd_Cd_sets_20 (by decide +kernel) ?_
  refine jr_idiv C ⟨by omega, by omega⟩ ⟨by omega, by omega⟩ rd_Cd_sets_22 ?_
  refine jk_istore_n C rd_Cd_sets_23 (Nat.le_of_ble_eq_true rfl) rfl ?_
  refine jk_iinc C rd_Cd_sets_24 (k := 1) rfl (Nat.le_of_ble_eq_true rfl) rfl ?_
  refine jk_goto C rd_Cd_sets_27 (tgt := 4) rfl ?_
  refine jk_iload_n C rd_Cd_sets_4 (k := 0) rfl ?_
  refine jk_iconst C rd_Cd_sets_5 ?_
  refine jr_icmp_ge C rd_Cd_sets_6 (tgt := 30) rfl ⟨by omega, by omega⟩ ⟨by omega, by omega⟩ (fun hc => absurd hc (by omega)) (fun _ => ?_)
  rw [show (1 : Int) + 1 = 2 from rfl]
  refine jk_aload_n C rd_Cd_sets_9 (k := 2) rfl ?_
  refine jm_get C hw71 in_Cd (ci := 11) rfl 0 (Nat.le_of_ble_eq_true rfl) lk_Cd_7 hc2_a rfl rd_Cd_sets_10 ?_
  refine jk_iload_n C rd_Cd_sets_13 (k := 0) rfl ?_
  refine jk_iload_n C rd_Cd_sets_14 (k := 1) rfl ?_
  refine jk_bipush C rd_Cd_sets_15 (by decide +kernel) ?_
  refine jr_irem C ⟨by omega, by omega⟩ ⟨by omega, by omega⟩ rd_Cd_sets_17 ?_
  refine jm_iast C hw71 0 hc2_k rfl (by omega) (by omega) (by omega) rd_Cd_sets_18 (fun w72 hw72 => ?_)
  obtain ⟨M3, hM3⟩ : ∃ Mx : jm_M, Mx = jm_up M2 k (jk_W cI 4 (jk_up (jk_up (jk_up f 0 (v % 10)) 1 (v / 10 % 10)) 2 (v / 10 / 10 % 10))) := ⟨_, rfl⟩
  replace hw72 : jm_lk w72 = M3 := by rw [hM3]; exact hw72
  have hc3_a := jm_keep hM3 hc2_a (jm_nek h1 h2 rfl)
  have hc3_k := jm_this hM3
  refine jk_iload_n C rd_Cd_sets_19 (k := 1) rfl ?_
  refine jk_bipush C rd_Cd_sets_20 (by decide +kernel) ?_
  refine jr_idiv C ⟨by omega, by omega⟩ ⟨by omega, by omega⟩ rd_Cd_sets_22 ?_
  refine jk_istore_n C rd_Cd_sets_23 (Nat.le_of_ble_eq_true rfl) rfl ?_
  refine jk_iinc C rd_Cd_sets_24 (k := 1) rfl (Nat.le_of_ble_eq_true rfl) rfl ?_
  refine jk_goto C rd_Cd_sets_27 (tgt := 4) rfl ?_
  refine jk_iload_n C rd_Cd_sets_4 (k := 0) rfl ?_
  refine jk_iconst C rd_Cd_sets_5 ?_
  refine jr_icmp_ge C rd_Cd_sets_6 (tgt := 30) rfl ⟨by omega, by omega⟩ ⟨by omega, by omega⟩ (fun hc => absurd hc (by omega)) (fun _ => ?_)
  rw [show (2 : Int) + 1 = 3 from rfl]
  refine jk_aload_n C rd_Cd_sets_9 (k := 2) rfl ?_
  refine jm_get C hw72 in_Cd (ci := 11) rfl 0 (Nat.le_of_ble_eq_true rfl) lk_Cd_7 hc3_a rfl rd_Cd_sets_10 ?_
  refine jk_iload_n C rd_Cd_sets_13 (k := 0) rfl ?_
  refine jk_iload_n C rd_Cd_sets_14 (k := 1) rfl ?_
  refine jk_bipush C rd_Cd_sets_15 (by decide +kernel) ?_
  refine jr_irem C ⟨by omega, by omega⟩ ⟨by omega, by omega⟩ rd_Cd_sets_17 ?_
  refine jm_iast C hw72 0 hc3_k rfl (by omega) (by omega) (by omega) rd_Cd_sets_18 (fun w73 hw73 => ?_)
  obtain ⟨M4, hM4⟩ : ∃ Mx : jm_M, Mx = jm_up M3 k (jk_W cI 4 (jk_up (jk_up (jk_up (jk_up f 0 (v % 10)) 1 (v / 10 % 10)) 2 (v / 10 / 10 % 10)) 3 (v / 10 / 10 / 10 % 10))) := ⟨_, rfl⟩
  replace hw73 : jm_lk w73 = M4 := by rw [hM4]; exact hw73
  have hc4_a := jm_keep hM4 hc3_a (jm_nek h1 h2 rfl)
  have hc4_k := jm_this hM4
  refine jk_iload_n C rd_Cd_sets_19 (k := 1) rfl ?_
  refine jk_bipush C rd_Cd_sets_20 (by decide +kernel) ?_
  refine jr_idiv C ⟨by omega, by omega⟩ ⟨by omega, by omega⟩ rd_Cd_sets_22 ?_
  refine jk_istore_n C rd_Cd_sets_23 (Nat.le_of_ble_eq_true rfl) rfl ?_
  refine jk_iinc C rd_Cd_sets_24 (k := 1) rfl (Nat.le_of_ble_eq_true rfl) rfl ?_
  refine jk_goto C rd_Cd_sets_27 (tgt := 4) rfl ?_
  refine jk_iload_n C rd_Cd_sets_4 (k := 0) rfl ?_
  refine jk_iconst C rd_Cd_sets_5 ?_
  refine jr_icmp_ge C rd_Cd_sets_6 (tgt := 30) rfl ⟨by omega, by omega⟩ ⟨by omega, by omega⟩ (fun _ => ?_) (fun hc => absurd hc (by omega))
  exact jm_ret_v C hw73 ⟨rfl, by rw [hM4, hM3, hM2, hM1, jm_up_up, jm_up_up, jm_up_up]; rfl⟩ (Nat.le_refl _) (Nat.le_refl _) rd_Cd_sets_30
set_option maxHeartbeats 1000000 in
theorem ct_Cd_known (hZ : jl_ZK Z sq iad z0 zi mi) {M : jm_M} {a k bl : Nat} {tp nb : Int} {f : Int → Int} (h1 : M a = some (.inr (11, [.ref k, jk_V tp, jk_V nb, .ref bl]))) (h2 : M k = some (jk_W cI 4 f)) (hnb : 0 ≤ nb ∧ nb ≤ 4) : jm_Met l D jk_cl (jl_ty cI cR cO cB) Z mn_Cd_known (.code mn_Cd_known mb_Cd_known 3 (some .int) :: jk_WA) (jk_rx 0 0 0 0) [.ref a] M (fun v M' => v = some (jk_V (jl_kv (fun i => if i < nb then 0 else f i) 4 0)) ∧ M' = M) 0 0 := by
  refine jm_body (by decide +kernel) (fun p ev s m args below meth cod w hw hz hin C => ?_) (Nat.le_of_ble_eq_true rfl)
  refine jk_iconst C rd_Cd_known_0 ?_
  refine jk_istore_n C rd_Cd_known_1 (Nat.le_of_ble_eq_true rfl) rfl ?_
  refine jk_iconst C rd_Cd_known_2 ?_
  refine jk_istore_n C rd_Cd_known_3 (Nat.le_of_ble_eq_true rfl) rfl ?_
  have key : ∀ (Q0 : State → Prop) (r : Int) (k : Nat) (s0 : Int) (ws : va_W), jm_lk ws = M → k ≤ 4 → jk_J p l ev (jk_rx 0 0 0 0) s m args below meth cod 0 0 Q0 D jk_cl (va_A w s.heap.size) 3 ws [(2, jk_V (-1)), (1, jk_V (jl_kv (fun i => if i < nb then 0 else f i) k s0)), (0, .ref a)] 38 [] → jk_J p l ev (jk_rx 0 0 0 0) s m args below meth cod 0 0 Q0 D jk_cl (va_A w s.heap.size) 3 ws [(2, jk_V ((k : Int) - 1)), (1, jk_V s0), (0, .ref a)] 4 [] := by
    intro Q0 r k
    induction k with
    | zero =>
      intro s0 ws hws hk hex
      refine jk_iload_n C rd_Cd_known_4 (k := 0) rfl ?_
      refine jr_if_lt C rd_Cd_known_5 (tgt := 38) rfl ⟨by omega, by omega⟩ (fun _ => ?_) (fun hc => absurd (by omega) hc)
      exact hex
    | succ k ih =>
      intro s0 ws hws hk hex
      refine jk_iload_n C rd_Cd_known_4 (k := 0) rfl ?_
      refine jr_if_lt C rd_Cd_known_5 (tgt := 38) rfl ⟨by omega, by omega⟩ (fun hc => absurd hc (by omega)) (fun _ => ?_)
      rw [show ((k + 1 : Nat) : Int) - 1 = (k : Int) by omega]
      refine jk_bipush C rd_Cd_known_8 (by decide +kernel) ?_
      refine jk_iload_n C rd_Cd_known_10 (k := 1) rfl ?_
      refine jk_imul C rd_Cd_known_11 ?_
      refine jk_iload_n C rd_Cd_known_12 (k := 0) rfl ?_
      refine jk_aload_n C rd_Cd_known_13 (k := 2) rfl ?_
      refine jm_get C hws in_Cd (ci := 11) rfl 2 (Nat.le_of_ble_eq_true rfl) lk_Cd_28 h1 rfl rd_Cd_known_14 ?_
      refine jr_icmp_ge C rd_Cd_known_17 (tgt := 24) rfl ⟨by omega, by omega⟩ ⟨by omega, by omega⟩ (fun hc => ?_) (fun hc => ?_)
      · refine jk_aload_n C rd_Cd_known_24 (k := 2) rfl ?_
        refine jm_get C hws in_Cd (ci := 11) rfl 0 (Nat.le_of_ble_eq_true rfl) lk_Cd_7 h1 rfl rd_Cd_known_25 ?_
        refine jk_iload_n C rd_Cd_known_28 (k := 0) rfl ?_
        refine jm_iald C hws 0 h2 rfl (by omega) (by omega) (by omega) rd_Cd_known_29 ?_
        refine jk_iadd C rd_Cd_known_30 ?_
        refine jk_istore_n C rd_Cd_known_31 (Nat.le_of_ble_eq_true rfl) rfl ?_
        refine jk_iinc C rd_Cd_known_32 (k := 1) rfl (Nat.le_of_ble_eq_true rfl) rfl ?_
        refine jk_goto C rd_Cd_known_35 (tgt := 4) rfl ?_
        refine jk_lv [0, 1, 2] rfl ?_
        rw [show (k : Int) + -1 = (k : Int) - 1 by omega]
        rw [show (10 * s0 + f (k : Int)) = 10 * s0 + (if (k : Int) < nb then 0 else f k) by rw [if_neg hc]]
        exact ih _ ws hws (by omega) hex
      · refine jk_iconst C rd_Cd_known_20 ?_
        refine jk_goto C rd_Cd_known_21 (tgt := 30) rfl ?_
        refine jk_iadd C rd_Cd_known_30 ?_
        refine jk_istore_n C rd_Cd_known_31 (Nat.le_of_ble_eq_true rfl) rfl ?_
        refine jk_iinc C rd_Cd_known_32 (k := 1) rfl (Nat.le_of_ble_eq_true rfl) rfl ?_
        refine jk_goto C rd_Cd_known_35 (tgt := 4) rfl ?_
        refine jk_lv [0, 1, 2] rfl ?_
        rw [show (k : Int) + -1 = (k : Int) - 1 by omega]
        rw [show (10 * s0 + 0) = 10 * s0 + (if (k : Int) < nb then 0 else f k) by rw [if_pos hc]]
        exact ih _ ws hws (by omega) hex
  refine key _ 0 4 0 w hw (by omega) ?_
  refine jk_iload_n C rd_Cd_known_38 (k := 1) rfl ?_
  exact jm_ret_i C hw ⟨rfl, rfl⟩ (Nat.le_refl _) (Nat.le_refl _) rd_Cd_known_39
set_option maxHeartbeats 1000000 in
theorem ct_Cd_init (hZ : jl_ZK Z sq iad z0 zi mi) {M : jm_M} {a : Nat} {tp v : Int} (h1 : M a = some (.inr (11, [.null, jk_V 0, jk_V 0, .null]))) (hv : 0 ≤ v ∧ v < 100000) : jm_Met l D jk_cl (jl_ty cI cR cO cB) Z mn_Cd_init (.code mn_Cd_init mb_Cd_init 3 none :: jk_WA) (jk_rx 4 2 7 73) [.ref a, jk_V tp, jk_V v] M (fun v9 M' => v9 = none ∧ ∃ k b, M k = none ∧ M b = none ∧ b ≠ k ∧ M' a = some (.inr (11, [.ref k, jk_V tp, jk_V 0, .ref b])) ∧ M' k = some (jk_W cI 4 (jl_dgs (fun _ => 0) v)) ∧ M' b = some (.inr (14, [jk_V 0, .ref z0, jk_V 0])) ∧ ∀ x e, M x = some e → x ≠ a → M' x = some e) 2 7 := by
  refine jm_body (by decide +kernel) (fun p ev s m args below meth cod w hw hz hin C => ?_) (Nat.le_of_ble_eq_true rfl)
  refine jk_aload_n C rd_Cd_init_0 (k := 0) rfl ?_
  refine jk_objInit C lk_Cd_1 xw_obj cw_obj rd_Cd_init_1 (Nat.le_of_ble_eq_true rfl) (Nat.le_of_ble_eq_true rfl) ?_
  refine jk_aload_n C rd_Cd_init_4 (k := 0) rfl ?_
  refine jk_iconst C rd_Cd_init_5 ?_
  refine jm_newa C hw (n := 4) rfl (by omega) 0 rfl aw_int ⟨Nat.le_of_ble_eq_true rfl, Nat.le_of_ble_eq_true rfl⟩ rd_Cd_init_6 (fun k w1 hk hw1 => ?_)
  obtain ⟨M1, hM1⟩ : ∃ Mx : jm_M, Mx = jm_up M k (jk_W cI 4 (fun _ => 0)) := ⟨_, rfl⟩
  replace hw1 : jm_lk w1 = M1 := by rw [hM1]; exact hw1
  have hne1_a := jm_nen h1 hk
  have hc1_a := jm_keep hM1 h1 hne1_a
  have hc1_k := jm_this hM1
  refine jm_putF C hw1 in_Cd (ty0 := tf_Cd) ty_Cd nm_Cd (ci := 11) rfl 0 (Nat.le_of_ble_eq_true rfl) lk_Cd_7 rfl (hin rfl) rfl rfl rfl hc1_a (Nat.le_of_ble_eq_true rfl) rd_Cd_init_8 (fun w2 hw2 => ?_)
  obtain ⟨M3, hM3⟩ : ∃ Mx : jm_M, Mx = jm_up M1 a (.inr (11, [.ref k, jk_V 0, jk_V 0, .null])) := ⟨_, rfl⟩
  replace hw2 : jm_lk w2 = M3 := by rw [hM3]; exact hw2
  have hc3_k := jm_keep hM3 hc1_k hne1_a.symm
  have hc3_a := jm_this hM3
  refine jk_aload_n C rd_Cd_init_11 (k := 0) rfl ?_
  refine jm_new C hw2 in_AL (ty0 := tf_AL) ty_AL lk_Cd_13 nw_AL iw_AL (ci := 14) rfl (fs := [jk_V 0, .null, jk_V 0]) (by intro j hj; rcases j with _ | _ | _ | j <;> first | rfl | omega) ⟨Nat.le_of_ble_eq_true rfl, Nat.le_of_ble_eq_true rfl⟩ rd_Cd_init_12 (fun b w12 hb hw12 => ?_)
  obtain ⟨M4, hM4⟩ : ∃ Mx : jm_M, Mx = jm_up M3 b (.inr (14, [jk_V 0, .null, jk_V 0])) := ⟨_, rfl⟩
  replace hw12 : jm_lk w12 = M4 := by rw [hM4]; exact hw12
  have hne4_k := jm_nen hc3_k hb
  have hc4_k := jm_keep hM4 hc3_k hne4_k
  have hne4_a := jm_nen hc3_a hb
  have hc4_a := jm_keep hM4 hc3_a hne4_a
  have hc4_b := jm_this hM4
  refine jk_dup C rd_Cd_init_15 rfl ?_
  refine jm_callI C hZ.1.1 hz hw12 (ct_AL_init l D cI cR cO cB hZ hc4_b) lk_Cd_15 xw_AL_init iw_AL cw_AL_init rfl na_AL_init ⟨Nat.le_of_ble_eq_true rfl, Nat.le_of_ble_eq_true rfl⟩ rfl (st := [.ref b, .ref a]) rfl (Nat.le_of_ble_eq_true rfl) rd_Cd_init_16 ⟨Nat.le_of_ble_eq_true rfl, Nat.le_of_ble_eq_true rfl⟩ (fun v w5 hp6 => ?_)
  obtain ⟨rfl, hW⟩ := hp6
  obtain ⟨M20, hM20⟩ : ∃ M20 : jm_M, M20 = jm_up M4 b (.inr (14, [jk_V 0, .ref z0, jk_V 0])) := ⟨_, rfl⟩
  rw [← hM20] at hW
  have ha20 := jm_keep hM20 hc4_a hne4_a
  have hk20 := jm_keep hM20 hc4_k hne4_k
  have hb20 := jm_this hM20
  refine jm_putF C hW in_Cd (ty0 := tf_Cd) ty_Cd nm_Cd (ci := 11) rfl 3 (Nat.le_of_ble_eq_true rfl) lk_Cd_16 rfl (hin rfl) rfl rfl rfl ha20 (Nat.le_of_ble_eq_true rfl) rd_Cd_init_19 (fun w7 hw7 => ?_)
  obtain ⟨M8, hM8⟩ : ∃ Mx : jm_M, Mx = jm_up M20 a (.inr (11, [.ref k, jk_V 0, jk_V 0, .ref b])) := ⟨_, rfl⟩
  replace hw7 : jm_lk w7 = M8 := by rw [hM8]; exact hw7
  have hc8_k := jm_keep hM8 hk20 hne1_a.symm
  have hc8_b := jm_keep hM8 hb20 hne4_a.symm
  have hc8_a := jm_this hM8
  refine jk_aload_n C rd_Cd_init_22 (k := 0) rfl ?_
  refine jk_iload_n C rd_Cd_init_23 (k := 1) rfl ?_
  refine jm_put C hw7 in_Cd (ty0 := tf_Cd) ty_Cd nm_Cd (ci := 11) rfl 1 (Nat.le_of_ble_eq_true rfl) lk_Cd_20 rfl rfl rfl hc8_a (Nat.le_of_ble_eq_true rfl) rd_Cd_init_24 (fun w9 hw9 => ?_)
  obtain ⟨M10, hM10⟩ : ∃ Mx : jm_M, Mx = jm_up M8 a (.inr (11, [.ref k, jk_V tp, jk_V 0, .ref b])) := ⟨_, rfl⟩
  replace hw9 : jm_lk w9 = M10 := by rw [hM10]; exact hw9
  have hc10_k := jm_keep hM10 hc8_k hne1_a.symm
  have hc10_b := jm_keep hM10 hc8_b hne4_a.symm
  have hc10_a := jm_this hM10
  refine jk_aload_n C rd_Cd_init_27 (k := 0) rfl ?_
  refine jk_iload_n C rd_Cd_init_28 (k := 2) rfl ?_
  refine jm_callV C hZ.1.1 hz hw9 (ct_Cd_sets l D cI cR cO cB hZ hc10_a hc10_k hv) lk_Cd_24 xw_Cd_sets sw_Cd_sets iw_Cd cw_Cd_sets na_Cd_sets ⟨Nat.le_of_ble_eq_true rfl, Nat.le_of_ble_eq_true rfl⟩ rfl hc10_a rfl rfl (st := []) rfl (Nat.le_of_ble_eq_true rfl) rd_Cd_init_29 ⟨Nat.le_of_ble_eq_true rfl, Nat.le_of_ble_eq_true rfl⟩ (fun v w11 hp12 => ?_)
  obtain ⟨rfl, hW2⟩ := hp12
  obtain ⟨M30, hM30⟩ : ∃ M30 : jm_M, M30 = jm_up M10 k (jk_W cI 4 (jl_dgs (fun _ => 0) v)) := ⟨_, rfl⟩
  rw [← hM30] at hW2
  refine jm_ret_v C hW2 ⟨rfl, k, b, hk, ?_, hne4_k.symm, jm_keep hM30 hc10_a hne1_a, jm_this hM30, jm_keep hM30 hc10_b hne4_k.symm, fun x e hx hxa => ?_⟩ (Nat.le_refl _) (Nat.le_refl _) rd_Cd_init_32
  · have hbn : jm_up (jm_up M k (jk_W cI 4 (fun _ => 0))) a (.inr (11, [.ref k, jk_V 0, jk_V 0, .null])) b = none := by rw [← hM1, ← hM3]; exact hb
    rw [jm_up_n hne4_a.symm, jm_up_n hne4_k.symm] at hbn
    exact hbn
  · have hxk := jm_nen hx hk
    have hxb : x ≠ b := jm_nen (jm_keep hM3 (jm_keep hM1 hx hxk) hxa) hb
    exact jm_keep hM30 (jm_keep hM10 (jm_keep hM8 (jm_keep hM20 (jm_keep hM4 (jm_keep hM3 (jm_keep hM1 hx hxk) hxa) hxb) hxb) hxa) hxa) hxk
end CD1
