/-! the text told to the component -/
def jw_in (σ : jk_LS) (T0 : Int → Int) (n : Int) : jk_LS := jk_mk (upS σ.S 3 n) (upT σ.T 0 T0) σ.HC σ.HZ σ.HS σ.HD σ.HT σ.HV σ.HN
theorem jw_W_ext {cI : ClassId} {n : Nat} {f f' : Int → Int} (h : ∀ j : Nat, f (j : Int) = f' (j : Int)) : (jk_W cI n f : va_E) = jk_W cI n f' := by
  unfold jk_W
  rw [show (fun j : Nat => jk_I (f (j : Int))) = (fun j : Nat => jk_I (f' (j : Int))) from funext (fun j => by rw [h j])]
def jw_g (tx : List Int) (k : Nat) : Nat → Int := fun i => if k + i < tx.length then tx.getD (k + i) 0 else 32
theorem jm_X.kr {ow : Nat → Nat} {M : jm_M} {t : Nat} {cI cR : ClassId} {g : Nat → Option Nat} {ad : Nat → Nat} {σ : jk_LS} (h : jm_X ow M t (WX cI cR g ad σ)) : ∃ fs, M (ad 0) = some (.inr (10, fs)) ∧ ow (ad 0) = t := ⟨_, h.1 0 _ rfl⟩
section TOLD
variable (l : Launch) (D : va_G) {Z : (Nat → Prop) → State → Heap → Prop} {sq iad : Nat → Nat} {z0 zi mi : Nat} (cI cR cO cB : ClassId)
set_option maxHeartbeats 1000000 in
theorem ct_Lw_told (hZ : jl_ZK Z sq iad z0 zi mi) {g : Nat → Option Nat} {ad : Nat → Nat} {σ : jk_LS} {M : jm_M} {ow : Nat → Nat} {tX ta a : Nat} {tx : List Int} (hX0 : jm_X ow M tX (WX cI cR g ad (jw_in σ (σ.T 0) 0))) (hT : jl_Tx cB ow M ta a tx) (hne : ta ≠ tX) (hlen : tx.length ≤ 520) : jm_Met l D jk_cl (jl_ty cI cR cO cB) Z mn_Lw_told (.code mn_Lw_told mb_Lw_told 5 none :: jk_WA) (jk_rx 4 27 135 90) [.ref ((ad 0)), .ref a] M (fun v M' => v = none ∧ ∃ (ow' : Nat → Nat) (T0 : Int → Int), (∀ i : Nat, i < tx.length → T0 i = tx.getD i 0) ∧ jm_X ow' M' tX (WX cI cR g ad (jw_in σ T0 (tx.length : Int))) ∧ jl_FrP ow M ow' M' (fun z => z = tX)) 27 135 := by
  refine jm_body (by decide +kernel) (fun p ev s m args below meth cod w hw hz hin C => ?_) (Nat.le_of_ble_eq_true rfl)
  have hgr : ∀ (k : Nat), ∀ i, 0 ≤ jw_g tx k i ∧ jw_g tx k i < 128 := fun k i => by
    unfold jw_g
    split
    · obtain ⟨v0, f0, -, -, -, -, h5, -⟩ := id hT
      have := h5 (k + i) (by assumption)
      rw [← this.1]
      exact this.2
    · exact ⟨by decide, by decide⟩
  have inner : ∀ (Q0 : State → Prop) (cells slots : Nat) (k q : Nat) (M0 : jm_M) (ow0 : Nat → Nat), k < tx.length → jl_Tx cB ow0 M0 ta a tx → M0 q = none → (∀ ws : va_W, jm_lk ws = jm_up M0 q (jk_W cI 5 (jw_wd (jw_g tx k) 20)) → jk_J p l ev (jk_rx 4 27 135 90) s m args below meth cod cells slots Q0 D jk_cl (va_A w s.heap.size) 5 ws [(4, jk_V (((20 : Nat) : Int))), (3, .ref q), (2, jk_V ((k : Int))), (1, .ref a), (0, .ref ((ad 0)))] 70 []) → ∀ (d i : Nat) (ws : va_W), i + d = 20 → jm_lk ws = jm_up M0 q (jk_W cI 5 (jw_wd (jw_g tx k) i)) → cells ≤ 27 → slots ≤ 135 → jk_J p l ev (jk_rx 4 27 135 90) s m args below meth cod cells slots Q0 D jk_cl (va_A w s.heap.size) 5 ws [(4, jk_V ((i : Int))), (3, .ref q), (2, jk_V ((k : Int))), (1, .ref a), (0, .ref ((ad 0)))] 17 [] := by
    intro Q0 cells slots k q M0 ow0 hk hT0 hq hex d
    induction d with
    | zero =>
      intro i ws hi hws hcl hsl
      obtain rfl : i = 20 := by omega
      refine jk_iload C rd_Lw_told_17 (k := 0) rfl ?_
      refine jk_bipush C rd_Lw_told_19 (by decide +kernel) ?_
      refine jr_icmp_ge C rd_Lw_told_21 (tgt := 70) rfl ⟨by omega, by omega⟩ ⟨by omega, by omega⟩ (fun _ => ?_) (fun hc => absurd hc (by omega))
      exact hex ws hws
    | succ d ih =>
      intro i ws hi hws hcl hsl
      have hTw : jl_Tx cB ow0 (jm_up M0 q (jk_W cI 5 (jw_wd (jw_g tx k) i))) ta a tx := by
        obtain ⟨v0, f0, g1, g2, g3, g4, g5⟩ := hT0
        exact ⟨v0, f0, by rw [jm_up_n (jm_nen g1 hq)]; exact g1, g2, by rw [jm_up_n (jm_nen g3 hq)]; exact g3, g4, g5⟩
      obtain ⟨v0, f0, g1, -, -, -, -, hn11⟩ := id hTw
      have hqw : (jm_up M0 q (jk_W cI 5 (jw_wd (jw_g tx k) i))) q = some (jk_W cI 5 (jw_wd (jw_g tx k) i)) := jm_up_s
      refine jk_iload C rd_Lw_told_17 (k := 0) rfl ?_
      refine jk_bipush C rd_Lw_told_19 (by decide +kernel) ?_
      refine jr_icmp_ge C rd_Lw_told_21 (tgt := 70) rfl ⟨by omega, by omega⟩ ⟨by omega, by omega⟩ (fun hc => absurd hc (by omega)) (fun _ => ?_)
      refine jk_aload_n C rd_Lw_told_24 (k := 1) rfl ?_
      refine jk_iload C rd_Lw_told_25 (k := 0) rfl ?_
      refine jk_iconst C rd_Lw_told_27 ?_
      refine jr_idiv C ⟨by omega, by omega⟩ ⟨by omega, by omega⟩ rd_Lw_told_28 ?_
      refine jk_aload_n C rd_Lw_told_29 (k := 1) rfl ?_
      refine jk_iload C rd_Lw_told_30 (k := 0) rfl ?_
      refine jk_iconst C rd_Lw_told_32 ?_
      refine jr_idiv C ⟨by omega, by omega⟩ ⟨by omega, by omega⟩ rd_Lw_told_33 ?_
      refine jm_iald C hws 0 hqw rfl (by omega) (by omega) (by omega) rd_Lw_told_34 ?_
      refine jk_bipush C rd_Lw_told_35 (by decide +kernel) ?_
      refine jk_ishl C rd_Lw_told_37 ?_
      refine jk_iload_n C rd_Lw_told_38 (k := 2) rfl ?_
      refine jk_iload C rd_Lw_told_39 (k := 0) rfl ?_
      refine jk_iadd C rd_Lw_told_41 ?_
      refine jk_aload_n C rd_Lw_told_42 (k := 3) rfl ?_
      refine jm_callV C hZ.1.1 hz hws (cm_JStr_length l D cI cR cO cB hZ hTw) lk_Lw_7 xw_JStr_length sw_JStr_length iw_JStr cw_JStr_length na_JStr_length ⟨by dsimp only [jk_rx]; omega, by dsimp only [jk_rx]; omega⟩ rfl g1 rfl rfl (st := [jk_V (((k : Int)) + ((i : Int))), jk_V (jk_shl (jw_wd (jw_g tx k) i ((i : Int) / 4)) 8), jk_V ((i : Int) / 4), .ref q]) rfl (Nat.le_of_ble_eq_true rfl) rd_Lw_told_43 ⟨by dsimp only [jk_rx]; omega, by dsimp only [jk_rx]; omega⟩ (fun v w1 hp2 => ?_)
      obtain ⟨rfl, hs43⟩ := hp2
      refine jr_icmp_ge C rd_Lw_told_46 (tgt := 60) rfl ⟨by omega, by omega⟩ ⟨by omega, by omega⟩ (fun hc => ?_) (fun hc => ?_)
      · refine jk_bipush C rd_Lw_told_60 (by decide +kernel) ?_
        refine jk_ior C rd_Lw_told_62 ?_
        refine jm_iast C hs43 0 hqw rfl (by omega) (by omega) (by omega) rd_Lw_told_63 (fun w8 hw8 => ?_)
        refine jk_iinc C rd_Lw_told_64 (k := 0) rfl (Nat.le_of_ble_eq_true rfl) rfl ?_
        refine jk_goto C rd_Lw_told_67 (tgt := 17) rfl ?_
        refine jk_lv [0, 1, 2, 3, 4] rfl ?_
        have hst := jw_wd_step (hgr k) (i := i) (by omega)
        rw [show jw_g tx k i = 32 from if_neg (by omega)] at hst
        exact ih (i + 1) w8 (by omega) (by rw [hw8, jm_up_up, jw_W_ext hst]) hcl hsl
      · refine jk_aload_n C rd_Lw_told_49 (k := 3) rfl ?_
        refine jk_iload_n C rd_Lw_told_50 (k := 2) rfl ?_
        refine jk_iload C rd_Lw_told_51 (k := 0) rfl ?_
        refine jk_iadd C rd_Lw_told_53 ?_
        rw [show (k : Int) + (i : Int) = ((k + i : Nat) : Int) by omega]
        refine jm_callV C hZ.1.1 hz hs43 (cm_JStr_charAt l D cI cR cO cB hZ hTw (i := k + i) (by omega)) lk_Lw_13 xw_JStr_charAt sw_JStr_charAt iw_JStr cw_JStr_charAt na_JStr_charAt ⟨by dsimp only [jk_rx]; omega, by dsimp only [jk_rx]; omega⟩ rfl g1 rfl rfl (st := [jk_V (jk_shl (jw_wd (jw_g tx k) i ((i : Int) / 4)) 8), jk_V ((i : Int) / 4), .ref q]) rfl (Nat.le_of_ble_eq_true rfl) rd_Lw_told_54 ⟨by dsimp only [jk_rx]; omega, by dsimp only [jk_rx]; omega⟩ (fun v w3 hp4 => ?_)
        obtain ⟨rfl, hs54⟩ := hp4
        refine jk_goto C rd_Lw_told_57 (tgt := 62) rfl ?_
        refine jk_ior C rd_Lw_told_62 ?_
        refine jm_iast C hs54 0 hqw rfl (by omega) (by omega) (by omega) rd_Lw_told_63 (fun w8 hw8 => ?_)
        refine jk_iinc C rd_Lw_told_64 (k := 0) rfl (Nat.le_of_ble_eq_true rfl) rfl ?_
        refine jk_goto C rd_Lw_told_67 (tgt := 17) rfl ?_
        refine jk_lv [0, 1, 2, 3, 4] rfl ?_
        have hst := jw_wd_step (hgr k) (i := i) (by omega)
        rw [show jw_g tx k i = tx.getD (k + i) 0 from if_pos (by omega)] at hst
        exact ih (i + 1) w8 (by omega) (by rw [hw8, jm_up_up, jw_W_ext hst]) hcl hsl
  have outer : ∀ (d k : Nat) (ws : va_W) (ow0 : Nat → Nat) (T0 : Int → Int) (cells slots : Nat), k + 20 * d ≥ tx.length → k ≤ tx.length + 19 → cells + d ≤ 26 → slots + 5 * d ≤ 130 → jm_X ow0 (jm_lk ws) tX (WX cI cR g ad (jw_in σ T0 (k : Int))) → jl_Tx cB ow0 (jm_lk ws) ta a tx → (∀ i : Nat, i < k → i < tx.length → T0 i = tx.getD i 0) → jl_FrP ow M ow0 (jm_lk ws) (fun z => z = tX) → jk_J p l ev (jk_rx 4 27 135 90) s m args below meth cod cells slots (MQ below (jm_Post D jk_cl (jl_ty cI cR cO cB) (va_A w s.heap.size) (fun v M' => v = none ∧ ∃ (ow' : Nat → Nat) (T0 : Int → Int), (∀ i : Nat, i < tx.length → T0 i = tx.getD i 0) ∧ jm_X ow' M' tX (WX cI cR g ad (jw_in σ T0 (tx.length : Int))) ∧ jl_FrP ow M ow' M' (fun z => z = tX))) args s 27 135 (va_A w s.heap.size)) D jk_cl (va_A w s.heap.size) 5 ws [(2, jk_V ((k : Int))), (1, .ref a), (0, .ref ((ad 0)))] 2 [] := by
    intro d
    induction d with
    | zero =>
      intro k ws ow0 T0 cells slots hk hk2 hc1 hc2 hX0 hT0 hT1 hF0
      obtain ⟨v0, f0, g1, -, -, -, -, hn11⟩ := id hT0
      obtain ⟨fs0, hkr, hok⟩ := hX0.kr
      refine jk_iload_n C rd_Lw_told_2 (k := 0) rfl ?_
      refine jk_aload_n C rd_Lw_told_3 (k := 1) rfl ?_
      refine jm_callV C hZ.1.1 hz (rfl : jm_lk ws = _) (cm_JStr_length l D cI cR cO cB hZ hT0) lk_Lw_7 xw_JStr_length sw_JStr_length iw_JStr cw_JStr_length na_JStr_length ⟨by dsimp only [jk_rx]; omega, by dsimp only [jk_rx]; omega⟩ rfl g1 rfl rfl (st := [jk_V ((k : Int))]) rfl (Nat.le_of_ble_eq_true rfl) rd_Lw_told_4 ⟨by dsimp only [jk_rx]; omega, by dsimp only [jk_rx]; omega⟩ (fun v w5 hp6 => ?_)
      obtain ⟨rfl, hs4⟩ := hp6
      refine jr_icmp_ge C rd_Lw_told_7 (tgt := 96) rfl ⟨by omega, by omega⟩ ⟨by omega, by omega⟩ (fun hc => ?_) (fun hc => absurd hc (by omega))
      refine jk_aload_n C rd_Lw_told_96 (k := 2) rfl ?_
      refine jk_aload_n C rd_Lw_told_97 (k := 1) rfl ?_
      refine jm_callV C hZ.1.1 hz hs4 (cm_JStr_length l D cI cR cO cB hZ hT0) lk_Lw_7 xw_JStr_length sw_JStr_length iw_JStr cw_JStr_length na_JStr_length ⟨by dsimp only [jk_rx]; omega, by dsimp only [jk_rx]; omega⟩ rfl g1 rfl rfl (st := [.ref ((ad 0))]) rfl (Nat.le_of_ble_eq_true rfl) rd_Lw_told_98 ⟨by dsimp only [jk_rx]; omega, by dsimp only [jk_rx]; omega⟩ (fun v w7 hp8 => ?_)
      obtain ⟨rfl, hs98⟩ := hp8
      refine jm_callV C hZ.1.1 hz hs98 (cm_KR_truncateInput l D hZ.1 cI cR cO cB hX0 (tx.length : Int) (1, (tx.length : Int)) (jw_trunc (by omega) (by show (tx.length : Int) ≤ (k : Int); omega) (by show (k : Int) ≤ 700; omega))) lk_Lw_23 ki_KR_truncateInput ks_KR_truncateInput iw_KR kc_KR_truncateInput na_KR_truncateInput ⟨by dsimp only [jk_rx]; omega, by dsimp only [jk_rx]; omega⟩ rfl hkr rfl rfl (st := []) rfl (Nat.le_of_ble_eq_true rfl) rd_Lw_told_101 ⟨by dsimp only [jk_rx]; omega, by dsimp only [jk_rx]; omega⟩ (fun v w9 hp10 => ?_)
      obtain ⟨rfl, hX9, hF9⟩ := hp10
      refine jk_pop C rd_Lw_told_104 rfl ?_
      exact jm_ret_v C (rfl : jm_lk w9 = _) ⟨rfl, ow0, T0, fun i hi => hT1 i (by omega) hi, hX9, hF0.trans hF9⟩ (by omega) (by omega) rd_Lw_told_105
    | succ d ih =>
      intro k ws ow0 T0 cells slots hk hk2 hc1 hc2 hX0 hT0 hT1 hF0
      obtain ⟨v0, f0, g1, -, -, -, -, hn11⟩ := id hT0
      obtain ⟨fs0, hkr, hok⟩ := hX0.kr
      refine jk_iload_n C rd_Lw_told_2 (k := 0) rfl ?_
      refine jk_aload_n C rd_Lw_told_3 (k := 1) rfl ?_
      refine jm_callV C hZ.1.1 hz (rfl : jm_lk ws = _) (cm_JStr_length l D cI cR cO cB hZ hT0) lk_Lw_7 xw_JStr_length sw_JStr_length iw_JStr cw_JStr_length na_JStr_length ⟨by dsimp only [jk_rx]; omega, by dsimp only [jk_rx]; omega⟩ rfl g1 rfl rfl (st := [jk_V ((k : Int))]) rfl (Nat.le_of_ble_eq_true rfl) rd_Lw_told_4 ⟨by dsimp only [jk_rx]; omega, by dsimp only [jk_rx]; omega⟩ (fun v w5 hp6 => ?_)
      obtain ⟨rfl, hs4⟩ := hp6
      refine jr_icmp_ge C rd_Lw_told_7 (tgt := 96) rfl ⟨by omega, by omega⟩ ⟨by omega, by omega⟩ (fun hc => ?_) (fun hc => ?_)
      · refine jk_aload_n C rd_Lw_told_96 (k := 2) rfl ?_
        refine jk_aload_n C rd_Lw_told_97 (k := 1) rfl ?_
        refine jm_callV C hZ.1.1 hz hs4 (cm_JStr_length l D cI cR cO cB hZ hT0) lk_Lw_7 xw_JStr_length sw_JStr_length iw_JStr cw_JStr_length na_JStr_length ⟨by dsimp only [jk_rx]; omega, by dsimp only [jk_rx]; omega⟩ rfl g1 rfl rfl (st := [.ref ((ad 0))]) rfl (Nat.le_of_ble_eq_true rfl) rd_Lw_told_98 ⟨by dsimp only [jk_rx]; omega, by dsimp only [jk_rx]; omega⟩ (fun v w11 hp12 => ?_)
        obtain ⟨rfl, hs98⟩ := hp12
        refine jm_callV C hZ.1.1 hz hs98 (cm_KR_truncateInput l D hZ.1 cI cR cO cB hX0 (tx.length : Int) (1, (tx.length : Int)) (jw_trunc (by omega) (by show (tx.length : Int) ≤ (k : Int); omega) (by show (k : Int) ≤ 700; omega))) lk_Lw_23 ki_KR_truncateInput ks_KR_truncateInput iw_KR kc_KR_truncateInput na_KR_truncateInput ⟨by dsimp only [jk_rx]; omega, by dsimp only [jk_rx]; omega⟩ rfl hkr rfl rfl (st := []) rfl (Nat.le_of_ble_eq_true rfl) rd_Lw_told_101 ⟨by dsimp only [jk_rx]; omega, by dsimp only [jk_rx]; omega⟩ (fun v w13 hp14 => ?_)
        obtain ⟨rfl, hX9, hF9⟩ := hp14
        refine jk_pop C rd_Lw_told_104 rfl ?_
        exact jm_ret_v C (rfl : jm_lk w13 = _) ⟨rfl, ow0, T0, fun i hi => hT1 i (by omega) hi, hX9, hF0.trans hF9⟩ (by omega) (by omega) rd_Lw_told_105
      · refine jk_iconst C rd_Lw_told_10 ?_
        refine jm_newa C hs4 (n := 5) rfl (by omega) 0 rfl aw_int ⟨by dsimp only [jk_rx]; omega, by dsimp only [jk_rx]; omega⟩ rd_Lw_told_11 (fun q w1 hq hw1 => ?_)
        refine jr_astore_n C rd_Lw_told_13 (Nat.le_of_ble_eq_true rfl) rfl ?_
        refine jk_iconst C rd_Lw_told_14 ?_
        refine jk_istore C rd_Lw_told_15 (Nat.le_of_ble_eq_true rfl) rfl ?_
        refine jk_lv [0, 1, 2, 3, 4] rfl ?_
        refine inner _ (cells + 1) (slots + 5) k q (jm_lk ws) ow0 (by omega) hT0 hq (fun ws2 hws2 => ?_) 20 0 w1 rfl ?_ (by omega) (by omega)
        · have hq2 : (jm_up (jm_lk ws) q (jk_W cI 5 (jw_wd (jw_g tx k) 20))) q = some (jk_W cI 5 (jw_wd (jw_g tx k) 20)) := jm_up_s
          obtain ⟨M5, hM5⟩ : ∃ Mx : jm_M, Mx = jm_up (jm_lk ws) q (jk_W cI 5 (jw_wd (jw_g tx k) 20)) := ⟨_, rfl⟩
          rw [← hM5] at hws2 hq2
          have hFn : jl_FrP ow0 (jm_lk ws) (fun z => if z = q then ta else ow0 z) M5 (fun z => z = tX) := jl_FrP.new hM5 hq
          have hX5 : jm_X (fun z => if z = q then ta else ow0 z) M5 tX (WX cI cR g ad (jw_in σ T0 (k : Int))) := ⟨fun k0 q0 h0 => by
            obtain ⟨z1, z2⟩ := hX0.1 k0 q0 h0
            have zn := jm_nen z1 hq
            exact ⟨jm_keep hM5 z1 zn, (if_neg zn).trans z2⟩, hX0.2⟩
          have hT5 := hT0.fr hFn hne
          obtain ⟨fs5, hkr5, -⟩ := hX5.kr
          refine jk_aload_n C rd_Lw_told_70 (k := 4) rfl ?_
          refine jk_aload_n C rd_Lw_told_71 (k := 1) rfl ?_
          refine jk_iconst C rd_Lw_told_72 ?_
          refine jm_iald C hws2 0 hq2 rfl (by omega) (by omega) (by omega) rd_Lw_told_73 ?_
          refine jk_aload_n C rd_Lw_told_74 (k := 1) rfl ?_
          refine jk_iconst C rd_Lw_told_75 ?_
          refine jm_iald C hws2 0 hq2 rfl (by omega) (by omega) (by omega) rd_Lw_told_76 ?_
          refine jk_aload_n C rd_Lw_told_77 (k := 1) rfl ?_
          refine jk_iconst C rd_Lw_told_78 ?_
          refine jm_iald C hws2 0 hq2 rfl (by omega) (by omega) (by omega) rd_Lw_told_79 ?_
          refine jk_aload_n C rd_Lw_told_80 (k := 1) rfl ?_
          refine jk_iconst C rd_Lw_told_81 ?_
          refine jm_iald C hws2 0 hq2 rfl (by omega) (by omega) (by omega) rd_Lw_told_82 ?_
          refine jk_aload_n C rd_Lw_told_83 (k := 1) rfl ?_
          refine jk_iconst C rd_Lw_told_84 ?_
          refine jm_iald C hws2 0 hq2 rfl (by omega) (by omega) (by omega) rd_Lw_told_85 ?_
          obtain ⟨T9, e9, r9⟩ := jw_app (hgr k) (len := (k : Int)) (f := T0) (by omega) (by omega)
          refine jm_callV C hZ.1.1 hz hws2 (cm_KR_appendInput l D hZ.1 cI cR cO cB hX5 (jw_wd (jw_g tx k) 20 0) (jw_wd (jw_g tx k) 20 1) (jw_wd (jw_g tx k) 20 2) (jw_wd (jw_g tx k) 20 3) (jw_wd (jw_g tx k) 20 4) ((k : Int) + 20, T9, (k : Int) + 20) e9) lk_Lw_17 ki_KR_appendInput ks_KR_appendInput iw_KR kc_KR_appendInput na_KR_appendInput ⟨by dsimp only [jk_rx]; omega, by dsimp only [jk_rx]; omega⟩ rfl hkr5 rfl rfl (st := []) rfl (Nat.le_of_ble_eq_true rfl) rd_Lw_told_86 ⟨by dsimp only [jk_rx]; omega, by dsimp only [jk_rx]; omega⟩ (fun v w15 hp16 => ?_)
          obtain ⟨rfl, hX6, hF6⟩ := hp16
          refine jk_pop C rd_Lw_told_89 rfl ?_
          refine jk_iinc C rd_Lw_told_90 (k := 2) rfl (Nat.le_of_ble_eq_true rfl) rfl ?_
          refine jk_goto C rd_Lw_told_93 (tgt := 2) rfl ?_
          refine jk_lv [0, 3, 4] rfl ?_
          refine ih (k + 20) _ _ T9 _ _ (by omega) (by omega) (by omega) (by omega) hX6 (hT5.fr hF6 hne) (fun i hi hi2 => ?_) (hF0.trans (hFn.trans hF6))
          rw [r9]
          by_cases hik : i < k
          · rw [if_neg (by omega)]; exact hT1 i hik hi2
          · rw [if_pos (by omega)]
            show jw_g tx k _ = _
            unfold jw_g
            rw [show k + ((i : Int) - (k : Int)).toNat = i by omega, if_pos hi2]
        · rw [hw1, jw_W_ext (f' := jw_wd (jw_g tx k) 0) (fun j => by unfold jw_wd; rw [Nat.zero_sub, Nat.min_zero]; rfl)]
  refine jk_iconst C rd_Lw_told_0 ?_
  refine jk_istore_n C rd_Lw_told_1 (Nat.le_of_ble_eq_true rfl) rfl ?_
  refine jk_lv [0, 2, 1] rfl ?_
  refine outer 26 0 w ow (σ.T 0) 0 0 (by omega) (by omega) (by omega) (by omega) ?_ (by rw [hw]; exact hT) (fun i hi => absurd hi (Nat.not_lt_zero i)) (by rw [hw]; exact jl_FrP.rf)
  rw [hw]
  exact hX0
end TOLD
