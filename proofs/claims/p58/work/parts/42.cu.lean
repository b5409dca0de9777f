/-! clusters -/
/-- the clusters' data by their addresses: the list of pendants, the top cord, the pendants -/
abbrev jl_K : Type := (Nat → Nat) × (Nat → Option Nat) × (Nat → List Nat)
def jK_pl (K : jl_K) : Nat → Nat := K.1
def jK_tp (K : jl_K) : Nat → Option Nat := K.2.1
def jK_pd (K : jl_K) : Nat → List Nat := K.2.2
def jl_Cu (cO : ClassId) (z0 : Nat) (ow : Nat → Nat) (M : jm_M) (K : jl_K) (c : Nat) : Prop :=
  M c = some (.inr (12, [va_rf (jK_tp K c), .ref (jK_pl K c)])) ∧ ow c = 8 * c ∧ jl_AL cO z0 ow M (8 * c + 2) (jK_pl K c) (jK_pd K c)
theorem jl_Cu.mono {cO : ClassId} {z0 : Nat} {ow : Nat → Nat} {M M' : jm_M} {K : jl_K} {c : Nat} (h : jl_Cu cO z0 ow M K c) (hl : jm_le M M') : jl_Cu cO z0 ow M' K c := ⟨hl _ _ h.1, h.2.1, h.2.2.mono hl⟩
def jK_siz (S : jl_S) (K : jl_K) (c : Nat) : Nat := 1 + ((jK_pd K c).map (fun b => jS_siz S 3 b)).sum
def jK_sum (S : jl_S) (K : jl_K) (c : Nat) : Int := (jK_pd K c).foldl (fun s b => s + jS_tot S 3 b) 0
def jK_tnb (S : jl_S) (K : jl_K) (c : Nat) : Int := match jK_tp K c with
  | none => 0
  | some t => if 0 < jS_nb S t then 1 else 0
def jK_nib (S : jl_S) (K : jl_K) (c : Nat) : Int := (jK_pd K c).foldl (fun s b => s + jS_nib S 3 b) (jK_tnb S K c)
def jK_sta (S : jl_S) (K : jl_K) (c : Nat) : Int := match jK_tp K c with
  | none => 0
  | some t => if 0 < jK_nib S K c then 1 else if jS_kv S t = jK_sum S K c then 2 else 3
/-- a cluster's cords are cords of P -/
def jl_KP (S : jl_S) (K : jl_K) (P : Nat → Prop) (c : Nat) : Prop := (∀ b ∈ jK_pd K c, P b ∧ jS_hgt S 3 b) ∧ ∀ t, jK_tp K c = some t → P t ∧ jS_hgt S 3 t
section CU1
variable (l : Launch) (D : va_G) {Z : (Nat → Prop) → State → Heap → Prop} {sq iad : Nat → Nat} {z0 zi mi : Nat} (cI cR cO cB : ClassId)
set_option maxHeartbeats 1000000 in
theorem ct_Cu_sum (hZ : jl_ZK Z sq iad z0 zi mi) {M : jm_M} {ow : Nat → Nat} {S : jl_S} {K : jl_K} {P : Nat → Prop} {cu : Nat} (hW : jl_W cI cO z0 ow M S P) (hC : jl_Cu cO z0 ow M K cu) (hK : jl_KP S K P cu) : jm_Met l D jk_cl (jl_ty cI cR cO cB) Z mn_Cu_sum (.code mn_Cu_sum mb_Cu_sum 4 (some .int) :: jk_WA) (jk_rx 12 (jK_siz S K cu) (4 * jK_siz S K cu) 292) [.ref cu] M (fun v M' => v = some (jk_V (jK_sum S K cu)) ∧ jm_le M M') (jK_siz S K cu) (4 * jK_siz S K cu) := by
  obtain ⟨mc, e, cap, g, l1, l2, l3, l4, l5, l6⟩ := hC.2.2
  refine jm_body (by decide +kernel) (fun p ev s m args below meth cod w hw hz hin C => ?_) (Nat.le_of_ble_eq_true rfl)
  refine jk_iconst C rd_Cu_sum_0 ?_
  refine jk_istore_n C rd_Cu_sum_1 (Nat.le_of_ble_eq_true rfl) rfl ?_
  refine jk_aload_n C rd_Cu_sum_2 (k := 1) rfl ?_
  refine jm_get C hw in_Cu (ci := 12) rfl 1 (Nat.le_of_ble_eq_true rfl) lk_Cu_10 hC.1 rfl rd_Cu_sum_3 ?_
  refine jm_callF C (x := ⟨"java/util/List", "iterator", "()Ljava/util/Iterator;"⟩) (q := ("java/util/ArrayList", tb_AL, 3)) (ci := 14) hZ.1.1 hz hw (ct_AL_iterator l D cI cR cO cB hZ l1) (ff_AL_iterator hZ.1 hz) (fg_AL_iterator lk_Cu_16) cw_AL_iterator nf_AL_iterator ⟨by dsimp only [jk_rx]; omega, by dsimp only [jk_rx]; omega⟩ rfl l1 rfl (st := []) rfl (Nat.le_of_ble_eq_true rfl) rd_Cu_sum_6 ⟨by dsimp only [jk_rx]; rw [jK_siz]; omega, by dsimp only [jk_rx]; rw [jK_siz]; omega⟩ (fun v w1 hp2 => ?_)
  obtain ⟨q, rfl, hqn, hW1⟩ := hp2
  refine jr_astore_n C rd_Cu_sum_11 (Nat.le_of_ble_eq_true rfl) rfl ?_
  refine jk_lv [0, 1, 2] rfl ?_
  have key : ∀ (Q0 : State → Prop) (suf pre : List Nat) (acc : Int) (r : Value) (Mi : jm_M) (ws : va_W) (c0 c1 : Nat), jK_pd K cu = pre ++ suf → jm_lk ws = Mi → jm_le M Mi → Mi q = some (.inr (15, [jk_V (pre.length : Int), r, jk_V mc, .ref ((jK_pl K cu))])) → c0 + (suf.map (fun b => jS_siz S 3 b)).sum ≤ jK_siz S K cu → c1 + 4 * (suf.map (fun b => jS_siz S 3 b)).sum ≤ 4 * jK_siz S K cu → (∀ (Mi : jm_M) (ws : va_W) (c0 c1 : Nat), jm_lk ws = Mi → jm_le M Mi → c0 ≤ jK_siz S K cu → c1 ≤ 4 * jK_siz S K cu → jk_J p l ev (jk_rx 12 (jK_siz S K cu) (4 * jK_siz S K cu) 292) s m args below meth cod c0 c1 Q0 D jk_cl (va_A w s.heap.size) 4 ws [(2, .ref q), (1, jk_V (suf.foldl (fun s0 b => s0 + jS_tot S 3 b) acc)), (0, .ref cu)] 41 []) → jk_J p l ev (jk_rx 12 (jK_siz S K cu) (4 * jK_siz S K cu) 292) s m args below meth cod c0 c1 Q0 D jk_cl (va_A w s.heap.size) 4 ws [(2, .ref q), (1, jk_V acc), (0, .ref cu)] 12 [] := by
    intro Q0 suf
    induction suf with
    | nil =>
      intro pre acc r Mi ws c0 c1 hxs hws hle hq hc0 hc1 hex
      have hlen := congrArg List.length hxs
      rw [List.append_nil] at hlen
      have l9 := l4
      refine jk_aload_n C rd_Cu_sum_12 (k := 0) rfl ?_
      refine jm_callF C (x := ⟨"java/util/Iterator", "hasNext", "()Z"⟩) (q := ("java/util/ArrayList$Itr", tb_It, 4)) (ci := 15) hZ.1.1 hz hws (ct_It_hasNext l D cI cR cO cB hZ hq (hle _ _ l1) ⟨by omega, by omega⟩ ⟨by omega, by omega⟩) (ff_It_hasNext hZ.1 hz) (fg_It_hasNext lk_Cu_22) cw_It_hasNext nf_It_hasNext ⟨by dsimp only [jk_rx]; omega, by dsimp only [jk_rx]; omega⟩ rfl hq rfl (st := []) rfl (Nat.le_of_ble_eq_true rfl) rd_Cu_sum_13 ⟨by dsimp only [jk_rx]; omega, by dsimp only [jk_rx]; omega⟩ (fun v w101 hp102 => ?_)
      obtain ⟨rfl, hk1⟩ := hp102
      rw [if_pos (by omega : (pre.length : Int) = ((jK_pd K cu).length : Int))]
      refine jr_if_eq C rd_Cu_sum_18 (tgt := 41) rfl ⟨by omega, by omega⟩ (fun _ => ?_) (fun hc => absurd rfl hc)
      rw [List.map_nil] at hc0 hc1
      change c0 + 0 ≤ _ at hc0
      change c1 + 4 * 0 ≤ _ at hc1
      exact hex Mi _ _ _ hk1 hle (by omega) (by omega)
    | cons x suf ihs =>
      intro pre acc r Mi ws c0 c1 hxs hws hle hq hc0 hc1 hex
      rw [List.map_cons, List.sum_cons] at hc0 hc1
      have hlen := congrArg List.length hxs
      rw [List.length_append, List.length_cons] at hlen
      have l7 : M e = some (jm_Q cO cap g) := by
        rcases l3 with ⟨z, -⟩ | ⟨-, z, -⟩
        · omega
        · exact z
      have hxm : x ∈ jK_pd K cu := by rw [hxs]; exact List.mem_append_right _ List.mem_cons_self
      have hPx := hK.1 x hxm
      have hx1 := (hW x hPx.1).1.1
      refine jk_aload_n C rd_Cu_sum_12 (k := 0) rfl ?_
      refine jm_callF C (x := ⟨"java/util/Iterator", "hasNext", "()Z"⟩) (q := ("java/util/ArrayList$Itr", tb_It, 4)) (ci := 15) hZ.1.1 hz hws (ct_It_hasNext l D cI cR cO cB hZ hq (hle _ _ l1) ⟨by omega, by omega⟩ ⟨by omega, by omega⟩) (ff_It_hasNext hZ.1 hz) (fg_It_hasNext lk_Cu_22) cw_It_hasNext nf_It_hasNext ⟨by dsimp only [jk_rx]; omega, by dsimp only [jk_rx]; omega⟩ rfl hq rfl (st := []) rfl (Nat.le_of_ble_eq_true rfl) rd_Cu_sum_13 ⟨by dsimp only [jk_rx]; omega, by dsimp only [jk_rx]; omega⟩ (fun v w101 hp102 => ?_)
      obtain ⟨rfl, hk1⟩ := hp102
      rw [if_neg (by omega : ¬ (pre.length : Int) = ((jK_pd K cu).length : Int))]
      refine jr_if_eq C rd_Cu_sum_18 (tgt := 41) rfl ⟨by omega, by omega⟩ (fun hc => absurd hc (by omega)) (fun _ => ?_)
      refine jk_aload_n C rd_Cu_sum_21 (k := 0) rfl ?_
      refine jm_callF C (x := ⟨"java/util/Iterator", "next", "()Ljava/lang/Object;"⟩) (q := ("java/util/ArrayList$Itr", tb_It, 4)) (ci := 15) hZ.1.1 hz hk1 (ct_It_next l D cI cR cO cB hZ hq (hle _ _ l1) (hle _ _ l7) (by omega) l4 l5 (x := x) (by rw [l6 _ (by omega), hxs, List.getElem?_append_right (Nat.le_refl _), Nat.sub_self]; rfl)) (ff_It_next hZ.1 hz) (fg_It_next lk_Cu_28) cw_It_next nf_It_next ⟨by dsimp only [jk_rx]; omega, by dsimp only [jk_rx]; omega⟩ rfl hq rfl (st := []) rfl (Nat.le_of_ble_eq_true rfl) rd_Cu_sum_22 ⟨by dsimp only [jk_rx]; omega, by dsimp only [jk_rx]; omega⟩ (fun v w103 hp104 => ?_)
      obtain ⟨rfl, hk2⟩ := hp104
      obtain ⟨M5, hM5⟩ : ∃ M5 : jm_M, M5 = jm_up Mi q (.inr (15, [jk_V ((pre.length : Int) + 1), jk_V (pre.length : Int), jk_V mc, .ref ((jK_pl K cu))])) := ⟨_, rfl⟩
      rw [← hM5] at hk2
      have hle5 : jm_le M M5 := by rw [hM5]; exact jm_le.put hqn hle
      refine jr_castS C hk2 (hle5 _ _ hx1) (ci := 11) rfl lk_Cu_32 rd_Cu_sum_27 ?_
      refine jr_astore_n C rd_Cu_sum_30 (Nat.le_of_ble_eq_true rfl) rfl ?_
      refine jk_iload_n C rd_Cu_sum_31 (k := 2) rfl ?_
      refine jk_aload_n C rd_Cu_sum_32 (k := 0) rfl ?_
      refine jm_callV C hZ.1.1 hz hk2 (ct_Cd_total l D cI cR cO cB hZ 3 (hW.mono hle5) hPx.1 hPx.2) lk_Cu_34 xw_Cd_total sw_Cd_total iw_Cd cw_Cd_total na_Cd_total ⟨by dsimp only [jk_rx]; omega, by dsimp only [jk_rx]; omega⟩ rfl (hle5 _ _ hx1) rfl rfl (st := [jk_V acc]) rfl (Nat.le_of_ble_eq_true rfl) rd_Cu_sum_33 ⟨by dsimp only [jk_rx]; omega, by dsimp only [jk_rx]; omega⟩ (fun v w105 hp106 => ?_)
      obtain ⟨rfl, hle6⟩ := hp106
      refine jk_iadd C rd_Cu_sum_36 ?_
      refine jk_istore_n C rd_Cu_sum_37 (Nat.le_of_ble_eq_true rfl) rfl ?_
      refine jk_goto C rd_Cu_sum_38 (tgt := 12) rfl ?_
      refine jk_lv [2, 0, 3] rfl ?_
      exact ihs (pre ++ [x]) _ _ _ _ _ _ (by rw [hxs, List.append_assoc]; rfl) rfl (hle5.trans hle6) (by rw [List.length_append]; exact hle6 _ _ (jm_this hM5)) (by omega) (by omega) hex
  refine key _ (jK_pd K cu) [] _ _ _ _ _ _ rfl rfl (by rw [hW1]; exact jm_le.new hqn) (by rw [hW1]; exact jm_up_s) (by rw [jK_siz]; omega) (by rw [jK_siz]; omega) (fun Mi ws c0 c1 hws hle hc0 hc1 => ?_)
  refine jk_iload_n C rd_Cu_sum_41 (k := 1) rfl ?_
  exact jm_ret_i C hws ⟨rfl, hle⟩ hc0 hc1 rd_Cu_sum_42
set_option maxHeartbeats 1000000 in
theorem ct_Cu_nibbledOnes (hZ : jl_ZK Z sq iad z0 zi mi) {M : jm_M} {ow : Nat → Nat} {S : jl_S} {K : jl_K} {P : Nat → Prop} {cu : Nat} (hW : jl_W cI cO z0 ow M S P) (hC : jl_Cu cO z0 ow M K cu) (hK : jl_KP S K P cu) : jm_Met l D jk_cl (jl_ty cI cR cO cB) Z mn_Cu_nibbledOnes (.code mn_Cu_nibbledOnes mb_Cu_nibbledOnes 4 (some .int) :: jk_WA) (jk_rx 12 (jK_siz S K cu) (4 * jK_siz S K cu) 292) [.ref cu] M (fun v M' => v = some (jk_V (jK_nib S K cu)) ∧ jm_le M M') (jK_siz S K cu) (4 * jK_siz S K cu) := by
  obtain ⟨mc, e, cap, g, l1, l2, l3, l4, l5, l6⟩ := hC.2.2
  refine jm_body (by decide +kernel) (fun p ev s m args below meth cod w hw hz hin C => ?_) (Nat.le_of_ble_eq_true rfl)
  have meet : ∀ (Q0 : State → Prop), jk_J p l ev (jk_rx 12 (jK_siz S K cu) (4 * jK_siz S K cu) 292) s m args below meth cod 0 0 Q0 D jk_cl (va_A w s.heap.size) 4 w [(0, .ref cu)] 22 [jk_V ((jK_tnb S K cu))] → jk_J p l ev (jk_rx 12 (jK_siz S K cu) (4 * jK_siz S K cu) 292) s m args below meth cod 0 0 Q0 D jk_cl (va_A w s.heap.size) 4 w [(0, .ref cu)] 0 [] := fun Q0 h => by
    unfold jK_tnb at h
    have h1 := hC.1
    cases ht : jK_tp K cu with
    | none =>
      rw [ht] at h h1
      refine jk_aload_n C rd_Cu_nibbledOnes_0 (k := 0) rfl ?_
      refine jm_get C hw in_Cu (ci := 12) rfl 0 (Nat.le_of_ble_eq_true rfl) lk_Cu_38 h1 rfl rd_Cu_nibbledOnes_1 ?_
      refine jr_ifnullN C rd_Cu_nibbledOnes_4 (tgt := 21) rfl ?_
      refine jk_iconst C rd_Cu_nibbledOnes_21 ?_
      exact h
    | some t =>
      rw [ht] at h h1
      have hcd := (hW t (hK.2 t ht).1).1
      have hnb := (hW t (hK.2 t ht).1).2.1
      refine jk_aload_n C rd_Cu_nibbledOnes_0 (k := 0) rfl ?_
      refine jm_get C hw in_Cu (ci := 12) rfl 0 (Nat.le_of_ble_eq_true rfl) lk_Cu_38 h1 rfl rd_Cu_nibbledOnes_1 ?_
      refine jr_ifnull C rd_Cu_nibbledOnes_4 ?_
      refine jk_aload_n C rd_Cu_nibbledOnes_7 (k := 0) rfl ?_
      refine jm_get C hw in_Cu (ci := 12) rfl 0 (Nat.le_of_ble_eq_true rfl) lk_Cu_38 h1 rfl rd_Cu_nibbledOnes_8 ?_
      refine jm_getN C hw in_Cd (ci := 11) rfl 2 (Nat.le_of_ble_eq_true rfl) (jk_nw hZ.1 hz lk_Cu_42) hcd.1 rfl rd_Cu_nibbledOnes_11 ?_
      refine jr_if_le C rd_Cu_nibbledOnes_14 (tgt := 21) rfl ⟨by omega, by omega⟩ (fun hc => ?_) (fun hc => ?_)
      · refine jk_iconst C rd_Cu_nibbledOnes_21 ?_
        change jk_J _ _ _ _ _ _ _ _ _ _ _ _ _ _ _ _ _ _ _ _ [jk_V (if 0 < jS_nb S t then 1 else 0)] at h
        rw [if_neg hc] at h; exact h
      · refine jk_iconst C rd_Cu_nibbledOnes_17 ?_
        refine jk_goto C rd_Cu_nibbledOnes_18 (tgt := 22) rfl ?_
        change jk_J _ _ _ _ _ _ _ _ _ _ _ _ _ _ _ _ _ _ _ _ [jk_V (if 0 < jS_nb S t then 1 else 0)] at h
        rw [if_pos hc] at h; exact h
  refine meet _ ?_
  refine jk_istore_n C rd_Cu_nibbledOnes_22 (Nat.le_of_ble_eq_true rfl) rfl ?_
  refine jk_aload_n C rd_Cu_nibbledOnes_23 (k := 1) rfl ?_
  refine jm_get C hw in_Cu (ci := 12) rfl 1 (Nat.le_of_ble_eq_true rfl) lk_Cu_10 hC.1 rfl rd_Cu_nibbledOnes_24 ?_
  refine jm_callF C (x := ⟨"java/util/List", "iterator", "()Ljava/util/Iterator;"⟩) (q := ("java/util/ArrayList", tb_AL, 3)) (ci := 14) hZ.1.1 hz hw (ct_AL_iterator l D cI cR cO cB hZ l1) (ff_AL_iterator hZ.1 hz) (fg_AL_iterator lk_Cu_16) cw_AL_iterator nf_AL_iterator ⟨by dsimp only [jk_rx]; omega, by dsimp only [jk_rx]; omega⟩ rfl l1 rfl (st := []) rfl (Nat.le_of_ble_eq_true rfl) rd_Cu_nibbledOnes_27 ⟨by dsimp only [jk_rx]; rw [jK_siz]; omega, by dsimp only [jk_rx]; rw [jK_siz]; omega⟩ (fun v w1 hp2 => ?_)
  obtain ⟨q, rfl, hqn, hW1⟩ := hp2
  refine jr_astore_n C rd_Cu_nibbledOnes_32 (Nat.le_of_ble_eq_true rfl) rfl ?_
  refine jk_lv [0, 1, 2] rfl ?_
  have key : ∀ (Q0 : State → Prop) (suf pre : List Nat) (acc : Int) (r : Value) (Mi : jm_M) (ws : va_W) (c0 c1 : Nat), jK_pd K cu = pre ++ suf → jm_lk ws = Mi → jm_le M Mi → Mi q = some (.inr (15, [jk_V (pre.length : Int), r, jk_V mc, .ref ((jK_pl K cu))])) → c0 + (suf.map (fun b => jS_siz S 3 b)).sum ≤ jK_siz S K cu → c1 + 4 * (suf.map (fun b => jS_siz S 3 b)).sum ≤ 4 * jK_siz S K cu → (∀ (Mi : jm_M) (ws : va_W) (c0 c1 : Nat), jm_lk ws = Mi → jm_le M Mi → c0 ≤ jK_siz S K cu → c1 ≤ 4 * jK_siz S K cu → jk_J p l ev (jk_rx 12 (jK_siz S K cu) (4 * jK_siz S K cu) 292) s m args below meth cod c0 c1 Q0 D jk_cl (va_A w s.heap.size) 4 ws [(2, .ref q), (1, jk_V (suf.foldl (fun s0 b => s0 + jS_nib S 3 b) acc)), (0, .ref cu)] 62 []) → jk_J p l ev (jk_rx 12 (jK_siz S K cu) (4 * jK_siz S K cu) 292) s m args below meth cod c0 c1 Q0 D jk_cl (va_A w s.heap.size) 4 ws [(2, .ref q), (1, jk_V acc), (0, .ref cu)] 33 [] := by
    intro Q0 suf
    induction suf with
    | nil =>
      intro pre acc r Mi ws c0 c1 hxs hws hle hq hc0 hc1 hex
      have hlen := congrArg List.length hxs
      rw [List.append_nil] at hlen
      have l9 := l4
      refine jk_aload_n C rd_Cu_nibbledOnes_33 (k := 0) rfl ?_
      refine jm_callF C (x := ⟨"java/util/Iterator", "hasNext", "()Z"⟩) (q := ("java/util/ArrayList$Itr", tb_It, 4)) (ci := 15) hZ.1.1 hz hws (ct_It_hasNext l D cI cR cO cB hZ hq (hle _ _ l1) ⟨by omega, by omega⟩ ⟨by omega, by omega⟩) (ff_It_hasNext hZ.1 hz) (fg_It_hasNext lk_Cu_22) cw_It_hasNext nf_It_hasNext ⟨by dsimp only [jk_rx]; omega, by dsimp only [jk_rx]; omega⟩ rfl hq rfl (st := []) rfl (Nat.le_of_ble_eq_true rfl) rd_Cu_nibbledOnes_34 ⟨by dsimp only [jk_rx]; omega, by dsimp only [jk_rx]; omega⟩ (fun v w101 hp102 => ?_)
      obtain ⟨rfl, hk1⟩ := hp102
      rw [if_pos (by omega : (pre.length : Int) = ((jK_pd K cu).length : Int))]
      refine jr_if_eq C rd_Cu_nibbledOnes_39 (tgt := 62) rfl ⟨by omega, by omega⟩ (fun _ => ?_) (fun hc => absurd rfl hc)
      rw [List.map_nil] at hc0 hc1
      change c0 + 0 ≤ _ at hc0
      change c1 + 4 * 0 ≤ _ at hc1
      exact hex Mi _ _ _ hk1 hle (by omega) (by omega)
    | cons x suf ihs =>
      intro pre acc r Mi ws c0 c1 hxs hws hle hq hc0 hc1 hex
      rw [List.map_cons, List.sum_cons] at hc0 hc1
      have hlen := congrArg List.length hxs
      rw [List.length_append, List.length_cons] at hlen
      have l7 : M e = some (jm_Q cO cap g) := by
        rcases l3 with ⟨z, -⟩ | ⟨-, z, -⟩
        · omega
        · exact z
      have hxm : x ∈ jK_pd K cu := by rw [hxs]; exact List.mem_append_right _ List.mem_cons_self
      have hPx := hK.1 x hxm
      have hx1 := (hW x hPx.1).1.1
      refine jk_aload_n C rd_Cu_nibbledOnes_33 (k := 0) rfl ?_
      refine jm_callF C (x := ⟨"java/util/Iterator", "hasNext", "()Z"⟩) (q := ("java/util/ArrayList$Itr", tb_It, 4)) (ci := 15) hZ.1.1 hz hws (ct_It_hasNext l D cI cR cO cB hZ hq (hle _ _ l1) ⟨by omega, by omega⟩ ⟨by omega, by omega⟩) (ff_It_hasNext hZ.1 hz) (fg_It_hasNext lk_Cu_22) cw_It_hasNext nf_It_hasNext ⟨by dsimp only [jk_rx]; omega, by dsimp only [jk_rx]; omega⟩ rfl hq rfl (st := []) rfl (Nat.le_of_ble_eq_true rfl) rd_Cu_nibbledOnes_34 ⟨by dsimp only [jk_rx]; omega, by dsimp only [jk_rx]; omega⟩ (fun v w101 hp102 => ?_)
      obtain ⟨rfl, hk1⟩ := hp102
      rw [if_neg (by omega : ¬ (pre.length : Int) = ((jK_pd K cu).length : Int))]
      refine jr_if_eq C rd_Cu_nibbledOnes_39 (tgt := 62) rfl ⟨by omega, by omega⟩ (fun hc => absurd hc (by omega)) (fun _ => ?_)
      refine jk_aload_n C rd_Cu_nibbledOnes_42 (k := 0) rfl ?_
      refine jm_callF C (x := ⟨"java/util/Iterator", "next", "()Ljava/lang/Object;"⟩) (q := ("java/util/ArrayList$Itr", tb_It, 4)) (ci := 15) hZ.1.1 hz hk1 (ct_It_next l D cI cR cO cB hZ hq (hle _ _ l1) (hle _ _ l7) (by omega) l4 l5 (x := x) (by rw [l6 _ (by omega), hxs, List.getElem?_append_right (Nat.le_refl _), Nat.sub_self]; rfl)) (ff_It_next hZ.1 hz) (fg_It_next lk_Cu_28) cw_It_next nf_It_next ⟨by dsimp only [jk_rx]; omega, by dsimp only [jk_rx]; omega⟩ rfl hq rfl (st := []) rfl (Nat.le_of_ble_eq_true rfl) rd_Cu_nibbledOnes_43 ⟨by dsimp only [jk_rx]; omega, by dsimp only [jk_rx]; omega⟩ (fun v w103 hp104 => ?_)
      obtain ⟨rfl, hk2⟩ := hp104
      obtain ⟨M5, hM5⟩ : ∃ M5 : jm_M, M5 = jm_up Mi q (.inr (15, [jk_V ((pre.length : Int) + 1), jk_V (pre.length : Int), jk_V mc, .ref ((jK_pl K cu))])) := ⟨_, rfl⟩
      rw [← hM5] at hk2
      have hle5 : jm_le M M5 := by rw [hM5]; exact jm_le.put hqn hle
      refine jr_castS C hk2 (hle5 _ _ hx1) (ci := 11) rfl lk_Cu_32 rd_Cu_nibbledOnes_48 ?_
      refine jr_astore_n C rd_Cu_nibbledOnes_51 (Nat.le_of_ble_eq_true rfl) rfl ?_
      refine jk_iload_n C rd_Cu_nibbledOnes_52 (k := 2) rfl ?_
      refine jk_aload_n C rd_Cu_nibbledOnes_53 (k := 0) rfl ?_
      refine jm_callV C hZ.1.1 hz hk2 (ct_Cd_nibbledOnes l D cI cR cO cB hZ 3 (hW.mono hle5) hPx.1 hPx.2) lk_Cu_46 xw_Cd_nibbledOnes sw_Cd_nibbledOnes iw_Cd cw_Cd_nibbledOnes na_Cd_nibbledOnes ⟨by dsimp only [jk_rx]; omega, by dsimp only [jk_rx]; omega⟩ rfl (hle5 _ _ hx1) rfl rfl (st := [jk_V acc]) rfl (Nat.le_of_ble_eq_true rfl) rd_Cu_nibbledOnes_54 ⟨by dsimp only [jk_rx]; omega, by dsimp only [jk_rx]; omega⟩ (fun v w105 hp106 => ?_)
      obtain ⟨rfl, hle6⟩ := hp106
      refine jk_iadd C rd_Cu_nibbledOnes_57 ?_
      refine jk_istore_n C rd_Cu_nibbledOnes_58 (Nat.le_of_ble_eq_true rfl) rfl ?_
      refine jk_goto C rd_Cu_nibbledOnes_59 (tgt := 33) rfl ?_
      refine jk_lv [2, 0, 3] rfl ?_
      exact ihs (pre ++ [x]) _ _ _ _ _ _ (by rw [hxs, List.append_assoc]; rfl) rfl (hle5.trans hle6) (by rw [List.length_append]; exact hle6 _ _ (jm_this hM5)) (by omega) (by omega) hex
  refine key _ (jK_pd K cu) [] _ _ _ _ _ _ rfl rfl (by rw [hW1]; exact jm_le.new hqn) (by rw [hW1]; exact jm_up_s) (by rw [jK_siz]; omega) (by rw [jK_siz]; omega) (fun Mi ws c0 c1 hws hle hc0 hc1 => ?_)
  refine jk_iload_n C rd_Cu_nibbledOnes_62 (k := 1) rfl ?_
  exact jm_ret_i C hws ⟨rfl, hle⟩ hc0 hc1 rd_Cu_nibbledOnes_63
set_option maxHeartbeats 1000000 in
theorem ct_Cu_state (hZ : jl_ZK Z sq iad z0 zi mi) {M : jm_M} {ow : Nat → Nat} {S : jl_S} {K : jl_K} {P : Nat → Prop} {cu : Nat} (hW : jl_W cI cO z0 ow M S P) (hC : jl_Cu cO z0 ow M K cu) (hK : jl_KP S K P cu) (hrN : jk_R (jK_nib S K cu)) (hrS : jk_R (jK_sum S K cu)) (hrK : ∀ t, jK_tp K cu = some t → jk_R (jS_kv S t)) : jm_Met l D jk_cl (jl_ty cI cR cO cB) Z mn_Cu_state (.code mn_Cu_state mb_Cu_state 1 (some .int) :: jk_WA) (jk_rx 13 (2 * jK_siz S K cu) (8 * jK_siz S K cu) 315) [.ref cu] M (fun v M' => v = some (jk_V (jK_sta S K cu)) ∧ jm_le M M') (2 * jK_siz S K cu) (8 * jK_siz S K cu) := by
  unfold jK_sta
  have h1 := hC.1
  refine jm_body (by decide +kernel) (fun p ev s m args below meth cod w hw hz hin C => ?_) (Nat.le_of_ble_eq_true rfl)
  cases ht : jK_tp K cu with
  | none =>
    rw [ht] at h1
    refine jk_aload_n C rd_Cu_state_0 (k := 0) rfl ?_
    refine jm_get C hw in_Cu (ci := 12) rfl 0 (Nat.le_of_ble_eq_true rfl) lk_Cu_38 h1 rfl rd_Cu_state_1 ?_
    refine jr_ifnonnullN C rd_Cu_state_4 ?_
    refine jk_iconst C rd_Cu_state_7 ?_
    exact jm_ret_i C hw ⟨rfl, jm_le.rf⟩ (by omega) (by omega) rd_Cu_state_8
  | some t =>
    rw [ht] at h1
    replace hrK := hrK t ht
    show jk_J _ _ _ _ _ _ _ _ _ _ _ _ (MQ _ (jm_Post _ _ _ _ (fun v M' => v = some (jk_V (if 0 < jK_nib S K cu then 1 else if jS_kv S t = jK_sum S K cu then 2 else 3)) ∧ jm_le M M')) _ _ _ _ _) _ _ _ _ _ _ _ _
    have hcd := (hW t (hK.2 t ht).1).1
    have hnb := (hW t (hK.2 t ht).1).2.1
    refine jk_aload_n C rd_Cu_state_0 (k := 0) rfl ?_
    refine jm_get C hw in_Cu (ci := 12) rfl 0 (Nat.le_of_ble_eq_true rfl) lk_Cu_38 h1 rfl rd_Cu_state_1 ?_
    refine jr_ifnonnull C rd_Cu_state_4 (tgt := 9) rfl ?_
    refine jk_aload_n C rd_Cu_state_9 (k := 0) rfl ?_
    refine jm_callV C hZ.1.1 hz hw (ct_Cu_nibbledOnes l D cI cR cO cB hZ hW hC hK) lk_Cu_49 xw_Cu_nibbledOnes sw_Cu_nibbledOnes iw_Cu cw_Cu_nibbledOnes na_Cu_nibbledOnes ⟨by dsimp only [jk_rx]; omega, by dsimp only [jk_rx]; omega⟩ rfl h1 rfl rfl (st := []) rfl (Nat.le_of_ble_eq_true rfl) rd_Cu_state_10 ⟨by dsimp only [jk_rx]; omega, by dsimp only [jk_rx]; omega⟩ (fun v w1 hp2 => ?_)
    obtain ⟨rfl, hle1⟩ := hp2
    refine jr_if_le C rd_Cu_state_13 (tgt := 18) rfl hrN (fun hc => ?_) (fun hc => ?_)
    · rw [if_neg hc]
      refine jk_aload_n C rd_Cu_state_18 (k := 0) rfl ?_
      refine jm_get C (rfl : jm_lk w1 = _) in_Cu (ci := 12) rfl 0 (Nat.le_of_ble_eq_true rfl) lk_Cu_38 (hle1 _ _ h1) rfl rd_Cu_state_19 ?_
      refine jm_callV C hZ.1.1 hz (rfl : jm_lk w1 = _) (ct_Cd_known l D cI cR cO cB hZ (hle1 _ _ hcd.1) (hle1 _ _ hcd.2.2.1) hnb) lk_Cu_50 xw_Cd_known sw_Cd_known iw_Cd cw_Cd_known na_Cd_known ⟨by dsimp only [jk_rx]; omega, by dsimp only [jk_rx]; omega⟩ rfl (hle1 _ _ hcd.1) rfl rfl (st := []) rfl (Nat.le_of_ble_eq_true rfl) rd_Cu_state_22 ⟨by dsimp only [jk_rx]; omega, by dsimp only [jk_rx]; omega⟩ (fun v w3 hp4 => ?_)
      obtain ⟨rfl, hk2⟩ := hp4
      refine jk_aload_n C rd_Cu_state_25 (k := 0) rfl ?_
      refine jm_callV C hZ.1.1 hz hk2 (ct_Cu_sum l D cI cR cO cB hZ (hW.mono hle1) (hC.mono hle1) hK) lk_Cu_53 xw_Cu_sum sw_Cu_sum iw_Cu cw_Cu_sum na_Cu_sum ⟨by dsimp only [jk_rx]; omega, by dsimp only [jk_rx]; omega⟩ rfl (hle1 _ _ h1) rfl rfl (st := [jk_V ((jS_kv S t))]) rfl (Nat.le_of_ble_eq_true rfl) rd_Cu_state_26 ⟨by dsimp only [jk_rx]; omega, by dsimp only [jk_rx]; omega⟩ (fun v w5 hp6 => ?_)
      obtain ⟨rfl, hle3⟩ := hp6
      refine jr_icmp_ne C rd_Cu_state_29 (tgt := 36) rfl hrK hrS (fun hd => ?_) (fun hd => ?_)
      · refine jk_iconst C rd_Cu_state_36 ?_
        exact jm_ret_i C (rfl : jm_lk w5 = _) ⟨by rw [if_neg hd], hle1.trans hle3⟩ (by omega) (by omega) rd_Cu_state_37
      · refine jk_iconst C rd_Cu_state_32 ?_
        refine jk_goto C rd_Cu_state_33 (tgt := 37) rfl ?_
        exact jm_ret_i C (rfl : jm_lk w5 = _) ⟨by rw [if_pos hd], hle1.trans hle3⟩ (by omega) (by omega) rd_Cu_state_37
    · refine jk_iconst C rd_Cu_state_16 ?_
      exact jm_ret_i C (rfl : jm_lk w1 = _) ⟨by rw [if_pos hc], hle1⟩ (by omega) (by omega) rd_Cu_state_17
set_option maxHeartbeats 1000000 in
theorem ct_Cu_init (hZ : jl_ZK Z sq iad z0 zi mi) {M : jm_M} {a : Nat} (h1 : M a = some (.inr (12, [.null, .null]))) : jm_Met l D jk_cl (jl_ty cI cR cO cB) Z mn_Cu_init (.code mn_Cu_init mb_Cu_init 1 none :: jk_WA) (jk_rx 4 1 3 73) [.ref a] M (fun v M' => v = none ∧ ∃ b, M b = none ∧ M' a = some (.inr (12, [.null, .ref b])) ∧ M' b = some (.inr (14, [jk_V 0, .ref z0, jk_V 0])) ∧ ∀ x e, M x = some e → x ≠ a → M' x = some e) 1 3 := by
  refine jm_body (by decide +kernel) (fun p ev s m args below meth cod w hw hz hin C => ?_) (Nat.le_of_ble_eq_true rfl)
  refine jk_aload_n C rd_Cu_init_0 (k := 0) rfl ?_
  refine jk_objInit C lk_Cu_1 xw_obj cw_obj rd_Cu_init_1 (Nat.le_of_ble_eq_true rfl) (Nat.le_of_ble_eq_true rfl) ?_
  refine jk_aload_n C rd_Cu_init_4 (k := 0) rfl ?_
  refine jm_new C hw in_AL (ty0 := tf_AL) ty_AL lk_Cu_7 nw_AL iw_AL (ci := 14) rfl (fs := [jk_V 0, .null, jk_V 0]) (by intro j hj; rcases j with _ | _ | _ | j <;> first | rfl | omega) ⟨Nat.le_of_ble_eq_true rfl, Nat.le_of_ble_eq_true rfl⟩ rd_Cu_init_5 (fun b w12 hb hw12 => ?_)
  obtain ⟨M1, hM1⟩ : ∃ Mx : jm_M, Mx = jm_up M b (.inr (14, [jk_V 0, .null, jk_V 0])) := ⟨_, rfl⟩
  replace hw12 : jm_lk w12 = M1 := by rw [hM1]; exact hw12
  have hne1_a := jm_nen h1 hb
  have hc1_a := jm_keep hM1 h1 hne1_a
  have hc1_b := jm_this hM1
  refine jk_dup C rd_Cu_init_8 rfl ?_
  refine jm_callI C hZ.1.1 hz hw12 (ct_AL_init l D cI cR cO cB hZ hc1_b) lk_Cu_9 xw_AL_init iw_AL cw_AL_init rfl na_AL_init ⟨Nat.le_of_ble_eq_true rfl, Nat.le_of_ble_eq_true rfl⟩ rfl (st := [.ref b, .ref a]) rfl (Nat.le_of_ble_eq_true rfl) rd_Cu_init_9 ⟨Nat.le_of_ble_eq_true rfl, Nat.le_of_ble_eq_true rfl⟩ (fun v w2 hp3 => ?_)
  obtain ⟨rfl, hW⟩ := hp3
  obtain ⟨M20, hM20⟩ : ∃ M20 : jm_M, M20 = jm_up M1 b (.inr (14, [jk_V 0, .ref z0, jk_V 0])) := ⟨_, rfl⟩
  rw [← hM20] at hW
  have ha20 := jm_keep hM20 hc1_a hne1_a
  have hb20 := jm_this hM20
  refine jm_putF C hW in_Cu (ty0 := tf_Cu) ty_Cu nm_Cu (ci := 12) rfl 1 (Nat.le_of_ble_eq_true rfl) lk_Cu_10 rfl (hin rfl) rfl rfl rfl ha20 (Nat.le_of_ble_eq_true rfl) rd_Cu_init_12 (fun w4 hw4 => ?_)
  obtain ⟨M5, hM5⟩ : ∃ Mx : jm_M, Mx = jm_up M20 a (.inr (12, [.null, .ref b])) := ⟨_, rfl⟩
  replace hw4 : jm_lk w4 = M5 := by rw [hM5]; exact hw4
  have hc5_b := jm_keep hM5 hb20 hne1_a.symm
  have hc5_a := jm_this hM5
  exact jm_ret_v C hw4 ⟨rfl, b, hb, hc5_a, hc5_b, fun x e hx hxa => jm_keep hM5 (jm_keep hM20 (jm_keep hM1 hx (jm_nen hx hb)) (jm_nen hx hb)) hxa⟩ (by omega) (by omega) rd_Cu_init_15
end CU1
