/-! cords and all below them: totals, numbers -/
def jS_siz (S : jl_S) : Nat → Nat → Nat
  | 0, _ => 0
  | d + 1, a => 1 + ((jS_ch S a).map (fun b => jS_siz S d b)).sum
def jS_tot (S : jl_S) : Nat → Nat → Int
  | 0, _ => 0
  | d + 1, a => (jS_ch S a).foldl (fun s b => s + jS_tot S d b) (jS_kv S a)
def jS_many (S : jl_S) : Nat → Nat → Int
  | 0, _ => 0
  | d + 1, a => (jS_ch S a).foldl (fun s b => s + jS_many S d b) 1
def jS_nib (S : jl_S) : Nat → Nat → Int
  | 0, _ => 0
  | d + 1, a => (jS_ch S a).foldl (fun s b => s + jS_nib S d b) (if 0 < jS_nb S a then 1 else 0)
def jS_hgt (S : jl_S) : Nat → Nat → Prop
  | 0, _ => False
  | d + 1, a => ∀ b ∈ jS_ch S a, jS_hgt S d b
/-- the cords of P, whole in the world, closed under what hangs below -/
def jl_W (cI cO : ClassId) (z0 : Nat) (ow : Nat → Nat) (M : jm_M) (S : jl_S) (P : Nat → Prop) : Prop := ∀ x, P x → jl_Cd cI cO z0 ow M S x ∧ (0 ≤ jS_nb S x ∧ jS_nb S x ≤ 4) ∧ ∀ b ∈ jS_ch S x, P b
theorem jl_W.mono {cI cO : ClassId} {z0 : Nat} {ow : Nat → Nat} {M M' : jm_M} {S : jl_S} {P : Nat → Prop} (h : jl_W cI cO z0 ow M S P) (hl : jm_le M M') : jl_W cI cO z0 ow M' S P := fun x hx => ⟨(h x hx).1.mono hl, (h x hx).2⟩
section CD2
variable (l : Launch) (D : va_G) {Z : (Nat → Prop) → State → Heap → Prop} {sq iad : Nat → Nat} {z0 zi mi : Nat} (cI cR cO cB : ClassId)
set_option maxHeartbeats 1000000 in
theorem ct_Cd_total (hZ : jl_ZK Z sq iad z0 zi mi) {ow : Nat → Nat} {S : jl_S} {P : Nat → Prop} : ∀ (d : Nat) {M : jm_M} {a : Nat}, jl_W cI cO z0 ow M S P → P a → jS_hgt S d a → jm_Met l D jk_cl (jl_ty cI cR cO cB) Z mn_Cd_total (.code mn_Cd_total mb_Cd_total 4 (some .int) :: jk_WA) (jk_rx (8 + d) (jS_siz S d a) (4 * jS_siz S d a) (200 + d * 23)) [.ref a] M (fun v M' => v = some (jk_V (jS_tot S d a)) ∧ jm_le M M') (jS_siz S d a) (4 * jS_siz S d a) := by
  intro d
  induction d with
  | zero => intro M a _ _ h; exact absurd h id
  | succ d ih =>
    intro M a hW ha hh
    obtain ⟨hcd, hnb, hch⟩ := hW a ha
    obtain ⟨mc, e, cap, g, l1, l2, l3, l4, l5, l6⟩ := hcd.2.2.2.2
    refine jm_body (by decide +kernel) (fun p ev s m args below meth cod w hw hz hin C => ?_) (Nat.le_of_ble_eq_true rfl)
    refine jk_aload_n C rd_Cd_total_0 (k := 0) rfl ?_
    refine jm_callV C hZ.1.1 hz hw (ct_Cd_known l D cI cR cO cB hZ hcd.1 hcd.2.2.1 hnb) lk_Cd_31 xw_Cd_known sw_Cd_known iw_Cd cw_Cd_known na_Cd_known ⟨by dsimp only [jk_rx]; omega, by dsimp only [jk_rx]; omega⟩ rfl hcd.1 rfl rfl (st := []) rfl (Nat.le_of_ble_eq_true rfl) rd_Cd_total_1 ⟨by dsimp only [jk_rx]; omega, by dsimp only [jk_rx]; omega⟩ (fun v w1 hp2 => ?_)
    obtain ⟨rfl, hW0⟩ := hp2
    refine jk_istore_n C rd_Cd_total_4 (Nat.le_of_ble_eq_true rfl) rfl ?_
    refine jk_aload_n C rd_Cd_total_5 (k := 1) rfl ?_
    refine jm_get C hW0 in_Cd (ci := 11) rfl 3 (Nat.le_of_ble_eq_true rfl) lk_Cd_16 hcd.1 rfl rd_Cd_total_6 ?_
    refine jm_callF C (x := ⟨"java/util/List", "iterator", "()Ljava/util/Iterator;"⟩) (q := ("java/util/ArrayList", tb_AL, 3)) (ci := 14) hZ.1.1 hz hW0 (ct_AL_iterator l D cI cR cO cB hZ l1) (ff_AL_iterator hZ.1 hz) (fg_AL_iterator lk_Cd_35) cw_AL_iterator nf_AL_iterator ⟨by dsimp only [jk_rx]; omega, by dsimp only [jk_rx]; omega⟩ rfl l1 rfl (st := []) rfl (Nat.le_of_ble_eq_true rfl) rd_Cd_total_9 ⟨by dsimp only [jk_rx]; rw [jS_siz]; omega, by dsimp only [jk_rx]; rw [jS_siz]; omega⟩ (fun v w3 hp4 => ?_)
    obtain ⟨q, rfl, hqn, hW1⟩ := hp4
    refine jr_astore_n C rd_Cd_total_14 (Nat.le_of_ble_eq_true rfl) rfl ?_
    refine jk_lv [0, 1, 2] rfl ?_
    have key : ∀ (Q0 : State → Prop) (suf pre : List Nat) (acc : Int) (r : Value) (Mi : jm_M) (ws : va_W) (c0 c1 : Nat), jS_ch S a = pre ++ suf → jm_lk ws = Mi → jm_le M Mi → Mi q = some (.inr (15, [jk_V (pre.length : Int), r, jk_V mc, .ref ((jS_bl S a))])) → c0 + (suf.map (fun b => jS_siz S d b)).sum ≤ jS_siz S (d + 1) a → c1 + 4 * (suf.map (fun b => jS_siz S d b)).sum ≤ 4 * jS_siz S (d + 1) a → (∀ (Mi : jm_M) (ws : va_W) (c0 c1 : Nat), jm_lk ws = Mi → jm_le M Mi → c0 ≤ jS_siz S (d + 1) a → c1 ≤ 4 * jS_siz S (d + 1) a → jk_J p l ev (jk_rx (8 + (d + 1)) (jS_siz S (d + 1) a) (4 * jS_siz S (d + 1) a) (200 + (d + 1) * 23)) s m args below meth cod c0 c1 Q0 D jk_cl (va_A w s.heap.size) 4 ws [(2, .ref q), (1, jk_V (suf.foldl (fun s0 b => s0 + jS_tot S d b) acc)), (0, .ref a)] 44 []) → jk_J p l ev (jk_rx (8 + (d + 1)) (jS_siz S (d + 1) a) (4 * jS_siz S (d + 1) a) (200 + (d + 1) * 23)) s m args below meth cod c0 c1 Q0 D jk_cl (va_A w s.heap.size) 4 ws [(2, .ref q), (1, jk_V acc), (0, .ref a)] 15 [] := by
      intro Q0 suf
      induction suf with
      | nil =>
        intro pre acc r Mi ws c0 c1 hxs hws hle hq hc0 hc1 hex
        have hlen := congrArg List.length hxs
        rw [List.append_nil] at hlen
        have l9 := l4
        refine jk_aload_n C rd_Cd_total_15 (k := 0) rfl ?_
        refine jm_callF C (x := ⟨"java/util/Iterator", "hasNext", "()Z"⟩) (q := ("java/util/ArrayList$Itr", tb_It, 4)) (ci := 15) hZ.1.1 hz hws (ct_It_hasNext l D cI cR cO cB hZ hq (hle _ _ l1) ⟨by omega, by omega⟩ ⟨by omega, by omega⟩) (ff_It_hasNext hZ.1 hz) (fg_It_hasNext lk_Cd_41) cw_It_hasNext nf_It_hasNext ⟨by dsimp only [jk_rx]; omega, by dsimp only [jk_rx]; omega⟩ rfl hq rfl (st := []) rfl (Nat.le_of_ble_eq_true rfl) rd_Cd_total_16 ⟨by dsimp only [jk_rx]; omega, by dsimp only [jk_rx]; omega⟩ (fun v w101 hp102 => ?_)
        obtain ⟨rfl, hk1⟩ := hp102
        rw [if_pos (by omega : (pre.length : Int) = ((jS_ch S a).length : Int))]
        refine jr_if_eq C rd_Cd_total_21 (tgt := 44) rfl ⟨by omega, by omega⟩ (fun _ => ?_) (fun hc => absurd rfl hc)
        rw [List.map_nil] at hc0 hc1
        change c0 + 0 ≤ _ at hc0
        change c1 + 4 * 0 ≤ _ at hc1
        exact hex Mi _ _ _ hk1 hle (by omega) (by omega)
      | cons x suf ihs =>
        intro pre acc r Mi ws c0 c1 hxs hws hle hq hc0 hc1 hex
        rw [List.map_cons, List.sum_cons] at hc0 hc1
        have hlen := congrArg List.length hxs
        rw [List.length_append, List.length_cons] at hlen
        have l7 : M e = some (jm_Q cO cap g) := by
          rcases l3 with ⟨z, -⟩ | ⟨-, z, -⟩
          · omega
          · exact z
        have hxm : x ∈ jS_ch S a := by rw [hxs]; exact List.mem_append_right _ List.mem_cons_self
        have hPx := hch x hxm
        have hx1 := (hW x hPx).1.1
        refine jk_aload_n C rd_Cd_total_15 (k := 0) rfl ?_
        refine jm_callF C (x := ⟨"java/util/Iterator", "hasNext", "()Z"⟩) (q := ("java/util/ArrayList$Itr", tb_It, 4)) (ci := 15) hZ.1.1 hz hws (ct_It_hasNext l D cI cR cO cB hZ hq (hle _ _ l1) ⟨by omega, by omega⟩ ⟨by omega, by omega⟩) (ff_It_hasNext hZ.1 hz) (fg_It_hasNext lk_Cd_41) cw_It_hasNext nf_It_hasNext ⟨by dsimp only [jk_rx]; omega, by dsimp only [jk_rx]; omega⟩ rfl hq rfl (st := []) rfl (Nat.le_of_ble_eq_true rfl) rd_Cd_total_16 ⟨by dsimp only [jk_rx]; omega, by dsimp only [jk_rx]; omega⟩ (fun v w101 hp102 => ?_)
        obtain ⟨rfl, hk1⟩ := hp102
        rw [if_neg (by omega : ¬ (pre.length : Int) = ((jS_ch S a).length : Int))]
        refine jr_if_eq C rd_Cd_total_21 (tgt := 44) rfl ⟨by omega, by omega⟩ (fun hc => absurd hc (by omega)) (fun _ => ?_)
        refine jk_aload_n C rd_Cd_total_24 (k := 0) rfl ?_
        refine jm_callF C (x := ⟨"java/util/Iterator", "next", "()Ljava/lang/Object;"⟩) (q := ("java/util/ArrayList$Itr", tb_It, 4)) (ci := 15) hZ.1.1 hz hk1 (ct_It_next l D cI cR cO cB hZ hq (hle _ _ l1) (hle _ _ l7) (by omega) l4 l5 (x := x) (by rw [l6 _ (by omega), hxs, List.getElem?_append_right (Nat.le_refl _), Nat.sub_self]; rfl)) (ff_It_next hZ.1 hz) (fg_It_next lk_Cd_47) cw_It_next nf_It_next ⟨by dsimp only [jk_rx]; omega, by dsimp only [jk_rx]; omega⟩ rfl hq rfl (st := []) rfl (Nat.le_of_ble_eq_true rfl) rd_Cd_total_25 ⟨by dsimp only [jk_rx]; omega, by dsimp only [jk_rx]; omega⟩ (fun v w103 hp104 => ?_)
        obtain ⟨rfl, hk2⟩ := hp104
        obtain ⟨M5, hM5⟩ : ∃ M5 : jm_M, M5 = jm_up Mi q (.inr (15, [jk_V ((pre.length : Int) + 1), jk_V (pre.length : Int), jk_V mc, .ref ((jS_bl S a))])) := ⟨_, rfl⟩
        rw [← hM5] at hk2
        have hle5 : jm_le M M5 := by rw [hM5]; exact jm_le.put hqn hle
        refine jr_castS C hk2 (hle5 _ _ hx1) (ci := 11) rfl lk_Cd_8 rd_Cd_total_30 ?_
        refine jr_astore_n C rd_Cd_total_33 (Nat.le_of_ble_eq_true rfl) rfl ?_
        refine jk_iload_n C rd_Cd_total_34 (k := 2) rfl ?_
        refine jk_aload_n C rd_Cd_total_35 (k := 0) rfl ?_
        refine jm_callV C hZ.1.1 hz hk2 (ih (hW.mono hle5) hPx (hh x hxm)) lk_Cd_51 xw_Cd_total sw_Cd_total iw_Cd cw_Cd_total na_Cd_total ⟨by dsimp only [jk_rx]; omega, by dsimp only [jk_rx]; omega⟩ rfl (hle5 _ _ hx1) rfl rfl (st := [jk_V acc]) rfl (Nat.le_of_ble_eq_true rfl) rd_Cd_total_36 ⟨by dsimp only [jk_rx]; omega, by dsimp only [jk_rx]; omega⟩ (fun v w105 hp106 => ?_)
        obtain ⟨rfl, hle6⟩ := hp106
        refine jk_iadd C rd_Cd_total_39 ?_
        refine jk_istore_n C rd_Cd_total_40 (Nat.le_of_ble_eq_true rfl) rfl ?_
        refine jk_goto C rd_Cd_total_41 (tgt := 15) rfl ?_
        refine jk_lv [2, 0, 3] rfl ?_
        exact ihs (pre ++ [x]) _ _ _ _ _ _ (by rw [hxs, List.append_assoc]; rfl) rfl (hle5.trans hle6) (by rw [List.length_append]; exact hle6 _ _ (jm_this hM5)) (by omega) (by omega) hex
    refine key _ (jS_ch S a) [] _ _ _ _ _ _ rfl rfl (by rw [hW1]; exact jm_le.new hqn) (by rw [hW1]; exact jm_up_s) (by rw [jS_siz]; omega) (by rw [jS_siz]; omega) (fun Mi ws c0 c1 hws hle hc0 hc1 => ?_)
    refine jk_iload_n C rd_Cd_total_44 (k := 1) rfl ?_
    exact jm_ret_i C hws ⟨rfl, hle⟩ hc0 hc1 rd_Cd_total_45
set_option maxHeartbeats 1000000 in
theorem ct_Cd_many (hZ : jl_ZK Z sq iad z0 zi mi) {ow : Nat → Nat} {S : jl_S} {P : Nat → Prop} : ∀ (d : Nat) {M : jm_M} {a : Nat}, jl_W cI cO z0 ow M S P → P a → jS_hgt S d a → jm_Met l D jk_cl (jl_ty cI cR cO cB) Z mn_Cd_many (.code mn_Cd_many mb_Cd_many 4 (some .int) :: jk_WA) (jk_rx (8 + d) (jS_siz S d a) (4 * jS_siz S d a) (200 + d * 23)) [.ref a] M (fun v M' => v = some (jk_V (jS_many S d a)) ∧ jm_le M M') (jS_siz S d a) (4 * jS_siz S d a) := by
  intro d
  induction d with
  | zero => intro M a _ _ h; exact absurd h id
  | succ d ih =>
    intro M a hW ha hh
    obtain ⟨hcd, hnb, hch⟩ := hW a ha
    obtain ⟨mc, e, cap, g, l1, l2, l3, l4, l5, l6⟩ := hcd.2.2.2.2
    refine jm_body (by decide +kernel) (fun p ev s m args below meth cod w hw hz hin C => ?_) (Nat.le_of_ble_eq_true rfl)
    refine jk_iconst C rd_Cd_many_0 ?_
    refine jk_istore_n C rd_Cd_many_1 (Nat.le_of_ble_eq_true rfl) rfl ?_
    refine jk_aload_n C rd_Cd_many_2 (k := 1) rfl ?_
    refine jm_get C hw in_Cd (ci := 11) rfl 3 (Nat.le_of_ble_eq_true rfl) lk_Cd_16 hcd.1 rfl rd_Cd_many_3 ?_
    refine jm_callF C (x := ⟨"java/util/List", "iterator", "()Ljava/util/Iterator;"⟩) (q := ("java/util/ArrayList", tb_AL, 3)) (ci := 14) hZ.1.1 hz hw (ct_AL_iterator l D cI cR cO cB hZ l1) (ff_AL_iterator hZ.1 hz) (fg_AL_iterator lk_Cd_35) cw_AL_iterator nf_AL_iterator ⟨by dsimp only [jk_rx]; omega, by dsimp only [jk_rx]; omega⟩ rfl l1 rfl (st := []) rfl (Nat.le_of_ble_eq_true rfl) rd_Cd_many_6 ⟨by dsimp only [jk_rx]; rw [jS_siz]; omega, by dsimp only [jk_rx]; rw [jS_siz]; omega⟩ (fun v w1 hp2 => ?_)
    obtain ⟨q, rfl, hqn, hW1⟩ := hp2
    refine jr_astore_n C rd_Cd_many_11 (Nat.le_of_ble_eq_true rfl) rfl ?_
    refine jk_lv [0, 1, 2] rfl ?_
    have key : ∀ (Q0 : State → Prop) (suf pre : List Nat) (acc : Int) (r : Value) (Mi : jm_M) (ws : va_W) (c0 c1 : Nat), jS_ch S a = pre ++ suf → jm_lk ws = Mi → jm_le M Mi → Mi q = some (.inr (15, [jk_V (pre.length : Int), r, jk_V mc, .ref ((jS_bl S a))])) → c0 + (suf.map (fun b => jS_siz S d b)).sum ≤ jS_siz S (d + 1) a → c1 + 4 * (suf.map (fun b => jS_siz S d b)).sum ≤ 4 * jS_siz S (d + 1) a → (∀ (Mi : jm_M) (ws : va_W) (c0 c1 : Nat), jm_lk ws = Mi → jm_le M Mi → c0 ≤ jS_siz S (d + 1) a → c1 ≤ 4 * jS_siz S (d + 1) a → jk_J p l ev (jk_rx (8 + (d + 1)) (jS_siz S (d + 1) a) (4 * jS_siz S (d + 1) a) (200 + (d + 1) * 23)) s m args below meth cod c0 c1 Q0 D jk_cl (va_A w s.heap.size) 4 ws [(2, .ref q), (1, jk_V (suf.foldl (fun s0 b => s0 + jS_many S d b) acc)), (0, .ref a)] 41 []) → jk_J p l ev (jk_rx (8 + (d + 1)) (jS_siz S (d + 1) a) (4 * jS_siz S (d + 1) a) (200 + (d + 1) * 23)) s m args below meth cod c0 c1 Q0 D jk_cl (va_A w s.heap.size) 4 ws [(2, .ref q), (1, jk_V acc), (0, .ref a)] 12 [] := by
      intro Q0 suf
      induction suf with
      | nil =>
        intro pre acc r Mi ws c0 c1 hxs hws hle hq hc0 hc1 hex
        have hlen := congrArg List.length hxs
        rw [List.append_nil] at hlen
        have l9 := l4
        refine jk_aload_n C rd_Cd_many_12 (k := 0) rfl ?_
        refine jm_callF C (x := ⟨"java/util/Iterator", "hasNext", "()Z"⟩) (q := ("java/util/ArrayList$Itr", tb_It, 4)) (ci := 15) hZ.1.1 hz hws (ct_It_hasNext l D cI cR cO cB hZ hq (hle _ _ l1) ⟨by omega, by omega⟩ ⟨by omega, by omega⟩) (ff_It_hasNext hZ.1 hz) (fg_It_hasNext lk_Cd_41) cw_It_hasNext nf_It_hasNext ⟨by dsimp only [jk_rx]; omega, by dsimp only [jk_rx]; omega⟩ rfl hq rfl (st := []) rfl (Nat.le_of_ble_eq_true rfl) rd_Cd_many_13 ⟨by dsimp only [jk_rx]; omega, by dsimp only [jk_rx]; omega⟩ (fun v w101 hp102 => ?_)
        obtain ⟨rfl, hk1⟩ := hp102
        rw [if_pos (by omega : (pre.length : Int) = ((jS_ch S a).length : Int))]
        refine jr_if_eq C rd_Cd_many_18 (tgt := 41) rfl ⟨by omega, by omega⟩ (fun _ => ?_) (fun hc => absurd rfl hc)
        rw [List.map_nil] at hc0 hc1
        change c0 + 0 ≤ _ at hc0
        change c1 + 4 * 0 ≤ _ at hc1
        exact hex Mi _ _ _ hk1 hle (by omega) (by omega)
      | cons x suf ihs =>
        intro pre acc r Mi ws c0 c1 hxs hws hle hq hc0 hc1 hex
        rw [List.map_cons, List.sum_cons] at hc0 hc1
        have hlen := congrArg List.length hxs
        rw [List.length_append, List.length_cons] at hlen
        have l7 : M e = some (jm_Q cO cap g) := by
          rcases l3 with ⟨z, -⟩ | ⟨-, z, -⟩
          · omega
          · exact z
        have hxm : x ∈ jS_ch S a := by rw [hxs]; exact List.mem_append_right _ List.mem_cons_self
        have hPx := hch x hxm
        have hx1 := (hW x hPx).1.1
        refine jk_aload_n C rd_Cd_many_12 (k := 0) rfl ?_
        refine jm_callF C (x := ⟨"java/util/Iterator", "hasNext", "()Z"⟩) (q := ("java/util/ArrayList$Itr", tb_It, 4)) (ci := 15) hZ.1.1 hz hws (ct_It_hasNext l D cI cR cO cB hZ hq (hle _ _ l1) ⟨by omega, by omega⟩ ⟨by omega, by omega⟩) (ff_It_hasNext hZ.1 hz) (fg_It_hasNext lk_Cd_41) cw_It_hasNext nf_It_hasNext ⟨by dsimp only [jk_rx]; omega, by dsimp only [jk_rx]; omega⟩ rfl hq rfl (st := []) rfl (Nat.le_of_ble_eq_true rfl) rd_Cd_many_13 ⟨by dsimp only [jk_rx]; omega, by dsimp only [jk_rx]; omega⟩ (fun v w101 hp102 => ?_)
        obtain ⟨rfl, hk1⟩ := hp102
        rw [if_neg (by omega : ¬ (pre.length : Int) = ((jS_ch S a).length : Int))]
        refine jr_if_eq C rd_Cd_many_18 (tgt := 41) rfl ⟨by omega, by omega⟩ (fun hc => absurd hc (by omega)) (fun _ => ?_)
        refine jk_aload_n C rd_Cd_many_21 (k := 0) rfl ?_
        refine jm_callF C (x := ⟨"java/util/Iterator", "next", "()Ljava/lang/Object;"⟩) (q := ("java/util/ArrayList$Itr", tb_It, 4)) (ci := 15) hZ.1.1 hz hk1 (ct_It_next l D cI cR cO cB hZ hq (hle _ _ l1) (hle _ _ l7) (by omega) l4 l5 (x := x) (by rw [l6 _ (by omega), hxs, List.getElem?_append_right (Nat.le_refl _), Nat.sub_self]; rfl)) (ff_It_next hZ.1 hz) (fg_It_next lk_Cd_47) cw_It_next nf_It_next ⟨by dsimp only [jk_rx]; omega, by dsimp only [jk_rx]; omega⟩ rfl hq rfl (st := []) rfl (Nat.le_of_ble_eq_true rfl) rd_Cd_many_22 ⟨by dsimp only [jk_rx]; omega, by dsimp only [jk_rx]; omega⟩ (fun v w103 hp104 => ?_)
        obtain ⟨rfl, hk2⟩ := hp104
        obtain ⟨M5, hM5⟩ : ∃ M5 : jm_M, M5 = jm_up Mi q (.inr (15, [jk_V ((pre.length : Int) + 1), jk_V (pre.length : Int), jk_V mc, .ref ((jS_bl S a))])) := ⟨_, rfl⟩
        rw [← hM5] at hk2
        have hle5 : jm_le M M5 := by rw [hM5]; exact jm_le.put hqn hle
        refine jr_castS C hk2 (hle5 _ _ hx1) (ci := 11) rfl lk_Cd_8 rd_Cd_many_27 ?_
        refine jr_astore_n C rd_Cd_many_30 (Nat.le_of_ble_eq_true rfl) rfl ?_
        refine jk_iload_n C rd_Cd_many_31 (k := 2) rfl ?_
        refine jk_aload_n C rd_Cd_many_32 (k := 0) rfl ?_
        refine jm_callV C hZ.1.1 hz hk2 (ih (hW.mono hle5) hPx (hh x hxm)) lk_Cd_54 xw_Cd_many sw_Cd_many iw_Cd cw_Cd_many na_Cd_many ⟨by dsimp only [jk_rx]; omega, by dsimp only [jk_rx]; omega⟩ rfl (hle5 _ _ hx1) rfl rfl (st := [jk_V acc]) rfl (Nat.le_of_ble_eq_true rfl) rd_Cd_many_33 ⟨by dsimp only [jk_rx]; omega, by dsimp only [jk_rx]; omega⟩ (fun v w105 hp106 => ?_)
        obtain ⟨rfl, hle6⟩ := hp106
        refine jk_iadd C rd_Cd_many_36 ?_
        refine jk_istore_n C rd_Cd_many_37 (Nat.le_of_ble_eq_true rfl) rfl ?_
        refine jk_goto C rd_Cd_many_38 (tgt := 12) rfl ?_
        refine jk_lv [2, 0, 3] rfl ?_
        exact ihs (pre ++ [x]) _ _ _ _ _ _ (by rw [hxs, List.append_assoc]; rfl) rfl (hle5.trans hle6) (by rw [List.length_append]; exact hle6 _ _ (jm_this hM5)) (by omega) (by omega) hex
    refine key _ (jS_ch S a) [] _ _ _ _ _ _ rfl rfl (by rw [hW1]; exact jm_le.new hqn) (by rw [hW1]; exact jm_up_s) (by rw [jS_siz]; omega) (by rw [jS_siz]; omega) (fun Mi ws c0 c1 hws hle hc0 hc1 => ?_)
    refine jk_iload_n C rd_Cd_many_41 (k := 1) rfl ?_
    exact jm_ret_i C hws ⟨rfl, hle⟩ hc0 hc1 rd_Cd_many_42
set_option maxHeartbeats 1000000 in
theorem ct_Cd_nibbledOnes (hZ : jl_ZK Z sq iad z0 zi mi) {ow : Nat → Nat} {S : jl_S} {P : Nat → Prop} : ∀ (d : Nat) {M : jm_M} {a : Nat}, jl_W cI cO z0 ow M S P → P a → jS_hgt S d a → jm_Met l D jk_cl (jl_ty cI cR cO cB) Z mn_Cd_nibbledOnes (.code mn_Cd_nibbledOnes mb_Cd_nibbledOnes 4 (some .int) :: jk_WA) (jk_rx (8 + d) (jS_siz S d a) (4 * jS_siz S d a) (200 + d * 23)) [.ref a] M (fun v M' => v = some (jk_V (jS_nib S d a)) ∧ jm_le M M') (jS_siz S d a) (4 * jS_siz S d a) := by
  intro d
  induction d with
  | zero => intro M a _ _ h; exact absurd h id
  | succ d ih =>
    intro M a hW ha hh
    obtain ⟨hcd, hnb, hch⟩ := hW a ha
    obtain ⟨mc, e, cap, g, l1, l2, l3, l4, l5, l6⟩ := hcd.2.2.2.2
    refine jm_body (by decide +kernel) (fun p ev s m args below meth cod w hw hz hin C => ?_) (Nat.le_of_ble_eq_true rfl)
    refine jk_aload_n C rd_Cd_nibbledOnes_0 (k := 0) rfl ?_
    refine jm_get C hw in_Cd (ci := 11) rfl 2 (Nat.le_of_ble_eq_true rfl) lk_Cd_28 hcd.1 rfl rd_Cd_nibbledOnes_1 ?_
    have meet : ∀ (Q0 : State → Prop), jk_J p l ev (jk_rx (8 + (d + 1)) (jS_siz S (d + 1) a) (4 * jS_siz S (d + 1) a) (200 + (d + 1) * 23)) s m args below meth cod 0 0 Q0 D jk_cl (va_A w s.heap.size) 4 w [(0, .ref a)] 12 [jk_V ((if 0 < jS_nb S a then 1 else 0))] → jk_J p l ev (jk_rx (8 + (d + 1)) (jS_siz S (d + 1) a) (4 * jS_siz S (d + 1) a) (200 + (d + 1) * 23)) s m args below meth cod 0 0 Q0 D jk_cl (va_A w s.heap.size) 4 w [(0, .ref a)] 4 [jk_V ((jS_nb S a))] := fun Q0 h => by
      refine jr_if_le C rd_Cd_nibbledOnes_4 (tgt := 11) rfl ⟨by omega, by omega⟩ (fun hc => ?_) (fun hc => ?_)
      · refine jk_iconst C rd_Cd_nibbledOnes_11 ?_
        rw [if_neg hc] at h; exact h
      · refine jk_iconst C rd_Cd_nibbledOnes_7 ?_
        refine jk_goto C rd_Cd_nibbledOnes_8 (tgt := 12) rfl ?_
        rw [if_pos hc] at h; exact h
    refine meet _ ?_
    refine jk_istore_n C rd_Cd_nibbledOnes_12 (Nat.le_of_ble_eq_true rfl) rfl ?_
    refine jk_aload_n C rd_Cd_nibbledOnes_13 (k := 1) rfl ?_
    refine jm_get C hw in_Cd (ci := 11) rfl 3 (Nat.le_of_ble_eq_true rfl) lk_Cd_16 hcd.1 rfl rd_Cd_nibbledOnes_14 ?_
    refine jm_callF C (x := ⟨"java/util/List", "iterator", "()Ljava/util/Iterator;"⟩) (q := ("java/util/ArrayList", tb_AL, 3)) (ci := 14) hZ.1.1 hz hw (ct_AL_iterator l D cI cR cO cB hZ l1) (ff_AL_iterator hZ.1 hz) (fg_AL_iterator lk_Cd_35) cw_AL_iterator nf_AL_iterator ⟨by dsimp only [jk_rx]; omega, by dsimp only [jk_rx]; omega⟩ rfl l1 rfl (st := []) rfl (Nat.le_of_ble_eq_true rfl) rd_Cd_nibbledOnes_17 ⟨by dsimp only [jk_rx]; rw [jS_siz]; omega, by dsimp only [jk_rx]; rw [jS_siz]; omega⟩ (fun v w1 hp2 => ?_)
    obtain ⟨q, rfl, hqn, hW1⟩ := hp2
    refine jr_astore_n C rd_Cd_nibbledOnes_22 (Nat.le_of_ble_eq_true rfl) rfl ?_
    refine jk_lv [0, 1, 2] rfl ?_
    have key : ∀ (Q0 : State → Prop) (suf pre : List Nat) (acc : Int) (r : Value) (Mi : jm_M) (ws : va_W) (c0 c1 : Nat), jS_ch S a = pre ++ suf → jm_lk ws = Mi → jm_le M Mi → Mi q = some (.inr (15, [jk_V (pre.length : Int), r, jk_V mc, .ref ((jS_bl S a))])) → c0 + (suf.map (fun b => jS_siz S d b)).sum ≤ jS_siz S (d + 1) a → c1 + 4 * (suf.map (fun b => jS_siz S d b)).sum ≤ 4 * jS_siz S (d + 1) a → (∀ (Mi : jm_M) (ws : va_W) (c0 c1 : Nat), jm_lk ws = Mi → jm_le M Mi → c0 ≤ jS_siz S (d + 1) a → c1 ≤ 4 * jS_siz S (d + 1) a → jk_J p l ev (jk_rx (8 + (d + 1)) (jS_siz S (d + 1) a) (4 * jS_siz S (d + 1) a) (200 + (d + 1) * 23)) s m args below meth cod c0 c1 Q0 D jk_cl (va_A w s.heap.size) 4 ws [(2, .ref q), (1, jk_V (suf.foldl (fun s0 b => s0 + jS_nib S d b) acc)), (0, .ref a)] 52 []) → jk_J p l ev (jk_rx (8 + (d + 1)) (jS_siz S (d + 1) a) (4 * jS_siz S (d + 1) a) (200 + (d + 1) * 23)) s m args below meth cod c0 c1 Q0 D jk_cl (va_A w s.heap.size) 4 ws [(2, .ref q), (1, jk_V acc), (0, .ref a)] 23 [] := by
      intro Q0 suf
      induction suf with
      | nil =>
        intro pre acc r Mi ws c0 c1 hxs hws hle hq hc0 hc1 hex
        have hlen := congrArg List.length hxs
        rw [List.append_nil] at hlen
        have l9 := l4
        refine jk_aload_n C rd_Cd_nibbledOnes_23 (k := 0) rfl ?_
        refine jm_callF C (x := ⟨"java/util/Iterator", "hasNext", "()Z"⟩) (q := ("java/util/ArrayList$Itr", tb_It, 4)) (ci := 15) hZ.1.1 hz hws (ct_It_hasNext l D cI cR cO cB hZ hq (hle _ _ l1) ⟨by omega, by omega⟩ ⟨by omega, by omega⟩) (ff_It_hasNext hZ.1 hz) (fg_It_hasNext lk_Cd_41) cw_It_hasNext nf_It_hasNext ⟨by dsimp only [jk_rx]; omega, by dsimp only [jk_rx]; omega⟩ rfl hq rfl (st := []) rfl (Nat.le_of_ble_eq_true rfl) rd_Cd_nibbledOnes_24 ⟨by dsimp only [jk_rx]; omega, by dsimp only [jk_rx]; omega⟩ (fun v w101 hp102 => ?_)
        obtain ⟨rfl, hk1⟩ := hp102
        rw [if_pos (by omega : (pre.length : Int) = ((jS_ch S a).length : Int))]
        refine jr_if_eq C rd_Cd_nibbledOnes_29 (tgt := 52) rfl ⟨by omega, by omega⟩ (fun _ => ?_) (fun hc => absurd rfl hc)
        rw [List.map_nil] at hc0 hc1
        change c0 + 0 ≤ _ at hc0
        change c1 + 4 * 0 ≤ _ at hc1
        exact hex Mi _ _ _ hk1 hle (by omega) (by omega)
      | cons x suf ihs =>
        intro pre acc r Mi ws c0 c1 hxs hws hle hq hc0 hc1 hex
        rw [List.map_cons, List.sum_cons] at hc0 hc1
        have hlen := congrArg List.length hxs
        rw [List.length_append, List.length_cons] at hlen
        have l7 : M e = some (jm_Q cO cap g) := by
          rcases l3 with ⟨z, -⟩ | ⟨-, z, -⟩
          · omega
          · exact z
        have hxm : x ∈ jS_ch S a := by rw [hxs]; exact List.mem_append_right _ List.mem_cons_self
        have hPx := hch x hxm
        have hx1 := (hW x hPx).1.1
        refine jk_aload_n C rd_Cd_nibbledOnes_23 (k := 0) rfl ?_
        refine jm_callF C (x := ⟨"java/util/Iterator", "hasNext", "()Z"⟩) (q := ("java/util/ArrayList$Itr", tb_It, 4)) (ci := 15) hZ.1.1 hz hws (ct_It_hasNext l D cI cR cO cB hZ hq (hle _ _ l1) ⟨by omega, by omega⟩ ⟨by omega, by omega⟩) (ff_It_hasNext hZ.1 hz) (fg_It_hasNext lk_Cd_41) cw_It_hasNext nf_It_hasNext ⟨by dsimp only [jk_rx]; omega, by dsimp only [jk_rx]; omega⟩ rfl hq rfl (st := []) rfl (Nat.le_of_ble_eq_true rfl) rd_Cd_nibbledOnes_24 ⟨by dsimp only [jk_rx]; omega, by dsimp only [jk_rx]; omega⟩ (fun v w101 hp102 => ?_)
        obtain ⟨rfl, hk1⟩ := hp102
        rw [if_neg (by omega : ¬ (pre.length : Int) = ((jS_ch S a).length : Int))]
        refine jr_if_eq C rd_Cd_nibbledOnes_29 (tgt := 52) rfl ⟨by omega, by omega⟩ (fun hc => absurd hc (by omega)) (fun _ => ?_)
        refine jk_aload_n C rd_Cd_nibbledOnes_32 (k := 0) rfl ?_
        refine jm_callF C (x := ⟨"java/util/Iterator", "next", "()Ljava/lang/Object;"⟩) (q := ("java/util/ArrayList$Itr", tb_It, 4)) (ci := 15) hZ.1.1 hz hk1 (ct_It_next l D cI cR cO cB hZ hq (hle _ _ l1) (hle _ _ l7) (by omega) l4 l5 (x := x) (by rw [l6 _ (by omega), hxs, List.getElem?_append_right (Nat.le_refl _), Nat.sub_self]; rfl)) (ff_It_next hZ.1 hz) (fg_It_next lk_Cd_47) cw_It_next nf_It_next ⟨by dsimp only [jk_rx]; omega, by dsimp only [jk_rx]; omega⟩ rfl hq rfl (st := []) rfl (Nat.le_of_ble_eq_true rfl) rd_Cd_nibbledOnes_33 ⟨by dsimp only [jk_rx]; omega, by dsimp only [jk_rx]; omega⟩ (fun v w103 hp104 => ?_)
        obtain ⟨rfl, hk2⟩ := hp104
        obtain ⟨M5, hM5⟩ : ∃ M5 : jm_M, M5 = jm_up Mi q (.inr (15, [jk_V ((pre.length : Int) + 1), jk_V (pre.length : Int), jk_V mc, .ref ((jS_bl S a))])) := ⟨_, rfl⟩
        rw [← hM5] at hk2
        have hle5 : jm_le M M5 := by rw [hM5]; exact jm_le.put hqn hle
        refine jr_castS C hk2 (hle5 _ _ hx1) (ci := 11) rfl lk_Cd_8 rd_Cd_nibbledOnes_38 ?_
        refine jr_astore_n C rd_Cd_nibbledOnes_41 (Nat.le_of_ble_eq_true rfl) rfl ?_
        refine jk_iload_n C rd_Cd_nibbledOnes_42 (k := 2) rfl ?_
        refine jk_aload_n C rd_Cd_nibbledOnes_43 (k := 0) rfl ?_
        refine jm_callV C hZ.1.1 hz hk2 (ih (hW.mono hle5) hPx (hh x hxm)) lk_Cd_57 xw_Cd_nibbledOnes sw_Cd_nibbledOnes iw_Cd cw_Cd_nibbledOnes na_Cd_nibbledOnes ⟨by dsimp only [jk_rx]; omega, by dsimp only [jk_rx]; omega⟩ rfl (hle5 _ _ hx1) rfl rfl (st := [jk_V acc]) rfl (Nat.le_of_ble_eq_true rfl) rd_Cd_nibbledOnes_44 ⟨by dsimp only [jk_rx]; omega, by dsimp only [jk_rx]; omega⟩ (fun v w105 hp106 => ?_)
        obtain ⟨rfl, hle6⟩ := hp106
        refine jk_iadd C rd_Cd_nibbledOnes_47 ?_
        refine jk_istore_n C rd_Cd_nibbledOnes_48 (Nat.le_of_ble_eq_true rfl) rfl ?_
        refine jk_goto C rd_Cd_nibbledOnes_49 (tgt := 23) rfl ?_
        refine jk_lv [2, 0, 3] rfl ?_
        exact ihs (pre ++ [x]) _ _ _ _ _ _ (by rw [hxs, List.append_assoc]; rfl) rfl (hle5.trans hle6) (by rw [List.length_append]; exact hle6 _ _ (jm_this hM5)) (by omega) (by omega) hex
    refine key _ (jS_ch S a) [] _ _ _ _ _ _ rfl rfl (by rw [hW1]; exact jm_le.new hqn) (by rw [hW1]; exact jm_up_s) (by rw [jS_siz]; omega) (by rw [jS_siz]; omega) (fun Mi ws c0 c1 hws hle hc0 hc1 => ?_)
    refine jk_iload_n C rd_Cd_nibbledOnes_52 (k := 1) rfl ?_
    exact jm_ret_i C hws ⟨rfl, hle⟩ hc0 hc1 rd_Cd_nibbledOnes_53
end CD2
