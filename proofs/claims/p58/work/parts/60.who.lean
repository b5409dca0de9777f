/-! what the component answers, beside what the trees say -/
def jQ_k (σ : jk_LS) (S : jl_S) (k x d c : Nat) : Prop := fn_KR_clusterOf (σ.S 11) (σ.S 12) (σ.T 3) (k : Int) = some (.inr (c : Int)) ∧ fn_KR_depthOf (σ.S 12) (σ.T 4) (k : Int) = some (.inr (d : Int)) ∧ fn_KR_topicOf (σ.S 12) (σ.T 5) (k : Int) = some (.inr (jS_tp S x)) ∧ fn_KR_knownValue (σ.S 12) (σ.T 6) (k : Int) = some (.inr (jS_kv S x)) ∧ fn_KR_nibbledPlaces (σ.S 12) (σ.T 7) (k : Int) = some (.inr (jS_nb S x)) ∧ fn_KR_subsidiariesOf (σ.S 12) (σ.T 4) (k : Int) = some (.inr ((jS_ch S x).length : Int)) ∧ fn_KR_lowestTotal (σ.S 12) (σ.T 4) (σ.T 6) (k : Int) = some (.inr (jS_tot S 3 x)) ∧ fn_KR_isComplete (σ.S 12) (σ.T 4) (σ.T 7) (k : Int) = some (.inr (if jS_nib S 3 x = 0 then 1 else 0)) ∧ ∀ p : Nat, p < 4 → fn_KR_knotsAt (σ.S 12) (σ.T 6) (σ.T 7) (k : Int) (p : Int) = some (.inr (if (p : Int) < jS_nb S x then -1 else jS_dg S x (p : Int)))
def jQ_c (σ : jk_LS) (S : jl_S) (K : jl_K) (L : List (Nat × Nat × Nat)) (j cu : Nat) : Prop := fn_KR_stateOf (σ.S 11) (σ.T 3) (σ.T 4) (σ.T 6) (σ.T 7) (j : Int) = some (.inr (jK_sta S K cu)) ∧ fn_KR_guessObstacle (σ.S 11) (σ.T 3) (σ.T 4) (σ.T 6) (σ.T 7) (j : Int) = some (.inr (jR_rs S K L cu j)) ∧ fn_KR_pendantsIn (σ.S 11) (σ.T 3) (σ.T 4) (j : Int) = some (.inr ((jK_pd K cu).length : Int)) ∧ (jK_tp K cu = none → fn_KR_topOf (σ.S 11) (σ.T 3) (σ.T 4) (j : Int) = some (.inr (-1))) ∧ (∀ t, jK_tp K cu = some t → ∃ i : Nat, (jl_lo L)[i]? = some t ∧ (∀ j, j < i → (jl_lo L)[j]? ≠ some t) ∧ fn_KR_topOf (σ.S 11) (σ.T 3) (σ.T 4) (j : Int) = some (.inr (i : Int))) ∧ (jR_rs S K L cu j = 0 → ∃ t x, jK_tp K cu = some t ∧ jR_only S L j = some x ∧ jk_R (jR_gv S K t x cu) ∧ fn_KR_guessIn (σ.S 11) (σ.T 3) (σ.T 4) (σ.T 6) (σ.T 7) (j : Int) = some (.inr (jR_gv S K t x cu)))
/-- ranges, heights and sizes of the trees -/
def jV_k (S : jl_S) (P : Nat → Prop) (x : Nat) : Prop := P x ∧ jS_hgt S 3 x ∧ jS_siz S 3 x ≤ 40 ∧ jk_R (jS_tp S x) ∧ jk_R (jS_kv S x) ∧ jk_R (jS_tot S 3 x) ∧ (0 ≤ jS_nib S 3 x ∧ jk_R (jS_nib S 3 x)) ∧ (jS_ch S x).length ≤ 40
def jV_c (S : jl_S) (K : jl_K) (P : Nat → Prop) (L : List (Nat × Nat × Nat)) (j cu : Nat) : Prop := jK_siz S K cu ≤ 41 ∧ jk_R (jK_nib S K cu) ∧ jk_R (jK_sum S K cu) ∧ (jK_pd K cu).length ≤ 40 ∧ (∀ t, jK_tp K cu = some t → jk_R (jS_kv S t)) ∧ (∀ t, jK_tp K cu = some t → jk_R (jK_nib S K cu) ∧ (¬ jK_nib S K cu = 0 → ¬ 1 < jK_nib S K cu → ∃ x, jR_only S L j = some x ∧ P x ∧ jk_R (jR_gv S K t x cu)))
def jV_d (S : jl_S) (P : Nat → Prop) : Prop := ∀ x, P x → ∀ i : Int, 0 ≤ i → i < 4 → 0 ≤ jS_dg S x i ∧ jS_dg S x i ≤ 9
theorem jK_sta_R {S : jl_S} {K : jl_K} {c : Nat} : jk_R (jK_sta S K c) := by
  unfold jK_sta
  split
  · exact ⟨by omega, by omega⟩
  · split
    · exact ⟨by omega, by omega⟩
    · split <;> exact ⟨by omega, by omega⟩
theorem jR_rs_R {S : jl_S} {K : jl_K} {L : List (Nat × Nat × Nat)} {cu j : Nat} : jk_R (jR_rs S K L cu j) := by
  unfold jR_rs
  split
  · exact ⟨by omega, by omega⟩
  · split
    · exact ⟨by omega, by omega⟩
    · split
      · exact ⟨by omega, by omega⟩
      · split
        · exact ⟨by omega, by omega⟩
        · split
          · exact ⟨by omega, by omega⟩
          · split <;> exact ⟨by omega, by omega⟩
section WHO
variable (l : Launch) (D : va_G) {Z : (Nat → Prop) → State → Heap → Prop} {sq iad : Nat → Nat} {z0 zi mi : Nat} (cI cR cO cB : ClassId)
theorem jl_FrP.le {ow : Nat → Nat} {M M' : jm_M} {T : Nat → Prop} (h : jm_le M M') : jl_FrP ow M ow M' T := fun b e hb => ⟨rfl, ⟨e, h b e hb⟩, fun _ => h b e hb⟩
set_option maxHeartbeats 8000000 in
set_option maxRecDepth 20000 in
theorem ct_Lw_isWhole (hZ : jl_ZK Z sq iad z0 zi mi) (hl : l.stackTraces = false) {g : Nat → Option Nat} {ad : Nat → Nat} {σ : jk_LS} {M : jm_M} {ow : Nat → Nat} {tX r rc ro rd ri : Nat} {S : jl_S} {K : jl_K} {P : Nat → Prop} {cs os ds is : List Nat} (hX : jm_X ow M tX (WX cI cR g ad σ)) (hX6 : tX % 8 = 6) (hW : jl_W cI cO z0 ow M S P) (hR : jl_Rd cO z0 ow M r rc ro rd ri cs os ds is) (hC : jl_CS cO z0 ow M S K P cs) (hN : (jK_all S K 0 cs).length ≤ 40) (hcs : cs.length ≤ 10) (hVd : jV_d S P) (hVk : ∀ (k x d c : Nat), (jK_all S K 0 cs)[k]? = some (x, d, c) → jV_k S P x) (hVc : ∀ (j cu : Nat), cs[j]? = some cu → jV_c S K P (jK_all S K 0 cs) j cu) (hQ1 : fn_KR_clusterCount (σ.S 11) = some (cs.length : Int)) (hQ2 : fn_KR_cordCount (σ.S 12) = some ((jK_all S K 0 cs).length : Int)) (hQ3 : ∀ (k x d c : Nat), (jK_all S K 0 cs)[k]? = some (x, d, c) → jQ_k σ S k x d c) (hQ4 : ∀ (j cu : Nat), cs[j]? = some cu → jQ_c σ S K (jK_all S K 0 cs) j cu) : jm_Met l D jk_cl (jl_ty cI cR cO cB) Z mn_Lw_isWhole (.code mn_Lw_isWhole mb_Lw_isWhole 5 (some .boolean) :: jk_WA) (jk_rx 18 8000 60000 423) [.ref ((ad 0)), .ref r] M (fun v M' => v = some (jk_V 1) ∧ ∃ ow', jl_Rd cO z0 ow' M' r rc ro rd ri cs (jl_lo (jK_all S K 0 cs)) (jl_ld iad (jK_all S K 0 cs)) (jl_li iad (jK_all S K 0 cs)) ∧ jl_FrP ow M ow' M' (jl_T3 r)) 8000 60000 := by
  refine jm_body (by decide +kernel) (fun p ev s m args below meth cod w hw hz hin C => ?_) (Nat.le_of_ble_eq_true rfl)
  refine jk_aload_n C rd_Lw_isWhole_0 (k := 1) rfl ?_
  refine jm_callV C hZ.1.1 hz hw (ct_Rd_listsAll l D cI cR cO cB hZ hW hR hC hN hcs) lk_Lw_27 xw_Rd_listsAll sw_Rd_listsAll iw_Rd cw_Rd_listsAll na_Rd_listsAll ⟨by dsimp only [jk_rx]; omega, by dsimp only [jk_rx]; omega⟩ rfl hR.1 rfl rfl (st := []) rfl (Nat.le_of_ble_eq_true rfl) rd_Lw_isWhole_1 ⟨by dsimp only [jk_rx]; omega, by dsimp only [jk_rx]; omega⟩ (fun v w1 hp2 => ?_)
  obtain ⟨rfl, ow1, hR1, hF1, hLok⟩ := hp2
  have hX1 := hX.fr hF1 (by rintro (h | h | h) <;> omega)
  have hW1 := hW.fr hF1 (fun _ => jl_T3m)
  have hC1 := hC.fr hF1 (fun _ => jl_T3m)
  obtain ⟨fs0, hkr, -⟩ := hX1.kr
  have hlo := jl_lo_len (jK_all S K 0 cs)
  obtain ⟨M1, hM1⟩ : ∃ Mx : jm_M, Mx = jm_lk w1 := ⟨_, rfl⟩
  rw [← hM1] at hX1 hW1 hC1 hR1 hkr hF1
  have hL0 : jm_le M1 M1 := jm_le.rf
  refine jk_aload_n C rd_Lw_isWhole_4 (k := 0) rfl ?_
  refine jm_callV C hZ.1.1 hz hM1.symm (cm_KR_clusterCount l D hZ.1 cI cR cO cB (hX1.mono hL0) (cs.length : Int) hQ1) lk_Lw_32 ki_KR_clusterCount ks_KR_clusterCount iw_KR kc_KR_clusterCount na_KR_clusterCount ⟨by dsimp only [jk_rx]; omega, by dsimp only [jk_rx]; omega⟩ rfl (hL0 _ _ hkr) rfl rfl (st := []) rfl (Nat.le_of_ble_eq_true rfl) rd_Lw_isWhole_5 ⟨by dsimp only [jk_rx]; omega, by dsimp only [jk_rx]; omega⟩ (fun v w3 hp4 => ?_)
  obtain ⟨rfl, hq1⟩ := hp4
  have hL2 := hL0.trans hq1
  refine jk_aload_n C rd_Lw_isWhole_8 (k := 1) rfl ?_
  refine jm_getN C (rfl : jm_lk w3 = _) in_Rd (ci := 13) rfl 0 (Nat.le_of_ble_eq_true rfl) (jk_nw hZ.1 hz lk_Lw_35) (hL2 _ _ hR1.1) rfl rd_Lw_isWhole_9 ?_
  obtain ⟨mcA, eA, _, _, hcA, -⟩ := id (hR1.2.2.1.mono hL2)
  refine jm_callF C (x := ⟨"java/util/List", "size", "()I"⟩) (q := ("java/util/ArrayList", tb_AL, 3)) (ci := 14) hZ.1.1 hz (rfl : jm_lk w3 = _) (ct_AL_size l D cI cR cO cB hZ (hR1.2.2.1.mono hL2)) (ff_AL_size hZ.1 hz) (fg_AL_size lk_Lw_39) cw_AL_size nf_AL_size ⟨by dsimp only [jk_rx]; omega, by dsimp only [jk_rx]; omega⟩ rfl hcA rfl (st := [jk_V ((cs.length : Int))]) rfl (Nat.le_of_ble_eq_true rfl) rd_Lw_isWhole_12 ⟨by dsimp only [jk_rx]; omega, by dsimp only [jk_rx]; omega⟩ (fun v w5 hp6 => ?_)
  obtain ⟨rfl, hs3⟩ := hp6
  clear hcA
  refine jr_icmp_ne C rd_Lw_isWhole_17 (tgt := 36) rfl ⟨by omega, by omega⟩ ⟨by omega, by omega⟩ (fun hc => absurd rfl hc) (fun _ => ?_)
  refine jk_aload_n C rd_Lw_isWhole_20 (k := 0) rfl ?_
  refine jm_callV C hZ.1.1 hz hs3 (cm_KR_cordCount l D hZ.1 cI cR cO cB (hX1.mono hL2) ((jK_all S K 0 cs).length : Int) hQ2) lk_Lw_44 ki_KR_cordCount ks_KR_cordCount iw_KR kc_KR_cordCount na_KR_cordCount ⟨by dsimp only [jk_rx]; omega, by dsimp only [jk_rx]; omega⟩ rfl (hL2 _ _ hkr) rfl rfl (st := []) rfl (Nat.le_of_ble_eq_true rfl) rd_Lw_isWhole_21 ⟨by dsimp only [jk_rx]; omega, by dsimp only [jk_rx]; omega⟩ (fun v w7 hp8 => ?_)
  obtain ⟨rfl, hq4⟩ := hp8
  have hL5 := hL2.trans hq4
  refine jk_aload_n C rd_Lw_isWhole_24 (k := 1) rfl ?_
  refine jm_getN C (rfl : jm_lk w7 = _) in_Rd (ci := 13) rfl 1 (Nat.le_of_ble_eq_true rfl) (jk_nw hZ.1 hz lk_Lw_47) (hL5 _ _ hR1.1) rfl rd_Lw_isWhole_25 ?_
  obtain ⟨mcA, eA, _, _, hcA, -⟩ := id (hR1.2.2.2.1.mono hL5)
  refine jm_callF C (x := ⟨"java/util/List", "size", "()I"⟩) (q := ("java/util/ArrayList", tb_AL, 3)) (ci := 14) hZ.1.1 hz (rfl : jm_lk w7 = _) (ct_AL_size l D cI cR cO cB hZ (hR1.2.2.2.1.mono hL5)) (ff_AL_size hZ.1 hz) (fg_AL_size lk_Lw_39) cw_AL_size nf_AL_size ⟨by dsimp only [jk_rx]; omega, by dsimp only [jk_rx]; omega⟩ rfl hcA rfl (st := [jk_V (((jK_all S K 0 cs).length : Int))]) rfl (Nat.le_of_ble_eq_true rfl) rd_Lw_isWhole_28 ⟨by dsimp only [jk_rx]; omega, by dsimp only [jk_rx]; omega⟩ (fun v w9 hp10 => ?_)
  obtain ⟨rfl, hs6⟩ := hp10
  clear hcA
  rw [hlo]
  refine jr_icmp_eq C rd_Lw_isWhole_33 (tgt := 38) rfl ⟨by omega, by omega⟩ ⟨by omega, by omega⟩ (fun _ => ?_) (fun hc => absurd rfl hc)
  refine jk_iconst C rd_Lw_isWhole_38 ?_
  refine jk_istore_n C rd_Lw_isWhole_39 (Nat.le_of_ble_eq_true rfl) rfl ?_
  have places : ∀ (Q0 : State → Prop) (k x d c : Nat), (jK_all S K 0 cs)[k]? = some (x, d, c) → jV_k S P x → jQ_k σ S k x d c → ∀ (n pl : Nat) (ws : va_W) (cells slots : Nat), pl + n = 4 → jm_le M1 (jm_lk ws) → cells + 2 * n ≤ 8000 → slots + 12 * n ≤ 60000 → (∀ (ws : va_W) (cells2 slots2 : Nat), cells2 ≤ cells + 2 * n → slots2 ≤ slots + 12 * n → jm_le M1 (jm_lk ws) → jk_J p l ev (jk_rx 18 8000 60000 423) s m args below meth cod cells2 slots2 Q0 D jk_cl (va_A w s.heap.size) 5 ws [(4, jk_V ((4 : Int))), (3, .ref x), (2, jk_V ((k : Int))), (1, .ref r), (0, .ref ((ad 0)))] 249 []) → jk_J p l ev (jk_rx 18 8000 60000 423) s m args below meth cod cells slots Q0 D jk_cl (va_A w s.heap.size) 5 ws [(4, jk_V ((pl : Int))), (3, .ref x), (2, jk_V ((k : Int))), (1, .ref r), (0, .ref ((ad 0)))] 205 [] := by
    intro Q0 k x d c hk hV hQk n
    obtain ⟨hPx, -, -, htp, hkv, htt, hnn, hch⟩ := hV
    obtain ⟨hcd, hnb, -⟩ := hW1 x hPx
    have hkl : k < (jK_all S K 0 cs).length := (List.getElem?_eq_some_iff.mp hk).1
    have hdx := hVd x hPx
    obtain ⟨z1, z2, z3, z4, z5, z6, z7, z8, hkn⟩ := hQk
    induction n with
    | zero =>
      intro p ws cells slots hp hL hc hs hex
      obtain rfl : p = 4 := by omega
      refine jk_iload C rd_Lw_isWhole_205 (k := 0) rfl ?_
      refine jk_iconst C rd_Lw_isWhole_207 ?_
      refine jr_icmp_ge C rd_Lw_isWhole_208 (tgt := 249) rfl ⟨by omega, by omega⟩ ⟨by omega, by omega⟩ (fun _ => ?_) (fun hc => absurd hc (by omega))
      exact hex ws cells slots (by omega) (by omega) hL
    | succ n ih =>
      intro p ws cells slots hp hL hc hs hex
      refine jk_iload C rd_Lw_isWhole_205 (k := 0) rfl ?_
      refine jk_iconst C rd_Lw_isWhole_207 ?_
      refine jr_icmp_ge C rd_Lw_isWhole_208 (tgt := 249) rfl ⟨by omega, by omega⟩ ⟨by omega, by omega⟩ (fun hc => absurd hc (by omega)) (fun _ => ?_)
      refine jk_aload_n C rd_Lw_isWhole_211 (k := 4) rfl ?_
      refine jk_iload_n C rd_Lw_isWhole_212 (k := 2) rfl ?_
      refine jk_iload C rd_Lw_isWhole_213 (k := 0) rfl ?_
      have hd4 := hdx (p : Int) (by omega) (by omega)
      refine jm_callV C hZ.1.1 hz (rfl : jm_lk ws = _) (cm_KR_knotsAt l D hZ.1 hl cI cR cO cB (hX1.mono hL) (k : Int) (p : Int) (if (p : Int) < jS_nb S x then -1 else jS_dg S x (p : Int)) (hkn p (by omega))) lk_Lw_111 ki_KR_knotsAt ks_KR_knotsAt iw_KR kc_KR_knotsAt na_KR_knotsAt ⟨by dsimp only [jk_rx]; omega, by dsimp only [jk_rx]; omega⟩ rfl (hL _ _ hkr) rfl rfl (st := []) rfl (Nat.le_of_ble_eq_true rfl) rd_Lw_isWhole_215 ⟨by dsimp only [jk_rx]; omega, by dsimp only [jk_rx]; omega⟩ (fun v w101 hp102 => ?_)
      obtain ⟨rfl, hq7⟩ := hp102
      have hL8 := hL.trans hq7
      refine jk_iload C rd_Lw_isWhole_218 (k := 0) rfl ?_
      refine jk_aload_n C rd_Lw_isWhole_220 (k := 1) rfl ?_
      refine jm_getN C (rfl : jm_lk w101 = _) in_Cd (ci := 11) rfl 2 (Nat.le_of_ble_eq_true rfl) (jk_nw hZ.1 hz lk_Lw_90) (hL8 _ _ hcd.1) rfl rd_Lw_isWhole_221 ?_
      refine jr_icmp_ge C rd_Lw_isWhole_224 (tgt := 231) rfl ⟨by omega, by omega⟩ ⟨by omega, by omega⟩ (fun hc => ?_) (fun hc => ?_)
      · refine jk_aload_n C rd_Lw_isWhole_231 (k := 1) rfl ?_
        refine jm_getN C (rfl : jm_lk w101 = _) in_Cd (ci := 11) rfl 0 (Nat.le_of_ble_eq_true rfl) (jk_nw hZ.1 hz lk_Lw_115) (hL8 _ _ hcd.1) rfl rd_Lw_isWhole_232 ?_
        refine jk_iload C rd_Lw_isWhole_235 (k := 0) rfl ?_
        refine jm_iald C (rfl : jm_lk w101 = _) 0 (hL8 _ _ hcd.2.2.1) rfl (by omega) (by omega) (by omega) rd_Lw_isWhole_237 ?_
        refine jr_icmp_eq C rd_Lw_isWhole_238 (tgt := 243) rfl ⟨by split <;> omega, by split <;> omega⟩ ⟨by omega, by omega⟩ (fun _ => ?_) (fun hn => absurd (by rw [if_neg (by omega)]) hn)
        refine jk_iinc C rd_Lw_isWhole_243 (k := 0) rfl (Nat.le_of_ble_eq_true rfl) rfl ?_
        refine jk_goto C rd_Lw_isWhole_246 (tgt := 205) rfl ?_
        refine jk_lv [0, 1, 2, 3, 4] rfl ?_
        exact ih (p + 1) _ _ _ (by omega) hL8 (by omega) (by omega) (fun ws c2 s2 h1 h2 h3 => hex ws c2 s2 (by omega) (by omega) h3)
      · refine jk_iconst C rd_Lw_isWhole_227 ?_
        refine jk_goto C rd_Lw_isWhole_228 (tgt := 238) rfl ?_
        refine jr_icmp_eq C rd_Lw_isWhole_238 (tgt := 243) rfl ⟨by split <;> omega, by split <;> omega⟩ ⟨by omega, by omega⟩ (fun _ => ?_) (fun hn => absurd (by rw [if_pos (by omega)]) hn)
        refine jk_iinc C rd_Lw_isWhole_243 (k := 0) rfl (Nat.le_of_ble_eq_true rfl) rfl ?_
        refine jk_goto C rd_Lw_isWhole_246 (tgt := 205) rfl ?_
        refine jk_lv [0, 1, 2, 3, 4] rfl ?_
        exact ih (p + 1) _ _ _ (by omega) hL8 (by omega) (by omega) (fun ws c2 s2 h1 h2 h3 => hex ws c2 s2 (by omega) (by omega) h3)
  have cords : ∀ (Q0 : State → Prop) (n k : Nat) (ws : va_W) (cells slots : Nat), k + n = (jK_all S K 0 cs).length → jm_le M1 (jm_lk ws) → cells + 110 * n ≤ 8000 → slots + 600 * n ≤ 60000 → (∀ (ws : va_W) (cells2 slots2 : Nat), cells2 ≤ cells + 110 * n → slots2 ≤ slots + 600 * n → jm_le M1 (jm_lk ws) → jk_J p l ev (jk_rx 18 8000 60000 423) s m args below meth cod cells2 slots2 Q0 D jk_cl (va_A w s.heap.size) 5 ws [(2, jk_V (((jK_all S K 0 cs).length : Int))), (1, .ref r), (0, .ref ((ad 0)))] 255 []) → jk_J p l ev (jk_rx 18 8000 60000 423) s m args below meth cod cells slots Q0 D jk_cl (va_A w s.heap.size) 5 ws [(2, jk_V ((k : Int))), (1, .ref r), (0, .ref ((ad 0)))] 40 [] := by
    intro Q0 n
    induction n with
    | zero =>
      intro k ws cells slots hkn hL hc hs hex
      refine jk_iload_n C rd_Lw_isWhole_40 (k := 0) rfl ?_
      refine jk_aload_n C rd_Lw_isWhole_41 (k := 1) rfl ?_
      refine jm_getN C (rfl : jm_lk ws = _) in_Rd (ci := 13) rfl 1 (Nat.le_of_ble_eq_true rfl) (jk_nw hZ.1 hz lk_Lw_47) (hL _ _ hR1.1) rfl rd_Lw_isWhole_42 ?_
      obtain ⟨mcA, eA, _, _, hcA, -⟩ := id (hR1.2.2.2.1.mono hL)
      refine jm_callF C (x := ⟨"java/util/List", "size", "()I"⟩) (q := ("java/util/ArrayList", tb_AL, 3)) (ci := 14) hZ.1.1 hz (rfl : jm_lk ws = _) (ct_AL_size l D cI cR cO cB hZ (hR1.2.2.2.1.mono hL)) (ff_AL_size hZ.1 hz) (fg_AL_size lk_Lw_39) cw_AL_size nf_AL_size ⟨by dsimp only [jk_rx]; omega, by dsimp only [jk_rx]; omega⟩ rfl hcA rfl (st := [jk_V ((k : Int))]) rfl (Nat.le_of_ble_eq_true rfl) rd_Lw_isWhole_45 ⟨by dsimp only [jk_rx]; omega, by dsimp only [jk_rx]; omega⟩ (fun v w101 hp102 => ?_)
      obtain ⟨rfl, hs9⟩ := hp102
      clear hcA
      rw [hlo]
      refine jr_icmp_ge C rd_Lw_isWhole_50 (tgt := 255) rfl ⟨by omega, by omega⟩ ⟨by omega, by omega⟩ (fun _ => ?_) (fun hc => absurd hc (by omega))
      obtain rfl : k = (jK_all S K 0 cs).length := by omega
      exact hex _ cells slots (by omega) (by omega) (by rw [hs9]; exact hL)
    | succ n ih =>
      intro k ws cells slots hkn hL hc hs hex
      refine jk_iload_n C rd_Lw_isWhole_40 (k := 0) rfl ?_
      refine jk_aload_n C rd_Lw_isWhole_41 (k := 1) rfl ?_
      refine jm_getN C (rfl : jm_lk ws = _) in_Rd (ci := 13) rfl 1 (Nat.le_of_ble_eq_true rfl) (jk_nw hZ.1 hz lk_Lw_47) (hL _ _ hR1.1) rfl rd_Lw_isWhole_42 ?_
      obtain ⟨mcA, eA, _, _, hcA, -⟩ := id (hR1.2.2.2.1.mono hL)
      refine jm_callF C (x := ⟨"java/util/List", "size", "()I"⟩) (q := ("java/util/ArrayList", tb_AL, 3)) (ci := 14) hZ.1.1 hz (rfl : jm_lk ws = _) (ct_AL_size l D cI cR cO cB hZ (hR1.2.2.2.1.mono hL)) (ff_AL_size hZ.1 hz) (fg_AL_size lk_Lw_39) cw_AL_size nf_AL_size ⟨by dsimp only [jk_rx]; omega, by dsimp only [jk_rx]; omega⟩ rfl hcA rfl (st := [jk_V ((k : Int))]) rfl (Nat.le_of_ble_eq_true rfl) rd_Lw_isWhole_45 ⟨by dsimp only [jk_rx]; omega, by dsimp only [jk_rx]; omega⟩ (fun v w101 hp102 => ?_)
      obtain ⟨rfl, hs10⟩ := hp102
      clear hcA
      rw [hlo]
      refine jr_icmp_ge C rd_Lw_isWhole_50 (tgt := 255) rfl ⟨by omega, by omega⟩ ⟨by omega, by omega⟩ (fun hc => absurd hc (by omega)) (fun _ => ?_)
      refine jk_aload_n C rd_Lw_isWhole_53 (k := 1) rfl ?_
      refine jm_getN C hs10 in_Rd (ci := 13) rfl 1 (Nat.le_of_ble_eq_true rfl) (jk_nw hZ.1 hz lk_Lw_47) (hL _ _ hR1.1) rfl rd_Lw_isWhole_54 ?_
      refine jk_iload_n C rd_Lw_isWhole_57 (k := 0) rfl ?_
      obtain ⟨⟨x, d, c⟩, hk⟩ : ∃ p, (jK_all S K 0 cs)[k]? = some p := ⟨_, List.getElem?_eq_getElem (by omega)⟩
      have hgo : (jl_lo (jK_all S K 0 cs))[k]? = some x := by rw [jl_lo, List.getElem?_map, hk]; rfl
      have hgd : (jl_ld iad (jK_all S K 0 cs))[k]? = some (iad (d + 128)) := by rw [jl_ld, List.getElem?_map, hk]; rfl
      have hgi : (jl_li iad (jK_all S K 0 cs))[k]? = some (iad (c + 128)) := by rw [jl_li, List.getElem?_map, hk]; rfl
      have hV := hVk k x d c hk
      have hQk := hQ3 k x d c hk
      obtain ⟨hPx, hht, hsz, htp, hkv, htt, hnn, hch⟩ := id hV
      obtain ⟨hcd, hnb, -⟩ := hW1 x hPx
      obtain ⟨-, hdl, hcl⟩ := hLok _ (List.mem_of_getElem? hk)
      obtain ⟨z1, z2, z3, z4, z5, z6, z7, z8, -⟩ := id hQk
      replace hdl : d < 100 := hdl
      replace hcl : c < 100 := hcl
      obtain ⟨mcA, eA, _, _, hcA, -⟩ := id (hR1.2.2.2.1.mono hL)
      refine jm_callF C (x := ⟨"java/util/List", "get", "(I)Ljava/lang/Object;"⟩) (q := ("java/util/ArrayList", tb_AL, 3)) (ci := 14) hZ.1.1 hz hs10 (ct_AL_get l D cI cR cO cB hZ (hR1.2.2.2.1.mono hL) hgo) (ff_AL_get hZ.1 hz) (fg_AL_get lk_Lw_50) cw_AL_get nf_AL_get ⟨by dsimp only [jk_rx]; omega, by dsimp only [jk_rx]; omega⟩ rfl hcA rfl (st := []) rfl (Nat.le_of_ble_eq_true rfl) rd_Lw_isWhole_58 ⟨by dsimp only [jk_rx]; omega, by dsimp only [jk_rx]; omega⟩ (fun v w103 hp104 => ?_)
      obtain ⟨rfl, hg11⟩ := hp104
      clear hcA
      refine jr_castS C hg11 (hL _ _ hcd.1) (ci := 11) rfl lk_Lw_54 rd_Lw_isWhole_63 ?_
      refine jr_astore_n C rd_Lw_isWhole_66 (Nat.le_of_ble_eq_true rfl) rfl ?_
      refine jk_aload_n C rd_Lw_isWhole_67 (k := 3) rfl ?_
      refine jk_iload_n C rd_Lw_isWhole_68 (k := 1) rfl ?_
      refine jm_callV C hZ.1.1 hz hg11 (cm_KR_clusterOf l D hZ.1 hl cI cR cO cB (hX1.mono hL) (k : Int) (c : Int) z1) lk_Lw_56 ki_KR_clusterOf ks_KR_clusterOf iw_KR kc_KR_clusterOf na_KR_clusterOf ⟨by dsimp only [jk_rx]; omega, by dsimp only [jk_rx]; omega⟩ rfl (hL _ _ hkr) rfl rfl (st := []) rfl (Nat.le_of_ble_eq_true rfl) rd_Lw_isWhole_69 ⟨by dsimp only [jk_rx]; omega, by dsimp only [jk_rx]; omega⟩ (fun v w105 hp106 => ?_)
      obtain ⟨rfl, hq12⟩ := hp106
      have hL13 := hL.trans hq12
      refine jk_aload_n C rd_Lw_isWhole_72 (k := 2) rfl ?_
      refine jm_getN C (rfl : jm_lk w105 = _) in_Rd (ci := 13) rfl 3 (Nat.le_of_ble_eq_true rfl) (jk_nw hZ.1 hz lk_Lw_60) (hL13 _ _ hR1.1) rfl rd_Lw_isWhole_73 ?_
      refine jk_iload_n C rd_Lw_isWhole_76 (k := 1) rfl ?_
      obtain ⟨mcA, eA, _, _, hcA, -⟩ := id (hR1.2.2.2.2.2.mono hL13)
      refine jm_callF C (x := ⟨"java/util/List", "get", "(I)Ljava/lang/Object;"⟩) (q := ("java/util/ArrayList", tb_AL, 3)) (ci := 14) hZ.1.1 hz (rfl : jm_lk w105 = _) (ct_AL_get l D cI cR cO cB hZ (hR1.2.2.2.2.2.mono hL13) hgi) (ff_AL_get hZ.1 hz) (fg_AL_get lk_Lw_50) cw_AL_get nf_AL_get ⟨by dsimp only [jk_rx]; omega, by dsimp only [jk_rx]; omega⟩ rfl hcA rfl (st := [jk_V ((c : Int))]) rfl (Nat.le_of_ble_eq_true rfl) rd_Lw_isWhole_77 ⟨by dsimp only [jk_rx]; omega, by dsimp only [jk_rx]; omega⟩ (fun v w107 hp108 => ?_)
      obtain ⟨rfl, hg14⟩ := hp108
      clear hcA
      have hrv := (hZ.2 _ s s.heap hz).1.1 (c + 128) (by omega)
      refine jr_castE C (nm := "java/lang/Integer") (fun H locs _ hS => va_Orecv hrv hS) lk_Lw_63 rd_Lw_isWhole_82 ?_
      refine jm_callVr C hZ.1.1 hz hg14 (ct_JInt_intValue l D cI cR cO cB hZ (M := jm_lk w105) (n := c) (by omega)) lk_Lw_65 xw_JInt_intValue sw_JInt_intValue iw_JInt cw_JInt_intValue na_JInt_intValue ⟨by dsimp only [jk_rx]; omega, by dsimp only [jk_rx]; omega⟩ rfl (fun H locs _ hS => va_Orecv hrv hS) (st := [jk_V ((c : Int))]) rfl (Nat.le_of_ble_eq_true rfl) rd_Lw_isWhole_85 ⟨by dsimp only [jk_rx]; omega, by dsimp only [jk_rx]; omega⟩ (fun v w109 hp110 => ?_)
      obtain ⟨rfl, hi15⟩ := hp110
      clear hrv
      refine jr_icmp_ne C rd_Lw_isWhole_88 (tgt := 200) rfl ⟨by omega, by omega⟩ ⟨by omega, by omega⟩ (fun hc => absurd rfl hc) (fun _ => ?_)
      refine jk_aload_n C rd_Lw_isWhole_91 (k := 3) rfl ?_
      refine jk_iload_n C rd_Lw_isWhole_92 (k := 1) rfl ?_
      refine jm_callV C hZ.1.1 hz hi15 (cm_KR_depthOf l D hZ.1 hl cI cR cO cB (hX1.mono hL13) (k : Int) (d : Int) z2) lk_Lw_68 ki_KR_depthOf ks_KR_depthOf iw_KR kc_KR_depthOf na_KR_depthOf ⟨by dsimp only [jk_rx]; omega, by dsimp only [jk_rx]; omega⟩ rfl (hL13 _ _ hkr) rfl rfl (st := []) rfl (Nat.le_of_ble_eq_true rfl) rd_Lw_isWhole_93 ⟨by dsimp only [jk_rx]; omega, by dsimp only [jk_rx]; omega⟩ (fun v w111 hp112 => ?_)
      obtain ⟨rfl, hq16⟩ := hp112
      have hL17 := hL13.trans hq16
      refine jk_aload_n C rd_Lw_isWhole_96 (k := 2) rfl ?_
      refine jm_getN C (rfl : jm_lk w111 = _) in_Rd (ci := 13) rfl 2 (Nat.le_of_ble_eq_true rfl) (jk_nw hZ.1 hz lk_Lw_71) (hL17 _ _ hR1.1) rfl rd_Lw_isWhole_97 ?_
      refine jk_iload_n C rd_Lw_isWhole_100 (k := 1) rfl ?_
      obtain ⟨mcA, eA, _, _, hcA, -⟩ := id (hR1.2.2.2.2.1.mono hL17)
      refine jm_callF C (x := ⟨"java/util/List", "get", "(I)Ljava/lang/Object;"⟩) (q := ("java/util/ArrayList", tb_AL, 3)) (ci := 14) hZ.1.1 hz (rfl : jm_lk w111 = _) (ct_AL_get l D cI cR cO cB hZ (hR1.2.2.2.2.1.mono hL17) hgd) (ff_AL_get hZ.1 hz) (fg_AL_get lk_Lw_50) cw_AL_get nf_AL_get ⟨by dsimp only [jk_rx]; omega, by dsimp only [jk_rx]; omega⟩ rfl hcA rfl (st := [jk_V ((d : Int))]) rfl (Nat.le_of_ble_eq_true rfl) rd_Lw_isWhole_101 ⟨by dsimp only [jk_rx]; omega, by dsimp only [jk_rx]; omega⟩ (fun v w113 hp114 => ?_)
      obtain ⟨rfl, hg18⟩ := hp114
      clear hcA
      have hrv := (hZ.2 _ s s.heap hz).1.1 (d + 128) (by omega)
      refine jr_castE C (nm := "java/lang/Integer") (fun H locs _ hS => va_Orecv hrv hS) lk_Lw_63 rd_Lw_isWhole_106 ?_
      refine jm_callVr C hZ.1.1 hz hg18 (ct_JInt_intValue l D cI cR cO cB hZ (M := jm_lk w111) (n := d) (by omega)) lk_Lw_65 xw_JInt_intValue sw_JInt_intValue iw_JInt cw_JInt_intValue na_JInt_intValue ⟨by dsimp only [jk_rx]; omega, by dsimp only [jk_rx]; omega⟩ rfl (fun H locs _ hS => va_Orecv hrv hS) (st := [jk_V ((d : Int))]) rfl (Nat.le_of_ble_eq_true rfl) rd_Lw_isWhole_109 ⟨by dsimp only [jk_rx]; omega, by dsimp only [jk_rx]; omega⟩ (fun v w115 hp116 => ?_)
      obtain ⟨rfl, hi19⟩ := hp116
      clear hrv
      refine jr_icmp_ne C rd_Lw_isWhole_112 (tgt := 200) rfl ⟨by omega, by omega⟩ ⟨by omega, by omega⟩ (fun hc => absurd rfl hc) (fun _ => ?_)
      refine jk_aload_n C rd_Lw_isWhole_115 (k := 3) rfl ?_
      refine jk_iload_n C rd_Lw_isWhole_116 (k := 1) rfl ?_
      refine jm_callV C hZ.1.1 hz hi19 (cm_KR_topicOf l D hZ.1 hl cI cR cO cB (hX1.mono hL17) (k : Int) (jS_tp S x) z3) lk_Lw_74 ki_KR_topicOf ks_KR_topicOf iw_KR kc_KR_topicOf na_KR_topicOf ⟨by dsimp only [jk_rx]; omega, by dsimp only [jk_rx]; omega⟩ rfl (hL17 _ _ hkr) rfl rfl (st := []) rfl (Nat.le_of_ble_eq_true rfl) rd_Lw_isWhole_117 ⟨by dsimp only [jk_rx]; omega, by dsimp only [jk_rx]; omega⟩ (fun v w117 hp118 => ?_)
      obtain ⟨rfl, hq20⟩ := hp118
      have hL21 := hL17.trans hq20
      refine jk_aload_n C rd_Lw_isWhole_120 (k := 0) rfl ?_
      refine jm_getN C (rfl : jm_lk w117 = _) in_Cd (ci := 11) rfl 1 (Nat.le_of_ble_eq_true rfl) (jk_nw hZ.1 hz lk_Lw_77) (hL21 _ _ hcd.1) rfl rd_Lw_isWhole_121 ?_
      refine jr_icmp_ne C rd_Lw_isWhole_124 (tgt := 200) rfl htp htp (fun hc => absurd rfl hc) (fun _ => ?_)
      refine jk_aload_n C rd_Lw_isWhole_127 (k := 3) rfl ?_
      refine jk_iload_n C rd_Lw_isWhole_128 (k := 1) rfl ?_
      refine jm_callV C hZ.1.1 hz (rfl : jm_lk w117 = _) (cm_KR_knownValue l D hZ.1 hl cI cR cO cB (hX1.mono hL21) (k : Int) (jS_kv S x) z4) lk_Lw_81 ki_KR_knownValue ks_KR_knownValue iw_KR kc_KR_knownValue na_KR_knownValue ⟨by dsimp only [jk_rx]; omega, by dsimp only [jk_rx]; omega⟩ rfl (hL21 _ _ hkr) rfl rfl (st := []) rfl (Nat.le_of_ble_eq_true rfl) rd_Lw_isWhole_129 ⟨by dsimp only [jk_rx]; omega, by dsimp only [jk_rx]; omega⟩ (fun v w119 hp120 => ?_)
      obtain ⟨rfl, hq22⟩ := hp120
      have hL23 := hL21.trans hq22
      refine jk_aload_n C rd_Lw_isWhole_132 (k := 0) rfl ?_
      refine jm_callV C hZ.1.1 hz (rfl : jm_lk w119 = _) (ct_Cd_known l D cI cR cO cB hZ (hL23 _ _ hcd.1) (hL23 _ _ hcd.2.2.1) hnb) lk_Lw_84 xw_Cd_known sw_Cd_known iw_Cd cw_Cd_known na_Cd_known ⟨by dsimp only [jk_rx]; omega, by dsimp only [jk_rx]; omega⟩ rfl (hL23 _ _ hcd.1) rfl rfl (st := [jk_V ((jS_kv S x))]) rfl (Nat.le_of_ble_eq_true rfl) rd_Lw_isWhole_133 ⟨by dsimp only [jk_rx]; omega, by dsimp only [jk_rx]; omega⟩ (fun v w121 hp122 => ?_)
      obtain ⟨rfl, hkk⟩ := hp122
      refine jr_icmp_ne C rd_Lw_isWhole_136 (tgt := 200) rfl hkv hkv (fun hc => absurd rfl hc) (fun _ => ?_)
      refine jk_aload_n C rd_Lw_isWhole_139 (k := 3) rfl ?_
      refine jk_iload_n C rd_Lw_isWhole_140 (k := 1) rfl ?_
      refine jm_callV C hZ.1.1 hz hkk (cm_KR_nibbledPlaces l D hZ.1 hl cI cR cO cB (hX1.mono hL23) (k : Int) (jS_nb S x) z5) lk_Lw_87 ki_KR_nibbledPlaces ks_KR_nibbledPlaces iw_KR kc_KR_nibbledPlaces na_KR_nibbledPlaces ⟨by dsimp only [jk_rx]; omega, by dsimp only [jk_rx]; omega⟩ rfl (hL23 _ _ hkr) rfl rfl (st := []) rfl (Nat.le_of_ble_eq_true rfl) rd_Lw_isWhole_141 ⟨by dsimp only [jk_rx]; omega, by dsimp only [jk_rx]; omega⟩ (fun v w123 hp124 => ?_)
      obtain ⟨rfl, hq24⟩ := hp124
      have hL25 := hL23.trans hq24
      refine jk_aload_n C rd_Lw_isWhole_144 (k := 0) rfl ?_
      refine jm_getN C (rfl : jm_lk w123 = _) in_Cd (ci := 11) rfl 2 (Nat.le_of_ble_eq_true rfl) (jk_nw hZ.1 hz lk_Lw_90) (hL25 _ _ hcd.1) rfl rd_Lw_isWhole_145 ?_
      refine jr_icmp_ne C rd_Lw_isWhole_148 (tgt := 200) rfl ⟨by omega, by omega⟩ ⟨by omega, by omega⟩ (fun hc => absurd rfl hc) (fun _ => ?_)
      refine jk_aload_n C rd_Lw_isWhole_151 (k := 3) rfl ?_
      refine jk_iload_n C rd_Lw_isWhole_152 (k := 1) rfl ?_
      refine jm_callV C hZ.1.1 hz (rfl : jm_lk w123 = _) (cm_KR_subsidiariesOf l D hZ.1 hl cI cR cO cB (hX1.mono hL25) (k : Int) ((jS_ch S x).length : Int) z6) lk_Lw_93 ki_KR_subsidiariesOf ks_KR_subsidiariesOf iw_KR kc_KR_subsidiariesOf na_KR_subsidiariesOf ⟨by dsimp only [jk_rx]; omega, by dsimp only [jk_rx]; omega⟩ rfl (hL25 _ _ hkr) rfl rfl (st := []) rfl (Nat.le_of_ble_eq_true rfl) rd_Lw_isWhole_153 ⟨by dsimp only [jk_rx]; omega, by dsimp only [jk_rx]; omega⟩ (fun v w125 hp126 => ?_)
      obtain ⟨rfl, hq26⟩ := hp126
      have hL27 := hL25.trans hq26
      refine jk_aload_n C rd_Lw_isWhole_156 (k := 0) rfl ?_
      refine jm_getN C (rfl : jm_lk w125 = _) in_Cd (ci := 11) rfl 3 (Nat.le_of_ble_eq_true rfl) (jk_nw hZ.1 hz lk_Lw_96) (hL27 _ _ hcd.1) rfl rd_Lw_isWhole_157 ?_
      obtain ⟨mcA, eA, _, _, hcA, -⟩ := id (hcd.2.2.2.2.mono hL27)
      refine jm_callF C (x := ⟨"java/util/List", "size", "()I"⟩) (q := ("java/util/ArrayList", tb_AL, 3)) (ci := 14) hZ.1.1 hz (rfl : jm_lk w125 = _) (ct_AL_size l D cI cR cO cB hZ (hcd.2.2.2.2.mono hL27)) (ff_AL_size hZ.1 hz) (fg_AL_size lk_Lw_39) cw_AL_size nf_AL_size ⟨by dsimp only [jk_rx]; omega, by dsimp only [jk_rx]; omega⟩ rfl hcA rfl (st := [jk_V (((jS_ch S x).length : Int))]) rfl (Nat.le_of_ble_eq_true rfl) rd_Lw_isWhole_160 ⟨by dsimp only [jk_rx]; omega, by dsimp only [jk_rx]; omega⟩ (fun v w127 hp128 => ?_)
      obtain ⟨rfl, hs28⟩ := hp128
      clear hcA
      refine jr_icmp_ne C rd_Lw_isWhole_165 (tgt := 200) rfl ⟨by omega, by omega⟩ ⟨by omega, by omega⟩ (fun hc => absurd rfl hc) (fun _ => ?_)
      refine jk_aload_n C rd_Lw_isWhole_168 (k := 3) rfl ?_
      refine jk_iload_n C rd_Lw_isWhole_169 (k := 1) rfl ?_
      refine jm_callV C hZ.1.1 hz hs28 (cm_KR_lowestTotal l D hZ.1 hl cI cR cO cB (hX1.mono hL27) (k : Int) (jS_tot S 3 x) z7) lk_Lw_99 ki_KR_lowestTotal ks_KR_lowestTotal iw_KR kc_KR_lowestTotal na_KR_lowestTotal ⟨by dsimp only [jk_rx]; omega, by dsimp only [jk_rx]; omega⟩ rfl (hL27 _ _ hkr) rfl rfl (st := []) rfl (Nat.le_of_ble_eq_true rfl) rd_Lw_isWhole_170 ⟨by dsimp only [jk_rx]; omega, by dsimp only [jk_rx]; omega⟩ (fun v w129 hp130 => ?_)
      obtain ⟨rfl, hq29⟩ := hp130
      have hL30 := hL27.trans hq29
      refine jk_aload_n C rd_Lw_isWhole_173 (k := 0) rfl ?_
      refine jm_callV C hZ.1.1 hz (rfl : jm_lk w129 = _) (ct_Cd_total l D cI cR cO cB hZ 3 (hW1.mono hL30) hPx hht) lk_Lw_102 xw_Cd_total sw_Cd_total iw_Cd cw_Cd_total na_Cd_total ⟨by dsimp only [jk_rx]; omega, by dsimp only [jk_rx]; omega⟩ rfl (hL30 _ _ hcd.1) rfl rfl (st := [jk_V ((jS_tot S 3 x))]) rfl (Nat.le_of_ble_eq_true rfl) rd_Lw_isWhole_174 ⟨by dsimp only [jk_rx]; omega, by dsimp only [jk_rx]; omega⟩ (fun v w131 hp132 => ?_)
      obtain ⟨rfl, hle9⟩ := hp132
      have hL31 := hL30.trans hle9
      refine jr_icmp_ne C rd_Lw_isWhole_177 (tgt := 200) rfl htt htt (fun hc => absurd rfl hc) (fun _ => ?_)
      refine jk_aload_n C rd_Lw_isWhole_180 (k := 3) rfl ?_
      refine jk_iload_n C rd_Lw_isWhole_181 (k := 1) rfl ?_
      refine jm_callV C hZ.1.1 hz (rfl : jm_lk w131 = _) (cm_KR_isComplete l D hZ.1 hl cI cR cO cB (hX1.mono hL31) (k : Int) (if jS_nib S 3 x = 0 then 1 else 0) z8) lk_Lw_105 ki_KR_isComplete ks_KR_isComplete iw_KR kc_KR_isComplete na_KR_isComplete ⟨by dsimp only [jk_rx]; omega, by dsimp only [jk_rx]; omega⟩ rfl (hL31 _ _ hkr) rfl rfl (st := []) rfl (Nat.le_of_ble_eq_true rfl) rd_Lw_isWhole_182 ⟨by dsimp only [jk_rx]; omega, by dsimp only [jk_rx]; omega⟩ (fun v w133 hp134 => ?_)
      obtain ⟨rfl, hq32⟩ := hp134
      have hL33 := hL31.trans hq32
      refine jk_aload_n C rd_Lw_isWhole_185 (k := 0) rfl ?_
      refine jm_callV C hZ.1.1 hz (rfl : jm_lk w133 = _) (ct_Cd_nibbledOnes l D cI cR cO cB hZ 3 (hW1.mono hL33) hPx hht) lk_Lw_108 xw_Cd_nibbledOnes sw_Cd_nibbledOnes iw_Cd cw_Cd_nibbledOnes na_Cd_nibbledOnes ⟨by dsimp only [jk_rx]; omega, by dsimp only [jk_rx]; omega⟩ rfl (hL33 _ _ hcd.1) rfl rfl (st := [jk_V ((if jS_nib S 3 x = 0 then 1 else 0))]) rfl (Nat.le_of_ble_eq_true rfl) rd_Lw_isWhole_186 ⟨by dsimp only [jk_rx]; omega, by dsimp only [jk_rx]; omega⟩ (fun v w135 hp136 => ?_)
      obtain ⟨rfl, hle8⟩ := hp136
      have hL34 := hL33.trans hle8
      refine jr_if_ne C rd_Lw_isWhole_189 (tgt := 196) rfl hnn.2 (fun hc => ?_) (fun hc => ?_)
      · refine jk_iconst C rd_Lw_isWhole_196 ?_
        rw [if_neg hc]
        refine jr_icmp_eq C rd_Lw_isWhole_197 (tgt := 202) rfl ⟨by omega, by omega⟩ ⟨by omega, by omega⟩ (fun _ => ?_) (fun hc => absurd rfl hc)
        refine jk_iconst C rd_Lw_isWhole_202 ?_
        refine jk_istore C rd_Lw_isWhole_203 (Nat.le_of_ble_eq_true rfl) rfl ?_
        refine jk_lv [0, 1, 2, 3, 4] rfl ?_
        refine places Q0 k x d c hk hV hQk 4 0 _ _ _ rfl hL34 (by omega) (by omega) (fun ws c2 s2 h1 h2 h3 => ?_)
        refine jk_iinc C rd_Lw_isWhole_249 (k := 2) rfl (Nat.le_of_ble_eq_true rfl) rfl ?_
        refine jk_goto C rd_Lw_isWhole_252 (tgt := 40) rfl ?_
        refine jk_lv [0, 3, 4] rfl ?_
        exact ih (k + 1) ws c2 s2 (by omega) h3 (by omega) (by omega) (fun ws c3 s3 h4 h5 h6 => hex ws c3 s3 (by omega) (by omega) h6)
      · refine jk_iconst C rd_Lw_isWhole_192 ?_
        refine jk_goto C rd_Lw_isWhole_193 (tgt := 197) rfl ?_
        rw [if_pos hc]
        refine jr_icmp_eq C rd_Lw_isWhole_197 (tgt := 202) rfl ⟨by omega, by omega⟩ ⟨by omega, by omega⟩ (fun _ => ?_) (fun hc => absurd rfl hc)
        refine jk_iconst C rd_Lw_isWhole_202 ?_
        refine jk_istore C rd_Lw_isWhole_203 (Nat.le_of_ble_eq_true rfl) rfl ?_
        refine jk_lv [0, 1, 2, 3, 4] rfl ?_
        refine places Q0 k x d c hk hV hQk 4 0 _ _ _ rfl hL34 (by omega) (by omega) (fun ws c2 s2 h1 h2 h3 => ?_)
        refine jk_iinc C rd_Lw_isWhole_249 (k := 2) rfl (Nat.le_of_ble_eq_true rfl) rfl ?_
        refine jk_goto C rd_Lw_isWhole_252 (tgt := 40) rfl ?_
        refine jk_lv [0, 3, 4] rfl ?_
        exact ih (k + 1) ws c2 s2 (by omega) h3 (by omega) (by omega) (fun ws c3 s3 h4 h5 h6 => hex ws c3 s3 (by omega) (by omega) h6)
  have clus : ∀ (Q0 : State → Prop) (n k : Nat) (ws : va_W) (cells slots : Nat), k + n = cs.length → jm_le M1 (jm_lk ws) → cells + 320 * n ≤ 8000 → slots + 1500 * n ≤ 60000 → (∀ (ws : va_W) (cells2 slots2 : Nat), cells2 ≤ cells + 320 * n → slots2 ≤ slots + 1500 * n → jm_le M1 (jm_lk ws) → jk_J p l ev (jk_rx 18 8000 60000 423) s m args below meth cod cells2 slots2 Q0 D jk_cl (va_A w s.heap.size) 5 ws [(2, jk_V ((cs.length : Int))), (1, .ref r), (0, .ref ((ad 0)))] 382 []) → jk_J p l ev (jk_rx 18 8000 60000 423) s m args below meth cod cells slots Q0 D jk_cl (va_A w s.heap.size) 5 ws [(2, jk_V ((k : Int))), (1, .ref r), (0, .ref ((ad 0)))] 257 [] := by
    intro Q0 n
    induction n with
    | zero =>
      intro k ws cells slots hkn hL hc hs hex
      refine jk_iload_n C rd_Lw_isWhole_257 (k := 0) rfl ?_
      refine jk_aload_n C rd_Lw_isWhole_258 (k := 1) rfl ?_
      refine jm_getN C (rfl : jm_lk ws = _) in_Rd (ci := 13) rfl 0 (Nat.le_of_ble_eq_true rfl) (jk_nw hZ.1 hz lk_Lw_35) (hL _ _ hR1.1) rfl rd_Lw_isWhole_259 ?_
      obtain ⟨mcA, eA, _, _, hcA, -⟩ := id (hR1.2.2.1.mono hL)
      refine jm_callF C (x := ⟨"java/util/List", "size", "()I"⟩) (q := ("java/util/ArrayList", tb_AL, 3)) (ci := 14) hZ.1.1 hz (rfl : jm_lk ws = _) (ct_AL_size l D cI cR cO cB hZ (hR1.2.2.1.mono hL)) (ff_AL_size hZ.1 hz) (fg_AL_size lk_Lw_39) cw_AL_size nf_AL_size ⟨by dsimp only [jk_rx]; omega, by dsimp only [jk_rx]; omega⟩ rfl hcA rfl (st := [jk_V ((k : Int))]) rfl (Nat.le_of_ble_eq_true rfl) rd_Lw_isWhole_262 ⟨by dsimp only [jk_rx]; omega, by dsimp only [jk_rx]; omega⟩ (fun v w101 hp102 => ?_)
      obtain ⟨rfl, hs35⟩ := hp102
      clear hcA
      refine jr_icmp_ge C rd_Lw_isWhole_267 (tgt := 382) rfl ⟨by omega, by omega⟩ ⟨by omega, by omega⟩ (fun _ => ?_) (fun hc => absurd hc (by omega))
      obtain rfl : k = cs.length := by omega
      exact hex _ cells slots (by omega) (by omega) (by rw [hs35]; exact hL)
    | succ n ih =>
      intro k ws cells slots hkn hL hc hs hex
      refine jk_iload_n C rd_Lw_isWhole_257 (k := 0) rfl ?_
      refine jk_aload_n C rd_Lw_isWhole_258 (k := 1) rfl ?_
      refine jm_getN C (rfl : jm_lk ws = _) in_Rd (ci := 13) rfl 0 (Nat.le_of_ble_eq_true rfl) (jk_nw hZ.1 hz lk_Lw_35) (hL _ _ hR1.1) rfl rd_Lw_isWhole_259 ?_
      obtain ⟨mcA, eA, _, _, hcA, -⟩ := id (hR1.2.2.1.mono hL)
      refine jm_callF C (x := ⟨"java/util/List", "size", "()I"⟩) (q := ("java/util/ArrayList", tb_AL, 3)) (ci := 14) hZ.1.1 hz (rfl : jm_lk ws = _) (ct_AL_size l D cI cR cO cB hZ (hR1.2.2.1.mono hL)) (ff_AL_size hZ.1 hz) (fg_AL_size lk_Lw_39) cw_AL_size nf_AL_size ⟨by dsimp only [jk_rx]; omega, by dsimp only [jk_rx]; omega⟩ rfl hcA rfl (st := [jk_V ((k : Int))]) rfl (Nat.le_of_ble_eq_true rfl) rd_Lw_isWhole_262 ⟨by dsimp only [jk_rx]; omega, by dsimp only [jk_rx]; omega⟩ (fun v w101 hp102 => ?_)
      obtain ⟨rfl, hs36⟩ := hp102
      clear hcA
      refine jr_icmp_ge C rd_Lw_isWhole_267 (tgt := 382) rfl ⟨by omega, by omega⟩ ⟨by omega, by omega⟩ (fun hc => absurd hc (by omega)) (fun _ => ?_)
      refine jk_aload_n C rd_Lw_isWhole_270 (k := 1) rfl ?_
      refine jm_getN C hs36 in_Rd (ci := 13) rfl 0 (Nat.le_of_ble_eq_true rfl) (jk_nw hZ.1 hz lk_Lw_35) (hL _ _ hR1.1) rfl rd_Lw_isWhole_271 ?_
      refine jk_iload_n C rd_Lw_isWhole_274 (k := 0) rfl ?_
      obtain ⟨cu, hk⟩ : ∃ p, cs[k]? = some p := ⟨_, List.getElem?_eq_getElem (by omega)⟩
      obtain ⟨v1, v2, v3, v4, v5, v6⟩ := hVc k cu hk
      obtain ⟨q1, q2, q3, q4, q5, q6⟩ := hQ4 k cu hk
      obtain ⟨hCu, hKP⟩ := hC1 cu (List.mem_of_getElem? hk)
      have hCu1 := hCu.1
      have hrsR := @jR_rs_R S K (jK_all S K 0 cs) cu k
      have hstR := @jK_sta_R S K cu
      obtain ⟨mcA, eA, _, _, hcA, -⟩ := id (hR1.2.2.1.mono hL)
      refine jm_callF C (x := ⟨"java/util/List", "get", "(I)Ljava/lang/Object;"⟩) (q := ("java/util/ArrayList", tb_AL, 3)) (ci := 14) hZ.1.1 hz hs36 (ct_AL_get l D cI cR cO cB hZ (hR1.2.2.1.mono hL) hk) (ff_AL_get hZ.1 hz) (fg_AL_get lk_Lw_50) cw_AL_get nf_AL_get ⟨by dsimp only [jk_rx]; omega, by dsimp only [jk_rx]; omega⟩ rfl hcA rfl (st := []) rfl (Nat.le_of_ble_eq_true rfl) rd_Lw_isWhole_275 ⟨by dsimp only [jk_rx]; omega, by dsimp only [jk_rx]; omega⟩ (fun v w103 hp104 => ?_)
      obtain ⟨rfl, hg37⟩ := hp104
      clear hcA
      refine jr_castS C hg37 (hL _ _ hCu1) (ci := 12) rfl lk_Lw_119 rd_Lw_isWhole_280 ?_
      refine jr_astore_n C rd_Lw_isWhole_283 (Nat.le_of_ble_eq_true rfl) rfl ?_
      refine jk_aload_n C rd_Lw_isWhole_284 (k := 3) rfl ?_
      refine jk_iload_n C rd_Lw_isWhole_285 (k := 1) rfl ?_
      refine jm_callV C hZ.1.1 hz hg37 (cm_KR_stateOf l D hZ.1 hl cI cR cO cB (hX1.mono hL) (k : Int) (jK_sta S K cu) q1) lk_Lw_121 ki_KR_stateOf ks_KR_stateOf iw_KR kc_KR_stateOf na_KR_stateOf ⟨by dsimp only [jk_rx]; omega, by dsimp only [jk_rx]; omega⟩ rfl (hL _ _ hkr) rfl rfl (st := []) rfl (Nat.le_of_ble_eq_true rfl) rd_Lw_isWhole_286 ⟨by dsimp only [jk_rx]; omega, by dsimp only [jk_rx]; omega⟩ (fun v w105 hp106 => ?_)
      obtain ⟨rfl, hq38⟩ := hp106
      have hL39 := hL.trans hq38
      refine jk_aload_n C rd_Lw_isWhole_289 (k := 0) rfl ?_
      refine jm_callV C hZ.1.1 hz (rfl : jm_lk w105 = _) (ct_Cu_state l D cI cR cO cB hZ (hW1.mono hL39) (hCu.mono hL39) hKP v2 v3 v5) lk_Lw_124 xw_Cu_state sw_Cu_state iw_Cu cw_Cu_state na_Cu_state ⟨by dsimp only [jk_rx]; omega, by dsimp only [jk_rx]; omega⟩ rfl (hL39 _ _ hCu1) rfl rfl (st := [jk_V ((jK_sta S K cu))]) rfl (Nat.le_of_ble_eq_true rfl) rd_Lw_isWhole_290 ⟨by dsimp only [jk_rx]; omega, by dsimp only [jk_rx]; omega⟩ (fun v w107 hp108 => ?_)
      obtain ⟨rfl, hc40⟩ := hp108
      have hL41 := hL39.trans hc40
      refine jr_icmp_ne C rd_Lw_isWhole_293 (tgt := 374) rfl hstR hstR (fun hc => absurd rfl hc) (fun _ => ?_)
      refine jk_aload_n C rd_Lw_isWhole_296 (k := 3) rfl ?_
      refine jk_iload_n C rd_Lw_isWhole_297 (k := 1) rfl ?_
      refine jm_callV C hZ.1.1 hz (rfl : jm_lk w107 = _) (cm_KR_guessObstacle l D hZ.1 hl cI cR cO cB (hX1.mono hL41) (k : Int) (jR_rs S K (jK_all S K 0 cs) cu k) q2) lk_Lw_127 ki_KR_guessObstacle ks_KR_guessObstacle iw_KR kc_KR_guessObstacle na_KR_guessObstacle ⟨by dsimp only [jk_rx]; omega, by dsimp only [jk_rx]; omega⟩ rfl (hL41 _ _ hkr) rfl rfl (st := []) rfl (Nat.le_of_ble_eq_true rfl) rd_Lw_isWhole_298 ⟨by dsimp only [jk_rx]; omega, by dsimp only [jk_rx]; omega⟩ (fun v w109 hp110 => ?_)
      obtain ⟨rfl, hq42⟩ := hp110
      have hL43 := hL41.trans hq42
      refine jk_aload_n C rd_Lw_isWhole_301 (k := 2) rfl ?_
      refine jk_iload_n C rd_Lw_isWhole_302 (k := 1) rfl ?_
      refine jm_callV C hZ.1.1 hz (rfl : jm_lk w109 = _) (ct_Rd_reason l D cI cR cO cB hZ (hW1.mono hL43) (hR1.mono hL43) (hC1.mono hL43) hLok (by omega) hcs hk hVd v6) lk_Lw_130 xw_Rd_reason sw_Rd_reason iw_Rd cw_Rd_reason na_Rd_reason ⟨by dsimp only [jk_rx]; omega, by dsimp only [jk_rx]; omega⟩ rfl (hL43 _ _ hR1.1) rfl rfl (st := [jk_V ((jR_rs S K (jK_all S K 0 cs) cu k))]) rfl (Nat.le_of_ble_eq_true rfl) rd_Lw_isWhole_303 ⟨by dsimp only [jk_rx]; omega, by dsimp only [jk_rx]; omega⟩ (fun v w111 hp112 => ?_)
      obtain ⟨rfl, hc44⟩ := hp112
      have hL45 := hL43.trans hc44
      refine jr_icmp_ne C rd_Lw_isWhole_306 (tgt := 374) rfl hrsR hrsR (fun hc => absurd rfl hc) (fun _ => ?_)
      refine jk_aload_n C rd_Lw_isWhole_309 (k := 3) rfl ?_
      refine jk_iload_n C rd_Lw_isWhole_310 (k := 1) rfl ?_
      refine jm_callV C hZ.1.1 hz (rfl : jm_lk w111 = _) (cm_KR_pendantsIn l D hZ.1 hl cI cR cO cB (hX1.mono hL45) (k : Int) ((jK_pd K cu).length : Int) q3) lk_Lw_133 ki_KR_pendantsIn ks_KR_pendantsIn iw_KR kc_KR_pendantsIn na_KR_pendantsIn ⟨by dsimp only [jk_rx]; omega, by dsimp only [jk_rx]; omega⟩ rfl (hL45 _ _ hkr) rfl rfl (st := []) rfl (Nat.le_of_ble_eq_true rfl) rd_Lw_isWhole_311 ⟨by dsimp only [jk_rx]; omega, by dsimp only [jk_rx]; omega⟩ (fun v w113 hp114 => ?_)
      obtain ⟨rfl, hq46⟩ := hp114
      have hL47 := hL45.trans hq46
      refine jk_aload_n C rd_Lw_isWhole_314 (k := 0) rfl ?_
      refine jm_getN C (rfl : jm_lk w113 = _) in_Cu (ci := 12) rfl 1 (Nat.le_of_ble_eq_true rfl) (jk_nw hZ.1 hz lk_Lw_136) (hL47 _ _ hCu1) rfl rd_Lw_isWhole_315 ?_
      obtain ⟨mcA, eA, _, _, hcA, -⟩ := id (hCu.2.2.mono hL47)
      refine jm_callF C (x := ⟨"java/util/List", "size", "()I"⟩) (q := ("java/util/ArrayList", tb_AL, 3)) (ci := 14) hZ.1.1 hz (rfl : jm_lk w113 = _) (ct_AL_size l D cI cR cO cB hZ (hCu.2.2.mono hL47)) (ff_AL_size hZ.1 hz) (fg_AL_size lk_Lw_39) cw_AL_size nf_AL_size ⟨by dsimp only [jk_rx]; omega, by dsimp only [jk_rx]; omega⟩ rfl hcA rfl (st := [jk_V (((jK_pd K cu).length : Int))]) rfl (Nat.le_of_ble_eq_true rfl) rd_Lw_isWhole_318 ⟨by dsimp only [jk_rx]; omega, by dsimp only [jk_rx]; omega⟩ (fun v w115 hp116 => ?_)
      obtain ⟨rfl, hs48⟩ := hp116
      clear hcA
      refine jr_icmp_ne C rd_Lw_isWhole_323 (tgt := 374) rfl ⟨by omega, by omega⟩ ⟨by omega, by omega⟩ (fun hc => absurd rfl hc) (fun _ => ?_)
      refine jk_aload_n C rd_Lw_isWhole_326 (k := 3) rfl ?_
      refine jk_iload_n C rd_Lw_isWhole_327 (k := 1) rfl ?_
      cases htc : jK_tp K cu with
      | none =>
        rw [htc] at hCu1
        refine jm_callV C hZ.1.1 hz hs48 (cm_KR_topOf l D hZ.1 hl cI cR cO cB (hX1.mono hL47) (k : Int) (-1) (q4 htc)) lk_Lw_139 ki_KR_topOf ks_KR_topOf iw_KR kc_KR_topOf na_KR_topOf ⟨by dsimp only [jk_rx]; omega, by dsimp only [jk_rx]; omega⟩ rfl (hL47 _ _ hkr) rfl rfl (st := []) rfl (Nat.le_of_ble_eq_true rfl) rd_Lw_isWhole_328 ⟨by dsimp only [jk_rx]; omega, by dsimp only [jk_rx]; omega⟩ (fun v w117 hp118 => ?_)
        obtain ⟨rfl, hq49⟩ := hp118
        have hL50 := hL47.trans hq49
        refine jk_aload_n C rd_Lw_isWhole_331 (k := 0) rfl ?_
        refine jm_getN C (rfl : jm_lk w117 = _) in_Cu (ci := 12) rfl 0 (Nat.le_of_ble_eq_true rfl) (jk_nw hZ.1 hz lk_Lw_142) (hL50 _ _ hCu1) rfl rd_Lw_isWhole_332 ?_
        refine jr_ifnonnullN C rd_Lw_isWhole_335 ?_
        refine jk_iconst C rd_Lw_isWhole_338 ?_
        refine jk_goto C rd_Lw_isWhole_339 (tgt := 350) rfl ?_
        refine jr_icmp_ne C rd_Lw_isWhole_350 (tgt := 374) rfl ⟨by omega, by omega⟩ ⟨by omega, by omega⟩ (fun hc => absurd rfl hc) (fun _ => ?_)
        refine jk_aload_n C rd_Lw_isWhole_353 (k := 2) rfl ?_
        refine jk_iload_n C rd_Lw_isWhole_354 (k := 1) rfl ?_
        refine jm_callV C hZ.1.1 hz (rfl : jm_lk w117 = _) (ct_Rd_reason l D cI cR cO cB hZ (hW1.mono hL50) (hR1.mono hL50) (hC1.mono hL50) hLok (by omega) hcs hk hVd v6) lk_Lw_130 xw_Rd_reason sw_Rd_reason iw_Rd cw_Rd_reason na_Rd_reason ⟨by dsimp only [jk_rx]; omega, by dsimp only [jk_rx]; omega⟩ rfl (hL50 _ _ hR1.1) rfl rfl (st := []) rfl (Nat.le_of_ble_eq_true rfl) rd_Lw_isWhole_355 ⟨by dsimp only [jk_rx]; omega, by dsimp only [jk_rx]; omega⟩ (fun v w119 hp120 => ?_)
        obtain ⟨rfl, hc51⟩ := hp120
        have hL52 := hL50.trans hc51
        refine jr_if_ne C rd_Lw_isWhole_358 (tgt := 376) rfl hrsR (fun hd => ?_) (fun hd => ?_)
        · refine jk_iinc C rd_Lw_isWhole_376 (k := 1) rfl (Nat.le_of_ble_eq_true rfl) rfl ?_
          refine jk_goto C rd_Lw_isWhole_379 (tgt := 257) rfl ?_
          refine jk_lv [0, 2, 3] rfl ?_
          exact ih (k + 1) _ _ _ (by omega) hL52 (by omega) (by omega) (fun ws c3 s3 h4 h5 h6 => hex ws c3 s3 (by omega) (by omega) h6)
        · obtain ⟨t9, x9, e1, e2, e3, e4⟩ := q6 hd
          rw [htc] at e1
          cases e1
      | some t =>
        rw [htc] at hCu1
        obtain ⟨i9, f1, f2, f3⟩ := q5 t htc
        have hi9 : i9 < (jl_lo (jK_all S K 0 cs)).length := (List.getElem?_eq_some_iff.mp f1).1
        refine jm_callV C hZ.1.1 hz hs48 (cm_KR_topOf l D hZ.1 hl cI cR cO cB (hX1.mono hL47) (k : Int) (i9 : Int) f3) lk_Lw_139 ki_KR_topOf ks_KR_topOf iw_KR kc_KR_topOf na_KR_topOf ⟨by dsimp only [jk_rx]; omega, by dsimp only [jk_rx]; omega⟩ rfl (hL47 _ _ hkr) rfl rfl (st := []) rfl (Nat.le_of_ble_eq_true rfl) rd_Lw_isWhole_328 ⟨by dsimp only [jk_rx]; omega, by dsimp only [jk_rx]; omega⟩ (fun v w121 hp122 => ?_)
        obtain ⟨rfl, hq53⟩ := hp122
        have hL54 := hL47.trans hq53
        refine jk_aload_n C rd_Lw_isWhole_331 (k := 0) rfl ?_
        refine jm_getN C (rfl : jm_lk w121 = _) in_Cu (ci := 12) rfl 0 (Nat.le_of_ble_eq_true rfl) (jk_nw hZ.1 hz lk_Lw_142) (hL54 _ _ hCu1) rfl rd_Lw_isWhole_332 ?_
        refine jr_ifnonnull C rd_Lw_isWhole_335 (tgt := 342) rfl ?_
        refine jk_aload_n C rd_Lw_isWhole_342 (k := 2) rfl ?_
        refine jk_aload_n C rd_Lw_isWhole_343 (k := 0) rfl ?_
        refine jm_getN C (rfl : jm_lk w121 = _) in_Cu (ci := 12) rfl 0 (Nat.le_of_ble_eq_true rfl) (jk_nw hZ.1 hz lk_Lw_142) (hL54 _ _ hCu1) rfl rd_Lw_isWhole_344 ?_
        refine jm_callV C hZ.1.1 hz (rfl : jm_lk w121 = _) (ct_Rd_indexOf l D cI cR cO cB hZ (S := S) (P := P) (hR1.mono hL54) (by omega) f1 f2) lk_Lw_146 xw_Rd_indexOf sw_Rd_indexOf iw_Rd cw_Rd_indexOf na_Rd_indexOf ⟨by dsimp only [jk_rx]; omega, by dsimp only [jk_rx]; omega⟩ rfl (hL54 _ _ hR1.1) rfl rfl (st := [jk_V ((i9 : Int))]) rfl (Nat.le_of_ble_eq_true rfl) rd_Lw_isWhole_347 ⟨by dsimp only [jk_rx]; omega, by dsimp only [jk_rx]; omega⟩ (fun v w123 hp124 => ?_)
        obtain ⟨rfl, hio⟩ := hp124
        refine jr_icmp_ne C rd_Lw_isWhole_350 (tgt := 374) rfl ⟨by omega, by omega⟩ ⟨by omega, by omega⟩ (fun hc => absurd rfl hc) (fun _ => ?_)
        refine jk_aload_n C rd_Lw_isWhole_353 (k := 2) rfl ?_
        refine jk_iload_n C rd_Lw_isWhole_354 (k := 1) rfl ?_
        refine jm_callV C hZ.1.1 hz hio (ct_Rd_reason l D cI cR cO cB hZ (hW1.mono hL54) (hR1.mono hL54) (hC1.mono hL54) hLok (by omega) hcs hk hVd v6) lk_Lw_130 xw_Rd_reason sw_Rd_reason iw_Rd cw_Rd_reason na_Rd_reason ⟨by dsimp only [jk_rx]; omega, by dsimp only [jk_rx]; omega⟩ rfl (hL54 _ _ hR1.1) rfl rfl (st := []) rfl (Nat.le_of_ble_eq_true rfl) rd_Lw_isWhole_355 ⟨by dsimp only [jk_rx]; omega, by dsimp only [jk_rx]; omega⟩ (fun v w125 hp126 => ?_)
        obtain ⟨rfl, hc55⟩ := hp126
        have hL56 := hL54.trans hc55
        refine jr_if_ne C rd_Lw_isWhole_358 (tgt := 376) rfl hrsR (fun hd => ?_) (fun hd => ?_)
        · refine jk_iinc C rd_Lw_isWhole_376 (k := 1) rfl (Nat.le_of_ble_eq_true rfl) rfl ?_
          refine jk_goto C rd_Lw_isWhole_379 (tgt := 257) rfl ?_
          refine jk_lv [0, 2, 3] rfl ?_
          exact ih (k + 1) _ _ _ (by omega) hL56 (by omega) (by omega) (fun ws c3 s3 h4 h5 h6 => hex ws c3 s3 (by omega) (by omega) h6)
        · obtain ⟨t9, x9, e1, e2, e3, e4⟩ := q6 hd
          refine jk_aload_n C rd_Lw_isWhole_361 (k := 3) rfl ?_
          refine jk_iload_n C rd_Lw_isWhole_362 (k := 1) rfl ?_
          refine jm_callV C hZ.1.1 hz (rfl : jm_lk w125 = _) (cm_KR_guessIn l D hZ.1 hl cI cR cO cB (hX1.mono hL56) (k : Int) (jR_gv S K t9 x9 cu) e4) lk_Lw_150 ki_KR_guessIn ks_KR_guessIn iw_KR kc_KR_guessIn na_KR_guessIn ⟨by dsimp only [jk_rx]; omega, by dsimp only [jk_rx]; omega⟩ rfl (hL56 _ _ hkr) rfl rfl (st := []) rfl (Nat.le_of_ble_eq_true rfl) rd_Lw_isWhole_363 ⟨by dsimp only [jk_rx]; omega, by dsimp only [jk_rx]; omega⟩ (fun v w127 hp128 => ?_)
          obtain ⟨rfl, hq57⟩ := hp128
          have hL58 := hL56.trans hq57
          refine jk_aload_n C rd_Lw_isWhole_366 (k := 2) rfl ?_
          refine jk_iload_n C rd_Lw_isWhole_367 (k := 1) rfl ?_
          have hPx9 : P x9 := by
            unfold jR_only at e2
            obtain ⟨p9, h1, h2⟩ := Option.map_eq_some_iff.mp e2
            rw [← h2]
            exact (hLok p9 (List.mem_of_find?_eq_some h1)).1
          refine jm_callV C hZ.1.1 hz (rfl : jm_lk w127 = _) (ct_Rd_guess l D cI cR cO cB hZ (hW1.mono hL58) (hR1.mono hL58) (hC1.mono hL58) hLok (by omega) hcs hk e1 e2 hPx9) lk_Lw_153 xw_Rd_guess sw_Rd_guess iw_Rd cw_Rd_guess na_Rd_guess ⟨by dsimp only [jk_rx]; omega, by dsimp only [jk_rx]; omega⟩ rfl (hL58 _ _ hR1.1) rfl rfl (st := [jk_V ((jR_gv S K t9 x9 cu))]) rfl (Nat.le_of_ble_eq_true rfl) rd_Lw_isWhole_368 ⟨by dsimp only [jk_rx]; omega, by dsimp only [jk_rx]; omega⟩ (fun v w129 hp130 => ?_)
          obtain ⟨rfl, hc59⟩ := hp130
          have hL60 := hL58.trans hc59
          refine jr_icmp_eq C rd_Lw_isWhole_371 (tgt := 376) rfl e3 e3 (fun _ => ?_) (fun hc => absurd rfl hc)
          refine jk_iinc C rd_Lw_isWhole_376 (k := 1) rfl (Nat.le_of_ble_eq_true rfl) rfl ?_
          refine jk_goto C rd_Lw_isWhole_379 (tgt := 257) rfl ?_
          refine jk_lv [0, 2, 3] rfl ?_
          exact ih (k + 1) _ _ _ (by omega) hL60 (by omega) (by omega) (fun ws c3 s3 h4 h5 h6 => hex ws c3 s3 (by omega) (by omega) h6)
  refine jk_lv [0, 2, 1] rfl ?_
  refine cords _ (jK_all S K 0 cs).length 0 _ _ _ (Nat.zero_add _) (by rw [hs6]; exact hL5) ?_ ?_ (fun ws2 c2 s2 h1 h2 h3 => ?_)
  · omega
  · omega
  refine jk_iconst C rd_Lw_isWhole_255 ?_
  refine jk_istore_n C rd_Lw_isWhole_256 (Nat.le_of_ble_eq_true rfl) rfl ?_
  refine jk_lv [0, 1, 2] rfl ?_
  refine clus _ cs.length 0 ws2 c2 s2 (Nat.zero_add _) h3 (by omega) (by omega) (fun ws3 c3 s3 h4 h5 h6 => ?_)
  refine jk_iconst C rd_Lw_isWhole_382 ?_
  exact jm_ret_z C (Or.inr rfl) (rfl : jm_lk ws3 = _) ⟨rfl, ow1, hR1.mono h6, hF1.trans (jl_FrP.le h6)⟩ (by omega) (by omega) rd_Lw_isWhole_383
end WHO
