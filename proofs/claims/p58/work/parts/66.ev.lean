/-! cords hung up -/
def jO_base (Inv : jk_LS → jl_S → jl_K → (Nat → Prop) → List Nat → Prop) : Prop := ∀ (σ : jk_LS) (S : jl_S) (K : jl_K) (P : Nat → Prop) (cs : List Nat), Inv σ S K P cs → jB σ S K P cs
def jO_addPendant (Inv : jk_LS → jl_S → jl_K → (Nat → Prop) → List Nat → Prop) : Prop := ∀ (σ : jk_LS) (S : jl_S) (K : jl_K) (P : Nat → Prop) (cs : List Nat), Inv σ S K P cs → ∀ (j cu : Nat), cs[j]? = some cu → (jK_all S K 0 cs).length < 40 → ∀ tp va : Nat, tp < 2 → va < 10000 → ∀ x k b : Nat, ¬ P x → x ∉ cs → ∃ z, ∃ i : Nat, jf_addPendant σ (j : Int) (tp : Int) (va : Int) = some (.inr z) ∧ z.1 = (i : Int) ∧ (jl_lo (jK_all (jS_n S x k b (jl_dgs (fun _ => 0) (va : Int)) (tp : Int)) (jK_p K cu (jK_pd K cu ++ [x])) 0 cs))[i]? = some x ∧ (∀ j, j < i → (jl_lo (jK_all (jS_n S x k b (jl_dgs (fun _ => 0) (va : Int)) (tp : Int)) (jK_p K cu (jK_pd K cu ++ [x])) 0 cs))[j]? ≠ some x) ∧ Inv (js_addPendant σ z) (jS_n S x k b (jl_dgs (fun _ => 0) (va : Int)) (tp : Int)) (jK_p K cu (jK_pd K cu ++ [x])) (fun y => P y ∨ y = x) cs
def jO_addSub (Inv : jk_LS → jl_S → jl_K → (Nat → Prop) → List Nat → Prop) : Prop := ∀ (σ : jk_LS) (S : jl_S) (K : jl_K) (P : Nat → Prop) (cs : List Nat), Inv σ S K P cs → ∀ (k x d c : Nat), (jK_all S K 0 cs)[k]? = some (x, d, c) → d ≠ 0 → d ≠ 3 → (jK_all S K 0 cs).length < 40 → ∀ tp va : Nat, tp < 2 → va < 10000 → ∀ y kn b : Nat, ¬ P y → y ∉ cs → ∃ z, ∃ i : Nat, jf_addSubsidiary σ (k : Int) (tp : Int) (va : Int) = some (.inr z) ∧ z.1 = (i : Int) ∧ (jl_lo (jK_all (jS_c (jS_n S y kn b (jl_dgs (fun _ => 0) (va : Int)) (tp : Int)) x (jS_ch S x ++ [y])) K 0 cs))[i]? = some y ∧ (∀ j, j < i → (jl_lo (jK_all (jS_c (jS_n S y kn b (jl_dgs (fun _ => 0) (va : Int)) (tp : Int)) x (jS_ch S x ++ [y])) K 0 cs))[j]? ≠ some y) ∧ Inv (js_addSubsidiary σ z) (jS_c (jS_n S y kn b (jl_dgs (fun _ => 0) (va : Int)) (tp : Int)) x (jS_ch S x ++ [y])) K (fun w => P w ∨ w = y) cs
section EV3
variable {p : Program} {l : Launch} {ev : Env} {s : State} {m : MethodId} {args : Array Value} {below : List Frame} {meth : Method} {cod : Code} {D : va_G} {Z : (Nat → Prop) → State → Heap → Prop} {sq iad : Nat → Nat} {z0 zi mi : Nat} {cI cR cO cB : ClassId} {w ws : va_W} {g : Nat → Option Nat} {ad : Nat → Nat} {σ : jk_LS} {ow : Nat → Nat} {M : jm_M} {S : jl_S} {K : jl_K} {P : Nat → Prop} {r rc ro rd ri tX x k j cu d c tp va : Nat} {cs : List Nat} {wh xx : Int} {cells slots : Nat} {Inv : jk_LS → jl_S → jl_K → (Nat → Prop) → List Nat → Prop}
set_option maxHeartbeats 4000000 in
set_option maxRecDepth 20000 in
theorem ev_addPendant (C : jk_C p s m args meth cod mb_Lw_event mn_Lw_event.cls 13 jk_WA D jk_cl (jl_ty cI cR cO cB) (va_A w s.heap.size) (some .boolean)) (hZ : jl_ZK Z sq iad z0 zi mi) (hz : Z (va_A w s.heap.size) s s.heap) (hl : l.stackTraces = false) (hg : ∀ j, j < 8 → g j = some (ad (48 + 11 * j))) (hws : jm_lk ws = M) (hA : jl_Al cI cO z0 ow M S K P r rc ro rd ri cs (jl_lo (jK_all S K 0 cs)) (jl_ld iad (jK_all S K 0 cs)) (jl_li iad (jK_all S K 0 cs))) (hX : jm_X ow M tX (WX cI cR g ad σ)) (hX6 : tX % 8 = 6) (hI : Inv σ S K P cs) (hB : jB σ S K P cs) (hcl : cells ≤ 200) (hsl : slots ≤ 3000) (hBB : jO_base Inv) (hO : jO_addPendant Inv) (hj : cs[j]? = some cu) (htp : tp < 2) (hva : va < 10000) : jk_J p l ev (jk_rx 22 1200 14000 700) s m args below meth cod cells slots (MQ below (jm_Post D jk_cl (jl_ty cI cR cO cB) (va_A w s.heap.size) (jw_EP Inv cI cR cO z0 g ad tX r rc ro rd ri)) args s 1200 14000 (va_A w s.heap.size)) D jk_cl (va_A w s.heap.size) 13 ws [(7, jk_V wh), (6, .ref cu), (5, jk_V ((j : Int))), (4, jk_V ((tp : Int))), (3, jk_V ((va : Int))), (2, jk_V xx), (1, .ref r), (0, .ref ((ad 0)))] 94 [] := by
  obtain ⟨hN, hcs, hKP, hVd, hVk, hVc, hQ1, hQ2, hQ3, hQ4⟩ := id hB
  obtain ⟨fs0, hkr, hkro⟩ := hX.kr
  obtain ⟨v1, v2, v3, v4, v5, v6⟩ := hVc j cu hj
  obtain ⟨q1, q2, q3, q4, q5, q6⟩ := hQ4 j cu hj
  have hcm := List.mem_of_getElem? hj
  have hCu := hA.2.1 cu hcm
  have hKPc := hKP cu hcm
  have hrsR := @jR_rs_R S K (jK_all S K 0 cs) cu j
  have hC : jl_CS cO z0 ow M S K P cs := fun c hc => ⟨hA.2.1 c hc, hKP c hc⟩
  have hjl : j < cs.length := (List.getElem?_eq_some_iff.mp hj).1
  have hlo := jl_lo_len (jK_all S K 0 cs)
  refine jk_aload_n C rd_Lw_event_94 (k := 6) rfl ?_
  refine jm_getN C hws in_Rd (ci := 13) rfl 1 (Nat.le_of_ble_eq_true rfl) (jk_nw hZ.1 hz lk_Lw_47) hA.2.2.1 rfl rd_Lw_event_95 ?_
  obtain ⟨mcA, eA, _, _, hcA, -⟩ := id hA.2.2.2.2.2.1
  refine jm_callF C (x := ⟨"java/util/List", "size", "()I"⟩) (q := ("java/util/ArrayList", tb_AL, 3)) (ci := 14) hZ.1.1 hz hws (ct_AL_size l D cI cR cO cB hZ hA.2.2.2.2.2.1) (ff_AL_size hZ.1 hz) (fg_AL_size lk_Lw_39) cw_AL_size nf_AL_size ⟨by dsimp only [jk_rx]; omega, by dsimp only [jk_rx]; omega⟩ rfl hcA rfl (st := []) rfl (Nat.le_of_ble_eq_true rfl) rd_Lw_event_98 ⟨by dsimp only [jk_rx]; omega, by dsimp only [jk_rx]; omega⟩ (fun v w1 hp2 => ?_)
  obtain ⟨rfl, hs1⟩ := hp2
  clear hcA
  rw [hlo]
  refine jk_bipush C rd_Lw_event_103 (by decide +kernel) ?_
  refine jr_icmp_ne C rd_Lw_event_105 (tgt := 123) rfl ⟨by omega, by omega⟩ ⟨by omega, by omega⟩ (fun hc => ?_) (fun hc => ?_)
  · refine jm_new C hs1 in_Cd (ty0 := tf_Cd) ty_Cd lk_Lw_54 nw_Cd iw_Cd (ci := 11) rfl (fs := [.null, jk_V 0, jk_V 0, .null]) (by intro j hj; rcases j with _ | _ | _ | _ | j <;> first | rfl | omega) ⟨by dsimp only [jk_rx]; omega, by dsimp only [jk_rx]; omega⟩ rd_Lw_event_123 (fun x9 wn hn9 hwn => ?_)
    obtain ⟨M3, hM3⟩ : ∃ Mx : jm_M, Mx = jm_up M x9 (.inr (11, [.null, jk_V 0, jk_V 0, .null])) := ⟨_, rfl⟩
    replace hwn : jm_lk wn = M3 := by rw [hM3]; exact hwn
    have hne3_r := jm_nen hA.2.2.1 hn9
    have hc3_r := jm_keep hM3 hA.2.2.1 hne3_r
    have hc3_x9 := jm_this hM3
    refine jk_dup C rd_Lw_event_126 rfl ?_
    refine jk_iload C rd_Lw_event_127 (k := 3) rfl ?_
    refine jk_iload_n C rd_Lw_event_129 (k := 4) rfl ?_
    refine jm_callI C hZ.1.1 hz hwn (ct_Cd_init l D cI cR cO cB hZ hc3_x9 ⟨by omega, by omega⟩) lk_Lw_166 xw_Cd_init iw_Cd cw_Cd_init rfl na_Cd_init ⟨by dsimp only [jk_rx]; omega, by dsimp only [jk_rx]; omega⟩ rfl (st := [.ref x9]) rfl (Nat.le_of_ble_eq_true rfl) rd_Lw_event_130 ⟨by dsimp only [jk_rx]; omega, by dsimp only [jk_rx]; omega⟩ (fun v w4 hp5 => ?_)
    obtain ⟨rfl, k9, b9, hk9, hb9, hbk, hx1, hk1, hb1, hle0⟩ := hp5
    have hleM : jm_le M (jm_lk w4) := fun y e hy => hle0 y e (by rw [hM3, jm_up_n (jm_nen hy hn9)]; exact hy) (jm_nen hy hn9)
    have hk9M : M k9 = none := by
      cases hbb : M k9 with
      | none => rfl
      | some e =>
        rw [hM3, jm_up_n (jm_nen hbb hn9), hbb] at hk9
        cases hk9
    have hk9x : k9 ≠ x9 := fun z => by rw [z, hM3, jm_up_s] at hk9; cases hk9
    have hb9M : M b9 = none := by
      cases hbb : M b9 with
      | none => rfl
      | some e =>
        rw [hM3, jm_up_n (jm_nen hbb hn9), hbb] at hb9
        cases hb9
    have hb9x : b9 ≠ x9 := fun z => by rw [z, hM3, jm_up_s] at hb9; cases hb9
    have hA1 := hA.newc hleM hn9 hk9M hb9M hk9x hb9x hbk hx1 hk1 hb1
    have hF1 : jl_FrP ow M (jw_o3 ow x9 k9 b9) (jm_lk w4) (fun _ => False) := jw_o3_fr hleM hn9 hk9M hb9M
    have hX1 := hX.fr hF1 id
    have hnP : ¬ P x9 := fun h => by
      have := (hA.1 x9 h).1.1
      rw [hn9] at this
      cases this
    have hnc : x9 ∉ cs := fun h => by
      have := (hA.2.1 x9 h).1
      rw [hn9] at this
      cases this
    obtain ⟨zz, i9, hf, hz1, hi1, hi2, hI2⟩ := hO σ S K P cs hI j cu hj (by omega) tp va htp hva x9 k9 b9 hnP hnc
    have hCu1 := hA1.2.1 cu hcm
    refine jr_astore C rd_Lw_event_133 (Nat.le_of_ble_eq_true rfl) rfl ?_
    refine jk_aload C rd_Lw_event_135 (k := 2) rfl ?_
    refine jm_getN C (rfl : jm_lk w4 = _) in_Cu (ci := 12) rfl 1 (Nat.le_of_ble_eq_true rfl) (jk_nw hZ.1 hz lk_Lw_136) hCu1.1 rfl rd_Lw_event_137 ?_
    refine jk_aload C rd_Lw_event_140 (k := 0) rfl ?_
    obtain ⟨mcA, eA, _, _, hcA, -⟩ := id hCu1.2.2
    refine jm_callF C (x := ⟨"java/util/List", "add", "(Ljava/lang/Object;)Z"⟩) (q := ("java/util/ArrayList", tb_AL, 3)) (ci := 14) hZ.1.1 hz (rfl : jm_lk w4 = _) (ct_AL_add l D cI cR cO cB hZ hCu1.2.2 (Or.inl ⟨_, hx1⟩) v4 (fun y hy => Or.inl ⟨_, (hA1.1 y (Or.inl (hKPc.1 y hy).1)).1.1⟩)) (ff_AL_add hZ.1 hz) (fg_AL_add lk_Lw_169) cw_AL_add nf_AL_add ⟨by dsimp only [jk_rx]; omega, by dsimp only [jk_rx]; omega⟩ rfl hcA rfl (st := []) rfl (Nat.le_of_ble_eq_true rfl) rd_Lw_event_142 ⟨by dsimp only [jk_rx]; omega, by dsimp only [jk_rx]; omega⟩ (fun v w6 hp7 => ?_)
    obtain ⟨rfl, ow2, hL2, hF2⟩ := hp7
    clear hcA
    have hA2 := hA1.pdl hcm hF2 hL2
    have hX2 := hX1.fr hF2 (by omega)
    refine jk_pop C rd_Lw_event_147 rfl ?_
    refine jk_aload_n C rd_Lw_event_148 (k := 7) rfl ?_
    obtain ⟨gN, gcs, gKP, gVd, gVk, gVc, -⟩ := hBB _ _ _ _ _ hI2
    have gC : jl_CS cO z0 _ _ _ _ _ cs := fun c hc => ⟨hA2.2.1 c hc, gKP c hc⟩
    refine jm_callV C hZ.1.1 hz (rfl : jm_lk w6 = _) (ct_Rd_listsAll l D cI cR cO cB hZ hA2.1 hA2.2.2 gC gN (by omega)) lk_Lw_27 xw_Rd_listsAll sw_Rd_listsAll iw_Rd cw_Rd_listsAll na_Rd_listsAll ⟨by dsimp only [jk_rx]; omega, by dsimp only [jk_rx]; omega⟩ rfl hA2.2.2.1 rfl rfl (st := []) rfl (Nat.le_of_ble_eq_true rfl) rd_Lw_event_149 ⟨by dsimp only [jk_rx]; omega, by dsimp only [jk_rx]; omega⟩ (fun v w8 hp9 => ?_)
    obtain ⟨rfl, ow3, hR3, hF3, hLok3⟩ := hp9
    have hX3 := hX2.fr hF3 (by rintro (h | h | h) <;> omega)
    have hA3 : jl_Al cI cO z0 _ _ _ _ _ r rc ro rd ri cs _ _ _ := ⟨hA2.1.fr hF3 (fun _ => jl_T3m), fun c hc => (hA2.2.1 c hc).fr hF3 (fun z => by have := jl_T3m z; omega) (fun z => by have := jl_T3m z; omega), hR3⟩
    obtain ⟨fs3, hkr3, -⟩ := hX3.kr
    refine jk_aload_n C rd_Lw_event_152 (k := 8) rfl ?_
    refine jk_iload C rd_Lw_event_153 (k := 3) rfl ?_
    refine jk_iload C rd_Lw_event_155 (k := 4) rfl ?_
    refine jk_iload_n C rd_Lw_event_157 (k := 5) rfl ?_
    refine jm_callV C hZ.1.1 hz (rfl : jm_lk w8 = _) (cn_KR_addPendant l D hZ.1 hl cI cR cO cB hX3 hg (j : Int) (tp : Int) (va : Int) hf) lk_Lw_173 ki_KR_addPendant ks_KR_addPendant iw_KR kc_KR_addPendant na_KR_addPendant ⟨by dsimp only [jk_rx]; omega, by dsimp only [jk_rx]; omega⟩ rfl hkr3 rfl rfl (st := []) rfl (Nat.le_of_ble_eq_true rfl) rd_Lw_event_158 ⟨by dsimp only [jk_rx]; omega, by dsimp only [jk_rx]; omega⟩ (fun v w11 hp12 => ?_)
    obtain ⟨rfl, hX10, hF10⟩ := hp12
    rw [hz1]
    have hA4 := hA3.fr hF10 (fun y hy => by omega) (fun y hy => by omega) (fun y hy => by omega)
    refine jk_aload_n C rd_Lw_event_161 (k := 7) rfl ?_
    refine jk_aload C rd_Lw_event_162 (k := 0) rfl ?_
    have hil := (List.getElem?_eq_some_iff.mp hi1).1
    rw [jl_lo_len] at hil
    refine jm_callV C hZ.1.1 hz (rfl : jm_lk w11 = _) (ct_Rd_indexOf l D cI cR cO cB hZ (S := S) (P := P) hA4.2.2 (by omega) hi1 hi2) lk_Lw_146 xw_Rd_indexOf sw_Rd_indexOf iw_Rd cw_Rd_indexOf na_Rd_indexOf ⟨by dsimp only [jk_rx]; omega, by dsimp only [jk_rx]; omega⟩ rfl hA4.2.2.1 rfl rfl (st := [jk_V ((i9 : Int))]) rfl (Nat.le_of_ble_eq_true rfl) rd_Lw_event_164 ⟨by dsimp only [jk_rx]; omega, by dsimp only [jk_rx]; omega⟩ (fun v w13 hp14 => ?_)
    obtain ⟨rfl, hio⟩ := hp14
    refine jr_icmp_ne C rd_Lw_event_167 (tgt := 174) rfl ⟨by omega, by omega⟩ ⟨by omega, by omega⟩ (fun hd => absurd rfl hd) (fun _ => ?_)
    refine jk_iconst C rd_Lw_event_170 ?_
    refine jk_goto C rd_Lw_event_171 (tgt := 175) rfl ?_
    exact jm_ret_z C (Or.inr rfl) hio ⟨rfl, _, _, _, _, _, _, _, _, _, hI2, hA4, hX10⟩ (by omega) (by omega) rd_Lw_event_175
  · refine jk_aload_n C rd_Lw_event_108 (k := 7) rfl ?_
    refine jm_callV C hZ.1.1 hz hs1 (cm_KR_cordCount l D hZ.1 cI cR cO cB hX ((jK_all S K 0 cs).length : Int) hQ2) lk_Lw_44 ki_KR_cordCount ks_KR_cordCount iw_KR kc_KR_cordCount na_KR_cordCount ⟨by dsimp only [jk_rx]; omega, by dsimp only [jk_rx]; omega⟩ rfl hkr rfl rfl (st := []) rfl (Nat.le_of_ble_eq_true rfl) rd_Lw_event_109 ⟨by dsimp only [jk_rx]; omega, by dsimp only [jk_rx]; omega⟩ (fun v w15 hp16 => ?_)
    obtain ⟨rfl, hq⟩ := hp16
    refine jk_bipush C rd_Lw_event_112 (by decide +kernel) ?_
    refine jr_icmp_ne C rd_Lw_event_114 (tgt := 121) rfl ⟨by omega, by omega⟩ ⟨by omega, by omega⟩ (fun hd => absurd (by omega) hd) (fun _ => ?_)
    refine jk_iconst C rd_Lw_event_117 ?_
    refine jk_goto C rd_Lw_event_118 (tgt := 122) rfl ?_
    exact jm_ret_z C (Or.inr rfl) (rfl : jm_lk w15 = _) ⟨rfl, _, _, _, _, _, _, _, _, _, hI, hA.mono hq, hX.mono hq⟩ (by omega) (by omega) rd_Lw_event_122
set_option maxHeartbeats 4000000 in
set_option maxRecDepth 20000 in
theorem ev_addSub (C : jk_C p s m args meth cod mb_Lw_event mn_Lw_event.cls 13 jk_WA D jk_cl (jl_ty cI cR cO cB) (va_A w s.heap.size) (some .boolean)) (hZ : jl_ZK Z sq iad z0 zi mi) (hz : Z (va_A w s.heap.size) s s.heap) (hl : l.stackTraces = false) (hg : ∀ j, j < 8 → g j = some (ad (48 + 11 * j))) (hws : jm_lk ws = M) (hA : jl_Al cI cO z0 ow M S K P r rc ro rd ri cs (jl_lo (jK_all S K 0 cs)) (jl_ld iad (jK_all S K 0 cs)) (jl_li iad (jK_all S K 0 cs))) (hX : jm_X ow M tX (WX cI cR g ad σ)) (hX6 : tX % 8 = 6) (hI : Inv σ S K P cs) (hB : jB σ S K P cs) (hcl : cells ≤ 200) (hsl : slots ≤ 3000) (hBB : jO_base Inv) (hdl : ∀ p ∈ jK_all S K 0 cs, p.2.1 < 100 ∧ p.2.2 < 100) (hO : jO_addSub Inv) (hk : (jK_all S K 0 cs)[k]? = some (x, d, c)) (htp : tp < 2) (hva : va < 10000) : jk_J p l ev (jk_rx 22 1200 14000 700) s m args below meth cod cells slots (MQ below (jm_Post D jk_cl (jl_ty cI cR cO cB) (va_A w s.heap.size) (jw_EP Inv cI cR cO z0 g ad tX r rc ro rd ri)) args s 1200 14000 (va_A w s.heap.size)) D jk_cl (va_A w s.heap.size) 13 ws [(9, .ref x), (8, jk_V ((k : Int))), (7, jk_V wh), (6, .ref cu), (5, jk_V ((j : Int))), (4, jk_V ((tp : Int))), (3, jk_V ((va : Int))), (2, jk_V xx), (1, .ref r), (0, .ref ((ad 0)))] 272 [] := by
  obtain ⟨hN, hcs, hKP, hVd, hVk, hVc, hQ1, hQ2, hQ3, hQ4⟩ := id hB
  obtain ⟨fs0, hkr, hkro⟩ := hX.kr
  obtain ⟨hPx, hht, hsz, hjtp, hjkv, hjtt, hjnn, hjch⟩ := hVk k x d c hk
  obtain ⟨hcd, hnb, hch⟩ := hA.1 x hPx
  obtain ⟨y1, y2, y3, y4, y5, y6, y7, y8, y9⟩ := hQ3 k x d c hk
  have hkl : k < (jK_all S K 0 cs).length := (List.getElem?_eq_some_iff.mp hk).1
  have hlo := jl_lo_len (jK_all S K 0 cs)
  have hd := (hdl _ (List.mem_of_getElem? hk)).1
  replace hd : d < 100 := hd
  have hgd : (jl_ld iad (jK_all S K 0 cs))[k]? = some (iad (d + 128)) := by rw [jl_ld, List.getElem?_map, hk]; rfl
  refine jk_aload_n C rd_Lw_event_272 (k := 8) rfl ?_
  refine jm_getN C hws in_Rd (ci := 13) rfl 2 (Nat.le_of_ble_eq_true rfl) (jk_nw hZ.1 hz lk_Lw_71) hA.2.2.1 rfl rd_Lw_event_273 ?_
  refine jk_iload C rd_Lw_event_276 (k := 1) rfl ?_
  obtain ⟨mcA, eA, _, _, hcA, -⟩ := id hA.2.2.2.2.2.2.1
  refine jm_callF C (x := ⟨"java/util/List", "get", "(I)Ljava/lang/Object;"⟩) (q := ("java/util/ArrayList", tb_AL, 3)) (ci := 14) hZ.1.1 hz hws (ct_AL_get l D cI cR cO cB hZ hA.2.2.2.2.2.2.1 hgd) (ff_AL_get hZ.1 hz) (fg_AL_get lk_Lw_50) cw_AL_get nf_AL_get ⟨by dsimp only [jk_rx]; omega, by dsimp only [jk_rx]; omega⟩ rfl hcA rfl (st := []) rfl (Nat.le_of_ble_eq_true rfl) rd_Lw_event_278 ⟨by dsimp only [jk_rx]; omega, by dsimp only [jk_rx]; omega⟩ (fun v w1 hp2 => ?_)
  obtain ⟨rfl, hs2⟩ := hp2
  clear hcA
  have hrv := (hZ.2 _ s s.heap hz).1.1 (d + 128) (by omega)
  refine jr_castE C (nm := "java/lang/Integer") (fun H locs _ hS => va_Orecv hrv hS) lk_Lw_63 rd_Lw_event_283 ?_
  refine jm_callVr C hZ.1.1 hz hs2 (ct_JInt_intValue l D cI cR cO cB hZ (M := M) (n := d) (by omega)) lk_Lw_65 xw_JInt_intValue sw_JInt_intValue iw_JInt cw_JInt_intValue na_JInt_intValue ⟨by dsimp only [jk_rx]; omega, by dsimp only [jk_rx]; omega⟩ rfl (fun H locs _ hS => va_Orecv hrv hS) (st := []) rfl (Nat.le_of_ble_eq_true rfl) rd_Lw_event_286 ⟨by dsimp only [jk_rx]; omega, by dsimp only [jk_rx]; omega⟩ (fun v w3 hp4 => ?_)
  obtain ⟨rfl, hi3⟩ := hp4
  clear hrv
  refine jr_if_eq C rd_Lw_event_289 (tgt := 327) rfl ⟨by omega, by omega⟩ (fun hc => ?_) (fun hc => ?_)
  · refine jk_aload_n C rd_Lw_event_327 (k := 9) rfl ?_
    refine jm_callV C hZ.1.1 hz hi3 (cm_KR_cordCount l D hZ.1 cI cR cO cB hX ((jK_all S K 0 cs).length : Int) hQ2) lk_Lw_44 ki_KR_cordCount ks_KR_cordCount iw_KR kc_KR_cordCount na_KR_cordCount ⟨by dsimp only [jk_rx]; omega, by dsimp only [jk_rx]; omega⟩ rfl hkr rfl rfl (st := []) rfl (Nat.le_of_ble_eq_true rfl) rd_Lw_event_328 ⟨by dsimp only [jk_rx]; omega, by dsimp only [jk_rx]; omega⟩ (fun v w5 hp6 => ?_)
    obtain ⟨rfl, hq⟩ := hp6
    have hAq := hA.mono hq
    refine jk_aload_n C rd_Lw_event_331 (k := 8) rfl ?_
    refine jm_getN C (rfl : jm_lk w5 = _) in_Rd (ci := 13) rfl 1 (Nat.le_of_ble_eq_true rfl) (jk_nw hZ.1 hz lk_Lw_47) hAq.2.2.1 rfl rd_Lw_event_332 ?_
    obtain ⟨mcA, eA, _, _, hcA, -⟩ := id hAq.2.2.2.2.2.1
    refine jm_callF C (x := ⟨"java/util/List", "size", "()I"⟩) (q := ("java/util/ArrayList", tb_AL, 3)) (ci := 14) hZ.1.1 hz (rfl : jm_lk w5 = _) (ct_AL_size l D cI cR cO cB hZ hAq.2.2.2.2.2.1) (ff_AL_size hZ.1 hz) (fg_AL_size lk_Lw_39) cw_AL_size nf_AL_size ⟨by dsimp only [jk_rx]; omega, by dsimp only [jk_rx]; omega⟩ rfl hcA rfl (st := [jk_V (((jK_all S K 0 cs).length : Int))]) rfl (Nat.le_of_ble_eq_true rfl) rd_Lw_event_335 ⟨by dsimp only [jk_rx]; omega, by dsimp only [jk_rx]; omega⟩ (fun v w7 hp8 => ?_)
    obtain ⟨rfl, hs4⟩ := hp8
    clear hcA
    rw [hlo]
    refine jr_icmp_ne C rd_Lw_event_340 (tgt := 347) rfl ⟨by omega, by omega⟩ ⟨by omega, by omega⟩ (fun hd => absurd rfl hd) (fun _ => ?_)
    refine jk_iconst C rd_Lw_event_343 ?_
    refine jk_goto C rd_Lw_event_344 (tgt := 348) rfl ?_
    exact jm_ret_z C (Or.inr rfl) hs4 ⟨rfl, _, _, _, _, _, _, _, _, _, hI, hAq, hX.mono hq⟩ (by omega) (by omega) rd_Lw_event_348
  · refine jk_aload_n C rd_Lw_event_292 (k := 8) rfl ?_
    refine jm_getN C hi3 in_Rd (ci := 13) rfl 2 (Nat.le_of_ble_eq_true rfl) (jk_nw hZ.1 hz lk_Lw_71) hA.2.2.1 rfl rd_Lw_event_293 ?_
    refine jk_iload C rd_Lw_event_296 (k := 1) rfl ?_
    obtain ⟨mcA, eA, _, _, hcA, -⟩ := id hA.2.2.2.2.2.2.1
    refine jm_callF C (x := ⟨"java/util/List", "get", "(I)Ljava/lang/Object;"⟩) (q := ("java/util/ArrayList", tb_AL, 3)) (ci := 14) hZ.1.1 hz hi3 (ct_AL_get l D cI cR cO cB hZ hA.2.2.2.2.2.2.1 hgd) (ff_AL_get hZ.1 hz) (fg_AL_get lk_Lw_50) cw_AL_get nf_AL_get ⟨by dsimp only [jk_rx]; omega, by dsimp only [jk_rx]; omega⟩ rfl hcA rfl (st := []) rfl (Nat.le_of_ble_eq_true rfl) rd_Lw_event_298 ⟨by dsimp only [jk_rx]; omega, by dsimp only [jk_rx]; omega⟩ (fun v w9 hp10 => ?_)
    obtain ⟨rfl, hs5⟩ := hp10
    clear hcA
    have hrv := (hZ.2 _ s s.heap hz).1.1 (d + 128) (by omega)
    refine jr_castE C (nm := "java/lang/Integer") (fun H locs _ hS => va_Orecv hrv hS) lk_Lw_63 rd_Lw_event_303 ?_
    refine jm_callVr C hZ.1.1 hz hs5 (ct_JInt_intValue l D cI cR cO cB hZ (M := M) (n := d) (by omega)) lk_Lw_65 xw_JInt_intValue sw_JInt_intValue iw_JInt cw_JInt_intValue na_JInt_intValue ⟨by dsimp only [jk_rx]; omega, by dsimp only [jk_rx]; omega⟩ rfl (fun H locs _ hS => va_Orecv hrv hS) (st := []) rfl (Nat.le_of_ble_eq_true rfl) rd_Lw_event_306 ⟨by dsimp only [jk_rx]; omega, by dsimp only [jk_rx]; omega⟩ (fun v w11 hp12 => ?_)
    obtain ⟨rfl, hi6⟩ := hp12
    clear hrv
    refine jk_iconst C rd_Lw_event_309 ?_
    refine jr_icmp_eq C rd_Lw_event_310 (tgt := 327) rfl ⟨by omega, by omega⟩ ⟨by omega, by omega⟩ (fun hc3 => ?_) (fun hc3 => ?_)
    · refine jk_aload_n C rd_Lw_event_327 (k := 9) rfl ?_
      refine jm_callV C hZ.1.1 hz hi6 (cm_KR_cordCount l D hZ.1 cI cR cO cB hX ((jK_all S K 0 cs).length : Int) hQ2) lk_Lw_44 ki_KR_cordCount ks_KR_cordCount iw_KR kc_KR_cordCount na_KR_cordCount ⟨by dsimp only [jk_rx]; omega, by dsimp only [jk_rx]; omega⟩ rfl hkr rfl rfl (st := []) rfl (Nat.le_of_ble_eq_true rfl) rd_Lw_event_328 ⟨by dsimp only [jk_rx]; omega, by dsimp only [jk_rx]; omega⟩ (fun v w13 hp14 => ?_)
      obtain ⟨rfl, hq⟩ := hp14
      have hAq := hA.mono hq
      refine jk_aload_n C rd_Lw_event_331 (k := 8) rfl ?_
      refine jm_getN C (rfl : jm_lk w13 = _) in_Rd (ci := 13) rfl 1 (Nat.le_of_ble_eq_true rfl) (jk_nw hZ.1 hz lk_Lw_47) hAq.2.2.1 rfl rd_Lw_event_332 ?_
      obtain ⟨mcA, eA, _, _, hcA, -⟩ := id hAq.2.2.2.2.2.1
      refine jm_callF C (x := ⟨"java/util/List", "size", "()I"⟩) (q := ("java/util/ArrayList", tb_AL, 3)) (ci := 14) hZ.1.1 hz (rfl : jm_lk w13 = _) (ct_AL_size l D cI cR cO cB hZ hAq.2.2.2.2.2.1) (ff_AL_size hZ.1 hz) (fg_AL_size lk_Lw_39) cw_AL_size nf_AL_size ⟨by dsimp only [jk_rx]; omega, by dsimp only [jk_rx]; omega⟩ rfl hcA rfl (st := [jk_V (((jK_all S K 0 cs).length : Int))]) rfl (Nat.le_of_ble_eq_true rfl) rd_Lw_event_335 ⟨by dsimp only [jk_rx]; omega, by dsimp only [jk_rx]; omega⟩ (fun v w15 hp16 => ?_)
      obtain ⟨rfl, hs7⟩ := hp16
      clear hcA
      rw [hlo]
      refine jr_icmp_ne C rd_Lw_event_340 (tgt := 347) rfl ⟨by omega, by omega⟩ ⟨by omega, by omega⟩ (fun hd => absurd rfl hd) (fun _ => ?_)
      refine jk_iconst C rd_Lw_event_343 ?_
      refine jk_goto C rd_Lw_event_344 (tgt := 348) rfl ?_
      exact jm_ret_z C (Or.inr rfl) hs7 ⟨rfl, _, _, _, _, _, _, _, _, _, hI, hAq, hX.mono hq⟩ (by omega) (by omega) rd_Lw_event_348
    · refine jk_aload_n C rd_Lw_event_313 (k := 8) rfl ?_
      refine jm_getN C hi6 in_Rd (ci := 13) rfl 1 (Nat.le_of_ble_eq_true rfl) (jk_nw hZ.1 hz lk_Lw_47) hA.2.2.1 rfl rd_Lw_event_314 ?_
      obtain ⟨mcA, eA, _, _, hcA, -⟩ := id hA.2.2.2.2.2.1
      refine jm_callF C (x := ⟨"java/util/List", "size", "()I"⟩) (q := ("java/util/ArrayList", tb_AL, 3)) (ci := 14) hZ.1.1 hz hi6 (ct_AL_size l D cI cR cO cB hZ hA.2.2.2.2.2.1) (ff_AL_size hZ.1 hz) (fg_AL_size lk_Lw_39) cw_AL_size nf_AL_size ⟨by dsimp only [jk_rx]; omega, by dsimp only [jk_rx]; omega⟩ rfl hcA rfl (st := []) rfl (Nat.le_of_ble_eq_true rfl) rd_Lw_event_317 ⟨by dsimp only [jk_rx]; omega, by dsimp only [jk_rx]; omega⟩ (fun v w17 hp18 => ?_)
      obtain ⟨rfl, hs8⟩ := hp18
      clear hcA
      rw [hlo]
      refine jk_bipush C rd_Lw_event_322 (by decide +kernel) ?_
      refine jr_icmp_ne C rd_Lw_event_324 (tgt := 349) rfl ⟨by omega, by omega⟩ ⟨by omega, by omega⟩ (fun hc4 => ?_) (fun hc4 => ?_)
      · refine jm_new C hs8 in_Cd (ty0 := tf_Cd) ty_Cd lk_Lw_54 nw_Cd iw_Cd (ci := 11) rfl (fs := [.null, jk_V 0, jk_V 0, .null]) (by intro j hj; rcases j with _ | _ | _ | _ | j <;> first | rfl | omega) ⟨by dsimp only [jk_rx]; omega, by dsimp only [jk_rx]; omega⟩ rd_Lw_event_349 (fun x9 wn hn9 hwn => ?_)
        obtain ⟨M23, hM23⟩ : ∃ Mx : jm_M, Mx = jm_up M x9 (.inr (11, [.null, jk_V 0, jk_V 0, .null])) := ⟨_, rfl⟩
        replace hwn : jm_lk wn = M23 := by rw [hM23]; exact hwn
        have hne23_r := jm_nen hA.2.2.1 hn9
        have hc23_r := jm_keep hM23 hA.2.2.1 hne23_r
        have hc23_x9 := jm_this hM23
        refine jk_dup C rd_Lw_event_352 rfl ?_
        refine jk_iload C rd_Lw_event_353 (k := 5) rfl ?_
        refine jk_iload_n C rd_Lw_event_355 (k := 6) rfl ?_
        refine jm_callI C hZ.1.1 hz hwn (ct_Cd_init l D cI cR cO cB hZ hc23_x9 ⟨by omega, by omega⟩) lk_Lw_166 xw_Cd_init iw_Cd cw_Cd_init rfl na_Cd_init ⟨by dsimp only [jk_rx]; omega, by dsimp only [jk_rx]; omega⟩ rfl (st := [.ref x9]) rfl (Nat.le_of_ble_eq_true rfl) rd_Lw_event_356 ⟨by dsimp only [jk_rx]; omega, by dsimp only [jk_rx]; omega⟩ (fun v w24 hp25 => ?_)
        obtain ⟨rfl, k9, b9, hk9, hb9, hbk, hx1, hk1, hb1, hle0⟩ := hp25
        have hleM : jm_le M (jm_lk w24) := fun y e hy => hle0 y e (by rw [hM23, jm_up_n (jm_nen hy hn9)]; exact hy) (jm_nen hy hn9)
        have hk9M : M k9 = none := by
          cases hbb : M k9 with
          | none => rfl
          | some e =>
            rw [hM23, jm_up_n (jm_nen hbb hn9), hbb] at hk9
            cases hk9
        have hk9x : k9 ≠ x9 := fun z => by rw [z, hM23, jm_up_s] at hk9; cases hk9
        have hb9M : M b9 = none := by
          cases hbb : M b9 with
          | none => rfl
          | some e =>
            rw [hM23, jm_up_n (jm_nen hbb hn9), hbb] at hb9
            cases hb9
        have hb9x : b9 ≠ x9 := fun z => by rw [z, hM23, jm_up_s] at hb9; cases hb9
        have hA1 := hA.newc hleM hn9 hk9M hb9M hk9x hb9x hbk hx1 hk1 hb1
        have hF1 : jl_FrP ow M (jw_o3 ow x9 k9 b9) (jm_lk w24) (fun _ => False) := jw_o3_fr hleM hn9 hk9M hb9M
        have hX1 := hX.fr hF1 id
        have hnP : ¬ P x9 := fun h => by
          have := (hA.1 x9 h).1.1
          rw [hn9] at this
          cases this
        have hnc : x9 ∉ cs := fun h => by
          have := (hA.2.1 x9 h).1
          rw [hn9] at this
          cases this
        obtain ⟨zz, i9, hf, hz1, hi1, hi2, hI2⟩ := hO σ S K P cs hI k x d c hk (by omega) (by omega) (by omega) tp va htp hva x9 k9 b9 hnP hnc
        have hxne : x ≠ x9 := fun z => hnP (z ▸ hPx)
        have hcd1 := (hA1.1 x (Or.inl hPx)).1
        have hbl : jS_bl (jS_n S x9 k9 b9 (jl_dgs (fun _ => 0) (va : Int)) (tp : Int)) x = jS_bl S x := if_neg hxne
        have hchx : jS_ch (jS_n S x9 k9 b9 (jl_dgs (fun _ => 0) (va : Int)) (tp : Int)) x = jS_ch S x := if_neg hxne
        have hcl1 := hcd1.2.2.2.2
        rw [hbl, hchx] at hcl1
        have hc0 := hcd1.1
        rw [hbl] at hc0
        refine jr_astore C rd_Lw_event_359 (Nat.le_of_ble_eq_true rfl) rfl ?_
        refine jk_aload C rd_Lw_event_361 (k := 1) rfl ?_
        refine jm_getN C (rfl : jm_lk w24 = _) in_Cd (ci := 11) rfl 3 (Nat.le_of_ble_eq_true rfl) (jk_nw hZ.1 hz lk_Lw_96) hc0 rfl rd_Lw_event_363 ?_
        refine jk_aload C rd_Lw_event_366 (k := 0) rfl ?_
        obtain ⟨mcA, eA, _, _, hcA, -⟩ := id hcl1
        refine jm_callF C (x := ⟨"java/util/List", "add", "(Ljava/lang/Object;)Z"⟩) (q := ("java/util/ArrayList", tb_AL, 3)) (ci := 14) hZ.1.1 hz (rfl : jm_lk w24 = _) (ct_AL_add l D cI cR cO cB hZ hcl1 (Or.inl ⟨_, hx1⟩) hjch (fun y hy => Or.inl ⟨_, (hA1.1 y (Or.inl (hch y hy))).1.1⟩)) (ff_AL_add hZ.1 hz) (fg_AL_add lk_Lw_169) cw_AL_add nf_AL_add ⟨by dsimp only [jk_rx]; omega, by dsimp only [jk_rx]; omega⟩ rfl hcA rfl (st := []) rfl (Nat.le_of_ble_eq_true rfl) rd_Lw_event_368 ⟨by dsimp only [jk_rx]; omega, by dsimp only [jk_rx]; omega⟩ (fun v w26 hp27 => ?_)
        obtain ⟨rfl, ow2, hL2, hF2⟩ := hp27
        clear hcA
        rw [← hbl] at hL2
        have hA2 := hA1.chl (Or.inl hPx) hF2 hL2 (fun b hb => (List.mem_append.mp hb).elim (fun h => Or.inl (hch b h)) (fun h => Or.inr (List.mem_singleton.mp h)))
        have hX2 := hX1.fr hF2 (by omega)
        refine jk_pop C rd_Lw_event_373 rfl ?_
        refine jk_aload_n C rd_Lw_event_374 (k := 9) rfl ?_
        obtain ⟨gN, gcs, gKP, gVd, gVk, gVc, -⟩ := hBB _ _ _ _ _ hI2
        have gC : jl_CS cO z0 _ _ _ _ _ cs := fun c hc => ⟨hA2.2.1 c hc, gKP c hc⟩
        refine jm_callV C hZ.1.1 hz (rfl : jm_lk w26 = _) (ct_Rd_listsAll l D cI cR cO cB hZ hA2.1 hA2.2.2 gC gN (by omega)) lk_Lw_27 xw_Rd_listsAll sw_Rd_listsAll iw_Rd cw_Rd_listsAll na_Rd_listsAll ⟨by dsimp only [jk_rx]; omega, by dsimp only [jk_rx]; omega⟩ rfl hA2.2.2.1 rfl rfl (st := []) rfl (Nat.le_of_ble_eq_true rfl) rd_Lw_event_375 ⟨by dsimp only [jk_rx]; omega, by dsimp only [jk_rx]; omega⟩ (fun v w28 hp29 => ?_)
        obtain ⟨rfl, ow3, hR3, hF3, hLok3⟩ := hp29
        have hX3 := hX2.fr hF3 (by rintro (h | h | h) <;> omega)
        have hA3 : jl_Al cI cO z0 _ _ _ _ _ r rc ro rd ri cs _ _ _ := ⟨hA2.1.fr hF3 (fun _ => jl_T3m), fun c hc => (hA2.2.1 c hc).fr hF3 (fun z => by have := jl_T3m z; omega) (fun z => by have := jl_T3m z; omega), hR3⟩
        obtain ⟨fs3, hkr3, -⟩ := hX3.kr
        refine jk_aload_n C rd_Lw_event_378 (k := 10) rfl ?_
        refine jk_iload C rd_Lw_event_379 (k := 2) rfl ?_
        refine jk_iload C rd_Lw_event_381 (k := 6) rfl ?_
        refine jk_iload_n C rd_Lw_event_383 (k := 7) rfl ?_
        refine jm_callV C hZ.1.1 hz (rfl : jm_lk w28 = _) (cn_KR_addSubsidiary l D hZ.1 hl cI cR cO cB hX3 hg (k : Int) (tp : Int) (va : Int) hf) lk_Lw_176 ki_KR_addSubsidiary ks_KR_addSubsidiary iw_KR kc_KR_addSubsidiary na_KR_addSubsidiary ⟨by dsimp only [jk_rx]; omega, by dsimp only [jk_rx]; omega⟩ rfl hkr3 rfl rfl (st := []) rfl (Nat.le_of_ble_eq_true rfl) rd_Lw_event_384 ⟨by dsimp only [jk_rx]; omega, by dsimp only [jk_rx]; omega⟩ (fun v w31 hp32 => ?_)
        obtain ⟨rfl, hX30, hF30⟩ := hp32
        rw [hz1]
        have hA4 := hA3.fr hF30 (fun y hy => by omega) (fun y hy => by omega) (fun y hy => by omega)
        refine jk_aload_n C rd_Lw_event_387 (k := 9) rfl ?_
        refine jk_aload C rd_Lw_event_388 (k := 0) rfl ?_
        have hil := (List.getElem?_eq_some_iff.mp hi1).1
        rw [jl_lo_len] at hil
        refine jm_callV C hZ.1.1 hz (rfl : jm_lk w31 = _) (ct_Rd_indexOf l D cI cR cO cB hZ (S := S) (P := P) hA4.2.2 (by omega) hi1 hi2) lk_Lw_146 xw_Rd_indexOf sw_Rd_indexOf iw_Rd cw_Rd_indexOf na_Rd_indexOf ⟨by dsimp only [jk_rx]; omega, by dsimp only [jk_rx]; omega⟩ rfl hA4.2.2.1 rfl rfl (st := [jk_V ((i9 : Int))]) rfl (Nat.le_of_ble_eq_true rfl) rd_Lw_event_390 ⟨by dsimp only [jk_rx]; omega, by dsimp only [jk_rx]; omega⟩ (fun v w33 hp34 => ?_)
        obtain ⟨rfl, hio⟩ := hp34
        refine jr_icmp_ne C rd_Lw_event_393 (tgt := 400) rfl ⟨by omega, by omega⟩ ⟨by omega, by omega⟩ (fun hd => absurd rfl hd) (fun _ => ?_)
        refine jk_iconst C rd_Lw_event_396 ?_
        refine jk_goto C rd_Lw_event_397 (tgt := 401) rfl ?_
        exact jm_ret_z C (Or.inr rfl) hio ⟨rfl, _, _, _, _, _, _, _, _, _, hI2, hA4, hX30⟩ (by omega) (by omega) rd_Lw_event_401
      · refine jk_aload_n C rd_Lw_event_327 (k := 9) rfl ?_
        refine jm_callV C hZ.1.1 hz hs8 (cm_KR_cordCount l D hZ.1 cI cR cO cB hX ((jK_all S K 0 cs).length : Int) hQ2) lk_Lw_44 ki_KR_cordCount ks_KR_cordCount iw_KR kc_KR_cordCount na_KR_cordCount ⟨by dsimp only [jk_rx]; omega, by dsimp only [jk_rx]; omega⟩ rfl hkr rfl rfl (st := []) rfl (Nat.le_of_ble_eq_true rfl) rd_Lw_event_328 ⟨by dsimp only [jk_rx]; omega, by dsimp only [jk_rx]; omega⟩ (fun v w19 hp20 => ?_)
        obtain ⟨rfl, hq⟩ := hp20
        have hAq := hA.mono hq
        refine jk_aload_n C rd_Lw_event_331 (k := 8) rfl ?_
        refine jm_getN C (rfl : jm_lk w19 = _) in_Rd (ci := 13) rfl 1 (Nat.le_of_ble_eq_true rfl) (jk_nw hZ.1 hz lk_Lw_47) hAq.2.2.1 rfl rd_Lw_event_332 ?_
        obtain ⟨mcA, eA, _, _, hcA, -⟩ := id hAq.2.2.2.2.2.1
        refine jm_callF C (x := ⟨"java/util/List", "size", "()I"⟩) (q := ("java/util/ArrayList", tb_AL, 3)) (ci := 14) hZ.1.1 hz (rfl : jm_lk w19 = _) (ct_AL_size l D cI cR cO cB hZ hAq.2.2.2.2.2.1) (ff_AL_size hZ.1 hz) (fg_AL_size lk_Lw_39) cw_AL_size nf_AL_size ⟨by dsimp only [jk_rx]; omega, by dsimp only [jk_rx]; omega⟩ rfl hcA rfl (st := [jk_V (((jK_all S K 0 cs).length : Int))]) rfl (Nat.le_of_ble_eq_true rfl) rd_Lw_event_335 ⟨by dsimp only [jk_rx]; omega, by dsimp only [jk_rx]; omega⟩ (fun v w21 hp22 => ?_)
        obtain ⟨rfl, hs9⟩ := hp22
        clear hcA
        rw [hlo]
        refine jr_icmp_ne C rd_Lw_event_340 (tgt := 347) rfl ⟨by omega, by omega⟩ ⟨by omega, by omega⟩ (fun hd => absurd rfl hd) (fun _ => ?_)
        refine jk_iconst C rd_Lw_event_343 ?_
        refine jk_goto C rd_Lw_event_344 (tgt := 348) rfl ?_
        exact jm_ret_z C (Or.inr rfl) hs9 ⟨rfl, _, _, _, _, _, _, _, _, _, hI, hAq, hX.mono hq⟩ (by omega) (by omega) rd_Lw_event_348
end EV3
