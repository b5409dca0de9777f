/-! more arms -/
theorem jB_lok {σ : jk_LS} {S : jl_S} {K : jl_K} {P : Nat → Prop} {cs : List Nat} (hB : jB σ S K P cs) (hd : ∀ p ∈ jK_all S K 0 cs, p.2.1 < 100 ∧ p.2.2 < 100) : jl_Lok P (jK_all S K 0 cs) := fun p hp => by
  obtain ⟨k, hk⟩ := List.getElem?_of_mem hp
  exact ⟨(hB.2.2.2.2.1 k p.1 p.2.1 p.2.2 hk).1, hd p hp⟩
theorem jR_only_P {S : jl_S} {P : Nat → Prop} {L : List (Nat × Nat × Nat)} {j x : Nat} (h : jl_Lok P L) (e2 : jR_only S L j = some x) : P x := by
  unfold jR_only at e2
  obtain ⟨p9, h1, h2⟩ := Option.map_eq_some_iff.mp e2
  rw [← h2]
  exact (h p9 (List.mem_of_find?_eq_some h1)).1
def jO_repair (Inv : jk_LS → jl_S → jl_K → (Nat → Prop) → List Nat → Prop) : Prop := ∀ (σ : jk_LS) (S : jl_S) (K : jl_K) (P : Nat → Prop) (cs : List Nat), Inv σ S K P cs → ∀ (j cu t x : Nat), cs[j]? = some cu → jR_rs S K (jK_all S K 0 cs) cu j = 0 → jK_tp K cu = some t → jR_only S (jK_all S K 0 cs) j = some x → ∃ z, jf_repair σ (j : Int) = some (.inr z) ∧ z.1 = jR_gv S K t x cu ∧ (0 ≤ jR_gv S K t x cu ∧ jR_gv S K t x cu < 100000) ∧ Inv (js_repair σ z) (jS_w S x (jl_dgs (jS_dg S x) (jR_gv S K t x cu)) (jS_tp S x) 0) K P cs
def jO_addCluster (Inv : jk_LS → jl_S → jl_K → (Nat → Prop) → List Nat → Prop) : Prop := ∀ (σ : jk_LS) (S : jl_S) (K : jl_K) (P : Nat → Prop) (cs : List Nat), Inv σ S K P cs → cs.length < 6 → ∀ (c b : Nat), c ∉ cs → ¬ P c → ∃ z, jf_addCluster σ = some (.inr z) ∧ z.1 = (cs.length : Int) ∧ Inv (js_addCluster σ z) S (jK_n K c b) P (cs ++ [c])
theorem jl_Al.addk {cI cO : ClassId} {z0 : Nat} {ow ow' : Nat → Nat} {M M' : jm_M} {S : jl_S} {K : jl_K} {P : Nat → Prop} {r rc ro rd ri c : Nat} {cs os ds is : List Nat} (h : jl_Al cI cO z0 ow M S K P r rc ro rd ri cs os ds is) (hF : jl_Fr ow M ow' M' (8 * r + 2)) (h1 : jl_AL cO z0 ow' M' (8 * r + 2) rc (cs ++ [c])) (hC : jl_Cu cO z0 ow M K c) (hcr : c ≠ r) : jl_Al cI cO z0 ow' M' S K P r rc ro rd ri (cs ++ [c]) os ds is := by
  refine ⟨fun y hy => ⟨(h.1 y hy).1.fr hF (by omega) (by omega) (by have := (h.ck hy).2; omega), (h.1 y hy).2⟩, fun d hd => ?_, ?_⟩
  · rcases List.mem_append.mp hd with hd | hd
    · exact (h.2.1 d hd).fr hF (by omega) (by have := h.cr hd; omega)
    · rw [List.mem_singleton.mp hd]
      exact hC.fr hF (by omega) (by omega)
  · obtain ⟨r1, r2, r3, r4, r5, r6⟩ := h.2.2
    exact ⟨(hF _ _ r1).2.2 (by rw [r2]; dsimp only; omega), (hF _ _ r1).1.trans r2, h1, r4.fr hF (by omega), r5.fr hF (by omega), r6.fr hF (by omega)⟩
section EV2
variable {p : Program} {l : Launch} {ev : Env} {s : State} {m : MethodId} {args : Array Value} {below : List Frame} {meth : Method} {cod : Code} {D : va_G} {Z : (Nat → Prop) → State → Heap → Prop} {sq iad : Nat → Nat} {z0 zi mi : Nat} {cI cR cO cB : ClassId} {w ws : va_W} {g : Nat → Option Nat} {ad : Nat → Nat} {σ : jk_LS} {ow : Nat → Nat} {M : jm_M} {S : jl_S} {K : jl_K} {P : Nat → Prop} {r rc ro rd ri tX x k j cu d c tp va : Nat} {cs : List Nat} {wh xx : Int} {cells slots : Nat} {Inv : jk_LS → jl_S → jl_K → (Nat → Prop) → List Nat → Prop}
set_option maxHeartbeats 2000000 in
set_option maxRecDepth 20000 in
theorem ev_repair (C : jk_C p s m args meth cod mb_Lw_event mn_Lw_event.cls 13 jk_WA D jk_cl (jl_ty cI cR cO cB) (va_A w s.heap.size) (some .boolean)) (hZ : jl_ZK Z sq iad z0 zi mi) (hz : Z (va_A w s.heap.size) s s.heap) (hl : l.stackTraces = false) (hg : ∀ j, j < 8 → g j = some (ad (48 + 11 * j))) (hws : jm_lk ws = M) (hA : jl_Al cI cO z0 ow M S K P r rc ro rd ri cs (jl_lo (jK_all S K 0 cs)) (jl_ld iad (jK_all S K 0 cs)) (jl_li iad (jK_all S K 0 cs))) (hX : jm_X ow M tX (WX cI cR g ad σ)) (hX6 : tX % 8 = 6) (hI : Inv σ S K P cs) (hB : jB σ S K P cs) (hcl : cells ≤ 200) (hsl : slots ≤ 3000) (hdl : ∀ p ∈ jK_all S K 0 cs, p.2.1 < 100 ∧ p.2.2 < 100) (hO : jO_repair Inv) (hj : cs[j]? = some cu) (htp : tp < 2) : jk_J p l ev (jk_rx 22 1200 14000 700) s m args below meth cod cells slots (MQ below (jm_Post D jk_cl (jl_ty cI cR cO cB) (va_A w s.heap.size) (jw_EP Inv cI cR cO z0 g ad tX r rc ro rd ri)) args s 1200 14000 (va_A w s.heap.size)) D jk_cl (va_A w s.heap.size) 13 ws [(9, .ref x), (8, jk_V ((k : Int))), (7, jk_V wh), (6, .ref cu), (5, jk_V ((j : Int))), (4, jk_V ((tp : Int))), (3, jk_V ((va : Int))), (2, jk_V xx), (1, .ref r), (0, .ref ((ad 0)))] 855 [] := by
  obtain ⟨hN, hcs, hKP, hVd, hVk, hVc, hQ1, hQ2, hQ3, hQ4⟩ := id hB
  obtain ⟨fs0, hkr, hkro⟩ := hX.kr
  obtain ⟨v1, v2, v3, v4, v5, v6⟩ := hVc j cu hj
  obtain ⟨q1, q2, q3, q4, q5, q6⟩ := hQ4 j cu hj
  have hcm := List.mem_of_getElem? hj
  have hCu := hA.2.1 cu hcm
  have hKPc := hKP cu hcm
  have hrsR := @jR_rs_R S K (jK_all S K 0 cs) cu j
  have hC : jl_CS cO z0 ow M S K P cs := fun c hc => ⟨hA.2.1 c hc, hKP c hc⟩
  have hjl : j < cs.length := (List.getElem?_eq_some_iff.mp hj).1
  have hLok := jB_lok hB hdl
  refine jk_aload_n C rd_Lw_event_855 (k := 8) rfl ?_
  refine jk_iload C rd_Lw_event_856 (k := 4) rfl ?_
  refine jm_callV C hZ.1.1 hz hws (ct_Rd_reason l D cI cR cO cB hZ hA.1 hA.2.2 hC hLok (by omega) (by omega) hj hVd v6) lk_Lw_130 xw_Rd_reason sw_Rd_reason iw_Rd cw_Rd_reason na_Rd_reason ⟨by dsimp only [jk_rx]; omega, by dsimp only [jk_rx]; omega⟩ rfl hA.2.2.1 rfl rfl (st := []) rfl (Nat.le_of_ble_eq_true rfl) rd_Lw_event_858 ⟨by dsimp only [jk_rx]; omega, by dsimp only [jk_rx]; omega⟩ (fun v w1 hp2 => ?_)
  obtain ⟨rfl, hle1⟩ := hp2
  refine jr_if_eq C rd_Lw_event_861 (tgt := 879) rfl hrsR (fun hc => ?_) (fun hc => ?_)
  · obtain ⟨t9, x9, e1, e2, e3, -⟩ := q6 hc
    have hPx : P x9 := jR_only_P hLok e2
    obtain ⟨zz, hf, hz1, hgr, hI2⟩ := hO σ S K P cs hI j cu t9 x9 hj hc e1 e2
    have hA0 := hA.mono hle1
    have hX0 := hX.mono hle1
    have hC0 := hC.mono hle1
    refine jk_aload_n C rd_Lw_event_879 (k := 8) rfl ?_
    refine jk_iload C rd_Lw_event_880 (k := 4) rfl ?_
    refine jm_callV C hZ.1.1 hz (rfl : jm_lk w1 = _) (ct_Rd_guess l D cI cR cO cB hZ hA0.1 hA0.2.2 hC0 hLok (by omega) (by omega) hj e1 e2 hPx) lk_Lw_153 xw_Rd_guess sw_Rd_guess iw_Rd cw_Rd_guess na_Rd_guess ⟨by dsimp only [jk_rx]; omega, by dsimp only [jk_rx]; omega⟩ rfl hA0.2.2.1 rfl rfl (st := []) rfl (Nat.le_of_ble_eq_true rfl) rd_Lw_event_882 ⟨by dsimp only [jk_rx]; omega, by dsimp only [jk_rx]; omega⟩ (fun v w6 hp7 => ?_)
    obtain ⟨rfl, hle2⟩ := hp7
    have hle3 := hle1.trans hle2
    have hA3 := hA.mono hle3
    have hX3 := hX.mono hle3
    refine jk_istore C rd_Lw_event_885 (Nat.le_of_ble_eq_true rfl) rfl ?_
    refine jk_aload_n C rd_Lw_event_887 (k := 9) rfl ?_
    refine jk_iload C rd_Lw_event_888 (k := 5) rfl ?_
    refine jm_callV C hZ.1.1 hz (rfl : jm_lk w6 = _) (ct_Rd_only l D cI cR cO cB hZ hA3.1 hA3.2.2 hLok (by omega) (by omega)) lk_Lw_209 xw_Rd_only sw_Rd_only iw_Rd cw_Rd_only na_Rd_only ⟨by dsimp only [jk_rx]; omega, by dsimp only [jk_rx]; omega⟩ rfl hA3.2.2.1 rfl rfl (st := []) rfl (Nat.le_of_ble_eq_true rfl) rd_Lw_event_890 ⟨by dsimp only [jk_rx]; omega, by dsimp only [jk_rx]; omega⟩ (fun v w8 hp9 => ?_)
    obtain ⟨rfl, hg3⟩ := hp9
    rw [e2]
    change jk_J _ _ _ _ _ _ _ _ _ _ _ _ _ _ _ _ _ _ _ _ [.ref x9]
    obtain ⟨hcd, hnb, hch⟩ := hA3.1 x9 hPx
    obtain ⟨M4, hM4⟩ : ∃ Mx : jm_M, Mx = jm_lk w6 := ⟨_, rfl⟩
    rw [← hM4] at hg3 hcd hA3 hX3
    refine jr_astore C rd_Lw_event_893 (Nat.le_of_ble_eq_true rfl) rfl ?_
    refine jk_aload C rd_Lw_event_895 (k := 0) rfl ?_
    refine jk_iconst C rd_Lw_event_897 ?_
    refine jm_putN C hg3 in_Cd (ty0 := tf_Cd) ty_Cd nm_Cd (ci := 11) rfl 2 (Nat.le_of_ble_eq_true rfl) (jk_nw hZ.1 hz lk_Lw_90) rfl rfl rfl hcd.1 (Nat.le_of_ble_eq_true rfl) rd_Lw_event_898 (fun w10 hw10 => ?_)
    obtain ⟨M11, hM11⟩ : ∃ Mx : jm_M, Mx = jm_up M4 x9 (.inr (11, [.ref ((jS_kn S x9)), jk_V ((jS_tp S x9)), jk_V 0, .ref ((jS_bl S x9))])) := ⟨_, rfl⟩
    replace hw10 : jm_lk w10 = M11 := by rw [hM11]; exact hw10
    have hc11_jS_knSx9 := jm_keep hM11 hcd.2.2.1 (jm_nek hcd.2.2.1 hcd.1 rfl)
    have hc11_x9 := jm_this hM11
    refine jk_aload C rd_Lw_event_901 (k := 0) rfl ?_
    refine jk_iload C rd_Lw_event_903 (k := 1) rfl ?_
    refine jm_callV C hZ.1.1 hz hw10 (ct_Cd_sets l D cI cR cO cB hZ hc11_x9 hc11_jS_knSx9 hgr) lk_Lw_213 xw_Cd_sets sw_Cd_sets iw_Cd cw_Cd_sets na_Cd_sets ⟨by dsimp only [jk_rx]; omega, by dsimp only [jk_rx]; omega⟩ rfl hc11_x9 rfl rfl (st := []) rfl (Nat.le_of_ble_eq_true rfl) rd_Lw_event_905 ⟨by dsimp only [jk_rx]; omega, by dsimp only [jk_rx]; omega⟩ (fun v w12 hp13 => ?_)
    obtain ⟨rfl, hM6⟩ := hp13
    obtain ⟨M6, hM6e⟩ : ∃ Mx : jm_M, Mx = jm_up M11 (jS_kn S x9) (jk_W cI 4 (jl_dgs (jS_dg S x9) (jR_gv S K t9 x9 cu))) := ⟨_, rfl⟩
    rw [← hM6e] at hM6
    have hx6 := jm_keep hM6e hc11_x9 (jm_nek hcd.1 hcd.2.2.1 rfl)
    have hk6 := jm_this hM6e
    have hFp := ((jl_Fr.put hM11 hcd.2.1).wide (T' := fun z => z = 8 * x9 ∨ z = 8 * x9 + 1) (fun _ h => Or.inl h)).trans ((jl_Fr.put hM6e hcd.2.2.2.1).wide (fun _ h => Or.inr h))
    have hX6b := hX3.fr hFp (by omega)
    have hA6 := hA3.cord hPx hFp hx6 hk6 ⟨Int.le_refl 0, by decide⟩
    obtain ⟨fs1, hkr1, -⟩ := hX6b.kr
    refine jk_aload_n C rd_Lw_event_908 (k := 11) rfl ?_
    refine jk_iload C rd_Lw_event_909 (k := 6) rfl ?_
    refine jm_callV C hZ.1.1 hz hM6 (cn_KR_repair l D hZ.1 hl cI cR cO cB hX6b hg (j : Int) hf) lk_Lw_217 ki_KR_repair ks_KR_repair iw_KR kc_KR_repair na_KR_repair ⟨by dsimp only [jk_rx]; omega, by dsimp only [jk_rx]; omega⟩ rfl hkr1 rfl rfl (st := []) rfl (Nat.le_of_ble_eq_true rfl) rd_Lw_event_911 ⟨by dsimp only [jk_rx]; omega, by dsimp only [jk_rx]; omega⟩ (fun v w15 hp16 => ?_)
    obtain ⟨rfl, hX14, hF14⟩ := hp16
    rw [hz1]
    refine jk_iload C rd_Lw_event_914 (k := 1) rfl ?_
    refine jr_icmp_ne C rd_Lw_event_916 (tgt := 923) rfl e3 e3 (fun hc => absurd rfl hc) (fun _ => ?_)
    have hA2 := hA6.fr hF14 (fun y hy => by omega) (fun y hy => by omega) (fun y hy => by omega)
    refine jk_iconst C rd_Lw_event_919 ?_
    refine jk_goto C rd_Lw_event_920 (tgt := 924) rfl ?_
    exact jm_ret_z C (Or.inr rfl) (rfl : jm_lk w15 = _) ⟨rfl, _, _, _, _, _, _, _, _, _, hI2, hA2, hX14⟩ (by omega) (by omega) rd_Lw_event_924
  · refine jk_aload_n C rd_Lw_event_864 (k := 9) rfl ?_
    refine jk_iload C rd_Lw_event_865 (k := 4) rfl ?_
    refine jm_callV C hZ.1.1 hz (rfl : jm_lk w1 = _) (cm_KR_guessObstacle l D hZ.1 hl cI cR cO cB (hX.mono hle1) (j : Int) (jR_rs S K (jK_all S K 0 cs) cu j) q2) lk_Lw_127 ki_KR_guessObstacle ks_KR_guessObstacle iw_KR kc_KR_guessObstacle na_KR_guessObstacle ⟨by dsimp only [jk_rx]; omega, by dsimp only [jk_rx]; omega⟩ rfl (hle1 _ _ hkr) rfl rfl (st := []) rfl (Nat.le_of_ble_eq_true rfl) rd_Lw_event_867 ⟨by dsimp only [jk_rx]; omega, by dsimp only [jk_rx]; omega⟩ (fun v w4 hp5 => ?_)
    obtain ⟨rfl, hq3⟩ := hp5
    refine jr_if_eq C rd_Lw_event_870 (tgt := 877) rfl hrsR (fun hd => absurd hd hc) (fun _ => ?_)
    refine jk_iconst C rd_Lw_event_873 ?_
    refine jk_goto C rd_Lw_event_874 (tgt := 878) rfl ?_
    exact jm_ret_z C (Or.inr rfl) (rfl : jm_lk w4 = _) ⟨rfl, _, _, _, _, _, _, _, _, _, hI, hA.mono (hle1.trans hq3), hX.mono (hle1.trans hq3)⟩ (by omega) (by omega) rd_Lw_event_878
set_option maxHeartbeats 2000000 in
set_option maxRecDepth 20000 in
theorem ev_addCluster (C : jk_C p s m args meth cod mb_Lw_event mn_Lw_event.cls 13 jk_WA D jk_cl (jl_ty cI cR cO cB) (va_A w s.heap.size) (some .boolean)) (hZ : jl_ZK Z sq iad z0 zi mi) (hz : Z (va_A w s.heap.size) s s.heap) (hl : l.stackTraces = false) (hg : ∀ j, j < 8 → g j = some (ad (48 + 11 * j))) (hws : jm_lk ws = M) (hA : jl_Al cI cO z0 ow M S K P r rc ro rd ri cs (jl_lo (jK_all S K 0 cs)) (jl_ld iad (jK_all S K 0 cs)) (jl_li iad (jK_all S K 0 cs))) (hX : jm_X ow M tX (WX cI cR g ad σ)) (hX6 : tX % 8 = 6) (hI : Inv σ S K P cs) (hB : jB σ S K P cs) (hcl : cells ≤ 200) (hsl : slots ≤ 3000) (hO : jO_addCluster Inv) : jk_J p l ev (jk_rx 22 1200 14000 700) s m args below meth cod cells slots (MQ below (jm_Post D jk_cl (jl_ty cI cR cO cB) (va_A w s.heap.size) (jw_EP Inv cI cR cO z0 g ad tX r rc ro rd ri)) args s 1200 14000 (va_A w s.heap.size)) D jk_cl (va_A w s.heap.size) 13 ws [(9, .ref x), (8, jk_V ((k : Int))), (7, jk_V wh), (6, .ref cu), (5, jk_V ((j : Int))), (4, jk_V ((tp : Int))), (3, jk_V ((va : Int))), (2, jk_V xx), (1, .ref r), (0, .ref ((ad 0)))] 785 [] := by
  obtain ⟨hN, hcs, hKP, hVd, hVk, hVc, hQ1, hQ2, hQ3, hQ4⟩ := id hB
  obtain ⟨fs0, hkr, hkro⟩ := hX.kr
  refine jk_aload_n C rd_Lw_event_785 (k := 8) rfl ?_
  refine jm_getN C hws in_Rd (ci := 13) rfl 0 (Nat.le_of_ble_eq_true rfl) (jk_nw hZ.1 hz lk_Lw_35) hA.2.2.1 rfl rd_Lw_event_786 ?_
  obtain ⟨mcA, eA, _, _, hcA, -⟩ := id hA.2.2.2.2.1
  refine jm_callF C (x := ⟨"java/util/List", "size", "()I"⟩) (q := ("java/util/ArrayList", tb_AL, 3)) (ci := 14) hZ.1.1 hz hws (ct_AL_size l D cI cR cO cB hZ hA.2.2.2.2.1) (ff_AL_size hZ.1 hz) (fg_AL_size lk_Lw_39) cw_AL_size nf_AL_size ⟨by dsimp only [jk_rx]; omega, by dsimp only [jk_rx]; omega⟩ rfl hcA rfl (st := []) rfl (Nat.le_of_ble_eq_true rfl) rd_Lw_event_789 ⟨by dsimp only [jk_rx]; omega, by dsimp only [jk_rx]; omega⟩ (fun v w1 hp2 => ?_)
  obtain ⟨rfl, hs1⟩ := hp2
  clear hcA
  refine jk_bipush C rd_Lw_event_794 (by decide +kernel) ?_
  refine jr_icmp_ne C rd_Lw_event_796 (tgt := 814) rfl ⟨by omega, by omega⟩ ⟨by omega, by omega⟩ (fun hc => ?_) (fun hc => ?_)
  · refine jk_aload_n C rd_Lw_event_814 (k := 8) rfl ?_
    refine jm_getN C hs1 in_Rd (ci := 13) rfl 0 (Nat.le_of_ble_eq_true rfl) (jk_nw hZ.1 hz lk_Lw_35) hA.2.2.1 rfl rd_Lw_event_815 ?_
    refine jm_new C hs1 in_Cu (ty0 := tf_Cu) ty_Cu lk_Lw_119 nw_Cu iw_Cu (ci := 12) rfl (fs := [.null, .null]) (by intro j hj; rcases j with _ | _ | j <;> first | rfl | omega) ⟨by dsimp only [jk_rx]; omega, by dsimp only [jk_rx]; omega⟩ rd_Lw_event_818 (fun c9 w9 hc9 hw9 => ?_)
    obtain ⟨M3, hM3⟩ : ∃ Mx : jm_M, Mx = jm_up M c9 (.inr (12, [.null, .null])) := ⟨_, rfl⟩
    replace hw9 : jm_lk w9 = M3 := by rw [hM3]; exact hw9
    have hne3_r := jm_nen hA.2.2.1 hc9
    have hc3_r := jm_keep hM3 hA.2.2.1 hne3_r
    have hc3_c9 := jm_this hM3
    refine jk_dup C rd_Lw_event_821 rfl ?_
    refine jm_callIN C hZ.1.1 hz hw9 (ct_Cu_init l D cI cR cO cB hZ hc3_c9) (jk_nw hZ.1 hz lk_Lw_205) xw_Cu_init iw_Cu cw_Cu_init rfl na_Cu_init ⟨by dsimp only [jk_rx]; omega, by dsimp only [jk_rx]; omega⟩ rfl (st := [.ref c9, .ref rc]) rfl (Nat.le_of_ble_eq_true rfl) rd_Lw_event_822 ⟨by dsimp only [jk_rx]; omega, by dsimp only [jk_rx]; omega⟩ (fun v w4 hp5 => ?_)
    obtain ⟨rfl, b9, hb9, hc1, hb1, hle0⟩ := hp5
    have hleM : jm_le M (jm_lk w4) := fun y e hy => hle0 y e (by rw [hM3, jm_up_n (jm_nen hy hc9)]; exact hy) (jm_nen hy hc9)
    have hb9M : M b9 = none := by
      cases hbb : M b9 with
      | none => rfl
      | some e =>
        rw [hM3, jm_up_n (jm_nen hbb hc9), hbb] at hb9
        cases hb9
    have hbc : b9 ≠ c9 := fun z => by rw [z, hM3, jm_up_s] at hb9; cases hb9
    obtain ⟨hA1, hCu1, how1⟩ := hA.newk hleM hc9 hb9M hbc hc1 hb1
    have hF1 : jl_FrP ow M ((fun (f : Nat → Nat) (y : Nat) => if y = b9 then 8 * c9 + 2 else f y) (jw_o3 ow c9 c9 b9)) (jm_lk w4) (fun _ => False) := fun y e hy => ⟨how1 y e hy, ⟨e, hleM y e hy⟩, fun _ => hleM y e hy⟩
    have hX1 := hX.fr hF1 id
    obtain ⟨mcA, eA, _, _, hcA, -⟩ := id hA1.2.2.2.2.1
    refine jm_callF C (x := ⟨"java/util/List", "add", "(Ljava/lang/Object;)Z"⟩) (q := ("java/util/ArrayList", tb_AL, 3)) (ci := 14) hZ.1.1 hz (rfl : jm_lk w4 = _) (ct_AL_add l D cI cR cO cB hZ hA1.2.2.2.2.1 (Or.inr (Or.inl ⟨_, hCu1.1⟩)) (by omega) (fun y hy => Or.inr (Or.inl ⟨_, (hA1.2.1 y hy).1⟩))) (ff_AL_add hZ.1 hz) (fg_AL_add lk_Lw_169) cw_AL_add nf_AL_add ⟨by dsimp only [jk_rx]; omega, by dsimp only [jk_rx]; omega⟩ rfl hcA rfl (st := []) rfl (Nat.le_of_ble_eq_true rfl) rd_Lw_event_825 ⟨by dsimp only [jk_rx]; omega, by dsimp only [jk_rx]; omega⟩ (fun v w6 hp7 => ?_)
    obtain ⟨rfl, ow2, hL2, hF2⟩ := hp7
    clear hcA
    have hcs9 : c9 ∉ cs := fun h => by
      have := (hA.2.1 c9 h).1
      rw [hc9] at this
      cases this
    have hcr9 : c9 ≠ r := fun h => by
      have := hA.2.2.1
      rw [← h, hc9] at this
      cases this
    have hA2 := hA1.addk hF2 hL2 hCu1 hcr9
    have hX2 := hX1.fr hF2 (by omega)
    obtain ⟨fs1, hkr1, -⟩ := hX2.kr
    have hPc9 : ¬ P c9 := fun h => by
      have := (hA.1 c9 h).1.1
      rw [hc9] at this
      cases this
    obtain ⟨zz, hf, hz1, hI2⟩ := hO σ S K P cs hI (by omega) c9 b9 hcs9 hPc9
    refine jk_pop C rd_Lw_event_830 rfl ?_
    refine jk_aload_n C rd_Lw_event_831 (k := 9) rfl ?_
    refine jm_callV C hZ.1.1 hz (rfl : jm_lk w6 = _) (cn_KR_addCluster l D hZ.1 hl cI cR cO cB hX2 hg  hf) lk_Lw_206 ki_KR_addCluster ks_KR_addCluster iw_KR kc_KR_addCluster na_KR_addCluster ⟨by dsimp only [jk_rx]; omega, by dsimp only [jk_rx]; omega⟩ rfl hkr1 rfl rfl (st := []) rfl (Nat.le_of_ble_eq_true rfl) rd_Lw_event_832 ⟨by dsimp only [jk_rx]; omega, by dsimp only [jk_rx]; omega⟩ (fun v w9 hp10 => ?_)
    obtain ⟨rfl, hX8, hF8⟩ := hp10
    rw [hz1]
    have hA3 := hA2.fr hF8 (fun y hy => by omega) (fun y hy => by omega) (fun y hy => by omega)
    refine jk_aload_n C rd_Lw_event_835 (k := 8) rfl ?_
    refine jm_getN C (rfl : jm_lk w9 = _) in_Rd (ci := 13) rfl 0 (Nat.le_of_ble_eq_true rfl) (jk_nw hZ.1 hz lk_Lw_35) hA3.2.2.1 rfl rd_Lw_event_836 ?_
    obtain ⟨mcA, eA, _, _, hcA, -⟩ := id hA3.2.2.2.2.1
    refine jm_callF C (x := ⟨"java/util/List", "size", "()I"⟩) (q := ("java/util/ArrayList", tb_AL, 3)) (ci := 14) hZ.1.1 hz (rfl : jm_lk w9 = _) (ct_AL_size l D cI cR cO cB hZ hA3.2.2.2.2.1) (ff_AL_size hZ.1 hz) (fg_AL_size lk_Lw_39) cw_AL_size nf_AL_size ⟨by dsimp only [jk_rx]; omega, by dsimp only [jk_rx]; omega⟩ rfl hcA rfl (st := [jk_V ((cs.length : Int))]) rfl (Nat.le_of_ble_eq_true rfl) rd_Lw_event_839 ⟨by dsimp only [jk_rx]; omega, by dsimp only [jk_rx]; omega⟩ (fun v w11 hp12 => ?_)
    obtain ⟨rfl, hs2⟩ := hp12
    clear hcA
    rw [List.length_append, List.length_singleton]
    refine jk_iconst C rd_Lw_event_844 ?_
    refine jk_isub C rd_Lw_event_845 ?_
    refine jr_icmp_ne C rd_Lw_event_846 (tgt := 853) rfl ⟨by omega, by omega⟩ ⟨by omega, by omega⟩ (fun hc => absurd (by omega) hc) (fun _ => ?_)
    refine jk_iconst C rd_Lw_event_849 ?_
    refine jk_goto C rd_Lw_event_850 (tgt := 854) rfl ?_
    exact jm_ret_z C (Or.inr rfl) hs2 ⟨rfl, _, _, _, _, _, _, _, _, _, hI2, hA3, hX8⟩ (by omega) (by omega) rd_Lw_event_854
  · refine jk_aload_n C rd_Lw_event_799 (k := 9) rfl ?_
    have h6 : cs.length = 6 := by omega
    refine jm_callV C hZ.1.1 hz hs1 (cm_KR_clusterCount l D hZ.1 cI cR cO cB hX (cs.length : Int) hQ1) lk_Lw_32 ki_KR_clusterCount ks_KR_clusterCount iw_KR kc_KR_clusterCount na_KR_clusterCount ⟨by dsimp only [jk_rx]; omega, by dsimp only [jk_rx]; omega⟩ rfl hkr rfl rfl (st := []) rfl (Nat.le_of_ble_eq_true rfl) rd_Lw_event_800 ⟨by dsimp only [jk_rx]; omega, by dsimp only [jk_rx]; omega⟩ (fun v w13 hp14 => ?_)
    obtain ⟨rfl, hq⟩ := hp14
    refine jk_bipush C rd_Lw_event_803 (by decide +kernel) ?_
    refine jr_icmp_ne C rd_Lw_event_805 (tgt := 812) rfl ⟨by omega, by omega⟩ ⟨by omega, by omega⟩ (fun hd => absurd (by omega) hd) (fun _ => ?_)
    refine jk_iconst C rd_Lw_event_808 ?_
    refine jk_goto C rd_Lw_event_809 (tgt := 813) rfl ?_
    exact jm_ret_z C (Or.inr rfl) (rfl : jm_lk w13 = _) ⟨rfl, _, _, _, _, _, _, _, _, _, hI, hA.mono hq, hX.mono hq⟩ (by omega) (by omega) rd_Lw_event_813
end EV2
