/-! the text told, the cords loaded -/
section LAW2
variable {p : Program} {l : Launch} {ev : Env} {s : State} {m : MethodId} {args : Array Value} {below : List Frame} {meth : Method} {cod : Code} {Q : State → Prop} {D : va_G} {A : Nat → Prop} {Z : (Nat → Prop) → State → Heap → Prop} {sq iad : Nat → Nat} {z0 zi mi : Nat} {cI cR cO cB : ClassId} {ret : Option FieldType} {g : Nat → Option Nat} {ad : Nat → Nat} {tX r rc ro rd ri b LN : Nat} {xs : Nat → Int32} {Inv : jk_LS → jl_S → jl_K → (Nat → Prop) → List Nat → Prop}
set_option maxHeartbeats 4000000 in
set_option maxRecDepth 1000000 in
theorem law_mid (C : jk_C p s m args meth cod code "KnotReaderLaw" 14 jk_WA D jk_cl (jl_ty cI cR cO cB) A ret) (hZ : jl_ZK Z sq iad z0 zi mi) (hz : Z A s s.heap) (hl : l.stackTraces = false) (hXs : ∀ (A : Nat → Prop) (U : State) (H : Heap), Z A U H → va_T .int b LN (fun j => .int (xs j)) A U H) (hLN : LN < 100000) (hg : ∀ j, j < 8 → g j = some (ad (48 + 11 * j))) (hX6 : tX % 8 = 6) (hO : jO Inv) (hCo : jO_cons Inv) {ws : va_W} {cells slots t tB : Nat} {tx : List Int} {σ : jk_LS} {S : jl_S} {K : jl_K} {P : Nat → Prop} {cs os ds is : List Nat} {ow : Nat → Nat} (hLd : ∀ T0 : Int → Int, (∀ i : Nat, i < tx.length → T0 i = tx.getD i 0) → ∃ q, jf_loadCords (jw_in σ T0 (tx.length : Int)) = some q ∧ q.1 = ((jK_all S K 0 cs).length : Int) ∧ Inv (js_loadCords (jw_in σ T0 (tx.length : Int)) q) S K P cs) (hA : jl_Al cI cO z0 ow (jm_lk ws) S K P r rc ro rd ri cs os ds is) (hX : jm_X ow (jm_lk ws) tX (WX cI cR g ad (jw_in σ (σ.T 0) 0))) (hSB : jl_SB cB ow (jm_lk ws) tB t tx 1) (htB : tB % 8 = 7) (hlen : tx.length ≤ 520) (hcl : cells ≤ 50000) (hsl : slots ≤ 800000) (hend : (∀ (ws2 : va_W) (lvx : List (Nat × Value)) (c2 s2 : Nat), c2 ≤ 400000 → s2 ≤ 4000000 → jk_J p l ev room_1 s m args below meth cod c2 s2 Q D jk_cl A 14 ws2 lvx 483 [jk_V 1])) : jk_J p l ev room_1 s m args below meth cod cells slots Q D jk_cl A 14 ws [(4, .ref t), (2, .ref r), (1, .ref ((ad 0))), (0, .ref b)] 397 [] := by
  obtain ⟨v0, cap, f0, ml, h1, -⟩ := id hSB
  refine jk_aload_n C rd_Lw_law_397 (k := 2) rfl ?_
  refine jk_aload C rd_Lw_law_398 (k := 0) rfl ?_
  refine jm_callV C hZ.1.1 hz (rfl : jm_lk ws = _) (ct_SB_toString l D cI cR cO cB hZ (t := tB + 8) hSB (by omega)) lk_Lw_253 xw_SB_toString sw_SB_toString iw_SB cw_SB_toString na_SB_toString ⟨Nat.le_of_ble_eq_true rfl, Nat.le_of_ble_eq_true rfl⟩ rfl h1 rfl rfl (st := [.ref ((ad 0))]) rfl (Nat.le_of_ble_eq_true rfl) rd_Lw_law_400 ⟨lr_c (by omega), lr_s (by omega)⟩ (fun v w101 hp102 => ?_)
  obtain ⟨q, rfl, hqn, ow1, hT, hF1⟩ := hp102
  have hX1 := hX.fr hF1 (by omega)
  have hA1 := hA.fr hF1 (fun y hy => by omega) (fun y hy => by omega) (fun y hy => by omega)
  refine jm_callS C hZ.1.1 hz (rfl : jm_lk w101 = _) (ct_Lw_told l D cI cR cO cB hZ hX1 hT (by omega) hlen) lk_Lw_257 xw_Lw_told iw_Lw cw_Lw_told na_Lw_told ⟨Nat.le_of_ble_eq_true rfl, Nat.le_of_ble_eq_true rfl⟩ rfl (st := []) rfl (Nat.le_of_ble_eq_true rfl) rd_Lw_law_403 ⟨lr_c (by omega), lr_s (by omega)⟩ (fun v w103 hp104 => ?_)
  obtain ⟨rfl, ow2, T0, hT0, hX2, hF2⟩ := hp104
  have hA2 := hA1.fr hF2 (fun y hy => by omega) (fun y hy => by omega) (fun y hy => by omega)
  refine jk_aload_n C rd_Lw_law_406 (k := 1) rfl ?_
  obtain ⟨qq, hf, hq1, hI2⟩ := hLd T0 hT0
  obtain ⟨gN, gcs, gKP, gVd, gVk, gVc, gQ1, gQ2, gQ3, gQ4⟩ := hO.1 _ _ _ _ _ hI2
  refine jm_callV C hZ.1.1 hz (rfl : jm_lk w103 = _) (ct_Rd_listsAll l D cI cR cO cB hZ hA2.1 hA2.2.2 (fun c hc => ⟨hA2.2.1 c hc, gKP c hc⟩) gN (by omega)) lk_Lw_27 xw_Rd_listsAll sw_Rd_listsAll iw_Rd cw_Rd_listsAll na_Rd_listsAll ⟨Nat.le_of_ble_eq_true rfl, Nat.le_of_ble_eq_true rfl⟩ rfl hA2.2.2.1 rfl rfl (st := []) rfl (Nat.le_of_ble_eq_true rfl) rd_Lw_law_407 ⟨lr_c (by omega), lr_s (by omega)⟩ (fun v w105 hp106 => ?_)
  obtain ⟨rfl, ow3, hR3, hF3, hLok3⟩ := hp106
  have hX3 := hX2.fr hF3 (by rintro (h | h | h) <;> omega)
  have hA3 : jl_Al cI cO z0 _ _ S K P r rc ro rd ri cs _ _ _ := ⟨hA2.1.fr hF3 (fun _ => jl_T3m), fun c hc => (hA2.2.1 c hc).fr hF3 (fun z => by have := jl_T3m z; omega) (fun z => by have := jl_T3m z; omega), hR3⟩
  obtain ⟨fs3, hkr3, -⟩ := hX3.kr
  refine jk_aload_n C rd_Lw_law_410 (k := 2) rfl ?_
  refine jm_callV C hZ.1.1 hz (rfl : jm_lk w105 = _) (cn_KR_loadCords l D hZ.1 cI cR cO cB hX3 hf) lk_Lw_261 ki_KR_loadCords ks_KR_loadCords iw_KR kc_KR_loadCords na_KR_loadCords ⟨Nat.le_of_ble_eq_true rfl, Nat.le_of_ble_eq_true rfl⟩ rfl hkr3 rfl rfl (st := []) rfl (Nat.le_of_ble_eq_true rfl) rd_Lw_law_411 ⟨lr_c (by omega), lr_s (by omega)⟩ (fun v w107 hp108 => ?_)
  obtain ⟨rfl, hX4, hF4⟩ := hp108
  rw [hq1]
  have hA4 := hA3.fr hF4 (fun y hy => by omega) (fun y hy => by omega) (fun y hy => by omega)
  refine jk_aload_n C rd_Lw_law_414 (k := 1) rfl ?_
  refine jm_getN C (rfl : jm_lk w107 = _) in_Rd (ci := 13) rfl 1 (Nat.le_of_ble_eq_true rfl) (jk_nw hZ.1 hz lk_Lw_47) hA4.2.2.1 rfl rd_Lw_law_415 ?_
  obtain ⟨mcA, eA, _, _, hcA, -⟩ := id hA4.2.2.2.2.2.1
  refine jm_callF C (x := ⟨"java/util/List", "size", "()I"⟩) (q := ("java/util/ArrayList", tb_AL, 3)) (ci := 14) hZ.1.1 hz (rfl : jm_lk w107 = _) (ct_AL_size l D cI cR cO cB hZ hA4.2.2.2.2.2.1) (ff_AL_size hZ.1 hz) (fg_AL_size lk_Lw_39) cw_AL_size nf_AL_size ⟨Nat.le_of_ble_eq_true rfl, Nat.le_of_ble_eq_true rfl⟩ rfl hcA rfl (st := [jk_V (((jK_all S K 0 cs).length : Int))]) rfl (Nat.le_of_ble_eq_true rfl) rd_Lw_law_418 ⟨lr_c (by omega), lr_s (by omega)⟩ (fun v w109 hp110 => ?_)
  obtain ⟨rfl, hs1⟩ := hp110
  clear hcA
  rw [jl_lo_len]
  refine jr_icmp_ne C rd_Lw_law_423 (tgt := 434) rfl ⟨by omega, by omega⟩ ⟨by omega, by omega⟩ (fun hd => absurd rfl hd) (fun _ => ?_)
  refine jk_aload_n C rd_Lw_law_426 (k := 2) rfl ?_
  refine jk_aload_n C rd_Lw_law_427 (k := 1) rfl ?_
  refine jm_callS C hZ.1.1 hz hs1 (ct_Lw_isWhole l D cI cR cO cB hZ hl hX4 hX6 hA4.1 hA4.2.2 (fun c hc => ⟨hA4.2.1 c hc, gKP c hc⟩) gN (by omega) gVd gVk gVc gQ1 gQ2 gQ3 gQ4) lk_Lw_264 xw_Lw_isWhole iw_Lw cw_Lw_isWhole na_Lw_isWhole ⟨Nat.le_of_ble_eq_true rfl, Nat.le_of_ble_eq_true rfl⟩ rfl (st := []) rfl (Nat.le_of_ble_eq_true rfl) rd_Lw_law_428 ⟨lr_c (by omega), lr_s (by omega)⟩ (fun v w111 hp112 => ?_)
  obtain ⟨rfl, ow5, hR5, hF5⟩ := hp112
  have hX5 := hX4.fr hF5 (by rintro (h | h | h) <;> omega)
  have hA5 : jl_Al cI cO z0 _ _ S K P r rc ro rd ri cs _ _ _ := ⟨hA4.1.fr hF5 (fun _ => jl_T3m), fun c hc => (hA4.2.1 c hc).fr hF5 (fun z => by have := jl_T3m z; omega) (fun z => by have := jl_T3m z; omega), hR5⟩
  refine jr_if_ne C rd_Lw_law_431 (tgt := 436) rfl ⟨by omega, by omega⟩ (fun _ => ?_) (fun hd => absurd hd (by omega))
  refine jk_iconst C rd_Lw_law_436 ?_
  refine jk_istore C rd_Lw_law_437 (Nat.le_of_ble_eq_true rfl) rfl ?_
  refine jk_lv [0, 2, 3, 4] rfl ?_
  exact law_main (Inv := Inv) C hZ hz hl hXs hLN hg hX6 hO hCo 28 0 _ _ _ _ S K P cs ow5 rfl hI2 hA5 hX5 (by omega) (by omega) (fun ws2 lvx c2 s2 h1 h2 => hend ws2 lvx c2 s2 (by omega) (by omega))
end LAW2
