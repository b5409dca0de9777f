/-! the beginning: the two readers made -/
section LAW3
variable {p : Program} {l : Launch} {ev : Env} {s : State} {m : MethodId} {args : Array Value} {below : List Frame} {meth : Method} {cod : Code} {Q : State → Prop} {D : va_G} {A : Nat → Prop} {Z : (Nat → Prop) → State → Heap → Prop} {sq iad : Nat → Nat} {z0 zi mi : Nat} {cI cR cO cB : ClassId} {ret : Option FieldType} {b LN : Nat} {xs : Nat → Int32}
set_option maxHeartbeats 4000000 in
set_option maxRecDepth 1000000 in
theorem law_pre (C : jk_C p s m args meth cod code "KnotReaderLaw" 14 jk_WA D jk_cl (jl_ty cI cR cO cB) A ret) (hZ : jl_ZK Z sq iad z0 zi mi) (hz : Z A s s.heap) (hXs : ∀ (A : Nat → Prop) (U : State) (H : Heap), Z A U H → va_T .int b LN (fun j => .int (xs j)) A U H) (hLN : LN < 100000) (hOK : ∀ (A : Nat → Prop) (U : State) (H : Heap), Z A U H → va_AO "KnotReader$Cords" U) (kk : ∀ (ws : va_W) (ow : Nat → Nat) (σ : jk_LS) (ad : Nat → Nat) (g : Nat → Option Nat) (r rc ro rd ri cells slots : Nat), cells ≤ 200 → slots ≤ 4000 → (∀ j, j < 8 → g j = some (ad (48 + 11 * j))) → jl_Rd cO z0 ow (jm_lk ws) r rc ro rd ri [] [] [] [] → jm_X ow (jm_lk ws) (8 * ad 0 + 6) (WX cI cR g ad (jw_in σ (σ.T 0) 0)) → r ≠ ad 0 → σ.S 18 = 0 → σ.T 9 = (fun _ => 0) → σ.T 10 = (fun _ => 0) → jk_J p l ev room_1 s m args below meth cod cells slots Q D jk_cl A 14 ws [(3, jk_V ((jw_cell LN xs 0))), (2, .ref r), (1, .ref ((ad 0))), (0, .ref b)] 22 []) : jk_J p l ev room_1 s m args below meth cod 0 0 Q D jk_cl A 14 [] [(0, .ref b)] 0 [] := by
  obtain ⟨q1, q2, x1, x2, -⟩ := ini_x
  refine jm_new C (rfl : jm_lk [] = _) in_KR (ty0 := tf_KR) ty_KR lk_Lw_18 nw_KR iw_KR (ci := 10) rfl (fs := [.null, .null, .null, .null, .null, .null, .null, .null, .null, jk_V 0, jk_V 0, jk_V 0]) (by intro j hj; rcases j with _ | _ | _ | _ | _ | _ | _ | _ | _ | _ | _ | _ | j <;> first | rfl | omega) ⟨lr_c (by omega), lr_s (by omega)⟩ rd_Lw_law_0 (fun ax w1 hx0 hw1 => ?_)
  refine jk_dup C rd_Lw_law_3 rfl ?_
  have hM1 : jm_lk w1 ax = some (.inr (10, [.null, .null, .null, .null, .null, .null, .null, .null, .null, jk_V 0, jk_V 0, jk_V 0])) := by rw [hw1, jm_up_s]
  have hn1 : ∀ y, y ≠ ax → jm_lk w1 y = none := fun y hy => by rw [hw1, jm_up_n hy]; rfl
  have hKR := jm_ofMN hZ.1.1 (ci_KR l D Z sq hZ.1 hOK cI cR ax q1 q2 0 x1 x2 rfl) (fun u => ⟨_, rfl⟩) hM1 (ow := fun _ => 8 * ax + 6) (tg := 8 * ax + 6) rfl (tys := jl_ty cI cR cO cB) [0, 1] rfl
  refine jm_callI C hZ.1.1 hz (rfl : jm_lk w1 = _) hKR lk_Lw_220 ki_KR_init iw_KR kc_KR_init rfl na_KR_init ⟨Nat.le_of_ble_eq_true rfl, Nat.le_of_ble_eq_true rfl⟩ rfl (st := [.ref ax]) rfl (Nat.le_of_ble_eq_true rfl) rd_Lw_law_4 ⟨lr_c (by omega), lr_s (by omega)⟩ (fun v w2 hp2 => ?_)
  obtain ⟨rfl, u, ow1, hX, hF1⟩ := hp2
  refine jr_astore_n C rd_Lw_law_7 (Nat.le_of_ble_eq_true rfl) rfl ?_
  refine jm_new C (rfl : jm_lk w2 = _) in_Rd (ty0 := tf_Rd) ty_Rd lk_Lw_28 nw_Rd iw_Rd (ci := 13) rfl (fs := [.null, .null, .null, .null]) (by intro j hj; rcases j with _ | _ | _ | _ | j <;> first | rfl | omega) ⟨lr_c (by omega), lr_s (by omega)⟩ rd_Lw_law_8 (fun r w3 hr0 hw3 => ?_)
  obtain ⟨M101, hM101⟩ : ∃ Mx : jm_M, Mx = jm_up (jm_lk w2) r (.inr (13, [.null, .null, .null, .null])) := ⟨_, rfl⟩
  replace hw3 : jm_lk w3 = M101 := by rw [hM101]; exact hw3
  have hc101_r := jm_this hM101
  have hrax : r ≠ ax := fun h => by
    obtain ⟨fs9, h9, -⟩ := hX.kr
    rw [h, show jm_lk w2 ax = _ from h9] at hr0
    cases hr0
  have hFn : jl_FrP ow1 (jm_lk w2) (fun y => if y = r then 8 * r else ow1 y) M101 (fun z => z = 8 * ax + 6 ∧ False) := jl_FrP.new hM101 hr0
  have hXr := hX.fr hFn (fun h => h.2)
  refine jk_dup C rd_Lw_law_11 rfl ?_
  refine jm_callIN C hZ.1.1 hz hw3 (ct_Rd_init l D cI cR cO cB hZ hc101_r (ow := fun y => if y = r then 8 * r else ow1 y) (if_pos rfl)) (jk_nw hZ.1 hz lk_Lw_221) xw_Rd_init iw_Rd cw_Rd_init rfl na_Rd_init ⟨Nat.le_of_ble_eq_true rfl, Nat.le_of_ble_eq_true rfl⟩ rfl (st := [.ref r]) rfl (Nat.le_of_ble_eq_true rfl) rd_Lw_law_12 ⟨lr_c (by omega), lr_s (by omega)⟩ (fun v w102 hp103 => ?_)
  obtain ⟨rfl, rc, ro, rd, ri, ow3, hRd, hF3⟩ := hp103
  have hX3 := hXr.fr hF3 (by rintro ⟨j, h1, h2⟩; omega)
  refine jr_astore_n C rd_Lw_law_15 (Nat.le_of_ble_eq_true rfl) rfl ?_
  refine jk_aload_n C rd_Lw_law_16 (k := 2) rfl ?_
  refine jk_iconst C rd_Lw_law_17 ?_
  refine jm_callS C hZ.1.1 hz (rfl : jm_lk w102 = _) (ct_Lw_cell l D cI cR cO cB hZ (M := jm_lk w102) (k := 0) hXs hLN (by omega)) lk_Lw_222 xw_Lw_cell iw_Lw cw_Lw_cell na_Lw_cell ⟨Nat.le_of_ble_eq_true rfl, Nat.le_of_ble_eq_true rfl⟩ rfl (st := []) rfl (Nat.le_of_ble_eq_true rfl) rd_Lw_law_18 ⟨lr_c (by omega), lr_s (by omega)⟩ (fun v w104 hp105 => ?_)
  obtain ⟨rfl, hce⟩ := hp105
  refine jk_istore_n C rd_Lw_law_21 (Nat.le_of_ble_eq_true rfl) rfl ?_
  refine jk_lv [0, 1, 2, 3] rfl ?_
  rw [← hce] at hRd hX3
  exact kk _ ow3 (jk_s0 q1 q2 0) (jk_cons ax u.1.1) u.1.2 r rc ro rd ri _ _ (by omega) (by omega) (fun j hj => (u.2 j hj).trans (by rw [show 48 + 11 * j = (47 + 11 * j) + 1 by omega]; rfl)) hRd hX3 hrax rfl rfl rfl
end LAW3
