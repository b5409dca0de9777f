/-! the text is made: subsidiaries, tops, clusters -/
section P10
variable {p : Program} {l : Launch} {ev : Env} {s : State} {m : MethodId} {args : Array Value} {below : List Frame} {meth : Method} {cod : Code} {Q : State → Prop} {D : va_G} {A : Nat → Prop} {Z : (Nat → Prop) → State → Heap → Prop} {sq iad : Nat → Nat} {z0 zi mi d1 d2 : Nat} {cI cR cO cB : ClassId} {ret : Option FieldType} {g : Nat → Option Nat} {ad : Nat → Nat} {σ : jk_LS} {tX tB t r rc ro rd ri b LN : Nat} {xs : Nat → Int32} {ws : va_W} {ow : Nat → Nat} {S : jl_S} {K : jl_K} {P : Nat → Prop} {cs c0 : List Nat} {tx : List Int} {x9 q9 c i mn k at9 n cells slots : Nat} {yy xx : Int}
set_option maxHeartbeats 4000000 in
set_option maxRecDepth 1000000 in
theorem b9_sk (C : jk_C p s m args meth cod code "KnotReaderLaw" 14 jk_WA D jk_cl (jl_ty cI cR cO cB) A ret) (hZ : jl_ZK Z sq iad z0 zi mi) (hz : Z A s s.heap) (hD2 : jl_ZD Z d1 d2) (hX6 : tX % 8 = 6) (htB : tB % 8 = 7) (hcl : cells ≤ 45000) (hsl : slots ≤ 700000) (hB : jw_B cI cR cO cB z0 g ad σ tX tB t r rc ro rd ri ow (jm_lk ws) S K P cs c0 tx) (k1 : ∀ (ws : va_W) (ow : Nat → Nat) (cells2 slots2 : Nat), cells2 ≤ cells + 0 → slots2 ≤ slots + 0 → jw_B cI cR cO cB z0 g ad σ tX tB t r rc ro rd ri ow (jm_lk ws) S K P cs c0 tx → jk_J p l ev room_1 s m args below meth cod cells2 slots2 Q D jk_cl A 14 ws [(12, .ref x9), (11, jk_V yy), (10, jk_V ((i : Int))), (9, jk_V ((mn : Int))), (8, .ref c), (7, jk_V ((k : Int))), (6, jk_V ((at9 : Int))), (5, jk_V ((n : Int))), (4, .ref t), (3, jk_V xx), (2, .ref r), (1, .ref ((ad 0))), (0, .ref b)] 316 []) (k2 : ∀ (ws : va_W) (ow : Nat → Nat) (cells2 slots2 : Nat), cells2 ≤ cells + 0 → slots2 ≤ slots + 0 → jw_B cI cR cO cB z0 g ad σ tX tB t r rc ro rd ri ow (jm_lk ws) S K P cs c0 tx → jk_J p l ev room_1 s m args below meth cod cells2 slots2 Q D jk_cl A 14 ws [(12, .ref x9), (11, jk_V yy), (10, jk_V ((i : Int))), (9, jk_V ((mn : Int))), (8, .ref c), (7, jk_V ((k : Int))), (6, jk_V ((at9 : Int))), (5, jk_V ((n : Int))), (4, .ref t), (3, jk_V xx), (2, .ref r), (1, .ref ((ad 0))), (0, .ref b)] 235 []) : jk_J p l ev room_1 s m args below meth cod cells slots Q D jk_cl A 14 ws [(12, .ref x9), (11, jk_V yy), (10, jk_V ((i : Int))), (9, jk_V ((mn : Int))), (8, .ref c), (7, jk_V ((k : Int))), (6, jk_V ((at9 : Int))), (5, jk_V ((n : Int))), (4, .ref t), (3, jk_V xx), (2, .ref r), (1, .ref ((ad 0))), (0, .ref b)] 221 [] := by
  refine jk_iload C rd_Lw_law_221 (k := 1) rfl ?_
  refine jk_bipush C rd_Lw_law_223 (by decide +kernel) ?_
  refine jk_iconst C rd_Lw_law_225 ?_
  refine jm_callS C hZ.1.1 hz (rfl : jm_lk ws = _) (ct_Lw_bits l D cI cR cO cB hZ (M := jm_lk ws) (x := yy) (f := 11) (k := 1)) lk_Lw_156 xw_Lw_bits iw_Lw cw_Lw_bits na_Lw_bits ⟨Nat.le_of_ble_eq_true rfl, Nat.le_of_ble_eq_true rfl⟩ rfl (st := []) rfl (Nat.le_of_ble_eq_true rfl) rd_Lw_law_226 ⟨lr_c (by omega), lr_s (by omega)⟩ (fun v w102 hp103 => ?_)
  obtain ⟨rfl, hb101⟩ := hp103
  obtain ⟨nq, hnq, hnq2⟩ := jw_bits_n yy 11 (k := 1) (by omega)
  rw [show jw_bits yy 11 1 = (nq : Int) from hnq]
  replace hnq2 : nq < 2 := hnq2
  rw [← hb101] at hB
  refine jr_if_ne C rd_Lw_law_229 (tgt := 235) rfl ⟨by omega, by omega⟩ (fun hc => ?_) (fun hc => ?_)
  · exact k2 _ _ _ _ (by omega) (by omega) hB
  · refine jk_goto C rd_Lw_law_232 (tgt := 316) rfl ?_
    exact k1 _ _ _ _ (by omega) (by omega) hB
set_option maxHeartbeats 4000000 in
set_option maxRecDepth 1000000 in
theorem b9_news (C : jk_C p s m args meth cod code "KnotReaderLaw" 14 jk_WA D jk_cl (jl_ty cI cR cO cB) A ret) (hZ : jl_ZK Z sq iad z0 zi mi) (hz : Z A s s.heap) (hD2 : jl_ZD Z d1 d2) (hX6 : tX % 8 = 6) (htB : tB % 8 = 7) (hcl : cells ≤ 45000) (hsl : slots ≤ 700000) (hB : jw_B cI cR cO cB z0 g ad σ tX tB t r rc ro rd ri ow (jm_lk ws) S K P cs c0 tx) (kk : ∀ (ws : va_W) (ow : Nat → Nat) (tp v q9 k9 b9 cells2 slots2 : Nat), cells2 ≤ cells + 3 → slots2 ≤ slots + 100 → tp < 2 → jw_bits yy 13 6 = (v : Int) → v < 64 → ¬ P q9 → q9 ∉ cs → jw_B cI cR cO cB z0 g ad σ tX tB t r rc ro rd ri ow (jm_lk ws) (jS_n S q9 k9 b9 (jl_dgs (fun _ => 0) (v : Int)) (tp : Int)) K (fun y => P y ∨ y = q9) cs c0 tx → jk_J p l ev room_1 s m args below meth cod cells2 slots2 Q D jk_cl A 14 ws [(13, .ref q9), (12, .ref x9), (11, jk_V yy), (10, jk_V ((i : Int))), (9, jk_V ((mn : Int))), (8, .ref c), (7, jk_V ((k : Int))), (6, jk_V ((at9 : Int))), (5, jk_V ((n : Int))), (4, .ref t), (3, jk_V xx), (2, .ref r), (1, .ref ((ad 0))), (0, .ref b)] 261 []) : jk_J p l ev room_1 s m args below meth cod cells slots Q D jk_cl A 14 ws [(12, .ref x9), (11, jk_V yy), (10, jk_V ((i : Int))), (9, jk_V ((mn : Int))), (8, .ref c), (7, jk_V ((k : Int))), (6, jk_V ((at9 : Int))), (5, jk_V ((n : Int))), (4, .ref t), (3, jk_V xx), (2, .ref r), (1, .ref ((ad 0))), (0, .ref b)] 235 [] := by
  obtain ⟨tp, htp, htp2⟩ := jw_bits_n yy 12 (k := 1) (by omega)
  replace htp2 : tp < 2 := htp2
  obtain ⟨v, hv, hv2⟩ := jw_bits_n yy 13 (k := 6) (by omega)
  replace hv2 : v < 64 := hv2
  obtain ⟨M0, hEM0⟩ : ∃ Mx : jm_M, Mx = jm_lk ws := ⟨_, rfl⟩
  rw [← hEM0] at hB
  refine jm_new C (show jm_lk ws = M0 from hEM0.symm) in_Cd (ty0 := tf_Cd) ty_Cd lk_Lw_54 nw_Cd iw_Cd (ci := 11) rfl (fs := [.null, jk_V 0, jk_V 0, .null]) (by intro j hj; rcases j with _ | _ | _ | _ | j <;> first | rfl | omega) ⟨lr_c (by omega), lr_s (by omega)⟩ rd_Lw_law_235 (fun q9 wn hn9 hwn => ?_)
  obtain ⟨M101, hM101⟩ : ∃ Mx : jm_M, Mx = jm_up M0 q9 (.inr (11, [.null, jk_V 0, jk_V 0, .null])) := ⟨_, rfl⟩
  replace hwn : jm_lk wn = M101 := by rw [hM101]; exact hwn
  have hc101_q9 := jm_this hM101
  refine jk_dup C rd_Lw_law_238 rfl ?_
  refine jk_iload C rd_Lw_law_239 (k := 1) rfl ?_
  refine jk_bipush C rd_Lw_law_241 (by decide +kernel) ?_
  refine jk_iconst C rd_Lw_law_243 ?_
  refine jm_callS C hZ.1.1 hz hwn (ct_Lw_bits l D cI cR cO cB hZ (M := M101) (x := yy) (f := 12) (k := 1)) lk_Lw_156 xw_Lw_bits iw_Lw cw_Lw_bits na_Lw_bits ⟨Nat.le_of_ble_eq_true rfl, Nat.le_of_ble_eq_true rfl⟩ rfl (st := [.ref q9, .ref q9]) rfl (Nat.le_of_ble_eq_true rfl) rd_Lw_law_244 ⟨lr_c (by omega), lr_s (by omega)⟩ (fun v w103 hp104 => ?_)
  obtain ⟨rfl, hb102⟩ := hp104
  rw [show jw_bits yy 12 1 = (tp : Int) from htp]
  refine jk_iload C rd_Lw_law_247 (k := 1) rfl ?_
  refine jk_bipush C rd_Lw_law_249 (by decide +kernel) ?_
  refine jk_bipush C rd_Lw_law_251 (by decide +kernel) ?_
  refine jm_callS C hZ.1.1 hz hb102 (ct_Lw_bits l D cI cR cO cB hZ (M := M101) (x := yy) (f := 13) (k := 6)) lk_Lw_156 xw_Lw_bits iw_Lw cw_Lw_bits na_Lw_bits ⟨Nat.le_of_ble_eq_true rfl, Nat.le_of_ble_eq_true rfl⟩ rfl (st := [jk_V ((tp : Int)), .ref q9, .ref q9]) rfl (Nat.le_of_ble_eq_true rfl) rd_Lw_law_253 ⟨lr_c (by omega), lr_s (by omega)⟩ (fun v w106 hp107 => ?_)
  obtain ⟨rfl, hb105⟩ := hp107
  rw [show jw_bits yy 13 6 = (v : Int) from hv]
  refine jm_callI C hZ.1.1 hz hb105 (ct_Cd_init l D cI cR cO cB hZ hc101_q9 ⟨by omega, by omega⟩) lk_Lw_166 xw_Cd_init iw_Cd cw_Cd_init rfl na_Cd_init ⟨Nat.le_of_ble_eq_true rfl, Nat.le_of_ble_eq_true rfl⟩ rfl (st := [.ref q9]) rfl (Nat.le_of_ble_eq_true rfl) rd_Lw_law_256 ⟨lr_c (by omega), lr_s (by omega)⟩ (fun v w108 hp109 => ?_)
  obtain ⟨rfl, k9, b9, hk9, hb9, hbk, hx1, hk1, hb1, hle0⟩ := hp109
  have hleM : jm_le M0 (jm_lk w108) := fun y e hy => hle0 y e (by rw [hM101, jm_up_n (jm_nen hy hn9)]; exact hy) (jm_nen hy hn9)
  have hk9M : M0 k9 = none := by
    cases hbb : M0 k9 with
    | none => rfl
    | some e =>
      rw [hM101, jm_up_n (jm_nen hbb hn9), hbb] at hk9
      cases hk9
  have hk9x : k9 ≠ q9 := fun z => by rw [z, hM101, jm_up_s] at hk9; cases hk9
  have hb9M : M0 b9 = none := by
    cases hbb : M0 b9 with
    | none => rfl
    | some e =>
      rw [hM101, jm_up_n (jm_nen hbb hn9), hbb] at hb9
      cases hb9
  have hb9x : b9 ≠ q9 := fun z => by rw [z, hM101, jm_up_s] at hb9; cases hb9
  have hF1 : jl_FrP ow M0 (jw_o3 ow q9 k9 b9) (jm_lk w108) (fun _ => False) := jw_o3_fr hleM hn9 hk9M hb9M
  have hB1 : jw_B cI cR cO cB z0 g ad σ tX tB t r rc ro rd ri (jw_o3 ow q9 k9 b9) (jm_lk w108) (jS_n S q9 k9 b9 (jl_dgs (fun _ => 0) (v : Int)) (tp : Int)) K (fun y => P y ∨ y = q9) cs c0 tx := ⟨hB.1.newc hleM hn9 hk9M hb9M hk9x hb9x hbk hx1 hk1 hb1, hB.2.1.fr hF1 id, hB.2.2.fr hF1 id⟩
  have hnP : ¬ P q9 := fun h => by
    have := (hB.1.1 q9 h).1.1
    rw [hn9] at this
    cases this
  have hnc : q9 ∉ cs := fun h => by
    have := (hB.1.2.1 q9 h).1
    rw [hn9] at this
    cases this
  refine jr_astore C rd_Lw_law_259 (Nat.le_of_ble_eq_true rfl) rfl ?_
  refine jk_lv [0, 1, 2, 3, 4, 5, 6, 7, 8, 9, 10, 11, 12, 13] rfl ?_
  exact kk _ _ tp v _ k9 b9 _ _ (by omega) (by omega) htp2 hv hv2 hnP hnc hB1
set_option maxHeartbeats 4000000 in
set_option maxRecDepth 1000000 in
theorem b9_subt (C : jk_C p s m args meth cod code "KnotReaderLaw" 14 jk_WA D jk_cl (jl_ty cI cR cO cB) A ret) (hZ : jl_ZK Z sq iad z0 zi mi) (hz : Z A s s.heap) (hD2 : jl_ZD Z d1 d2) (hX6 : tX % 8 = 6) (htB : tB % 8 = 7) (hcl : cells ≤ 45000) (hsl : slots ≤ 700000) (hPx : P q9) {tp v : Nat} (htp : jS_tp S q9 = (tp : Int)) (htp2 : tp < 2) (hv : jw_bits yy 13 6 = (v : Int)) (hv2 : v < 64) (hlen : tx.length ≤ 505) (hB : jw_B cI cR cO cB z0 g ad σ tX tB t r rc ro rd ri ow (jm_lk ws) S K P cs c0 tx) (kk : ∀ (ws : va_W) (ow : Nat → Nat) (cells2 slots2 : Nat), cells2 ≤ cells + 5 → slots2 ≤ slots + 5500 → jw_B cI cR cO cB z0 g ad σ tX tB t r rc ro rd ri ow (jm_lk ws) S K P cs c0 (tx ++ jk_txt 18 ++ [(97 + (tp : Int))] ++ [32] ++ jl_nt v ++ [59]) → jk_J p l ev room_1 s m args below meth cod cells2 slots2 Q D jk_cl A 14 ws [(13, .ref q9), (12, .ref x9), (11, jk_V yy), (10, jk_V ((i : Int))), (9, jk_V ((mn : Int))), (8, .ref c), (7, jk_V ((k : Int))), (6, jk_V ((at9 : Int))), (5, jk_V ((n : Int))), (4, .ref t), (3, jk_V xx), (2, .ref r), (1, .ref ((ad 0))), (0, .ref b)] 303 []) : jk_J p l ev room_1 s m args below meth cod cells slots Q D jk_cl A 14 ws [(13, .ref q9), (12, .ref x9), (11, jk_V yy), (10, jk_V ((i : Int))), (9, jk_V ((mn : Int))), (8, .ref c), (7, jk_V ((k : Int))), (6, jk_V ((at9 : Int))), (5, jk_V ((n : Int))), (4, .ref t), (3, jk_V xx), (2, .ref r), (1, .ref ((ad 0))), (0, .ref b)] 261 [] := by
  refine jk_aload C rd_Lw_law_261 (k := 9) rfl ?_
  refine jk_ldcs C hZ.1 hz rd_Lw_law_263 (k := 18) rfl ?_
  obtain ⟨v0, cap, f0, ml, hsb101, -⟩ := id hB.2.2
  refine jm_callV C hZ.1.1 hz (rfl : jm_lk ws = _) (ct_SB_apS l D cI cR cO cB hZ hB.2.2 (hZ.1.2.1 18 (by decide)) (Nat.le_refl 1) (by rw [show (jk_txt 18).length = 6 from rfl]; omega)) lk_Lw_235 xw_SB_apS sw_SB_apS iw_SB cw_SB_apS na_SB_apS ⟨Nat.le_of_ble_eq_true rfl, Nat.le_of_ble_eq_true rfl⟩ rfl hsb101 rfl rfl (st := []) rfl (Nat.le_of_ble_eq_true rfl) rd_Lw_law_265 ⟨lr_c (by omega), lr_s (by omega)⟩ (fun v w102 hp103 => ?_)
  obtain ⟨rfl, ow101, hS101, hF101⟩ := hp103
  clear hsb101 v0 cap f0 ml
  have hB101 := hB.ap htB hX6 hF101 hS101
  have hln101 : (tx ++ jk_txt 18).length ≤ tx.length + 6 := by rw [List.length_append]; rw [show (jk_txt 18).length = 6 from rfl]; omega
  refine jk_bipush C rd_Lw_law_268 (by decide +kernel) ?_
  refine jk_aload C rd_Lw_law_270 (k := 0) rfl ?_
  have hcd := (hB101.1.1 q9 hPx).1
  refine jm_getN C (rfl : jm_lk w102 = _) in_Cd (ci := 11) rfl 1 (Nat.le_of_ble_eq_true rfl) (jk_nw hZ.1 hz lk_Lw_77) hcd.1 rfl rd_Lw_law_272 ?_
  rw [htp]
  refine jk_iadd C rd_Lw_law_275 ?_
  refine jm_i2c C ⟨by omega, by omega⟩ rd_Lw_law_276 ?_
  obtain ⟨v0, cap, f0, ml, hsb104, -⟩ := id hB101.2.2
  refine jm_callV C hZ.1.1 hz (rfl : jm_lk w102 = _) (ct_SB_apC l D cI cR cO cB hZ hB101.2.2 (x := (97 + (tp : Int))) ⟨by omega, by omega⟩ (Nat.le_refl 1) (by omega)) lk_Lw_241 xw_SB_apC sw_SB_apC iw_SB cw_SB_apC na_SB_apC ⟨Nat.le_of_ble_eq_true rfl, Nat.le_of_ble_eq_true rfl⟩ rfl hsb104 rfl rfl (st := []) rfl (Nat.le_of_ble_eq_true rfl) rd_Lw_law_277 ⟨lr_c (by omega), lr_s (by omega)⟩ (fun v w105 hp106 => ?_)
  obtain ⟨rfl, ow104, hS104, hF104⟩ := hp106
  clear hsb104 v0 cap f0 ml
  have hB104 := hB101.ap htB hX6 hF104 hS104
  have hln104 : (tx ++ jk_txt 18 ++ [(97 + (tp : Int))]).length ≤ tx.length + 7 := by rw [List.length_append]; rw [List.length_singleton]; omega
  refine jk_bipush C rd_Lw_law_280 (by decide +kernel) ?_
  obtain ⟨v0, cap, f0, ml, hsb107, -⟩ := id hB104.2.2
  refine jm_callV C hZ.1.1 hz (rfl : jm_lk w105 = _) (ct_SB_apC l D cI cR cO cB hZ hB104.2.2 (x := 32) ⟨by omega, by omega⟩ (Nat.le_refl 1) (by omega)) lk_Lw_241 xw_SB_apC sw_SB_apC iw_SB cw_SB_apC na_SB_apC ⟨Nat.le_of_ble_eq_true rfl, Nat.le_of_ble_eq_true rfl⟩ rfl hsb107 rfl rfl (st := []) rfl (Nat.le_of_ble_eq_true rfl) rd_Lw_law_282 ⟨lr_c (by omega), lr_s (by omega)⟩ (fun v w108 hp109 => ?_)
  obtain ⟨rfl, ow107, hS107, hF107⟩ := hp109
  clear hsb107 v0 cap f0 ml
  have hB107 := hB104.ap htB hX6 hF107 hS107
  have hln107 : (tx ++ jk_txt 18 ++ [(97 + (tp : Int))] ++ [32]).length ≤ tx.length + 8 := by rw [List.length_append]; rw [List.length_singleton]; omega
  refine jk_iload C rd_Lw_law_285 (k := 2) rfl ?_
  refine jk_bipush C rd_Lw_law_287 (by decide +kernel) ?_
  refine jk_bipush C rd_Lw_law_289 (by decide +kernel) ?_
  refine jm_callS C hZ.1.1 hz (rfl : jm_lk w108 = _) (ct_Lw_bits l D cI cR cO cB hZ (M := jm_lk w108) (x := yy) (f := 13) (k := 6)) lk_Lw_156 xw_Lw_bits iw_Lw cw_Lw_bits na_Lw_bits ⟨Nat.le_of_ble_eq_true rfl, Nat.le_of_ble_eq_true rfl⟩ rfl (st := [.ref t]) rfl (Nat.le_of_ble_eq_true rfl) rd_Lw_law_291 ⟨lr_c (by omega), lr_s (by omega)⟩ (fun v w111 hp112 => ?_)
  obtain ⟨rfl, hb110⟩ := hp112
  rw [hv]
  have hnt113 := jl_nt_le3 v
  obtain ⟨v0, cap, f0, ml, hsb114, -⟩ := id hB107.2.2
  refine jm_callV C hZ.1.1 hz hb110 (ct_SB_apI l D cI cR cO cB hZ hD2 hB107.2.2 (n := v) (by omega) (Nat.le_refl 1) (by omega)) lk_Lw_244 xw_SB_apI sw_SB_apI iw_SB cw_SB_apI na_SB_apI ⟨Nat.le_of_ble_eq_true rfl, Nat.le_of_ble_eq_true rfl⟩ rfl hsb114 rfl rfl (st := []) rfl (Nat.le_of_ble_eq_true rfl) rd_Lw_law_294 ⟨lr_c (by omega), lr_s (by omega)⟩ (fun v w115 hp116 => ?_)
  obtain ⟨rfl, ow114, hS114, hF114⟩ := hp116
  clear hsb114 v0 cap f0 ml
  have hB114 := hB107.ap htB hX6 hF114 hS114
  have hln114 : (tx ++ jk_txt 18 ++ [(97 + (tp : Int))] ++ [32] ++ jl_nt v).length ≤ tx.length + 11 := by rw [List.length_append]; omega
  refine jk_bipush C rd_Lw_law_297 (by decide +kernel) ?_
  obtain ⟨v0, cap, f0, ml, hsb117, -⟩ := id hB114.2.2
  refine jm_callV C hZ.1.1 hz (rfl : jm_lk w115 = _) (ct_SB_apC l D cI cR cO cB hZ hB114.2.2 (x := 59) ⟨by omega, by omega⟩ (Nat.le_refl 1) (by omega)) lk_Lw_241 xw_SB_apC sw_SB_apC iw_SB cw_SB_apC na_SB_apC ⟨Nat.le_of_ble_eq_true rfl, Nat.le_of_ble_eq_true rfl⟩ rfl hsb117 rfl rfl (st := []) rfl (Nat.le_of_ble_eq_true rfl) rd_Lw_law_299 ⟨lr_c (by omega), lr_s (by omega)⟩ (fun v w118 hp119 => ?_)
  obtain ⟨rfl, ow117, hS117, hF117⟩ := hp119
  clear hsb117 v0 cap f0 ml
  have hB117 := hB114.ap htB hX6 hF117 hS117
  have hln117 : (tx ++ jk_txt 18 ++ [(97 + (tp : Int))] ++ [32] ++ jl_nt v ++ [59]).length ≤ tx.length + 12 := by rw [List.length_append]; rw [List.length_singleton]; omega
  refine jk_pop C rd_Lw_law_302 rfl ?_
  exact kk _ _ _ _ (by omega) (by omega) hB117
set_option maxHeartbeats 4000000 in
set_option maxRecDepth 1000000 in
theorem b9_suba (C : jk_C p s m args meth cod code "KnotReaderLaw" 14 jk_WA D jk_cl (jl_ty cI cR cO cB) A ret) (hZ : jl_ZK Z sq iad z0 zi mi) (hz : Z A s s.heap) (hD2 : jl_ZD Z d1 d2) (hX6 : tX % 8 = 6) (htB : tB % 8 = 7) (hcl : cells ≤ 45000) (hsl : slots ≤ 700000) (hPx : P x9) (hPq : P q9) (hpl : (jS_ch S x9).length ≤ 30) (hB : jw_B cI cR cO cB z0 g ad σ tX tB t r rc ro rd ri ow (jm_lk ws) S K P cs c0 tx) (kk : ∀ (ws : va_W) (ow : Nat → Nat) (cells2 slots2 : Nat), cells2 ≤ cells + 1 → slots2 ≤ slots + 100 → jw_B cI cR cO cB z0 g ad σ tX tB t r rc ro rd ri ow (jm_lk ws) (jS_c S x9 (jS_ch S x9 ++ [q9])) K P cs c0 tx → jk_J p l ev room_1 s m args below meth cod cells2 slots2 Q D jk_cl A 14 ws [(13, .ref q9), (12, .ref x9), (11, jk_V yy), (10, jk_V ((i : Int))), (9, jk_V ((mn : Int))), (8, .ref c), (7, jk_V ((k : Int))), (6, jk_V ((at9 : Int))), (5, jk_V ((n : Int))), (4, .ref t), (3, jk_V xx), (2, .ref r), (1, .ref ((ad 0))), (0, .ref b)] 316 []) : jk_J p l ev room_1 s m args below meth cod cells slots Q D jk_cl A 14 ws [(13, .ref q9), (12, .ref x9), (11, jk_V yy), (10, jk_V ((i : Int))), (9, jk_V ((mn : Int))), (8, .ref c), (7, jk_V ((k : Int))), (6, jk_V ((at9 : Int))), (5, jk_V ((n : Int))), (4, .ref t), (3, jk_V xx), (2, .ref r), (1, .ref ((ad 0))), (0, .ref b)] 303 [] := by
  obtain ⟨M0, hEM0⟩ : ∃ Mx : jm_M, Mx = jm_lk ws := ⟨_, rfl⟩
  rw [← hEM0] at hB
  obtain ⟨hcd, hnb, hch⟩ := hB.1.1 x9 hPx
  have hcx := (hB.1.1 q9 hPq).1.1
  refine jk_aload C rd_Lw_law_303 (k := 1) rfl ?_
  refine jm_getN C (show jm_lk ws = M0 from hEM0.symm) in_Cd (ci := 11) rfl 3 (Nat.le_of_ble_eq_true rfl) (jk_nw hZ.1 hz lk_Lw_96) hcd.1 rfl rd_Lw_law_305 ?_
  refine jk_aload C rd_Lw_law_308 (k := 0) rfl ?_
  obtain ⟨mcA, eA, _, _, hcA, -⟩ := id hcd.2.2.2.2
  refine jm_callF C (x := ⟨"java/util/List", "add", "(Ljava/lang/Object;)Z"⟩) (q := ("java/util/ArrayList", tb_AL, 3)) (ci := 14) hZ.1.1 hz (show jm_lk ws = M0 from hEM0.symm) (ct_AL_add l D cI cR cO cB hZ hcd.2.2.2.2 (Or.inl ⟨_, hcx⟩) (by omega) (fun y hy => Or.inl ⟨_, (hB.1.1 y (hch y hy)).1.1⟩)) (ff_AL_add hZ.1 hz) (fg_AL_add lk_Lw_169) cw_AL_add nf_AL_add ⟨Nat.le_of_ble_eq_true rfl, Nat.le_of_ble_eq_true rfl⟩ rfl hcA rfl (st := []) rfl (Nat.le_of_ble_eq_true rfl) rd_Lw_law_310 ⟨lr_c (by omega), lr_s (by omega)⟩ (fun v w101 hp102 => ?_)
  obtain ⟨rfl, ow2, hL2, hF2⟩ := hp102
  clear hcA
  have hB2 : jw_B cI cR cO cB z0 g ad σ tX tB t r rc ro rd ri ow2 (jm_lk w101) (jS_c S x9 (jS_ch S x9 ++ [q9])) K P cs c0 tx := ⟨hB.1.chl hPx hF2 hL2 (fun b hb => (List.mem_append.mp hb).elim (hch b) (fun h => by rw [List.mem_singleton.mp h]; exact hPq)), hB.2.1.fr hF2 (by omega), hB.2.2.fr hF2 (by omega)⟩
  refine jk_pop C rd_Lw_law_315 rfl ?_
  exact kk _ _ _ _ (by omega) (by omega) hB2
set_option maxHeartbeats 4000000 in
set_option maxRecDepth 1000000 in
theorem b9_top (C : jk_C p s m args meth cod code "KnotReaderLaw" 14 jk_WA D jk_cl (jl_ty cI cR cO cB) A ret) (hZ : jl_ZK Z sq iad z0 zi mi) (hz : Z A s s.heap) (hD2 : jl_ZD Z d1 d2) (hX6 : tX % 8 = 6) (htB : tB % 8 = 7) (hcl : cells ≤ 45000) (hsl : slots ≤ 700000) (hcm : c ∈ cs) (hKP : jl_KP S K P c) (hsz : jK_siz S K c ≤ 41) {sm : Nat} (hsm : jK_sum S K c = (sm : Int)) (hsm2 : sm < 1000) (hnx : ∀ x9 k9 b9 : Nat, ¬ P x9 → x9 ∉ cs → jl_KP (jS_n S x9 k9 b9 (jl_dgs (fun _ => 0) (sm : Int)) 0) (jK_t K c (some x9)) (fun y => P y ∨ y = x9) c ∧ jK_siz (jS_n S x9 k9 b9 (jl_dgs (fun _ => 0) (sm : Int)) 0) (jK_t K c (some x9)) c ≤ 41 ∧ jK_sum (jS_n S x9 k9 b9 (jl_dgs (fun _ => 0) (sm : Int)) 0) (jK_t K c (some x9)) c = jK_sum S K c) (hlen : tx.length ≤ 510) (hB : jw_B cI cR cO cB z0 g ad σ tX tB t r rc ro rd ri ow (jm_lk ws) S K P cs c0 tx) (kk : ∀ (ws : va_W) (ow : Nat → Nat) (x9 k9 b9 cells2 slots2 : Nat), cells2 ≤ cells + 100 → slots2 ≤ slots + 4000 → ¬ P x9 → x9 ∉ cs → jw_B cI cR cO cB z0 g ad σ tX tB t r rc ro rd ri ow (jm_lk ws) (jS_n S x9 k9 b9 (jl_dgs (fun _ => 0) (sm : Int)) 0) (jK_t K c (some x9)) (fun y => P y ∨ y = x9) cs c0 (tx ++ jk_txt 19 ++ jl_nt sm ++ [59]) → jk_J p l ev room_1 s m args below meth cod cells2 slots2 Q D jk_cl A 14 ws [(10, jk_V ((i : Int))), (9, jk_V ((mn : Int))), (8, .ref c), (7, jk_V ((k : Int))), (6, jk_V ((at9 : Int))), (5, jk_V ((n : Int))), (4, .ref t), (3, jk_V xx), (2, .ref r), (1, .ref ((ad 0))), (0, .ref b)] 379 []) : jk_J p l ev room_1 s m args below meth cod cells slots Q D jk_cl A 14 ws [(10, jk_V ((i : Int))), (9, jk_V ((mn : Int))), (8, .ref c), (7, jk_V ((k : Int))), (6, jk_V ((at9 : Int))), (5, jk_V ((n : Int))), (4, .ref t), (3, jk_V xx), (2, .ref r), (1, .ref ((ad 0))), (0, .ref b)] 340 [] := by
  obtain ⟨M0, hEM0⟩ : ∃ Mx : jm_M, Mx = jm_lk ws := ⟨_, rfl⟩
  rw [← hEM0] at hB
  refine jk_aload C rd_Lw_law_340 (k := 2) rfl ?_
  refine jm_new C (show jm_lk ws = M0 from hEM0.symm) in_Cd (ty0 := tf_Cd) ty_Cd lk_Lw_54 nw_Cd iw_Cd (ci := 11) rfl (fs := [.null, jk_V 0, jk_V 0, .null]) (by intro j hj; rcases j with _ | _ | _ | _ | j <;> first | rfl | omega) ⟨lr_c (by omega), lr_s (by omega)⟩ rd_Lw_law_342 (fun x9 wn hn9 hwn => ?_)
  obtain ⟨M101, hM101⟩ : ∃ Mx : jm_M, Mx = jm_up M0 x9 (.inr (11, [.null, jk_V 0, jk_V 0, .null])) := ⟨_, rfl⟩
  replace hwn : jm_lk wn = M101 := by rw [hM101]; exact hwn
  have hc101_x9 := jm_this hM101
  have hle1 : jm_le M0 M101 := fun y e hy => by rw [hM101, jm_up_n (jm_nen hy hn9)]; exact hy
  have hCu1 := (hB.1.2.1 c hcm).mono hle1
  refine jk_dup C rd_Lw_law_345 rfl ?_
  refine jk_iconst C rd_Lw_law_346 ?_
  refine jk_aload C rd_Lw_law_347 (k := 2) rfl ?_
  refine jm_callV C hZ.1.1 hz hwn (ct_Cu_sum l D cI cR cO cB hZ (hB.1.1.mono hle1) hCu1 hKP) lk_Lw_189 xw_Cu_sum sw_Cu_sum iw_Cu cw_Cu_sum na_Cu_sum ⟨Nat.le_of_ble_eq_true rfl, Nat.le_of_ble_eq_true rfl⟩ rfl hCu1.1 rfl rfl (st := [jk_V 0, .ref x9, .ref x9, .ref c]) rfl (Nat.le_of_ble_eq_true rfl) rd_Lw_law_349 ⟨lr_c (by omega), lr_s (by omega)⟩ (fun v w102 hp103 => ?_)
  obtain ⟨rfl, hle2⟩ := hp103
  have hx2 := hle2 _ _ hc101_x9
  rw [hsm]
  refine jm_callI C hZ.1.1 hz (rfl : jm_lk w102 = _) (ct_Cd_init l D cI cR cO cB hZ hx2 ⟨by omega, by omega⟩) lk_Lw_166 xw_Cd_init iw_Cd cw_Cd_init rfl na_Cd_init ⟨Nat.le_of_ble_eq_true rfl, Nat.le_of_ble_eq_true rfl⟩ rfl (st := [.ref x9, .ref c]) rfl (Nat.le_of_ble_eq_true rfl) rd_Lw_law_352 ⟨lr_c (by omega), lr_s (by omega)⟩ (fun v w104 hp105 => ?_)
  obtain ⟨rfl, k9, b9, hk9, hb9, hbk, hx3, hk3, hb3, hle0⟩ := hp105
  have hleM : jm_le M0 (jm_lk w104) := fun y e hy => hle0 y e (hle2 _ _ (hle1 _ _ hy)) (jm_nen hy hn9)
  have hk9M : M0 k9 = none := by
    cases hbb : M0 k9 with
    | none => rfl
    | some e =>
      rw [hle2 _ _ (hle1 _ _ hbb)] at hk9
      cases hk9
  have hk9x : k9 ≠ x9 := fun z => by rw [z, hx2] at hk9; cases hk9
  have hb9M : M0 b9 = none := by
    cases hbb : M0 b9 with
    | none => rfl
    | some e =>
      rw [hle2 _ _ (hle1 _ _ hbb)] at hb9
      cases hb9
  have hb9x : b9 ≠ x9 := fun z => by rw [z, hx2] at hb9; cases hb9
  have hF1 : jl_FrP ow M0 (jw_o3 ow x9 k9 b9) (jm_lk w104) (fun _ => False) := jw_o3_fr hleM hn9 hk9M hb9M
  have hA1 := hB.1.newc hleM hn9 hk9M hb9M hk9x hb9x hbk hx3 hk3 hb3
  have hX1 := hB.2.1.fr hF1 id
  have hS1 := hB.2.2.fr hF1 id
  have hnP : ¬ P x9 := fun h => by
    have := (hB.1.1 x9 h).1.1
    rw [hn9] at this
    cases this
  have hnc : x9 ∉ cs := fun h => by
    have := (hB.1.2.1 x9 h).1
    rw [hn9] at this
    cases this
  obtain ⟨M4, hE4⟩ : ∃ Mx : jm_M, Mx = jm_lk w104 := ⟨_, rfl⟩
  rw [← hE4] at hA1 hX1 hS1
  have hCu4 := hA1.2.1 c hcm
  refine jm_putN C hE4.symm in_Cu (ty0 := tf_Cu) ty_Cu nm_Cu (ci := 12) rfl 0 (Nat.le_of_ble_eq_true rfl) (jk_nw hZ.1 hz lk_Lw_142) rfl rfl rfl hCu4.1 (Nat.le_of_ble_eq_true rfl) rd_Lw_law_355 (fun w106 hw106 => ?_)
  obtain ⟨M107, hM107⟩ : ∃ Mx : jm_M, Mx = jm_up M4 c (.inr (12, [.ref x9, .ref ((jK_pl K c))])) := ⟨_, rfl⟩
  replace hw106 : jm_lk w106 = M107 := by rw [hM107]; exact hw106
  have hc107_c := jm_this hM107
  have hFt := jl_Fr.put hM107 hCu4.2.1
  have hB5 : jw_B cI cR cO cB z0 g ad σ tX tB t r rc ro rd ri (jw_o3 ow x9 k9 b9) (M107) (jS_n S x9 k9 b9 (jl_dgs (fun _ => 0) (sm : Int)) 0) (jK_t K c (some x9)) (fun y => P y ∨ y = x9) cs c0 tx := ⟨hA1.top hcm (t := some x9) hFt hc107_c, hX1.fr hFt (by omega), hS1.fr hFt (by omega)⟩
  obtain ⟨gK, gZ, gS⟩ := hnx x9 k9 b9 hnP hnc
  refine jk_aload C rd_Lw_law_358 (k := 6) rfl ?_
  refine jk_ldcs C hZ.1 hz rd_Lw_law_360 (k := 19) rfl ?_
  obtain ⟨v0, cap, f0, ml, hsb108, -⟩ := id hB5.2.2
  refine jm_callV C hZ.1.1 hz hw106 (ct_SB_apS l D cI cR cO cB hZ hB5.2.2 (hZ.1.2.1 19 (by decide)) (Nat.le_refl 1) (by rw [show (jk_txt 19).length = 6 from rfl]; omega)) lk_Lw_235 xw_SB_apS sw_SB_apS iw_SB cw_SB_apS na_SB_apS ⟨Nat.le_of_ble_eq_true rfl, Nat.le_of_ble_eq_true rfl⟩ rfl hsb108 rfl rfl (st := []) rfl (Nat.le_of_ble_eq_true rfl) rd_Lw_law_362 ⟨lr_c (by omega), lr_s (by omega)⟩ (fun v w109 hp110 => ?_)
  obtain ⟨rfl, ow108, hS108, hF108⟩ := hp110
  clear hsb108 v0 cap f0 ml
  have hB108 := hB5.ap htB hX6 hF108 hS108
  have hln108 : (tx ++ jk_txt 19).length ≤ tx.length + 6 := by rw [List.length_append]; rw [show (jk_txt 19).length = 6 from rfl]; omega
  refine jk_aload C rd_Lw_law_365 (k := 2) rfl ?_
  have hCu6 := hB108.1.2.1 c hcm
  refine jm_callV C hZ.1.1 hz (rfl : jm_lk w109 = _) (ct_Cu_sum l D cI cR cO cB hZ hB108.1.1 hCu6 gK) lk_Lw_189 xw_Cu_sum sw_Cu_sum iw_Cu cw_Cu_sum na_Cu_sum ⟨Nat.le_of_ble_eq_true rfl, Nat.le_of_ble_eq_true rfl⟩ rfl hCu6.1 rfl rfl (st := [.ref t]) rfl (Nat.le_of_ble_eq_true rfl) rd_Lw_law_367 ⟨lr_c (by omega), lr_s (by omega)⟩ (fun v w111 hp112 => ?_)
  obtain ⟨rfl, hle7⟩ := hp112
  have hB7 := hB108.mono hle7
  rw [gS, hsm]
  have hnt113 := jl_nt_le3 sm
  obtain ⟨v0, cap, f0, ml, hsb114, -⟩ := id hB7.2.2
  refine jm_callV C hZ.1.1 hz (rfl : jm_lk w111 = _) (ct_SB_apI l D cI cR cO cB hZ hD2 hB7.2.2 (n := sm) (by omega) (Nat.le_refl 1) (by omega)) lk_Lw_244 xw_SB_apI sw_SB_apI iw_SB cw_SB_apI na_SB_apI ⟨Nat.le_of_ble_eq_true rfl, Nat.le_of_ble_eq_true rfl⟩ rfl hsb114 rfl rfl (st := []) rfl (Nat.le_of_ble_eq_true rfl) rd_Lw_law_370 ⟨lr_c (by omega), lr_s (by omega)⟩ (fun v w115 hp116 => ?_)
  obtain ⟨rfl, ow114, hS114, hF114⟩ := hp116
  clear hsb114 v0 cap f0 ml
  have hB114 := hB7.ap htB hX6 hF114 hS114
  have hln114 : (tx ++ jk_txt 19 ++ jl_nt sm).length ≤ tx.length + 9 := by rw [List.length_append]; omega
  refine jk_bipush C rd_Lw_law_373 (by decide +kernel) ?_
  obtain ⟨v0, cap, f0, ml, hsb117, -⟩ := id hB114.2.2
  refine jm_callV C hZ.1.1 hz (rfl : jm_lk w115 = _) (ct_SB_apC l D cI cR cO cB hZ hB114.2.2 (x := 59) ⟨by omega, by omega⟩ (Nat.le_refl 1) (by omega)) lk_Lw_241 xw_SB_apC sw_SB_apC iw_SB cw_SB_apC na_SB_apC ⟨Nat.le_of_ble_eq_true rfl, Nat.le_of_ble_eq_true rfl⟩ rfl hsb117 rfl rfl (st := []) rfl (Nat.le_of_ble_eq_true rfl) rd_Lw_law_375 ⟨lr_c (by omega), lr_s (by omega)⟩ (fun v w118 hp119 => ?_)
  obtain ⟨rfl, ow117, hS117, hF117⟩ := hp119
  clear hsb117 v0 cap f0 ml
  have hB117 := hB114.ap htB hX6 hF117 hS117
  have hln117 : (tx ++ jk_txt 19 ++ jl_nt sm ++ [59]).length ≤ tx.length + 10 := by rw [List.length_append]; rw [List.length_singleton]; omega
  refine jk_pop C rd_Lw_law_378 rfl ?_
  exact kk _ _ x9 k9 b9 _ _ (by omega) (by omega) hnP hnc hB117
set_option maxHeartbeats 4000000 in
set_option maxRecDepth 1000000 in
theorem b9_end (C : jk_C p s m args meth cod code "KnotReaderLaw" 14 jk_WA D jk_cl (jl_ty cI cR cO cB) A ret) (hZ : jl_ZK Z sq iad z0 zi mi) (hz : Z A s s.heap) (hD2 : jl_ZD Z d1 d2) (hX6 : tX % 8 = 6) (htB : tB % 8 = 7) (hcl : cells ≤ 45000) (hsl : slots ≤ 700000) (hcm : c ∈ cs) (hc0 : ∀ y ∈ c0, y ∈ cs) (hpl : c0.length ≤ 30) (hB : jw_B cI cR cO cB z0 g ad σ tX tB t r rc ro rd ri ow (jm_lk ws) S K P cs c0 tx) (kk : ∀ (ws : va_W) (ow : Nat → Nat) (cells2 slots2 : Nat), cells2 ≤ cells + 1 → slots2 ≤ slots + 100 → jw_B cI cR cO cB z0 g ad σ tX tB t r rc ro rd ri ow (jm_lk ws) S K P cs (c0 ++ [c]) tx → jk_J p l ev room_1 s m args below meth cod cells2 slots2 Q D jk_cl A 14 ws [(7, jk_V (((k + 1 : Nat) : Int))), (6, jk_V ((at9 : Int))), (5, jk_V ((n : Int))), (4, .ref t), (3, jk_V xx), (2, .ref r), (1, .ref ((ad 0))), (0, .ref b)] 49 []) : jk_J p l ev room_1 s m args below meth cod cells slots Q D jk_cl A 14 ws [(10, jk_V ((i : Int))), (9, jk_V ((mn : Int))), (8, .ref c), (7, jk_V ((k : Int))), (6, jk_V ((at9 : Int))), (5, jk_V ((n : Int))), (4, .ref t), (3, jk_V xx), (2, .ref r), (1, .ref ((ad 0))), (0, .ref b)] 379 [] := by
  obtain ⟨M0, hEM0⟩ : ∃ Mx : jm_M, Mx = jm_lk ws := ⟨_, rfl⟩
  rw [← hEM0] at hB
  have hCu := hB.1.2.1 c hcm
  refine jk_aload_n C rd_Lw_law_379 (k := 8) rfl ?_
  refine jm_getN C (show jm_lk ws = M0 from hEM0.symm) in_Rd (ci := 13) rfl 0 (Nat.le_of_ble_eq_true rfl) (jk_nw hZ.1 hz lk_Lw_35) hB.1.2.2.1 rfl rd_Lw_law_380 ?_
  refine jk_aload C rd_Lw_law_383 (k := 2) rfl ?_
  obtain ⟨mcA, eA, _, _, hcA, -⟩ := id hB.1.2.2.2.2.1
  refine jm_callF C (x := ⟨"java/util/List", "add", "(Ljava/lang/Object;)Z"⟩) (q := ("java/util/ArrayList", tb_AL, 3)) (ci := 14) hZ.1.1 hz (show jm_lk ws = M0 from hEM0.symm) (ct_AL_add l D cI cR cO cB hZ hB.1.2.2.2.2.1 (Or.inr (Or.inl ⟨_, hCu.1⟩)) (by omega) (fun y hy => Or.inr (Or.inl ⟨_, (hB.1.2.1 y (hc0 y hy)).1⟩))) (ff_AL_add hZ.1 hz) (fg_AL_add lk_Lw_169) cw_AL_add nf_AL_add ⟨Nat.le_of_ble_eq_true rfl, Nat.le_of_ble_eq_true rfl⟩ rfl hcA rfl (st := []) rfl (Nat.le_of_ble_eq_true rfl) rd_Lw_law_385 ⟨lr_c (by omega), lr_s (by omega)⟩ (fun v w101 hp102 => ?_)
  obtain ⟨rfl, ow2, hL2, hF2⟩ := hp102
  clear hcA
  have hB2 : jw_B cI cR cO cB z0 g ad σ tX tB t r rc ro rd ri ow2 (jm_lk w101) S K P cs (c0 ++ [c]) tx := ⟨hB.1.rdl hF2 hL2, hB.2.1.fr hF2 (by omega), hB.2.2.fr hF2 (by omega)⟩
  refine jk_pop C rd_Lw_law_390 rfl ?_
  refine jk_iinc C rd_Lw_law_391 (k := 3) rfl (Nat.le_of_ble_eq_true rfl) rfl ?_
  refine jk_goto C rd_Lw_law_394 (tgt := 49) rfl ?_
  rw [show (k : Int) + 1 = ((k + 1 : Nat) : Int) by omega]
  refine jk_lv [0, 4, 5, 6, 7, 8, 9, 10] rfl ?_
  exact kk _ _ _ _ (by omega) (by omega) hB2
set_option maxHeartbeats 4000000 in
set_option maxRecDepth 1000000 in
theorem b9_newk (C : jk_C p s m args meth cod code "KnotReaderLaw" 14 jk_WA D jk_cl (jl_ty cI cR cO cB) A ret) (hZ : jl_ZK Z sq iad z0 zi mi) (hz : Z A s s.heap) (hD2 : jl_ZD Z d1 d2) (hX6 : tX % 8 = 6) (htB : tB % 8 = 7) (hcl : cells ≤ 45000) (hsl : slots ≤ 700000) (hlen : tx.length ≤ 500) (hB : jw_B cI cR cO cB z0 g ad σ tX tB t r rc ro rd ri ow (jm_lk ws) S K P cs c0 tx) (kk : ∀ (ws : va_W) (ow : Nat → Nat) (c b9 mn cells2 slots2 : Nat), cells2 ≤ cells + 4 → slots2 ≤ slots + 1200 → mn < 4 → ¬ P c → c ∉ cs → jw_B cI cR cO cB z0 g ad σ tX tB t r rc ro rd ri ow (jm_lk ws) S (jK_n K c b9) P (cs ++ [c]) c0 (tx ++ jk_txt 15) → jk_J p l ev room_1 s m args below meth cod cells2 slots2 Q D jk_cl A 14 ws [(10, jk_V 0), (9, jk_V ((mn : Int))), (8, .ref c), (7, jk_V ((k : Int))), (6, jk_V ((at9 : Int))), (5, jk_V ((n : Int))), (4, .ref t), (3, jk_V xx), (2, .ref r), (1, .ref ((ad 0))), (0, .ref b)] 89 []) : jk_J p l ev room_1 s m args below meth cod cells slots Q D jk_cl A 14 ws [(7, jk_V ((k : Int))), (6, jk_V ((at9 : Int))), (5, jk_V ((n : Int))), (4, .ref t), (3, jk_V xx), (2, .ref r), (1, .ref ((ad 0))), (0, .ref b)] 56 [] := by
  obtain ⟨M0, hEM0⟩ : ∃ Mx : jm_M, Mx = jm_lk ws := ⟨_, rfl⟩
  rw [← hEM0] at hB
  refine jm_new C (show jm_lk ws = M0 from hEM0.symm) in_Cu (ty0 := tf_Cu) ty_Cu lk_Lw_119 nw_Cu iw_Cu (ci := 12) rfl (fs := [.null, .null]) (by intro j hj; rcases j with _ | _ | j <;> first | rfl | omega) ⟨lr_c (by omega), lr_s (by omega)⟩ rd_Lw_law_56 (fun c wn hc9 hwn => ?_)
  obtain ⟨M101, hM101⟩ : ∃ Mx : jm_M, Mx = jm_up M0 c (.inr (12, [.null, .null])) := ⟨_, rfl⟩
  replace hwn : jm_lk wn = M101 := by rw [hM101]; exact hwn
  have hc101_c := jm_this hM101
  refine jk_dup C rd_Lw_law_59 rfl ?_
  refine jm_callIN C hZ.1.1 hz hwn (ct_Cu_init l D cI cR cO cB hZ hc101_c) (jk_nw hZ.1 hz lk_Lw_205) xw_Cu_init iw_Cu cw_Cu_init rfl na_Cu_init ⟨Nat.le_of_ble_eq_true rfl, Nat.le_of_ble_eq_true rfl⟩ rfl (st := [.ref c]) rfl (Nat.le_of_ble_eq_true rfl) rd_Lw_law_60 ⟨lr_c (by omega), lr_s (by omega)⟩ (fun v w102 hp103 => ?_)
  obtain ⟨rfl, b9, hb9, hc1, hb1, hle0⟩ := hp103
  have hleM : jm_le M0 (jm_lk w102) := fun y e hy => hle0 y e (by rw [hM101, jm_up_n (jm_nen hy hc9)]; exact hy) (jm_nen hy hc9)
  have hb9M : M0 b9 = none := by
    cases hbb : M0 b9 with
    | none => rfl
    | some e =>
      rw [hM101, jm_up_n (jm_nen hbb hc9), hbb] at hb9
      cases hb9
  have hbc : b9 ≠ c := fun z => by rw [z, hM101, jm_up_s] at hb9; cases hb9
  obtain ⟨hA1, hCu1, how1⟩ := hB.1.newk hleM hc9 hb9M hbc hc1 hb1
  have hF1 : jl_FrP ow M0 ((fun (f : Nat → Nat) (y : Nat) => if y = b9 then 8 * c + 2 else f y) (jw_o3 ow c c b9)) (jm_lk w102) (fun _ => False) := fun y e hy => ⟨how1 y e hy, ⟨e, hleM y e hy⟩, fun _ => hleM y e hy⟩
  have hB1 : jw_B cI cR cO cB z0 g ad σ tX tB t r rc ro rd ri ((fun (f : Nat → Nat) (y : Nat) => if y = b9 then 8 * c + 2 else f y) (jw_o3 ow c c b9)) (jm_lk w102) S (jK_n K c b9) P (cs ++ [c]) c0 tx := ⟨hA1.add hCu1, hB.2.1.fr hF1 id, hB.2.2.fr hF1 id⟩
  have hnP : ¬ P c := fun h => by
    have := (hB.1.1 c h).1.1
    rw [hc9] at this
    cases this
  have hnc : c ∉ cs := fun h => by
    have := (hB.1.2.1 c h).1
    rw [hc9] at this
    cases this
  refine jr_astore C rd_Lw_law_63 (Nat.le_of_ble_eq_true rfl) rfl ?_
  refine jk_aload C rd_Lw_law_65 (k := 4) rfl ?_
  refine jk_ldcs C hZ.1 hz rd_Lw_law_67 (k := 15) rfl ?_
  obtain ⟨v0, cap, f0, ml, hsb104, -⟩ := id hB1.2.2
  refine jm_callV C hZ.1.1 hz (rfl : jm_lk w102 = _) (ct_SB_apS l D cI cR cO cB hZ hB1.2.2 (hZ.1.2.1 15 (by decide)) (Nat.le_refl 1) (by rw [show (jk_txt 15).length = 8 from rfl]; omega)) lk_Lw_235 xw_SB_apS sw_SB_apS iw_SB cw_SB_apS na_SB_apS ⟨Nat.le_of_ble_eq_true rfl, Nat.le_of_ble_eq_true rfl⟩ rfl hsb104 rfl rfl (st := []) rfl (Nat.le_of_ble_eq_true rfl) rd_Lw_law_69 ⟨lr_c (by omega), lr_s (by omega)⟩ (fun v w105 hp106 => ?_)
  obtain ⟨rfl, ow104, hS104, hF104⟩ := hp106
  clear hsb104 v0 cap f0 ml
  have hB104 := hB1.ap htB hX6 hF104 hS104
  have hln104 : (tx ++ jk_txt 15).length ≤ tx.length + 8 := by rw [List.length_append]; rw [show (jk_txt 15).length = 8 from rfl]; omega
  refine jk_pop C rd_Lw_law_72 rfl ?_
  refine jk_iload_n C rd_Lw_law_73 (k := 5) rfl ?_
  refine jk_iconst C rd_Lw_law_74 ?_
  refine jk_iconst C rd_Lw_law_75 ?_
  refine jk_iload C rd_Lw_law_76 (k := 1) rfl ?_
  refine jk_imul C rd_Lw_law_78 ?_
  refine jk_iadd C rd_Lw_law_79 ?_
  refine jk_iconst C rd_Lw_law_80 ?_
  rw [show (2 : Int) + 2 * (k : Int) = ((2 + 2 * k : Nat) : Int) by omega]
  refine jm_callS C hZ.1.1 hz (rfl : jm_lk w105 = _) (ct_Lw_bits l D cI cR cO cB hZ (M := jm_lk w105) (x := xx) (f := ((2 + 2 * k : Nat) : Int)) (k := 2)) lk_Lw_156 xw_Lw_bits iw_Lw cw_Lw_bits na_Lw_bits ⟨Nat.le_of_ble_eq_true rfl, Nat.le_of_ble_eq_true rfl⟩ rfl (st := []) rfl (Nat.le_of_ble_eq_true rfl) rd_Lw_law_81 ⟨lr_c (by omega), lr_s (by omega)⟩ (fun v w108 hp109 => ?_)
  obtain ⟨rfl, hb107⟩ := hp109
  obtain ⟨mn, hmn, hmn2⟩ := jw_bits_n xx ((2 + 2 * k : Nat) : Int) (k := 2) (by omega)
  rw [show jw_bits xx ((2 + 2 * k : Nat) : Int) 2 = (mn : Int) from hmn]
  replace hmn2 : mn < 4 := hmn2
  rw [← hb107] at hB104
  refine jk_istore C rd_Lw_law_84 (Nat.le_of_ble_eq_true rfl) rfl ?_
  refine jk_iconst C rd_Lw_law_86 ?_
  refine jk_istore C rd_Lw_law_87 (Nat.le_of_ble_eq_true rfl) rfl ?_
  refine jk_lv [0, 1, 2, 3, 4, 5, 6, 7, 8, 9, 10] rfl ?_
  exact kk _ _ c b9 mn _ _ (by omega) (by omega) hmn2 hnP hnc hB104
end P10
