/-! the text is made: a world while it is made, a text appended -/
def jw_B (cI cR cO cB : ClassId) (z0 : Nat) (g : Nat → Option Nat) (ad : Nat → Nat) (σ : jk_LS) (tX tB t r rc ro rd ri : Nat) (ow : Nat → Nat) (M : jm_M) (S : jl_S) (K : jl_K) (P : Nat → Prop) (cs c0 : List Nat) (tx : List Int) : Prop :=
  jl_Bl cI cO z0 ow M S K P r rc ro rd ri cs c0 [] [] [] ∧ jm_X ow M tX (WX cI cR g ad σ) ∧ jl_SB cB ow M tB t tx 1
section B9
variable {cI cR cO cB : ClassId} {z0 : Nat} {g : Nat → Option Nat} {ad : Nat → Nat} {σ : jk_LS} {tX tB t r rc ro rd ri : Nat} {ow ow' : Nat → Nat} {M M' : jm_M} {S : jl_S} {K : jl_K} {P : Nat → Prop} {cs c0 : List Nat} {tx tx' : List Int}
theorem jw_B.ap (h : jw_B cI cR cO cB z0 g ad σ tX tB t r rc ro rd ri ow M S K P cs c0 tx) (htB : tB % 8 = 7) (htX : tX % 8 = 6) (hF : jl_Fr ow M ow' M' tB) (h1 : jl_SB cB ow' M' tB t tx' 1) : jw_B cI cR cO cB z0 g ad σ tX tB t r rc ro rd ri ow' M' S K P cs c0 tx' :=
  ⟨h.1.fr hF (fun y hy => by omega) (fun y hy => by omega) (fun y hy => by omega), h.2.1.fr hF (by omega), h1⟩
theorem jl_SB.mono2 {k : Nat} (h : jl_SB cB ow M tB t tx k) (hl : jm_le M M') : jl_SB cB ow M' tB t tx k := by
  obtain ⟨v, cap, f, ml, h1, h2, h3, h4, h5, h6, h7⟩ := h
  exact ⟨v, cap, f, ml, hl _ _ h1, h2, hl _ _ h3, h4, h5, h6, h7⟩
theorem jw_B.mono (h : jw_B cI cR cO cB z0 g ad σ tX tB t r rc ro rd ri ow M S K P cs c0 tx) (hl : jm_le M M') : jw_B cI cR cO cB z0 g ad σ tX tB t r rc ro rd ri ow M' S K P cs c0 tx := ⟨h.1.mono hl, h.2.1.mono hl, h.2.2.mono2 hl⟩
theorem jw_B.te (h : jw_B cI cR cO cB z0 g ad σ tX tB t r rc ro rd ri ow M S K P cs c0 tx) (e : tx = tx') : jw_B cI cR cO cB z0 g ad σ tX tB t r rc ro rd ri ow M S K P cs c0 tx' := e ▸ h
end B9
section P9
variable {p : Program} {l : Launch} {ev : Env} {s : State} {m : MethodId} {args : Array Value} {below : List Frame} {meth : Method} {cod : Code} {Q : State → Prop} {D : va_G} {A : Nat → Prop} {Z : (Nat → Prop) → State → Heap → Prop} {sq iad : Nat → Nat} {z0 zi mi d1 d2 : Nat} {cI cR cO cB : ClassId} {ret : Option FieldType} {g : Nat → Option Nat} {ad : Nat → Nat} {σ : jk_LS} {tX tB t r rc ro rd ri b LN : Nat} {xs : Nat → Int32} {ws : va_W} {ow : Nat → Nat} {S : jl_S} {K : jl_K} {P : Nat → Prop} {cs c0 : List Nat} {tx : List Int} {x9 q9 c i mn k at9 n cells slots : Nat} {yy xx : Int}
set_option maxHeartbeats 4000000 in
set_option maxRecDepth 1000000 in
theorem b9_pend (C : jk_C p s m args meth cod code "KnotReaderLaw" 14 jk_WA D jk_cl (jl_ty cI cR cO cB) A ret) (hZ : jl_ZK Z sq iad z0 zi mi) (hz : Z A s s.heap) (hD2 : jl_ZD Z d1 d2) (hX6 : tX % 8 = 6) (htB : tB % 8 = 7) (hcl : cells ≤ 45000) (hsl : slots ≤ 700000) (hPx : P x9) {tp v : Nat} (htp : jS_tp S x9 = (tp : Int)) (htp2 : tp < 2) (hv : jw_bits yy 1 7 = (v : Int)) (hv2 : v < 128) (hlen : tx.length ≤ 500) (hB : jw_B cI cR cO cB z0 g ad σ tX tB t r rc ro rd ri ow (jm_lk ws) S K P cs c0 tx) (kk : ∀ (ws : va_W) (ow : Nat → Nat) (cells2 slots2 : Nat), cells2 ≤ cells + 4 → slots2 ≤ slots + 4400 → jw_B cI cR cO cB z0 g ad σ tX tB t r rc ro rd ri ow (jm_lk ws) S K P cs c0 (tx ++ jk_txt 16 ++ [(97 + (tp : Int))] ++ [32] ++ jl_nt v) → jk_J p l ev room_1 s m args below meth cod cells2 slots2 Q D jk_cl A 14 ws [(12, .ref x9), (11, jk_V yy), (10, jk_V ((i : Int))), (9, jk_V ((mn : Int))), (8, .ref c), (7, jk_V ((k : Int))), (6, jk_V ((at9 : Int))), (5, jk_V ((n : Int))), (4, .ref t), (3, jk_V xx), (2, .ref r), (1, .ref ((ad 0))), (0, .ref b)] 167 []) : jk_J p l ev room_1 s m args below meth cod cells slots Q D jk_cl A 14 ws [(12, .ref x9), (11, jk_V yy), (10, jk_V ((i : Int))), (9, jk_V ((mn : Int))), (8, .ref c), (7, jk_V ((k : Int))), (6, jk_V ((at9 : Int))), (5, jk_V ((n : Int))), (4, .ref t), (3, jk_V xx), (2, .ref r), (1, .ref ((ad 0))), (0, .ref b)] 131 [] := by
  refine jk_aload C rd_Lw_law_131 (k := 8) rfl ?_
  refine jk_ldcs C hZ.1 hz rd_Lw_law_133 (k := 16) rfl ?_
  obtain ⟨v0, cap, f0, ml, hsb101, -⟩ := id hB.2.2
  refine jm_callV C hZ.1.1 hz (rfl : jm_lk ws = _) (ct_SB_apS l D cI cR cO cB hZ hB.2.2 (hZ.1.2.1 16 (by decide)) (Nat.le_refl 1) (by rw [show (jk_txt 16).length = 8 from rfl]; omega)) lk_Lw_235 xw_SB_apS sw_SB_apS iw_SB cw_SB_apS na_SB_apS ⟨Nat.le_of_ble_eq_true rfl, Nat.le_of_ble_eq_true rfl⟩ rfl hsb101 rfl rfl (st := []) rfl (Nat.le_of_ble_eq_true rfl) rd_Lw_law_135 ⟨lr_c (by omega), lr_s (by omega)⟩ (fun v w102 hp103 => ?_)
  obtain ⟨rfl, ow101, hS101, hF101⟩ := hp103
  clear hsb101 v0 cap f0 ml
  have hB101 := hB.ap htB hX6 hF101 hS101
  have hln101 : (tx ++ jk_txt 16).length ≤ tx.length + 8 := by rw [List.length_append]; rw [show (jk_txt 16).length = 8 from rfl]; omega
  refine jk_bipush C rd_Lw_law_138 (by decide +kernel) ?_
  refine jk_aload C rd_Lw_law_140 (k := 0) rfl ?_
  have hcd := (hB101.1.1 x9 hPx).1
  refine jm_getN C (rfl : jm_lk w102 = _) in_Cd (ci := 11) rfl 1 (Nat.le_of_ble_eq_true rfl) (jk_nw hZ.1 hz lk_Lw_77) hcd.1 rfl rd_Lw_law_142 ?_
  rw [htp]
  refine jk_iadd C rd_Lw_law_145 ?_
  refine jm_i2c C ⟨by omega, by omega⟩ rd_Lw_law_146 ?_
  obtain ⟨v0, cap, f0, ml, hsb104, -⟩ := id hB101.2.2
  refine jm_callV C hZ.1.1 hz (rfl : jm_lk w102 = _) (ct_SB_apC l D cI cR cO cB hZ hB101.2.2 (x := (97 + (tp : Int))) ⟨by omega, by omega⟩ (Nat.le_refl 1) (by omega)) lk_Lw_241 xw_SB_apC sw_SB_apC iw_SB cw_SB_apC na_SB_apC ⟨Nat.le_of_ble_eq_true rfl, Nat.le_of_ble_eq_true rfl⟩ rfl hsb104 rfl rfl (st := []) rfl (Nat.le_of_ble_eq_true rfl) rd_Lw_law_147 ⟨lr_c (by omega), lr_s (by omega)⟩ (fun v w105 hp106 => ?_)
  obtain ⟨rfl, ow104, hS104, hF104⟩ := hp106
  clear hsb104 v0 cap f0 ml
  have hB104 := hB101.ap htB hX6 hF104 hS104
  have hln104 : (tx ++ jk_txt 16 ++ [(97 + (tp : Int))]).length ≤ tx.length + 9 := by rw [List.length_append]; rw [List.length_singleton]; omega
  refine jk_bipush C rd_Lw_law_150 (by decide +kernel) ?_
  obtain ⟨v0, cap, f0, ml, hsb107, -⟩ := id hB104.2.2
  refine jm_callV C hZ.1.1 hz (rfl : jm_lk w105 = _) (ct_SB_apC l D cI cR cO cB hZ hB104.2.2 (x := 32) ⟨by omega, by omega⟩ (Nat.le_refl 1) (by omega)) lk_Lw_241 xw_SB_apC sw_SB_apC iw_SB cw_SB_apC na_SB_apC ⟨Nat.le_of_ble_eq_true rfl, Nat.le_of_ble_eq_true rfl⟩ rfl hsb107 rfl rfl (st := []) rfl (Nat.le_of_ble_eq_true rfl) rd_Lw_law_152 ⟨lr_c (by omega), lr_s (by omega)⟩ (fun v w108 hp109 => ?_)
  obtain ⟨rfl, ow107, hS107, hF107⟩ := hp109
  clear hsb107 v0 cap f0 ml
  have hB107 := hB104.ap htB hX6 hF107 hS107
  have hln107 : (tx ++ jk_txt 16 ++ [(97 + (tp : Int))] ++ [32]).length ≤ tx.length + 10 := by rw [List.length_append]; rw [List.length_singleton]; omega
  refine jk_iload C rd_Lw_law_155 (k := 1) rfl ?_
  refine jk_iconst C rd_Lw_law_157 ?_
  refine jk_bipush C rd_Lw_law_158 (by decide +kernel) ?_
  refine jm_callS C hZ.1.1 hz (rfl : jm_lk w108 = _) (ct_Lw_bits l D cI cR cO cB hZ (M := jm_lk w108) (x := yy) (f := 1) (k := 7)) lk_Lw_156 xw_Lw_bits iw_Lw cw_Lw_bits na_Lw_bits ⟨Nat.le_of_ble_eq_true rfl, Nat.le_of_ble_eq_true rfl⟩ rfl (st := [.ref t]) rfl (Nat.le_of_ble_eq_true rfl) rd_Lw_law_160 ⟨lr_c (by omega), lr_s (by omega)⟩ (fun v w111 hp112 => ?_)
  obtain ⟨rfl, hb110⟩ := hp112
  rw [hv]
  have hnt113 := jl_nt_le3 v
  obtain ⟨v0, cap, f0, ml, hsb114, -⟩ := id hB107.2.2
  refine jm_callV C hZ.1.1 hz hb110 (ct_SB_apI l D cI cR cO cB hZ hD2 hB107.2.2 (n := v) (by omega) (Nat.le_refl 1) (by omega)) lk_Lw_244 xw_SB_apI sw_SB_apI iw_SB cw_SB_apI na_SB_apI ⟨Nat.le_of_ble_eq_true rfl, Nat.le_of_ble_eq_true rfl⟩ rfl hsb114 rfl rfl (st := []) rfl (Nat.le_of_ble_eq_true rfl) rd_Lw_law_163 ⟨lr_c (by omega), lr_s (by omega)⟩ (fun v w115 hp116 => ?_)
  obtain ⟨rfl, ow114, hS114, hF114⟩ := hp116
  clear hsb114 v0 cap f0 ml
  have hB114 := hB107.ap htB hX6 hF114 hS114
  have hln114 : (tx ++ jk_txt 16 ++ [(97 + (tp : Int))] ++ [32] ++ jl_nt v).length ≤ tx.length + 13 := by rw [List.length_append]; omega
  refine jk_pop C rd_Lw_law_166 rfl ?_
  exact kk _ _ _ _ (by omega) (by omega) hB114
set_option maxHeartbeats 4000000 in
set_option maxRecDepth 1000000 in
theorem b9_nib (C : jk_C p s m args meth cod code "KnotReaderLaw" 14 jk_WA D jk_cl (jl_ty cI cR cO cB) A ret) (hZ : jl_ZK Z sq iad z0 zi mi) (hz : Z A s s.heap) (hD2 : jl_ZD Z d1 d2) (hX6 : tX % 8 = 6) (htB : tB % 8 = 7) (hcl : cells ≤ 45000) (hsl : slots ≤ 700000) (hPx : P x9) (hlen : tx.length ≤ 505) (hB : jw_B cI cR cO cB z0 g ad σ tX tB t r rc ro rd ri ow (jm_lk ws) S K P cs c0 tx) (k1 : ∀ (ws : va_W) (ow : Nat → Nat) (cells2 slots2 : Nat), cells2 ≤ cells + 2 → slots2 ≤ slots + 2300 → jw_B cI cR cO cB z0 g ad σ tX tB t r rc ro rd ri ow (jm_lk ws) S K P cs c0 (tx ++ [59]) → jk_J p l ev room_1 s m args below meth cod cells2 slots2 Q D jk_cl A 14 ws [(12, .ref x9), (11, jk_V yy), (10, jk_V ((i : Int))), (9, jk_V ((mn : Int))), (8, .ref c), (7, jk_V ((k : Int))), (6, jk_V ((at9 : Int))), (5, jk_V ((n : Int))), (4, .ref t), (3, jk_V xx), (2, .ref r), (1, .ref ((ad 0))), (0, .ref b)] 208 []) (k2 : ∀ (ws : va_W) (ow : Nat → Nat) (cells2 slots2 : Nat), cells2 ≤ cells + 2 → slots2 ≤ slots + 2300 → jw_B cI cR cO cB z0 g ad σ tX tB t r rc ro rd ri ow (jm_lk ws) (jS_w S x9 (jk_up (jS_dg S x9) 0 0) (jS_tp S x9) 1) K P cs c0 (tx ++ jk_txt 17 ++ [59]) → jk_J p l ev room_1 s m args below meth cod cells2 slots2 Q D jk_cl A 14 ws [(12, .ref x9), (11, jk_V yy), (10, jk_V ((i : Int))), (9, jk_V ((mn : Int))), (8, .ref c), (7, jk_V ((k : Int))), (6, jk_V ((at9 : Int))), (5, jk_V ((n : Int))), (4, .ref t), (3, jk_V xx), (2, .ref r), (1, .ref ((ad 0))), (0, .ref b)] 208 []) : jk_J p l ev room_1 s m args below meth cod cells slots Q D jk_cl A 14 ws [(12, .ref x9), (11, jk_V yy), (10, jk_V ((i : Int))), (9, jk_V ((mn : Int))), (8, .ref c), (7, jk_V ((k : Int))), (6, jk_V ((at9 : Int))), (5, jk_V ((n : Int))), (4, .ref t), (3, jk_V xx), (2, .ref r), (1, .ref ((ad 0))), (0, .ref b)] 167 [] := by
  refine jk_iload C rd_Lw_law_167 (k := 1) rfl ?_
  refine jk_bipush C rd_Lw_law_169 (by decide +kernel) ?_
  refine jk_iconst C rd_Lw_law_171 ?_
  refine jm_callS C hZ.1.1 hz (rfl : jm_lk ws = _) (ct_Lw_bits l D cI cR cO cB hZ (M := jm_lk ws) (x := yy) (f := 8) (k := 3)) lk_Lw_156 xw_Lw_bits iw_Lw cw_Lw_bits na_Lw_bits ⟨Nat.le_of_ble_eq_true rfl, Nat.le_of_ble_eq_true rfl⟩ rfl (st := []) rfl (Nat.le_of_ble_eq_true rfl) rd_Lw_law_172 ⟨lr_c (by omega), lr_s (by omega)⟩ (fun v w102 hp103 => ?_)
  obtain ⟨rfl, hb101⟩ := hp103
  obtain ⟨nq, hnq, hnq2⟩ := jw_bits_n yy 8 (k := 3) (by omega)
  rw [show jw_bits yy 8 3 = (nq : Int) from hnq]
  replace hnq2 : nq < 8 := hnq2
  refine jr_if_ne C rd_Lw_law_175 (tgt := 200) rfl ⟨by omega, by omega⟩ (fun hc => ?_) (fun hc => ?_)
  · refine jk_aload C rd_Lw_law_200 (k := 8) rfl ?_
    refine jk_bipush C rd_Lw_law_202 (by decide +kernel) ?_
    obtain ⟨v0, cap, f0, ml, hsb104, -⟩ := id hB.2.2
    refine jm_callV C hZ.1.1 hz hb101 (ct_SB_apC l D cI cR cO cB hZ hB.2.2 (x := 59) ⟨by omega, by omega⟩ (Nat.le_refl 1) (by omega)) lk_Lw_241 xw_SB_apC sw_SB_apC iw_SB cw_SB_apC na_SB_apC ⟨Nat.le_of_ble_eq_true rfl, Nat.le_of_ble_eq_true rfl⟩ rfl hsb104 rfl rfl (st := []) rfl (Nat.le_of_ble_eq_true rfl) rd_Lw_law_204 ⟨lr_c (by omega), lr_s (by omega)⟩ (fun v w105 hp106 => ?_)
    obtain ⟨rfl, ow104, hS104, hF104⟩ := hp106
    clear hsb104 v0 cap f0 ml
    have hB104 := hB.ap htB hX6 hF104 hS104
    have hln104 : (tx ++ [59]).length ≤ tx.length + 1 := by rw [List.length_append]; rw [List.length_singleton]; omega
    refine jk_pop C rd_Lw_law_207 rfl ?_
    exact k1 _ _ _ _ (by omega) (by omega) hB104
  · obtain ⟨M0, hEM0⟩ : ∃ Mx : jm_M, Mx = jm_lk ws := ⟨_, rfl⟩
    rw [← hEM0] at hB
    obtain ⟨hcd, hnb, hch⟩ := hB.1.1 x9 hPx
    refine jk_aload C rd_Lw_law_178 (k := 0) rfl ?_
    refine jk_iconst C rd_Lw_law_180 ?_
    refine jm_putN C (show jm_lk w102 = M0 from hb101.trans hEM0.symm) in_Cd (ty0 := tf_Cd) ty_Cd nm_Cd (ci := 11) rfl 2 (Nat.le_of_ble_eq_true rfl) (jk_nw hZ.1 hz lk_Lw_90) rfl rfl rfl hcd.1 (Nat.le_of_ble_eq_true rfl) rd_Lw_law_181 (fun w107 hw107 => ?_)
    obtain ⟨M108, hM108⟩ : ∃ Mx : jm_M, Mx = jm_up M0 x9 (.inr (11, [.ref ((jS_kn S x9)), jk_V ((jS_tp S x9)), jk_V 1, .ref ((jS_bl S x9))])) := ⟨_, rfl⟩
    replace hw107 : jm_lk w107 = M108 := by rw [hM108]; exact hw107
    have hc108_jS_knSx9 := jm_keep hM108 hcd.2.2.1 (jm_nek hcd.2.2.1 hcd.1 rfl)
    have hc108_x9 := jm_this hM108
    refine jk_aload C rd_Lw_law_184 (k := 0) rfl ?_
    refine jm_getN C hw107 in_Cd (ci := 11) rfl 0 (Nat.le_of_ble_eq_true rfl) (jk_nw hZ.1 hz lk_Lw_115) hc108_x9 rfl rd_Lw_law_186 ?_
    refine jk_iconst C rd_Lw_law_189 ?_
    refine jk_iconst C rd_Lw_law_190 ?_
    refine jm_iast C hw107 0 hc108_jS_knSx9 rfl (by omega) (by omega) (by omega) rd_Lw_law_191 (fun w8 hw8 => ?_)
    obtain ⟨M6, hM6e⟩ : ∃ Mx : jm_M, Mx = jm_up M108 (jS_kn S x9) (jk_W cI 4 (jk_up (jS_dg S x9) 0 0)) := ⟨_, rfl⟩
    replace hw8 : jm_lk w8 = M6 := by rw [hM6e]; exact hw8
    have hx6 := jm_keep hM6e hc108_x9 (jm_nek hcd.1 hcd.2.2.1 rfl)
    have hk6 := jm_this hM6e
    have hFp := ((jl_Fr.put hM108 hcd.2.1).wide (T' := fun z => z = 8 * x9 ∨ z = 8 * x9 + 1) (fun _ h => Or.inl h)).trans ((jl_Fr.put hM6e hcd.2.2.2.1).wide (fun _ h => Or.inr h))
    have hB6 : jw_B cI cR cO cB z0 g ad σ tX tB t r rc ro rd ri ow (M6) (jS_w S x9 (jk_up (jS_dg S x9) 0 0) (jS_tp S x9) 1) K P cs c0 tx := ⟨hB.1.cord hPx hFp hx6 hk6 ⟨by omega, by omega⟩, hB.2.1.fr hFp (by omega), hB.2.2.fr hFp (by omega)⟩
    refine jk_aload C rd_Lw_law_192 (k := 8) rfl ?_
    refine jk_ldcs C hZ.1 hz rd_Lw_law_194 (k := 17) rfl ?_
    obtain ⟨v0, cap, f0, ml, hsb109, -⟩ := id hB6.2.2
    refine jm_callV C hZ.1.1 hz hw8 (ct_SB_apS l D cI cR cO cB hZ hB6.2.2 (hZ.1.2.1 17 (by decide)) (Nat.le_refl 1) (by rw [show (jk_txt 17).length = 10 from rfl]; omega)) lk_Lw_235 xw_SB_apS sw_SB_apS iw_SB cw_SB_apS na_SB_apS ⟨Nat.le_of_ble_eq_true rfl, Nat.le_of_ble_eq_true rfl⟩ rfl hsb109 rfl rfl (st := []) rfl (Nat.le_of_ble_eq_true rfl) rd_Lw_law_196 ⟨lr_c (by omega), lr_s (by omega)⟩ (fun v w110 hp111 => ?_)
    obtain ⟨rfl, ow109, hS109, hF109⟩ := hp111
    clear hsb109 v0 cap f0 ml
    have hB109 := hB6.ap htB hX6 hF109 hS109
    have hln109 : (tx ++ jk_txt 17).length ≤ tx.length + 10 := by rw [List.length_append]; rw [show (jk_txt 17).length = 10 from rfl]; omega
    refine jk_pop C rd_Lw_law_199 rfl ?_
    refine jk_aload C rd_Lw_law_200 (k := 8) rfl ?_
    refine jk_bipush C rd_Lw_law_202 (by decide +kernel) ?_
    obtain ⟨v0, cap, f0, ml, hsb112, -⟩ := id hB109.2.2
    refine jm_callV C hZ.1.1 hz (rfl : jm_lk w110 = _) (ct_SB_apC l D cI cR cO cB hZ hB109.2.2 (x := 59) ⟨by omega, by omega⟩ (Nat.le_refl 1) (by omega)) lk_Lw_241 xw_SB_apC sw_SB_apC iw_SB cw_SB_apC na_SB_apC ⟨Nat.le_of_ble_eq_true rfl, Nat.le_of_ble_eq_true rfl⟩ rfl hsb112 rfl rfl (st := []) rfl (Nat.le_of_ble_eq_true rfl) rd_Lw_law_204 ⟨lr_c (by omega), lr_s (by omega)⟩ (fun v w113 hp114 => ?_)
    obtain ⟨rfl, ow112, hS112, hF112⟩ := hp114
    clear hsb112 v0 cap f0 ml
    have hB112 := hB109.ap htB hX6 hF112 hS112
    have hln112 : (tx ++ jk_txt 17 ++ [59]).length ≤ tx.length + 11 := by rw [List.length_append]; rw [List.length_singleton]; omega
    refine jk_pop C rd_Lw_law_207 rfl ?_
    exact k2 _ _ _ _ (by omega) (by omega) hB112
set_option maxHeartbeats 4000000 in
set_option maxRecDepth 1000000 in
theorem b9_add (C : jk_C p s m args meth cod code "KnotReaderLaw" 14 jk_WA D jk_cl (jl_ty cI cR cO cB) A ret) (hZ : jl_ZK Z sq iad z0 zi mi) (hz : Z A s s.heap) (hD2 : jl_ZD Z d1 d2) (hX6 : tX % 8 = 6) (htB : tB % 8 = 7) (hcl : cells ≤ 45000) (hsl : slots ≤ 700000) (hPx : P x9) (hcm : c ∈ cs) (hpd : ∀ y ∈ jK_pd K c, P y) (hpl : (jK_pd K c).length ≤ 30) (hB : jw_B cI cR cO cB z0 g ad σ tX tB t r rc ro rd ri ow (jm_lk ws) S K P cs c0 tx) (kk : ∀ (ws : va_W) (ow : Nat → Nat) (cells2 slots2 : Nat), cells2 ≤ cells + 1 → slots2 ≤ slots + 100 → jw_B cI cR cO cB z0 g ad σ tX tB t r rc ro rd ri ow (jm_lk ws) S (jK_p K c (jK_pd K c ++ [x9])) P cs c0 tx → jk_J p l ev room_1 s m args below meth cod cells2 slots2 Q D jk_cl A 14 ws [(12, .ref x9), (11, jk_V yy), (10, jk_V ((i : Int))), (9, jk_V ((mn : Int))), (8, .ref c), (7, jk_V ((k : Int))), (6, jk_V ((at9 : Int))), (5, jk_V ((n : Int))), (4, .ref t), (3, jk_V xx), (2, .ref r), (1, .ref ((ad 0))), (0, .ref b)] 221 []) : jk_J p l ev room_1 s m args below meth cod cells slots Q D jk_cl A 14 ws [(12, .ref x9), (11, jk_V yy), (10, jk_V ((i : Int))), (9, jk_V ((mn : Int))), (8, .ref c), (7, jk_V ((k : Int))), (6, jk_V ((at9 : Int))), (5, jk_V ((n : Int))), (4, .ref t), (3, jk_V xx), (2, .ref r), (1, .ref ((ad 0))), (0, .ref b)] 208 [] := by
  obtain ⟨M0, hEM0⟩ : ∃ Mx : jm_M, Mx = jm_lk ws := ⟨_, rfl⟩
  rw [← hEM0] at hB
  have hCu := hB.1.2.1 c hcm
  have hcx := (hB.1.1 x9 hPx).1.1
  refine jk_aload C rd_Lw_law_208 (k := 4) rfl ?_
  refine jm_getN C (show jm_lk ws = M0 from hEM0.symm) in_Cu (ci := 12) rfl 1 (Nat.le_of_ble_eq_true rfl) (jk_nw hZ.1 hz lk_Lw_136) hCu.1 rfl rd_Lw_law_210 ?_
  refine jk_aload C rd_Lw_law_213 (k := 0) rfl ?_
  obtain ⟨mcA, eA, _, _, hcA, -⟩ := id hCu.2.2
  refine jm_callF C (x := ⟨"java/util/List", "add", "(Ljava/lang/Object;)Z"⟩) (q := ("java/util/ArrayList", tb_AL, 3)) (ci := 14) hZ.1.1 hz (show jm_lk ws = M0 from hEM0.symm) (ct_AL_add l D cI cR cO cB hZ hCu.2.2 (Or.inl ⟨_, hcx⟩) (by omega) (fun y hy => Or.inl ⟨_, (hB.1.1 y (hpd y hy)).1.1⟩)) (ff_AL_add hZ.1 hz) (fg_AL_add lk_Lw_169) cw_AL_add nf_AL_add ⟨Nat.le_of_ble_eq_true rfl, Nat.le_of_ble_eq_true rfl⟩ rfl hcA rfl (st := []) rfl (Nat.le_of_ble_eq_true rfl) rd_Lw_law_215 ⟨lr_c (by omega), lr_s (by omega)⟩ (fun v w101 hp102 => ?_)
  obtain ⟨rfl, ow2, hL2, hF2⟩ := hp102
  clear hcA
  have hB2 : jw_B cI cR cO cB z0 g ad σ tX tB t r rc ro rd ri ow2 (jm_lk w101) S (jK_p K c (jK_pd K c ++ [x9])) P cs c0 tx := ⟨hB.1.pdl hcm hF2 hL2, hB.2.1.fr hF2 (by omega), hB.2.2.fr hF2 (by omega)⟩
  refine jk_pop C rd_Lw_law_220 rfl ?_
  exact kk _ _ _ _ (by omega) (by omega) hB2
set_option maxHeartbeats 4000000 in
set_option maxRecDepth 1000000 in
theorem b9_newp (C : jk_C p s m args meth cod code "KnotReaderLaw" 14 jk_WA D jk_cl (jl_ty cI cR cO cB) A ret) (hZ : jl_ZK Z sq iad z0 zi mi) (hz : Z A s s.heap) (hD2 : jl_ZD Z d1 d2) (hX6 : tX % 8 = 6) (htB : tB % 8 = 7) (hcl : cells ≤ 45000) (hsl : slots ≤ 700000) (hXs : ∀ (A : Nat → Prop) (U : State) (H : Heap), Z A U H → va_T .int b LN (fun j => .int (xs j)) A U H) (hLN : LN < 100000) (hat : at9 < 100) (hB : jw_B cI cR cO cB z0 g ad σ tX tB t r rc ro rd ri ow (jm_lk ws) S K P cs c0 tx) (kk : ∀ (ws : va_W) (ow : Nat → Nat) (yy : Int) (tp v x9 k9 b9 cells2 slots2 : Nat), cells2 ≤ cells + 3 → slots2 ≤ slots + 100 → tp < 2 → jw_bits yy 1 7 = (v : Int) → v < 128 → jk_R yy → ¬ P x9 → x9 ∉ cs → jw_B cI cR cO cB z0 g ad σ tX tB t r rc ro rd ri ow (jm_lk ws) (jS_n S x9 k9 b9 (jl_dgs (fun _ => 0) (v : Int)) (tp : Int)) K (fun y => P y ∨ y = x9) cs c0 tx → jk_J p l ev room_1 s m args below meth cod cells2 slots2 Q D jk_cl A 14 ws [(12, .ref x9), (11, jk_V yy), (10, jk_V ((i : Int))), (9, jk_V ((mn : Int))), (8, .ref c), (7, jk_V ((k : Int))), (6, jk_V (((at9 + 1 : Nat) : Int))), (5, jk_V ((n : Int))), (4, .ref t), (3, jk_V xx), (2, .ref r), (1, .ref ((ad 0))), (0, .ref b)] 131 []) : jk_J p l ev room_1 s m args below meth cod cells slots Q D jk_cl A 14 ws [(10, jk_V ((i : Int))), (9, jk_V ((mn : Int))), (8, .ref c), (7, jk_V ((k : Int))), (6, jk_V ((at9 : Int))), (5, jk_V ((n : Int))), (4, .ref t), (3, jk_V xx), (2, .ref r), (1, .ref ((ad 0))), (0, .ref b)] 96 [] := by
  refine jk_aload_n C rd_Lw_law_96 (k := 10) rfl ?_
  refine jk_iload C rd_Lw_law_97 (k := 4) rfl ?_
  refine jm_callS C hZ.1.1 hz (rfl : jm_lk ws = _) (ct_Lw_cell l D cI cR cO cB hZ (M := jm_lk ws) (k := at9) hXs hLN (by omega)) lk_Lw_222 xw_Lw_cell iw_Lw cw_Lw_cell na_Lw_cell ⟨Nat.le_of_ble_eq_true rfl, Nat.le_of_ble_eq_true rfl⟩ rfl (st := []) rfl (Nat.le_of_ble_eq_true rfl) rd_Lw_law_99 ⟨lr_c (by omega), lr_s (by omega)⟩ (fun v w101 hp102 => ?_)
  obtain ⟨rfl, hce⟩ := hp102
  have hyR : jk_R (jw_cell LN xs at9) := jw_cell_R (by omega)
  generalize hyy : jw_cell LN xs at9 = yy at hyR ⊢
  refine jk_istore C rd_Lw_law_102 (Nat.le_of_ble_eq_true rfl) rfl ?_
  refine jk_iinc C rd_Lw_law_104 (k := 5) rfl (Nat.le_of_ble_eq_true rfl) rfl ?_
  obtain ⟨tp, htp, htp2⟩ := jw_bits_n yy 0 (k := 1) (by omega)
  replace htp2 : tp < 2 := htp2
  obtain ⟨v, hv, hv2⟩ := jw_bits_n yy 1 (k := 7) (by omega)
  replace hv2 : v < 128 := hv2
  obtain ⟨M0, hEM0⟩ : ∃ Mx : jm_M, Mx = jm_lk ws := ⟨_, rfl⟩
  rw [← hEM0] at hB
  refine jm_new C (show jm_lk w101 = M0 from hce.trans hEM0.symm) in_Cd (ty0 := tf_Cd) ty_Cd lk_Lw_54 nw_Cd iw_Cd (ci := 11) rfl (fs := [.null, jk_V 0, jk_V 0, .null]) (by intro j hj; rcases j with _ | _ | _ | _ | j <;> first | rfl | omega) ⟨lr_c (by omega), lr_s (by omega)⟩ rd_Lw_law_107 (fun x9 wn hn9 hwn => ?_)
  obtain ⟨M103, hM103⟩ : ∃ Mx : jm_M, Mx = jm_up M0 x9 (.inr (11, [.null, jk_V 0, jk_V 0, .null])) := ⟨_, rfl⟩
  replace hwn : jm_lk wn = M103 := by rw [hM103]; exact hwn
  have hc103_x9 := jm_this hM103
  refine jk_dup C rd_Lw_law_110 rfl ?_
  refine jk_iload C rd_Lw_law_111 (k := 1) rfl ?_
  refine jk_iconst C rd_Lw_law_113 ?_
  refine jk_iconst C rd_Lw_law_114 ?_
  refine jm_callS C hZ.1.1 hz hwn (ct_Lw_bits l D cI cR cO cB hZ (M := M103) (x := yy) (f := 0) (k := 1)) lk_Lw_156 xw_Lw_bits iw_Lw cw_Lw_bits na_Lw_bits ⟨Nat.le_of_ble_eq_true rfl, Nat.le_of_ble_eq_true rfl⟩ rfl (st := [.ref x9, .ref x9]) rfl (Nat.le_of_ble_eq_true rfl) rd_Lw_law_115 ⟨lr_c (by omega), lr_s (by omega)⟩ (fun v w105 hp106 => ?_)
  obtain ⟨rfl, hb104⟩ := hp106
  rw [show jw_bits yy 0 1 = (tp : Int) from htp]
  refine jk_iload C rd_Lw_law_118 (k := 1) rfl ?_
  refine jk_iconst C rd_Lw_law_120 ?_
  refine jk_bipush C rd_Lw_law_121 (by decide +kernel) ?_
  refine jm_callS C hZ.1.1 hz hb104 (ct_Lw_bits l D cI cR cO cB hZ (M := M103) (x := yy) (f := 1) (k := 7)) lk_Lw_156 xw_Lw_bits iw_Lw cw_Lw_bits na_Lw_bits ⟨Nat.le_of_ble_eq_true rfl, Nat.le_of_ble_eq_true rfl⟩ rfl (st := [jk_V ((tp : Int)), .ref x9, .ref x9]) rfl (Nat.le_of_ble_eq_true rfl) rd_Lw_law_123 ⟨lr_c (by omega), lr_s (by omega)⟩ (fun v w108 hp109 => ?_)
  obtain ⟨rfl, hb107⟩ := hp109
  rw [show jw_bits yy 1 7 = (v : Int) from hv]
  refine jm_callI C hZ.1.1 hz hb107 (ct_Cd_init l D cI cR cO cB hZ hc103_x9 ⟨by omega, by omega⟩) lk_Lw_166 xw_Cd_init iw_Cd cw_Cd_init rfl na_Cd_init ⟨Nat.le_of_ble_eq_true rfl, Nat.le_of_ble_eq_true rfl⟩ rfl (st := [.ref x9]) rfl (Nat.le_of_ble_eq_true rfl) rd_Lw_law_126 ⟨lr_c (by omega), lr_s (by omega)⟩ (fun v w110 hp111 => ?_)
  obtain ⟨rfl, k9, b9, hk9, hb9, hbk, hx1, hk1, hb1, hle0⟩ := hp111
  have hleM : jm_le M0 (jm_lk w110) := fun y e hy => hle0 y e (by rw [hM103, jm_up_n (jm_nen hy hn9)]; exact hy) (jm_nen hy hn9)
  have hk9M : M0 k9 = none := by
    cases hbb : M0 k9 with
    | none => rfl
    | some e =>
      rw [hM103, jm_up_n (jm_nen hbb hn9), hbb] at hk9
      cases hk9
  have hk9x : k9 ≠ x9 := fun z => by rw [z, hM103, jm_up_s] at hk9; cases hk9
  have hb9M : M0 b9 = none := by
    cases hbb : M0 b9 with
    | none => rfl
    | some e =>
      rw [hM103, jm_up_n (jm_nen hbb hn9), hbb] at hb9
      cases hb9
  have hb9x : b9 ≠ x9 := fun z => by rw [z, hM103, jm_up_s] at hb9; cases hb9
  have hF1 : jl_FrP ow M0 (jw_o3 ow x9 k9 b9) (jm_lk w110) (fun _ => False) := jw_o3_fr hleM hn9 hk9M hb9M
  have hB1 : jw_B cI cR cO cB z0 g ad σ tX tB t r rc ro rd ri (jw_o3 ow x9 k9 b9) (jm_lk w110) (jS_n S x9 k9 b9 (jl_dgs (fun _ => 0) (v : Int)) (tp : Int)) K (fun y => P y ∨ y = x9) cs c0 tx := ⟨hB.1.newc hleM hn9 hk9M hb9M hk9x hb9x hbk hx1 hk1 hb1, hB.2.1.fr hF1 id, hB.2.2.fr hF1 id⟩
  have hnP : ¬ P x9 := fun h => by
    have := (hB.1.1 x9 h).1.1
    rw [hn9] at this
    cases this
  have hnc : x9 ∉ cs := fun h => by
    have := (hB.1.2.1 x9 h).1
    rw [hn9] at this
    cases this
  refine jr_astore C rd_Lw_law_129 (Nat.le_of_ble_eq_true rfl) rfl ?_
  refine jk_lv [0, 2, 3, 4, 5, 6, 1, 7, 8, 9, 10, 11, 12] rfl ?_
  rw [show (at9 : Int) + 1 = ((at9 + 1 : Nat) : Int) by omega]
  exact kk _ _ yy tp v _ k9 b9 _ _ (by omega) (by omega) htp2 hv hv2 hyR hnP hnc hB1
end P9
