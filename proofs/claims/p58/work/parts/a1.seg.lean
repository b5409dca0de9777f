/-! the text is made: a world while it is made, a text appended -/
def jw_B (cI cR cO cB : ClassId) (z0 : Nat) (g : Nat → Option Nat) (ad : Nat → Nat) (σ : jk_LS) (tX tB t r rc ro rd ri : Nat) (ow : Nat → Nat) (M : jm_M) (S : jl_S) (K : jl_K) (P : Nat → Prop) (cs c0 : List Nat) (tx : List Int) : Prop :=
  jl_Bl cI cO z0 ow M S K P r rc ro rd ri cs c0 [] [] [] ∧ jm_X ow M tX (WX cI cR g ad σ) ∧ jl_SB cB ow M tB t tx 1
section B9
variable {cI cR cO cB : ClassId} {z0 : Nat} {g : Nat → Option Nat} {ad : Nat → Nat} {σ : jk_LS} {tX tB t r rc ro rd ri : Nat} {ow ow' : Nat → Nat} {M M' : jm_M} {S : jl_S} {K : jl_K} {P : Nat → Prop} {cs c0 : List Nat} {tx tx' : List Int}
theorem jw_B.ap (h : jw_B cI cR cO cB z0 g ad σ tX tB t r rc ro rd ri ow M S K P cs c0 tx) (htB : tB % 8 = 7) (htX : tX % 8 = 6) (hF : jl_Fr ow M ow' M' tB) (h1 : jl_SB cB ow' M' tB t tx' 1) : jw_B cI cR cO cB z0 g ad σ tX tB t r rc ro rd ri ow' M' S K P cs c0 tx' :=
  ⟨h.1.fr hF (fun y hy => by omega) (fun y hy => by omega) (fun y hy => by omega), h.2.1.fr hF (by omega), h1⟩
theorem jl_SB.mono2 {k : Nat} (h : jl_SB cB ow M tB t tx k) (hl : jm_le M M') : jl_SB cB ow M' tB t tx k := by
  obtain ⟨v, cap, f, ml, h1, h2, h3, h4, h5, h6, h7⟩ := h
  exact ⟨v, cap, f, ml, hl _ _ h1, h2, hl _ _ h3, h4, h5, h6, h7⟩
theorem jw_B.mono (h : jw_B cI cR cO cB z0 g ad σ tX tB t r rc ro rd ri ow M S K P cs c0 tx) (hl : jm_le M M') : jw_B cI cR cO cB z0 g ad σ tX tB t r rc ro rd ri ow M' S K P cs c0 tx := ⟨h.1.mono hl, h.2.1.mono hl, h.2.2.mono2 hl⟩
theorem jw_B.te (h : jw_B cI cR cO cB z0 g ad σ tX tB t r rc ro rd ri ow M S K P cs c0 tx) (e : tx = tx') : jw_B cI cR cO cB z0 g ad σ tX tB t r rc ro rd ri ow M S K P cs c0 tx' := e ▸ h
end B9
section P9
variable {p : Program} {l : Launch} {ev : Env} {s : State} {m : MethodId} {args : Array Value} {below : List Frame} {meth : Method} {cod : Code} {Q : State → Prop} {D : va_G} {A : Nat → Prop} {Z : (Nat → Prop) → State → Heap → Prop} {sq iad : Nat → Nat} {z0 zi mi d1 d2 : Nat} {cI cR cO cB : ClassId} {ret : Option FieldType} {g : Nat → Option Nat} {ad : Nat → Nat} {σ : jk_LS} {tX tB t r rc ro rd ri b LN : Nat} {xs : Nat → Int32} {ws : va_W} {ow : Nat → Nat} {S : jl_S} {K : jl_K} {P : Nat → Prop} {cs c0 : List Nat} {tx : List Int} {x9 q9 c i mn k at9 n cells slots : Nat} {yy xx : Int}
set_option maxHeartbeats 4000000 in
set_option maxRecDepth 1000000 in
theorem b9_pend (C : jk_C p s m args meth cod code "KnotReaderLaw" 14 jk_WA D jk_cl (jl_ty cI cR cO cB) A ret) (hZ : jl_ZK Z sq iad z0 zi mi) (hz : Z A s s.heap) (hD2 : jl_ZD Z d1 d2) (hX6 : tX % 8 = 6) (htB : tB % 8 = 7) (hcl : cells ≤ 45000) (hsl : slots ≤ 700000) (hPx : P x9) {tp v : Nat} (htp : jS_tp S x9 = (tp : Int)) (htp2 : tp < 2) (hv : jw_bits yy 1 7 = (v : Int)) (hv2 : v < 128) (hlen : tx.length ≤ 480) (hB : jw_B cI cR cO cB z0 g ad σ tX tB t r rc ro rd ri ow (jm_lk ws) S K P cs c0 tx) (kk : ∀ (ws : va_W) (ow : Nat → Nat) (cells2 slots2 : Nat), cells2 ≤ cells + 5 → slots2 ≤ slots + 5600 → jw_B cI cR cO cB z0 g ad σ tX tB t r rc ro rd ri ow (jm_lk ws) S K P cs c0 (tx ++ jk_txt 16 ++ [(97 + (tp : Int))] ++ [32] ++ jl_nt v) → jk_J p l ev room_1 s m args below meth cod cells2 slots2 Q D jk_cl A 14 ws [(12, .ref x9), (11, jk_V yy), (10, jk_V ((i : Int))), (9, jk_V ((mn : Int))), (8, .ref c), (7, jk_V ((k : Int))), (6, jk_V ((at9 : Int))), (5, jk_V ((n : Int))), (4, .ref t), (3, jk_V xx), (2, .ref r), (1, .ref ((ad 0))), (0, .ref b)] 167 []) : jk_J p l ev room_1 s m args below meth cod cells slots Q D jk_cl A 14 ws [(12, .ref x9), (11, jk_V yy), (10, jk_V ((i : Int))), (9, jk_V ((mn : Int))), (8, .ref c), (7, jk_V ((k : Int))), (6, jk_V ((at9 : Int))), (5, jk_V ((n : Int))), (4, .ref t), (3, jk_V xx), (2, .ref r), (1, .ref ((ad 0))), (0, .ref b)] 131 [] := by
  refine jk_aload C rd_Lw_law_131 (k := 8) rfl ?_
  refine jk_ldcs C hZ.1 hz rd_Lw_law_133 (k := 16) rfl ?_
  obtain ⟨v0, cap, f0, ml, hsb101, -⟩ := id hB.2.2
  refine jm_callV C hZ.1.1 hz (rfl : jm_lk ws = _) (ct_SB_apS l D cI cR cO cB hZ hB.2.2 (hZ.1.2.1 16 (by decide)) (Nat.le_refl 1) (by rw [show (jk_txt 16).length = 8 from rfl]; omega)) lk_Lw_235 xw_SB_apS sw_SB_apS iw_SB cw_SB_apS na_SB_apS ⟨Nat.le_of_ble_eq_true rfl, Nat.le_of_ble_eq_true rfl⟩ rfl hsb101 rfl rfl (st := []) rfl (Nat.le_of_ble_eq_true rfl) rd_Lw_law_135 ⟨lr_c (by omega), lr_s (by omega)⟩ (fun v w102 hp103 => ?_)
  obtain ⟨rfl, ow101, hS101, hF101⟩ := hp103
  clear hsb101 v0 cap f0 ml
  have hB101 := hB.ap htB hX6 hF101 hS101
  have hln101 : (tx ++ jk_txt 16).length ≤ tx.length + 8 := by rw [List.length_append]; rw [show (jk_txt 16).length = 8 from rfl]; omega
  refine jk_bipush C rd_Lw_law_138 (by decide +kernel) ?_
  refine jk_aload C rd_Lw_law_140 (k := 0) rfl ?_
  have hcd := (hB101.1.1 x9 hPx).1
  refine jm_getN C (rfl : jm_lk w102 = _) in_Cd (ci := 11) rfl 1 (Nat.le_of_ble_eq_true rfl) (jk_nw hZ.1 hz lk_Lw_77) hcd.1 rfl rd_Lw_law_142 ?_
  rw [htp]
  refine jk_iadd C rd_Lw_law_145 ?_
  refine jm_i2c C ⟨by omega, by omega⟩ rd_Lw_law_146 ?_
  obtain ⟨v0, cap, f0, ml, hsb104, -⟩ := id hB101.2.2
  refine jm_callV C hZ.1.1 hz (rfl : jm_lk w102 = _) (ct_SB_apC l D cI cR cO cB hZ hB101.2.2 (x := (97 + (tp : Int))) ⟨by omega, by omega⟩ (Nat.le_refl 1) (by omega)) lk_Lw_241 xw_SB_apC sw_SB_apC iw_SB cw_SB_apC na_SB_apC ⟨Nat.le_of_ble_eq_true rfl, Nat.le_of_ble_eq_true rfl⟩ rfl hsb104 rfl rfl (st := []) rfl (Nat.le_of_ble_eq_true rfl) rd_Lw_law_147 ⟨lr_c (by omega), lr_s (by omega)⟩ (fun v w105 hp106 => ?_)
  obtain ⟨rfl, ow104, hS104, hF104⟩ := hp106
  clear hsb104 v0 cap f0 ml
  have hB104 := hB101.ap htB hX6 hF104 hS104
  have hln104 : (tx ++ jk_txt 16 ++ [(97 + (tp : Int))]).length ≤ tx.length + 9 := by rw [List.length_append]; rw [List.length_singleton]; omega
  refine jk_bipush C rd_Lw_law_150 (by decide +kernel) ?_
  obtain ⟨v0, cap, f0, ml, hsb107, -⟩ := id hB104.2.2
  refine jm_callV C hZ.1.1 hz (rfl : jm_lk w105 = _) (ct_SB_apC l D cI cR cO cB hZ hB104.2.2 (x := 32) ⟨by omega, by omega⟩ (Nat.le_refl 1) (by omega)) lk_Lw_241 xw_SB_apC sw_SB_apC iw_SB cw_SB_apC na_SB_apC ⟨Nat.le_of_ble_eq_true rfl, Nat.le_of_ble_eq_true rfl⟩ rfl hsb107 rfl rfl (st := []) rfl (Nat.le_of_ble_eq_true rfl) rd_Lw_law_152 ⟨lr_c (by omega), lr_s (by omega)⟩ (fun v w108 hp109 => ?_)
  obtain ⟨rfl, ow107, hS107, hF107⟩ := hp109
  clear hsb107 v0 cap f0 ml
  have hB107 := hB104.ap htB hX6 hF107 hS107
  have hln107 : (tx ++ jk_txt 16 ++ [(97 + (tp : Int))] ++ [32]).length ≤ tx.length + 10 := by rw [List.length_append]; rw [List.length_singleton]; omega
  refine jk_iload C rd_Lw_law_155 (k := 1) rfl ?_
  refine jk_iconst C rd_Lw_law_157 ?_
  refine jk_bipush C rd_Lw_law_158 (by decide +kernel) ?_
  refine jm_callS C hZ.1.1 hz (rfl : jm_lk w108 = _) (ct_Lw_bits l D cI cR cO cB hZ (M := jm_lk w108) (x := yy) (f := 1) (k := 7)) lk_Lw_156 xw_Lw_bits iw_Lw cw_Lw_bits na_Lw_bits ⟨Nat.le_of_ble_eq_true rfl, Nat.le_of_ble_eq_true rfl⟩ rfl (st := [.ref t]) rfl (Nat.le_of_ble_eq_true rfl) rd_Lw_law_160 ⟨lr_c (by omega), lr_s (by omega)⟩ (fun v w111 hp112 => ?_)
  obtain ⟨rfl, hb110⟩ := hp112
  rw [hv]
  have hnt113 := jl_nt_le3 v
  obtain ⟨v0, cap, f0, ml, hsb114, -⟩ := id hB107.2.2
  refine jm_callV C hZ.1.1 hz hb110 (ct_SB_apI l D cI cR cO cB hZ hD2 hB107.2.2 (n := v) (by omega) (Nat.le_refl 1) (by omega)) lk_Lw_244 xw_SB_apI sw_SB_apI iw_SB cw_SB_apI na_SB_apI ⟨Nat.le_of_ble_eq_true rfl, Nat.le_of_ble_eq_true rfl⟩ rfl hsb114 rfl rfl (st := []) rfl (Nat.le_of_ble_eq_true rfl) rd_Lw_law_163 ⟨lr_c (by omega), lr_s (by omega)⟩ (fun v w115 hp116 => ?_)
  obtain ⟨rfl, ow114, hS114, hF114⟩ := hp116
  clear hsb114 v0 cap f0 ml
  have hB114 := hB107.ap htB hX6 hF114 hS114
  have hln114 : (tx ++ jk_txt 16 ++ [(97 + (tp : Int))] ++ [32] ++ jl_nt v).length ≤ tx.length + 13 := by rw [List.length_append]; omega
  refine jk_pop C rd_Lw_law_166 rfl ?_
  exact kk _ _ _ _ (by omega) (by omega) hB114
end P9
