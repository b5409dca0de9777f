/-! the law: its acts, one after another -/
def jO_cons (Inv : jk_LS → jl_S → jl_K → (Nat → Prop) → List Nat → Prop) : Prop := ∀ (σ : jk_LS) (S : jl_S) (K : jl_K) (P : Nat → Prop) (cs : List Nat), Inv σ S K P cs → ∃ q, fn_KR_isConsistent (σ.S 11) (σ.S 12) (σ.T 3) (σ.T 4) (σ.T 5) (σ.T 6) (σ.T 7) (σ.S 14) (σ.S 15) (σ.T 9) (σ.T 10) (σ.T 11) (σ.T 12) (σ.T 13) = some q ∧ q.1 = 1
theorem lr_c {a : Nat} (h : a ≤ 450000) : a ≤ room_1.cells := Nat.le_trans h (Nat.le_of_ble_eq_true rfl)
theorem lr_s {a : Nat} (h : a ≤ 4500000) : a ≤ room_1.slots := Nat.le_trans h (Nat.le_of_ble_eq_true rfl)
section LAW1
variable {p : Program} {l : Launch} {ev : Env} {s : State} {m : MethodId} {args : Array Value} {below : List Frame} {meth : Method} {cod : Code} {Q : State → Prop} {D : va_G} {A : Nat → Prop} {Z : (Nat → Prop) → State → Heap → Prop} {sq iad : Nat → Nat} {z0 zi mi : Nat} {cI cR cO cB : ClassId} {ret : Option FieldType} {g : Nat → Option Nat} {ad : Nat → Nat} {tX r rc ro rd ri b LN : Nat} {xs : Nat → Int32} {Inv : jk_LS → jl_S → jl_K → (Nat → Prop) → List Nat → Prop}
set_option maxHeartbeats 4000000 in
set_option maxRecDepth 1000000 in
theorem law_main (C : jk_C p s m args meth cod code "KnotReaderLaw" 14 jk_WA D jk_cl (jl_ty cI cR cO cB) A ret) (hZ : jl_ZK Z sq iad z0 zi mi) (hz : Z A s s.heap) (hl : l.stackTraces = false) (hXs : ∀ (A : Nat → Prop) (U : State) (H : Heap), Z A U H → va_T .int b LN (fun j => .int (xs j)) A U H) (hLN : LN < 100000) (hg : ∀ j, j < 8 → g j = some (ad (48 + 11 * j))) (hX6 : tX % 8 = 6) (hO : jO Inv) (hCo : jO_cons Inv) : ∀ (n k : Nat) (ws : va_W) (cells slots : Nat) (σ : jk_LS) (S : jl_S) (K : jl_K) (P : Nat → Prop) (cs : List Nat) (ow : Nat → Nat), k + n = 28 → Inv σ S K P cs → jl_Al cI cO z0 ow (jm_lk ws) S K P r rc ro rd ri cs (jl_lo (jK_all S K 0 cs)) (jl_ld iad (jK_all S K 0 cs)) (jl_li iad (jK_all S K 0 cs)) → jm_X ow (jm_lk ws) tX (WX cI cR g ad σ) → cells + 9500 * n ≤ 400000 → slots + 80000 * n ≤ 4000000 → (∀ (ws2 : va_W) (lvx : List (Nat × Value)) (c2 s2 : Nat), c2 ≤ cells + 9500 * n → s2 ≤ slots + 80000 * n → jk_J p l ev room_1 s m args below meth cod c2 s2 Q D jk_cl A 14 ws2 lvx 483 [jk_V 1]) → jk_J p l ev room_1 s m args below meth cod cells slots Q D jk_cl A 14 ws [(7, jk_V ((k : Int))), (2, .ref r), (1, .ref ((ad 0))), (0, .ref b)] 439 [] := by
  intro n
  induction n with
  | zero =>
    intro k ws cells slots σ S K P cs ow hk hI hA hX hc hs hend
    refine jk_iload C rd_Lw_law_439 (k := 0) rfl ?_
    refine jk_bipush C rd_Lw_law_441 (by decide +kernel) ?_
    obtain rfl : k = 28 := by omega
    refine jr_icmp_ge C rd_Lw_law_443 (tgt := 479) rfl ⟨by omega, by omega⟩ ⟨by omega, by omega⟩ (fun _ => ?_) (fun hc => absurd hc (by omega))
    refine jk_aload_n C rd_Lw_law_479 (k := 2) rfl ?_
    obtain ⟨q, hf, hq1⟩ := hCo σ S K P cs hI
    obtain ⟨fs0, hkr, -⟩ := hX.kr
    refine jm_callV C hZ.1.1 hz (rfl : jm_lk ws = _) (cm_KR_isConsistent l D hZ.1 cI cR cO cB hX q hf) lk_Lw_272 ki_KR_isConsistent ks_KR_isConsistent iw_KR kc_KR_isConsistent na_KR_isConsistent ⟨Nat.le_of_ble_eq_true rfl, Nat.le_of_ble_eq_true rfl⟩ rfl hkr rfl rfl (st := []) rfl (Nat.le_of_ble_eq_true rfl) rd_Lw_law_480 ⟨lr_c (by omega), lr_s (by omega)⟩ (fun v w101 hp102 => ?_)
    obtain ⟨rfl, -, -⟩ := hp102
    rw [hq1]
    exact hend _ _ _ _ (by omega) (by omega)
  | succ n ih =>
    intro k ws cells slots σ S K P cs ow hk hI hA hX hc hs hend
    refine jk_iload C rd_Lw_law_439 (k := 0) rfl ?_
    refine jk_bipush C rd_Lw_law_441 (by decide +kernel) ?_
    refine jr_icmp_ge C rd_Lw_law_443 (tgt := 479) rfl ⟨by omega, by omega⟩ ⟨by omega, by omega⟩ (fun hc => absurd hc (by omega)) (fun _ => ?_)
    refine jk_aload_n C rd_Lw_law_446 (k := 2) rfl ?_
    refine jk_aload_n C rd_Lw_law_447 (k := 1) rfl ?_
    refine jk_aload_n C rd_Lw_law_448 (k := 3) rfl ?_
    refine jk_bipush C rd_Lw_law_449 (by decide +kernel) ?_
    refine jk_iload C rd_Lw_law_451 (k := 0) rfl ?_
    refine jk_iadd C rd_Lw_law_453 ?_
    rw [show (13 : Int) + (k : Int) = ((13 + k : Nat) : Int) by omega]
    refine jm_callS C hZ.1.1 hz (rfl : jm_lk ws = _) (ct_Lw_cell l D cI cR cO cB hZ (M := jm_lk ws) (k := 13 + k) hXs hLN (by omega)) lk_Lw_222 xw_Lw_cell iw_Lw cw_Lw_cell na_Lw_cell ⟨Nat.le_of_ble_eq_true rfl, Nat.le_of_ble_eq_true rfl⟩ rfl (st := [.ref r, .ref ((ad 0))]) rfl (Nat.le_of_ble_eq_true rfl) rd_Lw_law_454 ⟨lr_c (by omega), lr_s (by omega)⟩ (fun v w101 hp102 => ?_)
    obtain ⟨rfl, hce⟩ := hp102
    refine jm_callS C hZ.1.1 hz hce (ct_Lw_event l D cI cR cO cB hZ hl hO hg hA hX hX6 hI) lk_Lw_268 xw_Lw_event iw_Lw cw_Lw_event na_Lw_event ⟨Nat.le_of_ble_eq_true rfl, Nat.le_of_ble_eq_true rfl⟩ rfl (st := []) rfl (Nat.le_of_ble_eq_true rfl) rd_Lw_law_457 ⟨lr_c (by omega), lr_s (by omega)⟩ (fun v w103 hp104 => ?_)
    obtain ⟨rfl, σ2, S2, K2, P2, cs2, ow2, os2, ds2, is2, hI2, hA2, hX2⟩ := hp104
    refine jr_if_eq C rd_Lw_law_460 (tgt := 471) rfl ⟨by omega, by omega⟩ (fun hd => absurd hd (by omega)) (fun _ => ?_)
    refine jk_aload_n C rd_Lw_law_463 (k := 2) rfl ?_
    refine jk_aload_n C rd_Lw_law_464 (k := 1) rfl ?_
    obtain ⟨hN, hcs, hKP, hVd, hVk, hVc, hQ1, hQ2, hQ3, hQ4⟩ := hO.1 _ _ _ _ _ hI2
    refine jm_callS C hZ.1.1 hz (rfl : jm_lk w103 = _) (ct_Lw_isWhole l D cI cR cO cB hZ hl hX2 hX6 hA2.1 hA2.2.2 (fun c hc => ⟨hA2.2.1 c hc, hKP c hc⟩) hN (by omega) hVd hVk hVc hQ1 hQ2 hQ3 hQ4) lk_Lw_264 xw_Lw_isWhole iw_Lw cw_Lw_isWhole na_Lw_isWhole ⟨Nat.le_of_ble_eq_true rfl, Nat.le_of_ble_eq_true rfl⟩ rfl (st := []) rfl (Nat.le_of_ble_eq_true rfl) rd_Lw_law_465 ⟨lr_c (by omega), lr_s (by omega)⟩ (fun v w105 hp106 => ?_)
    obtain ⟨rfl, ow3, hR3, hF3⟩ := hp106
    have hX3 := hX2.fr hF3 (by rintro (h | h | h) <;> omega)
    have hA3 : jl_Al cI cO z0 _ _ S2 K2 P2 r rc ro rd ri cs2 _ _ _ := ⟨hA2.1.fr hF3 (fun _ => jl_T3m), fun c hc => (hA2.2.1 c hc).fr hF3 (fun z => by have := jl_T3m z; omega) (fun z => by have := jl_T3m z; omega), hR3⟩
    refine jr_if_ne C rd_Lw_law_468 (tgt := 473) rfl ⟨by omega, by omega⟩ (fun _ => ?_) (fun hd => absurd hd (by omega))
    refine jk_iinc C rd_Lw_law_473 (k := 0) rfl (Nat.le_of_ble_eq_true rfl) rfl ?_
    refine jk_goto C rd_Lw_law_476 (tgt := 439) rfl ?_
    refine jk_lv [0, 1, 2, 3] rfl ?_
    rw [show (k : Int) + 1 = ((k + 1 : Nat) : Int) by omega]
    exact ih (k + 1) _ _ _ σ2 S2 K2 P2 cs2 ow3 (by omega) hI2 hA3 hX3 (by omega) (by omega) (fun ws2 lvx c2 s2 h1 h2 => hend ws2 lvx c2 s2 (by omega) (by omega))
end LAW1
