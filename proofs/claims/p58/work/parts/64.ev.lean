/-! one act of the law, arm by arm; what the component does is given -/
def jB (σ : jk_LS) (S : jl_S) (K : jl_K) (P : Nat → Prop) (cs : List Nat) : Prop := (jK_all S K 0 cs).length ≤ 40 ∧ (0 < cs.length ∧ cs.length ≤ 6) ∧ (∀ c ∈ cs, jl_KP S K P c) ∧ jV_d S P ∧ (∀ (k x d c : Nat), (jK_all S K 0 cs)[k]? = some (x, d, c) → jV_k S P x) ∧ (∀ (j cu : Nat), cs[j]? = some cu → jV_c S K P (jK_all S K 0 cs) j cu) ∧ fn_KR_clusterCount (σ.S 11) = some (cs.length : Int) ∧ fn_KR_cordCount (σ.S 12) = some ((jK_all S K 0 cs).length : Int) ∧ (∀ (k x d c : Nat), (jK_all S K 0 cs)[k]? = some (x, d, c) → jQ_k σ S k x d c) ∧ ∀ (j cu : Nat), cs[j]? = some cu → jQ_c σ S K (jK_all S K 0 cs) j cu
def jw_EP (Inv : jk_LS → jl_S → jl_K → (Nat → Prop) → List Nat → Prop) (cI cR cO : ClassId) (z0 : Nat) (g : Nat → Option Nat) (ad : Nat → Nat) (tX r rc ro rd ri : Nat) (v : Option Value) (M' : jm_M) : Prop := v = some (jk_V 1) ∧ ∃ (σ' : jk_LS) (S' : jl_S) (K' : jl_K) (P' : Nat → Prop) (cs' : List Nat) (ow' : Nat → Nat) (os ds is : List Nat), Inv σ' S' K' P' cs' ∧ jl_Al cI cO z0 ow' M' S' K' P' r rc ro rd ri cs' os ds is ∧ jm_X ow' M' tX (WX cI cR g ad σ')
def jw_lose (f : Int → Int) (a b : Nat) : Int → Int := fun i => if (a : Int) ≤ i ∧ i < (b : Int) then 0 else f i
def jw_lost (f : Int → Int) (a b : Nat) : Int := ((List.range (b - a)).map (fun i => f ((a + i : Nat) : Int))).sum
theorem jw_lose_0 {f : Int → Int} {a : Nat} : jw_lose f a a = f := by
  funext i
  unfold jw_lose
  rw [if_neg (by omega)]
theorem jw_lose_at {f : Int → Int} {a i : Nat} (_h : a ≤ i) : jw_lose f a i (i : Int) = f (i : Int) := by
  unfold jw_lose
  rw [if_neg (by omega)]
theorem jw_lose_s {f : Int → Int} {a i : Nat} (h : a ≤ i) : jk_up (jw_lose f a i) (i : Int) 0 = jw_lose f a (i + 1) := by
  funext j
  unfold jk_up jw_lose
  by_cases e : j = (i : Int)
  · rw [if_pos e, if_pos (by omega)]
  · rw [if_neg e]
    by_cases e2 : (a : Int) ≤ j ∧ j < (i : Int)
    · rw [if_pos e2, if_pos (by omega)]
    · rw [if_neg e2, if_neg (by omega)]
theorem jw_lost_s {f : Int → Int} {a i : Nat} (h : a ≤ i) : jw_lost f a (i + 1) = jw_lost f a i + f (i : Int) := by
  unfold jw_lost
  rw [show i + 1 - a = (i - a) + 1 by omega, List.range_succ, List.map_append, List.sum_append, List.map_singleton, List.sum_singleton, show a + (i - a) = i by omega]
theorem jw_lost_r {f : Int → Int} (hf : ∀ i : Int, 0 ≤ i → i < 4 → 0 ≤ f i ∧ f i ≤ 9) (a : Nat) {i : Nat} (hi : i ≤ 4) : 0 ≤ jw_lost f a i ∧ jw_lost f a i ≤ 36 := by
  have key : ∀ n : Nat, a + n ≤ 4 → 0 ≤ jw_lost f a (a + n) ∧ jw_lost f a (a + n) ≤ 9 * n := by
    intro n
    induction n with
    | zero =>
      intro _
      unfold jw_lost
      rw [Nat.add_zero, Nat.sub_self]
      exact ⟨Int.le_refl 0, Int.le_refl 0⟩
    | succ n ih =>
      intro h
      have h1 := ih (by omega)
      have h2 := hf ((a + n : Nat) : Int) (by omega) (by omega)
      rw [show a + (n + 1) = (a + n) + 1 by omega, jw_lost_s (by omega)]
      omega
  rcases Nat.lt_or_ge i a with h | h
  · unfold jw_lost
    rw [show i - a = 0 by omega]
    exact ⟨Int.le_refl 0, (by decide : (0 : Int) ≤ 36)⟩
  · have := key (i - a) (by omega)
    rw [show a + (i - a) = i by omega] at this
    omega
theorem jw_lost_0 {f : Int → Int} {a : Nat} : jw_lost f a a = 0 := by
  unfold jw_lost
  rw [Nat.sub_self]
  rfl
theorem jw_bits_lt2 {y : Int} {k : Nat} (hk : k ≤ 10) : 0 ≤ jk_and y (jk_shl 1 (k : Int) - 1) ∧ jk_and y (jk_shl 1 (k : Int) - 1) < 2 ^ k := by
  have h : jk_shl 1 (k : Int) - 1 = ((2 ^ k - 1 : Nat) : Int) := by
    have key : ∀ k : Fin 11, jk_shl 1 ((k : Nat) : Int) - 1 = ((2 ^ (k : Nat) - 1 : Nat) : Int) := by decide +kernel
    exact key ⟨k, by omega⟩
  rw [h]
  unfold jk_and
  generalize hy : jk_I y = y
  have key : ∀ k : Fin 11, (jk_I ((2 ^ (k : Nat) - 1 : Nat) : Int)).toBitVec.toNat = 2 ^ (k : Nat) - 1 := by decide +kernel
  have hb := key ⟨k, by omega⟩
  have h1 : (y &&& jk_I ((2 ^ k - 1 : Nat) : Int)).toBitVec.toNat = y.toBitVec.toNat % 2 ^ k := by
    rw [Int32.toBitVec_and, BitVec.toNat_and]
    show y.toBitVec.toNat &&& (jk_I ((2 ^ k - 1 : Nat) : Int)).toBitVec.toNat = _
    rw [show (jk_I ((2 ^ k - 1 : Nat) : Int)).toBitVec.toNat = 2 ^ k - 1 from hb]
    exact Nat.and_two_pow_sub_one_eq_mod _ _
  have h2 : y.toBitVec.toNat % 2 ^ k < 2 ^ k := Nat.mod_lt _ (Nat.two_pow_pos k)
  have h3 : 2 ^ k ≤ 2 ^ 10 := Nat.pow_le_pow_right (by decide) hk
  have h4 : (y &&& jk_I ((2 ^ k - 1 : Nat) : Int)).toInt = ((y.toBitVec.toNat % 2 ^ k : Nat) : Int) := by
    show (y &&& jk_I ((2 ^ k - 1 : Nat) : Int)).toBitVec.toInt = _
    rw [BitVec.toInt_eq_toNat_of_lt (by rw [h1]; omega), h1]
  rw [h4]
  exact ⟨Int.natCast_nonneg _, by exact_mod_cast h2⟩
theorem jw_bits_n (x f : Int) {k : Nat} (hk : k ≤ 10) : ∃ n : Nat, jw_bits x f (k : Int) = (n : Int) ∧ n < 2 ^ k := by
  unfold jw_bits
  have h2 := @jw_bits_lt2 (jw_ushr x f) k hk
  obtain ⟨n, hn⟩ := Int.eq_ofNat_of_zero_le h2.1
  exact ⟨n, hn, by rw [hn] at h2; exact_mod_cast h2.2⟩
def jO_dye (Inv : jk_LS → jl_S → jl_K → (Nat → Prop) → List Nat → Prop) : Prop := ∀ (σ : jk_LS) (S : jl_S) (K : jl_K) (P : Nat → Prop) (cs : List Nat), Inv σ S K P cs → ∀ (k x d c : Nat), (jK_all S K 0 cs)[k]? = some (x, d, c) → ∀ t : Nat, t < 2 → ∃ z, jf_dye σ (k : Int) (t : Int) = some (.inr z) ∧ z.1 = jS_tp S x ∧ Inv (js_dye σ z) (jS_w S x (jS_dg S x) (t : Int) (jS_nb S x)) K P cs
def jO_setKnots (Inv : jk_LS → jl_S → jl_K → (Nat → Prop) → List Nat → Prop) : Prop := ∀ (σ : jk_LS) (S : jl_S) (K : jl_K) (P : Nat → Prop) (cs : List Nat), Inv σ S K P cs → ∀ (k x d c : Nat), (jK_all S K 0 cs)[k]? = some (x, d, c) → ∀ pl kn : Nat, pl < 4 → kn < 10 → ¬ (pl : Int) < jS_nb S x → ∃ z, jf_setKnots σ (k : Int) (pl : Int) (kn : Int) = some (.inr z) ∧ z.1 = jS_dg S x (pl : Int) ∧ Inv (js_setKnots σ z) (jS_w S x (jk_up (jS_dg S x) (pl : Int) (kn : Int)) (jS_tp S x) (jS_nb S x)) K P cs
def jO_nibble (Inv : jk_LS → jl_S → jl_K → (Nat → Prop) → List Nat → Prop) : Prop := ∀ (σ : jk_LS) (S : jl_S) (K : jl_K) (P : Nat → Prop) (cs : List Nat), Inv σ S K P cs → ∀ (k x d c : Nat), (jK_all S K 0 cs)[k]? = some (x, d, c) → ∀ pl : Nat, 1 ≤ pl → pl ≤ 4 → ¬ (pl : Int) < jS_nb S x → ∃ z, jf_nibble σ (k : Int) (pl : Int) = some (.inr z) ∧ z.1 = jw_lost (jS_dg S x) (jS_nb S x).toNat pl ∧ Inv (js_nibble σ z) (jS_w S x (jw_lose (jS_dg S x) (jS_nb S x).toNat pl) (jS_tp S x) (pl : Int)) K P cs
section EV1
variable {p : Program} {l : Launch} {ev : Env} {s : State} {m : MethodId} {args : Array Value} {below : List Frame} {meth : Method} {cod : Code} {D : va_G} {Z : (Nat → Prop) → State → Heap → Prop} {sq iad : Nat → Nat} {z0 zi mi : Nat} {cI cR cO cB : ClassId} {w ws : va_W} {g : Nat → Option Nat} {ad : Nat → Nat} {σ : jk_LS} {ow : Nat → Nat} {M : jm_M} {S : jl_S} {K : jl_K} {P : Nat → Prop} {r rc ro rd ri tX x k j cu d c tp va : Nat} {cs : List Nat} {wh xx : Int} {cells slots : Nat} {Inv : jk_LS → jl_S → jl_K → (Nat → Prop) → List Nat → Prop}
set_option maxHeartbeats 2000000 in
set_option maxRecDepth 20000 in
theorem ev_dye (C : jk_C p s m args meth cod mb_Lw_event mn_Lw_event.cls 13 jk_WA D jk_cl (jl_ty cI cR cO cB) (va_A w s.heap.size) (some .boolean)) (hZ : jl_ZK Z sq iad z0 zi mi) (hz : Z (va_A w s.heap.size) s s.heap) (hl : l.stackTraces = false) (hg : ∀ j, j < 8 → g j = some (ad (48 + 11 * j))) (hws : jm_lk ws = M) (hA : jl_Al cI cO z0 ow M S K P r rc ro rd ri cs (jl_lo (jK_all S K 0 cs)) (jl_ld iad (jK_all S K 0 cs)) (jl_li iad (jK_all S K 0 cs))) (hX : jm_X ow M tX (WX cI cR g ad σ)) (hX6 : tX % 8 = 6) (hI : Inv σ S K P cs) (hB : jB σ S K P cs) (hcl : cells ≤ 200) (hsl : slots ≤ 3000) (hO : jO_dye Inv) (hk : (jK_all S K 0 cs)[k]? = some (x, d, c)) (htp : tp < 2) (hva : va < 10000) : jk_J p l ev (jk_rx 22 1200 14000 700) s m args below meth cod cells slots (MQ below (jm_Post D jk_cl (jl_ty cI cR cO cB) (va_A w s.heap.size) (jw_EP Inv cI cR cO z0 g ad tX r rc ro rd ri)) args s 1200 14000 (va_A w s.heap.size)) D jk_cl (va_A w s.heap.size) 13 ws [(9, .ref x), (8, jk_V ((k : Int))), (7, jk_V wh), (6, .ref cu), (5, jk_V ((j : Int))), (4, jk_V ((tp : Int))), (3, jk_V ((va : Int))), (2, jk_V xx), (1, .ref r), (0, .ref ((ad 0)))] 752 [] := by
  obtain ⟨hN, hcs, hKP, hVd, hVk, hVc, hQ1, hQ2, hQ3, hQ4⟩ := id hB
  obtain ⟨fs0, hkr, hkro⟩ := hX.kr
  obtain ⟨hPx, hht, hsz, hjtp, hjkv, hjtt, hjnn, hjch⟩ := hVk k x d c hk
  obtain ⟨hcd, hnb, hch⟩ := hA.1 x hPx
  obtain ⟨y1, y2, y3, y4, y5, y6, y7, y8, y9⟩ := hQ3 k x d c hk
  have hkl : k < (jK_all S K 0 cs).length := (List.getElem?_eq_some_iff.mp hk).1
  obtain ⟨zz, hf, hz1, hI2⟩ := hO σ S K P cs hI k x d c hk tp htp
  refine jk_aload C rd_Lw_event_752 (k := 0) rfl ?_
  refine jm_getN C hws in_Cd (ci := 11) rfl 1 (Nat.le_of_ble_eq_true rfl) (jk_nw hZ.1 hz lk_Lw_77) hcd.1 rfl rd_Lw_event_754 ?_
  refine jk_istore C rd_Lw_event_757 (Nat.le_of_ble_eq_true rfl) rfl ?_
  refine jk_aload C rd_Lw_event_759 (k := 1) rfl ?_
  refine jk_iload C rd_Lw_event_761 (k := 6) rfl ?_
  refine jm_putN C hws in_Cd (ty0 := tf_Cd) ty_Cd nm_Cd (ci := 11) rfl 1 (Nat.le_of_ble_eq_true rfl) (jk_nw hZ.1 hz lk_Lw_77) rfl rfl rfl hcd.1 (Nat.le_of_ble_eq_true rfl) rd_Lw_event_763 (fun w1 hw1 => ?_)
  obtain ⟨M2, hM2⟩ : ∃ Mx : jm_M, Mx = jm_up M x (.inr (11, [.ref ((jS_kn S x)), jk_V ((tp : Int)), jk_V ((jS_nb S x)), .ref ((jS_bl S x))])) := ⟨_, rfl⟩
  replace hw1 : jm_lk w1 = M2 := by rw [hM2]; exact hw1
  have hc2_x := jm_this hM2
  refine jk_aload_n C rd_Lw_event_766 (k := 10) rfl ?_
  refine jk_iload C rd_Lw_event_767 (k := 2) rfl ?_
  refine jk_iload C rd_Lw_event_769 (k := 6) rfl ?_
  have hFp := jl_Fr.put hM2 hcd.2.1
  have hX1 := hX.fr hFp (by omega)
  have hkn := jm_keep hM2 hcd.2.2.1 (jm_nek hcd.2.2.1 hcd.1 rfl)
  have hA1 := hA.cord hPx (hFp.wide (fun _ h => Or.inl h)) hc2_x hkn hnb
  obtain ⟨fs1, hkr1, -⟩ := hX1.kr
  refine jm_callV C hZ.1.1 hz hw1 (cn_KR_dye l D hZ.1 hl cI cR cO cB hX1 hg (k : Int) (tp : Int) hf) lk_Lw_202 ki_KR_dye ks_KR_dye iw_KR kc_KR_dye na_KR_dye ⟨by dsimp only [jk_rx]; omega, by dsimp only [jk_rx]; omega⟩ rfl hkr1 rfl rfl (st := []) rfl (Nat.le_of_ble_eq_true rfl) rd_Lw_event_771 ⟨by dsimp only [jk_rx]; omega, by dsimp only [jk_rx]; omega⟩ (fun v w4 hp5 => ?_)
  obtain ⟨rfl, hX3, hF3⟩ := hp5
  rw [hz1]
  refine jk_iload C rd_Lw_event_774 (k := 0) rfl ?_
  refine jr_icmp_ne C rd_Lw_event_776 (tgt := 783) rfl hjtp hjtp (fun hc => absurd rfl hc) (fun _ => ?_)
  have hA2 := hA1.fr hF3 (fun y hy => by omega) (fun y hy => by omega) (fun y hy => by omega)
  refine jk_iconst C rd_Lw_event_779 ?_
  refine jk_goto C rd_Lw_event_780 (tgt := 784) rfl ?_
  exact jm_ret_z C (Or.inr rfl) (rfl : jm_lk w4 = _) ⟨rfl, _, _, _, _, _, _, _, _, _, hI2, hA2, hX3⟩ (by omega) (by omega) rd_Lw_event_784
set_option maxHeartbeats 2000000 in
set_option maxRecDepth 20000 in
theorem ev_setKnots (C : jk_C p s m args meth cod mb_Lw_event mn_Lw_event.cls 13 jk_WA D jk_cl (jl_ty cI cR cO cB) (va_A w s.heap.size) (some .boolean)) (hZ : jl_ZK Z sq iad z0 zi mi) (hz : Z (va_A w s.heap.size) s s.heap) (hl : l.stackTraces = false) (hg : ∀ j, j < 8 → g j = some (ad (48 + 11 * j))) (hws : jm_lk ws = M) (hA : jl_Al cI cO z0 ow M S K P r rc ro rd ri cs (jl_lo (jK_all S K 0 cs)) (jl_ld iad (jK_all S K 0 cs)) (jl_li iad (jK_all S K 0 cs))) (hX : jm_X ow M tX (WX cI cR g ad σ)) (hX6 : tX % 8 = 6) (hI : Inv σ S K P cs) (hB : jB σ S K P cs) (hcl : cells ≤ 200) (hsl : slots ≤ 3000) (hO : jO_setKnots Inv) (hk : (jK_all S K 0 cs)[k]? = some (x, d, c)) (htp : tp < 2) (hva : va < 10000) : jk_J p l ev (jk_rx 22 1200 14000 700) s m args below meth cod cells slots (MQ below (jm_Post D jk_cl (jl_ty cI cR cO cB) (va_A w s.heap.size) (jw_EP Inv cI cR cO z0 g ad tX r rc ro rd ri)) args s 1200 14000 (va_A w s.heap.size)) D jk_cl (va_A w s.heap.size) 13 ws [(9, .ref x), (8, jk_V ((k : Int))), (7, jk_V wh), (6, .ref cu), (5, jk_V ((j : Int))), (4, jk_V ((tp : Int))), (3, jk_V ((va : Int))), (2, jk_V xx), (1, .ref r), (0, .ref ((ad 0)))] 550 [] := by
  obtain ⟨hN, hcs, hKP, hVd, hVk, hVc, hQ1, hQ2, hQ3, hQ4⟩ := id hB
  obtain ⟨fs0, hkr, hkro⟩ := hX.kr
  obtain ⟨hPx, hht, hsz, hjtp, hjkv, hjtt, hjnn, hjch⟩ := hVk k x d c hk
  obtain ⟨hcd, hnb, hch⟩ := hA.1 x hPx
  obtain ⟨y1, y2, y3, y4, y5, y6, y7, y8, y9⟩ := hQ3 k x d c hk
  have hkl : k < (jK_all S K 0 cs).length := (List.getElem?_eq_some_iff.mp hk).1
  refine jk_iload_n C rd_Lw_event_550 (k := 7) rfl ?_
  refine jk_bipush C rd_Lw_event_551 (by decide +kernel) ?_
  refine jk_iconst C rd_Lw_event_553 ?_
  refine jm_callS C hZ.1.1 hz hws (ct_Lw_bits l D cI cR cO cB hZ (M := M) (x := xx) (f := 14) (k := 2)) lk_Lw_156 xw_Lw_bits iw_Lw cw_Lw_bits na_Lw_bits ⟨by dsimp only [jk_rx]; omega, by dsimp only [jk_rx]; omega⟩ rfl (st := []) rfl (Nat.le_of_ble_eq_true rfl) rd_Lw_event_554 ⟨by dsimp only [jk_rx]; omega, by dsimp only [jk_rx]; omega⟩ (fun v w1 hp2 => ?_)
  obtain ⟨rfl, hs_pl⟩ := hp2
  obtain ⟨pl, hb_pl, hl_pl⟩ := jw_bits_n xx 14 (k := 2) (by omega)
  rw [show jw_bits xx 14 2 = (pl : Int) from hb_pl]
  replace hl_pl : pl < 4 := hl_pl
  refine jk_istore C rd_Lw_event_557 (Nat.le_of_ble_eq_true rfl) rfl ?_
  refine jk_iload_n C rd_Lw_event_559 (k := 8) rfl ?_
  refine jk_bipush C rd_Lw_event_560 (by decide +kernel) ?_
  refine jk_iconst C rd_Lw_event_562 ?_
  refine jm_callS C hZ.1.1 hz hs_pl (ct_Lw_bits l D cI cR cO cB hZ (M := M) (x := xx) (f := 16) (k := 4)) lk_Lw_156 xw_Lw_bits iw_Lw cw_Lw_bits na_Lw_bits ⟨by dsimp only [jk_rx]; omega, by dsimp only [jk_rx]; omega⟩ rfl (st := []) rfl (Nat.le_of_ble_eq_true rfl) rd_Lw_event_563 ⟨by dsimp only [jk_rx]; omega, by dsimp only [jk_rx]; omega⟩ (fun v w3 hp4 => ?_)
  obtain ⟨rfl, hs_kb⟩ := hp4
  obtain ⟨kb, hb_kb, hl_kb⟩ := jw_bits_n xx 16 (k := 4) (by omega)
  rw [show jw_bits xx 16 4 = (kb : Int) from hb_kb]
  replace hl_kb : kb < 16 := hl_kb
  refine jk_bipush C rd_Lw_event_566 (by decide +kernel) ?_
  refine jr_irem C ⟨by omega, by omega⟩ ⟨by omega, by omega⟩ rd_Lw_event_568 ?_
  rw [show (kb : Int) % 10 = ((kb % 10 : Nat) : Int) by omega]
  refine jk_istore C rd_Lw_event_569 (Nat.le_of_ble_eq_true rfl) rfl ?_
  refine jk_iload C rd_Lw_event_571 (k := 1) rfl ?_
  refine jk_aload C rd_Lw_event_573 (k := 2) rfl ?_
  refine jm_getN C hs_kb in_Cd (ci := 11) rfl 2 (Nat.le_of_ble_eq_true rfl) (jk_nw hZ.1 hz lk_Lw_90) hcd.1 rfl rd_Lw_event_575 ?_
  refine jr_icmp_ge C rd_Lw_event_578 (tgt := 599) rfl ⟨by omega, by omega⟩ ⟨by omega, by omega⟩ (fun hc => ?_) (fun hc => ?_)
  · obtain ⟨zz, hf, hz1, hI2⟩ := hO σ S K P cs hI k x d c hk pl (kb % 10) hl_pl (by omega) hc
    have hdp := hVd x hPx (pl : Int) (by omega) (by omega)
    refine jk_aload C rd_Lw_event_599 (k := 2) rfl ?_
    refine jm_getN C hs_kb in_Cd (ci := 11) rfl 0 (Nat.le_of_ble_eq_true rfl) (jk_nw hZ.1 hz lk_Lw_115) hcd.1 rfl rd_Lw_event_601 ?_
    refine jk_iload C rd_Lw_event_604 (k := 1) rfl ?_
    refine jm_iald C hs_kb 0 hcd.2.2.1 rfl (by omega) (by omega) (by omega) rd_Lw_event_606 ?_
    refine jk_istore C rd_Lw_event_607 (Nat.le_of_ble_eq_true rfl) rfl ?_
    refine jk_aload C rd_Lw_event_609 (k := 3) rfl ?_
    refine jm_getN C hs_kb in_Cd (ci := 11) rfl 0 (Nat.le_of_ble_eq_true rfl) (jk_nw hZ.1 hz lk_Lw_115) hcd.1 rfl rd_Lw_event_611 ?_
    refine jk_iload C rd_Lw_event_614 (k := 2) rfl ?_
    refine jk_iload C rd_Lw_event_616 (k := 1) rfl ?_
    refine jm_iast C hs_kb 0 hcd.2.2.1 rfl (by omega) (by omega) (by omega) rd_Lw_event_618 (fun w8 hw8 => ?_)
    obtain ⟨M5, hM5⟩ : ∃ Mx : jm_M, Mx = jm_up M ((jS_kn S x)) (jk_W cI 4 (jk_up (jS_dg S x) (pl : Int) ((kb % 10 : Nat) : Int))) := ⟨_, rfl⟩
    replace hw8 : jm_lk w8 = M5 := by rw [hM5]; exact hw8
    have hc5_x := jm_keep hM5 hcd.1 (jm_nek hcd.1 hcd.2.2.1 rfl)
    have hc5_jS_knSx := jm_this hM5
    have hFp := jl_Fr.put hM5 hcd.2.2.2.1
    have hX1 := hX.fr hFp (by omega)
    have hA1 := hA.cord hPx (hFp.wide (fun _ h => Or.inr h)) hc5_x hc5_jS_knSx hnb
    obtain ⟨fs1, hkr1, -⟩ := hX1.kr
    refine jk_aload_n C rd_Lw_event_619 (k := 12) rfl ?_
    refine jk_iload C rd_Lw_event_620 (k := 4) rfl ?_
    refine jk_iload C rd_Lw_event_622 (k := 2) rfl ?_
    refine jk_iload C rd_Lw_event_624 (k := 1) rfl ?_
    refine jm_callV C hZ.1.1 hz hw8 (cn_KR_setKnots l D hZ.1 hl cI cR cO cB hX1 hg (k : Int) (pl : Int) ((kb % 10 : Nat) : Int) hf) lk_Lw_196 ki_KR_setKnots ks_KR_setKnots iw_KR kc_KR_setKnots na_KR_setKnots ⟨by dsimp only [jk_rx]; omega, by dsimp only [jk_rx]; omega⟩ rfl hkr1 rfl rfl (st := []) rfl (Nat.le_of_ble_eq_true rfl) rd_Lw_event_626 ⟨by dsimp only [jk_rx]; omega, by dsimp only [jk_rx]; omega⟩ (fun v w7 hp8 => ?_)
    obtain ⟨rfl, hX6, hF6⟩ := hp8
    rw [hz1]
    refine jk_iload C rd_Lw_event_629 (k := 0) rfl ?_
    refine jr_icmp_ne C rd_Lw_event_631 (tgt := 638) rfl ⟨by omega, by omega⟩ ⟨by omega, by omega⟩ (fun hc => absurd rfl hc) (fun _ => ?_)
    have hA2 := hA1.fr hF6 (fun y hy => by omega) (fun y hy => by omega) (fun y hy => by omega)
    refine jk_iconst C rd_Lw_event_634 ?_
    refine jk_goto C rd_Lw_event_635 (tgt := 639) rfl ?_
    exact jm_ret_z C (Or.inr rfl) (rfl : jm_lk w7 = _) ⟨rfl, _, _, _, _, _, _, _, _, _, hI2, hA2, hX6⟩ (by omega) (by omega) rd_Lw_event_639
  · refine jk_aload_n C rd_Lw_event_581 (k := 11) rfl ?_
    refine jk_iload C rd_Lw_event_582 (k := 3) rfl ?_
    refine jk_iload C rd_Lw_event_584 (k := 1) rfl ?_
    refine jm_callV C hZ.1.1 hz hs_kb (cm_KR_knotsAt l D hZ.1 hl cI cR cO cB hX (k : Int) (pl : Int) (if (pl : Int) < jS_nb S x then -1 else jS_dg S x (pl : Int)) (y9 pl hl_pl)) lk_Lw_111 ki_KR_knotsAt ks_KR_knotsAt iw_KR kc_KR_knotsAt na_KR_knotsAt ⟨by dsimp only [jk_rx]; omega, by dsimp only [jk_rx]; omega⟩ rfl hkr rfl rfl (st := []) rfl (Nat.le_of_ble_eq_true rfl) rd_Lw_event_586 ⟨by dsimp only [jk_rx]; omega, by dsimp only [jk_rx]; omega⟩ (fun v w10 hp11 => ?_)
    obtain ⟨rfl, hq9⟩ := hp11
    rw [if_pos (by omega)]
    refine jk_iconst C rd_Lw_event_589 ?_
    refine jr_icmp_ne C rd_Lw_event_590 (tgt := 597) rfl ⟨by omega, by omega⟩ ⟨by omega, by omega⟩ (fun hc => absurd rfl hc) (fun _ => ?_)
    refine jk_iconst C rd_Lw_event_593 ?_
    refine jk_goto C rd_Lw_event_594 (tgt := 598) rfl ?_
    exact jm_ret_z C (Or.inr rfl) (rfl : jm_lk w10 = _) ⟨rfl, _, _, _, _, _, _, _, _, _, hI, hA.mono hq9, hX.mono hq9⟩ (by omega) (by omega) rd_Lw_event_598
set_option maxHeartbeats 2000000 in
set_option maxRecDepth 20000 in
theorem ev_nibble (C : jk_C p s m args meth cod mb_Lw_event mn_Lw_event.cls 13 jk_WA D jk_cl (jl_ty cI cR cO cB) (va_A w s.heap.size) (some .boolean)) (hZ : jl_ZK Z sq iad z0 zi mi) (hz : Z (va_A w s.heap.size) s s.heap) (hl : l.stackTraces = false) (hg : ∀ j, j < 8 → g j = some (ad (48 + 11 * j))) (hws : jm_lk ws = M) (hA : jl_Al cI cO z0 ow M S K P r rc ro rd ri cs (jl_lo (jK_all S K 0 cs)) (jl_ld iad (jK_all S K 0 cs)) (jl_li iad (jK_all S K 0 cs))) (hX : jm_X ow M tX (WX cI cR g ad σ)) (hX6 : tX % 8 = 6) (hI : Inv σ S K P cs) (hB : jB σ S K P cs) (hcl : cells ≤ 200) (hsl : slots ≤ 3000) (hO : jO_nibble Inv) (hk : (jK_all S K 0 cs)[k]? = some (x, d, c)) (htp : tp < 2) (hva : va < 10000) : jk_J p l ev (jk_rx 22 1200 14000 700) s m args below meth cod cells slots (MQ below (jm_Post D jk_cl (jl_ty cI cR cO cB) (va_A w s.heap.size) (jw_EP Inv cI cR cO z0 g ad tX r rc ro rd ri)) args s 1200 14000 (va_A w s.heap.size)) D jk_cl (va_A w s.heap.size) 13 ws [(9, .ref x), (8, jk_V ((k : Int))), (7, jk_V wh), (6, .ref cu), (5, jk_V ((j : Int))), (4, jk_V ((tp : Int))), (3, jk_V ((va : Int))), (2, jk_V xx), (1, .ref r), (0, .ref ((ad 0)))] 640 [] := by
  obtain ⟨hN, hcs, hKP, hVd, hVk, hVc, hQ1, hQ2, hQ3, hQ4⟩ := id hB
  obtain ⟨fs0, hkr, hkro⟩ := hX.kr
  obtain ⟨hPx, hht, hsz, hjtp, hjkv, hjtt, hjnn, hjch⟩ := hVk k x d c hk
  obtain ⟨hcd, hnb, hch⟩ := hA.1 x hPx
  obtain ⟨y1, y2, y3, y4, y5, y6, y7, y8, y9⟩ := hQ3 k x d c hk
  have hkl : k < (jK_all S K 0 cs).length := (List.getElem?_eq_some_iff.mp hk).1
  refine jk_iconst C rd_Lw_event_640 ?_
  refine jk_iload_n C rd_Lw_event_641 (k := 7) rfl ?_
  refine jk_bipush C rd_Lw_event_642 (by decide +kernel) ?_
  refine jk_iconst C rd_Lw_event_644 ?_
  refine jm_callS C hZ.1.1 hz hws (ct_Lw_bits l D cI cR cO cB hZ (M := M) (x := xx) (f := 14) (k := 2)) lk_Lw_156 xw_Lw_bits iw_Lw cw_Lw_bits na_Lw_bits ⟨by dsimp only [jk_rx]; omega, by dsimp only [jk_rx]; omega⟩ rfl (st := [jk_V 1]) rfl (Nat.le_of_ble_eq_true rfl) rd_Lw_event_645 ⟨by dsimp only [jk_rx]; omega, by dsimp only [jk_rx]; omega⟩ (fun v w1 hp2 => ?_)
  obtain ⟨rfl, hs_pb⟩ := hp2
  obtain ⟨pb, hb_pb, hl_pb⟩ := jw_bits_n xx 14 (k := 2) (by omega)
  rw [show jw_bits xx 14 2 = (pb : Int) from hb_pb]
  replace hl_pb : pb < 4 := hl_pb
  refine jk_iadd C rd_Lw_event_648 ?_
  rw [show 1 + (pb : Int) = ((pb + 1 : Nat) : Int) by omega]
  refine jk_istore C rd_Lw_event_649 (Nat.le_of_ble_eq_true rfl) rfl ?_
  refine jk_iload C rd_Lw_event_651 (k := 0) rfl ?_
  refine jk_aload C rd_Lw_event_653 (k := 1) rfl ?_
  refine jm_getN C hs_pb in_Cd (ci := 11) rfl 2 (Nat.le_of_ble_eq_true rfl) (jk_nw hZ.1 hz lk_Lw_90) hcd.1 rfl rd_Lw_event_655 ?_
  refine jr_icmp_ge C rd_Lw_event_658 (tgt := 681) rfl ⟨by omega, by omega⟩ ⟨by omega, by omega⟩ (fun hc => ?_) (fun hc => ?_)
  · obtain ⟨zz, hf, hz1, hI2⟩ := hO σ S K P cs hI k x d c hk (pb + 1) (by omega) (by omega) hc
    have hdx := hVd x hPx
    obtain ⟨nb, hnbn⟩ := Int.eq_ofNat_of_zero_le hnb.1
    refine jk_iconst C rd_Lw_event_681 ?_
    refine jk_istore C rd_Lw_event_682 (Nat.le_of_ble_eq_true rfl) rfl ?_
    refine jk_aload C rd_Lw_event_684 (k := 2) rfl ?_
    refine jm_getN C hs_pb in_Cd (ci := 11) rfl 2 (Nat.le_of_ble_eq_true rfl) (jk_nw hZ.1 hz lk_Lw_90) hcd.1 rfl rd_Lw_event_686 ?_
    refine jk_istore C rd_Lw_event_689 (Nat.le_of_ble_eq_true rfl) rfl ?_
    rw [hnbn]
    have loop : ∀ (n i : Nat) (ws : va_W), i + n = pb + 1 → nb ≤ i → jm_lk ws = jm_up M (jS_kn S x) (jk_W cI 4 (jw_lose (jS_dg S x) nb i)) → (∀ ws : va_W, jm_lk ws = jm_up M (jS_kn S x) (jk_W cI 4 (jw_lose (jS_dg S x) nb (pb + 1))) → jk_J p l ev (jk_rx 22 1200 14000 700) s m args below meth cod cells slots (MQ below (jm_Post D jk_cl (jl_ty cI cR cO cB) (va_A w s.heap.size) (jw_EP Inv cI cR cO z0 g ad tX r rc ro rd ri)) args s 1200 14000 (va_A w s.heap.size)) D jk_cl (va_A w s.heap.size) 13 ws [(12, jk_V (((pb + 1 : Nat) : Int))), (11, jk_V ((jw_lost (jS_dg S x) nb (pb + 1)))), (10, jk_V (((pb + 1 : Nat) : Int))), (9, .ref x), (8, jk_V ((k : Int))), (7, jk_V wh), (6, .ref cu), (5, jk_V ((j : Int))), (4, jk_V ((tp : Int))), (3, jk_V ((va : Int))), (2, jk_V xx), (1, .ref r), (0, .ref ((ad 0)))] 726 []) → jk_J p l ev (jk_rx 22 1200 14000 700) s m args below meth cod cells slots (MQ below (jm_Post D jk_cl (jl_ty cI cR cO cB) (va_A w s.heap.size) (jw_EP Inv cI cR cO z0 g ad tX r rc ro rd ri)) args s 1200 14000 (va_A w s.heap.size)) D jk_cl (va_A w s.heap.size) 13 ws [(12, jk_V ((i : Int))), (11, jk_V ((jw_lost (jS_dg S x) nb i))), (10, jk_V (((pb + 1 : Nat) : Int))), (9, .ref x), (8, jk_V ((k : Int))), (7, jk_V wh), (6, .ref cu), (5, jk_V ((j : Int))), (4, jk_V ((tp : Int))), (3, jk_V ((va : Int))), (2, jk_V xx), (1, .ref r), (0, .ref ((ad 0)))] 691 [] := by
      intro n
      induction n with
      | zero =>
        intro i ws hi hni hws hex
        obtain rfl : i = pb + 1 := by omega
        refine jk_iload C rd_Lw_event_691 (k := 0) rfl ?_
        refine jk_iload C rd_Lw_event_693 (k := 2) rfl ?_
        refine jr_icmp_ge C rd_Lw_event_695 (tgt := 726) rfl ⟨by omega, by omega⟩ ⟨by omega, by omega⟩ (fun _ => ?_) (fun hc => absurd hc (by omega))
        exact hex ws hws
      | succ n ih =>
        intro i ws hi hni hws hex
        obtain ⟨Mi, hMi⟩ : ∃ Mx : jm_M, Mx = jm_up M (jS_kn S x) (jk_W cI 4 (jw_lose (jS_dg S x) nb i)) := ⟨_, rfl⟩
        rw [← hMi] at hws
        have hxi := jm_keep hMi hcd.1 (jm_nek hcd.1 hcd.2.2.1 rfl)
        have hki := jm_this hMi
        have hlo := jw_lost_r hdx nb (i := i) (by omega)
        have hdi := hdx (i : Int) (by omega) (by omega)
        have hli := jw_lose_at (f := jS_dg S x) hni
        refine jk_iload C rd_Lw_event_691 (k := 0) rfl ?_
        refine jk_iload C rd_Lw_event_693 (k := 2) rfl ?_
        refine jr_icmp_ge C rd_Lw_event_695 (tgt := 726) rfl ⟨by omega, by omega⟩ ⟨by omega, by omega⟩ (fun hc => absurd hc (by omega)) (fun _ => ?_)
        refine jk_iload C rd_Lw_event_698 (k := 1) rfl ?_
        refine jk_aload C rd_Lw_event_700 (k := 3) rfl ?_
        refine jm_getN C hws in_Cd (ci := 11) rfl 0 (Nat.le_of_ble_eq_true rfl) (jk_nw hZ.1 hz lk_Lw_115) hxi rfl rd_Lw_event_702 ?_
        refine jk_iload C rd_Lw_event_705 (k := 0) rfl ?_
        refine jm_iald C hws 0 hki rfl (by omega) (by omega) (by omega) rd_Lw_event_707 ?_
        rw [hli]
        refine jk_iadd C rd_Lw_event_708 ?_
        rw [show jw_lost (jS_dg S x) nb i + jS_dg S x (i : Int) = jw_lost (jS_dg S x) nb (i + 1) from (jw_lost_s hni).symm]
        refine jk_istore C rd_Lw_event_709 (Nat.le_of_ble_eq_true rfl) rfl ?_
        refine jk_aload C rd_Lw_event_711 (k := 3) rfl ?_
        refine jm_getN C hws in_Cd (ci := 11) rfl 0 (Nat.le_of_ble_eq_true rfl) (jk_nw hZ.1 hz lk_Lw_115) hxi rfl rd_Lw_event_713 ?_
        refine jk_iload C rd_Lw_event_716 (k := 1) rfl ?_
        refine jk_iconst C rd_Lw_event_718 ?_
        refine jm_iast C hws 0 hki rfl (by omega) (by omega) (by omega) rd_Lw_event_719 (fun w8 hw8 => ?_)
        refine jk_iinc C rd_Lw_event_720 (k := 1) rfl (Nat.le_of_ble_eq_true rfl) rfl ?_
        refine jk_goto C rd_Lw_event_723 (tgt := 691) rfl ?_
        refine jk_lv [0, 1, 2, 3, 4, 5, 6, 7, 8, 9, 10, 11, 12] rfl ?_
        rw [show (i : Int) + 1 = ((i + 1 : Nat) : Int) by omega]
        exact ih (i + 1) w8 (by omega) (by omega) (by rw [hw8, hMi, jm_up_up, jw_lose_s hni]) hex
    refine jk_lv [0, 1, 2, 3, 4, 5, 6, 7, 8, 9, 10, 11, 12] rfl ?_
    have h0 := loop (pb + 1 - nb) nb _ (by omega) (Nat.le_refl _) (by rw [hs_pb, jw_lose_0, jm_up_id hcd.2.2.1])
    rw [jw_lost_0] at h0
    refine h0 (fun ws2 hws2 => ?_)
    have hlo := jw_lost_r hdx nb (i := pb + 1) (by omega)
    obtain ⟨Mi, hMi⟩ : ∃ Mx : jm_M, Mx = jm_up M (jS_kn S x) (jk_W cI 4 (jw_lose (jS_dg S x) nb (pb + 1))) := ⟨_, rfl⟩
    rw [← hMi] at hws2
    have hxi := jm_keep hMi hcd.1 (jm_nek hcd.1 hcd.2.2.1 rfl)
    have hki := jm_this hMi
    refine jk_aload C rd_Lw_event_726 (k := 3) rfl ?_
    refine jk_iload C rd_Lw_event_728 (k := 2) rfl ?_
    refine jm_putN C hws2 in_Cd (ty0 := tf_Cd) ty_Cd nm_Cd (ci := 11) rfl 2 (Nat.le_of_ble_eq_true rfl) (jk_nw hZ.1 hz lk_Lw_90) rfl rfl rfl hxi (Nat.le_of_ble_eq_true rfl) rd_Lw_event_730 (fun w301 hw301 => ?_)
    obtain ⟨M302, hM302⟩ : ∃ Mx : jm_M, Mx = jm_up Mi x (.inr (11, [.ref ((jS_kn S x)), jk_V ((jS_tp S x)), jk_V (((pb + 1 : Nat) : Int)), .ref ((jS_bl S x))])) := ⟨_, rfl⟩
    replace hw301 : jm_lk w301 = M302 := by rw [hM302]; exact hw301
    have hc302_jS_knSx := jm_keep hM302 hki (jm_nek hcd.2.2.1 hcd.1 rfl)
    have hc302_x := jm_this hM302
    refine jk_aload_n C rd_Lw_event_733 (k := 12) rfl ?_
    refine jk_iload C rd_Lw_event_734 (k := 4) rfl ?_
    refine jk_iload C rd_Lw_event_736 (k := 2) rfl ?_
    have hFp := ((jl_Fr.put hMi hcd.2.2.2.1).wide (T' := fun z => z = 8 * x ∨ z = 8 * x + 1) (fun _ h => Or.inr h)).trans ((jl_Fr.put hM302 hcd.2.1).wide (fun _ h => Or.inl h))
    have hX1 := hX.fr hFp (by omega)
    have hA1 := hA.cord hPx hFp hc302_x hc302_jS_knSx ⟨by omega, by omega⟩
    obtain ⟨fs1, hkr1, -⟩ := hX1.kr
    refine jm_callV C hZ.1.1 hz hw301 (cn_KR_nibble l D hZ.1 hl cI cR cO cB hX1 hg (k : Int) ((pb + 1 : Nat) : Int) hf) lk_Lw_199 ki_KR_nibble ks_KR_nibble iw_KR kc_KR_nibble na_KR_nibble ⟨by dsimp only [jk_rx]; omega, by dsimp only [jk_rx]; omega⟩ rfl hkr1 rfl rfl (st := []) rfl (Nat.le_of_ble_eq_true rfl) rd_Lw_event_738 ⟨by dsimp only [jk_rx]; omega, by dsimp only [jk_rx]; omega⟩ (fun v w304 hp305 => ?_)
    obtain ⟨rfl, hX303, hF303⟩ := hp305
    rw [hz1, hnbn, Int.toNat_natCast]
    refine jk_iload C rd_Lw_event_741 (k := 1) rfl ?_
    refine jr_icmp_ne C rd_Lw_event_743 (tgt := 750) rfl ⟨by omega, by omega⟩ ⟨by omega, by omega⟩ (fun hc => absurd rfl hc) (fun _ => ?_)
    have hA2 := hA1.fr hF303 (fun y hy => by omega) (fun y hy => by omega) (fun y hy => by omega)
    rw [hnbn, Int.toNat_natCast] at hI2
    refine jk_iconst C rd_Lw_event_746 ?_
    refine jk_goto C rd_Lw_event_747 (tgt := 751) rfl ?_
    exact jm_ret_z C (Or.inr rfl) (rfl : jm_lk w304 = _) ⟨rfl, _, _, _, _, _, _, _, _, _, hI2, hA2, hX303⟩ (by omega) (by omega) rd_Lw_event_751
  · refine jk_aload_n C rd_Lw_event_661 (k := 10) rfl ?_
    refine jk_iload C rd_Lw_event_662 (k := 2) rfl ?_
    refine jm_callV C hZ.1.1 hz hs_pb (cm_KR_nibbledPlaces l D hZ.1 hl cI cR cO cB hX (k : Int) (jS_nb S x) y5) lk_Lw_87 ki_KR_nibbledPlaces ks_KR_nibbledPlaces iw_KR kc_KR_nibbledPlaces na_KR_nibbledPlaces ⟨by dsimp only [jk_rx]; omega, by dsimp only [jk_rx]; omega⟩ rfl hkr rfl rfl (st := []) rfl (Nat.le_of_ble_eq_true rfl) rd_Lw_event_664 ⟨by dsimp only [jk_rx]; omega, by dsimp only [jk_rx]; omega⟩ (fun v w4 hp5 => ?_)
    obtain ⟨rfl, hq3⟩ := hp5
    refine jk_aload C rd_Lw_event_667 (k := 1) rfl ?_
    refine jm_getN C (rfl : jm_lk w4 = _) in_Cd (ci := 11) rfl 2 (Nat.le_of_ble_eq_true rfl) (jk_nw hZ.1 hz lk_Lw_90) (hq3 _ _ hcd.1) rfl rd_Lw_event_669 ?_
    refine jr_icmp_ne C rd_Lw_event_672 (tgt := 679) rfl ⟨by omega, by omega⟩ ⟨by omega, by omega⟩ (fun hc => absurd rfl hc) (fun _ => ?_)
    refine jk_iconst C rd_Lw_event_675 ?_
    refine jk_goto C rd_Lw_event_676 (tgt := 680) rfl ?_
    exact jm_ret_z C (Or.inr rfl) (rfl : jm_lk w4 = _) ⟨rfl, _, _, _, _, _, _, _, _, _, hI, hA.mono hq3, hX.mono hq3⟩ (by omega) (by omega) rd_Lw_event_680
end EV1
