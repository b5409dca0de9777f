/-! a top tied; a cord cut off -/
def jO_tieTop (Inv : jk_LS → jl_S → jl_K → (Nat → Prop) → List Nat → Prop) : Prop := ∀ (σ : jk_LS) (S : jl_S) (K : jl_K) (P : Nat → Prop) (cs : List Nat), Inv σ S K P cs → ∀ (j cu : Nat), cs[j]? = some cu → jK_tp K cu = none → (jK_pd K cu).length ≠ 0 → jK_nib S K cu = 0 → jK_sum S K cu ≤ 9999 → (jK_all S K 0 cs).length < 40 → ∀ tp : Nat, tp < 2 → ∀ x k b : Nat, ¬ P x → x ∉ cs → ∃ z, jf_tieTop σ (j : Int) (tp : Int) = some (.inr z) ∧ z.1 = jK_sum S K cu ∧ Inv (js_tieTop σ z) (jS_n S x k b (jl_dgs (fun _ => 0) (jK_sum S K cu)) (tp : Int)) (jK_t K cu (some x)) (fun y => P y ∨ y = x) cs
/-- the lists of cords and clusters, together -/
def jw_la (S : jl_S) (K : jl_K) (cs : List Nat) (o : Nat) : Nat := if o ∈ cs then jK_pl K o else jS_bl S o
def jw_ls (S : jl_S) (K : jl_K) (cs : List Nat) (o : Nat) : List Nat := if o ∈ cs then jK_pd K o else jS_ch S o
def jS_f (S : jl_S) (c : Nat) : jl_S := (jS_kn S, jS_bl S, jS_dg S, jS_tp S, jS_nb S, fun y => (jS_ch S y).filter (fun x => decide (x ≠ c)))
def jK_f (K : jl_K) (c : Nat) : jl_K := (jK_pl K, jX_tn (jK_tp K) c, fun y => (jK_pd K y).filter (fun x => decide (x ≠ c)))
theorem jw_la_c {S : jl_S} {K : jl_K} {cs : List Nat} {o : Nat} (h : o ∈ cs) : jw_la S K cs o = jK_pl K o := if_pos h
theorem jw_la_n {S : jl_S} {K : jl_K} {cs : List Nat} {o : Nat} (h : o ∉ cs) : jw_la S K cs o = jS_bl S o := if_neg h
theorem jw_ls_c {S : jl_S} {K : jl_K} {cs : List Nat} {o : Nat} (h : o ∈ cs) : jw_ls S K cs o = jK_pd K o := if_pos h
theorem jw_ls_n {S : jl_S} {K : jl_K} {cs : List Nat} {o : Nat} (h : o ∉ cs) : jw_ls S K cs o = jS_ch S o := if_neg h
def jO_cut (Inv : jk_LS → jl_S → jl_K → (Nat → Prop) → List Nat → Prop) : Prop := ∀ (σ : jk_LS) (S : jl_S) (K : jl_K) (P : Nat → Prop) (cs : List Nat), Inv σ S K P cs → ∀ (k x d c : Nat), (jK_all S K 0 cs)[k]? = some (x, d, c) → ∃ z, ∃ p : Nat, ∃ od : Nat → Nat, ∃ P2 : Nat → Prop, jf_cut σ (k : Int) = some (.inr z) ∧ z.1 = jS_many S 3 x ∧ jk_R (jS_many S 3 x) ∧ jX_ok (jw_ls S K cs) x p od P (fun o => P o ∨ o ∈ cs) ∧ (∀ o, (P o ∨ o ∈ cs) → x ∈ jw_ls S K cs o → ∃ u ∈ cs, jX_rch (jw_ls S K cs) x 4 u o) ∧ (∀ u ∈ cs, od u = 0) ∧ (∀ y, P2 y → P y) ∧ (∀ y, P2 y → ∀ b ∈ jS_ch (jS_f S x) y, P2 b) ∧ Inv (js_cut σ z) (jS_f S x) (jK_f K x) P2 cs
section RM
variable {cI cO : ClassId} {z0 : Nat} {ow ow' : Nat → Nat} {M M' : jm_M} {S : jl_S} {K : jl_K} {P P2 : Nat → Prop} {r rc ro rd ri c : Nat} {cs os ds is : List Nat}
theorem jl_Al.toX (h : jl_Al cI cO z0 ow M S K P r rc ro rd ri cs os ds is) : jX_st cO z0 ow M (jw_la S K cs) (jw_ls S K cs) c r false P (fun o => P o ∨ o ∈ cs) := by
  refine ⟨fun o ho => ?_, fun x hx => ?_, ⟨_, h.2.2.1⟩, h.2.2.2.1⟩
  · show jl_AL cO z0 ow M (8 * o + 2) (jw_la S K cs o) (jw_ls S K cs o)
    by_cases hc : o ∈ cs
    · rw [jw_la_c hc, jw_ls_c hc]
      exact (h.2.1 o hc).2.2
    · rw [jw_la_n hc, jw_ls_n hc]
      exact (h.1 o (ho.elim id (fun z => absurd z hc))).1.2.2.2.2
  · have hc : x ∉ cs := fun z => (h.ck hx).1 x z rfl
    rw [jw_la_n hc]
    exact ⟨⟨_, _, _, (h.1 x hx).1.1⟩, (h.1 x hx).1.2.1⟩
theorem jw_filt {c : Nat} {l : List Nat} (h : c ∉ l) : l.filter (fun x => decide (x ≠ c)) = l := List.filter_eq_self.mpr (fun x hx => by
  rw [decide_eq_true_eq]
  exact fun z => h (z ▸ hx))
theorem jl_Al.rem (h : jl_Al cI cO z0 ow M S K P r rc ro rd ri cs os ds is) (hP2 : ∀ y, P2 y → P y) (hcl : ∀ y, P2 y → ∀ b ∈ jS_ch (jS_f S c) y, P2 b) {b' : Bool} (hst : jX_st cO z0 ow' M' (jw_la S K cs) (jw_ls S K cs) c r b' P (fun o => P o ∨ o ∈ cs)) (hR : jl_Rd cO z0 ow' M' r rc ro rd ri cs os ds is) (hcu : ∀ cu ∈ cs, M' cu = some (.inr (12, [va_rf (jX_tn (jK_tp K) c cu), .ref (jw_la S K cs cu)])) ∧ ow' cu = 8 * cu) (hF : jl_FrP ow M ow' M' (jX_T2 (fun o => P o ∨ o ∈ cs) cs))
    (hrc : ∀ o, (P o ∨ o ∈ cs) → c ∈ jw_ls S K cs o → ∃ u ∈ cs, jX_rch (jw_ls S K cs) c 4 u o) (hb : ∀ cu ∈ cs, ∀ y, jX_rch (jw_ls S K cs) c 4 cu y → c ∈ jw_ls S K cs y → b' = true) : jl_Al cI cO z0 ow' M' (jS_f S c) (jK_f K c) P2 r rc ro rd ri cs os ds is := by
  have hlist : ∀ o, (P o ∨ o ∈ cs) → jX_cur (jw_ls S K cs) c b' o = (jw_ls S K cs o).filter (fun x => decide (x ≠ c)) := by
    intro o ho
    unfold jX_cur
    by_cases hc : c ∈ jw_ls S K cs o
    · obtain ⟨u, hu, hr⟩ := hrc o ho hc
      rw [if_pos (hb u hu o hr hc)]
    · rw [jw_filt hc]
      split <;> rfl
  refine ⟨fun y hy => ?_, fun d hd => ?_, hR⟩
  · have hPy := hP2 y hy
    have hyc : y ∉ cs := fun z => (h.ck hPy).1 y z rfl
    obtain ⟨c1, c2, c3, c4, c5⟩ := (h.1 y hPy).1
    have t0 : ¬ jX_T2 (fun o => P o ∨ o ∈ cs) cs (8 * y) := by
      rintro (⟨o, _, z⟩ | ⟨o, ho, z⟩)
      · omega
      · exact hyc (by rw [show y = o by omega]; exact ho)
    have t1 : ¬ jX_T2 (fun o => P o ∨ o ∈ cs) cs (8 * y + 1) := by
      rintro (⟨o, _, z⟩ | ⟨o, ho, z⟩) <;> omega
    have hl := hst.1 y (Or.inl hPy)
    rw [hlist y (Or.inl hPy), jw_la_n hyc, jw_ls_n hyc] at hl
    exact ⟨⟨(hF _ _ c1).2.2 (by rw [c2]; exact t0), (hF _ _ c1).1.trans c2, (hF _ _ c3).2.2 (by rw [c4]; exact t1), (hF _ _ c3).1.trans c4, hl⟩, (h.1 y hPy).2.1, hcl y hy⟩
  · have hl := hst.1 d (Or.inr hd)
    rw [hlist d (Or.inr hd), jw_la_c hd, jw_ls_c hd] at hl
    obtain ⟨e1, e2⟩ := hcu d hd
    rw [jw_la_c hd] at e1
    exact ⟨e1, e2, hl⟩
end RM
section EV4
variable {p : Program} {l : Launch} {ev : Env} {s : State} {m : MethodId} {args : Array Value} {below : List Frame} {meth : Method} {cod : Code} {D : va_G} {Z : (Nat → Prop) → State → Heap → Prop} {sq iad : Nat → Nat} {z0 zi mi : Nat} {cI cR cO cB : ClassId} {w ws : va_W} {g : Nat → Option Nat} {ad : Nat → Nat} {σ : jk_LS} {ow : Nat → Nat} {M : jm_M} {S : jl_S} {K : jl_K} {P : Nat → Prop} {r rc ro rd ri tX x k j cu d c tp va : Nat} {cs : List Nat} {wh xx : Int} {cells slots : Nat} {Inv : jk_LS → jl_S → jl_K → (Nat → Prop) → List Nat → Prop}
set_option maxHeartbeats 4000000 in
set_option maxRecDepth 20000 in
theorem ev_tieTop (C : jk_C p s m args meth cod mb_Lw_event mn_Lw_event.cls 13 jk_WA D jk_cl (jl_ty cI cR cO cB) (va_A w s.heap.size) (some .boolean)) (hZ : jl_ZK Z sq iad z0 zi mi) (hz : Z (va_A w s.heap.size) s s.heap) (hl : l.stackTraces = false) (hg : ∀ j, j < 8 → g j = some (ad (48 + 11 * j))) (hws : jm_lk ws = M) (hA : jl_Al cI cO z0 ow M S K P r rc ro rd ri cs (jl_lo (jK_all S K 0 cs)) (jl_ld iad (jK_all S K 0 cs)) (jl_li iad (jK_all S K 0 cs))) (hX : jm_X ow M tX (WX cI cR g ad σ)) (hX6 : tX % 8 = 6) (hI : Inv σ S K P cs) (hB : jB σ S K P cs) (hcl : cells ≤ 200) (hsl : slots ≤ 3000) (hS0 : ∀ (σ : jk_LS) (S : jl_S) (K : jl_K) (P : Nat → Prop) (cs : List Nat), Inv σ S K P cs → ∀ (j cu : Nat), cs[j]? = some cu → 0 ≤ jK_sum S K cu) (hnn0 : ∀ (σ : jk_LS) (S : jl_S) (K : jl_K) (P : Nat → Prop) (cs : List Nat), Inv σ S K P cs → ∀ (j cu : Nat), cs[j]? = some cu → 0 ≤ jK_nib S K cu) (hO : jO_tieTop Inv) (hj : cs[j]? = some cu) (htp : tp < 2) : jk_J p l ev (jk_rx 22 1200 14000 700) s m args below meth cod cells slots (MQ below (jm_Post D jk_cl (jl_ty cI cR cO cB) (va_A w s.heap.size) (jw_EP Inv cI cR cO z0 g ad tX r rc ro rd ri)) args s 1200 14000 (va_A w s.heap.size)) D jk_cl (va_A w s.heap.size) 13 ws [(9, .ref x), (8, jk_V ((k : Int))), (7, jk_V wh), (6, .ref cu), (5, jk_V ((j : Int))), (4, jk_V ((tp : Int))), (3, jk_V ((va : Int))), (2, jk_V xx), (1, .ref r), (0, .ref ((ad 0)))] 432 [] := by
  obtain ⟨hN, hcs, hKP, hVd, hVk, hVc, hQ1, hQ2, hQ3, hQ4⟩ := id hB
  obtain ⟨fs0, hkr, hkro⟩ := hX.kr
  obtain ⟨v1, v2, v3, v4, v5, v6⟩ := hVc j cu hj
  obtain ⟨q1, q2, q3, q4, q5, q6⟩ := hQ4 j cu hj
  have hcm := List.mem_of_getElem? hj
  have hCu := hA.2.1 cu hcm
  have hKPc := hKP cu hcm
  have hrsR := @jR_rs_R S K (jK_all S K 0 cs) cu j
  have hC : jl_CS cO z0 ow M S K P cs := fun c hc => ⟨hA.2.1 c hc, hKP c hc⟩
  have hjl : j < cs.length := (List.getElem?_eq_some_iff.mp hj).1
  have hlo := jl_lo_len (jK_all S K 0 cs)
  have hs0 := hS0 σ S K P cs hI j cu hj
  refine jk_aload C rd_Lw_event_432 (k := 3) rfl ?_
  refine jm_callV C hZ.1.1 hz hws (ct_Cu_sum l D cI cR cO cB hZ hA.1 hCu hKPc) lk_Lw_189 xw_Cu_sum sw_Cu_sum iw_Cu cw_Cu_sum na_Cu_sum ⟨by dsimp only [jk_rx]; omega, by dsimp only [jk_rx]; omega⟩ rfl hCu.1 rfl rfl (st := []) rfl (Nat.le_of_ble_eq_true rfl) rd_Lw_event_434 ⟨by dsimp only [jk_rx]; omega, by dsimp only [jk_rx]; omega⟩ (fun v w1 hp2 => ?_)
  obtain ⟨rfl, hle1⟩ := hp2
  have hA1 := hA.mono hle1
  have hX1 := hX.mono hle1
  have hCu1 := hA1.2.1 cu hcm
  have hc1 := hCu1.1
  refine jk_istore C rd_Lw_event_437 (Nat.le_of_ble_eq_true rfl) rfl ?_
  refine jk_aload C rd_Lw_event_439 (k := 4) rfl ?_
  cases htc : jK_tp K cu with
  | some t9 =>
    rw [htc] at hc1
    refine jm_getN C (rfl : jm_lk w1 = _) in_Cu (ci := 12) rfl 0 (Nat.le_of_ble_eq_true rfl) (jk_nw hZ.1 hz lk_Lw_142) hc1 rfl rd_Lw_event_441 ?_
    refine jr_ifnonnull C rd_Lw_event_444 (tgt := 490) rfl ?_
    refine jk_aload_n C rd_Lw_event_490 (k := 10) rfl ?_
    refine jk_iload C rd_Lw_event_491 (k := 5) rfl ?_
    refine jm_callV C hZ.1.1 hz (rfl : jm_lk w1 = _) (cm_KR_pendantsIn l D hZ.1 hl cI cR cO cB hX1 (j : Int) ((jK_pd K cu).length : Int) q3) lk_Lw_133 ki_KR_pendantsIn ks_KR_pendantsIn iw_KR kc_KR_pendantsIn na_KR_pendantsIn ⟨by dsimp only [jk_rx]; omega, by dsimp only [jk_rx]; omega⟩ rfl (hle1 _ _ hkr) rfl rfl (st := []) rfl (Nat.le_of_ble_eq_true rfl) rd_Lw_event_493 ⟨by dsimp only [jk_rx]; omega, by dsimp only [jk_rx]; omega⟩ (fun v w4 hp5 => ?_)
    obtain ⟨rfl, hq3⟩ := hp5
    have hAq := hA1.mono hq3
    have hcq := (hAq.2.1 cu hcm).1
    refine jk_aload C rd_Lw_event_496 (k := 4) rfl ?_
    refine jm_getN C (rfl : jm_lk w4 = _) in_Cu (ci := 12) rfl 1 (Nat.le_of_ble_eq_true rfl) (jk_nw hZ.1 hz lk_Lw_136) hcq rfl rd_Lw_event_498 ?_
    obtain ⟨mcA, eA, _, _, hcA, -⟩ := id (hAq.2.1 cu hcm).2.2
    refine jm_callF C (x := ⟨"java/util/List", "size", "()I"⟩) (q := ("java/util/ArrayList", tb_AL, 3)) (ci := 14) hZ.1.1 hz (rfl : jm_lk w4 = _) (ct_AL_size l D cI cR cO cB hZ (hAq.2.1 cu hcm).2.2) (ff_AL_size hZ.1 hz) (fg_AL_size lk_Lw_39) cw_AL_size nf_AL_size ⟨by dsimp only [jk_rx]; omega, by dsimp only [jk_rx]; omega⟩ rfl hcA rfl (st := [jk_V (((jK_pd K cu).length : Int))]) rfl (Nat.le_of_ble_eq_true rfl) rd_Lw_event_501 ⟨by dsimp only [jk_rx]; omega, by dsimp only [jk_rx]; omega⟩ (fun v w6 hp7 => ?_)
    obtain ⟨rfl, hs1⟩ := hp7
    clear hcA
    refine jr_icmp_ne C rd_Lw_event_506 (tgt := 513) rfl ⟨by omega, by omega⟩ ⟨by omega, by omega⟩ (fun hd => absurd rfl hd) (fun _ => ?_)
    refine jk_iconst C rd_Lw_event_509 ?_
    refine jk_goto C rd_Lw_event_510 (tgt := 514) rfl ?_
    exact jm_ret_z C (Or.inr rfl) hs1 ⟨rfl, _, _, _, _, _, _, _, _, _, hI, hAq, hX1.mono hq3⟩ (by omega) (by omega) rd_Lw_event_514
  | none =>
    rw [htc] at hc1
    refine jm_getN C (rfl : jm_lk w1 = _) in_Cu (ci := 12) rfl 0 (Nat.le_of_ble_eq_true rfl) (jk_nw hZ.1 hz lk_Lw_142) hc1 rfl rd_Lw_event_441 ?_
    refine jr_ifnonnullN C rd_Lw_event_444 ?_
    refine jk_aload C rd_Lw_event_447 (k := 4) rfl ?_
    refine jm_getN C (rfl : jm_lk w1 = _) in_Cu (ci := 12) rfl 1 (Nat.le_of_ble_eq_true rfl) (jk_nw hZ.1 hz lk_Lw_136) hc1 rfl rd_Lw_event_449 ?_
    obtain ⟨mcA, eA, _, _, hcA, -⟩ := id hCu1.2.2
    refine jm_callF C (x := ⟨"java/util/List", "isEmpty", "()Z"⟩) (q := ("java/util/ArrayList", tb_AL, 3)) (ci := 14) hZ.1.1 hz (rfl : jm_lk w1 = _) (ct_AL_isEmpty l D cI cR cO cB hZ hCu1.2.2) (ff_AL_isEmpty hZ.1 hz) (fg_AL_isEmpty lk_Lw_162) cw_AL_isEmpty nf_AL_isEmpty ⟨by dsimp only [jk_rx]; omega, by dsimp only [jk_rx]; omega⟩ rfl hcA rfl (st := []) rfl (Nat.le_of_ble_eq_true rfl) rd_Lw_event_452 ⟨by dsimp only [jk_rx]; omega, by dsimp only [jk_rx]; omega⟩ (fun v w8 hp9 => ?_)
    obtain ⟨rfl, hs2⟩ := hp9
    clear hcA
    refine jr_if_ne C rd_Lw_event_457 (tgt := 490) rfl ⟨by split <;> decide, by split <;> decide⟩ (fun hc2 => ?_) (fun hc2 => ?_)
    · refine jk_aload_n C rd_Lw_event_490 (k := 10) rfl ?_
      refine jk_iload C rd_Lw_event_491 (k := 5) rfl ?_
      refine jm_callV C hZ.1.1 hz hs2 (cm_KR_pendantsIn l D hZ.1 hl cI cR cO cB hX1 (j : Int) ((jK_pd K cu).length : Int) q3) lk_Lw_133 ki_KR_pendantsIn ks_KR_pendantsIn iw_KR kc_KR_pendantsIn na_KR_pendantsIn ⟨by dsimp only [jk_rx]; omega, by dsimp only [jk_rx]; omega⟩ rfl (hle1 _ _ hkr) rfl rfl (st := []) rfl (Nat.le_of_ble_eq_true rfl) rd_Lw_event_493 ⟨by dsimp only [jk_rx]; omega, by dsimp only [jk_rx]; omega⟩ (fun v w11 hp12 => ?_)
      obtain ⟨rfl, hq10⟩ := hp12
      have hAq := hA1.mono hq10
      have hcq := (hAq.2.1 cu hcm).1
      refine jk_aload C rd_Lw_event_496 (k := 4) rfl ?_
      refine jm_getN C (rfl : jm_lk w11 = _) in_Cu (ci := 12) rfl 1 (Nat.le_of_ble_eq_true rfl) (jk_nw hZ.1 hz lk_Lw_136) hcq rfl rd_Lw_event_498 ?_
      obtain ⟨mcA, eA, _, _, hcA, -⟩ := id (hAq.2.1 cu hcm).2.2
      refine jm_callF C (x := ⟨"java/util/List", "size", "()I"⟩) (q := ("java/util/ArrayList", tb_AL, 3)) (ci := 14) hZ.1.1 hz (rfl : jm_lk w11 = _) (ct_AL_size l D cI cR cO cB hZ (hAq.2.1 cu hcm).2.2) (ff_AL_size hZ.1 hz) (fg_AL_size lk_Lw_39) cw_AL_size nf_AL_size ⟨by dsimp only [jk_rx]; omega, by dsimp only [jk_rx]; omega⟩ rfl hcA rfl (st := [jk_V (((jK_pd K cu).length : Int))]) rfl (Nat.le_of_ble_eq_true rfl) rd_Lw_event_501 ⟨by dsimp only [jk_rx]; omega, by dsimp only [jk_rx]; omega⟩ (fun v w13 hp14 => ?_)
      obtain ⟨rfl, hs3⟩ := hp14
      clear hcA
      refine jr_icmp_ne C rd_Lw_event_506 (tgt := 513) rfl ⟨by omega, by omega⟩ ⟨by omega, by omega⟩ (fun hd => absurd rfl hd) (fun _ => ?_)
      refine jk_iconst C rd_Lw_event_509 ?_
      refine jk_goto C rd_Lw_event_510 (tgt := 514) rfl ?_
      exact jm_ret_z C (Or.inr rfl) hs3 ⟨rfl, _, _, _, _, _, _, _, _, _, hI, hAq, hX1.mono hq10⟩ (by omega) (by omega) rd_Lw_event_514
    · have hpd : (jK_pd K cu).length ≠ 0 := fun z => by rw [if_pos z] at hc2; omega
      refine jk_aload C rd_Lw_event_460 (k := 4) rfl ?_
      refine jm_callV C hZ.1.1 hz hs2 (ct_Cu_nibbledOnes l D cI cR cO cB hZ hA1.1 hCu1 hKPc) lk_Lw_192 xw_Cu_nibbledOnes sw_Cu_nibbledOnes iw_Cu cw_Cu_nibbledOnes na_Cu_nibbledOnes ⟨by dsimp only [jk_rx]; omega, by dsimp only [jk_rx]; omega⟩ rfl hc1 rfl rfl (st := []) rfl (Nat.le_of_ble_eq_true rfl) rd_Lw_event_462 ⟨by dsimp only [jk_rx]; omega, by dsimp only [jk_rx]; omega⟩ (fun v w15 hp16 => ?_)
      obtain ⟨rfl, hle2⟩ := hp16
      have hle3 := hle1.trans hle2
      have hA3 := hA.mono hle3
      have hX3 := hX.mono hle3
      have hCu3 := hA3.2.1 cu hcm
      have hc3 := hCu3.1
      rw [htc] at hc3
      refine jr_if_gt C rd_Lw_event_465 (tgt := 490) rfl v2 (fun hn2 => ?_) (fun hn2 => ?_)
      · refine jk_aload_n C rd_Lw_event_490 (k := 10) rfl ?_
        refine jk_iload C rd_Lw_event_491 (k := 5) rfl ?_
        refine jm_callV C hZ.1.1 hz (rfl : jm_lk w15 = _) (cm_KR_pendantsIn l D hZ.1 hl cI cR cO cB hX3 (j : Int) ((jK_pd K cu).length : Int) q3) lk_Lw_133 ki_KR_pendantsIn ks_KR_pendantsIn iw_KR kc_KR_pendantsIn na_KR_pendantsIn ⟨by dsimp only [jk_rx]; omega, by dsimp only [jk_rx]; omega⟩ rfl (hle3 _ _ hkr) rfl rfl (st := []) rfl (Nat.le_of_ble_eq_true rfl) rd_Lw_event_493 ⟨by dsimp only [jk_rx]; omega, by dsimp only [jk_rx]; omega⟩ (fun v w18 hp19 => ?_)
        obtain ⟨rfl, hq17⟩ := hp19
        have hAq := hA3.mono hq17
        have hcq := (hAq.2.1 cu hcm).1
        refine jk_aload C rd_Lw_event_496 (k := 4) rfl ?_
        refine jm_getN C (rfl : jm_lk w18 = _) in_Cu (ci := 12) rfl 1 (Nat.le_of_ble_eq_true rfl) (jk_nw hZ.1 hz lk_Lw_136) hcq rfl rd_Lw_event_498 ?_
        obtain ⟨mcA, eA, _, _, hcA, -⟩ := id (hAq.2.1 cu hcm).2.2
        refine jm_callF C (x := ⟨"java/util/List", "size", "()I"⟩) (q := ("java/util/ArrayList", tb_AL, 3)) (ci := 14) hZ.1.1 hz (rfl : jm_lk w18 = _) (ct_AL_size l D cI cR cO cB hZ (hAq.2.1 cu hcm).2.2) (ff_AL_size hZ.1 hz) (fg_AL_size lk_Lw_39) cw_AL_size nf_AL_size ⟨by dsimp only [jk_rx]; omega, by dsimp only [jk_rx]; omega⟩ rfl hcA rfl (st := [jk_V (((jK_pd K cu).length : Int))]) rfl (Nat.le_of_ble_eq_true rfl) rd_Lw_event_501 ⟨by dsimp only [jk_rx]; omega, by dsimp only [jk_rx]; omega⟩ (fun v w20 hp21 => ?_)
        obtain ⟨rfl, hs4⟩ := hp21
        clear hcA
        refine jr_icmp_ne C rd_Lw_event_506 (tgt := 513) rfl ⟨by omega, by omega⟩ ⟨by omega, by omega⟩ (fun hd => absurd rfl hd) (fun _ => ?_)
        refine jk_iconst C rd_Lw_event_509 ?_
        refine jk_goto C rd_Lw_event_510 (tgt := 514) rfl ?_
        exact jm_ret_z C (Or.inr rfl) hs4 ⟨rfl, _, _, _, _, _, _, _, _, _, hI, hAq, hX3.mono hq17⟩ (by omega) (by omega) rd_Lw_event_514
      · refine jk_iload C rd_Lw_event_468 (k := 0) rfl ?_
        refine jk_sipush C rd_Lw_event_470 (by decide +kernel) ?_
        refine jr_icmp_gt C rd_Lw_event_473 (tgt := 490) rfl v3 ⟨by omega, by omega⟩ (fun hn3 => ?_) (fun hn3 => ?_)
        · refine jk_aload_n C rd_Lw_event_490 (k := 10) rfl ?_
          refine jk_iload C rd_Lw_event_491 (k := 5) rfl ?_
          refine jm_callV C hZ.1.1 hz (rfl : jm_lk w15 = _) (cm_KR_pendantsIn l D hZ.1 hl cI cR cO cB hX3 (j : Int) ((jK_pd K cu).length : Int) q3) lk_Lw_133 ki_KR_pendantsIn ks_KR_pendantsIn iw_KR kc_KR_pendantsIn na_KR_pendantsIn ⟨by dsimp only [jk_rx]; omega, by dsimp only [jk_rx]; omega⟩ rfl (hle3 _ _ hkr) rfl rfl (st := []) rfl (Nat.le_of_ble_eq_true rfl) rd_Lw_event_493 ⟨by dsimp only [jk_rx]; omega, by dsimp only [jk_rx]; omega⟩ (fun v w23 hp24 => ?_)
          obtain ⟨rfl, hq22⟩ := hp24
          have hAq := hA3.mono hq22
          have hcq := (hAq.2.1 cu hcm).1
          refine jk_aload C rd_Lw_event_496 (k := 4) rfl ?_
          refine jm_getN C (rfl : jm_lk w23 = _) in_Cu (ci := 12) rfl 1 (Nat.le_of_ble_eq_true rfl) (jk_nw hZ.1 hz lk_Lw_136) hcq rfl rd_Lw_event_498 ?_
          obtain ⟨mcA, eA, _, _, hcA, -⟩ := id (hAq.2.1 cu hcm).2.2
          refine jm_callF C (x := ⟨"java/util/List", "size", "()I"⟩) (q := ("java/util/ArrayList", tb_AL, 3)) (ci := 14) hZ.1.1 hz (rfl : jm_lk w23 = _) (ct_AL_size l D cI cR cO cB hZ (hAq.2.1 cu hcm).2.2) (ff_AL_size hZ.1 hz) (fg_AL_size lk_Lw_39) cw_AL_size nf_AL_size ⟨by dsimp only [jk_rx]; omega, by dsimp only [jk_rx]; omega⟩ rfl hcA rfl (st := [jk_V (((jK_pd K cu).length : Int))]) rfl (Nat.le_of_ble_eq_true rfl) rd_Lw_event_501 ⟨by dsimp only [jk_rx]; omega, by dsimp only [jk_rx]; omega⟩ (fun v w25 hp26 => ?_)
          obtain ⟨rfl, hs5⟩ := hp26
          clear hcA
          refine jr_icmp_ne C rd_Lw_event_506 (tgt := 513) rfl ⟨by omega, by omega⟩ ⟨by omega, by omega⟩ (fun hd => absurd rfl hd) (fun _ => ?_)
          refine jk_iconst C rd_Lw_event_509 ?_
          refine jk_goto C rd_Lw_event_510 (tgt := 514) rfl ?_
          exact jm_ret_z C (Or.inr rfl) hs5 ⟨rfl, _, _, _, _, _, _, _, _, _, hI, hAq, hX3.mono hq22⟩ (by omega) (by omega) rd_Lw_event_514
        · refine jk_aload_n C rd_Lw_event_476 (k := 9) rfl ?_
          refine jm_getN C (rfl : jm_lk w15 = _) in_Rd (ci := 13) rfl 1 (Nat.le_of_ble_eq_true rfl) (jk_nw hZ.1 hz lk_Lw_47) hA3.2.2.1 rfl rd_Lw_event_477 ?_
          obtain ⟨mcA, eA, _, _, hcA, -⟩ := id hA3.2.2.2.2.2.1
          refine jm_callF C (x := ⟨"java/util/List", "size", "()I"⟩) (q := ("java/util/ArrayList", tb_AL, 3)) (ci := 14) hZ.1.1 hz (rfl : jm_lk w15 = _) (ct_AL_size l D cI cR cO cB hZ hA3.2.2.2.2.2.1) (ff_AL_size hZ.1 hz) (fg_AL_size lk_Lw_39) cw_AL_size nf_AL_size ⟨by dsimp only [jk_rx]; omega, by dsimp only [jk_rx]; omega⟩ rfl hcA rfl (st := []) rfl (Nat.le_of_ble_eq_true rfl) rd_Lw_event_480 ⟨by dsimp only [jk_rx]; omega, by dsimp only [jk_rx]; omega⟩ (fun v w27 hp28 => ?_)
          obtain ⟨rfl, hs6⟩ := hp28
          clear hcA
          rw [hlo]
          refine jk_bipush C rd_Lw_event_485 (by decide +kernel) ?_
          refine jr_icmp_ne C rd_Lw_event_487 (tgt := 515) rfl ⟨by omega, by omega⟩ ⟨by omega, by omega⟩ (fun hn4 => ?_) (fun hn4 => ?_)
          · refine jk_aload C rd_Lw_event_515 (k := 4) rfl ?_
            obtain ⟨M3, hM3⟩ : ∃ Mx : jm_M, Mx = jm_lk w15 := ⟨_, rfl⟩
            rw [← hM3] at hs6 hA3 hX3 hc3
            refine jm_new C hs6 in_Cd (ty0 := tf_Cd) ty_Cd lk_Lw_54 nw_Cd iw_Cd (ci := 11) rfl (fs := [.null, jk_V 0, jk_V 0, .null]) (by intro j hj; rcases j with _ | _ | _ | _ | j <;> first | rfl | omega) ⟨by dsimp only [jk_rx]; omega, by dsimp only [jk_rx]; omega⟩ rd_Lw_event_517 (fun x9 wn hn9 hwn => ?_)
            obtain ⟨M34, hM34⟩ : ∃ Mx : jm_M, Mx = jm_up M3 x9 (.inr (11, [.null, jk_V 0, jk_V 0, .null])) := ⟨_, rfl⟩
            replace hwn : jm_lk wn = M34 := by rw [hM34]; exact hwn
            have hne34_cu := jm_nen hc3 hn9
            have hc34_cu := jm_keep hM34 hc3 hne34_cu
            have hc34_x9 := jm_this hM34
            refine jk_dup C rd_Lw_event_520 rfl ?_
            refine jk_iload C rd_Lw_event_521 (k := 6) rfl ?_
            refine jk_iload C rd_Lw_event_523 (k := 0) rfl ?_
            refine jm_callI C hZ.1.1 hz hwn (ct_Cd_init l D cI cR cO cB hZ hc34_x9 ⟨hs0, by omega⟩) lk_Lw_166 xw_Cd_init iw_Cd cw_Cd_init rfl na_Cd_init ⟨by dsimp only [jk_rx]; omega, by dsimp only [jk_rx]; omega⟩ rfl (st := [.ref x9, .ref cu]) rfl (Nat.le_of_ble_eq_true rfl) rd_Lw_event_525 ⟨by dsimp only [jk_rx]; omega, by dsimp only [jk_rx]; omega⟩ (fun v w35 hp36 => ?_)
            obtain ⟨rfl, k9, b9, hk9, hb9, hbk, hx1, hk1, hb1, hle0⟩ := hp36
            have hleM : jm_le M3 (jm_lk w35) := fun y e hy => hle0 y e (by rw [hM34, jm_up_n (jm_nen hy hn9)]; exact hy) (jm_nen hy hn9)
            have hk9M : M3 k9 = none := by
              cases hbb : M3 k9 with
              | none => rfl
              | some e =>
                rw [hM34, jm_up_n (jm_nen hbb hn9), hbb] at hk9
                cases hk9
            have hk9x : k9 ≠ x9 := fun z => by rw [z, hM34, jm_up_s] at hk9; cases hk9
            have hb9M : M3 b9 = none := by
              cases hbb : M3 b9 with
              | none => rfl
              | some e =>
                rw [hM34, jm_up_n (jm_nen hbb hn9), hbb] at hb9
                cases hb9
            have hb9x : b9 ≠ x9 := fun z => by rw [z, hM34, jm_up_s] at hb9; cases hb9
            have hA4 := hA3.newc hleM hn9 hk9M hb9M hk9x hb9x hbk hx1 hk1 hb1
            have hF4 : jl_FrP ow M3 (jw_o3 ow x9 k9 b9) (jm_lk w35) (fun _ => False) := jw_o3_fr hleM hn9 hk9M hb9M
            have hX4 := hX3.fr hF4 id
            have hnP : ¬ P x9 := fun h => by
              have := (hA3.1 x9 h).1.1
              rw [hn9] at this
              cases this
            have hnc : x9 ∉ cs := fun h => by
              have := (hA3.2.1 x9 h).1
              rw [hn9] at this
              cases this
            obtain ⟨zz, hf, hz1, hI2⟩ := hO σ S K P cs hI j cu hj htc hpd (by have := hnn0 σ S K P cs hI j cu hj; omega) (by omega) (by omega) tp htp x9 k9 b9 hnP hnc
            have hCu4 := hA4.2.1 cu hcm
            have hc4 := hCu4.1
            rw [htc] at hc4
            obtain ⟨M5, hM5⟩ : ∃ Mx : jm_M, Mx = jm_lk w35 := ⟨_, rfl⟩
            have hw5 : jm_lk w35 = M5 := hM5.symm
            rw [← hM5] at hA4 hX4 hc4
            refine jm_putN C hw5 in_Cu (ty0 := tf_Cu) ty_Cu nm_Cu (ci := 12) rfl 0 (Nat.le_of_ble_eq_true rfl) (jk_nw hZ.1 hz lk_Lw_142) rfl rfl rfl hc4 (Nat.le_of_ble_eq_true rfl) rd_Lw_event_528 (fun w37 hw37 => ?_)
            obtain ⟨M38, hM38⟩ : ∃ Mx : jm_M, Mx = jm_up M5 cu (.inr (12, [.ref x9, .ref ((jK_pl K cu))])) := ⟨_, rfl⟩
            replace hw37 : jm_lk w37 = M38 := by rw [hM38]; exact hw37
            have hc38_cu := jm_this hM38
            have hFp := jl_Fr.put hM38 hCu4.2.1
            have hX5 := hX4.fr hFp (by omega)
            have hA5 := hA4.top hcm (t := some x9) hFp hc38_cu
            obtain ⟨fs1, hkr1, -⟩ := hX5.kr
            refine jk_aload_n C rd_Lw_event_531 (k := 10) rfl ?_
            refine jk_iload C rd_Lw_event_532 (k := 5) rfl ?_
            refine jk_iload C rd_Lw_event_534 (k := 6) rfl ?_
            refine jm_callV C hZ.1.1 hz hw37 (cn_KR_tieTop l D hZ.1 hl cI cR cO cB hX5 hg (j : Int) (tp : Int) hf) lk_Lw_193 ki_KR_tieTop ks_KR_tieTop iw_KR kc_KR_tieTop na_KR_tieTop ⟨by dsimp only [jk_rx]; omega, by dsimp only [jk_rx]; omega⟩ rfl hkr1 rfl rfl (st := []) rfl (Nat.le_of_ble_eq_true rfl) rd_Lw_event_536 ⟨by dsimp only [jk_rx]; omega, by dsimp only [jk_rx]; omega⟩ (fun v w40 hp41 => ?_)
            obtain ⟨rfl, hX39, hF39⟩ := hp41
            rw [hz1]
            refine jk_iload C rd_Lw_event_539 (k := 0) rfl ?_
            refine jr_icmp_ne C rd_Lw_event_541 (tgt := 548) rfl v3 v3 (fun hd => absurd rfl hd) (fun _ => ?_)
            have hA6 := hA5.fr hF39 (fun y hy => by omega) (fun y hy => by omega) (fun y hy => by omega)
            refine jk_iconst C rd_Lw_event_544 ?_
            refine jk_goto C rd_Lw_event_545 (tgt := 549) rfl ?_
            exact jm_ret_z C (Or.inr rfl) (rfl : jm_lk w40 = _) ⟨rfl, _, _, _, _, _, _, _, _, _, hI2, hA6, hX39⟩ (by omega) (by omega) rd_Lw_event_549
          · refine jk_aload_n C rd_Lw_event_490 (k := 10) rfl ?_
            refine jk_iload C rd_Lw_event_491 (k := 5) rfl ?_
            refine jm_callV C hZ.1.1 hz hs6 (cm_KR_pendantsIn l D hZ.1 hl cI cR cO cB hX3 (j : Int) ((jK_pd K cu).length : Int) q3) lk_Lw_133 ki_KR_pendantsIn ks_KR_pendantsIn iw_KR kc_KR_pendantsIn na_KR_pendantsIn ⟨by dsimp only [jk_rx]; omega, by dsimp only [jk_rx]; omega⟩ rfl (hle3 _ _ hkr) rfl rfl (st := []) rfl (Nat.le_of_ble_eq_true rfl) rd_Lw_event_493 ⟨by dsimp only [jk_rx]; omega, by dsimp only [jk_rx]; omega⟩ (fun v w30 hp31 => ?_)
            obtain ⟨rfl, hq29⟩ := hp31
            have hAq := hA3.mono hq29
            have hcq := (hAq.2.1 cu hcm).1
            refine jk_aload C rd_Lw_event_496 (k := 4) rfl ?_
            refine jm_getN C (rfl : jm_lk w30 = _) in_Cu (ci := 12) rfl 1 (Nat.le_of_ble_eq_true rfl) (jk_nw hZ.1 hz lk_Lw_136) hcq rfl rd_Lw_event_498 ?_
            obtain ⟨mcA, eA, _, _, hcA, -⟩ := id (hAq.2.1 cu hcm).2.2
            refine jm_callF C (x := ⟨"java/util/List", "size", "()I"⟩) (q := ("java/util/ArrayList", tb_AL, 3)) (ci := 14) hZ.1.1 hz (rfl : jm_lk w30 = _) (ct_AL_size l D cI cR cO cB hZ (hAq.2.1 cu hcm).2.2) (ff_AL_size hZ.1 hz) (fg_AL_size lk_Lw_39) cw_AL_size nf_AL_size ⟨by dsimp only [jk_rx]; omega, by dsimp only [jk_rx]; omega⟩ rfl hcA rfl (st := [jk_V (((jK_pd K cu).length : Int))]) rfl (Nat.le_of_ble_eq_true rfl) rd_Lw_event_501 ⟨by dsimp only [jk_rx]; omega, by dsimp only [jk_rx]; omega⟩ (fun v w32 hp33 => ?_)
            obtain ⟨rfl, hs7⟩ := hp33
            clear hcA
            refine jr_icmp_ne C rd_Lw_event_506 (tgt := 513) rfl ⟨by omega, by omega⟩ ⟨by omega, by omega⟩ (fun hd => absurd rfl hd) (fun _ => ?_)
            refine jk_iconst C rd_Lw_event_509 ?_
            refine jk_goto C rd_Lw_event_510 (tgt := 514) rfl ?_
            exact jm_ret_z C (Or.inr rfl) hs7 ⟨rfl, _, _, _, _, _, _, _, _, _, hI, hAq, hX3.mono hq29⟩ (by omega) (by omega) rd_Lw_event_514
set_option maxHeartbeats 4000000 in
set_option maxRecDepth 20000 in
theorem ev_cut (C : jk_C p s m args meth cod mb_Lw_event mn_Lw_event.cls 13 jk_WA D jk_cl (jl_ty cI cR cO cB) (va_A w s.heap.size) (some .boolean)) (hZ : jl_ZK Z sq iad z0 zi mi) (hz : Z (va_A w s.heap.size) s s.heap) (hl : l.stackTraces = false) (hg : ∀ j, j < 8 → g j = some (ad (48 + 11 * j))) (hws : jm_lk ws = M) (hA : jl_Al cI cO z0 ow M S K P r rc ro rd ri cs (jl_lo (jK_all S K 0 cs)) (jl_ld iad (jK_all S K 0 cs)) (jl_li iad (jK_all S K 0 cs))) (hX : jm_X ow M tX (WX cI cR g ad σ)) (hX6 : tX % 8 = 6) (hI : Inv σ S K P cs) (hB : jB σ S K P cs) (hcl : cells ≤ 200) (hsl : slots ≤ 3000) (hO : jO_cut Inv) (hk : (jK_all S K 0 cs)[k]? = some (x, d, c)) (htp : tp < 2) (hva : va < 10000) : jk_J p l ev (jk_rx 22 1200 14000 700) s m args below meth cod cells slots (MQ below (jm_Post D jk_cl (jl_ty cI cR cO cB) (va_A w s.heap.size) (jw_EP Inv cI cR cO z0 g ad tX r rc ro rd ri)) args s 1200 14000 (va_A w s.heap.size)) D jk_cl (va_A w s.heap.size) 13 ws [(9, .ref x), (8, jk_V ((k : Int))), (7, jk_V wh), (6, .ref cu), (5, jk_V ((j : Int))), (4, jk_V ((tp : Int))), (3, jk_V ((va : Int))), (2, jk_V xx), (1, .ref r), (0, .ref ((ad 0)))] 402 [] := by
  obtain ⟨hN, hcs, hKP, hVd, hVk, hVc, hQ1, hQ2, hQ3, hQ4⟩ := id hB
  obtain ⟨fs0, hkr, hkro⟩ := hX.kr
  obtain ⟨hPx, hht, hsz, hjtp, hjkv, hjtt, hjnn, hjch⟩ := hVk k x d c hk
  obtain ⟨hcd, hnb, hch⟩ := hA.1 x hPx
  obtain ⟨y1, y2, y3, y4, y5, y6, y7, y8, y9⟩ := hQ3 k x d c hk
  have hkl : k < (jK_all S K 0 cs).length := (List.getElem?_eq_some_iff.mp hk).1
  refine jk_aload C rd_Lw_event_402 (k := 0) rfl ?_
  obtain ⟨zz, p9, od, P2, hf, hz1, hjm, hok, hrch, hod, hP2, hcl2, hI2⟩ := hO σ S K P cs hI k x d c hk
  refine jm_callV C hZ.1.1 hz hws (ct_Cd_many l D cI cR cO cB hZ 3 hA.1 hPx hht) lk_Lw_179 xw_Cd_many sw_Cd_many iw_Cd cw_Cd_many na_Cd_many ⟨by dsimp only [jk_rx]; omega, by dsimp only [jk_rx]; omega⟩ rfl hcd.1 rfl rfl (st := []) rfl (Nat.le_of_ble_eq_true rfl) rd_Lw_event_404 ⟨by dsimp only [jk_rx]; omega, by dsimp only [jk_rx]; omega⟩ (fun v w1 hp2 => ?_)
  obtain ⟨rfl, hle1⟩ := hp2
  have hA1 := hA.mono hle1
  have hX1 := hX.mono hle1
  refine jk_istore C rd_Lw_event_407 (Nat.le_of_ble_eq_true rfl) rfl ?_
  refine jk_aload_n C rd_Lw_event_409 (k := 9) rfl ?_
  refine jk_aload C rd_Lw_event_410 (k := 1) rfl ?_
  refine jm_callV C hZ.1.1 hz (rfl : jm_lk w1 = _) (ct_Rd_removes l D cI cR cO cB hZ (tp := jK_tp K) hok hA1.toX hA1.2.2 (fun h => h.elim (fun h => (hA1.ck h).2 rfl) (fun h => hA1.cr h rfl)) (fun u hu => ⟨by have := (hA1.2.1 u hu).1; rw [jw_la_c hu]; exact this, (hA1.2.1 u hu).2.1, Or.inr hu, hod u hu⟩) (by omega)) lk_Lw_182 xw_Rd_removes sw_Rd_removes iw_Rd cw_Rd_removes na_Rd_removes ⟨by dsimp only [jk_rx]; omega, by dsimp only [jk_rx]; omega⟩ rfl hA1.2.2.1 rfl rfl (st := []) rfl (Nat.le_of_ble_eq_true rfl) rd_Lw_event_412 ⟨by dsimp only [jk_rx]; omega, by dsimp only [jk_rx]; omega⟩ (fun v w3 hp4 => ?_)
  obtain ⟨rfl, ow2, b2, hst2, hR2, hcu2, hb2, hF2⟩ := hp4
  have hA2 := hA1.rem hP2 hcl2 hst2 hR2 hcu2 hF2 (fun o ho hc => hrch o ho hc) hb2
  have hX2 := hX1.fr hF2 (by rintro (⟨o, _, h⟩ | ⟨o, _, h⟩) <;> omega)
  obtain ⟨fs1, hkr1, -⟩ := hX2.kr
  refine jk_aload_n C rd_Lw_event_415 (k := 10) rfl ?_
  refine jk_iload C rd_Lw_event_416 (k := 2) rfl ?_
  refine jm_callV C hZ.1.1 hz (rfl : jm_lk w3 = _) (cn_KR_cut l D hZ.1 hl cI cR cO cB hX2 hg (k : Int) hf) lk_Lw_186 ki_KR_cut ks_KR_cut iw_KR kc_KR_cut na_KR_cut ⟨by dsimp only [jk_rx]; omega, by dsimp only [jk_rx]; omega⟩ rfl hkr1 rfl rfl (st := []) rfl (Nat.le_of_ble_eq_true rfl) rd_Lw_event_418 ⟨by dsimp only [jk_rx]; omega, by dsimp only [jk_rx]; omega⟩ (fun v w6 hp7 => ?_)
  obtain ⟨rfl, hX5, hF5⟩ := hp7
  rw [hz1]
  refine jk_iload C rd_Lw_event_421 (k := 0) rfl ?_
  refine jr_icmp_ne C rd_Lw_event_423 (tgt := 430) rfl hjm hjm (fun hd => absurd rfl hd) (fun _ => ?_)
  have hA3 := hA2.fr hF5 (fun y hy => by omega) (fun y hy => by omega) (fun y hy => by omega)
  refine jk_iconst C rd_Lw_event_426 ?_
  refine jk_goto C rd_Lw_event_427 (tgt := 431) rfl ?_
  exact jm_ret_z C (Or.inr rfl) (rfl : jm_lk w6 = _) ⟨rfl, _, _, _, _, _, _, _, _, _, hI2, hA3, hX5⟩ (by omega) (by omega) rd_Lw_event_431
end EV4
