/-! what was built: subsidiaries and tops -/
section BS
variable {S S' : jl_S} {K K' : jl_K} {P : Nat → Prop} {cs : List Nat} {tx : List Int} {c x z kk bb : Nat} {f : Int → Int} {t : Int} {lp : List Nat}
/-- the last pendant stands last -/
theorem sub_0 (hpd : jK_pd K c = lp ++ [z]) (hz : jS_ch S z = []) : (jK_pd K c).flatMap (fun b => jS_fl S 3 b 1) = lp.flatMap (fun b => jS_fl S 3 b 1) ++ [(z, 1)] := by
  rw [hpd, List.flatMap_append]
  congr 1
  show ((z, 1) :: (jS_ch S z).flatMap _) ++ [] = _
  rw [hz]
  rfl
theorem sub_1 (hpd : jK_pd K c = lp ++ [z]) (hz : jS_ch S z = []) : ∃ L0, jK_all S K 0 (cs ++ [c]) = L0 ++ [(z, 1, cs.length)] ∧ L0 = jK_all S K 0 cs ++ (jK_tl S K c ++ lp.flatMap (fun b => jS_fl S 3 b 1)).map (fun p => (p.1, p.2, cs.length)) := by
  refine ⟨_, ?_, rfl⟩
  rw [all_snoc, cl_def, sub_0 hpd hz, ← List.append_assoc (jK_tl S K c), List.map_append, List.append_assoc]
  rfl
/-- the listing with a subsidiary of the last pendant -/
theorem sub_l (T : jT S K (cs ++ [c])) (hxL : x ∉ jl_lo (jK_all S K 0 (cs ++ [c]))) (hpd : jK_pd K c = lp ++ [z]) (hz : jS_ch S z = []) : jK_all (jS_c (jS_n S x kk bb f t) z (jS_ch (jS_n S x kk bb f t) z ++ [x])) K 0 (cs ++ [c]) = jK_all S K 0 (cs ++ [c]) ++ [(x, 2, cs.length)] ∧ (jK_pd K c).flatMap (fun b => jS_fl (jS_c (jS_n S x kk bb f t) z (jS_ch (jS_n S x kk bb f t) z ++ [x])) 3 b 1) = (jK_pd K c).flatMap (fun b => jS_fl S 3 b 1) ++ [(x, 2)] := by
  have hcm : c ∈ cs ++ [c] := List.mem_append_right _ (List.mem_singleton.mpr rfl)
  have hzL : z ∈ jl_lo (jK_all S K 0 (cs ++ [c])) := pd_in hcm (by rw [hpd]; exact List.mem_append_right _ (List.mem_singleton.mpr rfl))
  have hzx : z ≠ x := fun e => hxL (e ▸ hzL)
  obtain ⟨S2, hS2⟩ : ∃ S2, S2 = jS_c (jS_n S x kk bb f t) z (jS_ch (jS_n S x kk bb f t) z ++ [x]) := ⟨_, rfl⟩
  rw [← hS2]
  have hchz : jS_ch S2 z = [x] := by
    rw [hS2]
    refine (if_pos rfl).trans ?_
    rw [nS_ch hzx, hz]
    rfl
  have hchx : jS_ch S2 x = [] := by
    rw [hS2]
    exact (if_neg (fun e => hzx e.symm)).trans nS_x
  have hcho : ∀ a, a ∈ jl_lo (jK_all S K 0 (cs ++ [c])) → a ≠ z → jS_ch S2 a = jS_ch S a := fun a ha haz => by
    rw [hS2]
    exact (if_neg haz).trans (nS_ch (fun e => hxL (e ▸ ha)))
  have hJG : jG S (jS_fl S2) z (fun a => a ∈ jl_lo (jK_all S K 0 (cs ++ [c]))) := ⟨T.cl, fun D a k ha haz => by
    show (a, k) :: (jS_ch S2 a).flatMap _ = _
    rw [hcho a ha haz]⟩
  have hKP' : ∀ cu ∈ cs ++ [c], (∀ b ∈ jK_pd K cu, b ∈ jl_lo (jK_all S K 0 (cs ++ [c])) ∧ jS_hgt S 3 b) ∧ ∀ t, jK_tp K cu = some t → t ∈ jl_lo (jK_all S K 0 (cs ++ [c])) ∧ jS_hgt S 3 t := fun cu hc => ⟨fun b hb => ⟨pd_in hc hb, (T.2.2.2.2.1 cu hc).1 b hb⟩, fun t ht => ⟨tp_in hc ht, (T.2.2.2.2.1 cu hc).2 t ht⟩⟩
  obtain ⟨L0, hL0, hL0e⟩ := sub_1 (cs := cs) hpd hz
  have hn := T.1
  rw [hL0, lo_app] at hn
  obtain ⟨n1, n2, n3⟩ := List.nodup_append.mp hn
  have hz0 : z ∉ jl_lo L0 := fun e => n3 z e z (List.mem_singleton.mpr rfl) rfl
  rw [hL0e, lo_app, lo_mp, List.mem_append, not_or, List.map_append, List.mem_append, not_or] at hz0
  obtain ⟨z1, z2, z3⟩ := hz0
  have hall : jK_all S2 K 0 cs = jK_all S K 0 cs := Ga_no (S' := S2) (K' := K) hJG cs 0 (fun cu hc => hKP' cu (List.mem_append_left _ hc)) (fun cu _ => by
    unfold jK_cl jGc jK_tl jGt
    cases jK_tp K cu <;> rfl) z1
  have hlp : lp.flatMap (fun b => jS_fl S2 3 b 1) = lp.flatMap (fun b => jS_fl S 3 b 1) := Gf_no hJG lp (fun b hb => (hKP' c hcm).1 b (by rw [hpd]; exact List.mem_append_left _ hb)) z3
  have hz3 : ([z].flatMap fun b => jS_fl S2 3 b 1) = [(z, 1), (x, 2)] := by
    show ((z, 1) :: (jS_ch S2 z).flatMap (fun b => jS_fl S2 2 b 2)) ++ [] = _
    rw [hchz]
    show ((z, 1) :: (((x, 2) :: (jS_ch S2 x).flatMap (fun b => jS_fl S2 1 b 3)) ++ [])) ++ [] = _
    rw [hchx]
    rfl
  have hF : (jK_pd K c).flatMap (fun b => jS_fl S2 3 b 1) = (jK_pd K c).flatMap (fun b => jS_fl S 3 b 1) ++ [(x, 2)] := by
    rw [sub_0 hpd hz, hpd, List.flatMap_append, hlp, hz3, List.append_assoc]
    rfl
  have htl : jK_tl S2 K c = jK_tl S K c := by
    unfold jK_tl at z2 ⊢
    cases ht : jK_tp K c with
    | none => rfl
    | some t =>
      rw [ht] at z2
      exact G_no hJG 3 t 0 ((hKP' c hcm).2 t ht).1 ((hKP' c hcm).2 t ht).2 z2
  refine ⟨?_, hF⟩
  rw [all_snoc, all_snoc, hall, cl_def, cl_def, htl, hF, ← List.append_assoc (jK_tl S K c), List.map_append, List.append_assoc]
  rfl
/-- a top's listing -/
theorem tie_l (T : jT S K (cs ++ [c])) (hxL : x ∉ jl_lo (jK_all S K 0 (cs ++ [c]))) (htn : jK_tp K c = none) : jK_all (jS_n S x kk bb f t) (jK_t K c (some x)) 0 (cs ++ [c]) = jK_all S K 0 cs ++ (x, 0, cs.length) :: (jK_cl S K c).map (fun p => (p.1, p.2, cs.length)) ∧ (jK_pd (jK_t K c (some x)) c).flatMap (fun b => jS_fl (jS_n S x kk bb f t) 3 b 1) = (jK_pd K c).flatMap (fun b => jS_fl S 3 b 1) := by
  have hcc := T.cl
  have heq : ∀ a, a ∈ jl_lo (jK_all S K 0 (cs ++ [c])) → jS_ch (jS_n S x kk bb f t) a = jS_ch S a := fun a ha => nS_ch (fun z => hxL (z ▸ ha))
  have hcm : c ∈ cs ++ [c] := List.mem_append_right _ (List.mem_singleton.mpr rfl)
  have hclS : ∀ v ∈ cs ++ [c], jK_cl (jS_n S x kk bb f t) K v = jK_cl S K v := fun v hv => cl_P (P := fun a => a ∈ jl_lo (jK_all S K 0 (cs ++ [c]))) hcc heq (fun b hb => pd_in hv hb) (fun t ht => tp_in hv ht)
  have hnc : ∀ u ∈ cs, u ≠ c := fun u hu e => (List.nodup_append.mp T.2.1).2.2 u hu c (List.mem_singleton.mpr rfl) e
  have hF : (jK_pd K c).flatMap (fun b => jS_fl (jS_n S x kk bb f t) 3 b 1) = (jK_pd K c).flatMap (fun b => jS_fl S 3 b 1) := fm_cg _ (fun b hb => fl_P (P := fun a => a ∈ jl_lo (jK_all S K 0 (cs ++ [c]))) hcc heq 3 b 1 (pd_in hcm hb))
  refine ⟨?_, hF⟩
  have hcu : jK_cl (jS_n S x kk bb f t) (jK_t K c (some x)) c = (x, 0) :: jK_cl S K c := by
    rw [← hclS c hcm]
    unfold jK_cl
    rw [cl_top nS_x (show jK_tp (jK_t K c (some x)) c = some x from if_pos rfl), cl_tn htn]
    rfl
  rw [all_snoc, all_cg (S := S) (K := K) cs 0 (fun u hu => (cl_K (S := jS_n S x kk bb f t) (K := K) (K' := jK_t K c (some x)) (show jK_tp (jK_t K c (some x)) u = jK_tp K u from if_neg (hnc u hu)) rfl).trans (hclS u (List.mem_append_left _ hu))), hcu]
  rfl
theorem tie_T (T : jT S K (cs ++ [c])) (hxL : x ∉ jl_lo (jK_all S K 0 (cs ++ [c]))) (hxc : x ∉ cs ++ [c]) (htn : jK_tp K c = none) (hf : ∀ i : Int, 0 ≤ i → i < 4 → 0 ≤ f i ∧ f i ≤ 9) : jT (jS_n S x kk bb f t) (jK_t K c (some x)) (cs ++ [c]) := by
  have hcc := T.cl
  have heq : ∀ a, a ∈ jl_lo (jK_all S K 0 (cs ++ [c])) → jS_ch (jS_n S x kk bb f t) a = jS_ch S a := fun a ha => nS_ch (fun z => hxL (z ▸ ha))
  obtain ⟨eL, -⟩ := tie_l (kk := kk) (bb := bb) (f := f) (t := t) T hxL htn
  have eA : jK_all S K 0 (cs ++ [c]) = jK_all S K 0 cs ++ (jK_cl S K c).map (fun p => (p.1, p.2, cs.length)) := all_snoc
  have hL : ∀ z, z ∈ jl_lo (jK_all S K 0 cs ++ (x, 0, cs.length) :: (jK_cl S K c).map (fun p => (p.1, p.2, cs.length))) ↔ z ∈ jl_lo (jK_all S K 0 (cs ++ [c])) ∨ z = x := fun z => by rw [eA]; exact lo_mi
  have hTp : ∀ u, jK_tp (jK_t K c (some x)) u = if u = c then some x else jK_tp K u := fun _ => rfl
  obtain ⟨t1, t2, t3, t4, t5, t6, t7⟩ := id T
  unfold jT
  rw [eL]
  refine ⟨lo_nd (by rw [← eA]; exact t1) (by rw [← eA]; exact hxL), t2, t3, fun u hu t ht => ?_, fun u hu => ⟨fun y hy => ?_, fun t ht => ?_⟩, fun y hy => ?_, nS_d T hL hf rfl⟩
  · rw [hTp] at ht
    by_cases e : u = c
    · rw [if_pos e] at ht
      rw [← Option.some.inj ht]
      exact nS_x
    · rw [if_neg e] at ht
      rw [heq t (tp_in hu ht)]
      exact t4 u hu t ht
  · exact hgt_P (P := fun a => a ∈ jl_lo (jK_all S K 0 (cs ++ [c]))) hcc heq 3 y (pd_in hu hy) ((t5 u hu).1 y hy)
  · rw [hTp] at ht
    by_cases e : u = c
    · rw [if_pos e] at ht
      rw [← Option.some.inj ht]
      intro b2 hb2
      rw [nS_x] at hb2
      exact absurd hb2 List.not_mem_nil
    · rw [if_neg e] at ht
      exact hgt_P (P := fun a => a ∈ jl_lo (jK_all S K 0 (cs ++ [c]))) hcc heq 3 t (tp_in hu ht) ((t5 u hu).2 t ht)
  · rcases (hL y).mp hy with hy | hy
    · exact t6 y hy
    · rw [hy]; exact hxc
end BS
theorem jb_s_N : jb_s jBd := by
  intro tx S K P cs c h hlen lp z hpd hz tp v htp hv x kk bb hPx hxc
  have hne : cs ++ [c] ≠ [] := fun z => by
    have := congrArg List.length z
    rw [List.length_append, List.length_singleton, List.length_nil] at this
    omega
  obtain ⟨σ, hN⟩ := h.1.resolve_left (fun z => hne z.1)
  have hT := hN.2.2.2.1
  have hP := hN.2.2.2.2
  have hcm : c ∈ cs ++ [c] := List.mem_append_right _ (List.mem_singleton.mpr rfl)
  have hxL : x ∉ jl_lo (jK_all S K 0 (cs ++ [c])) := fun z => hPx ((hP x).mpr z)
  have hzL : z ∈ jl_lo (jK_all S K 0 (cs ++ [c])) := pd_in hcm (by rw [hpd]; exact List.mem_append_right _ (List.mem_singleton.mpr rfl))
  have hzx : z ≠ x := fun e => hxL (e ▸ hzL)
  obtain ⟨L0, hL0, -⟩ := sub_1 (cs := cs) hpd hz
  have hll : (jK_all S K 0 (cs ++ [c])).length = L0.length + 1 := by rw [hL0, List.length_append, List.length_singleton]
  have hzk : (jK_all S K 0 (cs ++ [c]))[L0.length]? = some (z, 1, cs.length) := by
    rw [hL0, List.getElem?_append_right (Nat.le_refl _), Nat.sub_self]
    rfl
  obtain ⟨y, i9, -, -, -, -, hN1⟩ := jO_addSub_N σ S K P (cs ++ [c]) hN L0.length z 1 cs.length hzk (by decide) (by decide) hlen tp v htp (by omega) x kk bb hPx hxc
  obtain ⟨eL, eF⟩ := sub_l (kk := kk) (bb := bb) (f := jl_dgs (fun _ => 0) (v : Int)) (t := (tp : Int)) hT hxL hpd hz
  rw [← nS_ch (S := S) (kk := kk) (b := bb) (f := jl_dgs (fun _ => 0) (v : Int)) (t := (tp : Int)) hzx] at hN1
  obtain ⟨S2, hS2⟩ : ∃ S2, S2 = jS_c (jS_n S x kk bb (jl_dgs (fun _ => 0) (v : Int)) (tp : Int)) z (jS_ch (jS_n S x kk bb (jl_dgs (fun _ => 0) (v : Int)) (tp : Int)) z ++ [x]) := ⟨_, rfl⟩
  rw [← hS2] at hN1 eL eF ⊢
  have hnb : jS_nb S2 x = 0 := by rw [hS2]; exact if_pos rfl
  have htp1 : jS_tp S2 x = (tp : Int) := by rw [hS2]; exact if_pos rfl
  have hkv : jS_kv S2 x = (v : Int) := by
    rw [hS2]
    show jS_kv (jS_n S x kk bb (jl_dgs (fun _ => 0) (v : Int)) (tp : Int)) x = _
    rw [n_kv_s, kv_dgs ⟨by omega, by omega⟩]
  have hoth : ∀ p ∈ jK_all S K 0 (cs ++ [c]), jS_tp S2 p.1 = jS_tp S p.1 ∧ jS_kv S2 p.1 = jS_kv S p.1 ∧ jS_nb S2 p.1 = jS_nb S p.1 := fun p hp => by
    rw [hS2]
    exact nS_v (kk := kk) (b := bb) (fun e => hxL (lo_m.mpr ⟨p.2.1, p.2.2, by rw [← e]; exact hp⟩))
  have hFin : ∀ p ∈ (jK_pd K c).flatMap (fun b => jS_fl S 3 b 1), (p.1, p.2, cs.length) ∈ jK_all S K 0 (cs ++ [c]) := fun p hp => all_in (last_i rfl) (List.mem_append_right _ hp)
  have hlen1 : (jK_all S2 K 0 (cs ++ [c])).length = (jK_all S K 0 (cs ++ [c])).length + 1 := by rw [eL, List.length_append, List.length_singleton]
  have hsum0 : jK_sum S2 K c = jK_sum S K c + (v : Int) := by
    rw [sum_fl, sum_fl, eF, List.map_append, List.sum_append, kv_sum (fun p hp => (hoth _ (hFin p hp)).2.1)]
    show _ + (jS_kv S2 x + 0) = _
    rw [hkv, Int.add_zero]
  have e1 : tx ++ jk_txt 18 ++ [97 + (tp : Int)] ++ [32] ++ jl_nt v ++ [59] = tx ++ (jk_txt 18 ++ [97 + (tp : Int)] ++ [32] ++ jl_nt v ++ [59]) := by simp only [List.append_assoc]
  have l1 : ((jk_txt 18 ++ [97 + (tp : Int)] ++ [32] ++ jl_nt v ++ [59]).length : Int) = 9 + ((jl_nt v).length : Int) := by
    rw [List.length_append, List.length_append, List.length_append, List.length_append, show (jk_txt 18).length = 6 from rfl, List.length_singleton, List.length_singleton, List.length_singleton]
    omega
  have hcl : ((cs ++ [c]).length : Int) = (cs.length : Int) + 1 := by rw [List.length_append, List.length_singleton]; omega
  have hsz1 : ((jK_all S2 K 0 (cs ++ [c])).length : Int) = ((jK_all S K 0 (cs ++ [c])).length : Int) + 1 := by rw [hlen1]; omega
  rw [e1]
  refine ⟨⟨Or.inr ⟨_, hN1⟩, Pr_step h.2 (by omega) (fun f len nm st dp tp0 va nb g k0 s0 i H hl hat hn0 hn1 hC hG hi => ?_)⟩, hlen1, by omega⟩
  rw [l1] at hl
  obtain ⟨d1, d2, -⟩ := hC.2.2.2 _ _ hzk
  have d1 : g (L0.length : Int) = (cs.length : Int) := d1
  have d2 : dp (L0.length : Int) = 1 := d2
  have hgk := (hC.1.2.2 (L0.length : Int) (by omega) (by omega)).1
  rw [d1] at hgk
  have hla : st (((cs ++ [c]).length : Int) - 1) ≤ ((jK_all S K 0 (cs ++ [c])).length : Int) - 1 ∧ dp (((jK_all S K 0 (cs ++ [c])).length : Int) - 1) = 1 := by
    rw [hcl, show (cs.length : Int) + 1 - 1 = (cs.length : Int) by omega, show ((jK_all S K 0 (cs ++ [c])).length : Int) - 1 = (L0.length : Int) by omega]
    exact ⟨hgk.2.2.1, d2⟩
  have hsp := fun n => s_sub (n := n) (k0 := k0) (s0 := s0) H hC.1 hG hn0 hn1 (by omega) (by omega) hla htp (by omega : v < 1000) hat (by omega) (by omega) hi
  refine ⟨4, (tx.length : Int) + 8 + ((jl_nt v).length : Int), rsz st (((cs ++ [c]).length : Int) - 1) ((cs ++ [c]).length : Int) 1, ins dp ((jK_all S K 0 (cs ++ [c])).length : Int) 2 ((jK_all S K 0 (cs ++ [c])).length : Int), ins tp0 ((jK_all S K 0 (cs ++ [c])).length : Int) (tp : Int) ((jK_all S K 0 (cs ++ [c])).length : Int), ins va ((jK_all S K 0 (cs ++ [c])).length : Int) (v : Int) ((jK_all S K 0 (cs ++ [c])).length : Int), ins nb ((jK_all S K 0 (cs ++ [c])).length : Int) 0 ((jK_all S K 0 (cs ++ [c])).length : Int), ins g ((jK_all S K 0 (cs ++ [c])).length : Int) (((cs ++ [c]).length : Int) - 1) ((jK_all S K 0 (cs ++ [c])).length : Int), ?_, pG_ins hG (by omega) ⟨by omega, by omega⟩, fun n => ?_⟩
  · rw [hsz1]
    rw [eL]
    exact C_snoc hC hoth (hsp 0).2 rfl (by omega) rfl htp1.symm hkv.symm hnb
  · rw [(hsp n).1, l1, hsz1, show (tx.length : Int) + 9 + ((jl_nt v).length : Int) = (tx.length : Int) + (9 + ((jl_nt v).length : Int)) by omega]
theorem jb_t_N : jb_t jBd := by
  intro tx S K P cs c h hlen htn hpd v hv hv1 x kk bb hPx hxc
  have hne : cs ++ [c] ≠ [] := fun z => by
    have := congrArg List.length z
    rw [List.length_append, List.length_singleton, List.length_nil] at this
    omega
  obtain ⟨σ, hN⟩ := h.1.resolve_left (fun z => hne z.1)
  have hT := hN.2.2.2.1
  have hP := hN.2.2.2.2
  have hj : (cs ++ [c])[cs.length]? = some c := last_i rfl
  have hcm : c ∈ cs ++ [c] := List.mem_append_right _ (List.mem_singleton.mpr rfl)
  have htu := hT.2.2.2.1 c hcm
  have hxL : x ∉ jl_lo (jK_all S K 0 (cs ++ [c])) := fun z => hPx ((hP x).mpr z)
  obtain ⟨eL, eF⟩ := tie_l (kk := kk) (bb := bb) (f := jl_dgs (fun _ => 0) (v : Int)) (t := 0) hT hxL htn
  have hT1 := tie_T (kk := kk) (bb := bb) (f := jl_dgs (fun _ => 0) (v : Int)) (t := 0) hT hxL hxc htn (fun i h0 h4 => dgs_r (by omega) h0 h4)
  have eA : jK_all S K 0 (cs ++ [c]) = jK_all S K 0 cs ++ (jK_cl S K c).map (fun p => (p.1, p.2, cs.length)) := all_snoc
  obtain ⟨S1, hS1⟩ : ∃ S1, S1 = jS_n S x kk bb (jl_dgs (fun _ => 0) (v : Int)) 0 := ⟨_, rfl⟩
  rw [← hS1] at hT1 eL eF ⊢
  have hnb : jS_nb S1 x = 0 := by rw [hS1]; exact if_pos rfl
  have htp1 : jS_tp S1 x = 0 := by rw [hS1]; exact if_pos rfl
  have hkv : jS_kv S1 x = (v : Int) := by rw [hS1, n_kv_s, kv_dgs ⟨by omega, by omega⟩]
  have hoth : ∀ p ∈ jK_all S K 0 (cs ++ [c]), jS_tp S1 p.1 = jS_tp S p.1 ∧ jS_kv S1 p.1 = jS_kv S p.1 ∧ jS_nb S1 p.1 = jS_nb S p.1 := fun p hp => by
    rw [hS1]
    exact nS_v (fun e => hxL (lo_m.mpr ⟨p.2.1, p.2.2, by rw [← e]; exact hp⟩))
  have hFin : ∀ p ∈ (jK_pd K c).flatMap (fun b => jS_fl S 3 b 1), (p.1, p.2, cs.length) ∈ jK_all S K 0 (cs ++ [c]) := fun p hp => all_in hj (List.mem_append_right _ hp)
  have hlen1 : (jK_all S1 (jK_t K c (some x)) 0 (cs ++ [c])).length = (jK_all S K 0 (cs ++ [c])).length + 1 := by
    rw [eL, eA, List.length_append, List.length_append, List.length_cons]
    omega
  have hsum : jK_sum S1 (jK_t K c (some x)) c = jK_sum S K c := by
    rw [sum_fl, sum_fl, eF, kv_sum (fun p hp => (hoth _ (hFin p hp)).2.1)]
  have hcl : ((cs ++ [c]).length : Int) = (cs.length : Int) + 1 := by rw [List.length_append, List.length_singleton]; omega
  have hsz1 : ((jK_all S1 (jK_t K c (some x)) 0 (cs ++ [c])).length : Int) = ((jK_all S K 0 (cs ++ [c])).length : Int) + 1 := by rw [hlen1]; omega
  have hin : ∀ z, (P z ∨ z = x) ↔ z ∈ jl_lo (jK_all S1 (jK_t K c (some x)) 0 (cs ++ [c])) := fun z => by
    rw [eL, hP, eA]
    exact lo_mi.symm
  have hne1 : (jK_pd K c).length ≤ (jK_cl S K c).length := by
    have : (jK_pd K c).length ≤ ((jK_pd K c).flatMap (fun b => jS_fl S 3 b 1)).length := fo_len (S := S) (D := 2) (e := 1) (jK_pd K c)
    rw [cl_def, List.length_append]
    omega
  have hpl : 0 < (jK_pd K c).length := List.length_pos_iff.mpr hpd
  -- the columns behind the top
  have hcol : ∀ {cl sz : Int} {st dp tp0 va nb g : Int → Int}, jC (jK_all S K 0 (cs ++ [c])) S (cs ++ [c]).length cl sz st dp tp0 va nb g → ht st dp (cl - 1) = 0 ∧ st (cl - 1) = ((jK_all S K 0 cs).length : Int) ∧ (∀ g', pI cl (sz + 1) 2 (rsz st (cl - 1) cl 1) (ins dp (st (cl - 1)) 0 sz) (ins tp0 (st (cl - 1)) 0 sz) (ins va (st (cl - 1)) (v : Int) sz) (ins nb (st (cl - 1)) 0 sz) g' → g' = ins g (st (cl - 1)) (cl - 1) sz → jC (jK_all S1 (jK_t K c (some x)) 0 (cs ++ [c])) S1 (cs ++ [c]).length cl (sz + 1) (rsz st (cl - 1) cl 1) (ins dp (st (cl - 1)) 0 sz) (ins tp0 (st (cl - 1)) 0 sz) (ins va (st (cl - 1)) (v : Int) sz) (ins nb (st (cl - 1)) 0 sz) g') ∧ st (cl - 1) < st (cl - 1 + 1) ∧ ks st dp va (cl - 1) = (v : Int) := by
    intro cl sz st dp tp0 va nb g hC
    have hclv := hC.2.1
    have hc1 : cl - 1 = (cs.length : Int) := by omega
    have hht := ht_cl hC htu hj
    rw [cl_tn htn] at hht
    obtain ⟨pre2, post2, q1, q2, q3⟩ := st_blk hC hj
    have hst := st_at hC (c := cs.length) (by rw [List.length_append]; omega) eA (fun p hp => by
      obtain ⟨_, _, _, _, h5⟩ := all_mem cs 0 p hp
      omega) (fun p hp => by
      obtain ⟨q, _, rfl⟩ := List.mem_map.mp hp
      exact Nat.le_refl _)
    have hks := ks_cl hC htu hj
    rw [hc1]
    refine ⟨hht, hst, fun g' I' hg' => ?_, by omega, by rw [hks, hv]⟩
    rw [hg'] at I' ⊢
    rw [eL]
    have hC' := hC
    rw [eA] at hC'
    exact C_ins hC' (fun p hp => hoth p (by rw [eA]; exact hp)) I' hst rfl rfl htp1.symm hkv.symm hnb
  have hN1 : ∃ σ2, jN σ2 S1 (jK_t K c (some x)) (fun y => P y ∨ y = x) (cs ++ [c]) := by
    obtain ⟨g, hC⟩ := hN.1
    obtain ⟨a1, a2, a3, a4, a5⟩ := hcol hC
    have hc11 := hC.2.1
    have hc12 := hC.2.2.1
    obtain ⟨-, hI⟩ := f_4 hC.1 (c := σ.S 11 - 1) (t := 0) (by omega) (by omega) (by decide) a1 a4 (by omega) (by omega) 0
    rw [a5] at hI
    refine ⟨jMk (σ.S 11) (σ.S 12 + 1) (rsz (σ.T 3) (σ.S 11 - 1) (σ.S 11) 1) (ins (σ.T 4) (σ.T 3 (σ.S 11 - 1)) 0 (σ.S 12)) (ins (σ.T 5) (σ.T 3 (σ.S 11 - 1)) 0 (σ.S 12)) (ins (σ.T 6) (σ.T 3 (σ.S 11 - 1)) (v : Int) (σ.S 12)) (ins (σ.T 7) (σ.T 3 (σ.S 11 - 1)) 0 (σ.S 12)), ⟨_, a3 _ hI rfl⟩, ⟨rfl, (show (0 : Int) ≤ 0 ∧ (0 : Int) < 8 by decide), (show (0 : Int) ≤ 0 ∧ (0 : Int) ≤ 8 by decide)⟩, pG_ins hN.2.2.1 (by omega) ⟨by decide, by decide⟩, hT1, hin⟩
  have e1 : tx ++ jk_txt 19 ++ jl_nt v ++ [59] = tx ++ (jk_txt 19 ++ jl_nt v ++ [59]) := by simp only [List.append_assoc]
  have l1 : ((jk_txt 19 ++ jl_nt v ++ [59]).length : Int) = 7 + ((jl_nt v).length : Int) := by
    rw [List.length_append, List.length_append, show (jk_txt 19).length = 6 from rfl, List.length_singleton]
    omega
  rw [e1]
  refine ⟨⟨Or.inr hN1, Pr_step h.2 (by omega) (fun f len nm st dp tp0 va nb g k0 s0 i H hl hat hn0 hn1 hC hG hi => ?_)⟩, hlen1, hsum⟩
  rw [l1] at hl
  obtain ⟨a1, a2, a3, a4, a5⟩ := hcol hC
  have hsp := fun n => s_tie (n := n) (k0 := k0) (s0 := s0) H hC.1 hG hn0 hn1 (by omega) (by omega) a1 hv1 hat (by omega) (by omega) hi
  refine ⟨4, (tx.length : Int) + 6 + ((jl_nt v).length : Int), rsz st (((cs ++ [c]).length : Int) - 1) ((cs ++ [c]).length : Int) 1, ins dp (st (((cs ++ [c]).length : Int) - 1)) 0 ((jK_all S K 0 (cs ++ [c])).length : Int), ins tp0 (st (((cs ++ [c]).length : Int) - 1)) 0 ((jK_all S K 0 (cs ++ [c])).length : Int), ins va (st (((cs ++ [c]).length : Int) - 1)) (v : Int) ((jK_all S K 0 (cs ++ [c])).length : Int), ins nb (st (((cs ++ [c]).length : Int) - 1)) 0 ((jK_all S K 0 (cs ++ [c])).length : Int), ins g (st (((cs ++ [c]).length : Int) - 1)) (((cs ++ [c]).length : Int) - 1) ((jK_all S K 0 (cs ++ [c])).length : Int), ?_, pG_ins hG (by omega) ⟨by decide, by decide⟩, fun n => ?_⟩
  · rw [hsz1]
    exact a3 _ (hsp 0).2 rfl
  · rw [(hsp n).1, l1, hsz1, show (tx.length : Int) + 7 + ((jl_nt v).length : Int) = (tx.length : Int) + (7 + ((jl_nt v).length : Int)) by omega]
