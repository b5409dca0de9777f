/-! what was built: pendants -/
section BP
variable {S S' : jl_S} {K K' : jl_K} {P : Nat → Prop} {cs : List Nat} {tx : List Int} {c x kk bb : Nat} {f : Int → Int} {t : Int}
/-- the listing with a pendant more in the last cluster -/
theorem pend_l (T : jT S K (cs ++ [c])) (hxL : x ∉ jl_lo (jK_all S K 0 (cs ++ [c]))) : jK_all (jS_n S x kk bb f t) (jK_p K c (jK_pd K c ++ [x])) 0 (cs ++ [c]) = jK_all S K 0 (cs ++ [c]) ++ [(x, 1, cs.length)] ∧ (jK_pd (jK_p K c (jK_pd K c ++ [x])) c).flatMap (fun b => jS_fl (jS_n S x kk bb f t) 3 b 1) = (jK_pd K c).flatMap (fun b => jS_fl S 3 b 1) ++ [(x, 1)] := by
  have hcc := T.cl
  have heq : ∀ a, a ∈ jl_lo (jK_all S K 0 (cs ++ [c])) → jS_ch (jS_n S x kk bb f t) a = jS_ch S a := fun a ha => nS_ch (fun z => hxL (z ▸ ha))
  have hcm : c ∈ cs ++ [c] := List.mem_append_right _ (List.mem_singleton.mpr rfl)
  have hclS : ∀ v ∈ cs ++ [c], jK_cl (jS_n S x kk bb f t) K v = jK_cl S K v := fun v hv => cl_P (P := fun a => a ∈ jl_lo (jK_all S K 0 (cs ++ [c]))) hcc heq (fun b hb => pd_in hv hb) (fun t ht => tp_in hv ht)
  have hnc : ∀ u ∈ cs, u ≠ c := fun u hu e => (List.nodup_append.mp T.2.1).2.2 u hu c (List.mem_singleton.mpr rfl) e
  have hpd : jK_pd (jK_p K c (jK_pd K c ++ [x])) c = jK_pd K c ++ [x] := if_pos rfl
  have hx1 : ([x].flatMap fun b => jS_fl (jS_n S x kk bb f t) 3 b 1) = [(x, 1)] := by
    show ((x, 1) :: (jS_ch (jS_n S x kk bb f t) x).flatMap _) ++ [] = _
    rw [nS_x]
    rfl
  have hF : (jK_pd (jK_p K c (jK_pd K c ++ [x])) c).flatMap (fun b => jS_fl (jS_n S x kk bb f t) 3 b 1) = (jK_pd K c).flatMap (fun b => jS_fl S 3 b 1) ++ [(x, 1)] := by
    rw [hpd, List.flatMap_append, hx1, fm_cg _ (fun b hb => fl_P (P := fun a => a ∈ jl_lo (jK_all S K 0 (cs ++ [c]))) hcc heq 3 b 1 (pd_in hcm hb))]
  refine ⟨?_, hF⟩
  have hcu : jK_cl (jS_n S x kk bb f t) (jK_p K c (jK_pd K c ++ [x])) c = jK_cl S K c ++ [(x, 1)] := by
    rw [← hclS c hcm]
    unfold jK_cl
    rw [hpd, List.flatMap_append, hx1, List.append_assoc]
    rfl
  rw [all_snoc, all_snoc, all_cg (S := S) (K := K) cs 0 (fun u hu => (cl_K (S := jS_n S x kk bb f t) (K := K) (K' := jK_p K c (jK_pd K c ++ [x])) rfl (show jK_pd (jK_p K c (jK_pd K c ++ [x])) u = jK_pd K u from if_neg (hnc u hu))).trans (hclS u (List.mem_append_left _ hu))), hcu, List.map_append, List.append_assoc]
  rfl
theorem fl_w {y : Nat} {h : Int → Int} {t2 b2 : Int} {D a k : Nat} : jS_fl (jS_w S y h t2 b2) D a k = jS_fl S D a k := fl_P (S := S) (S' := jS_w S y h t2 b2) (P := fun _ => True) (fun _ _ _ _ => trivial) (fun _ _ => rfl) D a k trivial
theorem C_snoc {n : Nat} {cl sz : Int} {st dp tp va nb g : Int → Int} {A : List (Nat × Nat × Nat)} (hC : jC A S n cl sz st dp tp va nb g) {y d c : Nat} {st' : Int → Int} {dv tv vv gv a : Int} (hS : ∀ p ∈ A, jS_tp S' p.1 = jS_tp S p.1 ∧ jS_kv S' p.1 = jS_kv S p.1 ∧ jS_nb S' p.1 = jS_nb S p.1) (I : pI cl (sz + 1) 2 st' (ins dp a dv sz) (ins tp a tv sz) (ins va a vv sz) (ins nb a 0 sz) (ins g a gv sz)) (ha : a = (A.length : Int)) (h1 : gv = (c : Int)) (h2 : dv = (d : Int)) (h3 : tv = jS_tp S' y) (h4 : vv = jS_kv S' y) (h5 : jS_nb S' y = 0) : jC (A ++ [(y, d, c)]) S' n cl (sz + 1) st' (ins dp a dv sz) (ins tp a tv sz) (ins va a vv sz) (ins nb a 0 sz) (ins g a gv sz) := by
  have hC' : jC (A ++ []) S n cl sz st dp tp va nb g := by rw [List.append_nil]; exact hC
  exact C_ins hC' (fun p hp => hS p (by rw [List.append_nil] at hp; exact hp)) I ha h1 h2 h3 h4 h5
end BP
theorem jb_p_N : jb_p jBd := by
  intro tx S K P cs c h hlen tp v htp hv x kk bb hPx hxc
  have hne : cs ++ [c] ≠ [] := fun z => by
    have := congrArg List.length z
    rw [List.length_append, List.length_singleton, List.length_nil] at this
    omega
  obtain ⟨σ, hN⟩ := h.1.resolve_left (fun z => hne z.1)
  have hT := hN.2.2.2.1
  have hP := hN.2.2.2.2
  have hxL : x ∉ jl_lo (jK_all S K 0 (cs ++ [c])) := fun z => hPx ((hP x).mpr z)
  obtain ⟨z, i9, -, -, -, -, hN1⟩ := jO_addPendant_N σ S K P (cs ++ [c]) hN cs.length c (last_i rfl) hlen tp v htp (by omega) x kk bb hPx hxc
  obtain ⟨eL, eF⟩ := pend_l (kk := kk) (bb := bb) (f := jl_dgs (fun _ => 0) (v : Int)) (t := (tp : Int)) hT hxL
  obtain ⟨S1, hS1⟩ : ∃ S1, S1 = jS_n S x kk bb (jl_dgs (fun _ => 0) (v : Int)) (tp : Int) := ⟨_, rfl⟩
  rw [← hS1] at hN1 eL eF ⊢
  generalize hK1 : jK_p K c (jK_pd K c ++ [x]) = K1 at hN1 eL eF ⊢
  have hdg : jS_dg S1 x = jl_dgs (fun _ => 0) (v : Int) := by rw [hS1]; exact if_pos rfl
  have hnb : jS_nb S1 x = 0 := by rw [hS1]; exact if_pos rfl
  have htp1 : jS_tp S1 x = (tp : Int) := by rw [hS1]; exact if_pos rfl
  have hkv : jS_kv S1 x = (v : Int) := by rw [hS1, n_kv_s, kv_dgs ⟨by omega, by omega⟩]
  have hoth : ∀ p ∈ jK_all S K 0 (cs ++ [c]), jS_tp S1 p.1 = jS_tp S p.1 ∧ jS_kv S1 p.1 = jS_kv S p.1 ∧ jS_nb S1 p.1 = jS_nb S p.1 := fun p hp => by
    rw [hS1]
    exact nS_v (fun e => hxL (lo_m.mpr ⟨p.2.1, p.2.2, by rw [← e]; exact hp⟩))
  have hFin : ∀ p ∈ (jK_pd K c).flatMap (fun b => jS_fl S 3 b 1), (p.1, p.2, cs.length) ∈ jK_all S K 0 (cs ++ [c]) := fun p hp => all_in (last_i rfl) (List.mem_append_right _ hp)
  have hlast : (jK_all S1 K1 0 (cs ++ [c]))[(jK_all S K 0 (cs ++ [c])).length]? = some (x, 1, cs.length) := by
    rw [eL, List.getElem?_append_right (Nat.le_refl _), Nat.sub_self]
    rfl
  have hlen1 : (jK_all S1 K1 0 (cs ++ [c])).length = (jK_all S K 0 (cs ++ [c])).length + 1 := by rw [eL, List.length_append, List.length_singleton]
  -- nibbled
  have hN2 : ∃ σ2, jN σ2 (jS_w S1 x (jk_up (jS_dg S1 x) 0 0) (jS_tp S1 x) 1) K1 (fun y => P y ∨ y = x) (cs ++ [c]) := by
    obtain ⟨z2, -, -, hN3⟩ := jO_nibble_N _ S1 K1 _ (cs ++ [c]) hN1 _ x 1 cs.length hlast 1 (by decide) (by decide) (by rw [hnb]; decide)
    have hfe : jw_lose (jS_dg S1 x) (jS_nb S1 x).toNat 1 = jk_up (jS_dg S1 x) 0 0 := by
      rw [hnb]
      funext j
      unfold jw_lose jk_up
      by_cases e : j = 0
      · rw [if_pos e, if_pos (by simp only [Int.toNat_zero]; omega)]
      · rw [if_neg e, if_neg (by simp only [Int.toNat_zero]; omega)]
    rw [hfe] at hN3
    exact ⟨_, hN3⟩
  have hkvw : jS_kv (jS_w S1 x (jk_up (jS_dg S1 x) 0 0) (jS_tp S1 x) 1) x = (v : Int) / 10 * 10 := by
    rw [w_kv_s, kv_4, hdg, if_neg (by decide), if_neg (by decide), if_neg (by decide), if_pos (by decide), up_ne (by decide), up_ne (by decide), up_ne (by decide), show jl_dgs (fun _ => 0) (v : Int) 1 = (v : Int) / 10 % 10 from rfl, show jl_dgs (fun _ => 0) (v : Int) 2 = (v : Int) / 10 / 10 % 10 from rfl, show jl_dgs (fun _ => 0) (v : Int) 3 = (v : Int) / 10 / 10 / 10 % 10 from rfl]
    omega
  have hsum0 : jK_sum S1 K1 c = jK_sum S K c + (v : Int) := by
    rw [sum_fl, sum_fl, eF, List.map_append, List.sum_append, kv_sum (fun p hp => (hoth _ (hFin p hp)).2.1)]
    show _ + (jS_kv S1 x + 0) = _
    rw [hkv, Int.add_zero]
  have hsum1 : jK_sum (jS_w S1 x (jk_up (jS_dg S1 x) 0 0) (jS_tp S1 x) 1) K1 c = jK_sum S K c + (v : Int) / 10 * 10 := by
    have eF2 : (jK_pd K1 c).flatMap (fun b => jS_fl (jS_w S1 x (jk_up (jS_dg S1 x) 0 0) (jS_tp S1 x) 1) 3 b 1) = (jK_pd K1 c).flatMap (fun b => jS_fl S1 3 b 1) := fm_cg _ (fun b _ => fl_w)
    rw [sum_fl, sum_fl, eF2, eF, List.map_append, List.sum_append, kv_sum (S := S) (fun p hp => ?_)]
    · show _ + (jS_kv _ x + 0) = _
      rw [hkvw, Int.add_zero]
    · rw [w_kv_o (fun e => hxL (lo_m.mpr ⟨p.2, cs.length, by rw [← e]; exact hFin p hp⟩))]
      exact (hoth _ (hFin p hp)).2.1
  have e1 : tx ++ jk_txt 16 ++ [97 + (tp : Int)] ++ [32] ++ jl_nt v ++ [59] = tx ++ (jk_txt 16 ++ [97 + (tp : Int)] ++ [32] ++ jl_nt v ++ [59]) := by simp only [List.append_assoc]
  have e2 : tx ++ jk_txt 16 ++ [97 + (tp : Int)] ++ [32] ++ jl_nt v ++ jk_txt 17 ++ [59] = tx ++ (jk_txt 16 ++ [97 + (tp : Int)] ++ [32] ++ jl_nt v ++ jk_txt 17 ++ [59]) := by simp only [List.append_assoc]
  have l1 : ((jk_txt 16 ++ [97 + (tp : Int)] ++ [32] ++ jl_nt v ++ [59]).length : Int) = 11 + ((jl_nt v).length : Int) := by
    rw [List.length_append, List.length_append, List.length_append, List.length_append, show (jk_txt 16).length = 8 from rfl, List.length_singleton, List.length_singleton, List.length_singleton]
    omega
  have l2 : ((jk_txt 16 ++ [97 + (tp : Int)] ++ [32] ++ jl_nt v ++ jk_txt 17 ++ [59]).length : Int) = 21 + ((jl_nt v).length : Int) := by
    rw [List.length_append, List.length_append, List.length_append, List.length_append, List.length_append, show (jk_txt 16).length = 8 from rfl, show (jk_txt 17).length = 10 from rfl, List.length_singleton, List.length_singleton, List.length_singleton]
    omega
  have hcl : ((cs ++ [c]).length : Int) = (cs.length : Int) + 1 := by rw [List.length_append, List.length_singleton]; omega
  have hsz1 : ((jK_all S1 K1 0 (cs ++ [c])).length : Int) = ((jK_all S K 0 (cs ++ [c])).length : Int) + 1 := by rw [hlen1]; omega
  rw [e1, e2]
  refine ⟨⟨⟨Or.inr ⟨_, hN1⟩, Pr_step h.2 (by omega) (fun f len nm st dp tp0 va nb g k0 s0 i H hl hat hn0 hn1 hC hG hi => ?_)⟩, hlen1, by omega⟩, ⟨Or.inr hN2, Pr_step h.2 (by omega) (fun f len nm st dp tp0 va nb g k0 s0 i H hl hat hn0 hn1 hC hG hi => ?_)⟩, by rw [all_w]; exact hlen1, by omega⟩
  · rw [l1] at hl
    have hsp := fun n => s_pend (n := n) (k0 := k0) (s0 := s0) H hC.1 hG hn0 hn1 (by omega) (by omega) htp (by omega : v < 1000) hat (by omega) (by omega) hi
    refine ⟨4, (tx.length : Int) + 10 + ((jl_nt v).length : Int), rsz st (((cs ++ [c]).length : Int) - 1) ((cs ++ [c]).length : Int) 1, ins dp ((jK_all S K 0 (cs ++ [c])).length : Int) 1 ((jK_all S K 0 (cs ++ [c])).length : Int), ins tp0 ((jK_all S K 0 (cs ++ [c])).length : Int) (tp : Int) ((jK_all S K 0 (cs ++ [c])).length : Int), ins va ((jK_all S K 0 (cs ++ [c])).length : Int) (v : Int) ((jK_all S K 0 (cs ++ [c])).length : Int), ins nb ((jK_all S K 0 (cs ++ [c])).length : Int) 0 ((jK_all S K 0 (cs ++ [c])).length : Int), ins g ((jK_all S K 0 (cs ++ [c])).length : Int) (((cs ++ [c]).length : Int) - 1) ((jK_all S K 0 (cs ++ [c])).length : Int), ?_, pG_ins hG (by omega) ⟨by omega, by omega⟩, fun n => ?_⟩
    · rw [hsz1]
      rw [eL]
      exact C_snoc hC hoth (hsp 0).2 rfl (by omega) rfl htp1.symm hkv.symm hnb
    · rw [(hsp n).1, l1, hsz1, show (tx.length : Int) + 11 + ((jl_nt v).length : Int) = (tx.length : Int) + (11 + ((jl_nt v).length : Int)) by omega]
  · rw [l2] at hl
    have hsp := fun n => s_pendn (n := n) (k0 := k0) (s0 := s0) H hC.1 hG hn0 hn1 (by omega) (by omega) htp (by omega : v < 1000) hat (by omega) (by omega) hi
    refine ⟨4, (tx.length : Int) + 20 + ((jl_nt v).length : Int), rsz st (((cs ++ [c]).length : Int) - 1) ((cs ++ [c]).length : Int) 1, ins dp ((jK_all S K 0 (cs ++ [c])).length : Int) 1 ((jK_all S K 0 (cs ++ [c])).length : Int), ins tp0 ((jK_all S K 0 (cs ++ [c])).length : Int) (tp : Int) ((jK_all S K 0 (cs ++ [c])).length : Int), jk_up (ins va ((jK_all S K 0 (cs ++ [c])).length : Int) (v : Int) ((jK_all S K 0 (cs ++ [c])).length : Int)) ((jK_all S K 0 (cs ++ [c])).length : Int) ((v : Int) / 10 * 10), jk_up (ins nb ((jK_all S K 0 (cs ++ [c])).length : Int) 0 ((jK_all S K 0 (cs ++ [c])).length : Int)) ((jK_all S K 0 (cs ++ [c])).length : Int) 1, ins g ((jK_all S K 0 (cs ++ [c])).length : Int) (((cs ++ [c]).length : Int) - 1) ((jK_all S K 0 (cs ++ [c])).length : Int), ?_, pG_ins hG (by omega) ⟨by omega, by omega⟩, fun n => ?_⟩
    · rw [all_w, hsz1]
      have hC1 : jC (jK_all S1 K1 0 (cs ++ [c])) S1 (cs ++ [c]).length ((cs ++ [c]).length : Int) (((jK_all S K 0 (cs ++ [c])).length : Int) + 1) (rsz st (((cs ++ [c]).length : Int) - 1) ((cs ++ [c]).length : Int) 1) (ins dp ((jK_all S K 0 (cs ++ [c])).length : Int) 1 ((jK_all S K 0 (cs ++ [c])).length : Int)) (ins tp0 ((jK_all S K 0 (cs ++ [c])).length : Int) (tp : Int) ((jK_all S K 0 (cs ++ [c])).length : Int)) (ins va ((jK_all S K 0 (cs ++ [c])).length : Int) (v : Int) ((jK_all S K 0 (cs ++ [c])).length : Int)) (ins nb ((jK_all S K 0 (cs ++ [c])).length : Int) 0 ((jK_all S K 0 (cs ++ [c])).length : Int)) (ins g ((jK_all S K 0 (cs ++ [c])).length : Int) (((cs ++ [c]).length : Int) - 1) ((jK_all S K 0 (cs ++ [c])).length : Int)) := by
        rw [eL]
        exact C_snoc hC hoth (hsp 0).2 rfl (by omega) rfl htp1.symm hkv.symm hnb
      refine C_w hC1 hN1.2.2.2.1.1 hlast (pI_vn hC1.1 ⟨by omega, by omega⟩ (by decide) (by rw [show pw 1 = 10 from rfl]; omega)) ?_ ?_ (up_eq rfl) (fun j hj => ⟨rfl, up_ne hj, up_ne hj⟩)
      · rw [htp1]; exact ins_e rfl
      · rw [up_eq rfl, ← w_kv_s (S := S1) (x := x) (t := jS_tp S1 x), hkvw]
    · rw [(hsp n).1, l2, all_w, hsz1, show (tx.length : Int) + 21 + ((jl_nt v).length : Int) = (tx.length : Int) + (21 + ((jl_nt v).length : Int)) by omega]
