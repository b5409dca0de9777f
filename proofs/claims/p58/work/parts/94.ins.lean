/-! a cord more: what the listing and the columns become -/
section FI2
variable {cl sz tn : Int} {st dp tp va nb g : Int → Int}
theorem f_1 (I : pI cl sz tn st dp tp va nb g) {c t v : Int} (hc : 0 ≤ c) (hc2 : c < cl) (ht : 0 ≤ t ∧ t < tn) (hv : 0 ≤ v ∧ v ≤ 9999) (hs : sz < 40) : fn_KR_perform cl sz st dp tp va nb 1 c t v = some (st (c + 1), cl, sz + 1, rsz st c cl 1, ins dp (st (c + 1)) 1 sz, ins tp (st (c + 1)) t sz, ins va (st (c + 1)) v sz, ins nb (st (c + 1)) 0 sz) ∧ pI cl (sz + 1) tn (rsz st c cl 1) (ins dp (st (c + 1)) 1 sz) (ins tp (st (c + 1)) t sz) (ins va (st (c + 1)) v sz) (ins nb (st (c + 1)) 0 sz) (ins g (st (c + 1)) c sz) := by
  have hcl := I.1.1
  have hsz := I.1.2.1
  have s1 := pI_st I (c := c) hc (by omega)
  have s2 := pI_st I (c := c + 1) (by omega) (by omega)
  have hm := I.2.1.2.2 c hc hc2
  constructor
  · unfold fn_KR_perform
    (try simp (disch := omega) only [↓zk_lt, ↓zk_nl, ↓zk_eq, ↓zk_ne, ↓zk_ix, ↓zk_dv, ↓zk_bo, ↓zk_rg, ↓zk_get, ↓zk_set, Option.bind_some])
    rw [zk_bd (sp_end I hc hc2), zk_bd (sp_cins I hs (by omega) (by omega) hc (by omega))]
  · refine pI_ins I hs hc hc2 hm (by omega) (by omega) ht hv (fun _ => by omega) (fun h => ⟨by omega, ?_⟩) (fun h => by omega)
    have := (I.2.2 (st (c + 1) - 1) (by omega) (by omega)).2.1
    omega
theorem f_2 (I : pI cl sz tn st dp tp va nb g) {k t v : Int} (h0 : 0 ≤ k) (h1 : k < sz) (hd : 1 ≤ dp k ∧ dp k < 3) (ht : 0 ≤ t ∧ t < tn) (hv : 0 ≤ v ∧ v ≤ 9999) (hs : sz < 40) : fn_KR_perform cl sz st dp tp va nb 2 k t v = some (be sz dp k, cl, sz + 1, rsz st (g k) cl 1, ins dp (be sz dp k) (dp k + 1) sz, ins tp (be sz dp k) t sz, ins va (be sz dp k) v sz, ins nb (be sz dp k) 0 sz) ∧ pI cl (sz + 1) tn (rsz st (g k) cl 1) (ins dp (be sz dp k) (dp k + 1) sz) (ins tp (be sz dp k) t sz) (ins va (be sz dp k) v sz) (ins nb (be sz dp k) 0 sz) (ins g (be sz dp k) (g k) sz) := by
  have hcl := I.1.1
  have hsz := I.1.2.1
  obtain ⟨⟨g1, g2, g3, g4⟩, gd, -, -, -, -, gs1, gs2⟩ := I.2.2 k h0 h1
  obtain ⟨⟨b1, b2⟩, b3, b4⟩ := be_r I h0 h1
  have hle := be_le I h0 h1
  have s2 := pI_st I (c := g k + 1) (by omega) (by omega)
  constructor
  · unfold fn_KR_perform
    (try simp (disch := omega) only [↓zk_lt, ↓zk_nl, ↓zk_eq, ↓zk_ne, ↓zk_ix, ↓zk_dv, ↓zk_bo, ↓zk_rg, ↓zk_get, ↓zk_set, Option.bind_some])
    rw [zk_bd (sp_be I h0 h1), zk_bd (sp_ca I h0 h1)]
    (try simp (disch := omega) only [↓zk_lt, ↓zk_nl, ↓zk_eq, ↓zk_ne, ↓zk_ix, ↓zk_dv, ↓zk_bo, ↓zk_rg, ↓zk_get, ↓zk_set, Option.bind_some])
    rw [zk_bd (sp_cins I hs (by omega) (by omega) (by omega) (by omega))]
  · refine pI_ins I hs g1 g2 (by omega) hle (by omega) ht hv (fun h => by omega) (fun h => ⟨by omega, ?_⟩) (fun h => ?_)
    · by_cases x : be sz dp k - 1 = k
      · rw [x]; omega
      · have := b3 (be sz dp k - 1) (by omega) (by omega)
        omega
    · have hg := pI_g I (c := g k) (k := be sz dp k) g1 g2 (by omega) h
      obtain ⟨-, -, -, -, -, -, -, c2⟩ := I.2.2 (be sz dp k) (by omega) (by omega)
      have := c2 (by rw [hg]; omega)
      have := b4 (by omega) (by omega)
      omega
theorem f_4 (I : pI cl sz tn st dp tp va nb g) {c t : Int} (hc : 0 ≤ c) (hc2 : c < cl) (htt : 0 ≤ t ∧ t < tn) (h1 : ht st dp c = 0) (h2 : st c < st (c + 1)) (hk : ks st dp va c ≤ 9999) (hs : sz < 40) (C : Int) : fn_KR_perform cl sz st dp tp va nb 4 c t C = some (ks st dp va c, cl, sz + 1, rsz st c cl 1, ins dp (st c) 0 sz, ins tp (st c) t sz, ins va (st c) (ks st dp va c) sz, ins nb (st c) 0 sz) ∧ pI cl (sz + 1) tn (rsz st c cl 1) (ins dp (st c) 0 sz) (ins tp (st c) t sz) (ins va (st c) (ks st dp va c) sz) (ins nb (st c) 0 sz) (ins g (st c) c sz) := by
  have hcl := I.1.1
  have hsz := I.1.2.1
  have s1 := pI_st I (c := c) hc (by omega)
  have s2 := pI_st I (c := c + 1) (by omega) (by omega)
  have hkr := ks_r I hc hc2
  have hsum : fn_Cords_sum st dp va c = some (ks st dp va c) := sp_sum I hc hc2
  constructor
  · unfold fn_KR_perform fn_Cords_tie
    (try simp (disch := omega) only [↓zk_lt, ↓zk_nl, ↓zk_eq, ↓zk_ne, ↓zk_ix, ↓zk_dv, ↓zk_bo, ↓zk_rg, ↓zk_get, ↓zk_set, Option.bind_some])
    rw [zk_bd hsum, zk_bd (sp_start I hc (by omega)), zk_bd (sp_cins I hs (by omega) (by omega) hc (by omega))]
    rfl
  · refine pI_ins I hs hc hc2 (by omega) (by omega) (by omega) htt ⟨hkr.1, hk⟩ (fun h => by omega) (fun h => by omega) (fun h => ?_)
    have hg := pI_g I (c := c) (k := st c) hc hc2 (by omega) h2
    obtain ⟨-, c1, -, -, -, -, c2, -⟩ := I.2.2 (st c) (by omega) (by omega)
    have := c2 (by rw [hg])
    have h4 : ¬ dp (st c) = 0 := fun q => by
      unfold ht at h1
      rw [if_pos ⟨h2, q⟩] at h1
      omega
    omega
end FI2
section NW
variable {S : jl_S} {K K' : jl_K} {cs : List Nat} {x kk b : Nat} {f : Int → Int} {t : Int} {A B : List (Nat × Nat × Nat)} {d c : Nat}
theorem lo_c {p : Nat × Nat × Nat} {L : List (Nat × Nat × Nat)} : jl_lo (p :: L) = p.1 :: jl_lo L := rfl
theorem lo_new (hx : x ∉ jl_lo (A ++ B)) : (jl_lo (A ++ (x, d, c) :: B))[A.length]? = some x ∧ ∀ j, j < A.length → (jl_lo (A ++ (x, d, c) :: B))[j]? ≠ some x := by
  have hl : (jl_lo A).length = A.length := jl_lo_len A
  rw [lo_app, lo_c]
  refine ⟨?_, fun j hj e => ?_⟩
  · rw [List.getElem?_append_right (by omega), hl, Nat.sub_self]
    rfl
  · rw [List.getElem?_append_left (by omega)] at e
    exact hx (by rw [lo_app]; exact List.mem_append_left _ (List.mem_of_getElem? e))
theorem lo_mi {z : Nat} : z ∈ jl_lo (A ++ (x, d, c) :: B) ↔ z ∈ jl_lo (A ++ B) ∨ z = x := by
  rw [lo_app, lo_app, lo_c, List.mem_append, List.mem_append, List.mem_cons]
  constructor
  · rintro (h | h | h)
    · exact Or.inl (Or.inl h)
    · exact Or.inr h
    · exact Or.inl (Or.inr h)
  · rintro ((h | h) | h)
    · exact Or.inl h
    · exact Or.inr (Or.inr h)
    · exact Or.inr (Or.inl h)
theorem lo_nd (hn : (jl_lo (A ++ B)).Nodup) (hx : x ∉ jl_lo (A ++ B)) : (jl_lo (A ++ (x, d, c) :: B)).Nodup := by
  rw [lo_app] at hn hx
  rw [List.mem_append, not_or] at hx
  obtain ⟨n1, n2, n3⟩ := List.nodup_append.mp hn
  rw [lo_app, lo_c, List.nodup_append]
  refine ⟨n1, List.nodup_cons.mpr ⟨hx.2, n2⟩, fun a ha b hb e => ?_⟩
  rcases List.mem_cons.mp hb with hb | hb
  · exact hx.1 (by
      have h1 : b = x := hb
      rw [← h1, ← e]
      exact ha)
  · exact n3 a ha b hb e
theorem nS_ch {y : Nat} (h : y ≠ x) : jS_ch (jS_n S x kk b f t) y = jS_ch S y := if_neg h
theorem nS_x : jS_ch (jS_n S x kk b f t) x = [] := if_pos rfl
theorem nS_v {y : Nat} (h : y ≠ x) : jS_tp (jS_n S x kk b f t) y = jS_tp S y ∧ jS_kv (jS_n S x kk b f t) y = jS_kv S y ∧ jS_nb (jS_n S x kk b f t) y = jS_nb S y := ⟨if_neg h, n_kv_o h, if_neg h⟩
theorem nS_d {L' : List (Nat × Nat × Nat)} (T : jT S K cs) (hL : ∀ z, z ∈ jl_lo L' ↔ z ∈ jl_lo (jK_all S K 0 cs) ∨ z = x) (hf : ∀ i : Int, 0 ≤ i → i < 4 → 0 ≤ f i ∧ f i ≤ 9) {S' : jl_S} (he : jS_dg S' = jS_dg (jS_n S x kk b f t)) : jV_d S' (fun z => z ∈ jl_lo L') := fun z hz i h0 h4 => by
  rw [he]
  show 0 ≤ (if z = x then f else jS_dg S z) i ∧ (if z = x then f else jS_dg S z) i ≤ 9
  by_cases e : z = x
  · rw [if_pos e]; exact hf i h0 h4
  · rw [if_neg e]; exact T.2.2.2.2.2.2 z (((hL z).mp hz).resolve_right e) i h0 h4
end NW
theorem jO_addPendant_N : jO_addPendant jN := by
  intro σ S K P cs h j cu hj hlen tp va htp hva x kk b hPx hxc
  obtain ⟨⟨g, hC⟩, ⟨h10, h18, h19⟩, hG, hT, hP⟩ := h
  have hxL : x ∉ jl_lo (jK_all S K 0 cs) := fun z => hPx ((hP x).mpr z)
  have I := hC.1
  have hjl : j < cs.length := (List.getElem?_eq_some_iff.mp hj).1
  have hcm : cu ∈ cs := List.mem_of_getElem? hj
  have hcl := hC.2.1
  have hcl6 := I.1.1
  have hsz := hC.2.2.1
  have k0 : (0 : Int) ≤ (j : Int) := by omega
  have k1 : (j : Int) < σ.S 11 := by omega
  have hcc := hT.cl
  have heq : ∀ a, a ∈ jl_lo (jK_all S K 0 cs) → jS_ch (jS_n S x kk b (jl_dgs (fun _ => 0) (va : Int)) (tp : Int)) a = jS_ch S a := fun a ha => nS_ch (fun z => hxL (z ▸ ha))
  have hclS : ∀ v ∈ cs, jK_cl (jS_n S x kk b (jl_dgs (fun _ => 0) (va : Int)) (tp : Int)) K v = jK_cl S K v := fun v hv => cl_P (P := fun a => a ∈ jl_lo (jK_all S K 0 cs)) hcc heq (fun b hb => pd_in hv hb) (fun t ht => tp_in hv ht)
  obtain ⟨pre, post, h1, h2, h3, h4⟩ := all_up (S := S) (K := K) (S' := jS_n S x kk b (jl_dgs (fun _ => 0) (va : Int)) (tp : Int)) (K' := jK_p K cu (jK_pd K cu ++ [x])) cs 0 j cu hT.2.1 hj (fun v hv hne => by
    rw [← hclS v hv]
    exact cl_K rfl (if_neg hne))
  rw [Nat.zero_add] at h1 h2 h3 h4
  have hcu : jK_cl (jS_n S x kk b (jl_dgs (fun _ => 0) (va : Int)) (tp : Int)) (jK_p K cu (jK_pd K cu ++ [x])) cu = jK_cl S K cu ++ [(x, 1)] := by
    rw [← hclS cu hcm]
    unfold jK_cl
    rw [show jK_pd (jK_p K cu (jK_pd K cu ++ [x])) cu = jK_pd K cu ++ [x] from if_pos rfl, List.flatMap_append, List.append_assoc]
    rw [show ([x].flatMap fun b_1 => jS_fl (jS_n S x kk b (jl_dgs (fun _ => 0) (va : Int)) (tp : Int)) 3 b_1 1) = [(x, 1)] by
      show ((x, 1) :: (jS_ch (jS_n S x kk b (jl_dgs (fun _ => 0) (va : Int)) (tp : Int)) x).flatMap _) ++ [] = _
      rw [nS_x]
      rfl]
    rfl
  rw [hcu, List.map_append, ← List.append_assoc, ← List.append_assoc, List.append_assoc (pre ++ _)] at h2
  rw [← List.append_assoc] at h1
  generalize hA : pre ++ (jK_cl S K cu).map (fun p => (p.1, p.2, j)) = A at h1 h2
  have h2 : jK_all (jS_n S x kk b (jl_dgs (fun _ => 0) (va : Int)) (tp : Int)) (jK_p K cu (jK_pd K cu ++ [x])) 0 cs = A ++ (x, 1, j) :: post := h2
  have hst := st_at hC (c := j + 1) (by omega) h1 (fun p hp => by
    rw [← hA] at hp
    rcases List.mem_append.mp hp with hp | hp
    · have := h3 p hp
      omega
    · obtain ⟨q, _, rfl⟩ := List.mem_map.mp hp
      exact Nat.lt_succ_self _) (fun p hp => h4 p hp)
  rw [show ((j + 1 : Nat) : Int) = (j : Int) + 1 by omega] at hst
  obtain ⟨w, H⟩ := pC_of I hG
  have hpb := pb_1 H (c := (j : Int)) (t := (tp : Int)) (v := (va : Int)) ⟨by omega, by omega⟩ ⟨by omega, by omega⟩ ⟨by omega, by omega⟩
  rw [if_pos ⟨⟨k0, k1⟩, ⟨by omega, by omega⟩⟩, if_pos ⟨by omega, by omega⟩, if_pos (by omega)] at hpb
  obtain ⟨hf, hI⟩ := f_1 I k0 k1 (t := (tp : Int)) (v := (va : Int)) ⟨by omega, by omega⟩ ⟨by omega, by omega⟩ (by omega)
  obtain ⟨z, hz, hr, hN⟩ := act_of h10 h18 h19 hpb hf
  have hxA : x ∉ jl_lo (A ++ post) := by rw [← h1]; exact hxL
  have hL : ∀ z, z ∈ jl_lo (A ++ (x, 1, j) :: post) ↔ z ∈ jl_lo (jK_all S K 0 cs) ∨ z = x := fun z => by rw [h1]; exact lo_mi
  refine ⟨z, A.length, ?_, by rw [hr, hst], ?_, ?_, ?_⟩
  · unfold jf_addPendant fn_KR_addPendant
    exact cx_id.trans hz
  · rw [h2]; exact (lo_new hxA).1
  · rw [h2]; exact (lo_new hxA).2
  · refine hN _ _ _ _ ⟨ins g (σ.T 3 ((j : Int) + 1)) (j : Int) (σ.S 12), ?_⟩ (pG_ins hG (by omega) ⟨by omega, by omega⟩) ?_ (fun z => by rw [h2, hL, hP])
    · rw [h2]
      rw [h1] at hC
      exact C_ins hC (fun p hp => nS_v (fun e => hxL (by rw [h1]; exact lo_m.mpr ⟨p.2.1, p.2.2, by rw [← e]; exact hp⟩))) hI hst rfl rfl (if_pos rfl).symm (by rw [n_kv_s, kv_dgs ⟨by omega, by omega⟩]) (if_pos rfl)
    · obtain ⟨t1, t2, t3, t4, t5, t6, t7⟩ := id hT
      unfold jT
      rw [h2]
      refine ⟨lo_nd (by rw [← h1]; exact t1) hxA, t2, t3, fun u hu t ht => ?_, fun u hu => ⟨fun y hy => ?_, fun t ht => ?_⟩, fun y hy => ?_, nS_d hT hL (fun i h0 h4 => dgs_r (by omega) h0 h4) rfl⟩
      · rw [heq t (tp_in hu ht)]
        exact t4 u hu t ht
      · by_cases e : u = cu
        · rw [e, show jK_pd (jK_p K cu (jK_pd K cu ++ [x])) cu = jK_pd K cu ++ [x] from if_pos rfl] at hy
          rcases List.mem_append.mp hy with hy | hy
          · exact hgt_P (P := fun a => a ∈ jl_lo (jK_all S K 0 cs)) hcc heq 3 y (pd_in hcm hy) ((t5 cu hcm).1 y hy)
          · rw [List.mem_singleton.mp hy]
            intro b2 hb2
            rw [nS_x] at hb2
            exact absurd hb2 List.not_mem_nil
        · rw [show jK_pd (jK_p K cu (jK_pd K cu ++ [x])) u = jK_pd K u from if_neg e] at hy
          exact hgt_P (P := fun a => a ∈ jl_lo (jK_all S K 0 cs)) hcc heq 3 y (pd_in hu hy) ((t5 u hu).1 y hy)
      · exact hgt_P (P := fun a => a ∈ jl_lo (jK_all S K 0 cs)) hcc heq 3 t (tp_in hu ht) ((t5 u hu).2 t ht)
      · rcases (hL y).mp hy with hy | hy
        · exact t6 y hy
        · rw [hy]; exact hxc
theorem jO_tieTop_N : jO_tieTop jN := by
  intro σ S K P cs h j cu hj htn hpd hnb hsm hlen tp htp x kk b hPx hxc
  obtain ⟨⟨g, hC⟩, ⟨h10, h18, h19⟩, hG, hT, hP⟩ := h
  have hxL : x ∉ jl_lo (jK_all S K 0 cs) := fun z => hPx ((hP x).mpr z)
  have I := hC.1
  have hjl : j < cs.length := (List.getElem?_eq_some_iff.mp hj).1
  have hcm : cu ∈ cs := List.mem_of_getElem? hj
  have hcl := hC.2.1
  have hcl6 := I.1.1
  have hsz := hC.2.2.1
  have k0 : (0 : Int) ≤ (j : Int) := by omega
  have k1 : (j : Int) < σ.S 11 := by omega
  have htu := hT.2.2.2.1 cu hcm
  have hcc := hT.cl
  have hks := ks_cl hC htu hj
  have hkn := kn_cl hC htu hj
  have hht := ht_cl hC htu hj
  have hkr := ks_r I k0 k1
  rw [cl_tn htn] at hht
  have hht : ht (σ.T 3) (σ.T 4) (j : Int) = 0 := hht
  generalize hv : jK_sum S K cu = v at hks hsm ⊢
  have heq : ∀ a, a ∈ jl_lo (jK_all S K 0 cs) → jS_ch (jS_n S x kk b (jl_dgs (fun _ => 0) v) (tp : Int)) a = jS_ch S a := fun a ha => nS_ch (fun z => hxL (z ▸ ha))
  have hclS : ∀ v' ∈ cs, jK_cl (jS_n S x kk b (jl_dgs (fun _ => 0) v) (tp : Int)) K v' = jK_cl S K v' := fun v hv => cl_P (P := fun a => a ∈ jl_lo (jK_all S K 0 cs)) hcc heq (fun b hb => pd_in hv hb) (fun t ht => tp_in hv ht)
  obtain ⟨pre, post, h1, h2, h3, h4⟩ := all_up (S := S) (K := K) (S' := jS_n S x kk b (jl_dgs (fun _ => 0) v) (tp : Int)) (K' := jK_t K cu (some x)) cs 0 j cu hT.2.1 hj (fun v hv hne => by
    rw [← hclS v hv]
    exact cl_K (if_neg hne) rfl)
  rw [Nat.zero_add] at h1 h2 h3 h4
  have hcu : jK_cl (jS_n S x kk b (jl_dgs (fun _ => 0) v) (tp : Int)) (jK_t K cu (some x)) cu = (x, 0) :: jK_cl S K cu := by
    rw [← hclS cu hcm]
    unfold jK_cl
    rw [cl_top nS_x (show jK_tp (jK_t K cu (some x)) cu = some x from if_pos rfl), cl_tn htn]
    rfl
  rw [hcu] at h2
  have h2 : jK_all (jS_n S x kk b (jl_dgs (fun _ => 0) v) (tp : Int)) (jK_t K cu (some x)) 0 cs = pre ++ (x, 0, j) :: ((jK_cl S K cu).map (fun p => (p.1, p.2, j)) ++ post) := h2
  have hst := st_at hC (c := j) (by omega) h1 (fun p hp => h3 p hp) (fun p hp => by
    rcases List.mem_append.mp hp with hp | hp
    · obtain ⟨q, _, rfl⟩ := List.mem_map.mp hp
      exact Nat.le_refl _
    · exact Nat.le_of_lt (h4 p hp))
  obtain ⟨pre2, post2, q1, q2, q3⟩ := st_blk hC hj
  have hne : (jK_pd K cu).length ≤ (jK_cl S K cu).length := by
    have : (jK_pd K cu).length ≤ ((jK_pd K cu).flatMap (fun b => jS_fl S 3 b 1)).length := fo_len (S := S) (D := 2) (e := 1) (jK_pd K cu)
    rw [show jK_cl S K cu = jK_tl S K cu ++ (jK_pd K cu).flatMap (fun b => jS_fl S 3 b 1) from rfl, List.length_append]
    omega
  have hlt : σ.T 3 (j : Int) < σ.T 3 ((j : Int) + 1) := by omega
  obtain ⟨w, H⟩ := pC_of I hG
  have htie : ktie (σ.S 12) (σ.T 3) (σ.T 4) (σ.T 6) (σ.T 7) (j : Int) := by
    refine ⟨hht, hlt, by omega, ?_, by omega⟩
    unfold kw
    rw [hht, Int.add_zero]
    exact hkn.trans hnb
  obtain ⟨p, hpb, hpp⟩ := pb_4 H (c := (j : Int)) (t := (tp : Int)) ⟨by omega, by omega⟩ ⟨by omega, by omega⟩ 0
  have hp0 : p = 0 := by
    rcases hpp with ⟨-, hb⟩ | ⟨-, ⟨hb, -⟩ | ⟨-, hb⟩⟩
    · exact absurd ⟨⟨k0, k1⟩, ⟨by omega, by omega⟩⟩ hb
    · exact hb
    · exact absurd htie hb
  rw [hp0] at hpb
  obtain ⟨hf, hI⟩ := f_4 I k0 k1 (t := (tp : Int)) ⟨by omega, by omega⟩ hht hlt (by omega) (by omega) 0
  obtain ⟨z, hz, hr, hN⟩ := act_of h10 h18 h19 hpb hf
  have hxA : x ∉ jl_lo (pre ++ ((jK_cl S K cu).map (fun p => (p.1, p.2, j)) ++ post)) := by rw [← h1]; exact hxL
  have hL : ∀ z, z ∈ jl_lo (pre ++ (x, 0, j) :: ((jK_cl S K cu).map (fun p => (p.1, p.2, j)) ++ post)) ↔ z ∈ jl_lo (jK_all S K 0 cs) ∨ z = x := fun z => by rw [h1]; exact lo_mi
  refine ⟨z, ?_, by rw [hr, hks], ?_⟩
  · unfold jf_tieTop fn_KR_tieTop
    exact cx_id.trans hz
  · refine hN _ _ _ _ ⟨ins g (σ.T 3 (j : Int)) (j : Int) (σ.S 12), ?_⟩ (pG_ins hG (by omega) ⟨by omega, by omega⟩) ?_ (fun z => by rw [h2, hL, hP])
    · rw [h2]
      rw [h1] at hC
      exact C_ins hC (fun p hp => nS_v (fun e => hxL (by rw [h1]; exact lo_m.mpr ⟨p.2.1, p.2.2, by rw [← e]; exact hp⟩))) hI hst rfl rfl (if_pos rfl).symm (by rw [n_kv_s, kv_dgs ⟨by omega, by omega⟩, hks]) (if_pos rfl)
    · obtain ⟨t1, t2, t3, t4, t5, t6, t7⟩ := id hT
      unfold jT
      rw [h2]
      have hTp : ∀ u, jK_tp (jK_t K cu (some x)) u = if u = cu then some x else jK_tp K u := fun _ => rfl
      refine ⟨lo_nd (by rw [← h1]; exact t1) hxA, t2, t3, fun u hu t ht => ?_, fun u hu => ⟨fun y hy => ?_, fun t ht => ?_⟩, fun y hy => ?_, nS_d hT hL (fun i h0 h4 => dgs_r (by omega) h0 h4) rfl⟩
      · rw [hTp] at ht
        by_cases e : u = cu
        · rw [if_pos e] at ht
          rw [← Option.some.inj ht]
          exact nS_x
        · rw [if_neg e] at ht
          rw [heq t (tp_in hu ht)]
          exact t4 u hu t ht
      · exact hgt_P (P := fun a => a ∈ jl_lo (jK_all S K 0 cs)) hcc heq 3 y (pd_in hu hy) ((t5 u hu).1 y hy)
      · rw [hTp] at ht
        by_cases e : u = cu
        · rw [if_pos e] at ht
          rw [← Option.some.inj ht]
          intro b2 hb2
          rw [nS_x] at hb2
          exact absurd hb2 List.not_mem_nil
        · rw [if_neg e] at ht
          exact hgt_P (P := fun a => a ∈ jl_lo (jK_all S K 0 cs)) hcc heq 3 t (tp_in hu ht) ((t5 u hu).2 t ht)
      · rcases (hL y).mp hy with hy | hy
        · exact t6 y hy
        · rw [hy]; exact hxc
