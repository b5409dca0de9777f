/-! the acts that change one cord's cells; a new cluster; a repair -/
section OW
variable {S S' : jl_S} {K K' : jl_K} {P : Nat → Prop} {cs : List Nat}
theorem all_w {x c0 : Nat} {f : Int → Int} {t b : Int} : jK_all (jS_w S x f t b) K c0 cs = jK_all S K c0 cs := all_cg cs c0 (fun _ _ => cl_P (S := S) (P := fun _ => True) (fun _ _ _ _ => trivial) (fun _ _ => rfl) (fun _ _ => trivial) (fun _ _ => trivial))
theorem T_w (T : jT S K cs) {x : Nat} {f : Int → Int} {t b : Int} (hf : ∀ i : Int, 0 ≤ i → i < 4 → 0 ≤ f i ∧ f i ≤ 9) : jT (jS_w S x f t b) K cs := by
  obtain ⟨t1, t2, t3, t4, t5, t6, t7⟩ := T
  have hh : ∀ (D a : Nat), jS_hgt S D a → jS_hgt (jS_w S x f t b) D a := fun D a => hgt_P (S := S) (S' := jS_w S x f t b) (P := fun _ => True) (fun _ _ _ _ => trivial) (fun _ _ => rfl) D a trivial
  unfold jT
  rw [all_w]
  refine ⟨t1, t2, t3, t4, fun cu hc => ⟨fun b hb => hh 3 b ((t5 cu hc).1 b hb), fun t ht => hh 3 t ((t5 cu hc).2 t ht)⟩, t6, fun y hy i h0 h4 => ?_⟩
  show 0 ≤ (if y = x then f else jS_dg S y) i ∧ (if y = x then f else jS_dg S y) i ≤ 9
  by_cases e : y = x
  · rw [if_pos e]; exact hf i h0 h4
  · rw [if_neg e]; exact t7 y hy i h0 h4
theorem cl_K {cu : Nat} (h1 : jK_tp K' cu = jK_tp K cu) (h2 : jK_pd K' cu = jK_pd K cu) : jK_cl S K' cu = jK_cl S K cu := by
  unfold jK_cl jK_tl
  rw [h1, h2]
end OW
theorem jO_dye_N : jO_dye jN := by
  intro σ S K P cs h k x d c hk t ht
  obtain ⟨⟨g, hC⟩, ⟨h10, h18, h19⟩, hG, hT, hP⟩ := h
  have I := hC.1
  have hkl : k < (jK_all S K 0 cs).length := (List.getElem?_eq_some_iff.mp hk).1
  have hsz := hC.2.2.1
  have h40 := I.1.2.1
  have k0 : (0 : Int) ≤ (k : Int) := by omega
  have k1 : (k : Int) < σ.S 12 := by omega
  obtain ⟨c1, c2, c3, c4, c5⟩ := hC.2.2.2 k _ hk
  obtain ⟨w, H⟩ := pC_of I hG
  have hpb := pb_7 H (k := (k : Int)) (t := (t : Int)) ⟨by omega, by omega⟩ ⟨by omega, by omega⟩ 0
  rw [if_pos ⟨⟨k0, k1⟩, ⟨by omega, by omega⟩⟩] at hpb
  obtain ⟨z, hz, hr, hN⟩ := act_of h10 h18 h19 hpb (f_7 I k0 k1 0)
  refine ⟨z, ?_, ?_, ?_⟩
  · unfold jf_dye fn_KR_dye
    exact cx_id.trans hz
  · rw [hr]; exact c3
  · refine hN _ _ _ _ ⟨g, ?_⟩ hG (T_w hT (hT.2.2.2.2.2.2 x (lo_k hk))) (by rw [all_w]; exact hP)
    rw [all_w]
    exact C_w hC hT.1 hk (pI_tp I ⟨by omega, by omega⟩) (up_eq rfl) c4 c5 (fun j hj => ⟨up_ne hj, rfl, rfl⟩)
theorem jO_setKnots_N : jO_setKnots jN := by
  intro σ S K P cs h k x d c hk pl kn hpl hkn hnb
  obtain ⟨⟨g, hC⟩, ⟨h10, h18, h19⟩, hG, hT, hP⟩ := h
  have I := hC.1
  have hkl : k < (jK_all S K 0 cs).length := (List.getElem?_eq_some_iff.mp hk).1
  have hsz := hC.2.2.1
  have h40 := I.1.2.1
  have k0 : (0 : Int) ≤ (k : Int) := by omega
  have k1 : (k : Int) < σ.S 12 := by omega
  obtain ⟨c1, c2, c3, c4, c5⟩ := hC.2.2.2 k _ hk
  dsimp only at c3 c4 c5
  obtain ⟨-, -, -, hv, hb, hd, -⟩ := I.2.2 (k : Int) k0 k1
  obtain ⟨w, H⟩ := pC_of I hG
  have hpb := pb_5 H (k := (k : Int)) (y := (pl : Int)) (x := (kn : Int)) ⟨by omega, by omega⟩ ⟨by omega, by omega⟩ ⟨by omega, by omega⟩
  rw [if_pos ⟨k0, k1⟩, if_pos ⟨⟨by omega, by omega⟩, ⟨by omega, by omega⟩⟩, if_pos (by omega)] at hpb
  obtain ⟨z, hz, hr, hN⟩ := act_of h10 h18 h19 hpb (f_5 I k0 k1 ⟨by omega, by omega⟩ ⟨by omega, by omega⟩ (by omega))
  have hdg := hT.2.2.2.2.2.2 x (lo_k hk)
  have hs := setk hv (x := (kn : Int)) ⟨by omega, by omega⟩ (y := (pl : Int)) ⟨by omega, by omega⟩ ⟨hb.1, by omega⟩ hd
  have hkd : σ.T 6 (k : Int) / pw (pl : Int) % 10 = jS_dg S x (pl : Int) := by
    rw [c4]
    exact kv_dg hdg (by omega) hpl hnb
  refine ⟨z, ?_, ?_, ?_⟩
  · unfold jf_setKnots fn_KR_setKnots
    exact cx_id.trans hz
  · rw [hr]; exact hkd
  · refine hN _ _ _ _ ⟨g, ?_⟩ hG (T_w hT (fun i h0 h4 => ?_)) (by rw [all_w]; exact hP)
    · rw [all_w]
      refine C_w hC hT.1 hk (pI_v I k0 k1 hs.1 hs.2) c3 ?_ c5 (fun j hj => ⟨rfl, up_ne hj, rfl⟩)
      rw [up_eq rfl, kv_up hpl hnb, hkd, c4]
      rfl
    · by_cases e : i = (pl : Int)
      · rw [up_eq e]; omega
      · rw [up_ne e]; exact hdg i h0 h4
theorem jO_nibble_N : jO_nibble jN := by
  intro σ S K P cs h k x d c hk pl hp1 hp4 hnb
  obtain ⟨⟨g, hC⟩, ⟨h10, h18, h19⟩, hG, hT, hP⟩ := h
  have I := hC.1
  have hkl : k < (jK_all S K 0 cs).length := (List.getElem?_eq_some_iff.mp hk).1
  have hsz := hC.2.2.1
  have h40 := I.1.2.1
  have k0 : (0 : Int) ≤ (k : Int) := by omega
  have k1 : (k : Int) < σ.S 12 := by omega
  obtain ⟨c1, c2, c3, c4, c5⟩ := hC.2.2.2 k _ hk
  dsimp only at c3 c4 c5
  obtain ⟨-, -, -, hv, hb, hd, -⟩ := I.2.2 (k : Int) k0 k1
  obtain ⟨w, H⟩ := pC_of I hG
  have hpb := pb_6 H (k := (k : Int)) (y := (pl : Int)) ⟨by omega, by omega⟩ ⟨by omega, by omega⟩ 0
  rw [if_pos ⟨k0, k1⟩, if_pos ⟨by omega, by omega⟩, if_pos (by omega)] at hpb
  obtain ⟨z, hz, hr, hN⟩ := act_of h10 h18 h19 hpb (f_6 I k0 k1 ⟨by omega, by omega⟩ 0)
  have hdg := hT.2.2.2.2.2.2 x (lo_k hk)
  have hkl := kv_lose (f := jS_dg S x) (b := jS_nb S x) hdg (by omega) ⟨hp1, hp4⟩ hnb
  have hdm := pw_dm (v := σ.T 6 (k : Int)) (d := (pl : Int)) (by omega) (by omega) hv.1
  refine ⟨z, ?_, ?_, ?_⟩
  · unfold jf_nibble fn_KR_nibble
    exact cx_id.trans hz
  · rw [hr, c4]; exact hkl.2
  · refine hN _ _ _ _ ⟨g, ?_⟩ hG (T_w hT (fun i h0 h4 => ?_)) (by rw [all_w]; exact hP)
    · rw [all_w]
      refine C_w hC hT.1 hk (pI_vn I (by omega) ⟨by omega, by omega⟩ (lose_dm (by omega) (by omega))) c3 ?_ (up_eq rfl) (fun j hj => ⟨rfl, up_ne hj, up_ne hj⟩)
      rw [up_eq rfl, c4]
      exact hkl.1
    · unfold jw_lose
      split
      · omega
      · exact hdg i h0 h4
theorem jO_repair_N : jO_repair jN := by
  intro σ S K P cs h j cu t x hj hrs htp hon
  have hpl := h.pl
  have hvd := h.vd
  obtain ⟨⟨g, hC⟩, ⟨h10, h18, h19⟩, hG, hT, hP⟩ := h
  have I := hC.1
  have hjl : j < cs.length := (List.getElem?_eq_some_iff.mp hj).1
  have hcl := hC.2.1
  have hcl6 := I.1.1
  have hsz := hC.2.2.1
  have h40 := I.1.2.1
  have k0 : (0 : Int) ≤ (j : Int) := by omega
  have k1 : (j : Int) < σ.S 11 := by omega
  have htu := hT.2.2.2.1 cu (List.mem_of_getElem? hj)
  have hob := reason_cl hC hT.1 htu hj hpl hvd
  rw [hrs] at hob
  obtain ⟨b1, b2, b3⟩ := kob_0 I k0 k1 hob
  obtain ⟨i, x', d, e1, e2, e3, e4⟩ := only_cl hC hjl b2
  cases Option.some.inj (hon.symm.trans e3)
  have hgv := guess_cl hC hT.1 htu hj htp b2 hon
  obtain ⟨w, H⟩ := pC_of I hG
  have hpb := pb_8 H (c := (j : Int)) ⟨by omega, by omega⟩ 0 0
  rw [if_pos ⟨k0, k1⟩, if_pos hob] at hpb
  have hf := f_8 I k0 k1 hob 0 0
  obtain ⟨z, hz, hr, hN⟩ := act_of h10 h18 h19 hpb hf
  obtain ⟨c1, c2, c3, c4, c5⟩ := hC.2.2.2 i _ e2
  rw [hgv] at b3 hr hN
  rw [e1] at hN
  refine ⟨z, ?_, hr, ⟨by omega, by omega⟩, ?_⟩
  · unfold jf_repair fn_KR_repair
    exact cx_id.trans hz
  · refine hN _ _ _ _ ⟨g, ?_⟩ hG (T_w hT (fun i h0 h4 => dgs_r b3.1 h0 h4)) (by rw [all_w]; exact hP)
    rw [all_w]
    refine C_w hC hT.1 e2 (pI_vn I b3 (by omega) (by simp [pw])) c3 ?_ (up_eq rfl) (fun j hj => ⟨rfl, up_ne hj, up_ne hj⟩)
    rw [up_eq rfl, kv_dgs b3]
theorem jO_addCluster_N : jO_addCluster jN := by
  intro σ S K P cs h hlt c b hc hPc
  obtain ⟨⟨g, hC⟩, ⟨h10, h18, h19⟩, hG, hT, hP⟩ := h
  have I := hC.1
  have hcl := hC.2.1
  obtain ⟨w, H⟩ := pC_of I hG
  have hpb := pb_0 H 0 0 0
  rw [if_pos (by omega)] at hpb
  obtain ⟨z, hz, hr, hN⟩ := act_of h10 h18 h19 hpb (f_0 I (by omega) 0 0 0)
  have hne : ∀ u ∈ cs, u ≠ c := fun u hu e => hc (e ▸ hu)
  have eT : ∀ u, u ≠ c → jK_tp (jK_n K c b) u = jK_tp K u := fun u hu => if_neg hu
  have eD : ∀ u, u ≠ c → jK_pd (jK_n K c b) u = jK_pd K u := fun u hu => if_neg hu
  have eL : jK_all S (jK_n K c b) 0 (cs ++ [c]) = jK_all S K 0 cs := by
    rw [jK_all_app, all_cg cs 0 (fun u hu => cl_K (eT u (hne u hu)) (eD u (hne u hu)))]
    have e : jK_cl S (jK_n K c b) c = [] := by
      unfold jK_cl jK_tl
      rw [show jK_tp (jK_n K c b) c = none from if_pos rfl, show jK_pd (jK_n K c b) c = [] from if_pos rfl]
      rfl
    rw [jK_all, e]
    show _ ++ ([] ++ []) = _
    rw [List.append_nil, List.append_nil]
  refine ⟨z, ?_, ?_, ?_⟩
  · unfold jf_addCluster fn_KR_addCluster
    exact cx_id.trans hz
  · rw [hr]; exact hcl
  · obtain ⟨t1, t2, t3, t4, t5, t6, t7⟩ := hT
    refine hN _ _ _ _ ⟨g, ?_⟩ hG ?_ (by rw [eL]; exact hP)
    · rw [eL]
      exact ⟨pI_cl I (by omega), by rw [List.length_append, List.length_singleton]; omega, hC.2.2.1, hC.2.2.2⟩
    · unfold jT
      rw [eL]
      refine ⟨t1, ?_, by rw [List.length_append]; omega, fun u hu t ht => ?_, fun u hu => ?_, fun x hx => ?_, t7⟩
      · rw [List.nodup_append]
        exact ⟨t2, by simp, fun a ha b hb e => by rw [List.mem_singleton] at hb; exact hc (hb ▸ e ▸ ha)⟩
      · rcases List.mem_append.mp hu with hu | hu
        · rw [eT u (hne u hu)] at ht
          exact t4 u hu t ht
        · rw [List.mem_singleton.mp hu, show jK_tp (jK_n K c b) c = none from if_pos rfl] at ht
          cases ht
      · rcases List.mem_append.mp hu with hu | hu
        · rw [eT u (hne u hu), eD u (hne u hu)]
          exact t5 u hu
        · rw [List.mem_singleton.mp hu, show jK_tp (jK_n K c b) c = none from if_pos rfl, show jK_pd (jK_n K c b) c = [] from if_pos rfl]
          exact ⟨fun b hb => absurd hb List.not_mem_nil, fun t ht => by cases ht⟩
      · intro hm
        rcases List.mem_append.mp hm with hm | hm
        · exact t6 x hx hm
        · exact hPc ((hP c).mpr (by rw [← List.mem_singleton.mp hm]; exact hx))
