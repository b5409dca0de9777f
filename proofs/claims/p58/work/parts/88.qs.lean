/-! a cluster's state, pendants and top as the component tells them -/
section QS
variable {S : jl_S} {K : jl_K} {cs : List Nat} {cl sz : Int} {st dp tp va nb g : Int → Int} {j cu : Nat}
theorem top_at (hC : jC (jK_all S K 0 cs) S cs.length cl sz st dp tp va nb g) (ht' : ∀ t, jK_tp K cu = some t → jS_ch S t = []) (hj : cs[j]? = some cu) {t : Nat} (h : jK_tp K cu = some t) : ∃ i : Nat, st (j : Int) = (i : Int) ∧ (jK_all S K 0 cs)[i]? = some (t, 0, j) := by
  obtain ⟨pre, post, h1, h2, h3⟩ := st_blk hC hj
  refine ⟨pre.length, h2, ?_⟩
  have hd : jK_cl S K cu = (t, 0) :: (jK_pd K cu).flatMap (fun b => jS_fl S 3 b 1) := by
    show jK_tl S K cu ++ _ = _
    rw [cl_top (ht' t h) h]
    rfl
  rw [h1, List.getElem?_append_right (Nat.le_refl _), Nat.sub_self, hd]
  rfl
theorem state_cl (hC : jC (jK_all S K 0 cs) S cs.length cl sz st dp tp va nb g) (ht' : ∀ t, jK_tp K cu = some t → jS_ch S t = []) (hj : cs[j]? = some cu) : kst st dp va nb (j : Int) = jK_sta S K cu := by
  unfold kst jK_sta
  rw [ht_cl hC ht' hj, ks_cl hC ht' hj, kn_cl hC ht' hj]
  cases h : jK_tp K cu with
  | none =>
    rw [cl_tn h]
    exact if_pos rfl
  | some t =>
    obtain ⟨i, e1, e2⟩ := top_at hC ht' hj h
    rw [cl_top (ht' t h) h, if_neg (show ¬ (([(t, 0)] : List (Nat × Nat)).length : Int) = 0 by show ¬ (1 : Int) = 0; omega), e1, (hC.2.2.2 i _ e2).2.2.2.1]
theorem pend_cl (hC : jC (jK_all S K 0 cs) S cs.length cl sz st dp tp va nb g) (ht' : ∀ t, jK_tp K cu = some t → jS_ch S t = []) (hj : cs[j]? = some cu) : pCt (fun i => decide (dp i = 1)) (st (j : Int)) (st ((j : Int) + 1) - st (j : Int)).toNat = ((jK_pd K cu).length : Int) := by
  obtain ⟨pre, post, h1, h2, h3⟩ := st_blk hC hj
  obtain ⟨I, hcl, hsz, hcol⟩ := hC
  have h5 := pCt_blk (q := fun i => decide (dp i = 1)) (h := fun p => decide (p.2.1 = 1)) (fun i p hi => by
    rw [(hcol i p hi).2.1]
    exact decide_eq_decide.mpr ⟨fun h => by have : (p.2.1 : Int) = 1 := h; omega, fun h => by show (p.2.1 : Int) = 1; omega⟩) _ _ _ h1
  rw [List.length_map, List.map_map] at h5
  rw [h2, show (st ((j : Int) + 1) - (pre.length : Int)).toNat = (jK_cl S K cu).length by omega, h5]
  have e : (jK_cl S K cu).map ((fun p : Nat × Nat × Nat => if decide (p.2.1 = 1) = true then (1 : Int) else 0) ∘ fun p : Nat × Nat => (p.1, p.2, j)) = (jK_cl S K cu).map (fun p : Nat × Nat => if p.2 = 1 then (1 : Int) else 0) := List.map_congr_left (fun (p : Nat × Nat) _ => by
    show (if decide (p.2 = 1) = true then (1 : Int) else 0) = _
    by_cases hp : p.2 = 1
    · rw [if_pos (decide_eq_true hp), if_pos hp]
    · rw [if_neg (fun z => hp (of_decide_eq_true z)), if_neg hp])
  rw [e, show jK_cl S K cu = jK_tl S K cu ++ (jK_pd K cu).flatMap (fun b => jS_fl S 3 b 1) from rfl, List.map_append, List.sum_append, fo_cnt (S := S) (D := 2) (e := 1)]
  cases h : jK_tp K cu with
  | none => rw [cl_tn h]; show (0 : Int) + _ = _; omega
  | some t => rw [cl_top (ht' t h) h]; show ((if (0 : Nat) = 1 then (1 : Int) else 0) + 0) + _ = _; rw [if_neg (by decide)]; omega
end QS
