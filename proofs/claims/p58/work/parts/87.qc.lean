/-! a cluster's top, sum and nibbled ones, by the columns -/
section QC2
variable {S : jl_S} {K : jl_K} {cs : List Nat} {cl sz : Int} {st dp tp va nb g : Int → Int} {j cu : Nat}
theorem cl_top {t : Nat} (ht : jS_ch S t = []) (h : jK_tp K cu = some t) : jK_tl S K cu = [(t, 0)] := by
  unfold jK_tl
  rw [h]
  show (t, 0) :: (jS_ch S t).flatMap (fun b => jS_fl S 2 b (0 + 1)) = [(t, 0)]
  rw [ht]
  rfl
theorem cl_tn (h : jK_tp K cu = none) : jK_tl S K cu = [] := by
  unfold jK_tl
  rw [h]
theorem tl_len (ht : ∀ t, jK_tp K cu = some t → jS_ch S t = []) : (jK_tl S K cu).length = (match jK_tp K cu with | none => 0 | some _ => 1) := by
  cases h : jK_tp K cu with
  | none => rw [cl_tn h]; rfl
  | some t => rw [cl_top (ht t h) h]; rfl
theorem ht_cl (hC : jC (jK_all S K 0 cs) S cs.length cl sz st dp tp va nb g) (ht' : ∀ t, jK_tp K cu = some t → jS_ch S t = []) (hj : cs[j]? = some cu) : ht st dp (j : Int) = ((jK_tl S K cu).length : Int) := by
  obtain ⟨pre, post, h1, h2, h3⟩ := st_blk hC hj
  obtain ⟨I, hcl, hsz, hcol⟩ := hC
  have hget : ∀ p : Nat × Nat, (jK_cl S K cu).head? = some p → dp (st (j : Int)) = (p.2 : Int) := by
    intro p hp
    have hL : (jK_all S K 0 cs)[pre.length]? = some (p.1, p.2, j) := by
      rw [h1, List.getElem?_append_right (Nat.le_refl _), Nat.sub_self]
      cases hc : jK_cl S K cu with
      | nil => rw [hc] at hp; cases hp
      | cons q qs =>
        rw [hc] at hp
        cases Option.some.inj hp
        rfl
    rw [h2]
    exact (hcol _ _ hL).2.1
  unfold ht
  cases h : jK_tp K cu with
  | some t =>
    rw [cl_top (ht' t h) h]
    have hd : jK_cl S K cu = (t, 0) :: (jK_pd K cu).flatMap (fun b => jS_fl S 3 b 1) := by
      show jK_tl S K cu ++ _ = _
      rw [cl_top (ht' t h) h]
      rfl
    have hl : (jK_cl S K cu).length = ((jK_pd K cu).flatMap (fun b => jS_fl S 3 b 1)).length + 1 := by rw [hd, List.length_cons]
    have h0 := hget (t, 0) (by rw [hd]; rfl)
    rw [if_pos ⟨by omega, h0⟩]
    rfl
  | none =>
    rw [cl_tn h]
    have hd : jK_cl S K cu = (jK_pd K cu).flatMap (fun b => jS_fl S 3 b 1) := by
      show jK_tl S K cu ++ _ = _
      rw [cl_tn h]
      rfl
    refine if_neg (fun z => ?_)
    cases hc : (jK_cl S K cu).head? with
    | none =>
      have : jK_cl S K cu = [] := List.head?_eq_none_iff.mp hc
      rw [this, List.length_nil] at h3
      omega
    | some p =>
      have h5 := hget p hc
      rw [hd] at hc
      have h6 := fo_hd (S := S) (D := 2) (jK_pd K cu) p hc
      omega
theorem ks_cl (hC : jC (jK_all S K 0 cs) S cs.length cl sz st dp tp va nb g) (ht' : ∀ t, jK_tp K cu = some t → jS_ch S t = []) (hj : cs[j]? = some cu) : ks st dp va (j : Int) = jK_sum S K cu := by
  have hh := ht_cl hC ht' hj
  obtain ⟨pre, post, h1, h2, h3⟩ := st_blk hC hj
  obtain ⟨I, hcl, hsz, hcol⟩ := hC
  have hcd : jK_cl S K cu = jK_tl S K cu ++ (jK_pd K cu).flatMap (fun b => jS_fl S 3 b 1) := rfl
  have hl : (jK_cl S K cu).length = (jK_tl S K cu).length + ((jK_pd K cu).flatMap (fun b => jS_fl S 3 b 1)).length := by rw [hcd, List.length_append]
  have h4 : jK_all S K 0 cs = (pre ++ (jK_tl S K cu).map (fun p => (p.1, p.2, j))) ++ (((jK_pd K cu).flatMap (fun b => jS_fl S 3 b 1)).map (fun p => (p.1, p.2, j)) ++ post) := by
    rw [h1, hcd, List.map_append, List.append_assoc, List.append_assoc]
  have h5 := pSm_blk (f := va) (h := fun p => jS_kv S p.1) (fun i p hi => (hcol i p hi).2.2.2.1) _ _ _ h4
  rw [List.length_append, List.length_map, List.length_map, List.map_map] at h5
  unfold ks jK_sum
  rw [hh, fo_sum, h2, show (pre.length : Int) + ((jK_tl S K cu).length : Int) = ((pre.length + (jK_tl S K cu).length : Nat) : Int) by omega, show (st ((j : Int) + 1) - ((pre.length + (jK_tl S K cu).length : Nat) : Int)).toNat = ((jK_pd K cu).flatMap (fun b => jS_fl S 3 b 1)).length by omega, h5, Int.zero_add]
  rw [show ((fun p : Nat × Nat × Nat => jS_kv S p.1) ∘ fun p : Nat × Nat => (p.1, p.2, j)) = (fun p : Nat × Nat => jS_kv S p.1) from rfl, fm_sum]
  refine congrArg List.sum ?_
  exact List.map_congr_left (fun b _ => (tot_fl 3 b 1).symm)
theorem kn_cl (hC : jC (jK_all S K 0 cs) S cs.length cl sz st dp tp va nb g) (ht' : ∀ t, jK_tp K cu = some t → jS_ch S t = []) (hj : cs[j]? = some cu) : kn st nb (j : Int) = jK_nib S K cu := by
  obtain ⟨pre, post, h1, h2, h3⟩ := st_blk hC hj
  obtain ⟨I, hcl, hsz, hcol⟩ := hC
  have h5 := pCt_blk (q := fun i => decide (0 < nb i)) (h := fun p => decide (0 < jS_nb S p.1)) (fun i p hi => by rw [(hcol i p hi).2.2.2.2]) _ _ _ h1
  rw [List.length_map, List.map_map] at h5
  unfold kn jK_nib
  rw [fo_sum, h2, show (st ((j : Int) + 1) - (pre.length : Int)).toNat = (jK_cl S K cu).length by omega, h5]
  have e : (jK_cl S K cu).map ((fun p : Nat × Nat × Nat => if decide (0 < jS_nb S p.1) = true then (1 : Int) else 0) ∘ fun p : Nat × Nat => (p.1, p.2, j)) = (jK_cl S K cu).map (fun p : Nat × Nat => if 0 < jS_nb S p.1 then (1 : Int) else 0) := List.map_congr_left (fun (p : Nat × Nat) _ => by
    show (if decide (0 < jS_nb S p.1) = true then (1 : Int) else 0) = _
    by_cases hp : 0 < jS_nb S p.1
    · rw [if_pos (decide_eq_true hp), if_pos hp]
    · rw [if_neg (fun z => hp (of_decide_eq_true z)), if_neg hp])
  rw [e, show jK_cl S K cu = jK_tl S K cu ++ (jK_pd K cu).flatMap (fun b => jS_fl S 3 b 1) from rfl, List.map_append, List.sum_append, fm_sum]
  have e2 : (jK_pd K cu).map (fun b => ((jS_fl S 3 b 1).map (fun p : Nat × Nat => if 0 < jS_nb S p.1 then (1 : Int) else 0)).sum) = (jK_pd K cu).map (fun b => jS_nib S 3 b) := List.map_congr_left (fun b _ => (nib_fl 3 b 1).symm)
  rw [e2]
  congr 1
  unfold jK_tnb
  cases h : jK_tp K cu with
  | none => rw [cl_tn h]; rfl
  | some t =>
    rw [cl_top (ht' t h) h]
    show (if 0 < jS_nb S t then (1 : Int) else 0) + 0 = _
    rw [Int.add_zero]
end QC2
