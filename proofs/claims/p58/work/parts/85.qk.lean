/-! the answers about a cord -/
section QK
variable {S : jl_S} {K : jl_K} {cs : List Nat} {cl sz : Int} {st dp tp va nb g : Int → Int} {k x d c : Nat}
theorem kv_dg {S : jl_S} {x : Nat} (hd : ∀ i : Int, 0 ≤ i → i < 4 → 0 ≤ jS_dg S x i ∧ jS_dg S x i ≤ 9) (hn : 0 ≤ jS_nb S x ∧ jS_nb S x ≤ 4) {p : Nat} (hp : p < 4) (h : ¬ (p : Int) < jS_nb S x) : jS_kv S x / pw (p : Int) % 10 = jS_dg S x (p : Int) := by
  have d0 := hd 0 (by omega) (by omega)
  have d1 := hd 1 (by omega) (by omega)
  have d2 := hd 2 (by omega) (by omega)
  have d3 := hd 3 (by omega) (by omega)
  have hf : ∀ i : Int, 0 ≤ i → i < 4 → 0 ≤ (if i < jS_nb S x then 0 else jS_dg S x i) ∧ (if i < jS_nb S x then 0 else jS_dg S x i) ≤ 9 := fun i h0 h4 => by
    split
    · omega
    · exact hd i h0 h4
  have f0 := hf 0 (by omega) (by omega)
  have f1 := hf 1 (by omega) (by omega)
  have f2 := hf 2 (by omega) (by omega)
  have f3 := hf 3 (by omega) (by omega)
  have hkv : jS_kv S x = 10 * (10 * (10 * (10 * 0 + (if (3 : Int) < jS_nb S x then 0 else jS_dg S x 3)) + (if (2 : Int) < jS_nb S x then 0 else jS_dg S x 2)) + (if (1 : Int) < jS_nb S x then 0 else jS_dg S x 1)) + (if (0 : Int) < jS_nb S x then 0 else jS_dg S x 0) := rfl
  rw [hkv]
  rcases (show p = 0 ∨ p = 1 ∨ p = 2 ∨ p = 3 by omega) with rfl | rfl | rfl | rfl
  · rw [show pw ((0 : Nat) : Int) = 1 from rfl, show ((0 : Nat) : Int) = 0 from rfl]
    rw [if_neg (show ¬ (0 : Int) < jS_nb S x from h)] at *
    omega
  · rw [show pw ((1 : Nat) : Int) = 10 from rfl, show ((1 : Nat) : Int) = 1 from rfl]
    rw [if_neg (show ¬ (1 : Int) < jS_nb S x from h)] at *
    omega
  · rw [show pw ((2 : Nat) : Int) = 100 from rfl, show ((2 : Nat) : Int) = 2 from rfl]
    rw [if_neg (show ¬ (2 : Int) < jS_nb S x from h)] at *
    omega
  · rw [show pw ((3 : Nat) : Int) = 1000 from rfl, show ((3 : Nat) : Int) = 3 from rfl]
    rw [if_neg (show ¬ (3 : Int) < jS_nb S x from h)] at *
    omega
/-- how many of a forest's entries are its roots -/
theorem fo_cnt {D e : Nat} : ∀ (l : List Nat), (((l.flatMap (fun b => jS_fl S (D + 1) b e)).map (fun p => if p.2 = e then (1 : Int) else 0)).sum) = (l.length : Int) := by
  have hz : ∀ m : List (Nat × Nat), (∀ p ∈ m, e < p.2) → (m.map (fun p => if p.2 = e then (1 : Int) else 0)).sum = 0 := by
    intro m
    induction m with
    | nil => exact fun _ => rfl
    | cons p m ih =>
      intro hm
      have h1 := hm p (List.mem_cons_self ..)
      rw [List.map_cons, List.sum_cons, if_neg (by omega), ih (fun q hq => hm q (List.mem_cons_of_mem _ hq))]
      rfl
  intro l
  induction l with
  | nil => rfl
  | cons b l ih =>
    rw [List.flatMap_cons, List.map_append, List.sum_append, ih, show jS_fl S (D + 1) b e = (b, e) :: (jS_ch S b).flatMap (fun c => jS_fl S D c (e + 1)) from rfl, List.map_cons, List.sum_cons, if_pos rfl, hz _ (fun p hp => by
      obtain ⟨c, _, hc⟩ := List.mem_flatMap.mp hp
      have := (fl_dep D c (e + 1) p hc).1
      omega), List.length_cons]
    omega
theorem jq_k {σ : jk_LS} {g : Int → Int} (hC : jC (jK_all S K 0 cs) S cs.length (σ.S 11) (σ.S 12) (σ.T 3) (σ.T 4) (σ.T 5) (σ.T 6) (σ.T 7) g) (ht : ∀ cu ∈ cs, ∀ t, jK_tp K cu = some t → jS_ch S t = []) (hh : ∀ cu ∈ cs, (∀ b ∈ jK_pd K cu, jS_hgt S 3 b) ∧ ∀ t, jK_tp K cu = some t → jS_hgt S 3 t) (hk : (jK_all S K 0 cs)[k]? = some (x, d, c)) (hd : ∀ i : Int, 0 ≤ i → i < 4 → 0 ≤ jS_dg S x i ∧ jS_dg S x i ≤ 9) : jQ_k σ S k x d c := by
  obtain ⟨D', pre, post, h1, h2, h3, h4, h5, h6, -, -, h9⟩ := all_at cs 0 k x d c ht hk
  have hbe := be_blk hC ht hk h1 h2 h3 h6 h9
  have hg := h4 hh
  obtain ⟨I, hcl, hsz, hcol⟩ := hC
  obtain ⟨c1, c2, c3, c4, c5⟩ := hcol k _ hk
  have hkl : k < (jK_all S K 0 cs).length := (List.getElem?_eq_some_iff.mp hk).1
  have k0 : (0 : Int) ≤ (k : Int) := by omega
  have k1 : (k : Int) < σ.S 12 := by rw [hsz]; omega
  have hfl : jS_fl S 3 x d = jS_fl S D' x d := fl_up D' 3 x d hg h5
  have hn := (I.2.2 _ k0 k1).2.2.2.2.1
  rw [c5] at hn
  have hB : (be (σ.S 12) (σ.T 4) (k : Int) - (k : Int)).toNat = ((jS_fl S D' x d).map (fun p => (p.1, p.2, c))).length := by rw [hbe, List.length_map]; omega
  refine ⟨by rw [a_clusterOf I k0 k1, c1], by rw [a_depthOf I k0 k1, c2], by rw [a_topicOf I k0 k1, c3], by rw [a_knownValue I k0 k1, c4], by rw [a_nibbledPlaces I k0 k1, c5], ?_, ?_, ?_, fun p hp => ?_⟩
  · rw [a_subsidiariesOf I k0 k1]
    obtain ⟨E, rfl⟩ : ∃ E, D' = E + 1 := ⟨D' - 1, by omega⟩
    have hL : jK_all S K 0 cs = (pre ++ [(x, d, c)]) ++ ((((jS_ch S x).flatMap (fun b => jS_fl S E b (d + 1))).map (fun p => (p.1, p.2, c))) ++ post) := by
      rw [h1, List.append_assoc]
      rfl
    have hlen : (be (σ.S 12) (σ.T 4) (k : Int) - ((k : Int) + 1)).toNat = (((jS_ch S x).flatMap (fun b => jS_fl S E b (d + 1))).map (fun p => (p.1, p.2, c))).length := by
      rw [hbe, List.length_map, show jS_fl S (E + 1) x d = (x, d) :: (jS_ch S x).flatMap (fun b => jS_fl S E b (d + 1)) from rfl, List.length_cons]
      omega
    have hb := pCt_blk (q := fun j => decide (σ.T 4 j = σ.T 4 (k : Int) + 1)) (h := fun p => decide (p.2.1 = d + 1)) (fun i p hi => by
      rw [c2, (hcol i p hi).2.1]
      exact decide_eq_decide.mpr ⟨fun h => by have : (p.2.1 : Int) = (d : Int) + 1 := h; omega, fun h => by show (p.2.1 : Int) = (d : Int) + 1; omega⟩) _ _ _ hL
    rw [List.length_append, List.length_singleton, h2] at hb
    rw [hlen, show (k : Int) + 1 = ((k + 1 : Nat) : Int) by omega, hb, List.map_map]
    congr 2
    cases hch : jS_ch S x with
    | nil => rfl
    | cons b l =>
      obtain ⟨E, rfl⟩ : ∃ E', E = E' + 1 := ⟨E - 1, by
        cases E with
        | zero => exact absurd (hg b (by rw [hch]; exact List.mem_cons_self ..)) id
        | succ E => omega⟩
      rw [← fo_cnt (S := S) (D := E) (e := d + 1) (b :: l)]
      congr 1
      exact List.map_congr_left (fun p _ => by
        show (if decide (p.2 = d + 1) = true then (1 : Int) else 0) = _
        by_cases hp : p.2 = d + 1
        · rw [if_pos (decide_eq_true hp), if_pos hp]
        · rw [if_neg (fun z => hp (of_decide_eq_true z)), if_neg hp])
  · rw [a_lowestTotal I k0 k1, hB, ← h2, pSm_blk (h := fun p => jS_kv S p.1) (fun i p hi => (hcol i p hi).2.2.2.1) _ _ _ h1, List.map_map, tot_fl 3 x d, hfl]
    rfl
  · rw [a_isComplete I k0 k1, hB, ← h2, pCt_blk (q := fun j => decide (0 < σ.T 7 j)) (h := fun p => decide (0 < jS_nb S p.1)) (fun i p hi => by rw [(hcol i p hi).2.2.2.2]) _ _ _ h1, List.map_map, nib_fl 3 x d, hfl]
    refine congrArg (fun z : Int => (some (.inr (if z = 0 then 1 else 0)) : Option (Nat ⊕ Int))) ?_
    refine congrArg List.sum ?_
    exact List.map_congr_left (fun (p : Nat × Nat) _ => by
      show (if decide (0 < jS_nb S p.1) = true then (1 : Int) else 0) = _
      by_cases hp : 0 < jS_nb S p.1
      · rw [if_pos (decide_eq_true hp), if_pos hp]
      · rw [if_neg (fun z => hp (of_decide_eq_true z)), if_neg hp])
  · rw [a_knotsAt I k0 k1 (by omega) (by omega), c4, c5]
    by_cases hp2 : (p : Int) < jS_nb S x
    · rw [if_pos hp2, if_pos hp2]
    · rw [if_neg hp2, if_neg hp2, kv_dg hd hn hp hp2]
end QK
