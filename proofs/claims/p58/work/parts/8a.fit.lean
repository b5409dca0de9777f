/-! guesses -/
section FI
variable {S : jl_S} {x : Nat}
theorem dgs_at {v : Int} : jl_dgs (fun _ => 0) v 0 = v % 10 ∧ jl_dgs (fun _ => 0) v 1 = v / 10 % 10 ∧ jl_dgs (fun _ => 0) v 2 = v / 10 / 10 % 10 ∧ jl_dgs (fun _ => 0) v 3 = v / 10 / 10 / 10 % 10 := ⟨rfl, rfl, rfl, rfl⟩
theorem fit_iff (hd : ∀ i : Int, 0 ≤ i → i < 4 → 0 ≤ jS_dg S x i ∧ jS_dg S x i ≤ 9) (hn : 0 < jS_nb S x ∧ jS_nb S x ≤ 4) {v : Int} (hv : 0 ≤ v ∧ v ≤ 9999) : jR_fit (jl_dgs (fun _ => 0) v) (jS_dg S x) (4 - (jS_nb S x).toNat) (jS_nb S x) = true ↔ v / pw (jS_nb S x) * pw (jS_nb S x) = jS_kv S x := by
  have d0 := hd 0 (by omega) (by omega)
  have d1 := hd 1 (by omega) (by omega)
  have d2 := hd 2 (by omega) (by omega)
  have d3 := hd 3 (by omega) (by omega)
  obtain ⟨e0, e1, e2, e3⟩ := dgs_at (v := v)
  have hkv : jS_kv S x = 10 * (10 * (10 * (10 * 0 + (if (3 : Int) < jS_nb S x then 0 else jS_dg S x 3)) + (if (2 : Int) < jS_nb S x then 0 else jS_dg S x 2)) + (if (1 : Int) < jS_nb S x then 0 else jS_dg S x 1)) + (if (0 : Int) < jS_nb S x then 0 else jS_dg S x 0) := rfl
  rw [hkv]
  rcases (show jS_nb S x = 1 ∨ jS_nb S x = 2 ∨ jS_nb S x = 3 ∨ jS_nb S x = 4 by omega) with h | h | h | h
  · rw [h, show pw 1 = 10 from rfl, if_neg (by decide), if_neg (by decide), if_neg (by decide), if_pos (by decide)]
    show (decide (jl_dgs (fun _ => 0) v 1 = jS_dg S x 1) && (decide (jl_dgs (fun _ => 0) v 2 = jS_dg S x 2) && (decide (jl_dgs (fun _ => 0) v 3 = jS_dg S x 3) && true))) = true ↔ _
    rw [Bool.and_true, Bool.and_eq_true, Bool.and_eq_true, decide_eq_true_eq, decide_eq_true_eq, decide_eq_true_eq, e1, e2, e3]
    omega
  · rw [h, show pw 2 = 100 from rfl, if_neg (by decide), if_neg (by decide), if_pos (by decide), if_pos (by decide)]
    show (decide (jl_dgs (fun _ => 0) v 2 = jS_dg S x 2) && (decide (jl_dgs (fun _ => 0) v 3 = jS_dg S x 3) && true)) = true ↔ _
    rw [Bool.and_true, Bool.and_eq_true, decide_eq_true_eq, decide_eq_true_eq, e2, e3]
    omega
  · rw [h, show pw 3 = 1000 from rfl, if_neg (by decide), if_pos (by decide), if_pos (by decide), if_pos (by decide)]
    show (decide (jl_dgs (fun _ => 0) v 3 = jS_dg S x 3) && true) = true ↔ _
    rw [Bool.and_true, decide_eq_true_eq, e3]
    omega
  · rw [h, show pw 4 = 10000 from rfl, if_pos (by decide), if_pos (by decide), if_pos (by decide), if_pos (by decide)]
    exact ⟨fun _ => by omega, fun _ => rfl⟩
end FI
section GU
variable {S : jl_S} {K : jl_K} {cs : List Nat} {cl sz : Int} {st dp tp va nb g : Int → Int} {j cu : Nat}
theorem lo_inj {L : List (Nat × Nat × Nat)} (hnd : (jl_lo L).Nodup) {i k : Nat} {p q : Nat × Nat × Nat} (h1 : L[i]? = some p) (h2 : L[k]? = some q) (h : p.1 = q.1) : i = k := by
  have e1 : (jl_lo L)[i]? = some p.1 := by rw [jl_lo, List.getElem?_map, h1]; rfl
  have e2 : (jl_lo L)[k]? = some p.1 := by rw [jl_lo, List.getElem?_map, h2, h]; rfl
  have hi := (List.getElem?_eq_some_iff.mp e1).1
  have hk := (List.getElem?_eq_some_iff.mp e2).1
  have e3 : (jl_lo L)[i] = (jl_lo L)[k] := by
    rw [List.getElem?_eq_getElem hi] at e1
    rw [List.getElem?_eq_getElem hk] at e2
    exact (Option.some.inj e1).trans (Option.some.inj e2).symm
  exact (List.getElem_inj hnd).mp e3
theorem guess_cl (hC : jC (jK_all S K 0 cs) S cs.length cl sz st dp tp va nb g) (hnd : (jl_lo (jK_all S K 0 cs)).Nodup) (ht' : ∀ t, jK_tp K cu = some t → jS_ch S t = []) (hj : cs[j]? = some cu) {t : Nat} (h : jK_tp K cu = some t) (h1 : kn st nb (j : Int) = 1) {x : Nat} (hx : jR_only S (jK_all S K 0 cs) j = some x) : kg st dp va nb (j : Int) = jR_gv S K t x cu := by
  have hjl : j < cs.length := (List.getElem?_eq_some_iff.mp hj).1
  obtain ⟨i, x2, d, e1, e2, e3, e4⟩ := only_cl hC hjl h1
  cases Option.some.inj (hx.symm.trans e3)
  obtain ⟨i0, f1, f2⟩ := top_at hC ht' hj h
  unfold kg jR_gv
  rw [ks_cl hC ht' hj, e1, f1]
  have v1 := (hC.2.2.2 i _ e2).2.2.2.1
  have v2 := (hC.2.2.2 i0 _ f2).2.2.2.1
  by_cases hxt : x = t
  · have := lo_inj hnd e2 f2 hxt
    rw [if_pos (by omega), if_pos hxt]
  · rw [if_neg (fun z => hxt (by
      have hii : i = i0 := by omega
      rw [hii, f2] at e2
      have h5 := Option.some.inj e2
      exact (congrArg Prod.fst h5).symm)), if_neg hxt, v1, v2]
    show jS_kv S t - (jK_sum S K cu - jS_kv S x) = _
    omega
end GU
