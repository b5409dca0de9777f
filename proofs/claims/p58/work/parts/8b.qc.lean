/-! all the answers about a cluster -/
section QB
variable {S : jl_S} {K : jl_K} {cs : List Nat} {cl sz : Int} {st dp tp va nb g : Int → Int} {j cu : Nat}
theorem reason_cl {P : Nat → Prop} (hC : jC (jK_all S K 0 cs) S cs.length cl sz st dp tp va nb g) (hnd : (jl_lo (jK_all S K 0 cs)).Nodup) (ht' : ∀ t, jK_tp K cu = some t → jS_ch S t = []) (hj : cs[j]? = some cu) (hP : ∀ p ∈ jK_all S K 0 cs, P p.1) (hd : jV_d S P) : kob st dp va nb (j : Int) = jR_rs S K (jK_all S K 0 cs) cu j := by
  have hjl : j < cs.length := (List.getElem?_eq_some_iff.mp hj).1
  unfold kob jR_rs
  rw [ht_cl hC ht' hj, kn_cl hC ht' hj]
  cases h : jK_tp K cu with
  | none =>
    rw [cl_tn h]
    exact if_pos rfl
  | some t =>
    rw [cl_top (ht' t h) h, if_neg (show ¬ (([(t, 0)] : List (Nat × Nat)).length : Int) = 0 by show ¬ (1 : Int) = 0; omega)]
    show _ = if jK_nib S K cu = 0 then 2 else if 1 < jK_nib S K cu then 3 else _
    by_cases hn0 : jK_nib S K cu = 0
    · rw [if_pos hn0, if_pos hn0]
    rw [if_neg hn0, if_neg hn0]
    by_cases hn1 : 1 < jK_nib S K cu
    · rw [if_pos hn1, if_pos hn1]
    rw [if_neg hn1, if_neg hn1]
    have hr := kn_r hC.1 (c := (j : Int)) (by omega) (by have := hC.2.1; omega)
    have h1 : kn st nb (j : Int) = 1 := by
      have := kn_cl hC ht' hj
      omega
    obtain ⟨i, x, d, e1, e2, e3, e4⟩ := only_cl hC hjl h1
    rw [guess_cl hC hnd ht' hj h h1 e3, e1, e3]
    obtain ⟨-, -, -, v1, n1⟩ := hC.2.2.2 i _ e2
    have hx := hP _ (List.mem_of_getElem? e2)
    have hlt : i < (jK_all S K 0 cs).length := (List.getElem?_eq_some_iff.mp e2).1
    have hnb := (hC.1.2.2 (i : Int) (by omega) (by have := hC.2.2.1; omega)).2.2.2.2.1
    rw [v1, n1]
    rw [n1] at hnb
    show _ = if jR_gv S K t x cu < 0 ∨ 9999 < jR_gv S K t x cu then 4 else _
    by_cases hv : jR_gv S K t x cu < 0 ∨ 9999 < jR_gv S K t x cu
    · rw [if_pos hv, if_neg (fun z => by omega)]
    · rw [if_neg hv]
      have hf := fit_iff (S := S) (x := x) (hd x hx) ⟨e4, hnb.2⟩ (v := jR_gv S K t x cu) (by omega)
      by_cases hfit : jR_fit (jl_dgs (fun _ => 0) (jR_gv S K t x cu)) (jS_dg S x) (4 - (jS_nb S x).toNat) (jS_nb S x) = true
      · rw [if_pos hfit, if_pos ⟨by omega, hf.mp hfit⟩]
      · rw [if_neg hfit, if_neg (fun z => hfit (hf.mpr z.2))]
end QB
