/-! ranges and sizes of clusters -/
section VC
variable {S : jl_S} {K : jl_K} {cs : List Nat} {cl sz : Int} {st dp tp va nb g : Int → Int} {j cu : Nat}
theorem jv_c {P : Nat → Prop} (hC : jC (jK_all S K 0 cs) S cs.length cl sz st dp tp va nb g) (hnd : (jl_lo (jK_all S K 0 cs)).Nodup) (ht' : ∀ t, jK_tp K cu = some t → jS_ch S t = []) (hj : cs[j]? = some cu) (hP : ∀ p ∈ jK_all S K 0 cs, P p.1) : jV_c S K P (jK_all S K 0 cs) j cu := by
  have hjl : j < cs.length := (List.getElem?_eq_some_iff.mp hj).1
  have I := hC.1
  have hcl := hC.2.1
  have hsz := hC.2.2.1
  have hs40 := I.1.2.1
  have hkn := kn_r I (c := (j : Int)) (by omega) (by omega)
  have hks := ks_r I (c := (j : Int)) (by omega) (by omega)
  rw [kn_cl hC ht' hj] at hkn
  rw [ks_cl hC ht' hj] at hks
  obtain ⟨pre, post, h1, -, -⟩ := st_blk hC hj
  have hlen := congrArg List.length h1
  rw [List.length_append, List.length_append, List.length_map] at hlen
  have hl : (jK_cl S K cu).length = (jK_tl S K cu).length + ((jK_pd K cu).flatMap (fun b => jS_fl S 3 b 1)).length := by rw [show jK_cl S K cu = jK_tl S K cu ++ (jK_pd K cu).flatMap (fun b => jS_fl S 3 b 1) from rfl, List.length_append]
  have hz : jK_siz S K cu = 1 + ((jK_pd K cu).flatMap (fun b => jS_fl S 3 b 1)).length := by
    unfold jK_siz
    rw [List.length_flatMap]
    congr 2
    exact List.map_congr_left (fun b _ => (jS_fl_len 3 b 1).symm)
  have hp : (jK_pd K cu).length ≤ ((jK_pd K cu).flatMap (fun b => jS_fl S 3 b 1)).length := fo_len (S := S) (D := 2) (e := 1) (jK_pd K cu)
  have hkv : ∀ t, jK_tp K cu = some t → jk_R (jS_kv S t) := fun t h => by
    obtain ⟨i, f1, f2⟩ := top_at hC ht' hj h
    have hil := (List.getElem?_eq_some_iff.mp f2).1
    have h7 := (I.2.2 (i : Int) (by omega) (by omega)).2.2.2.1
    rw [(hC.2.2.2 i _ f2).2.2.2.1] at h7
    have h8 : 0 ≤ jS_kv S t ∧ jS_kv S t ≤ 9999 := h7
    exact ⟨by omega, by omega⟩
  refine ⟨by omega, ⟨by omega, by omega⟩, ⟨by omega, by omega⟩, by omega, hkv, fun t h => ⟨⟨by omega, by omega⟩, fun hn0 hn1 => ?_⟩⟩
  have hk1 : kn st nb (j : Int) = 1 := by
    have := kn_cl hC ht' hj
    omega
  obtain ⟨i, x, d, e1, e2, e3, e4⟩ := only_cl hC hjl hk1
  have ht1 : ht st dp (j : Int) = 1 := by
    rw [ht_cl hC ht' hj, cl_top (ht' t h) h]
    rfl
  have hr := kg_r I (c := (j : Int)) (by omega) (by omega) ht1 hk1
  rw [guess_cl hC hnd ht' hj h hk1 e3] at hr
  exact ⟨x, e3, hP _ (List.mem_of_getElem? e2), ⟨by omega, by omega⟩⟩
end VC
