/-! the answers about a cluster, together -/
section QD
variable {S : jl_S} {K : jl_K} {cs : List Nat} {j cu : Nat}
theorem jq_c {P : Nat → Prop} {σ : jk_LS} {g : Int → Int} (hC : jC (jK_all S K 0 cs) S cs.length (σ.S 11) (σ.S 12) (σ.T 3) (σ.T 4) (σ.T 5) (σ.T 6) (σ.T 7) g) (hnd : (jl_lo (jK_all S K 0 cs)).Nodup) (ht' : ∀ t, jK_tp K cu = some t → jS_ch S t = []) (hj : cs[j]? = some cu) (hP : ∀ p ∈ jK_all S K 0 cs, P p.1) (hd : jV_d S P) : jQ_c σ S K (jK_all S K 0 cs) j cu := by
  have hjl : j < cs.length := (List.getElem?_eq_some_iff.mp hj).1
  have hcl := hC.2.1
  have I := hC.1
  have k0 : (0 : Int) ≤ (j : Int) := by omega
  have k1 : (j : Int) < σ.S 11 := by omega
  have hrs := reason_cl hC hnd ht' hj hP hd
  refine ⟨by rw [a_stateOf I k0 k1, state_cl hC ht' hj], by rw [a_guessObstacle I k0 k1, hrs], by rw [a_pendantsIn I k0 k1, pend_cl hC ht' hj], fun h => ?_, fun t h => ?_, fun h0 => ?_⟩
  · rw [a_topOf I k0 k1, ht_cl hC ht' hj, cl_tn h]
    rw [if_pos (by rfl)]
  · obtain ⟨i, f1, f2⟩ := top_at hC ht' hj h
    have e1 : (jl_lo (jK_all S K 0 cs))[i]? = some t := by rw [jl_lo, List.getElem?_map, f2]; rfl
    refine ⟨i, e1, fun m hm hh => ?_, ?_⟩
    · have hl : m < (jK_all S K 0 cs).length := by
        have := (List.getElem?_eq_some_iff.mp f2).1
        omega
      obtain ⟨q, hq⟩ : ∃ q, (jK_all S K 0 cs)[m]? = some q := ⟨_, List.getElem?_eq_getElem hl⟩
      have : q.1 = t := by
        rw [jl_lo, List.getElem?_map, hq] at hh
        exact Option.some.inj hh
      have := lo_inj hnd hq f2 this
      omega
    · rw [a_topOf I k0 k1, ht_cl hC ht' hj, cl_top (ht' t h) h]
      rw [if_neg (show ¬ (([(t, 0)] : List (Nat × Nat)).length : Int) = 0 by show ¬ (1 : Int) = 0; omega), f1]
  · rw [← hrs] at h0
    obtain ⟨b1, b2, b3⟩ := kob_0 I k0 k1 h0
    have htp : ∃ t, jK_tp K cu = some t := by
      cases h : jK_tp K cu with
      | none => rw [ht_cl hC ht' hj, cl_tn h] at b1; cases b1
      | some t => exact ⟨t, rfl⟩
    obtain ⟨t, h⟩ := htp
    obtain ⟨i, x, d, e1, e2, e3, e4⟩ := only_cl hC hjl b2
    have hg := guess_cl hC hnd ht' hj h b2 e3
    have hr := kg_r I k0 k1 b1 b2
    rw [hg] at hr
    exact ⟨t, x, h, e3, ⟨by omega, by omega⟩, by rw [a_guessIn I k0 k1 h0, hg]⟩
end QD
