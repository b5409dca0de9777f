/-! the only nibbled cord of a cluster -/
section QO
variable {S : jl_S} {K : jl_K} {cs : List Nat} {cl sz : Int} {st dp tp va nb g : Int → Int} {j cu : Nat}
theorem only_cl (hC : jC (jK_all S K 0 cs) S cs.length cl sz st dp tp va nb g) (hj : j < cs.length) (h1 : kn st nb (j : Int) = 1) : ∃ (i x d : Nat), ko st nb (j : Int) = (i : Int) ∧ (jK_all S K 0 cs)[i]? = some (x, d, j) ∧ jR_only S (jK_all S K 0 cs) j = some x ∧ 0 < jS_nb S x := by
  obtain ⟨I, hcl, hsz, hcol⟩ := hC
  have hr := ko_r I (c := (j : Int)) (by omega) (by omega) h1
  obtain ⟨⟨r1, r2⟩, r3, r4, r5, r6⟩ := hr
  have hko : ko st nb (j : Int) = pFi (fun j => decide (0 < nb j)) (st (j : Int)) (st ((j : Int) + 1) - st (j : Int)).toNat := by
    unfold ko pOn
    exact if_pos h1
  have hfi := pFi_r (p := fun j => decide (0 < nb j)) (st ((j : Int) + 1) - st (j : Int)).toNat (st (j : Int)) (by
    have : pCt (fun j => decide (0 < nb j)) (st (j : Int)) (st ((j : Int) + 1) - st (j : Int)).toNat = 1 := h1
    omega)
  rw [← hko] at hfi
  obtain ⟨i, hi⟩ := Int.eq_ofNat_of_zero_le r5
  rw [hi] at r1 r2 r3 r4 r6 hfi ⊢
  have hlt : i < (jK_all S K 0 cs).length := by omega
  obtain ⟨⟨x, d, c⟩, hL⟩ : ∃ q, (jK_all S K 0 cs)[i]? = some q := ⟨_, List.getElem?_eq_getElem hlt⟩
  obtain ⟨c1, -, -, -, c5⟩ := hcol i _ hL
  have hcj : c = j := by
    have : g (i : Int) = (c : Int) := c1
    omega
  subst hcj
  have hnx : 0 < jS_nb S x := by
    have : nb (i : Int) = jS_nb S x := c5
    omega
  refine ⟨i, x, d, rfl, hL, ?_, hnx⟩
  unfold jR_only
  have hf : (jK_all S K 0 cs).find? (fun p => decide (p.2.2 = c) && decide (0 < jS_nb S p.1)) = some (x, d, c) := by
    rw [List.find?_eq_some_iff_getElem]
    refine ⟨by simp [hnx], i, hlt, ?_, fun m hm => ?_⟩
    · have := List.getElem?_eq_getElem hlt
      rw [hL] at this
      exact (Option.some.inj this).symm
    · have hm2 : m < (jK_all S K 0 cs).length := by omega
      have hLm : (jK_all S K 0 cs)[m]? = some (jK_all S K 0 cs)[m] := List.getElem?_eq_getElem hm2
      obtain ⟨m1, -, -, -, m5⟩ := hcol m _ hLm
      rw [Bool.not_eq_true', Bool.and_eq_false_iff]
      by_cases hc2 : (jK_all S K 0 cs)[m].2.2 = c
      · refine Or.inr (decide_eq_false (fun hpos => ?_))
        have hge := (pI_lt_iff I (c := (c : Int)) (k := (m : Int)) (by omega) (by omega) (by omega) (by omega)).mpr (by omega)
        have := hfi.2.2 (m : Int) hge (by omega)
        have h9 := of_decide_eq_false this
        omega
      · exact Or.inl (decide_eq_false hc2)
  rw [hf]
  rfl
end QO
