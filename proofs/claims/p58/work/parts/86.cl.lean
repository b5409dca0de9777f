/-! the clusters' places in the listing -/
section QC
variable {S : jl_S} {K : jl_K} {cs : List Nat} {cl sz : Int} {st dp tp va nb g : Int → Int} {j cu : Nat}
theorem all_split : ∀ (cs : List Nat) (c0 j cu : Nat), cs[j]? = some cu → ∃ pre post, jK_all S K c0 cs = pre ++ ((jK_cl S K cu).map (fun p => (p.1, p.2, c0 + j)) ++ post) ∧ (∀ p ∈ pre, p.2.2 < c0 + j) ∧ ∀ p ∈ post, c0 + j < p.2.2 := by
  intro cs
  induction cs with
  | nil => intro c0 j cu h; rw [List.getElem?_nil] at h; cases h
  | cons u cs ih =>
    intro c0 j cu h
    have hdef : jK_all S K c0 (u :: cs) = (jK_cl S K u).map (fun p => (p.1, p.2, c0)) ++ jK_all S K (c0 + 1) cs := rfl
    cases j with
    | zero =>
      cases Option.some.inj h
      exact ⟨[], jK_all S K (c0 + 1) cs, hdef, fun p hp => absurd hp List.not_mem_nil, fun p hp => by
        obtain ⟨_, _, _, h1, _⟩ := all_mem cs (c0 + 1) p hp
        omega⟩
    | succ j =>
      rw [List.getElem?_cons_succ] at h
      obtain ⟨pre, post, h1, h2, h3⟩ := ih (c0 + 1) j cu h
      rw [show c0 + 1 + j = c0 + (j + 1) by omega] at h1 h2 h3
      refine ⟨(jK_cl S K u).map (fun p => (p.1, p.2, c0)) ++ pre, post, by rw [hdef, h1, List.append_assoc], fun p hp => ?_, h3⟩
      rcases List.mem_append.mp hp with hp | hp
      · obtain ⟨q, _, rfl⟩ := List.mem_map.mp hp
        show c0 < _
        omega
      · exact h2 p hp
/-- where a part of the listing begins that holds all of the clusters from c on -/
theorem st_at (hC : jC (jK_all S K 0 cs) S cs.length cl sz st dp tp va nb g) {c : Nat} (hc : c ≤ cs.length) {pre post : List (Nat × Nat × Nat)} (h1 : jK_all S K 0 cs = pre ++ post) (h2 : ∀ p ∈ pre, p.2.2 < c) (h3 : ∀ p ∈ post, c ≤ p.2.2) : st (c : Int) = (pre.length : Int) := by
  obtain ⟨I, hcl, hsz, hcol⟩ := hC
  have hs := pI_st I (c := (c : Int)) (by omega) (by omega)
  have hlen := congrArg List.length h1
  rw [List.length_append] at hlen
  rcases Int.lt_trichotomy (st (c : Int)) (pre.length : Int) with h | h | h
  · obtain ⟨n, hn⟩ := Int.eq_ofNat_of_zero_le hs.1
    have hlt : n < pre.length := by omega
    have hL : (jK_all S K 0 cs)[n]? = some pre[n] := by rw [h1, List.getElem?_append_left hlt, List.getElem?_eq_getElem hlt]
    have hg := (hcol n _ hL).1
    have := (pI_lt_iff I (c := (c : Int)) (k := (n : Int)) (by omega) (by omega) (by omega) (by omega)).mp (by omega)
    have h5 := h2 _ (List.getElem_mem hlt)
    omega
  · exact h
  · have hlt : pre.length < (jK_all S K 0 cs).length := by omega
    obtain ⟨q, hL⟩ : ∃ q, (jK_all S K 0 cs)[pre.length]? = some q := ⟨_, List.getElem?_eq_getElem hlt⟩
    have hm : q ∈ post := by
      have h6 := hL
      rw [h1, List.getElem?_append_right (Nat.le_refl _), Nat.sub_self] at h6
      exact List.mem_of_getElem? h6
    have hg := (hcol _ _ hL).1
    have h5 := h3 _ hm
    have := (pI_lt_iff I (c := (c : Int)) (k := (pre.length : Int)) (by omega) (by omega) (by omega) (by omega)).mpr (by omega)
    omega
theorem st_blk (hC : jC (jK_all S K 0 cs) S cs.length cl sz st dp tp va nb g) (hj : cs[j]? = some cu) : ∃ pre post, jK_all S K 0 cs = pre ++ ((jK_cl S K cu).map (fun p => (p.1, p.2, j)) ++ post) ∧ st (j : Int) = (pre.length : Int) ∧ st ((j : Int) + 1) = (pre.length : Int) + ((jK_cl S K cu).length : Int) := by
  have hjl : j < cs.length := (List.getElem?_eq_some_iff.mp hj).1
  obtain ⟨pre, post, h1, h2, h3⟩ := all_split (S := S) (K := K) cs 0 j cu hj
  rw [Nat.zero_add] at h1 h2 h3
  refine ⟨pre, post, h1, st_at hC (by omega) h1 h2 (fun p hp => ?_), ?_⟩
  · rcases List.mem_append.mp hp with hp | hp
    · obtain ⟨q, _, rfl⟩ := List.mem_map.mp hp
      exact Nat.le_refl _
    · exact Nat.le_of_lt (h3 p hp)
  · rw [← List.append_assoc] at h1
    have := st_at hC (c := j + 1) (by omega) h1 (fun p hp => by
      rcases List.mem_append.mp hp with hp | hp
      · have := h2 p hp
        omega
      · obtain ⟨q, _, rfl⟩ := List.mem_map.mp hp
        exact Nat.lt_succ_self _) (fun p hp => h3 p hp)
    rw [List.length_append, List.length_map] at this
    rw [show (j : Int) + 1 = ((j + 1 : Nat) : Int) by omega, this]
    omega
end QC
