/-! the listing of all clusters: an entry begins the block of its tree -/
section AL
variable {S : jl_S} {K : jl_K}
theorem cl_dep {cu : Nat} : ∀ p ∈ jK_cl S K cu, p.2 < 4 := by
  intro p hp
  rcases List.mem_append.mp (show p ∈ jK_tl S K cu ++ (jK_pd K cu).flatMap (fun b => jS_fl S 3 b 1) from hp) with hp | hp
  · unfold jK_tl at hp
    split at hp
    · exact absurd hp List.not_mem_nil
    · have := fl_dep 3 _ 0 p hp
      omega
  · obtain ⟨b, _, hpb⟩ := List.mem_flatMap.mp hp
    have := fl_dep 3 b 1 p hpb
    omega
theorem all_mem : ∀ (cs : List Nat) (c0 : Nat), ∀ p ∈ jK_all S K c0 cs, ∃ cu ∈ cs, (p.1, p.2.1) ∈ jK_cl S K cu ∧ c0 ≤ p.2.2 ∧ p.2.2 < c0 + cs.length := by
  intro cs
  induction cs with
  | nil => intro c0 p hp; exact absurd hp List.not_mem_nil
  | cons cu cs ih =>
    intro c0 p hp
    rcases List.mem_append.mp (show p ∈ (jK_cl S K cu).map (fun p => (p.1, p.2, c0)) ++ jK_all S K (c0 + 1) cs from hp) with hp | hp
    · obtain ⟨q, hq, rfl⟩ := List.mem_map.mp hp
      exact ⟨cu, List.mem_cons_self .., hq, Nat.le_refl _, by rw [List.length_cons]; show c0 < _; omega⟩
    · obtain ⟨d, hd, h1, h2, h3⟩ := ih (c0 + 1) p hp
      exact ⟨d, List.mem_cons_of_mem _ hd, h1, by omega, by rw [List.length_cons]; omega⟩
theorem fo_hd {D k : Nat} : ∀ (l : List Nat) (q : Nat × Nat), (l.flatMap (fun b => jS_fl S (D + 1) b k)).head? = some q → q.2 = k := by
  intro l q hq
  cases l with
  | nil => cases hq
  | cons b l =>
    have hh : ((b :: l).flatMap (fun b => jS_fl S (D + 1) b k)).head? = some (b, k) := rfl
    rw [hh] at hq
    rw [← Option.some.inj hq]
theorem cl_hd {cu : Nat} {q : Nat × Nat} (hq : (jK_cl S K cu).head? = some q) : q.2 ≤ 1 := by
  unfold jK_cl jK_tl at hq
  split at hq
  · rw [List.nil_append] at hq
    rw [fo_hd (D := 2) _ _ hq]
    exact Nat.le_refl _
  · rename_i t _
    have hh : (jS_fl S 3 t 0 ++ (jK_pd K cu).flatMap (fun b => jS_fl S 3 b 1)).head? = some (t, 0) := rfl
    rw [hh] at hq
    rw [← Option.some.inj hq]
    exact Nat.zero_le _
theorem all_hd : ∀ (cs : List Nat) (c0 : Nat) (q : Nat × Nat × Nat), (jK_all S K c0 cs).head? = some q → q.2.1 ≤ 1 := by
  intro cs
  induction cs with
  | nil => intro c0 q hq; cases hq
  | cons cu cs ih =>
    intro c0 q hq
    rw [show jK_all S K c0 (cu :: cs) = (jK_cl S K cu).map (fun p => (p.1, p.2, c0)) ++ jK_all S K (c0 + 1) cs from rfl] at hq
    cases hc : jK_cl S K cu with
    | nil =>
      rw [hc, List.map_nil, List.nil_append] at hq
      exact ih _ q hq
    | cons p ps =>
      rw [hc, List.map_cons, List.cons_append] at hq
      rw [← Option.some.inj hq]
      exact cl_hd (cu := cu) (q := p) (by rw [hc]; rfl)
/-- within a cluster -/
theorem cl_at {cu i x d : Nat} (ht : ∀ t, jK_tp K cu = some t → jS_ch S t = []) (h : (jK_cl S K cu)[i]? = some (x, d)) : ∃ (D' : Nat) (pre post : List (Nat × Nat)), jK_cl S K cu = pre ++ (jS_fl S D' x d ++ post) ∧ pre.length = i ∧ (1 ≤ d → ∀ q, post.head? = some q → q.2 ≤ d) ∧ (((∀ b ∈ jK_pd K cu, jS_hgt S 3 b) ∧ ∀ t, jK_tp K cu = some t → jS_hgt S 3 t) → jS_hgt S D' x) ∧ D' ≤ 3 ∧ (d = 0 → jS_fl S D' x d = [(x, 0)]) ∧ 0 < D' := by
  have hdef : jK_cl S K cu = jK_tl S K cu ++ (jK_pd K cu).flatMap (fun b => jS_fl S 3 b 1) := rfl
  rw [hdef] at h
  rcases Nat.lt_or_ge i (jK_tl S K cu).length with hi | hi
  · rw [List.getElem?_append_left hi] at h
    cases htc : jK_tp K cu with
    | none =>
      have : jK_tl S K cu = [] := by unfold jK_tl; rw [htc]
      rw [this] at h
      cases h
    | some t =>
      have he : jK_tl S K cu = [(t, 0)] := by
        unfold jK_tl
        rw [htc]
        show (t, 0) :: (jS_ch S t).flatMap (fun b => jS_fl S 2 b (0 + 1)) = [(t, 0)]
        rw [ht t htc]
        rfl
      rw [he] at h hi
      have hi0 : i = 0 := by
        have : [(t, 0)].length = 1 := rfl
        omega
      subst hi0
      cases Option.some.inj h
      have hf : jS_fl S 3 x 0 = [(x, 0)] := by
        show (x, 0) :: (jS_ch S x).flatMap (fun b => jS_fl S 2 b (0 + 1)) = [(x, 0)]
        rw [ht x htc]
        rfl
      exact ⟨3, [], (jK_pd K cu).flatMap (fun b => jS_fl S 3 b 1), by rw [hdef, he, hf]; rfl, rfl, fun h1 => absurd h1 (by omega), fun hh => hh.2 x rfl, Nat.le_refl _, fun _ => hf, by decide⟩
  · rw [List.getElem?_append_right hi] at h
    obtain ⟨D', pre, post, h1, h2, h3, h4, h5, h6⟩ := fo_at (S := S) 3 1 (fun a i y e => fl_at 3 a 1 i y e) (jK_pd K cu) _ x d h
    exact ⟨D', jK_tl S K cu ++ pre, post, by rw [hdef, h2, List.append_assoc], by rw [List.length_append, h3]; omega, fun _ => h4, fun hh => h5 hh.1, by omega, fun h0 => absurd h6.1 (by omega), h6.2⟩
theorem all_at : ∀ (cs : List Nat) (c0 k x d c : Nat), (∀ cu ∈ cs, ∀ t, jK_tp K cu = some t → jS_ch S t = []) → (jK_all S K c0 cs)[k]? = some (x, d, c) → ∃ (D' : Nat) (pre post : List (Nat × Nat × Nat)), jK_all S K c0 cs = pre ++ ((jS_fl S D' x d).map (fun p => (p.1, p.2, c)) ++ post) ∧ pre.length = k ∧ (1 ≤ d → ∀ q, post.head? = some q → q.2.1 ≤ d) ∧ ((∀ cu ∈ cs, (∀ b ∈ jK_pd K cu, jS_hgt S 3 b) ∧ ∀ t, jK_tp K cu = some t → jS_hgt S 3 t) → jS_hgt S D' x) ∧ D' ≤ 3 ∧ (d = 0 → jS_fl S D' x d = [(x, 0)]) ∧ c0 ≤ c ∧ c < c0 + cs.length ∧ 0 < D' := by
  intro cs
  induction cs with
  | nil => intro c0 k x d c _ h; rw [show jK_all S K c0 [] = [] from rfl, List.getElem?_nil] at h; cases h
  | cons cu cs ih =>
    intro c0 k x d c ht h
    have hdef : jK_all S K c0 (cu :: cs) = (jK_cl S K cu).map (fun p => (p.1, p.2, c0)) ++ jK_all S K (c0 + 1) cs := rfl
    rw [hdef] at h
    rcases Nat.lt_or_ge k ((jK_cl S K cu).map (fun p => (p.1, p.2, c0))).length with hk | hk
    · rw [List.getElem?_append_left hk, List.getElem?_map] at h
      cases hp : (jK_cl S K cu)[k]? with
      | none => rw [hp] at h; cases h
      | some p =>
        rw [hp] at h
        obtain ⟨px, pd⟩ := p
        cases Option.some.inj h
        obtain ⟨D', pre, post, h1, h2, h3, h4, h5, h6⟩ := cl_at (ht cu (List.mem_cons_self ..)) hp
        refine ⟨D', pre.map (fun p => (p.1, p.2, c0)), post.map (fun p => (p.1, p.2, c0)) ++ jK_all S K (c0 + 1) cs, ?_, by rw [List.length_map, h2], fun hd q hq => ?_, fun hh => h4 (hh cu (List.mem_cons_self ..)), h5, h6.1, Nat.le_refl _, by rw [List.length_cons]; omega, h6.2⟩
        · rw [hdef, h1, List.map_append, List.map_append, List.append_assoc, List.append_assoc]
        · cases post with
          | nil =>
            rw [List.map_nil, List.nil_append] at hq
            have := all_hd cs (c0 + 1) q hq
            omega
          | cons p ps =>
            rw [List.map_cons, List.cons_append] at hq
            rw [← Option.some.inj hq]
            exact h3 hd p rfl
    · rw [List.getElem?_append_right hk] at h
      obtain ⟨D', pre, post, h1, h2, h3, h4, h5, h6, h7, h8, h9⟩ := ih (c0 + 1) _ x d c (fun u hu => ht u (List.mem_cons_of_mem _ hu)) h
      refine ⟨D', (jK_cl S K cu).map (fun p => (p.1, p.2, c0)) ++ pre, post, ?_, ?_, h3, fun hh => h4 (fun u hu => hh u (List.mem_cons_of_mem _ hu)), h5, h6, by omega, by rw [List.length_cons]; omega, h9⟩
      · rw [hdef, h1, List.append_assoc]
      · rw [List.length_append, h2]
        omega
end AL
