/-! a cord cut off: the trees -/
def jCg (S : jl_S) (x : Nat) : Nat → Nat → Nat → List (Nat × Nat) := fun D b k => if b = x then [] else jS_fl (jS_f S x) D b k
def jDp (L : List (Nat × Nat × Nat)) (o : Nat) : Nat := ((L.find? (fun p => decide (p.1 = o))).map (fun p => p.2.1)).getD 0
section CT
variable {S : jl_S} {K : jl_K} {P : Nat → Prop} {cs : List Nat} {x : Nat}
theorem fm_flt {f : Nat → List (Nat × Nat)} : ∀ l : List Nat, (l.filter (fun y => decide (y ≠ x))).flatMap f = l.flatMap (fun b => if b = x then [] else f b) := by
  intro l
  induction l with
  | nil => rfl
  | cons b l ih =>
    rw [List.filter_cons, List.flatMap_cons]
    by_cases e : b = x
    · rw [if_neg (by simp [e]), ih, if_pos e, List.nil_append]
    · rw [if_pos (by simp [e]), List.flatMap_cons, ih, if_neg e]
theorem G_cut (hc : ∀ a, P a → ∀ b ∈ jS_ch S a, P b) : jG S (jCg S x) x P := ⟨hc, fun D a k ha hax => by
  have e : jCg S x (D + 1) a k = jS_fl (jS_f S x) (D + 1) a k := if_neg hax
  rw [e]
  show (a, k) :: ((jS_ch S a).filter (fun y => decide (y ≠ x))).flatMap (fun b => jS_fl (jS_f S x) D b (k + 1)) = _
  rw [fm_flt]
  rfl⟩
theorem cl_cut {cu : Nat} : jK_cl (jS_f S x) (jK_f K x) cu = jGc K (jCg S x) cu := by
  have e1 : jK_tl (jS_f S x) (jK_f K x) cu = jGt K (jCg S x) cu := by
    unfold jK_tl jGt
    rw [show jK_tp (jK_f K x) cu = if jK_tp K cu = some x then none else jK_tp K cu from rfl]
    cases h : jK_tp K cu with
    | none =>
      rw [if_neg (fun z => by cases z)]
    | some t =>
      by_cases e : t = x
      · rw [if_pos (by rw [e])]
        exact (if_pos e).symm
      · rw [if_neg (fun z => e (Option.some.inj z))]
        exact (if_neg e).symm
  show jK_tl (jS_f S x) (jK_f K x) cu ++ ((jK_pd K cu).filter (fun y => decide (y ≠ x))).flatMap (fun b => jS_fl (jS_f S x) 3 b 1) = jGt K (jCg S x) cu ++ _
  rw [e1, fm_flt]
  rfl
theorem hgt_cut : ∀ (D a : Nat), jS_hgt S D a → jS_hgt (jS_f S x) D a := by
  intro D
  induction D with
  | zero => exact fun _ h => h
  | succ D ih => exact fun a h b hb => ih b (h b (List.mem_filter.mp hb).1)
theorem dp_at {L : List (Nat × Nat × Nat)} (hn : (jl_lo L).Nodup) {p : Nat × Nat × Nat} (h : p ∈ L) : jDp L p.1 = p.2.1 := by
  unfold jDp
  cases hf : L.find? (fun q => decide (q.1 = p.1)) with
  | none =>
    have := List.find?_eq_none.mp hf p h
    simp at this
  | some q =>
    have h1 := List.find?_some hf
    have h2 := lo_un hn (List.mem_of_find?_eq_some hf) h (of_decide_eq_true h1)
    rw [h2]
    rfl
/-- a cord's subsidiary stands behind it, with deeper ones alone between -/
theorem child_at (ht : ∀ cu ∈ cs, ∀ t, jK_tp K cu = some t → jS_ch S t = []) (hh : ∀ cu ∈ cs, (∀ b ∈ jK_pd K cu, jS_hgt S 3 b) ∧ ∀ t, jK_tp K cu = some t → jS_hgt S 3 t) {i o d c b : Nat} (hi : (jK_all S K 0 cs)[i]? = some (o, d, c)) (hb : b ∈ jS_ch S o) : 1 ≤ d ∧ ∃ m, i < m ∧ (jK_all S K 0 cs)[m]? = some (b, d + 1, c) ∧ ∀ n, i < n → n ≤ m → ∀ q, (jK_all S K 0 cs)[n]? = some q → d < q.2.1 := by
  obtain ⟨D', pre, post, h1, h2, -, h4, -, h6, -, -, h9⟩ := all_at cs 0 i o d c ht hi
  have hg := h4 hh
  obtain ⟨E, rfl⟩ : ∃ E, D' = E + 1 := ⟨D' - 1, by omega⟩
  have hgb : jS_hgt S E b := hg b hb
  obtain ⟨F, rfl⟩ : ∃ F, E = F + 1 := ⟨E - 1, by
    cases E with
    | zero => exact absurd hgb id
    | succ E => omega⟩
  have hfl : jS_fl S (F + 1 + 1) o d = (o, d) :: (jS_ch S o).flatMap (fun b => jS_fl S (F + 1) b (d + 1)) := rfl
  have hbm : (b, d + 1) ∈ (jS_ch S o).flatMap (fun b => jS_fl S (F + 1) b (d + 1)) := List.mem_flatMap.mpr ⟨b, hb, List.mem_cons_self ..⟩
  obtain ⟨m, hm⟩ := List.getElem?_of_mem hbm
  have hget : ∀ (n : Nat) (q : Nat × Nat), ((jS_ch S o).flatMap (fun b => jS_fl S (F + 1) b (d + 1)))[n]? = some q → (jK_all S K 0 cs)[i + 1 + n]? = some (q.1, q.2, c) := fun n q hq => by
    have hnl := (List.getElem?_eq_some_iff.mp hq).1
    rw [h1, List.getElem?_append_right (by omega), show i + 1 + n - pre.length = n + 1 by omega, List.getElem?_append_left (by rw [List.length_map, hfl, List.length_cons]; omega), List.getElem?_map, hfl, List.getElem?_cons_succ, hq]
    rfl
  refine ⟨?_, i + 1 + m, by omega, hget m _ hm, fun n hn1 hn2 q hq => ?_⟩
  · rcases Nat.eq_zero_or_pos d with h0 | h0
    · have e := congrArg List.length (h6 h0)
      rw [hfl, List.length_cons] at e
      have := (List.getElem?_eq_some_iff.mp hm).1
      have e2 : ([(o, 0)] : List (Nat × Nat)).length = 1 := rfl
      omega
    · exact h0
  · have hml := (List.getElem?_eq_some_iff.mp hm).1
    have hlt : n - i - 1 < ((jS_ch S o).flatMap (fun b => jS_fl S (F + 1) b (d + 1))).length := by omega
    have h7 := hget (n - i - 1) _ (List.getElem?_eq_getElem hlt)
    rw [show i + 1 + (n - i - 1) = n by omega, hq] at h7
    obtain ⟨b', _, hb'⟩ := List.mem_flatMap.mp (List.getElem_mem hlt)
    have h8 := (fl_dep (F + 1) b' (d + 1) _ hb').1
    rw [Option.some.inj h7]
    exact h8
theorem par_un (T : jT S K cs) {i o d c i' o' d' c' : Nat} (h1 : (jK_all S K 0 cs)[i]? = some (o, d, c)) (h2 : (jK_all S K 0 cs)[i']? = some (o', d', c')) (hx : x ∈ jS_ch S o) (hx' : x ∈ jS_ch S o') : o = o' := by
  obtain ⟨e1, m, a1, a2, a3⟩ := child_at T.2.2.2.1 T.2.2.2.2.1 h1 hx
  obtain ⟨e1', m', a1', a2', a3'⟩ := child_at T.2.2.2.1 T.2.2.2.2.1 h2 hx'
  obtain rfl := lo_inj T.1 a2 a2' rfl
  have e2 : d + 1 = d' + 1 := congrArg (fun p : Nat × Nat × Nat => p.2.1) (Option.some.inj (a2.symm.trans a2'))
  rcases Nat.lt_trichotomy i i' with h | h | h
  · have : d < d' := a3 i' h (by omega) _ h2
    omega
  · rw [h, h2] at h1
    exact (congrArg Prod.fst (Option.some.inj h1)).symm
  · have : d' < d := a3' i h (by omega) _ h1
    omega
theorem pd_at {j u b : Nat} (hj : cs[j]? = some u) (hb : b ∈ jK_pd K u) : (b, 1, j) ∈ jK_all S K 0 cs := all_in (p := (b, 1)) hj (List.mem_append_right _ (List.mem_flatMap.mpr ⟨b, hb, List.mem_cons_self ..⟩))
theorem ls_un (T : jT S K cs) {o o' : Nat} (ho : o ∈ jl_lo (jK_all S K 0 cs) ∨ o ∈ cs) (ho' : o' ∈ jl_lo (jK_all S K 0 cs) ∨ o' ∈ cs) (hx : x ∈ jw_ls S K cs o) (hx' : x ∈ jw_ls S K cs o') : o = o' := by
  have hmix : ∀ {u o' : Nat}, u ∈ cs → x ∈ jK_pd K u → o' ∈ jl_lo (jK_all S K 0 cs) → x ∈ jS_ch S o' → False := fun {u o'} hu hxu ho' hx' => by
    obtain ⟨j, hj⟩ := List.getElem?_of_mem hu
    obtain ⟨i, d, c, hi⟩ := lo_at ho'
    obtain ⟨e1, m, a1, a2, a3⟩ := child_at T.2.2.2.1 T.2.2.2.2.1 hi hx'
    have h := lo_un T.1 (pd_at hj hxu) (List.mem_of_getElem? a2) rfl
    have h : 1 = d + 1 := congrArg (fun p : Nat × Nat × Nat => p.2.1) h
    omega
  by_cases c1 : o ∈ cs
  · rw [jw_ls_c c1] at hx
    by_cases c2 : o' ∈ cs
    · rw [jw_ls_c c2] at hx'
      obtain ⟨j, hj⟩ := List.getElem?_of_mem c1
      obtain ⟨j', hj'⟩ := List.getElem?_of_mem c2
      have h := lo_un T.1 (pd_at hj hx) (pd_at hj' hx') rfl
      have h : j = j' := congrArg (fun p : Nat × Nat × Nat => p.2.2) h
      rw [h, hj'] at hj
      exact (Option.some.inj hj).symm
    · rw [jw_ls_n c2] at hx'
      exact (hmix c1 hx (ho'.resolve_right c2) hx').elim
  · rw [jw_ls_n c1] at hx
    by_cases c2 : o' ∈ cs
    · rw [jw_ls_c c2] at hx'
      exact (hmix c2 hx' (ho.resolve_right c1) hx).elim
    · rw [jw_ls_n c2] at hx'
      obtain ⟨i, d, c, hi⟩ := lo_at (ho.resolve_right c1)
      obtain ⟨i', d', c', hi'⟩ := lo_at (ho'.resolve_right c2)
      exact par_un T hi hi' hx hx'
theorem fo_ndl {D k : Nat} : ∀ l : List Nat, ((l.flatMap (fun b => jS_fl S (D + 1) b k)).map (fun p => p.1)).Nodup → l.Nodup := by
  intro l
  induction l with
  | nil => exact fun _ => List.nodup_nil
  | cons b l ih =>
    intro h
    rw [List.flatMap_cons, List.map_append] at h
    obtain ⟨n1, n2, n3⟩ := List.nodup_append.mp h
    refine List.nodup_cons.mpr ⟨fun hb => ?_, ih n2⟩
    exact n3 b (List.mem_map.mpr ⟨(b, k), List.mem_cons_self .., rfl⟩) b (List.mem_map.mpr ⟨(b, k), List.mem_flatMap.mpr ⟨b, hb, List.mem_cons_self ..⟩, rfl⟩) rfl
theorem ch_nd (T : jT S K cs) {i o d c : Nat} (hi : (jK_all S K 0 cs)[i]? = some (o, d, c)) : (jS_ch S o).Nodup ∧ (jS_ch S o).length ≤ (jK_all S K 0 cs).length := by
  obtain ⟨D', pre, post, h1, h2, -, h4, -, h6, -, -, h9⟩ := all_at cs 0 i o d c T.2.2.2.1 hi
  have hg := h4 T.2.2.2.2.1
  have hn := T.1
  have hl := congrArg List.length h1
  rw [List.length_append, List.length_append, List.length_map] at hl
  rw [h1, lo_app, lo_app, lo_mp] at hn
  have hn2 := (List.nodup_append.mp (List.nodup_append.mp hn).2.1).1
  obtain ⟨E, rfl⟩ : ∃ E, D' = E + 1 := ⟨D' - 1, by omega⟩
  have hn2 : (((o, d) :: (jS_ch S o).flatMap (fun b => jS_fl S E b (d + 1))).map (fun p => p.1)).Nodup := hn2
  rw [List.map_cons, List.nodup_cons] at hn2
  have hl2 : (jS_fl S (E + 1) o d).length = ((jS_ch S o).flatMap (fun b => jS_fl S E b (d + 1))).length + 1 := rfl
  cases E with
  | zero =>
    have h0 : jS_ch S o = [] := by
      cases hc : jS_ch S o with
      | nil => rfl
      | cons b l => exact absurd (hg b (by rw [hc]; exact List.mem_cons_self ..)) id
    rw [h0]
    exact ⟨List.nodup_nil, Nat.zero_le _⟩
  | succ F =>
    have := fo_len (S := S) (D := F) (e := d + 1) (jS_ch S o)
    exact ⟨fo_ndl _ hn2.2, by omega⟩
theorem pd_nd (T : jT S K cs) {u : Nat} (hu : u ∈ cs) : (jK_pd K u).Nodup ∧ (jK_pd K u).length ≤ (jK_all S K 0 cs).length := by
  obtain ⟨j, hj⟩ := List.getElem?_of_mem hu
  obtain ⟨pre, post, h1, -, -⟩ := all_split (S := S) (K := K) cs 0 j u hj
  have hn := T.1
  have hl := congrArg List.length h1
  rw [List.length_append, List.length_append, List.length_map] at hl
  rw [h1, lo_app, lo_app, lo_mp] at hn
  have hn2 := (List.nodup_append.mp (List.nodup_append.mp hn).2.1).1
  have hd : jK_cl S K u = jK_tl S K u ++ (jK_pd K u).flatMap (fun b => jS_fl S 3 b 1) := rfl
  rw [hd, List.map_append] at hn2
  have hl2 := congrArg List.length hd
  rw [List.length_append] at hl2
  have hfo : (jK_pd K u).length ≤ ((jK_pd K u).flatMap (fun b => jS_fl S 3 b 1)).length := fo_len (S := S) (D := 2) (e := 1) (jK_pd K u)
  exact ⟨fo_ndl (D := 2) (k := 1) _ (List.nodup_append.mp hn2).2.1, by omega⟩
/-- the way from a cluster down to a cord -/
theorem fo_in {D k : Nat} : ∀ (l : List Nat) (i : Nat) (p : Nat × Nat), (l.flatMap (fun b => jS_fl S D b k))[i]? = some p → ∃ b ∈ l, ∃ i' : Nat, (jS_fl S D b k)[i']? = some p ∧ ∀ n : Nat, n ≤ i' → ∃ n' : Nat, n' ≤ i ∧ ∀ q : Nat × Nat, (jS_fl S D b k)[n]? = some q → (l.flatMap (fun b => jS_fl S D b k))[n']? = some q := by
  intro l
  induction l with
  | nil => intro i p h; rw [List.flatMap_nil, List.getElem?_nil] at h; cases h
  | cons b l ih =>
    intro i p h
    rw [List.flatMap_cons] at h
    rcases Nat.lt_or_ge i (jS_fl S D b k).length with hlt | hge
    · rw [List.getElem?_append_left hlt] at h
      refine ⟨b, List.mem_cons_self .., i, h, fun n hn => ⟨n, hn, fun q hq => ?_⟩⟩
      rw [List.flatMap_cons, List.getElem?_append_left (by omega)]
      exact hq
    · rw [List.getElem?_append_right hge] at h
      obtain ⟨b', hb', i', h1, h2⟩ := ih _ p h
      refine ⟨b', List.mem_cons_of_mem _ hb', i', h1, fun n hn => ?_⟩
      obtain ⟨n', hn', h3⟩ := h2 n hn
      refine ⟨n' + (jS_fl S D b k).length, by omega, fun q hq => ?_⟩
      rw [List.flatMap_cons, List.getElem?_append_right (by omega), Nat.add_sub_cancel]
      exact h3 q hq
theorem rch_in {ls : Nat → List Nat} (hc : ∀ a, P a → ∀ b ∈ jS_ch S a, P b) (hls : ∀ a, P a → ls a = jS_ch S a) : ∀ (D a k i o e : Nat), P a → (jS_fl S D a k)[i]? = some (o, e) → (∀ n, n ≤ i → ∀ q, (jS_fl S D a k)[n]? = some q → q.1 ≠ x) → jX_rch ls x D a o := by
  intro D
  induction D with
  | zero => intro a k i o e _ h; rw [show jS_fl S 0 a k = [] from rfl, List.getElem?_nil] at h; cases h
  | succ D ih =>
    intro a k i o e ha h hx
    have hd : jS_fl S (D + 1) a k = (a, k) :: (jS_ch S a).flatMap (fun b => jS_fl S D b (k + 1)) := rfl
    cases i with
    | zero =>
      rw [hd] at h
      exact Or.inl (congrArg Prod.fst (Option.some.inj h))
    | succ i =>
      rw [hd, List.getElem?_cons_succ] at h
      obtain ⟨b, hb, i', h1, h2⟩ := fo_in _ _ _ h
      have hx2 : ∀ n, n ≤ i' → ∀ q, (jS_fl S D b (k + 1))[n]? = some q → q.1 ≠ x := fun n hn q hq => by
        obtain ⟨n', hn', h3⟩ := h2 n hn
        refine hx (n' + 1) (by omega) q ?_
        rw [hd, List.getElem?_cons_succ]
        exact h3 q hq
      have hbx : b ≠ x := by
        cases D with
        | zero => rw [show jS_fl S 0 b (k + 1) = [] from rfl, List.getElem?_nil] at h1; cases h1
        | succ D => exact hx2 0 (Nat.zero_le _) (b, k + 1) rfl
      exact Or.inr ⟨b, by rw [hls a ha]; exact hb, hbx, ih b (k + 1) i' o e (hc a ha b hb) h1 hx2⟩
theorem all_tree : ∀ (cs : List Nat) (c0 i o d c : Nat), (∀ cu ∈ cs, ∀ t, jK_tp K cu = some t → jS_ch S t = []) → (jK_all S K c0 cs)[i]? = some (o, d, c) → 1 ≤ d → ∃ u ∈ cs, ∃ b ∈ jK_pd K u, ∃ i' : Nat, (jS_fl S 3 b 1)[i']? = some (o, d) ∧ ∀ n : Nat, n ≤ i' → ∃ n' : Nat, n' ≤ i ∧ ∀ q : Nat × Nat, (jS_fl S 3 b 1)[n]? = some q → ∃ c', (jK_all S K c0 cs)[n']? = some (q.1, q.2, c') := by
  intro cs
  induction cs with
  | nil => intro c0 i o d c _ h; rw [show jK_all S K c0 [] = [] from rfl, List.getElem?_nil] at h; cases h
  | cons u cs ih =>
    intro c0 i o d c ht h hd1
    have hd : jK_all S K c0 (u :: cs) = (jK_cl S K u).map (fun p => (p.1, p.2, c0)) ++ jK_all S K (c0 + 1) cs := rfl
    have hcd : jK_cl S K u = jK_tl S K u ++ (jK_pd K u).flatMap (fun b => jS_fl S 3 b 1) := rfl
    rw [hd] at h
    rcases Nat.lt_or_ge i ((jK_cl S K u).map (fun p => (p.1, p.2, c0))).length with hlt | hge
    · rw [List.getElem?_append_left hlt, List.getElem?_map] at h
      cases hp : (jK_cl S K u)[i]? with
      | none => rw [hp] at h; cases h
      | some p =>
        rw [hp] at h
        have e0 : (p.1, p.2, c0) = (o, d, c) := Option.some.inj h
        have e1 : p.1 = o := congrArg Prod.fst e0
        have e2 : p.2 = d := congrArg (fun q : Nat × Nat × Nat => q.2.1) e0
        have hil := (List.getElem?_eq_some_iff.mp hp).1
        rw [hcd] at hp
        rcases Nat.lt_or_ge i (jK_tl S K u).length with hl2 | hg2
        · rw [List.getElem?_append_left hl2] at hp
          cases htp : jK_tp K u with
          | none => rw [cl_tn htp] at hp; cases hp
          | some t =>
            rw [cl_top (ht u (List.mem_cons_self ..) t htp) htp] at hp
            have hm := List.mem_of_getElem? hp
            rw [List.mem_singleton] at hm
            rw [hm] at e2
            have e2 : 0 = d := e2
            omega
        · rw [List.getElem?_append_right hg2] at hp
          obtain ⟨b, hb, i', h1, h2⟩ := fo_in _ _ _ hp
          refine ⟨u, List.mem_cons_self .., b, hb, i', by rw [h1, ← e1, ← e2], fun n hn => ?_⟩
          obtain ⟨n', hn', h3⟩ := h2 n hn
          refine ⟨n' + (jK_tl S K u).length, by omega, fun q hq => ⟨c0, ?_⟩⟩
          have h4 : (jK_cl S K u)[n' + (jK_tl S K u).length]? = some q := by
            rw [hcd, List.getElem?_append_right (by omega), Nat.add_sub_cancel]
            exact h3 q hq
          rw [hd, List.getElem?_append_left (by rw [List.length_map]; omega), List.getElem?_map, h4]
          rfl
    · rw [List.getElem?_append_right hge] at h
      obtain ⟨u', hu', b, hb, i', h1, h2⟩ := ih (c0 + 1) _ o d c (fun v hv => ht v (List.mem_cons_of_mem _ hv)) h hd1
      refine ⟨u', List.mem_cons_of_mem _ hu', b, hb, i', h1, fun n hn => ?_⟩
      obtain ⟨n', hn', h3⟩ := h2 n hn
      refine ⟨n' + ((jK_cl S K u).map (fun p => (p.1, p.2, c0))).length, by omega, fun q hq => ?_⟩
      obtain ⟨c', h4⟩ := h3 q hq
      refine ⟨c', ?_⟩
      rw [hd, List.getElem?_append_right (by omega), Nat.add_sub_cancel]
      exact h4
theorem rch_to (T : jT S K cs) {o : Nat} (ho : o ∈ jl_lo (jK_all S K 0 cs) ∨ o ∈ cs) (hx : x ∈ jw_ls S K cs o) : ∃ u ∈ cs, jX_rch (jw_ls S K cs) x 4 u o := by
  by_cases c1 : o ∈ cs
  · exact ⟨o, c1, Or.inl rfl⟩
  · rw [jw_ls_n c1] at hx
    obtain ⟨i, d, c, hi⟩ := lo_at (ho.resolve_right c1)
    obtain ⟨e1, m, a1, a2, a3⟩ := child_at T.2.2.2.1 T.2.2.2.2.1 hi hx
    obtain ⟨u, hu, b, hb, i', h1, h2⟩ := all_tree cs 0 i o d c T.2.2.2.1 hi e1
    have hls : ∀ a, a ∈ jl_lo (jK_all S K 0 cs) → jw_ls S K cs a = jS_ch S a := fun a ha => jw_ls_n (T.2.2.2.2.2.1 a ha)
    have hx2 : ∀ n, n ≤ i' → ∀ q, (jS_fl S 3 b 1)[n]? = some q → q.1 ≠ x := fun n hn q hq e => by
      obtain ⟨n', hn', h3⟩ := h2 n hn
      obtain ⟨c', h4⟩ := h3 q hq
      have := lo_inj T.1 h4 a2 e
      omega
    exact ⟨u, hu, Or.inr ⟨b, by rw [jw_ls_c hu]; exact hb, hx2 0 (Nat.zero_le _) (b, 1) rfl, rch_in (P := fun a => a ∈ jl_lo (jK_all S K 0 cs)) T.cl hls 3 b 1 i' o d (pd_in hu hb) h1 hx2⟩⟩
/-- what the lists are -/
theorem cut_ok (T : jT S K cs) (h40 : (jK_all S K 0 cs).length ≤ 40) (hP : ∀ z, P z ↔ z ∈ jl_lo (jK_all S K 0 cs)) : ∃ (p : Nat) (od : Nat → Nat), jX_ok (jw_ls S K cs) x p od P (fun o => P o ∨ o ∈ cs) ∧ ∀ u ∈ cs, od u = 0 := by
  obtain ⟨p, hp⟩ : ∃ p, ∀ o, (P o ∨ o ∈ cs) → x ∈ jw_ls S K cs o → o = p := by
    by_cases h : ∃ o, (P o ∨ o ∈ cs) ∧ x ∈ jw_ls S K cs o
    · obtain ⟨p, h1, h2⟩ := h
      exact ⟨p, fun o ho hx => ls_un T (ho.imp (hP o).mp id) (h1.imp (hP p).mp id) hx h2⟩
    · exact ⟨0, fun o ho hx => absurd ⟨o, ho, hx⟩ h⟩
  have hod : ∀ z, z ∈ jl_lo (jK_all S K 0 cs) → ∀ d c, (z, d, c) ∈ jK_all S K 0 cs → (if z ∈ cs then 0 else jDp (jK_all S K 0 cs) z) = d := fun z hz d c h => by
    rw [if_neg (T.2.2.2.2.2.1 z hz)]
    exact dp_at T.1 h
  refine ⟨p, fun o => if o ∈ cs then 0 else jDp (jK_all S K 0 cs) o, ⟨fun y hy => Or.inl hy, fun o ho => ?_⟩, fun u hu => if_pos hu⟩
  dsimp only
  by_cases c1 : o ∈ cs
  · obtain ⟨n1, n2⟩ := pd_nd T c1
    refine ⟨by rw [if_pos c1]; omega, by rw [jw_ls_c c1]; exact n1, by rw [jw_ls_c c1]; omega, fun hx => hp o ho hx, fun y hy => ?_⟩
    rw [jw_ls_c c1] at hy
    have hyL : y ∈ jl_lo (jK_all S K 0 cs) := pd_in c1 hy
    obtain ⟨j, hj⟩ := List.getElem?_of_mem c1
    refine ⟨(hP y).mpr hyL, ?_⟩
    rw [hod y hyL 1 j (pd_at hj hy), if_pos c1]
  · have hoL := (hP o).mp (ho.resolve_right c1)
    obtain ⟨i, d, c, hi⟩ := lo_at hoL
    obtain ⟨n1, n2⟩ := ch_nd T hi
    have e := hod o hoL d c (List.mem_of_getElem? hi)
    have h4 : d < 4 := dep_lt (List.mem_of_getElem? hi)
    refine ⟨by omega, by rw [jw_ls_n c1]; exact n1, by rw [jw_ls_n c1]; omega, fun hx => hp o ho hx, fun y hy => ?_⟩
    rw [jw_ls_n c1] at hy
    have hyL := T.cl o hoL y hy
    obtain ⟨e1, m, a1, a2, a3⟩ := child_at T.2.2.2.1 T.2.2.2.2.1 hi hy
    refine ⟨(hP y).mpr hyL, ?_⟩
    rw [hod y hyL (d + 1) c (List.mem_of_getElem? a2), e]
end CT
section CT2
variable {cl sz tn : Int} {st dp tp va nb g : Int → Int}
theorem f_3 (I : pI cl sz tn st dp tp va nb g) {k : Int} (h0 : 0 ≤ k) (h1 : k < sz) (B C : Int) : fn_KR_perform cl sz st dp tp va nb 3 k B C = some (be sz dp k - k, cl, sz - (be sz dp k - k), rsz st (g k) cl (-(be sz dp k - k)), rem dp k (be sz dp k) sz, rem tp k (be sz dp k) sz, rem va k (be sz dp k) sz, rem nb k (be sz dp k) sz) ∧ pI cl (sz - (be sz dp k - k)) tn (rsz st (g k) cl (-(be sz dp k - k))) (rem dp k (be sz dp k) sz) (rem tp k (be sz dp k) sz) (rem va k (be sz dp k) sz) (rem nb k (be sz dp k) sz) (rem g k (be sz dp k) sz) := by
  have hcl := I.1.1
  have hsz := I.1.2.1
  obtain ⟨⟨g1, g2, g3, g4⟩, gd, -, -, -, -, gs1, gs2⟩ := I.2.2 k h0 h1
  obtain ⟨⟨b1, b2⟩, b3, b4⟩ := be_r I h0 h1
  have hle := be_le I h0 h1
  have s2 := pI_st I (c := g k + 1) (by omega) (by omega)
  constructor
  · unfold fn_KR_perform fn_Cords_remove
    (try simp (disch := omega) only [↓zk_lt, ↓zk_nl, ↓zk_eq, ↓zk_ne, ↓zk_ix, ↓zk_dv, ↓zk_bo, ↓zk_rg, ↓zk_get, ↓zk_set, Option.bind_some])
    rw [zk_bd (sp_be I h0 h1), zk_bd (sp_ca I h0 h1), zk_bd (sp_rem h0 b1 b2 hsz.2), zk_bd (sp_rem h0 b1 b2 hsz.2), zk_bd (sp_rem h0 b1 b2 hsz.2), zk_bd (sp_rem h0 b1 b2 hsz.2), zk_bd (sp_rsz g1 (by omega) hcl.2)]
    rw [show k - be sz dp k = -(be sz dp k - k) by omega, show sz + -(be sz dp k - k) = sz - (be sz dp k - k) by omega]
    rfl
  · refine pI_rem I h0 b1 hle h1 (fun h => ?_) (fun h => ?_)
    · by_cases x : dp k = 0
      · right
        have e : be sz dp k = k + 1 := by unfold be; rw [if_pos x]
        have hg := pI_g I (c := g k) (k := be sz dp k) g1 g2 (by omega) h
        obtain ⟨-, -, -, -, -, -, -, c2⟩ := I.2.2 (be sz dp k) (by omega) (by omega)
        have := c2 (by rw [hg]; omega)
        rw [e, show k + 1 - 1 = k by omega] at this
        rw [e]
        omega
      · left
        exact b4 (by omega) (by have := pI_st I (c := g k + 1) (by omega) (by omega); omega)
    · by_cases x : dp k = 0
      · right
        by_cases y : st (g k) < k
        · have := gs2 y; omega
        · omega
      · left
        exact b4 (by omega) (by have := pI_st I (c := g k + 1) (by omega) (by omega); omega)
end CT2
theorem jO_cut_N : jO_cut jN := by
  intro σ S K P cs h k x d c hk
  obtain ⟨⟨g, hC⟩, ⟨h10, h18, h19⟩, hG, hT, hP⟩ := h
  have I := hC.1
  have hsz := hC.2.2.1
  have h40 := I.1.2.1
  have hkl : k < (jK_all S K 0 cs).length := (List.getElem?_eq_some_iff.mp hk).1
  have k0 : (0 : Int) ≤ (k : Int) := by omega
  have k1 : (k : Int) < σ.S 12 := by omega
  have hKP' : ∀ cu ∈ cs, (∀ b ∈ jK_pd K cu, b ∈ jl_lo (jK_all S K 0 cs) ∧ jS_hgt S 3 b) ∧ ∀ t, jK_tp K cu = some t → t ∈ jl_lo (jK_all S K 0 cs) ∧ jS_hgt S 3 t := fun cu hc => ⟨fun b hb => ⟨pd_in hc hb, (hT.2.2.2.2.1 cu hc).1 b hb⟩, fun t ht => ⟨tp_in hc ht, (hT.2.2.2.2.1 cu hc).2 t ht⟩⟩
  obtain ⟨D', pre, post, g1, g2, g3, g4, g5⟩ := Ga_at (S' := jS_f S x) (K' := jK_f K x) (G_cut (P := fun a => a ∈ jl_lo (jK_all S K 0 cs)) hT.cl) cs 0 k d c hKP' hT.2.2.2.1 (fun cu _ => cl_cut) hT.1 hk
  rw [show jCg S x D' x d = [] from if_pos rfl] at g4
  have g4 : jK_all (jS_f S x) (jK_f K x) 0 cs = pre ++ post := g4
  obtain ⟨D2, pre2, post2, a1, a2, a3, a4, a5, a6, -, -, a9⟩ := all_at cs 0 k x d c hT.2.2.2.1 hk
  have hbe := be_blk hC hT.2.2.2.1 hk a1 a2 a3 a6 a9
  have hfl3 := fl_up D' 3 x d g5 g1.1
  rw [(fl_up D2 3 x d (a4 hT.2.2.2.2.1) a5).symm.trans hfl3] at hbe
  have hmany := many_fl (S := S) 3 x d
  rw [hfl3] at hmany
  have hlen := congrArg List.length g2
  rw [List.length_append, List.length_append, List.length_map] at hlen
  obtain ⟨w, H⟩ := pC_of I hG
  have hpb := pb_3 H (k := (k : Int)) ⟨by omega, by omega⟩ 0 0
  rw [if_pos ⟨k0, k1⟩] at hpb
  obtain ⟨hf, hI⟩ := f_3 I k0 k1 0 0
  have hbr := (be_r I k0 k1).1
  obtain ⟨z, hz, hr, hN⟩ := act_of h10 h18 h19 hpb hf
  obtain ⟨p, od, hok, hod⟩ := cut_ok (x := x) (P := P) hT (by omega) hP
  have hsub : ∀ y, y ∈ jl_lo (pre ++ post) → y ∈ jl_lo (jK_all S K 0 cs) := fun y hy => by
    rw [g2, lo_app, lo_app]
    rw [lo_app] at hy
    rcases List.mem_append.mp hy with hy | hy
    · exact List.mem_append_left _ hy
    · exact List.mem_append_right _ (List.mem_append_right _ hy)
  have hT' : jT (jS_f S x) (jK_f K x) cs := by
    obtain ⟨t1, t2, t3, t4, t5, t6, t7⟩ := id hT
    have htn : ∀ u t, jK_tp (jK_f K x) u = some t → jK_tp K u = some t := fun u t h => by
      rw [show jK_tp (jK_f K x) u = if jK_tp K u = some x then none else jK_tp K u from rfl] at h
      split at h
      · cases h
      · exact h
    unfold jT
    rw [g4]
    refine ⟨?_, t2, t3, fun u hu t ht => ?_, fun u hu => ⟨fun b hb => hgt_cut 3 b ((t5 u hu).1 b (List.mem_filter.mp hb).1), fun t ht => hgt_cut 3 t ((t5 u hu).2 t (htn u t ht))⟩, fun y hy => t6 y (hsub y hy), fun y hy => t7 y (hsub y hy)⟩
    · rw [g2, lo_app, lo_app] at t1
      obtain ⟨n1, n2, n3⟩ := List.nodup_append.mp t1
      rw [lo_app, List.nodup_append]
      exact ⟨n1, (List.nodup_append.mp n2).2.1, fun a ha b hb => n3 a ha b (List.mem_append_right _ hb)⟩
    · show (jS_ch S t).filter _ = []
      rw [t4 u hu t (htn u t ht)]
      rfl
  refine ⟨z, p, od, fun y => y ∈ jl_lo (pre ++ post), ?_, by rw [hr, hmany]; omega, by rw [hmany]; exact ⟨by omega, by omega⟩, hok, fun o ho hx => rch_to hT (ho.imp (hP o).mp id) hx, hod, fun y hy => (hP y).mpr (hsub y hy), fun y hy b hb => ?_, ?_⟩
  · unfold jf_cut fn_KR_cut
    exact cx_id.trans hz
  · have := hT'.cl
    rw [g4] at this
    exact this y hy b hb
  · refine hN _ _ _ _ ⟨rem g (k : Int) (be (σ.S 12) (σ.T 4) (k : Int)) (σ.S 12), ?_⟩ (pG_rem hG (by omega) (by omega)) hT' (fun y => by rw [g4])
    rw [g4]
    rw [g2] at hC
    exact C_rem hC (fun p _ => ⟨rfl, rfl, rfl⟩) (by rw [g3]) (by rw [List.length_map, g3, hbe]) hI
