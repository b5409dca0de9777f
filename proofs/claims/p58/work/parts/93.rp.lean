/-! a tree put in another's place: the listing changes there alone -/
/-- G lists as S does, but for x -/
def jG (S : jl_S) (G : Nat → Nat → Nat → List (Nat × Nat)) (x : Nat) (P : Nat → Prop) : Prop := (∀ a, P a → ∀ b ∈ jS_ch S a, P b) ∧ ∀ D a k, P a → a ≠ x → G (D + 1) a k = (a, k) :: (jS_ch S a).flatMap (fun b => G D b (k + 1))
def jGt (K : jl_K) (G : Nat → Nat → Nat → List (Nat × Nat)) (cu : Nat) : List (Nat × Nat) := match jK_tp K cu with
  | none => []
  | some t => G 3 t 0
def jGc (K : jl_K) (G : Nat → Nat → Nat → List (Nat × Nat)) (cu : Nat) : List (Nat × Nat) := jGt K G cu ++ (jK_pd K cu).flatMap (fun b => G 3 b 1)
section RP
variable {S S' : jl_S} {K K' : jl_K} {P : Nat → Prop} {G : Nat → Nat → Nat → List (Nat × Nat)} {x : Nat}
theorem G_no (h : jG S G x P) : ∀ (D a k : Nat), P a → jS_hgt S D a → x ∉ (jS_fl S D a k).map (fun p => p.1) → G D a k = jS_fl S D a k := by
  intro D
  induction D with
  | zero => intro a k _ hg; exact absurd hg id
  | succ D ih =>
    intro a k ha hg hx
    have hx : x ∉ ((a, k) :: (jS_ch S a).flatMap (fun b => jS_fl S D b (k + 1))).map (fun p => p.1) := hx
    rw [List.map_cons, List.mem_cons, not_or] at hx
    rw [h.2 D a k ha (fun z => hx.1 z.symm)]
    show (a, k) :: _ = (a, k) :: (jS_ch S a).flatMap (fun b => jS_fl S D b (k + 1))
    rw [fm_cg _ (fun b hb => ih b (k + 1) (h.1 a ha b hb) (hg b hb) (fun z => hx.2 ?_))]
    obtain ⟨p, hp, hpx⟩ := List.mem_map.mp z
    exact List.mem_map.mpr ⟨p, List.mem_flatMap.mpr ⟨b, hb, hp⟩, hpx⟩
theorem Gf_no (h : jG S G x P) {D k : Nat} : ∀ l : List Nat, (∀ b ∈ l, P b ∧ jS_hgt S D b) → x ∉ (l.flatMap (fun b => jS_fl S D b k)).map (fun p => p.1) → l.flatMap (fun b => G D b k) = l.flatMap (fun b => jS_fl S D b k) := fun l hl hx => fm_cg l (fun b hb => G_no h D b k (hl b hb).1 (hl b hb).2 (fun z => by
  obtain ⟨p, hp, hpx⟩ := List.mem_map.mp z
  exact hx (List.mem_map.mpr ⟨p, List.mem_flatMap.mpr ⟨b, hb, hp⟩, hpx⟩)))
theorem Gf_at (h : jG S G x P) {D k : Nat} (ih : ∀ (a i e : Nat), P a → jS_hgt S D a → ((jS_fl S D a k).map (fun p => p.1)).Nodup → (jS_fl S D a k)[i]? = some (x, e) → ∃ (D' : Nat) (pre post : List (Nat × Nat)), D' + e = D + k ∧ jS_fl S D a k = pre ++ (jS_fl S D' x e ++ post) ∧ pre.length = i ∧ G D a k = pre ++ (G D' x e ++ post) ∧ jS_hgt S D' x) : ∀ (l : List Nat) (i e : Nat), (∀ b ∈ l, P b ∧ jS_hgt S D b) → ((l.flatMap (fun b => jS_fl S D b k)).map (fun p => p.1)).Nodup → (l.flatMap (fun b => jS_fl S D b k))[i]? = some (x, e) → ∃ (D' : Nat) (pre post : List (Nat × Nat)), D' + e = D + k ∧ l.flatMap (fun b => jS_fl S D b k) = pre ++ (jS_fl S D' x e ++ post) ∧ pre.length = i ∧ l.flatMap (fun b => G D b k) = pre ++ (G D' x e ++ post) ∧ jS_hgt S D' x := by
  intro l
  induction l with
  | nil => intro i e _ _ hi; rw [List.flatMap_nil, List.getElem?_nil] at hi; cases hi
  | cons b l ihl =>
    intro i e hl hn hi
    rw [List.flatMap_cons, List.map_append] at hn
    obtain ⟨n1, n2, n3⟩ := List.nodup_append.mp hn
    rw [List.flatMap_cons] at hi
    obtain ⟨hPb, hgb⟩ := hl b (List.mem_cons_self ..)
    rcases Nat.lt_or_ge i (jS_fl S D b k).length with hlt | hge
    · rw [List.getElem?_append_left hlt] at hi
      obtain ⟨D', pre, post, h1, h2, h3, h4, h5⟩ := ih b i e hPb hgb n1 hi
      have hx : x ∉ (l.flatMap (fun b => jS_fl S D b k)).map (fun p => p.1) := fun z => n3 x (List.mem_map.mpr ⟨_, List.mem_of_getElem? hi, rfl⟩) x z rfl
      refine ⟨D', pre, post ++ l.flatMap (fun b => jS_fl S D b k), h1, ?_, h3, ?_, h5⟩
      · rw [List.flatMap_cons, h2, List.append_assoc, List.append_assoc]
      · rw [List.flatMap_cons, h4, Gf_no h l (fun c hc => hl c (List.mem_cons_of_mem _ hc)) hx, List.append_assoc, List.append_assoc]
    · rw [List.getElem?_append_right hge] at hi
      obtain ⟨D', pre, post, h1, h2, h3, h4, h5⟩ := ihl _ e (fun c hc => hl c (List.mem_cons_of_mem _ hc)) n2 hi
      have hx : x ∉ (jS_fl S D b k).map (fun p => p.1) := fun z => n3 x z x (List.mem_map.mpr ⟨_, List.mem_of_getElem? hi, rfl⟩) rfl
      refine ⟨D', jS_fl S D b k ++ pre, post, h1, ?_, ?_, ?_, h5⟩
      · rw [List.flatMap_cons, h2, List.append_assoc]
      · rw [List.length_append, h3]; omega
      · rw [List.flatMap_cons, h4, G_no h D b k hPb hgb hx, List.append_assoc]
theorem G_at (h : jG S G x P) : ∀ (D a k i e : Nat), P a → jS_hgt S D a → ((jS_fl S D a k).map (fun p => p.1)).Nodup → (jS_fl S D a k)[i]? = some (x, e) → ∃ (D' : Nat) (pre post : List (Nat × Nat)), D' + e = D + k ∧ jS_fl S D a k = pre ++ (jS_fl S D' x e ++ post) ∧ pre.length = i ∧ G D a k = pre ++ (G D' x e ++ post) ∧ jS_hgt S D' x := by
  intro D
  induction D with
  | zero => intro a k i e _ hg; exact absurd hg id
  | succ D ih =>
    intro a k i e ha hg hn hi
    have hd : jS_fl S (D + 1) a k = (a, k) :: (jS_ch S a).flatMap (fun b => jS_fl S D b (k + 1)) := rfl
    cases i with
    | zero =>
      rw [hd] at hi
      have e1 : (a, k) = (x, e) := Option.some.inj hi
      cases e1
      exact ⟨D + 1, [], [], rfl, by rw [List.nil_append, List.append_nil], rfl, by rw [List.nil_append, List.append_nil], hg⟩
    | succ i =>
      rw [hd, List.getElem?_cons_succ] at hi
      rw [hd, List.map_cons, List.nodup_cons] at hn
      have hax : a ≠ x := fun z => hn.1 (List.mem_map.mpr ⟨_, List.mem_of_getElem? hi, z.symm⟩)
      obtain ⟨D', pre, post, h1, h2, h3, h4, h5⟩ := Gf_at h (fun a i e => ih a (k + 1) i e) _ i e (fun b hb => ⟨h.1 a ha b hb, hg b hb⟩) hn.2 hi
      exact ⟨D', (a, k) :: pre, post, by omega, by rw [hd, h2, List.cons_append], by rw [List.length_cons, h3], by rw [h.2 D a k ha hax, h4, List.cons_append], h5⟩
/-- within a cluster -/
theorem Gc_no (h : jG S G x P) {cu : Nat} (h1 : ∀ b ∈ jK_pd K cu, P b ∧ jS_hgt S 3 b) (h2 : ∀ t, jK_tp K cu = some t → P t ∧ jS_hgt S 3 t) (hx : x ∉ (jK_cl S K cu).map (fun p => p.1)) : jGc K G cu = jK_cl S K cu := by
  rw [show jK_cl S K cu = jK_tl S K cu ++ (jK_pd K cu).flatMap (fun b => jS_fl S 3 b 1) from rfl, List.map_append, List.mem_append, not_or] at hx
  have e : jGt K G cu = jK_tl S K cu := by
    have hx := hx.1
    unfold jGt
    unfold jK_tl at hx ⊢
    cases ht : jK_tp K cu with
    | none => rfl
    | some t =>
      rw [ht] at hx
      exact G_no h 3 t 0 (h2 t ht).1 (h2 t ht).2 hx
  show jGt K G cu ++ _ = jK_tl S K cu ++ _
  rw [e, Gf_no h _ h1 hx.2]
theorem Gc_at (h : jG S G x P) {cu i e : Nat} (h1 : ∀ b ∈ jK_pd K cu, P b ∧ jS_hgt S 3 b) (h2 : ∀ t, jK_tp K cu = some t → P t ∧ jS_hgt S 3 t) (h0 : ∀ t, jK_tp K cu = some t → jS_ch S t = []) (hn : ((jK_cl S K cu).map (fun p => p.1)).Nodup) (hi : (jK_cl S K cu)[i]? = some (x, e)) : ∃ (D' : Nat) (pre post : List (Nat × Nat)), (D' ≤ 3 ∧ (1 ≤ e → D' + e = 4)) ∧ jK_cl S K cu = pre ++ (jS_fl S D' x e ++ post) ∧ pre.length = i ∧ jGc K G cu = pre ++ (G D' x e ++ post) ∧ jS_hgt S D' x := by
  have hd : jK_cl S K cu = jK_tl S K cu ++ (jK_pd K cu).flatMap (fun b => jS_fl S 3 b 1) := rfl
  rw [hd] at hi
  rw [hd, List.map_append] at hn
  obtain ⟨n1, n2, n3⟩ := List.nodup_append.mp hn
  rcases Nat.lt_or_ge i (jK_tl S K cu).length with hlt | hge
  · rw [List.getElem?_append_left hlt] at hi
    have hx : x ∉ ((jK_pd K cu).flatMap (fun b => jS_fl S 3 b 1)).map (fun p => p.1) := fun z => n3 x (List.mem_map.mpr ⟨_, List.mem_of_getElem? hi, rfl⟩) x z rfl
    cases ht : jK_tp K cu with
    | none => rw [cl_tn ht] at hi; cases hi
    | some t =>
      have e1 : jK_tl S K cu = jS_fl S 3 t 0 := by unfold jK_tl; rw [ht]
      have e2 : jGt K G cu = G 3 t 0 := by unfold jGt; rw [ht]
      have he0 : e = 0 := by
        rw [cl_top (h0 t ht) ht] at hi hlt
        have hi0 : i = 0 := by
          have : ([(t, 0)] : List (Nat × Nat)).length = 1 := rfl
          omega
        rw [hi0] at hi
        exact (congrArg Prod.snd (Option.some.inj hi)).symm
      rw [e1] at hi n1
      obtain ⟨D', pre, post, g1, g2, g3, g4, g5⟩ := G_at h 3 t 0 i e (h2 t ht).1 (h2 t ht).2 n1 hi
      refine ⟨D', pre, post ++ (jK_pd K cu).flatMap (fun b => jS_fl S 3 b 1), ⟨by omega, fun z => by omega⟩, ?_, g3, ?_, g5⟩
      · rw [hd, e1, g2, List.append_assoc, List.append_assoc]
      · rw [jGc, e2, g4, Gf_no h _ h1 hx, List.append_assoc, List.append_assoc]
  · rw [List.getElem?_append_right hge] at hi
    have hx : x ∉ (jK_tl S K cu).map (fun p => p.1) := fun z => n3 x z x (List.mem_map.mpr ⟨_, List.mem_of_getElem? hi, rfl⟩) rfl
    have e : jGt K G cu = jK_tl S K cu := by
      unfold jGt
      unfold jK_tl at hx ⊢
      cases ht : jK_tp K cu with
      | none => rfl
      | some t =>
        rw [ht] at hx
        exact G_no h 3 t 0 (h2 t ht).1 (h2 t ht).2 hx
    obtain ⟨D', pre, post, g1, g2, g3, g4, g5⟩ := Gf_at h (fun a i e => G_at h 3 a 1 i e) _ _ _ h1 n2 hi
    obtain ⟨b0, _, hb0⟩ := List.mem_flatMap.mp (List.mem_of_getElem? hi)
    have he1 := (fl_dep 3 b0 1 _ hb0).1
    dsimp only at he1
    refine ⟨D', jK_tl S K cu ++ pre, post, ⟨by omega, fun _ => by omega⟩, ?_, ?_, ?_, g5⟩
    · rw [hd, g2, List.append_assoc]
    · rw [List.length_append, g3]; omega
    · rw [jGc, e, g4, List.append_assoc]
/-- in the whole listing -/
theorem lo_mp {c0 : Nat} {l : List (Nat × Nat)} : jl_lo (l.map (fun p => (p.1, p.2, c0))) = l.map (fun p => p.1) := by
  unfold jl_lo
  rw [List.map_map]
  rfl
theorem Ga_no (h : jG S G x P) : ∀ (cs : List Nat) (c0 : Nat), (∀ cu ∈ cs, (∀ b ∈ jK_pd K cu, P b ∧ jS_hgt S 3 b) ∧ ∀ t, jK_tp K cu = some t → P t ∧ jS_hgt S 3 t) → (∀ cu ∈ cs, jK_cl S' K' cu = jGc K G cu) → x ∉ jl_lo (jK_all S K c0 cs) → jK_all S' K' c0 cs = jK_all S K c0 cs := by
  intro cs
  induction cs with
  | nil => intro c0 _ _ _; rfl
  | cons u cs ih =>
    intro c0 hk he hx
    rw [jK_all, lo_app, List.mem_append, not_or, lo_mp] at hx
    rw [jK_all, jK_all, he u (List.mem_cons_self ..), Gc_no h (hk u (List.mem_cons_self ..)).1 (hk u (List.mem_cons_self ..)).2 hx.1, ih (c0 + 1) (fun v hv => hk v (List.mem_cons_of_mem _ hv)) (fun v hv => he v (List.mem_cons_of_mem _ hv)) hx.2]
theorem Ga_at (h : jG S G x P) : ∀ (cs : List Nat) (c0 k e c : Nat), (∀ cu ∈ cs, (∀ b ∈ jK_pd K cu, P b ∧ jS_hgt S 3 b) ∧ ∀ t, jK_tp K cu = some t → P t ∧ jS_hgt S 3 t) → (∀ cu ∈ cs, ∀ t, jK_tp K cu = some t → jS_ch S t = []) → (∀ cu ∈ cs, jK_cl S' K' cu = jGc K G cu) → (jl_lo (jK_all S K c0 cs)).Nodup → (jK_all S K c0 cs)[k]? = some (x, e, c) → ∃ (D' : Nat) (pre post : List (Nat × Nat × Nat)), (D' ≤ 3 ∧ (1 ≤ e → D' + e = 4)) ∧ jK_all S K c0 cs = pre ++ ((jS_fl S D' x e).map (fun p => (p.1, p.2, c)) ++ post) ∧ pre.length = k ∧ jK_all S' K' c0 cs = pre ++ ((G D' x e).map (fun p => (p.1, p.2, c)) ++ post) ∧ jS_hgt S D' x := by
  intro cs
  induction cs with
  | nil => intro c0 k e c _ _ _ _ hi; rw [show jK_all S K c0 [] = [] from rfl, List.getElem?_nil] at hi; cases hi
  | cons u cs ih =>
    intro c0 k e c hk ht he hn hi
    have hd : jK_all S K c0 (u :: cs) = (jK_cl S K u).map (fun p => (p.1, p.2, c0)) ++ jK_all S K (c0 + 1) cs := rfl
    have hd' : jK_all S' K' c0 (u :: cs) = (jK_cl S' K' u).map (fun p => (p.1, p.2, c0)) ++ jK_all S' K' (c0 + 1) cs := rfl
    rw [hd, lo_app, lo_mp] at hn
    obtain ⟨n1, n2, n3⟩ := List.nodup_append.mp hn
    rw [hd] at hi
    obtain ⟨k1, k2⟩ := hk u (List.mem_cons_self ..)
    rcases Nat.lt_or_ge k ((jK_cl S K u).map (fun p => (p.1, p.2, c0))).length with hlt | hge
    · rw [List.getElem?_append_left hlt, List.getElem?_map] at hi
      cases hp : (jK_cl S K u)[k]? with
      | none => rw [hp] at hi; cases hi
      | some p =>
        rw [hp] at hi
        obtain ⟨px, pd⟩ := p
        have e0 : (px, pd, c0) = (x, e, c) := Option.some.inj hi
        have e1 : x = px := (congrArg Prod.fst e0).symm
        have e2 : e = pd := (congrArg (fun q : Nat × Nat × Nat => q.2.1) e0).symm
        have e3 : c0 = c := congrArg (fun q : Nat × Nat × Nat => q.2.2) e0
        subst e1
        subst e2
        subst e3
        have hx : x ∉ jl_lo (jK_all S K (c0 + 1) cs) := fun z => n3 x (List.mem_map.mpr ⟨_, List.mem_of_getElem? hp, rfl⟩) x z rfl
        obtain ⟨D', pre, post, g1, g2, g3, g4, g5⟩ := Gc_at h k1 k2 (ht u (List.mem_cons_self ..)) n1 hp
        refine ⟨D', pre.map (fun p => (p.1, p.2, c0)), post.map (fun p => (p.1, p.2, c0)) ++ jK_all S K (c0 + 1) cs, g1, ?_, by rw [List.length_map, g3], ?_, g5⟩
        · rw [hd, g2, List.map_append, List.map_append, List.append_assoc, List.append_assoc]
        · rw [hd', he u (List.mem_cons_self ..), g4, Ga_no h cs (c0 + 1) (fun v hv => hk v (List.mem_cons_of_mem _ hv)) (fun v hv => he v (List.mem_cons_of_mem _ hv)) hx, List.map_append, List.map_append, List.append_assoc, List.append_assoc]
    · rw [List.getElem?_append_right hge] at hi
      obtain ⟨D', pre, post, g1, g2, g3, g4, g5⟩ := ih (c0 + 1) _ e c (fun v hv => hk v (List.mem_cons_of_mem _ hv)) (fun v hv => ht v (List.mem_cons_of_mem _ hv)) (fun v hv => he v (List.mem_cons_of_mem _ hv)) n2 hi
      have hx : x ∉ (jK_cl S K u).map (fun p => p.1) := fun z => n3 x z x (lo_k hi) rfl
      refine ⟨D', (jK_cl S K u).map (fun p => (p.1, p.2, c0)) ++ pre, post, g1, ?_, ?_, ?_, g5⟩
      · rw [hd, g2, List.append_assoc]
      · rw [List.length_append, g3]; omega
      · rw [hd', he u (List.mem_cons_self ..), Gc_no h k1 k2 hx, g4, List.append_assoc]
end RP
