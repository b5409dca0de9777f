/-! worlds while the text is made: clusters not yet in the reader's list -/
def jl_Bl (cI cO : ClassId) (z0 : Nat) (ow : Nat → Nat) (M : jm_M) (S : jl_S) (K : jl_K) (P : Nat → Prop) (r rc ro rd ri : Nat) (cs c0 os ds is : List Nat) : Prop :=
  jl_W cI cO z0 ow M S P ∧ (∀ c ∈ cs, jl_Cu cO z0 ow M K c) ∧ jl_Rd cO z0 ow M r rc ro rd ri c0 os ds is
section BL
variable {cI cO : ClassId} {z0 : Nat} {ow ow' : Nat → Nat} {M M' : jm_M} {S : jl_S} {K : jl_K} {P : Nat → Prop} {r rc ro rd ri : Nat} {cs c0 os ds is : List Nat}
theorem jl_Bl.ck (h : jl_Bl cI cO z0 ow M S K P r rc ro rd ri cs c0 os ds is) {x : Nat} (hx : P x) : (∀ c ∈ cs, x ≠ c) ∧ x ≠ r := by
  have h1 := (h.1 x hx).1.1
  refine ⟨fun c hc z => ?_, fun z => ?_⟩
  · have h2 := (h.2.1 c hc).1
    rw [← z, h1] at h2
    cases h2
  · have h2 := h.2.2.1
    rw [← z, h1] at h2
    cases h2
theorem jl_Bl.cr (h : jl_Bl cI cO z0 ow M S K P r rc ro rd ri cs c0 os ds is) {c : Nat} (hc : c ∈ cs) : c ≠ r := fun z => by
  have h1 := (h.2.1 c hc).1
  have h2 := h.2.2.1
  rw [← z, h1] at h2
  cases h2
/-- everything elsewhere -/
theorem jl_Bl.fr (h : jl_Bl cI cO z0 ow M S K P r rc ro rd ri cs c0 os ds is) {T : Nat → Prop} (hF : jl_FrP ow M ow' M' T) (n1 : ∀ x, P x → ¬ T (8 * x) ∧ ¬ T (8 * x + 1) ∧ ¬ T (8 * x + 2)) (n2 : ∀ c ∈ cs, ¬ T (8 * c) ∧ ¬ T (8 * c + 2)) (n3 : ∀ j, j < 6 → ¬ T (8 * r + j)) : jl_Bl cI cO z0 ow' M' S K P r rc ro rd ri cs c0 os ds is :=
  ⟨fun x hx => ⟨(h.1 x hx).1.fr hF (n1 x hx).1 (n1 x hx).2.1 (n1 x hx).2.2, (h.1 x hx).2⟩, fun c hc => (h.2.1 c hc).fr hF (n2 c hc).1 (n2 c hc).2, h.2.2.fr hF n3⟩
theorem jl_Bl.mono (h : jl_Bl cI cO z0 ow M S K P r rc ro rd ri cs c0 os ds is) (hl : jm_le M M') : jl_Bl cI cO z0 ow M' S K P r rc ro rd ri cs c0 os ds is := ⟨h.1.mono hl, fun c hc => (h.2.1 c hc).mono hl, h.2.2.mono hl⟩
/-- a cord's own cells written -/
theorem jl_Bl.cord (h : jl_Bl cI cO z0 ow M S K P r rc ro rd ri cs c0 os ds is) {x : Nat} (hx : P x) (hF : jl_FrP ow M ow M' (fun z => z = 8 * x ∨ z = 8 * x + 1)) {f : Int → Int} {tp nb : Int} (h1 : M' x = some (.inr (11, [.ref (jS_kn S x), jk_V tp, jk_V nb, .ref (jS_bl S x)]))) (h2 : M' (jS_kn S x) = some (jk_W cI 4 f)) (hnb : 0 ≤ nb ∧ nb ≤ 4) : jl_Bl cI cO z0 ow M' (jS_w S x f tp nb) K P r rc ro rd ri cs c0 os ds is := by
  obtain ⟨k1, k2⟩ := h.ck hx
  refine ⟨fun y hy => ?_, fun c hc => (h.2.1 c hc).fr hF (by have := k1 c hc; omega) (by have := k1 c hc; omega), h.2.2.fr hF (fun j hj => by omega)⟩
  by_cases e : y = x
  · subst e
    obtain ⟨c1, c2, c3, c4, c5⟩ := (h.1 y hy).1
    refine ⟨⟨?_, c2, ?_, c4, c5.fr hF (by omega)⟩, ?_, (h.1 y hy).2.2⟩
    · show M' y = some (.inr (11, [.ref (jS_kn S y), jk_V (if y = y then tp else jS_tp S y), jk_V (if y = y then nb else jS_nb S y), .ref (jS_bl S y)]))
      rw [if_pos rfl, if_pos rfl]
      exact h1
    · show M' (jS_kn S y) = some (jk_W cI 4 (if y = y then f else jS_dg S y))
      rw [if_pos rfl]
      exact h2
    · show 0 ≤ (if y = y then nb else jS_nb S y) ∧ (if y = y then nb else jS_nb S y) ≤ 4
      rw [if_pos rfl]
      exact hnb
  · obtain ⟨c1, c2, c3, c4, c5⟩ := (h.1 y hy).1.fr hF (by omega) (by omega) (by omega)
    refine ⟨⟨?_, c2, ?_, c4, c5⟩, ?_, (h.1 y hy).2.2⟩
    · show M' y = some (.inr (11, [.ref (jS_kn S y), jk_V (if y = x then tp else jS_tp S y), jk_V (if y = x then nb else jS_nb S y), .ref (jS_bl S y)]))
      rw [if_neg e, if_neg e]
      exact c1
    · show M' (jS_kn S y) = some (jk_W cI 4 (if y = x then f else jS_dg S y))
      rw [if_neg e]
      exact c3
    · show 0 ≤ (if y = x then nb else jS_nb S y) ∧ (if y = x then nb else jS_nb S y) ≤ 4
      rw [if_neg e]
      exact (h.1 y hy).2.1
/-- a cord's list -/
theorem jl_Bl.chl (h : jl_Bl cI cO z0 ow M S K P r rc ro rd ri cs c0 os ds is) {x : Nat} (hx : P x) {l : List Nat} (hF : jl_Fr ow M ow' M' (8 * x + 2)) (h1 : jl_AL cO z0 ow' M' (8 * x + 2) (jS_bl S x) l) (hl : ∀ b ∈ l, P b) : jl_Bl cI cO z0 ow' M' (jS_c S x l) K P r rc ro rd ri cs c0 os ds is := by
  obtain ⟨k1, k2⟩ := h.ck hx
  refine ⟨fun y hy => ?_, fun c hc => (h.2.1 c hc).fr hF (by have := k1 c hc; omega) (by have := k1 c hc; omega), h.2.2.fr hF (fun j hj => by omega)⟩
  by_cases e : y = x
  · subst e
    obtain ⟨c1, c2, c3, c4, c5⟩ := (h.1 y hy).1
    refine ⟨⟨(hF _ _ c1).2.2 (by rw [c2]; dsimp only; omega), (hF _ _ c1).1.trans c2, (hF _ _ c3).2.2 (by rw [c4]; dsimp only; omega), (hF _ _ c3).1.trans c4, ?_⟩, (h.1 y hy).2.1, ?_⟩
    · show jl_AL cO z0 ow' M' (8 * y + 2) (jS_bl S y) (if y = y then l else jS_ch S y)
      rw [if_pos rfl]
      exact h1
    · show ∀ b ∈ (if y = y then l else jS_ch S y), P b
      rw [if_pos rfl]
      exact hl
  · obtain ⟨c1, c2, c3, c4, c5⟩ := (h.1 y hy).1.fr hF (by omega) (by omega) (by omega)
    refine ⟨⟨c1, c2, c3, c4, ?_⟩, (h.1 y hy).2.1, ?_⟩
    · show jl_AL cO z0 ow' M' (8 * y + 2) (jS_bl S y) (if y = x then l else jS_ch S y)
      rw [if_neg e]
      exact c5
    · show ∀ b ∈ (if y = x then l else jS_ch S y), P b
      rw [if_neg e]
      exact (h.1 y hy).2.2
/-- a cluster's top -/
theorem jl_Bl.top (h : jl_Bl cI cO z0 ow M S K P r rc ro rd ri cs c0 os ds is) {c : Nat} (hc : c ∈ cs) {t : Option Nat} (hF : jl_Fr ow M ow M' (8 * c)) (h1 : M' c = some (.inr (12, [va_rf t, .ref (jK_pl K c)]))) : jl_Bl cI cO z0 ow M' S (jK_t K c t) P r rc ro rd ri cs c0 os ds is := by
  refine ⟨fun y hy => ⟨(h.1 y hy).1.fr hF (by have := (h.ck hy).1 c hc; omega) (by omega) (by omega), (h.1 y hy).2⟩, fun d hd => ?_, h.2.2.fr hF (fun j hj => by have := h.cr hc; omega)⟩
  by_cases e : d = c
  · subst e
    obtain ⟨c1, c2, c5⟩ := h.2.1 d hd
    refine ⟨?_, c2, c5.fr hF (by omega)⟩
    show M' d = some (.inr (12, [va_rf (if d = d then t else jK_tp K d), .ref (jK_pl K d)]))
    rw [if_pos rfl]
    exact h1
  · obtain ⟨c1, c2, c5⟩ := (h.2.1 d hd).fr hF (by omega) (by omega)
    refine ⟨?_, c2, c5⟩
    show M' d = some (.inr (12, [va_rf (if d = c then t else jK_tp K d), .ref (jK_pl K d)]))
    rw [if_neg e]
    exact c1
/-- a cluster's pendants -/
theorem jl_Bl.pdl (h : jl_Bl cI cO z0 ow M S K P r rc ro rd ri cs c0 os ds is) {c : Nat} (hc : c ∈ cs) {l : List Nat} (hF : jl_Fr ow M ow' M' (8 * c + 2)) (h1 : jl_AL cO z0 ow' M' (8 * c + 2) (jK_pl K c) l) : jl_Bl cI cO z0 ow' M' S (jK_p K c l) P r rc ro rd ri cs c0 os ds is := by
  refine ⟨fun y hy => ⟨(h.1 y hy).1.fr hF (by omega) (by omega) (by have := (h.ck hy).1 c hc; omega), (h.1 y hy).2⟩, fun d hd => ?_, h.2.2.fr hF (fun j hj => by have := h.cr hc; omega)⟩
  by_cases e : d = c
  · subst e
    obtain ⟨c1, c2, c5⟩ := h.2.1 d hd
    refine ⟨(hF _ _ c1).2.2 (by rw [c2]; dsimp only; omega), (hF _ _ c1).1.trans c2, ?_⟩
    show jl_AL cO z0 ow' M' (8 * d + 2) (jK_pl K d) (if d = d then l else jK_pd K d)
    rw [if_pos rfl]
    exact h1
  · obtain ⟨c1, c2, c5⟩ := (h.2.1 d hd).fr hF (by omega) (by omega)
    refine ⟨c1, c2, ?_⟩
    show jl_AL cO z0 ow' M' (8 * d + 2) (jK_pl K d) (if d = c then l else jK_pd K d)
    rw [if_neg e]
    exact c5
/-- a new cord -/
theorem jl_Bl.newc (h : jl_Bl cI cO z0 ow M S K P r rc ro rd ri cs c0 os ds is) {x k b : Nat} {f : Int → Int} {tp : Int} (hl : jm_le M M') (hx : M x = none) (hk : M k = none) (hb : M b = none) (hkx : k ≠ x) (hbx : b ≠ x) (hbk : b ≠ k) (h1 : M' x = some (.inr (11, [.ref k, jk_V tp, jk_V 0, .ref b]))) (h2 : M' k = some (jk_W cI 4 f)) (h3 : M' b = some (.inr (14, [jk_V 0, .ref z0, jk_V 0]))) : jl_Bl cI cO z0 (jw_o3 ow x k b) M' (jS_n S x k b f tp) K (fun y => P y ∨ y = x) r rc ro rd ri cs c0 os ds is := by
  have hF : jl_FrP ow M (jw_o3 ow x k b) M' (fun _ => False) := jw_o3_fr hl hx hk hb
  refine ⟨fun y hy => ?_, fun c hc => (h.2.1 c hc).fr hF id id, h.2.2.fr hF (fun _ _ => id)⟩
  by_cases e : y = x
  · subst e
    refine ⟨⟨?_, if_pos rfl, ?_, ?_, ?_⟩, ?_, ?_⟩
    · show M' y = some (.inr (11, [.ref (if y = y then k else jS_kn S y), jk_V (if y = y then tp else jS_tp S y), jk_V (if y = y then 0 else jS_nb S y), .ref (if y = y then b else jS_bl S y)]))
      rw [if_pos rfl, if_pos rfl, if_pos rfl, if_pos rfl]
      exact h1
    · show M' (if y = y then k else jS_kn S y) = some (jk_W cI 4 (if y = y then f else jS_dg S y))
      rw [if_pos rfl, if_pos rfl]
      exact h2
    · show jw_o3 ow y k b (if y = y then k else jS_kn S y) = 8 * y + 1
      rw [if_pos rfl]
      unfold jw_o3
      rw [if_neg hkx, if_pos rfl]
    · show jl_AL cO z0 (jw_o3 ow y k b) M' (8 * y + 2) (if y = y then b else jS_bl S y) (if y = y then [] else jS_ch S y)
      rw [if_pos rfl, if_pos rfl]
      refine jl_AL.nil h3 ?_
      unfold jw_o3
      rw [if_neg hbx, if_neg hbk, if_pos rfl]
    · show 0 ≤ (if y = y then (0 : Int) else jS_nb S y) ∧ (if y = y then (0 : Int) else jS_nb S y) ≤ 4
      rw [if_pos rfl]
      decide
    · show ∀ b ∈ (if y = y then [] else jS_ch S y), P b ∨ b = y
      rw [if_pos rfl]
      exact fun b hb => absurd hb List.not_mem_nil
  · have hy : P y := hy.elim id (fun z => absurd z e)
    obtain ⟨c1, c2, c3, c4, c5⟩ := (h.1 y hy).1.fr hF id id id
    refine ⟨⟨?_, c2, ?_, ?_, ?_⟩, ?_, ?_⟩
    · show M' y = some (.inr (11, [.ref (if y = x then k else jS_kn S y), jk_V (if y = x then tp else jS_tp S y), jk_V (if y = x then 0 else jS_nb S y), .ref (if y = x then b else jS_bl S y)]))
      rw [if_neg e, if_neg e, if_neg e, if_neg e]
      exact c1
    · show M' (if y = x then k else jS_kn S y) = some (jk_W cI 4 (if y = x then f else jS_dg S y))
      rw [if_neg e, if_neg e]
      exact c3
    · show jw_o3 ow x k b (if y = x then k else jS_kn S y) = 8 * y + 1
      rw [if_neg e]
      exact c4
    · show jl_AL cO z0 (jw_o3 ow x k b) M' (8 * y + 2) (if y = x then b else jS_bl S y) (if y = x then [] else jS_ch S y)
      rw [if_neg e, if_neg e]
      exact c5
    · show 0 ≤ (if y = x then (0 : Int) else jS_nb S y) ∧ (if y = x then (0 : Int) else jS_nb S y) ≤ 4
      rw [if_neg e]
      exact (h.1 y hy).2.1
    · show ∀ b ∈ (if y = x then [] else jS_ch S y), P b ∨ b = x
      rw [if_neg e]
      exact fun b hb => Or.inl ((h.1 y hy).2.2 b hb)
/-- a new cluster, not yet in the list -/
theorem jl_Bl.newk (h : jl_Bl cI cO z0 ow M S K P r rc ro rd ri cs c0 os ds is) {c b : Nat} (hl : jm_le M M') (hc : M c = none) (hb : M b = none) (hbc : b ≠ c) (h1 : M' c = some (.inr (12, [.null, .ref b]))) (h3 : M' b = some (.inr (14, [jk_V 0, .ref z0, jk_V 0]))) : jl_Bl cI cO z0 (jw_o3 ow c c b |> fun f y => if y = b then 8 * c + 2 else f y) M' S (jK_n K c b) P r rc ro rd ri cs c0 os ds is ∧ jl_Cu cO z0 (jw_o3 ow c c b |> fun f y => if y = b then 8 * c + 2 else f y) M' (jK_n K c b) c ∧ ∀ (y : Nat) (e : va_E), M y = some e → (jw_o3 ow c c b |> fun f y => if y = b then 8 * c + 2 else f y) y = ow y := by
  have hF : jl_FrP ow M (jw_o3 ow c c b |> fun f y => if y = b then 8 * c + 2 else f y) M' (fun _ => False) := fun y e hy => ⟨by
    have n1 : y ≠ c := fun z => by rw [z, hc] at hy; cases hy
    have n3 : y ≠ b := fun z => by rw [z, hb] at hy; cases hy
    show (if y = b then 8 * c + 2 else jw_o3 ow c c b y) = ow y
    unfold jw_o3
    rw [if_neg n3, if_neg n1, if_neg n1, if_neg n3], ⟨e, hl y e hy⟩, fun _ => hl y e hy⟩
  refine ⟨⟨fun y hy => ⟨(h.1 y hy).1.fr hF id id id, (h.1 y hy).2⟩, fun d hd => ?_, h.2.2.fr hF (fun _ _ => id)⟩, ⟨?_, ?_, ?_⟩, fun y e hy => (hF y e hy).1⟩
  · have e : d ≠ c := fun z => by
      have := (h.2.1 d hd).1
      rw [z, hc] at this
      cases this
    obtain ⟨c1, c2, c5⟩ := (h.2.1 d hd).fr hF id id
    refine ⟨?_, c2, ?_⟩
    · show M' d = some (.inr (12, [va_rf (if d = c then none else jK_tp K d), .ref (if d = c then b else jK_pl K d)]))
      rw [if_neg e, if_neg e]
      exact c1
    · show jl_AL cO z0 _ M' (8 * d + 2) (if d = c then b else jK_pl K d) (if d = c then [] else jK_pd K d)
      rw [if_neg e, if_neg e]
      exact c5
  · show M' c = some (.inr (12, [va_rf (if c = c then none else jK_tp K c), .ref (if c = c then b else jK_pl K c)]))
    rw [if_pos rfl, if_pos rfl]
    exact h1
  · show (if c = b then 8 * c + 2 else jw_o3 ow c c b c) = 8 * c
    rw [if_neg (fun z => hbc z.symm)]
    exact if_pos rfl
  · show jl_AL cO z0 _ M' (8 * c + 2) (if c = c then b else jK_pl K c) (if c = c then [] else jK_pd K c)
    rw [if_pos rfl, if_pos rfl]
    exact jl_AL.nil h3 (if_pos rfl)
/-- a cluster more, of those made -/
theorem jl_Bl.add (h : jl_Bl cI cO z0 ow M S K P r rc ro rd ri cs c0 os ds is) {c : Nat} (hC : jl_Cu cO z0 ow M K c) : jl_Bl cI cO z0 ow M S K P r rc ro rd ri (cs ++ [c]) c0 os ds is := ⟨h.1, fun d hd => (List.mem_append.mp hd).elim (h.2.1 d) (fun z => by rw [List.mem_singleton.mp z]; exact hC), h.2.2⟩
/-- the reader's list of clusters -/
theorem jl_Bl.rdl (h : jl_Bl cI cO z0 ow M S K P r rc ro rd ri cs c0 os ds is) {l : List Nat} (hF : jl_Fr ow M ow' M' (8 * r + 2)) (h1 : jl_AL cO z0 ow' M' (8 * r + 2) rc l) : jl_Bl cI cO z0 ow' M' S K P r rc ro rd ri cs l os ds is := by
  refine ⟨fun y hy => ⟨(h.1 y hy).1.fr hF (by omega) (by omega) (by have := (h.ck hy).2; omega), (h.1 y hy).2⟩, fun d hd => (h.2.1 d hd).fr hF (by omega) (by have := h.cr hd; omega), ?_⟩
  obtain ⟨r1, r2, r3, r4, r5, r6⟩ := h.2.2
  exact ⟨(hF _ _ r1).2.2 (by rw [r2]; dsimp only; omega), (hF _ _ r1).1.trans r2, h1, r4.fr hF (by omega), r5.fr hF (by omega), r6.fr hF (by omega)⟩
end BL
