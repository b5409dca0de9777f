/-! a contract over some cells, told over a larger world -/
section LF
variable {l : Launch} {D : va_G} {cl : List vw_C} {tys : List (ClassId × FieldType)} {Z : (Nat → Prop) → State → Heap → Prop} {y : MethodName} {wy : List Cond} {rm : Room} {as : List Value} {ws wc : va_W} {mc ms : Nat}
theorem lf_A {is : List Nat} {sz : Nat} (hC : is.map (fun i => ws[i]?) = wc.map some) : ∀ q, va_A wc sz q → va_A ws sz q := by
  intro q h
  rcases h with ⟨k, e, h⟩ | h
  · have h1 : (is.map (fun i => ws[i]?))[k]? = some (some (q, e)) := by rw [hC, List.getElem?_map, h]; rfl
    rw [List.getElem?_map] at h1
    cases hi : is[k]? with
    | none => rw [hi] at h1; cases h1
    | some i => rw [hi] at h1; exact Or.inl ⟨i, e, Option.some.inj h1⟩
  · exact Or.inr h
theorem lf_at {is : List Nat} (hC : is.map (fun i => ws[i]?) = wc.map some) {k : Nat} {q : Nat × va_E} (h : wc[k]? = some q) : ∃ i, is[k]? = some i ∧ ws[i]? = some q := by
  have h1 : (is.map (fun i => ws[i]?))[k]? = some (some q) := by rw [hC, List.getElem?_map, h]; rfl
  rw [List.getElem?_map] at h1
  cases hi : is[k]? with
  | none => rw [hi] at h1; cases h1
  | some i => rw [hi] at h1; exact ⟨i, rfl, Option.some.inj h1⟩
theorem lf_pre (hZ : jk_ZC Z) {is : List Nat} (hC : is.map (fun i => ws[i]?) = wc.map some) (hnd : va_nd is = true) {sz : Nat} : ∀ a s, va_Pc as (jk_Pre D cl tys Z ws sz) a s → va_Pc as (jk_Pre D cl tys Z wc sz) a s := by
  rintro a s ⟨h0, h1, h2, h3, h4, h5⟩
  refine ⟨h0, h1, fun k q hk => ?_, h3, ?_, hZ.2.2.2 _ _ _ _ (lf_A hC) h5⟩
  · obtain ⟨i, -, hi⟩ := lf_at hC hk
    exact h2 i q hi
  · refine ⟨fun i j p q hi hj e => ?_, fun _ _ _ => trivial⟩
    obtain ⟨i', e1, h6⟩ := lf_at hC hi
    obtain ⟨j', e2, h7⟩ := lf_at hC hj
    have h8 := h4.1 i' j' p q h6 h7 e
    subst h8
    exact va_nd_inj _ hnd _ _ _ e1 e2
theorem lf_post {is : List Nat} {wc' ws' : va_W} (hC : is.map (fun i => ws[i]?) = wc.map some) (had : wc'.map (·.1) = wc.map (·.1)) (hw : jk_put ws is wc' = ws') {sz : Nat} {a : Array Value} {s t : State} (hp : va_Pc as (jk_Pre D cl tys Z ws sz) a s) (hF : va_F (va_A wc sz) s t) (h : jk_Post D cl tys wc' t) : jk_Post D cl tys ws' t := by
  obtain ⟨h0, h1, h2, h3, h4, h5⟩ := hp
  refine ⟨(jk_join h2 h4 is hC had hw (fun q h6 h7 => hF.2 q h6 (by rw [← h1]; exact h7)) h.1).1, h.2⟩
theorem lf_F {is : List Nat} (hC : is.map (fun i => ws[i]?) = wc.map some) {sz : Nat} {s t : State} (hF : va_F (va_A wc sz) s t) : va_F (va_A ws sz) s t := ⟨hF.1, fun q h1 h2 => hF.2 q h1 (fun h3 => h2 (lf_A hC q h3))⟩
theorem lf_MI (hZ : jk_ZC Z) {wc' ws' : va_W} {r : Int} (h : jk_MI l D cl tys Z y wy rm as wc wc' r) (is : List Nat) (hC : is.map (fun i => ws[i]?) = wc.map some) (hnd : va_nd is = true) (had : wc'.map (·.1) = wc.map (·.1)) (hw : jk_put ws is wc' = ws') : jk_MI l D cl tys Z y wy rm as ws ws' r := by
  intro sz p e a b c s m args below hf happ hP hk
  obtain ⟨n, o, h1, h2, h3, ⟨⟨r', u, g1, g2, g3⟩, g4⟩, L, hE, hL⟩ := h sz p e a b c s m args below hf happ (lf_pre hZ hC hnd _ _ hP) trivial
  exact ⟨n, o, h1, h2, h3, ⟨⟨r', u, g1, g2, lf_post hC had hw hP g4 g3⟩, lf_F hC g4⟩, L, hE, fun q hq => lf_A hC _ (hL q hq)⟩
theorem lf_X (hZ : jk_ZC Z) {α : Type} {q : Nat ⊕ α} {r : α → Int} {wc' ws' : α → va_W} (h : jk_XI l D cl tys Z y wy rm as wc (Sum.map id (fun z => (r z, wc' z)) q) mc ms) (is : List Nat) (hC : is.map (fun i => ws[i]?) = wc.map some) (hnd : va_nd is = true) (had : ∀ z, (wc' z).map (·.1) = wc.map (·.1)) (hput : jk_put ws is wc = ws) (hw : ∀ z, jk_put ws is (wc' z) = ws' z) : jk_XI l D cl tys Z y wy rm as ws (Sum.map id (fun z => (r z, ws' z)) q) mc ms := by
  intro sz p e a b c s m args below hf happ hP hk
  obtain ⟨n, o, h1, h2, h3, h4⟩ := h sz p e a b c s m args below hf happ (lf_pre hZ hC hnd _ _ hP) trivial
  refine ⟨n, o, h1, h2, h3, ?_⟩
  rcases h4 with ⟨⟨⟨r', u, g1, g2, g3⟩, g4⟩, L, hE, hL⟩ | ⟨q9, g0, E, ce, L, ⟨u, g1, g2, g3⟩, g5⟩
  · refine Or.inl ⟨⟨⟨r', u, g1, ?_, ?_⟩, lf_F hC g4⟩, L, hE, fun q hq => lf_A hC _ (hL q hq)⟩
    · obtain ⟨o', e1, e2⟩ := g2
      cases q with
      | inl k => cases e1
      | inr z => exact ⟨_, rfl, e2.trans (by rw [show o' = (r z, wc' z) from (Sum.inr.inj e1).symm])⟩
    · obtain ⟨o', e1, e2⟩ := g3
      cases q with
      | inl k => cases e1
      | inr z =>
        rw [show o' = (r z, wc' z) from (Sum.inr.inj e1).symm] at e2
        exact ⟨_, rfl, lf_post hC (had z) (hw z) hP g4 e2⟩
  · refine Or.inr ⟨q9, g0, E, ce, L, ⟨u, g1, ?_, lf_F hC g3⟩, g5.1, g5.2.1, g5.2.2.1, g5.2.2.2.1, g5.2.2.2.2.1, fun z hz => lf_A hC _ (g5.2.2.2.2.2 z hz)⟩
    obtain ⟨k, e1, e2, e3⟩ := g2
    cases q with
    | inr z => cases e1
    | inl k' => exact ⟨k, e1, e2, lf_post hC rfl hput hP g3 e3⟩
end LF
