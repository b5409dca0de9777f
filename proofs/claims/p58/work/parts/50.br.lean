/-! contracts over lists of cells, told over the world by addresses -/
def jm_X (ow : Nat → Nat) (M : jm_M) (t : Nat) (wc : va_W) : Prop := (∀ (k : Nat) (q : Nat × va_E), wc[k]? = some q → M q.1 = some q.2 ∧ ow q.1 = t) ∧ va_D (fun _ => True) wc
theorem jm_X.fr {ow ow' : Nat → Nat} {M M' : jm_M} {t : Nat} {wc : va_W} {T : Nat → Prop} (h : jm_X ow M t wc) (hF : jl_FrP ow M ow' M' T) (hT : ¬ T t) : jm_X ow' M' t wc := ⟨fun k q hq => by
  obtain ⟨h1, h2⟩ := h.1 k q hq
  obtain ⟨f1, -, f2⟩ := hF _ _ h1
  exact ⟨f2 (by rw [h2]; exact hT), f1.trans h2⟩, h.2⟩
theorem jm_X.len {ow : Nat → Nat} {M : jm_M} {t : Nat} {wc : va_W} (h : jm_X ow M t wc) {w : va_W} (hw : jm_lk w = M) : ∃ is : List Nat, is.map (fun i => w[i]?) = wc.map some := by
  have key : ∀ v : va_W, (∀ (k : Nat) (q : Nat × va_E), v[k]? = some q → M q.1 = some q.2) → ∃ is : List Nat, is.map (fun i => w[i]?) = v.map some := by
    intro v
    induction v with
    | nil => exact fun _ => ⟨[], rfl⟩
    | cons q v ih =>
      intro hv
      obtain ⟨is, e⟩ := ih (fun k q' hq => hv (k + 1) q' (by rw [List.getElem?_cons_succ]; exact hq))
      obtain ⟨i, hi⟩ := jm_lk_mem (by rw [hw]; exact hv 0 q rfl : jm_lk w q.1 = some q.2)
      exact ⟨i :: is, by rw [List.map_cons, List.map_cons, e, hi]⟩
  exact key wc (fun k q hq => (h.1 k q hq).1)
theorem jm_X.at {w wc : va_W} {is : List Nat} (hC : is.map (fun i => w[i]?) = wc.map some) {k : Nat} {q : Nat × va_E} (h : wc[k]? = some q) : ∃ i, is[k]? = some i ∧ w[i]? = some q := by
  have h1 : (is.map (fun i => w[i]?))[k]? = some (some q) := by rw [hC, List.getElem?_map, h]; rfl
  rw [List.getElem?_map] at h1
  cases hi : is[k]? with
  | none => rw [hi] at h1; cases h1
  | some i => rw [hi] at h1; exact ⟨i, rfl, Option.some.inj h1⟩
theorem jm_X.A {w wc : va_W} {is : List Nat} (hC : is.map (fun i => w[i]?) = wc.map some) {sz : Nat} : ∀ q, va_A wc sz q → va_A w sz q := by
  intro q h
  rcases h with ⟨k, e, h⟩ | h
  · obtain ⟨i, -, hi⟩ := jm_X.at hC h
    exact Or.inl ⟨i, e, hi⟩
  · exact Or.inr h
theorem jk_put_len {α : Type} (ws : List α) (is : List Nat) (cs : List α) : (jk_put ws is cs).length = ws.length := by
  unfold jk_put
  have key : ∀ (ws : List α) (k : Nat), (jk_rep ws k is cs).length = ws.length := by
    intro ws
    induction ws with
    | nil => exact fun _ => rfl
    | cons x ws ih =>
      intro k
      show (_ :: jk_rep ws (k + 1) is cs).length = _
      rw [List.length_cons, ih, List.length_cons]
  exact key ws 0
section BR
variable {l : Launch} {D : va_G} {cl : List vw_C} {tys tys' : List (ClassId × FieldType)} {Z : (Nat → Prop) → State → Heap → Prop} {y : MethodName} {wy : List Cond} {rm : Room} {as : List Value} {wc wc' : va_W} {mc ms t : Nat} {ow : Nat → Nat} {M : jm_M}
theorem jm_X_pre (hZ : jk_ZC Z) {w : va_W} {is : List Nat} (hC : is.map (fun i => w[i]?) = wc.map some) (hx : jm_X ow M t wc) (its : List Nat) (hty : its.filterMap (fun i => tys[i]?) = tys') {sz : Nat} : ∀ a s, va_Pc as (jk_Pre D cl tys Z w sz) a s → va_Pc as (jk_Pre D cl tys' Z wc sz) a s := by
  rintro a s ⟨h0, h1, h2, h3, h4, h5⟩
  refine ⟨h0, h1, fun k q hk => ?_, h3.sub its hty, hx.2, hZ.2.2.2 _ _ _ _ (jm_X.A hC) h5⟩
  obtain ⟨i, -, hi⟩ := jm_X.at hC hk
  exact h2 i q hi
/-- what is told behind a call: the component's cells, the others as they were -/
theorem jm_X_post2 {w : va_W} {is : List Nat} (hC : is.map (fun i => w[i]?) = wc.map some) (hw : jm_lk w = M) (hx : jm_X ow M t wc) (had : wc'.map (·.1) = wc.map (·.1)) {sz : Nat} {a : Array Value} {s u : State} (hp : va_Pc as (jk_Pre D cl tys Z w sz) a s) (hF : va_F (va_A wc sz) s u) (hW : s.WarmedH u.vm) (h : jk_Post D cl tys' wc' u) :
    ∃ w' : va_W, ((jm_X ow (jm_lk w') t wc' ∧ jl_Fr ow M ow (jm_lk w') t) ∧ (wc' = wc → jm_le M (jm_lk w'))) ∧ va_P D cl w' u.heap ∧ va_D (va_A w sz) w' ∧ va_K D cl tys u := by
  obtain ⟨h0, h1, h2, h3, h4, h5⟩ := hp
  have hD0 : va_D (va_A w sz) w := ⟨h4.1, fun k q hk => va_A.in hk⟩
  obtain ⟨g1, g2⟩ := jk_join h2 hD0 is hC had rfl (fun q h6 h7 => hF.2 q h6 (by rw [← h1]; exact h7)) h.1
  have hlen : is.length = wc.length := by simpa using congrArg List.length hC
  have hlen' : wc'.length = wc.length := by simpa using congrArg List.length had
  have hget : ∀ (k : Nat) (q : Nat × va_E), wc'[k]? = some q → ∃ q0, wc[k]? = some q0 ∧ q0.1 = q.1 := by
    intro k q hk
    have e : (wc'.map (·.1))[k]? = some q.1 := by rw [List.getElem?_map, hk]; rfl
    rw [had, List.getElem?_map] at e
    cases hq : wc[k]? with
    | none => rw [hq] at e; cases e
    | some q0 => rw [hq] at e; exact ⟨q0, rfl, Option.some.inj e⟩
  have hD' : va_D (fun _ => True) wc' := ⟨fun i j p q hi hj e => by
    obtain ⟨p0, e1, e2⟩ := hget i p hi
    obtain ⟨q0, e3, e4⟩ := hget j q hj
    exact hx.2.1 i j p0 q0 e1 e3 (by rw [e2, e4, e]), fun _ _ _ => trivial⟩
  have hnew : ∀ (k : Nat) (q : Nat × va_E), wc'[k]? = some q → jm_lk (jk_put w is wc') q.1 = some q.2 := by
    intro k q hk
    have hk2 : k < wc'.length := (List.getElem?_eq_some_iff.mp hk).1
    obtain ⟨i, hi⟩ : ∃ i, is[k]? = some i := ⟨is[k]'(by omega), List.getElem?_eq_getElem (by omega)⟩
    obtain ⟨q0, e1, e2⟩ := hget k q hk
    obtain ⟨i', e3, e4⟩ := jm_X.at hC e1
    have e5 : i = i' := Option.some.inj (hi.symm.trans e3)
    subst e5
    have hlt : i < (jk_put w is wc').length := by
      rw [jk_put_len]
      exact (List.getElem?_eq_some_iff.mp e4).1
    have hget2 : (jk_put w is wc')[i]? = some (jk_put w is wc')[i] := List.getElem?_eq_getElem hlt
    rcases jk_put_get is wc' w i _ (by omega) hget2 with ⟨j, z1, z2⟩ | ⟨z1, z2⟩
    · obtain ⟨q1, e6, e7⟩ := hget j _ z2
      obtain ⟨i2, e8, e9⟩ := jm_X.at hC e6
      have e10 : i2 = i := Option.some.inj (e8.symm.trans z1)
      subst e10
      have e11 : q1 = q0 := Option.some.inj (e9.symm.trans e4)
      subst e11
      have e12 := hx.2.1 j k q1 q1 e6 e1 rfl
      subst e12
      have e13 : (jk_put w is wc')[i2] = q := Option.some.inj (z2.symm.trans hk)
      exact jm_lk_of g2 (by rw [hget2, e13])
    · exact absurd (List.mem_of_getElem? hi) z2
  refine ⟨jk_put w is wc', ⟨⟨⟨fun k q hk => ⟨hnew k q hk, ?_⟩, hD'⟩, ?_⟩, ?_⟩, g1, g2, va_K.moved hW.alike h3⟩
  · obtain ⟨q0, e1, e2⟩ := hget k q hk
    rw [← e2]
    exact (hx.1 k q0 e1).2
  · intro b e hb
    refine ⟨rfl, ?_⟩
    rw [← hw] at hb
    obtain ⟨i, hi⟩ := jm_lk_mem hb
    by_cases hin : i ∈ is
    · obtain ⟨k, hk⟩ := List.getElem?_of_mem hin
      have hk2 : k < is.length := (List.getElem?_eq_some_iff.mp hk).1
      have hk3 : wc'[k]? = some (wc'[k]'(by omega)) := List.getElem?_eq_getElem (by omega)
      obtain ⟨q0, e1, e2⟩ := hget k _ hk3
      obtain ⟨i', e3, e4⟩ := jm_X.at hC e1
      have e5 : i = i' := Option.some.inj (hk.symm.trans e3)
      subst e5
      have e6 : q0 = (b, e) := Option.some.inj (e4.symm.trans hi)
      subst e6
      refine ⟨⟨_, by have := hnew k _ hk3; rw [← e2] at this; exact this⟩, fun hn => absurd (hx.1 k _ e1).2 hn⟩
    · have hlt : i < (jk_put w is wc').length := by
        rw [jk_put_len]
        exact (List.getElem?_eq_some_iff.mp hi).1
      have hget2 : (jk_put w is wc')[i]? = some (jk_put w is wc')[i] := List.getElem?_eq_getElem hlt
      rcases jk_put_get is wc' w i _ (by omega) hget2 with ⟨j, z1, z2⟩ | ⟨z1, z2⟩
      · exact absurd (List.mem_of_getElem? z1) hin
      · have e7 : (jk_put w is wc')[i] = (b, e) := Option.some.inj (z1.symm.trans hi)
        have e8 := jm_lk_of g2 (by rw [hget2, e7] : (jk_put w is wc')[i]? = some (b, e))
        exact ⟨⟨e, e8⟩, fun _ => e8⟩
  · intro hwc b e hb
    rw [← hw] at hb
    obtain ⟨i, hi⟩ := jm_lk_mem hb
    by_cases hin : i ∈ is
    · obtain ⟨k, hk⟩ := List.getElem?_of_mem hin
      have hk2 : k < is.length := (List.getElem?_eq_some_iff.mp hk).1
      have hk3 : wc[k]? = some (wc[k]'(by omega)) := List.getElem?_eq_getElem (by omega)
      obtain ⟨i', e3, e4⟩ := jm_X.at hC hk3
      have e5 : i = i' := Option.some.inj (hk.symm.trans e3)
      subst e5
      have e6 : wc[k]'(by omega) = (b, e) := Option.some.inj (e4.symm.trans hi)
      rw [e6] at hk3
      exact hnew k (b, e) (by rw [hwc]; exact hk3)
    · have hlt : i < (jk_put w is wc').length := by
        rw [jk_put_len]
        exact (List.getElem?_eq_some_iff.mp hi).1
      have hget2 : (jk_put w is wc')[i]? = some (jk_put w is wc')[i] := List.getElem?_eq_getElem hlt
      rcases jk_put_get is wc' w i _ (by omega) hget2 with ⟨j, z1, z2⟩ | ⟨z1, z2⟩
      · exact absurd (List.mem_of_getElem? z1) hin
      · have e7 : (jk_put w is wc')[i] = (b, e) := Option.some.inj (z1.symm.trans hi)
        exact jm_lk_of g2 (by rw [hget2, e7] : (jk_put w is wc')[i]? = some (b, e))
theorem jm_X_post {w : va_W} {is : List Nat} (hC : is.map (fun i => w[i]?) = wc.map some) (hw : jm_lk w = M) (hx : jm_X ow M t wc) (had : wc'.map (·.1) = wc.map (·.1)) {sz : Nat} {a : Array Value} {s u : State} (hp : va_Pc as (jk_Pre D cl tys Z w sz) a s) (hF : va_F (va_A wc sz) s u) (hW : s.WarmedH u.vm) (h : jk_Post D cl tys' wc' u) :
    ∃ w' : va_W, (jm_X ow (jm_lk w') t wc' ∧ jl_Fr ow M ow (jm_lk w') t) ∧ va_P D cl w' u.heap ∧ va_D (va_A w sz) w' ∧ va_K D cl tys u := by
  obtain ⟨w', h1, h2⟩ := jm_X_post2 hC hw hx had hp hF hW h
  exact ⟨w', h1.1, h2⟩
/-- queries: nothing changes -/
theorem jm_ofMIq (hZ : jk_ZC Z) {r : Int} (h : jk_MI l D cl tys' Z y wy rm as wc wc r) (hx : jm_X ow M t wc) (its : List Nat) (hty : its.filterMap (fun i => tys[i]?) = tys') : jm_Met l D cl tys Z y wy rm as M (fun v M' => v = some (jk_V r) ∧ jm_le M M') 0 0 := by
  intro sz w hw p e a b c s m args below hf happ hP hk
  obtain ⟨is, hC⟩ := hx.len hw
  obtain ⟨n, o, h1, h2, h3, ⟨⟨r', u, g1, g2, g3⟩, g4⟩, L, hE, hL⟩ := h sz p e a b c s m args below hf happ (jm_X_pre hZ hC hx its hty _ _ hP) trivial
  obtain ⟨w', f1, f2⟩ := jm_X_post2 hC hw hx rfl hP g4 hE.2.1 g3
  exact ⟨n, o, h1, h2, h3, ⟨⟨_, w', g1, ⟨by rw [show r' = jk_I r from g2], f1.2 rfl⟩, f2⟩, g4.1, fun q z1 z2 => g4.2 q z1 (fun z => z2 (jm_X.A hC q z))⟩, L, hE, fun q hq => jm_X.A hC _ (hL q hq)⟩
theorem jm_ofXIq (hZ : jk_ZC Z) {r : Int} (h : jk_XI l D cl tys' Z y wy rm as wc (.inr (r, wc)) mc ms) (hx : jm_X ow M t wc) (its : List Nat) (hty : its.filterMap (fun i => tys[i]?) = tys') : jm_Met l D cl tys Z y wy rm as M (fun v M' => v = some (jk_V r) ∧ jm_le M M') mc ms := by
  intro sz w hw p e a b c s m args below hf happ hP hk
  obtain ⟨is, hC⟩ := hx.len hw
  obtain ⟨n, o, h1, h2, h3, h4⟩ := h sz p e a b c s m args below hf happ (jm_X_pre hZ hC hx its hty _ _ hP) trivial
  rcases h4 with ⟨⟨⟨r', u, g1, ⟨o1, g2, g5⟩, o2, g6, g3⟩, g4⟩, L, hE, hL⟩ | ⟨q9, g0, E, ce, L, ⟨u, g1, ⟨k, e1, -⟩, g3⟩, g5⟩
  · have e1 : (r, wc) = o1 := Sum.inr.inj g2
    subst e1
    have e2 : (r, wc) = o2 := Sum.inr.inj g6
    subst e2
    obtain ⟨w', f1, f2⟩ := jm_X_post2 hC hw hx rfl hP g4 hE.2.1 g3
    exact ⟨n, o, h1, h2, h3, ⟨⟨_, w', g1, ⟨by rw [show r' = jk_I r from g5], f1.2 rfl⟩, f2⟩, g4.1, fun q z1 z2 => g4.2 q z1 (fun z => z2 (jm_X.A hC q z))⟩, L, hE, fun q hq => jm_X.A hC _ (hL q hq)⟩
  · cases e1
theorem jm_X.mono {ow : Nat → Nat} {M M' : jm_M} {t : Nat} {wc : va_W} (h : jm_X ow M t wc) (hl : jm_le M M') : jm_X ow M' t wc := ⟨fun k q hq => ⟨hl _ _ (h.1 k q hq).1, (h.1 k q hq).2⟩, h.2⟩
theorem jm_ofMI (hZ : jk_ZC Z) {r : Int} (h : jk_MI l D cl tys' Z y wy rm as wc wc' r) (hx : jm_X ow M t wc) (had : wc'.map (·.1) = wc.map (·.1)) (its : List Nat) (hty : its.filterMap (fun i => tys[i]?) = tys') : jm_Met l D cl tys Z y wy rm as M (fun v M' => v = some (jk_V r) ∧ jm_X ow M' t wc' ∧ jl_Fr ow M ow M' t) 0 0 := by
  intro sz w hw p e a b c s m args below hf happ hP hk
  obtain ⟨is, hC⟩ := hx.len hw
  obtain ⟨n, o, h1, h2, h3, ⟨⟨r', u, g1, g2, g3⟩, g4⟩, L, hE, hL⟩ := h sz p e a b c s m args below hf happ (jm_X_pre hZ hC hx its hty _ _ hP) trivial
  obtain ⟨w', f1, f2⟩ := jm_X_post hC hw hx had hP g4 hE.2.1 g3
  exact ⟨n, o, h1, h2, h3, ⟨⟨_, w', g1, ⟨by rw [show r' = jk_I r from g2], f1⟩, f2⟩, g4.1, fun q z1 z2 => g4.2 q z1 (fun z => z2 (jm_X.A hC q z))⟩, L, hE, fun q hq => jm_X.A hC _ (hL q hq)⟩
theorem jm_ofMV (hZ : jk_ZC Z) (h : jk_MV l D cl tys' Z y wy rm as wc wc') (hx : jm_X ow M t wc) (had : wc'.map (·.1) = wc.map (·.1)) (its : List Nat) (hty : its.filterMap (fun i => tys[i]?) = tys') : jm_Met l D cl tys Z y wy rm as M (fun v M' => v = none ∧ jm_X ow M' t wc' ∧ jl_Fr ow M ow M' t) 0 0 := by
  intro sz w hw p e a b c s m args below hf happ hP hk
  obtain ⟨is, hC⟩ := hx.len hw
  obtain ⟨n, o, h1, h2, h3, ⟨⟨u, g1, g2, g3⟩, g4⟩, L, hE, hL⟩ := h sz p e a b c s m args below hf happ (jm_X_pre hZ hC hx its hty _ _ hP) trivial
  obtain ⟨w', f1, f2⟩ := jm_X_post hC hw hx had hP g4 hE.2.1 g3
  exact ⟨n, o, h1, h2, h3, ⟨⟨_, w', g1, ⟨rfl, f1⟩, f2⟩, g4.1, fun q z1 z2 => g4.2 q z1 (fun z => z2 (jm_X.A hC q z))⟩, L, hE, fun q hq => jm_X.A hC _ (hL q hq)⟩
theorem jm_ofXI (hZ : jk_ZC Z) {r : Int} (h : jk_XI l D cl tys' Z y wy rm as wc (.inr (r, wc')) mc ms) (hx : jm_X ow M t wc) (had : wc'.map (·.1) = wc.map (·.1)) (its : List Nat) (hty : its.filterMap (fun i => tys[i]?) = tys') : jm_Met l D cl tys Z y wy rm as M (fun v M' => v = some (jk_V r) ∧ jm_X ow M' t wc' ∧ jl_Fr ow M ow M' t) mc ms := by
  intro sz w hw p e a b c s m args below hf happ hP hk
  obtain ⟨is, hC⟩ := hx.len hw
  obtain ⟨n, o, h1, h2, h3, h4⟩ := h sz p e a b c s m args below hf happ (jm_X_pre hZ hC hx its hty _ _ hP) trivial
  rcases h4 with ⟨⟨⟨r', u, g1, ⟨o1, g2, g5⟩, o2, g6, g3⟩, g4⟩, L, hE, hL⟩ | ⟨q9, g0, E, ce, L, ⟨u, g1, ⟨k, e1, -⟩, g3⟩, g5⟩
  · have e1 : (r, wc') = o1 := Sum.inr.inj g2
    subst e1
    have e2 : (r, wc') = o2 := Sum.inr.inj g6
    subst e2
    obtain ⟨w', f1, f2⟩ := jm_X_post hC hw hx had hP g4 hE.2.1 g3
    exact ⟨n, o, h1, h2, h3, ⟨⟨_, w', g1, ⟨by rw [show r' = jk_I r from g5], f1⟩, f2⟩, g4.1, fun q z1 z2 => g4.2 q z1 (fun z => z2 (jm_X.A hC q z))⟩, L, hE, fun q hq => jm_X.A hC _ (hL q hq)⟩
  · cases e1
theorem jm_ofXV (hZ : jk_ZC Z) (h : jk_XV l D cl tys' Z y wy rm as wc (.inr wc') mc ms) (hx : jm_X ow M t wc) (had : wc'.map (·.1) = wc.map (·.1)) (its : List Nat) (hty : its.filterMap (fun i => tys[i]?) = tys') : jm_Met l D cl tys Z y wy rm as M (fun v M' => v = none ∧ jm_X ow M' t wc' ∧ jl_Fr ow M ow M' t) mc ms := by
  intro sz w hw p e a b c s m args below hf happ hP hk
  obtain ⟨is, hC⟩ := hx.len hw
  obtain ⟨n, o, h1, h2, h3, h4⟩ := h sz p e a b c s m args below hf happ (jm_X_pre hZ hC hx its hty _ _ hP) trivial
  rcases h4 with ⟨⟨⟨u, g1, -, o2, g6, g3⟩, g4⟩, L, hE, hL⟩ | ⟨q9, g0, E, ce, L, ⟨u, g1, ⟨k, e1, -⟩, g3⟩, g5⟩
  · have e2 : wc' = o2 := Sum.inr.inj g6
    subst e2
    obtain ⟨w', f1, f2⟩ := jm_X_post hC hw hx had hP g4 hE.2.1 g3
    exact ⟨n, o, h1, h2, h3, ⟨⟨_, w', g1, ⟨rfl, f1⟩, f2⟩, g4.1, fun q z1 z2 => g4.2 q z1 (fun z => z2 (jm_X.A hC q z))⟩, L, hE, fun q hq => jm_X.A hC _ (hL q hq)⟩
  · cases e1
end BR
