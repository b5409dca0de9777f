/-! a constructor's contract over lists of cells, told over the world by addresses -/
theorem jm_nd : ∀ {l : List Nat}, l.Nodup → va_nd l = true
  | [], _ => rfl
  | a :: l, h => by
    obtain ⟨h1, h2⟩ := List.nodup_cons.mp h
    show (decide (a ∉ l) && va_nd l) = true
    rw [jm_nd h2, decide_eq_true h1]
    rfl
def jm_rs (n i : Nat) : List Nat := (List.range n).filter (fun k => !(k == i))
theorem jm_rs_mem {n i k : Nat} : k ∈ jm_rs n i ↔ k < n ∧ k ≠ i := by
  unfold jm_rs
  rw [List.mem_filter, List.mem_range]
  simp
theorem jm_rs_nd (n i : Nat) : va_nd (jm_rs n i) = true := jm_nd (List.Pairwise.filter _ List.nodup_range)
theorem jm_fm {w : va_W} : ∀ is : List Nat, (∀ i ∈ is, i < w.length) → is.map (fun i => w[i]?) = (is.filterMap (fun i => w[i]?)).map some
  | [], _ => rfl
  | i :: is, h => by
    have hi : i < w.length := h i (List.mem_cons_self ..)
    have h1 : w[i]? = some w[i] := List.getElem?_eq_getElem hi
    rw [List.filterMap_cons_some h1, List.map_cons, List.map_cons, h1, jm_fm is (fun j hj => h j (List.mem_cons_of_mem _ hj))]
section BR2
variable {l : Launch} {D : va_G} {cl : List vw_C} {tys tys' : List (ClassId × FieldType)} {Z : (Nat → Prop) → State → Heap → Prop} {y : MethodName} {wy : List Cond} {rm : Room} {as : List Value} {mc ms t tg : Nat} {ow : Nat → Nat} {M : jm_M} {e0 : va_E}
def jm_ow (ow : Nat → Nat) (M : jm_M) (tg : Nat) : Nat → Nat := fun b => match M b with | some _ => ow b | none => tg
theorem jm_ofMN (hZ : jk_ZC Z) {U : Type} {w' : U → va_W} (h : jk_MN l D cl tys' Z y wy rm as [(t, e0)] w' mc ms) (h0 : ∀ u, ∃ e' : va_E, (w' u)[0]? = some (t, e')) (hM : M t = some e0) (hown : ow t = tg) (its : List Nat) (hty : its.filterMap (fun i => tys[i]?) = tys') : jm_Met l D cl tys Z y wy rm as M (fun v M' => v = none ∧ ∃ (u : U) (ow' : Nat → Nat), jm_X ow' M' tg (w' u) ∧ jl_Fr ow M ow' M' tg) mc ms := by
  intro sz w hw p e a b c s m args below hf happ hP hk
  obtain ⟨i, hi⟩ := jm_lk_mem (by rw [hw]; exact hM : jm_lk w t = some e0)
  have hlt := (List.getElem?_eq_some_iff.mp hi).1
  have hC : [i].map (fun i => w[i]?) = ([(t, e0)] : va_W).map some := by
    show [w[i]?] = [some (t, e0)]
    rw [hi]
  have hx : jm_X ow M tg [(t, e0)] := ⟨fun k q hq => by
    match k, hq with
    | 0, hq => cases hq; exact ⟨hM, hown⟩, fun i j p q hi hj _ => by
    match i, j, hi, hj with
    | 0, 0, _, _ => rfl, fun _ _ _ => trivial⟩
  obtain ⟨n, o, h1, h2, h3, ⟨⟨u, g1, -, ⟨g2, -⟩, g3⟩, g4⟩, L, hE, hL⟩ := h sz p e a b c s m args below hf happ (jm_X_pre hZ hC hx its hty _ _ hP) trivial
  obtain ⟨p0, p1, p2, p3, p4, p5⟩ := hP
  have hD0 : va_D (va_A w sz) w := ⟨p4.1, fun k q hk => va_A.in hk⟩
  have hR := jm_fm (w := w) (jm_rs w.length i) (fun k hk => (jm_rs_mem.mp hk).1)
  subst p1
  obtain ⟨k1, k2⟩ := va_join p2 hD0 [i] (jm_rs w.length i) hC hR (jm_rs_nd _ _) (fun k hk hk2 => (jm_rs_mem.mp hk).2 (List.mem_singleton.mp hk2)) (fun q z1 z2 => g4.2 q z1 z2) (fun q hq => jm_X.A hC q hq) g2 g3
  generalize hwr : (jm_rs w.length i).filterMap (fun i => w[i]?) = wr at hR k1 k2
  have hold : ∀ (b : Nat) (e : va_E), M b = some e → b ≠ t → ∃ j : Nat, wr[j]? = some (b, e) := by
    intro b e hb hne
    rw [← hw] at hb
    obtain ⟨j, hj⟩ := jm_lk_mem hb
    have hj2 : j ∈ jm_rs w.length i := jm_rs_mem.mpr ⟨(List.getElem?_eq_some_iff.mp hj).1, fun z => by
      subst z
      exact hne (congrArg Prod.fst (Option.some.inj (hj.symm.trans hi)))⟩
    rw [← hwr]
    exact List.getElem?_of_mem (List.mem_filterMap.mpr ⟨j, hj2, hj⟩)
  have hnew : ∀ (k : Nat) (q : Nat × va_E), (w' u)[k]? = some q → (wr ++ w' u)[wr.length + k]? = some q := fun k q hq => by
    rw [List.getElem?_append_right (Nat.le_add_right _ _), Nat.add_sub_cancel_left]
    exact hq
  have hleft : ∀ (j : Nat) (q : Nat × va_E), wr[j]? = some q → (wr ++ w' u)[j]? = some q := fun j q hq => by
    rw [List.getElem?_append_left (List.getElem?_eq_some_iff.mp hq).1]
    exact hq
  obtain ⟨e', he'⟩ := h0 u
  refine ⟨n, o, h1, h2, h3, ⟨⟨_, wr ++ w' u, g1, ⟨rfl, u, jm_ow ow M tg, ⟨fun k q hq => ⟨jm_lk_of k2 (hnew k q hq), ?_⟩, g3.1, fun _ _ _ => trivial⟩, fun b e hb => ⟨?_, ?_, fun hn => ?_⟩⟩, k1, k2, va_K.moved hE.2.1.alike p3⟩, g4.1, fun q z1 z2 => g4.2 q z1 (fun z => z2 (jm_X.A hC q z))⟩, L, hE, fun q hq => jm_X.A hC _ (hL q hq)⟩
  · unfold jm_ow
    cases hq2 : M q.1 with
    | none => rfl
    | some e2 =>
      show ow q.1 = tg
      by_cases hqt : q.1 = t
      · rw [hqt]; exact hown
      · obtain ⟨j, hj⟩ := hold _ _ hq2 hqt
        have := k2.1 j (wr.length + k) _ q (hleft j _ hj) (hnew k q hq) rfl
        have := (List.getElem?_eq_some_iff.mp hj).1
        omega
  · unfold jm_ow
    rw [hb]
  · by_cases hbt : b = t
    · rw [hbt]
      exact ⟨e', jm_lk_of k2 (hnew 0 _ he')⟩
    · obtain ⟨j, hj⟩ := hold _ _ hb hbt
      exact ⟨e, jm_lk_of k2 (hleft j _ hj)⟩
  · by_cases hbt : b = t
    · rw [hbt] at hn
      exact absurd hown hn
    · obtain ⟨j, hj⟩ := hold _ _ hb hbt
      exact jm_lk_of k2 (hleft j _ hj)
end BR2
