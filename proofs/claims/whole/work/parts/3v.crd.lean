/-! a cord's place, and the rest of a cord's statement -/
section PT3
variable {len q cl sz tn : Int} {f f1 st dp tp va nb w g nm : Int → Int}
theorem tS_i (hq : 0 ≤ q) (hl : q ≤ len) : tS f len (tS f len q) = tS f len q := by
  obtain ⟨⟨h1, h2⟩, h3, h4⟩ := tS_r (f := f) hq hl
  obtain ⟨⟨h5, h6⟩, h7, h8⟩ := tS_r (f := f) (q := tS f len q) (by omega) h2
  by_cases a : tS f len (tS f len q) = tS f len q
  · exact a
  · exact absurd (h7 (tS f len q) (by omega) (by omega)) (h4 (by omega))
theorem tE_i (hq : 0 ≤ q) (hl : q ≤ len) : tE f len (tS f len q) = tE f len q := by
  unfold tE
  rw [tS_i hq hl]
theorem tK_i (hq : 0 ≤ q) (hl : q ≤ len) : tK f len (tS f len q) = tK f len q := by
  unfold tK
  rw [tE_i hq hl, tS_i hq hl]
theorem pTk_i (hq : 0 ≤ q) (hl : q ≤ len) {y1 y2 y3 y4 : Int} (P : pTk f len q y1 y2 y3 y4) : pTk f len (tS f len q) y1 y2 y3 y4 := by
  unfold pTk at P ⊢
  rw [tE_i hq hl, tS_i hq hl, tK_i hq hl]
  exact P
/-- a cord of depth d may come at a of the latest cluster -/
def pAt (cl sz : Int) (st dp : Int → Int) (a d : Int) : Prop := (st (cl - 1) ≤ a ∧ a ≤ sz) ∧ (0 ≤ d ∧ d ≤ 3) ∧ (a = st (cl - 1) → d ≤ 1) ∧ (st (cl - 1) < a → 1 ≤ d ∧ d ≤ dp (a - 1) + 1) ∧ (a < sz → 1 ≤ dp a ∧ dp a ≤ d + 1)
theorem at_top (I : pI cl sz tn st dp tp va nb g) (h0 : 1 ≤ cl) (h1 : ht st dp (cl - 1) = 0) : pAt cl sz st dp (st (cl - 1)) 0 := by
  have s1 := pI_st I (c := cl - 1) (by omega) (by omega)
  have he : st (cl - 1 + 1) = sz := by rw [show cl - 1 + 1 = cl by omega]; exact I.2.1.2.1
  refine ⟨⟨by omega, by omega⟩, by omega, fun _ => by omega, fun h => by omega, fun h2 => ?_⟩
  have hg := pI_g I (c := cl - 1) (k := st (cl - 1)) (by omega) (by omega) (by omega) (by omega)
  obtain ⟨-, c1, -, -, -, -, c2, -⟩ := I.2.2 (st (cl - 1)) (by omega) (by omega)
  have := c2 (by rw [hg])
  have h4 : ¬ dp (st (cl - 1)) = 0 := fun q => by
    unfold ht at h1
    rw [if_pos ⟨by omega, q⟩] at h1
    omega
  omega
theorem at_pend (I : pI cl sz tn st dp tp va nb g) (h0 : 1 ≤ cl) : pAt cl sz st dp sz 1 := by
  have s1 := pI_st I (c := cl - 1) (by omega) (by omega)
  refine ⟨⟨by omega, by omega⟩, by omega, fun _ => by omega, fun h => ⟨by omega, ?_⟩, fun h2 => by omega⟩
  have := (I.2.2 (sz - 1) (by omega) (by omega)).2.1
  omega
theorem at_sub (I : pI cl sz tn st dp tp va nb g) (hc : 1 ≤ cl) {k d : Int} (h0 : st (cl - 1) ≤ k) (h1 : k < sz) (h2 : dp k = d - 1) (hd : 2 ≤ d ∧ d ≤ 3) : pAt cl sz st dp (be sz dp k) d ∧ 0 ≤ k := by
  have s1 := pI_st I (c := cl - 1) (by omega) (by omega)
  have he : st (cl - 1 + 1) = sz := by rw [show cl - 1 + 1 = cl by omega]; exact I.2.1.2.1
  have hk : 0 ≤ k := by omega
  obtain ⟨⟨b1, b2⟩, b3, b4⟩ := be_r I hk h1
  refine ⟨⟨⟨by omega, by omega⟩, by omega, fun _ => by omega, fun h => ⟨by omega, ?_⟩, fun h => ?_⟩, hk⟩
  · by_cases x : be sz dp k - 1 = k
    · rw [x]; omega
    · have := b3 (be sz dp k - 1) (by omega) (by omega)
      omega
  · have hg := pI_g I (c := cl - 1) (k := be sz dp k) (by omega) (by omega) (by omega) (by omega)
    obtain ⟨-, -, -, -, -, -, -, c2⟩ := I.2.2 (be sz dp k) (by omega) (by omega)
    have := c2 (by rw [hg]; omega)
    have := b4 (by omega) (by omega)
    omega
theorem ins_both (H : pC tn cl sz st dp tp va nb w) (h0 : 1 ≤ cl) (hs : sz < 40) {a d t v : Int} (A : pAt cl sz st dp a d) (ht : 0 ≤ t ∧ t < tn) (hv : 0 ≤ v ∧ v ≤ 9999) :
    fn_Cords_insert cl sz st dp tp va nb a (cl - 1) d t v = some (a, sz + 1, rsz st (cl - 1) cl 1, ins dp a d sz, ins tp a t sz, ins va a v sz, ins nb a 0 sz) ∧ fn_Md_inserts w a (cl - 1) d t v = some (a, wins w a (cl - 1) d t v sz) ∧ pC tn cl (sz + 1) (rsz st (cl - 1) cl 1) (ins dp a d sz) (ins tp a t sz) (ins va a v sz) (ins nb a 0 sz) (wins w a (cl - 1) d t v sz) ∧ pU w (wins w a (cl - 1) d t v sz) ∧ (0 ≤ a ∧ a < sz + 1) := by
  obtain ⟨⟨g, I, M⟩, G⟩ := H
  have hcl := I.1.1
  have hsz := I.1.2.1
  have s1 := pI_st I (c := cl - 1) (by omega) (by omega)
  have he : st (cl - 1 + 1) = sz := by rw [show cl - 1 + 1 = cl by omega]; exact I.2.1.2.1
  obtain ⟨a1, a2, a3, a4, a5⟩ := A
  have hM := pM_ins (a := a) (c := cl - 1) (d := d) (t := t) (v := v) M hsz.1 (by omega) (by omega)
  refine ⟨sp_cins I hs (by omega) (by omega) (by omega) (by omega), sm_ins hsz.1 hs (by omega) (by omega) M.2.1, ⟨⟨ins g a (cl - 1) sz, ?_, hM.1⟩, pG_ins G (by omega) ⟨by omega, by omega⟩⟩, hM.2, by omega⟩
  exact pI_ins I hs (by omega) (by omega) (by omega) (by omega) a2 ht hv a3 a4 (fun h => a5 (by omega))
theorem up_id {u : Int → Int} {i : Int} : jk_up u i (u i) = u := by
  funext j
  by_cases x : j = i
  · rw [up_eq x, x]
  · rw [up_ne x]
theorem lose0 (H : pC tn cl sz st dp tp va nb w) {k : Int} (h0 : 0 ≤ k) (h1 : k < sz) (hn : nb k = 0) : fn_Cords_loseKnots va nb k 0 = some (0, va, nb) := by
  obtain ⟨⟨g, I, M⟩, G⟩ := H
  have hsz := I.1.2.1
  obtain ⟨-, -, -, hv, hb, hd, -⟩ := I.2.2 k h0 h1
  have hp : pw 0 = 1 := rfl
  have e1 : va k / pw 0 * pw 0 = va k := by rw [hp]; omega
  have e2 : jk_up va k (va k / pw 0 * pw 0) = va := by rw [e1]; exact up_id
  have e3 : jk_up nb k 0 = nb := by rw [← hn]; exact up_id
  unfold fn_Cords_loseKnots
  (try simp (disch := omega) only [↓zk_lt, ↓zk_nl, ↓zk_eq, ↓zk_ne, ↓zk_ix, ↓zk_dv, ↓zk_bo, ↓zk_rg, ↓zk_get, ↓zk_set, Option.bind_some])
  rw [zk_bd (sp_ksum hv.1 (by omega)), zk_bd (sp_lose (by omega) (by omega) hv.1 (by omega))]
  (try simp (disch := omega) only [↓zk_lt, ↓zk_nl, ↓zk_eq, ↓zk_ne, ↓zk_ix, ↓zk_dv, ↓zk_bo, ↓zk_rg, ↓zk_get, ↓zk_set, Option.bind_some])
  rw [e2, e3, zk_bd (sp_ksum hv.1 (by omega))]
  simp
theorem loseN (H : pC tn cl sz st dp tp va nb w) {k y : Int} (h0 : 0 ≤ k) (h1 : k < sz) (hy : 1 ≤ y ∧ y ≤ 4) (hn : nb k ≤ y) : ∃ r va' nb' w', fn_Cords_loseKnots va nb k y = some (r, va', nb') ∧ fn_Md_loses w k y = some (r, w') ∧ pC tn cl sz st dp tp va' nb' w' ∧ pU w w' := by
  obtain ⟨r, cl', sz', st', dp', tp', va', nb', w', e1, e2, e3, e4, -⟩ := p_6 H h0 h1 hy hn 0
  unfold fn_KR_perform at e1
  simp (disch := omega) only [↓zk_ne, ↓zk_eq] at e1
  cases e : fn_Cords_loseKnots va nb k y with
  | none => rw [e] at e1; cases e1
  | some x =>
    rw [e] at e1
    obtain ⟨x1, x2, x3⟩ := x
    simp only [Option.bind_some, Option.some.injEq, Prod.mk.injEq] at e1
    obtain ⟨rfl, rfl, rfl, rfl, rfl, rfl, rfl, rfl⟩ := e1
    exact ⟨x1, x2, x3, w', rfl, e2, e3, e4⟩
/-! the latest cord of a depth -/
def pLt (dp : Int → Int) (D a e k : Int) : Prop := (k = -1 ∧ ∀ j, a ≤ j → j < e → ¬ dp j = D) ∨ ((a ≤ k ∧ k < e) ∧ dp k = D ∧ ∀ j, k < j → j < e → ¬ dp j = D)
theorem pLt_u {D a e k k' : Int} (ha : 0 ≤ a) (h : pLt dp D a e k) (h' : pLt dp D a e k') : k = k' := by
  rcases h with ⟨rfl, h⟩ | ⟨⟨h1, h2⟩, h3, h4⟩ <;> rcases h' with ⟨rfl, h'⟩ | ⟨⟨h5, h6⟩, h7, h8⟩
  · rfl
  · exact absurd h7 (h k' h5 h6)
  · exact absurd h3 (h' k h1 h2)
  · by_cases x : k < k'
    · exact absurd h7 (h4 k' x h6)
    · by_cases y : k' < k
      · exact absurd h3 (h8 k y h2)
      · omega
theorem c_lat (I : pI cl sz tn st dp tp va nb g) {D a : Int} (hD : 0 ≤ D ∧ D ≤ 10000) (ha : 0 ≤ a ∧ a ≤ sz) : ∃ k, fn_Cords_latestAtDepth dp a sz D = some k ∧ pLt dp D a sz k := by
  have hF := jk_F_big
  have hsz := I.1.2.1
  have e1 : ∀ (n m : Nat) (i : Int), i + 1 = a + m → i < sz → (∀ j, i < j → j < sz → ¬ dp j = D) → m < n → ∃ k, fn_Cords_latestAtDepth_b5 n dp a D i = some k ∧ pLt dp D a sz k := by
    intro n
    induction n with
    | zero => intro m i _ _ _ h; omega
    | succ n ih =>
      intro m i hi h0 hno hm
      rw [fn_Cords_latestAtDepth_b5]
      cases m with
      | zero =>
        refine ⟨-1, ?_, Or.inl ⟨rfl, fun j h1 h2 => hno j (by omega) h2⟩⟩
        (try simp (disch := omega) only [↓zk_lt, ↓zk_nl, ↓zk_eq, ↓zk_ne, ↓zk_ix, ↓zk_dv, ↓zk_bo, ↓zk_rg, ↓zk_get, ↓zk_set, Option.bind_some])
      | succ m =>
        have hd := (I.2.2 i (by omega) h0).2.1
        by_cases x : dp i = D
        · refine ⟨i, ?_, Or.inr ⟨⟨by omega, h0⟩, x, hno⟩⟩
          (try simp (disch := omega) only [↓zk_lt, ↓zk_nl, ↓zk_eq, ↓zk_ne, ↓zk_ix, ↓zk_dv, ↓zk_bo, ↓zk_rg, ↓zk_get, ↓zk_set, Option.bind_some])
        · obtain ⟨k, k1, k2⟩ := ih m (i + (-1)) (by omega) (by omega) (fun j h1 h2 => by
            by_cases y : j = i
            · rw [y]; exact x
            · exact hno j (by omega) h2) (by omega)
          refine ⟨k, ?_, k2⟩
          (try simp (disch := omega) only [↓zk_lt, ↓zk_nl, ↓zk_eq, ↓zk_ne, ↓zk_ix, ↓zk_dv, ↓zk_bo, ↓zk_rg, ↓zk_get, ↓zk_set, Option.bind_some])
          exact k1
  unfold fn_Cords_latestAtDepth
  exact e1 jk_F (sz - a).toNat (sz - 1) (by omega) (by omega) (fun j h1 h2 => by omega) (by omega)
theorem m_lat (I : pI cl sz tn st dp tp va nb g) (M : pM cl sz dp tp va nb g w) (h0 : 1 ≤ cl) {D : Int} (hD : 0 ≤ D ∧ D ≤ 10000) : ∃ k, fn_Md_latest w D = some k ∧ pLt dp D (st (cl - 1)) sz k := by
  have hF := jk_F_big
  have hsz := I.1.2.1
  have hcl := I.1.1
  have hw1 := M.1
  have hw2 := M.2.1
  have s1 := pI_st I (c := cl - 1) (by omega) (by omega)
  have e1 : ∀ (n m : Nat) (i k0 : Int), i + m = sz → st (cl - 1) ≤ i → pLt dp D (st (cl - 1)) i k0 → m < n → ∃ k, fn_Md_latest_b15 n w D k0 i = some k ∧ pLt dp D (st (cl - 1)) sz k := by
    intro n
    induction n with
    | zero => intro m i _ _ _ _ h; omega
    | succ n ih =>
      intro m i k0 hi ha hl hm
      rw [fn_Md_latest_b15]
      cases m with
      | zero =>
        have e : i = sz := by omega
        subst e
        refine ⟨k0, ?_, hl⟩
        (try simp (disch := omega) only [↓zk_lt, ↓zk_nl, ↓zk_eq, ↓zk_ne, ↓zk_ix, ↓zk_dv, ↓zk_bo, ↓zk_rg, ↓zk_get, ↓zk_set, Option.bind_some])
      | succ m =>
        have hd := (I.2.2 i (by omega) (by omega)).2.1
        by_cases x : dp i = D
        · obtain ⟨k, k1, k2⟩ := ih m (i + 1) i (by omega) (by omega) (Or.inr ⟨⟨ha, by omega⟩, x, fun j h1 h2 => by omega⟩) (by omega)
          refine ⟨k, ?_, k2⟩
          (try simp (disch := omega) only [↓zk_lt, ↓zk_nl, ↓zk_eq, ↓zk_ne, ↓zk_ix, ↓zk_dv, ↓zk_bo, ↓zk_rg, ↓zk_get, ↓zk_set, Option.bind_some])
          rw [zk_bd (M1 I M (k := i) (by omega) (by omega))]
          (try simp (disch := omega) only [↓zk_lt, ↓zk_nl, ↓zk_eq, ↓zk_ne, ↓zk_ix, ↓zk_dv, ↓zk_bo, ↓zk_rg, ↓zk_get, ↓zk_set, Option.bind_some])
          exact k1
        · obtain ⟨k, k1, k2⟩ := ih m (i + 1) k0 (by omega) (by omega) (by
            rcases hl with ⟨z, h⟩ | ⟨z1, z2, h⟩
            · refine Or.inl ⟨z, fun j h1 h2 => ?_⟩
              by_cases y : j = i
              · rw [y]; exact x
              · exact h j h1 (by omega)
            · refine Or.inr ⟨⟨z1.1, by omega⟩, z2, fun j h1 h2 => ?_⟩
              by_cases y : j = i
              · rw [y]; exact x
              · exact h j h1 (by omega)) (by omega)
          refine ⟨k, ?_, k2⟩
          (try simp (disch := omega) only [↓zk_lt, ↓zk_nl, ↓zk_eq, ↓zk_ne, ↓zk_ix, ↓zk_dv, ↓zk_bo, ↓zk_rg, ↓zk_get, ↓zk_set, Option.bind_some])
          rw [zk_bd (M1 I M (k := i) (by omega) (by omega))]
          (try simp (disch := omega) only [↓zk_lt, ↓zk_nl, ↓zk_eq, ↓zk_ne, ↓zk_ix, ↓zk_dv, ↓zk_bo, ↓zk_rg, ↓zk_get, ↓zk_set, Option.bind_some])
          exact k1
  unfold fn_Md_latest
  (try simp (disch := omega) only [↓zk_lt, ↓zk_nl, ↓zk_eq, ↓zk_ne, ↓zk_ix, ↓zk_dv, ↓zk_bo, ↓zk_rg, ↓zk_get, ↓zk_set, Option.bind_some])
  rw [hw1, zk_bd (sm_first I M (c := cl - 1) (by omega) (by omega))]
  exact e1 jk_F (sz - st (cl - 1)).toNat (st (cl - 1)) (-1) (by omega) (by omega) (Or.inl ⟨rfl, fun j h1 h2 => by omega⟩) (by omega)
theorem lat_both (I : pI cl sz tn st dp tp va nb g) (M : pM cl sz dp tp va nb g w) (h0 : 1 ≤ cl) {D : Int} (hD : 0 ≤ D ∧ D ≤ 10000) : ∃ k, fn_Cords_latestAtDepth dp (st (cl - 1)) sz D = some k ∧ fn_Md_latest w D = some k ∧ (k = -1 ∨ ((st (cl - 1) ≤ k ∧ k < sz) ∧ dp k = D)) := by
  have s1 := pI_st I (c := cl - 1) (by omega) (by omega)
  obtain ⟨k, k1, k2⟩ := c_lat I hD (a := st (cl - 1)) (by omega)
  obtain ⟨k', k3, k4⟩ := m_lat I M h0 hD
  have e := pLt_u (by omega) k2 k4
  subst e
  refine ⟨k, k1, k3, ?_⟩
  rcases k2 with ⟨h, -⟩ | ⟨h1, h2, -⟩
  · exact Or.inl h
  · exact Or.inr ⟨h1, h2⟩
end PT3
