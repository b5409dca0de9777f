section P7
variable {cl sz tn : Int} {st dp tp va nb g w : Int → Int}
theorem sm_kof_b (I : pI cl sz tn st dp tp va nb g) (M : pM cl sz dp tp va nb g w) {k : Int} (h0 : 0 ≤ k) (h1 : k < sz) : fn_Md_knotsOf w k = some (pks (va k)) := by
  have hv := (I.2.2 k h0 h1).2.2.2.1
  have d0 := sm_knots I M h0 h1 (y := 0) (by omega) (by omega)
  have d1 := sm_knots I M h0 h1 (y := 1) (by omega) (by omega)
  have d2 := sm_knots I M h0 h1 (y := 2) (by omega) (by omega)
  have d3 := sm_knots I M h0 h1 (y := 3) (by omega) (by omega)
  unfold fn_Md_knotsOf
  rw [show jk_F = 99996 + 1 + 1 + 1 + 1 from rfl, fn_Md_knotsOf_b4]
  (try simp (disch := omega) only [↓zk_lt, ↓zk_nl, ↓zk_eq, ↓zk_ne, ↓zk_ix, ↓zk_dv, ↓zk_bo, ↓zk_rg, ↓zk_get, ↓zk_set, Option.bind_some])
  rw [zk_bd d0, fn_Md_knotsOf_b4]
  (try simp (disch := omega) only [↓zk_lt, ↓zk_nl, ↓zk_eq, ↓zk_ne, ↓zk_ix, ↓zk_dv, ↓zk_bo, ↓zk_rg, ↓zk_get, ↓zk_set, Option.bind_some])
  rw [show (0 + 1 : Int) = 1 from rfl, zk_bd d1, fn_Md_knotsOf_b4]
  (try simp (disch := omega) only [↓zk_lt, ↓zk_nl, ↓zk_eq, ↓zk_ne, ↓zk_ix, ↓zk_dv, ↓zk_bo, ↓zk_rg, ↓zk_get, ↓zk_set, Option.bind_some])
  rw [show (1 + 1 : Int) = 2 from rfl, zk_bd d2, fn_Md_knotsOf_b4]
  (try simp (disch := omega) only [↓zk_lt, ↓zk_nl, ↓zk_eq, ↓zk_ne, ↓zk_ix, ↓zk_dv, ↓zk_bo, ↓zk_rg, ↓zk_get, ↓zk_set, Option.bind_some])
  rw [show (2 + 1 : Int) = 3 from rfl, zk_bd d3, show (99996 : Nat) = 99995 + 1 from rfl, fn_Md_knotsOf_b4]
  (try simp (disch := omega) only [↓zk_lt, ↓zk_nl, ↓zk_eq, ↓zk_ne, ↓zk_ix, ↓zk_dv, ↓zk_bo, ↓zk_rg, ↓zk_get, ↓zk_set, Option.bind_some])
  simp only [pw, pks]
  congr 1
  simp
theorem q_knotCount (I : pI cl sz tn st dp tp va nb g) (M : pM cl sz dp tp va nb g w) {th : Int} : ∃ r, fn_KR_knotCount sz va = some r ∧ fn_Md_knotCount w th = some (r, 0) ∧ jk_R r := by
  have hF := jk_F_big
  have hsz := I.1.2.1
  have hw2 := M.2.1
  have e1 : ∀ (n k : Nat) (s i : Int), i + k = sz → 0 ≤ i → 0 ≤ s → s ≤ 4000 - 36 * (k : Int) → k < n → fn_KR_knotCount_b4 n sz va s i = some (s + pSm (fun j => pks (va j)) i k) := by
    intro n
    induction n with
    | zero => intro k s i _ _ _ _ h; omega
    | succ n ih =>
      intro k s i hi h2 hs hs2 hk
      rw [fn_KR_knotCount_b4]
      cases k with
      | zero => (try simp (disch := omega) only [↓zk_lt, ↓zk_nl, ↓zk_eq, ↓zk_ne, ↓zk_ix, ↓zk_dv, ↓zk_bo, ↓zk_rg, ↓zk_get, ↓zk_set, Option.bind_some]); simp [pSm]
      | succ k =>
        have hv := (I.2.2 i (by omega) (by omega)).2.2.2.1
        have hp := pks_r (va i)
        (try simp (disch := omega) only [↓zk_lt, ↓zk_nl, ↓zk_eq, ↓zk_ne, ↓zk_ix, ↓zk_dv, ↓zk_bo, ↓zk_rg, ↓zk_get, ↓zk_set, Option.bind_some])
        rw [zk_bd (sp_ksum hv.1 (by omega)), ih k _ _ (by omega) (by omega) (by omega) (by omega) (by omega)]
        simp only [pSm]
        congr 1
        omega
  have e2 : ∀ (n k : Nat) (s i : Int), i + k = sz → 0 ≤ i → 0 ≤ s → s ≤ 4000 - 36 * (k : Int) → k < n → fn_Md_knotCount_b9 n w 0 s i = some (s + pSm (fun j => pks (va j)) i k, 0) := by
    intro n
    induction n with
    | zero => intro k s i _ _ _ _ h; omega
    | succ n ih =>
      intro k s i hi h2 hs hs2 hk
      rw [fn_Md_knotCount_b9]
      cases k with
      | zero => (try simp (disch := omega) only [↓zk_lt, ↓zk_nl, ↓zk_eq, ↓zk_ne, ↓zk_ix, ↓zk_dv, ↓zk_bo, ↓zk_rg, ↓zk_get, ↓zk_set, Option.bind_some]); simp [pSm]
      | succ k =>
        have hp := pks_r (va i)
        (try simp (disch := omega) only [↓zk_lt, ↓zk_nl, ↓zk_eq, ↓zk_ne, ↓zk_ix, ↓zk_dv, ↓zk_bo, ↓zk_rg, ↓zk_get, ↓zk_set, Option.bind_some])
        rw [zk_bd (sm_kof_b I M (k := i) (by omega) (by omega)), ih k _ _ (by omega) (by omega) (by omega) (by omega) (by omega)]
        simp only [pSm]
        congr 2
        omega
  have hr := pSm_r (f := fun j => pks (va j)) (B := 36) sz.toNat 0 (fun j _ _ => pks_r (va j))
  exact ⟨_, e1 jk_F sz.toNat 0 0 (by omega) (by omega) (by omega) (by omega) (by omega), e2 jk_F sz.toNat 0 0 (by omega) (by omega) (by omega) (by omega) (by omega), by omega, by omega⟩
theorem sm_nibbled (I : pI cl sz tn st dp tp va nb g) (M : pM cl sz dp tp va nb g w) : fn_Md_nibbled w = some (pCt (fun j => decide (0 < nb j)) 0 sz.toNat) := by
  have hF := jk_F_big
  have hsz := I.1.2.1
  have hw2 := M.2.1
  have e2 : ∀ (n k : Nat) (s i : Int), i + k = sz → 0 ≤ i → 0 ≤ s → s ≤ 1000 - (k : Int) → k < n → fn_Md_nibbled_b4 n w s i = some (s + pCt (fun j => decide (0 < nb j)) i k) := by
    intro n
    induction n with
    | zero => intro k s i _ _ _ _ h; omega
    | succ n ih =>
      intro k s i hi h2 hs hs2 hk
      rw [fn_Md_nibbled_b4]
      cases k with
      | zero => (try simp (disch := omega) only [↓zk_lt, ↓zk_nl, ↓zk_eq, ↓zk_ne, ↓zk_ix, ↓zk_dv, ↓zk_bo, ↓zk_rg, ↓zk_get, ↓zk_set, Option.bind_some]); simp [pCt]
      | succ k =>
        (try simp (disch := omega) only [↓zk_lt, ↓zk_nl, ↓zk_eq, ↓zk_ne, ↓zk_ix, ↓zk_dv, ↓zk_bo, ↓zk_rg, ↓zk_get, ↓zk_set, Option.bind_some])
        rw [zk_bd (sm_isn I M (k := i) (by omega) (by omega))]
        simp only [pCt]
        by_cases e : 0 < nb i
        · rw [if_pos e, zk_bd sm_one1, ih k _ _ (by omega) (by omega) (by omega) (by omega) (by omega)]
          simp only [e, decide_true, if_true]
          congr 1
          omega
        · rw [if_neg e, zk_bd sm_one0, ih k _ _ (by omega) (by omega) (by omega) (by omega) (by omega)]
          simp [e]
  unfold fn_Md_nibbled
  rw [e2 jk_F sz.toNat 0 0 (by omega) (by omega) (by omega) (by omega) (by omega)]
  simp
theorem sp_nibAll (I : pI cl sz tn st dp tp va nb g) : fn_Cords_nibbledAmong nb 0 sz = some (pCt (fun j => decide (0 < nb j)) 0 sz.toNat) := by
  have hsz := I.1.2.1
  have := sp_nib (nb := nb) (a := 0) (b := sz) (by omega) (by omega) (by omega) (fun j h2 h3 => (I.2.2 j h2 h3).2.2.2.2.1)
  rw [Int.sub_zero] at this
  exact this
theorem q_nibbledCount (I : pI cl sz tn st dp tp va nb g) (M : pM cl sz dp tp va nb g w) {th : Int} : ∃ r, fn_KR_nibbledCount sz nb = some r ∧ fn_Md_nibbledCount w th = some (r, 0) ∧ jk_R r := by
  have hsz := I.1.2.1
  have hr := pCt_r (p := fun j => decide (0 < nb j)) sz.toNat 0
  unfold fn_KR_nibbledCount fn_Md_nibbledCount
  rw [zk_bd (sp_nibAll I), zk_bd (sm_nibbled I M)]
  exact ⟨_, rfl, rfl, by omega, by omega⟩
theorem q_matchingCount (I : pI cl sz tn st dp tp va nb g) (M : pM cl sz dp tp va nb g w) {th : Int} : ∃ r, fn_KR_matchingCount cl st dp va nb = some r ∧ fn_Md_matchingCount w th = some (r, 0) ∧ jk_R r := by
  have hF := jk_F_big
  have hcl := I.1.1
  have hw1 := M.1
  have e1 : ∀ (n k : Nat) (s i : Int), i + k = cl → 0 ≤ i → 0 ≤ s → s ≤ 1000 - (k : Int) → k < n → fn_KR_matchingCount_b4 n cl st dp va nb s i = some (s + pCt (fun j => decide (kst st dp va nb j = 2)) i k) := by
    intro n
    induction n with
    | zero => intro k s i _ _ _ _ h; omega
    | succ n ih =>
      intro k s i hi h2 hs hs2 hk
      rw [fn_KR_matchingCount_b4]
      cases k with
      | zero => (try simp (disch := omega) only [↓zk_lt, ↓zk_nl, ↓zk_eq, ↓zk_ne, ↓zk_ix, ↓zk_dv, ↓zk_bo, ↓zk_rg, ↓zk_get, ↓zk_set, Option.bind_some]); simp [pCt]
      | succ k =>
        have hr := kst_r (st := st) (dp := dp) (va := va) (nb := nb) (c := i)
        (try simp (disch := omega) only [↓zk_lt, ↓zk_nl, ↓zk_eq, ↓zk_ne, ↓zk_ix, ↓zk_dv, ↓zk_bo, ↓zk_rg, ↓zk_get, ↓zk_set, Option.bind_some])
        rw [zk_bd (sp_state I (c := i) (by omega) (by omega))]
        simp only [pCt]
        by_cases e : kst st dp va nb i = 2
        · (try simp (disch := omega) only [↓zk_lt, ↓zk_nl, ↓zk_eq, ↓zk_ne, ↓zk_ix, ↓zk_dv, ↓zk_bo, ↓zk_rg, ↓zk_get, ↓zk_set, Option.bind_some])
          rw [ih k _ _ (by omega) (by omega) (by omega) (by omega) (by omega)]
          simp only [e, decide_true, if_true]
          congr 1
          omega
        · (try simp (disch := omega) only [↓zk_lt, ↓zk_nl, ↓zk_eq, ↓zk_ne, ↓zk_ix, ↓zk_dv, ↓zk_bo, ↓zk_rg, ↓zk_get, ↓zk_set, Option.bind_some])
          rw [ih k _ _ (by omega) (by omega) (by omega) (by omega) (by omega)]
          simp [e]
  have e2 : ∀ (n k : Nat) (s i : Int), i + k = cl → 0 ≤ i → 0 ≤ s → s ≤ 1000 - (k : Int) → k < n → fn_Md_matchingCount_b9 n w 0 s i = some (s + pCt (fun j => decide (kst st dp va nb j = 2)) i k, 0) := by
    intro n
    induction n with
    | zero => intro k s i _ _ _ _ h; omega
    | succ n ih =>
      intro k s i hi h2 hs hs2 hk
      rw [fn_Md_matchingCount_b9]
      cases k with
      | zero => (try simp (disch := omega) only [↓zk_lt, ↓zk_nl, ↓zk_eq, ↓zk_ne, ↓zk_ix, ↓zk_dv, ↓zk_bo, ↓zk_rg, ↓zk_get, ↓zk_set, Option.bind_some]); simp [pCt]
      | succ k =>
        have hr := kst_r (st := st) (dp := dp) (va := va) (nb := nb) (c := i)
        (try simp (disch := omega) only [↓zk_lt, ↓zk_nl, ↓zk_eq, ↓zk_ne, ↓zk_ix, ↓zk_dv, ↓zk_bo, ↓zk_rg, ↓zk_get, ↓zk_set, Option.bind_some])
        rw [zk_bd (sm_state I M (c := i) (by omega) (by omega))]
        simp only [pCt]
        by_cases e : kst st dp va nb i = 2
        · (try simp (disch := omega) only [↓zk_lt, ↓zk_nl, ↓zk_eq, ↓zk_ne, ↓zk_ix, ↓zk_dv, ↓zk_bo, ↓zk_rg, ↓zk_get, ↓zk_set, Option.bind_some])
          rw [zk_bd sm_one1, ih k _ _ (by omega) (by omega) (by omega) (by omega) (by omega)]
          simp only [e, decide_true, if_true]
          congr 2
          omega
        · (try simp (disch := omega) only [↓zk_lt, ↓zk_nl, ↓zk_eq, ↓zk_ne, ↓zk_ix, ↓zk_dv, ↓zk_bo, ↓zk_rg, ↓zk_get, ↓zk_set, Option.bind_some])
          rw [zk_bd sm_one0, ih k _ _ (by omega) (by omega) (by omega) (by omega) (by omega)]
          simp [e]
  have hr := pCt_r (p := fun j => decide (kst st dp va nb j = 2)) cl.toNat 0
  exact ⟨_, e1 jk_F cl.toNat 0 0 (by omega) (by omega) (by omega) (by omega) (by omega), e2 jk_F cl.toNat 0 0 (by omega) (by omega) (by omega) (by omega) (by omega), by omega, by omega⟩
theorem q_mostUsedTopic (I : pI cl sz tn st dp tp va nb g) (M : pM cl sz dp tp va nb g w) (hw0 : w 0 = tn) {th : Int} : ∃ r, fn_KR_mostUsedTopic tn sz tp = some r ∧ fn_Md_mostUsedTopic w th = some (r, 0) ∧ jk_R r := by
  have hF := jk_F_big
  have hsz := I.1.2.1
  have htn := I.1.2.2
  have hcot : ∀ d, jk_R d → fn_Cords_countOfTopic sz tp d = some (pCt (fun j => decide (tp j = d)) 0 sz.toNat) := fun d hd =>
    sp_cot (by omega) (by omega) hd (fun j h2 h3 => ⟨(I.2.2 j h2 h3).2.2.1.1, by have := (I.2.2 j h2 h3).2.2.1.2; omega⟩)
  have hc : ∀ d, 0 ≤ pCt (fun j => decide (tp j = d)) 0 sz.toNat ∧ pCt (fun j => decide (tp j = d)) 0 sz.toNat ≤ 40 := fun d => by
    have := pCt_r (p := fun j => decide (tp j = d)) sz.toNat 0
    omega
  have e1 : ∀ (n k : Nat) (v i : Int), i + k = tn ∨ (k = 0 ∧ tn ≤ i) → 0 ≤ i → i ≤ 10 → 0 ≤ v → v ≤ 10 → k < n → ∃ r, fn_KR_mostUsedTopic_b4 n tn sz tp v i = some r ∧ fn_Md_mostUsedTopic_b9 n w 0 v i = some (r, 0) ∧ jk_R r := by
    intro n
    induction n with
    | zero => intro k v i _ _ _ _ _ h; omega
    | succ n ih =>
      intro k v i hi h2 h3 hv hv2 hk
      rw [fn_KR_mostUsedTopic_b4, fn_Md_mostUsedTopic_b9]
      cases k with
      | zero =>
        refine ⟨v, ?_, ?_, by omega, by omega⟩
        · (try simp (disch := omega) only [↓zk_lt, ↓zk_nl, ↓zk_eq, ↓zk_ne, ↓zk_ix, ↓zk_dv, ↓zk_bo, ↓zk_rg, ↓zk_get, ↓zk_set, Option.bind_some])
        · (try simp (disch := omega) only [↓zk_lt, ↓zk_nl, ↓zk_eq, ↓zk_ne, ↓zk_ix, ↓zk_dv, ↓zk_bo, ↓zk_rg, ↓zk_get, ↓zk_set, Option.bind_some])
      | succ k =>
        have c1 := hc i
        have c2 := hc v
        (try simp (disch := omega) only [↓zk_lt, ↓zk_nl, ↓zk_eq, ↓zk_ne, ↓zk_ix, ↓zk_dv, ↓zk_bo, ↓zk_rg, ↓zk_get, ↓zk_set, Option.bind_some])
        rw [zk_bd (hcot i ⟨by omega, by omega⟩), zk_bd (hcot v ⟨by omega, by omega⟩), zk_bd (sm_cw I M (d := i) ⟨by omega, by omega⟩), zk_bd (sm_cw I M (d := v) ⟨by omega, by omega⟩)]
        by_cases e : pCt (fun j => decide (tp j = v)) 0 sz.toNat < pCt (fun j => decide (tp j = i)) 0 sz.toNat
        · (try simp (disch := omega) only [↓zk_lt, ↓zk_nl, ↓zk_eq, ↓zk_ne, ↓zk_ix, ↓zk_dv, ↓zk_bo, ↓zk_rg, ↓zk_get, ↓zk_set, Option.bind_some])
          exact ih k _ _ (by omega) (by omega) (by omega) (by omega) (by omega) (by omega)
        · (try simp (disch := omega) only [↓zk_lt, ↓zk_nl, ↓zk_eq, ↓zk_ne, ↓zk_ix, ↓zk_dv, ↓zk_bo, ↓zk_rg, ↓zk_get, ↓zk_set, Option.bind_some])
          exact ih k _ _ (by omega) (by omega) (by omega) (by omega) (by omega) (by omega)
  unfold fn_KR_mostUsedTopic fn_Md_mostUsedTopic
  exact e1 jk_F (tn - 1).toNat 0 1 (by omega) (by omega) (by omega) (by omega) (by omega) (by omega)
theorem q_greatestCord (I : pI cl sz tn st dp tp va nb g) (M : pM cl sz dp tp va nb g w) {th : Int} : ∃ r, fn_KR_greatestCord sz va = some r ∧ fn_Md_greatestCord w th = some (r, 0) ∧ jk_R r := by
  have hF := jk_F_big
  have hsz := I.1.2.1
  have hw2 := M.2.1
  have e1 : ∀ (n k : Nat) (v i : Int), i + k = sz → 0 ≤ v → v < i → k < n → ∃ r, fn_KR_greatestCord_b18 n sz va v i = some r ∧ (∀ n2 : Nat, n ≤ n2 → fn_Md_greatestCord_b9 n2 w 0 v i = some (r, 0)) ∧ jk_R r := by
    intro n
    induction n with
    | zero => intro k v i _ _ _ h; omega
    | succ n ih =>
      intro k v i hi h2 h3 hk
      rw [fn_KR_greatestCord_b18]
      cases k with
      | zero =>
        refine ⟨v, ?_, fun n2 hn2 => ?_, by omega, by omega⟩
        · (try simp (disch := omega) only [↓zk_lt, ↓zk_nl, ↓zk_eq, ↓zk_ne, ↓zk_ix, ↓zk_dv, ↓zk_bo, ↓zk_rg, ↓zk_get, ↓zk_set, Option.bind_some])
        · obtain ⟨n3, rfl⟩ : ∃ n3, n2 = n3 + 1 := ⟨n2 - 1, by omega⟩
          rw [fn_Md_greatestCord_b9]
          (try simp (disch := omega) only [↓zk_lt, ↓zk_nl, ↓zk_eq, ↓zk_ne, ↓zk_ix, ↓zk_dv, ↓zk_bo, ↓zk_rg, ↓zk_get, ↓zk_set, Option.bind_some])
      | succ k =>
        have v1 := (I.2.2 i (by omega) (by omega)).2.2.2.1
        have v2 := (I.2.2 v (by omega) (by omega)).2.2.2.1
        by_cases e : va v < va i
        · obtain ⟨r, h4, h5, h6⟩ := ih k i (i + 1) (by omega) (by omega) (by omega) (by omega)
          refine ⟨r, ?_, fun n2 hn2 => ?_, h6⟩
          · (try simp (disch := omega) only [↓zk_lt, ↓zk_nl, ↓zk_eq, ↓zk_ne, ↓zk_ix, ↓zk_dv, ↓zk_bo, ↓zk_rg, ↓zk_get, ↓zk_set, Option.bind_some])
            exact h4
          · obtain ⟨n3, rfl⟩ : ∃ n3, n2 = n3 + 1 := ⟨n2 - 1, by omega⟩
            rw [fn_Md_greatestCord_b9]
            (try simp (disch := omega) only [↓zk_lt, ↓zk_nl, ↓zk_eq, ↓zk_ne, ↓zk_ix, ↓zk_dv, ↓zk_bo, ↓zk_rg, ↓zk_get, ↓zk_set, Option.bind_some])
            rw [zk_bd (M3 I M (k := i) (by omega) (by omega)), zk_bd (M3 I M (k := v) (by omega) (by omega))]
            (try simp (disch := omega) only [↓zk_lt, ↓zk_nl, ↓zk_eq, ↓zk_ne, ↓zk_ix, ↓zk_dv, ↓zk_bo, ↓zk_rg, ↓zk_get, ↓zk_set, Option.bind_some])
            exact h5 n3 (by omega)
        · obtain ⟨r, h4, h5, h6⟩ := ih k v (i + 1) (by omega) (by omega) (by omega) (by omega)
          refine ⟨r, ?_, fun n2 hn2 => ?_, h6⟩
          · (try simp (disch := omega) only [↓zk_lt, ↓zk_nl, ↓zk_eq, ↓zk_ne, ↓zk_ix, ↓zk_dv, ↓zk_bo, ↓zk_rg, ↓zk_get, ↓zk_set, Option.bind_some])
            exact h4
          · obtain ⟨n3, rfl⟩ : ∃ n3, n2 = n3 + 1 := ⟨n2 - 1, by omega⟩
            rw [fn_Md_greatestCord_b9]
            (try simp (disch := omega) only [↓zk_lt, ↓zk_nl, ↓zk_eq, ↓zk_ne, ↓zk_ix, ↓zk_dv, ↓zk_bo, ↓zk_rg, ↓zk_get, ↓zk_set, Option.bind_some])
            rw [zk_bd (M3 I M (k := i) (by omega) (by omega)), zk_bd (M3 I M (k := v) (by omega) (by omega))]
            (try simp (disch := omega) only [↓zk_lt, ↓zk_nl, ↓zk_eq, ↓zk_ne, ↓zk_ix, ↓zk_dv, ↓zk_bo, ↓zk_rg, ↓zk_get, ↓zk_set, Option.bind_some])
            exact h5 n3 (by omega)
  unfold fn_KR_greatestCord fn_Md_greatestCord
  by_cases z : 0 < sz
  · obtain ⟨r, h4, h5, h6⟩ := e1 99999 (sz - 1).toNat 0 1 (by omega) (by omega) (by omega) (by omega)
    obtain ⟨r', h4', h5', h6'⟩ := e1 jk_F (sz - 1).toNat 0 1 (by omega) (by omega) (by omega) (by omega)
    have hrr : r = r' := by
      have a1 := h5 100000 (by omega)
      have a2 := h5' 100000 (Nat.le_refl _)
      rw [a1] at a2
      exact congrArg Prod.fst (Option.some.inj a2)
    refine ⟨r', ?_, ?_, h6'⟩
    · (try simp (disch := omega) only [↓zk_lt, ↓zk_nl, ↓zk_eq, ↓zk_ne, ↓zk_ix, ↓zk_dv, ↓zk_bo, ↓zk_rg, ↓zk_get, ↓zk_set, Option.bind_some])
      exact h4'
    · rw [show jk_F = 99999 + 1 from rfl, fn_Md_greatestCord_b9]
      (try simp (disch := omega) only [↓zk_lt, ↓zk_nl, ↓zk_eq, ↓zk_ne, ↓zk_ix, ↓zk_dv, ↓zk_bo, ↓zk_rg, ↓zk_get, ↓zk_set, Option.bind_some])
      rw [← hrr]
      exact h5 99999 (Nat.le_refl _)
  · refine ⟨-1, ?_, ?_, by omega, by omega⟩
    · (try simp (disch := omega) only [↓zk_lt, ↓zk_nl, ↓zk_eq, ↓zk_ne, ↓zk_ix, ↓zk_dv, ↓zk_bo, ↓zk_rg, ↓zk_get, ↓zk_set, Option.bind_some])
      rw [show jk_F = 99999 + 1 from rfl, fn_KR_greatestCord_b18]
      (try simp (disch := omega) only [↓zk_lt, ↓zk_nl, ↓zk_eq, ↓zk_ne, ↓zk_ix, ↓zk_dv, ↓zk_bo, ↓zk_rg, ↓zk_get, ↓zk_set, Option.bind_some])
    · rw [show jk_F = 99999 + 1 from rfl, fn_Md_greatestCord_b9]
      (try simp (disch := omega) only [↓zk_lt, ↓zk_nl, ↓zk_eq, ↓zk_ne, ↓zk_ix, ↓zk_dv, ↓zk_bo, ↓zk_rg, ↓zk_get, ↓zk_set, Option.bind_some])
end P7
