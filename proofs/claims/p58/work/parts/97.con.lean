/-! isConsistent's answer -/
section CN
variable {cl sz tn : Int} {st dp tp va nb g w : Int → Int}
theorem kob_c (I : pI cl sz tn st dp tp va nb g) {st' dp' va' nb' : Int → Int} (e1 : ∀ c, 0 ≤ c → c ≤ cl → st' c = st c) (e2 : ∀ k, 0 ≤ k → k < sz → dp' k = dp k ∧ va' k = va k ∧ nb' k = nb k) {i : Int} (h0 : 0 ≤ i) (h1 : i < cl) : kob st' dp' va' nb' i = kob st dp va nb i := by
  have s1 := pI_st I (c := i) h0 (by omega)
  have s2 := pI_st I (c := i + 1) (by omega) (by omega)
  have hm := I.2.1.2.2 i h0 h1
  have hht : ht st' dp' i = ht st dp i := by
    unfold ht
    rw [e1 i h0 (by omega), e1 (i + 1) (by omega) (by omega)]
    by_cases x : st i < st (i + 1)
    · rw [(e2 (st i) (by omega) (by omega)).1]
    · rw [if_neg (fun z => x z.1), if_neg (fun z => x z.1)]
  have hnn : ∀ j, st i ≤ j → j < st i + (st (i + 1) - st i).toNat → decide (0 < nb' j) = decide (0 < nb j) := fun j h2 h3 => by rw [(e2 j (by omega) (by omega)).2.2]
  have hkn : kn st' nb' i = kn st nb i := by
    unfold kn
    rw [e1 i h0 (by omega), e1 (i + 1) (by omega) (by omega)]
    exact pCt_c _ _ hnn
  have hko : ko st' nb' i = ko st nb i := by
    unfold ko pOn
    rw [e1 i h0 (by omega), e1 (i + 1) (by omega) (by omega), pCt_c _ _ hnn, pFi_c _ _ hnn]
  have hr := ht_r (st := st) (dp := dp) i
  have hks : ks st' dp' va' i = ks st dp va i := by
    unfold ks
    rw [e1 i h0 (by omega), e1 (i + 1) (by omega) (by omega), hht]
    exact pSm_c _ _ (fun j h2 h3 => (e2 j (by omega) (by omega)).2.1)
  have hkr := kn_r I h0 h1
  unfold kob
  rw [hht, hkn]
  by_cases x0 : ht st dp i = 0
  · rw [if_pos x0, if_pos x0]
  rw [if_neg x0, if_neg x0]
  by_cases x1 : kn st nb i = 0
  · rw [if_pos x1, if_pos x1]
  rw [if_neg x1, if_neg x1]
  by_cases x2 : 1 < kn st nb i
  · rw [if_pos x2, if_pos x2]
  rw [if_neg x2, if_neg x2]
  obtain ⟨-, -, -, m5, m6⟩ := ko_r I h0 h1 (by omega)
  have hkg : kg st' dp' va' nb' i = kg st dp va nb i := by
    have hlt := ht_1 (st := st) (dp := dp) (c := i) (by omega)
    unfold kg
    rw [hko, hks, e1 i h0 (by omega), (e2 (ko st nb i) m5 m6).2.1, (e2 (st i) (by omega) (by omega)).2.1]
  rw [hkg, hko, (e2 (ko st nb i) m5 m6).2.1, (e2 (ko st nb i) m5 m6).2.2]
theorem sp_gue (H : pC tn cl sz st dp tp va nb w) {c1 z1 : Int} {b1 b2 b3 b4 b5 : Int → Int} : ∃ c2 z2 d1 d2 d3 d4 d5, fn_Check_guesses cl sz st dp tp va nb c1 z1 b1 b2 b3 b4 b5 = some (1, c2, z2, d1, d2, d3, d4, d5) := by
  have hF := jk_F_big
  have HH := H
  obtain ⟨⟨g, I, M⟩, G⟩ := HH
  have hcl := I.1.1
  have hsz := I.1.2.1
  have e1 : ∀ (n k : Nat) (i c1 z1 : Int) (b1 b2 b3 b4 b5 : Int → Int), i + k = cl → 0 ≤ i → k < n → ∃ c2 z2 d1 d2 d3 d4 d5, fn_Check_guesses_b2 n cl sz st dp tp va nb c1 z1 b1 b2 b3 b4 b5 i = some (1, c2, z2, d1, d2, d3, d4, d5) := by
    intro n
    induction n with
    | zero => intro k i _ _ _ _ _ _ _ _ _ h; omega
    | succ n ih =>
      intro k i c1 z1 b1 b2 b3 b4 b5 hi h0 hk
      rw [fn_Check_guesses_b2]
      cases k with
      | zero => exact ⟨c1, z1, b1, b2, b3, b4, b5, by (try simp (disch := omega) only [↓zk_lt, ↓zk_nl, ↓zk_eq, ↓zk_ne, ↓zk_ix, ↓zk_dv, ↓zk_bo, ↓zk_rg, ↓zk_get, ↓zk_set, Option.bind_some])⟩
      | succ k =>
        have h1 : i < cl := by omega
        have hr := kob_r (st := st) (dp := dp) (va := va) (nb := nb) (c := i)
        (try simp (disch := omega) only [↓zk_lt, ↓zk_nl, ↓zk_eq, ↓zk_ne, ↓zk_ix, ↓zk_dv, ↓zk_bo, ↓zk_rg, ↓zk_get, ↓zk_set, Option.bind_some])
        rw [zk_bd (sp_ob I h0 h1)]
        by_cases x : kob st dp va nb i = 0
        · have HC := pC_cpy (a1 := b1) (a2 := b2) (a3 := b3) (a4 := b4) (a5 := b5) H
          obtain ⟨⟨g', I', M'⟩, G'⟩ := HC
          have x' : kob (cpy 7 b1 st) (cpy 40 b2 dp) (cpy 40 b4 va) (cpy 40 b5 nb) i = 0 := by
            rw [← x]
            exact kob_c I (fun c h2 h3 => cpy_in (by omega) (by omega)) (fun k h2 h3 => ⟨cpy_in (by omega) (by omega), cpy_in (by omega) (by omega), cpy_in (by omega) (by omega)⟩) h0 h1
          obtain ⟨m1, m2, m3⟩ := kob_0 I' h0 h1 x'
          obtain ⟨-, -, m4, m5, m6⟩ := ko_r I' h0 h1 m2
          have hon : fn_Cords_onlyNibbled (cpy 7 b1 st) (cpy 40 b5 nb) i = some (ko (cpy 7 b1 st) (cpy 40 b5 nb) i) := sp_on I' h0 h1
          have I2 := pI_vn I' (k := ko (cpy 7 b1 st) (cpy 40 b5 nb) i) (v := kg (cpy 7 b1 st) (cpy 40 b2 dp) (cpy 40 b4 va) (cpy 40 b5 nb) i) (b := 0) m3 (by omega) (by simp [pw])
          have hst := sp_state I2 h0 h1
          rw [mend_match I' h0 h1 x'] at hst
          (try simp (disch := omega) only [↓zk_lt, ↓zk_nl, ↓zk_eq, ↓zk_ne, ↓zk_ix, ↓zk_dv, ↓zk_bo, ↓zk_rg, ↓zk_get, ↓zk_set, Option.bind_some])
          rw [zk_bd sp_ccpy]
          unfold fn_Cords_mend
          rw [zk_bd (sp_kg I' h0 h1 m1 m2), zk_bd hon]
          (try simp (disch := omega) only [↓zk_lt, ↓zk_nl, ↓zk_eq, ↓zk_ne, ↓zk_ix, ↓zk_dv, ↓zk_bo, ↓zk_rg, ↓zk_get, ↓zk_set, Option.bind_some])
          rw [zk_bd hst]
          (try simp (disch := omega) only [↓zk_lt, ↓zk_nl, ↓zk_eq, ↓zk_ne, ↓zk_ix, ↓zk_dv, ↓zk_bo, ↓zk_rg, ↓zk_get, ↓zk_set, Option.bind_some])
          exact ih k _ _ _ _ _ _ _ _ (by omega) (by omega) (by omega)
        · (try simp (disch := omega) only [↓zk_lt, ↓zk_nl, ↓zk_eq, ↓zk_ne, ↓zk_ix, ↓zk_dv, ↓zk_bo, ↓zk_rg, ↓zk_get, ↓zk_set, Option.bind_some])
          exact ih k _ _ _ _ _ _ _ _ (by omega) (by omega) (by omega)
  unfold fn_Check_guesses
  exact e1 jk_F cl.toNat 0 c1 z1 b1 b2 b3 b4 b5 (by omega) (by omega) (by omega)
end CN
theorem jO_cons_N : jO_cons jN := by
  intro σ S K P cs h
  obtain ⟨⟨g, hC⟩, -, hG, -, -⟩ := h
  obtain ⟨w, H⟩ := pC_of hC.1 hG
  obtain ⟨c2, z2, d1, d2, d3, d4, d5, h1⟩ := sp_gue H (c1 := σ.S 14) (z1 := σ.S 15) (b1 := σ.T 9) (b2 := σ.T 10) (b3 := σ.T 11) (b4 := σ.T 12) (b5 := σ.T 13)
  refine ⟨(1, c2, z2, d1, d2, d3, d4, d5), ?_, rfl⟩
  unfold fn_KR_isConsistent
  rw [zk_bd (sp_order hC.1), zk_bd (sp_branches hC.1), zk_bd (sp_sums H), zk_bd h1]
  (try simp (disch := omega) only [↓zk_lt, ↓zk_nl, ↓zk_eq, ↓zk_ne, ↓zk_ix, ↓zk_dv, ↓zk_bo, ↓zk_rg, ↓zk_get, ↓zk_set, Option.bind_some])
