section PF
variable {cl sz tn : Int} {st dp tp va nb g w : Int → Int}
theorem sp_sw (I : pI cl sz tn st dp tp va nb g) {k : Int} (h0 : 0 ≤ k) (h1 : k < sz) : fn_Check_standsWell cl st dp k = some 1 := by
  have hcl := I.1.1
  have hsz := I.1.2.1
  obtain ⟨⟨a1, a2, a3, a4⟩, hd, -, -, -, -, c1, c2⟩ := I.2.2 k h0 h1
  have s1 := pI_st I (c := g k) a1 (by omega)
  have s2 := pI_st I (c := g k + 1) (by omega) (by omega)
  unfold fn_Check_standsWell
  rw [zk_bd (sp_ca I h0 h1), zk_bd (sp_start I a1 (by omega)), zk_bd (sp_end I a1 a2)]
  (try simp (disch := omega) only [↓zk_lt, ↓zk_nl, ↓zk_eq, ↓zk_ne, ↓zk_ix, ↓zk_dv, ↓zk_bo, ↓zk_rg, ↓zk_get, ↓zk_set, Option.bind_some])
  rw [zk_bd (sp_start I a1 (by omega))]
  by_cases x : k = st (g k)
  · have := c1 x.symm
    by_cases y : dp k = 0
    · (try simp (disch := omega) only [↓zk_lt, ↓zk_nl, ↓zk_eq, ↓zk_ne, ↓zk_ix, ↓zk_dv, ↓zk_bo, ↓zk_rg, ↓zk_get, ↓zk_set, Option.bind_some])
    · (try simp (disch := omega) only [↓zk_lt, ↓zk_nl, ↓zk_eq, ↓zk_ne, ↓zk_ix, ↓zk_dv, ↓zk_bo, ↓zk_rg, ↓zk_get, ↓zk_set, Option.bind_some])
  · have hlt := c2 (by omega)
    have hp := (I.2.2 (k - 1) (by omega) (by omega)).2.1
    (try simp (disch := omega) only [↓zk_lt, ↓zk_nl, ↓zk_eq, ↓zk_ne, ↓zk_ix, ↓zk_dv, ↓zk_bo, ↓zk_rg, ↓zk_get, ↓zk_set, Option.bind_some])
theorem sp_order (I : pI cl sz tn st dp tp va nb g) : fn_Check_order cl sz st dp = some 1 := by
  have hF := jk_F_big
  have hcl := I.1.1
  have hsz := I.1.2.1
  have e2 : ∀ (n k : Nat) (i : Int), i + k = sz → 0 ≤ i → k < n → fn_Check_order_b34 n cl sz st dp sz i = some 1 := by
    intro n
    induction n with
    | zero => intro k i _ _ h; omega
    | succ n ih =>
      intro k i hi h0 hk
      rw [fn_Check_order_b34]
      cases k with
      | zero => (try simp (disch := omega) only [↓zk_lt, ↓zk_nl, ↓zk_eq, ↓zk_ne, ↓zk_ix, ↓zk_dv, ↓zk_bo, ↓zk_rg, ↓zk_get, ↓zk_set, Option.bind_some])
      | succ k =>
        (try simp (disch := omega) only [↓zk_lt, ↓zk_nl, ↓zk_eq, ↓zk_ne, ↓zk_ix, ↓zk_dv, ↓zk_bo, ↓zk_rg, ↓zk_get, ↓zk_set, Option.bind_some])
        rw [zk_bd (sp_sw I (k := i) (by omega) (by omega))]
        (try simp (disch := omega) only [↓zk_lt, ↓zk_nl, ↓zk_eq, ↓zk_ne, ↓zk_ix, ↓zk_dv, ↓zk_bo, ↓zk_rg, ↓zk_get, ↓zk_set, Option.bind_some])
        exact ih k _ (by omega) (by omega) (by omega)
  have e1 : ∀ (n k : Nat) (i : Int), i + k = cl → 0 ≤ i → k < n → fn_Check_order_b4 n cl sz st dp (st i) i = some 1 := by
    intro n
    induction n with
    | zero => intro k i _ _ h; omega
    | succ n ih =>
      intro k i hi h0 hk
      rw [fn_Check_order_b4]
      cases k with
      | zero =>
        (try simp (disch := omega) only [↓zk_lt, ↓zk_nl, ↓zk_eq, ↓zk_ne, ↓zk_ix, ↓zk_dv, ↓zk_bo, ↓zk_rg, ↓zk_get, ↓zk_set, Option.bind_some])
        rw [show i = cl by omega, I.2.1.2.1]
        exact e2 jk_F sz.toNat 0 (by omega) (by omega) (by omega)
      | succ k =>
        (try simp (disch := omega) only [↓zk_lt, ↓zk_nl, ↓zk_eq, ↓zk_ne, ↓zk_ix, ↓zk_dv, ↓zk_bo, ↓zk_rg, ↓zk_get, ↓zk_set, Option.bind_some])
        rw [zk_bd (sp_end I (c := i) (by omega) (by omega)), zk_bd (sp_start I (c := i) (by omega) (by omega)), show st i + (st (i + 1) - st i) = st (i + 1) by omega]
        exact ih k _ (by omega) (by omega) (by omega)
  unfold fn_Check_order
  have := e1 jk_F cl.toNat 0 (by omega) (by omega) (by omega)
  rw [I.2.1.1] at this
  exact this
theorem sp_branches (I : pI cl sz tn st dp tp va nb g) : fn_Check_branches sz dp va nb = some 1 := by
  have hF := jk_F_big
  have hsz := I.1.2.1
  have e1 : ∀ (n k : Nat) (i : Int), i + k = sz → 0 ≤ i → k < n → fn_Check_branches_b2 n sz dp va nb i = some 1 := by
    intro n
    induction n with
    | zero => intro k i _ _ h; omega
    | succ n ih =>
      intro k i hi h0 hk
      rw [fn_Check_branches_b2]
      cases k with
      | zero => (try simp (disch := omega) only [↓zk_lt, ↓zk_nl, ↓zk_eq, ↓zk_ne, ↓zk_ix, ↓zk_dv, ↓zk_bo, ↓zk_rg, ↓zk_get, ↓zk_set, Option.bind_some])
      | succ k =>
        have h1 : i < sz := by omega
        have hd := (I.2.2 i h0 h1).2.1
        obtain ⟨⟨b1, b2⟩, -⟩ := be_r I h0 h1
        have hl := pSm_r (f := va) (B := 9999) (be sz dp i - i).toNat i (fun j h2 h3 => (I.2.2 j (by omega) (by omega)).2.2.2.1)
        have hh := pSm_r (f := fun j => va j + pw (nb j) - 1) (B := 20000) (be sz dp i - i).toNat i (fun j h2 h3 => by
          obtain ⟨-, -, -, c1, c2, -⟩ := I.2.2 j (by omega) (by omega)
          have := pw_pos c2.1 c2.2
          constructor <;> omega)
        have hn := pCt_r (p := fun j => decide (0 < nb j)) (be sz dp i - i).toNat i
        have hlh := lh (va := va) (nb := nb) (be sz dp i - i).toNat i (fun j h2 h3 => (I.2.2 j (by omega) (by omega)).2.2.2.2.1)
        have t := sp_tbr I 8 i h0 h1 (by omega)
        have et : pT sz dp va i = pSm va i (be sz dp i - i).toNat := rfl
        rw [et] at t
        (try simp (disch := omega) only [↓zk_lt, ↓zk_nl, ↓zk_eq, ↓zk_ne, ↓zk_ix, ↓zk_dv, ↓zk_bo, ↓zk_rg, ↓zk_get, ↓zk_set, Option.bind_some])
        rw [zk_bd (sp_be I h0 h1), zk_bd (sp_low (by omega) (by omega) (by omega) (fun j h2 h3 => (I.2.2 j (by omega) (by omega)).2.2.2.1)), zk_bd (sp_nib (by omega) (by omega) (by omega) (fun j h2 h3 => (I.2.2 j (by omega) (by omega)).2.2.2.2.1)), zk_bd (sp_high (by omega) (by omega) (by omega) (fun j h2 h3 => ⟨(I.2.2 j (by omega) (by omega)).2.2.2.1, (I.2.2 j (by omega) (by omega)).2.2.2.2.1⟩))]
        by_cases x : pCt (fun j => decide (0 < nb j)) i (be sz dp i - i).toNat = 0
        · have := hlh.1 x
          (try simp (disch := omega) only [↓zk_lt, ↓zk_nl, ↓zk_eq, ↓zk_ne, ↓zk_ix, ↓zk_dv, ↓zk_bo, ↓zk_rg, ↓zk_get, ↓zk_set, Option.bind_some])
          rw [zk_bd t]
          (try simp (disch := omega) only [↓zk_lt, ↓zk_nl, ↓zk_eq, ↓zk_ne, ↓zk_ix, ↓zk_dv, ↓zk_bo, ↓zk_rg, ↓zk_get, ↓zk_set, Option.bind_some])
          exact ih k _ (by omega) (by omega) (by omega)
        · have := hlh.2 x
          (try simp (disch := omega) only [↓zk_lt, ↓zk_nl, ↓zk_eq, ↓zk_ne, ↓zk_ix, ↓zk_dv, ↓zk_bo, ↓zk_rg, ↓zk_get, ↓zk_set, Option.bind_some])
          rw [zk_bd (sp_high (by omega) (by omega) (by omega) (fun j h2 h3 => ⟨(I.2.2 j (by omega) (by omega)).2.2.2.1, (I.2.2 j (by omega) (by omega)).2.2.2.2.1⟩))]
          (try simp (disch := omega) only [↓zk_lt, ↓zk_nl, ↓zk_eq, ↓zk_ne, ↓zk_ix, ↓zk_dv, ↓zk_bo, ↓zk_rg, ↓zk_get, ↓zk_set, Option.bind_some])
          rw [zk_bd t]
          (try simp (disch := omega) only [↓zk_lt, ↓zk_nl, ↓zk_eq, ↓zk_ne, ↓zk_ix, ↓zk_dv, ↓zk_bo, ↓zk_rg, ↓zk_get, ↓zk_set, Option.bind_some])
          exact ih k _ (by omega) (by omega) (by omega)
  unfold fn_Check_branches
  exact e1 jk_F sz.toNat 0 (by omega) (by omega) (by omega)
theorem sp_sums (H : pC tn cl sz st dp tp va nb w) : fn_Check_sums cl sz st dp va nb = some 1 := by
  have hF := jk_F_big
  have HH := H
  obtain ⟨⟨g, I, M⟩, G⟩ := HH
  have hcl := I.1.1
  have e1 : ∀ (n k : Nat) (i : Int), i + k = cl → 0 ≤ i → k < n → fn_Check_sums_b2 n cl sz st dp va nb i = some 1 := by
    intro n
    induction n with
    | zero => intro k i _ _ h; omega
    | succ n ih =>
      intro k i hi h0 hk
      rw [fn_Check_sums_b2]
      cases k with
      | zero => (try simp (disch := omega) only [↓zk_lt, ↓zk_nl, ↓zk_eq, ↓zk_ne, ↓zk_ix, ↓zk_dv, ↓zk_bo, ↓zk_rg, ↓zk_get, ↓zk_set, Option.bind_some])
      | succ k =>
        have h1 : i < cl := by omega
        have hkr := ks_r I h0 h1
        obtain ⟨a, ha, ha2⟩ := sp_hks H h0 h1
        have hsum : fn_Cords_sum st dp va i = some (ks st dp va i) := sp_sum I h0 h1
        (try simp (disch := omega) only [↓zk_lt, ↓zk_nl, ↓zk_eq, ↓zk_ne, ↓zk_ix, ↓zk_dv, ↓zk_bo, ↓zk_rg, ↓zk_get, ↓zk_set, Option.bind_some])
        rw [zk_bd ha]
        rcases ha2 with ⟨rfl, -⟩ | ⟨rfl, -⟩
        · (try simp (disch := omega) only [↓zk_lt, ↓zk_nl, ↓zk_eq, ↓zk_ne, ↓zk_ix, ↓zk_dv, ↓zk_bo, ↓zk_rg, ↓zk_get, ↓zk_set, Option.bind_some])
          rw [zk_bd hsum, zk_bd (sp_sbr I h0 h1)]
          (try simp (disch := omega) only [↓zk_lt, ↓zk_nl, ↓zk_eq, ↓zk_ne, ↓zk_ix, ↓zk_dv, ↓zk_bo, ↓zk_rg, ↓zk_get, ↓zk_set, Option.bind_some])
          exact ih k _ (by omega) (by omega) (by omega)
        · (try simp (disch := omega) only [↓zk_lt, ↓zk_nl, ↓zk_eq, ↓zk_ne, ↓zk_ix, ↓zk_dv, ↓zk_bo, ↓zk_rg, ↓zk_get, ↓zk_set, Option.bind_some])
          exact ih k _ (by omega) (by omega) (by omega)
  unfold fn_Check_sums
  exact e1 jk_F cl.toNat 0 (by omega) (by omega) (by omega)
/-- a cluster mended matches -/
theorem mend_match (I : pI cl sz tn st dp tp va nb g) {c : Int} (h0 : 0 ≤ c) (h1 : c < cl) (h : kob st dp va nb c = 0) : kst st dp (jk_up va (ko st nb c) (kg st dp va nb c)) (jk_up nb (ko st nb c) 0) c = 2 := by
  obtain ⟨h2, h3, h4⟩ := kob_0 I h0 h1 h
  obtain ⟨⟨a1, a2⟩, a3, a4, a5, a6⟩ := ko_r I h0 h1 h3
  have s1 := pI_st I (c := c) h0 (by omega)
  have s2 := pI_st I (c := c + 1) (by omega) (by omega)
  have hm := I.2.1.2.2 c h0 h1
  have e1 : kn st (jk_up nb (ko st nb c) 0) c = 0 := by
    unfold kn at h3 ⊢
    rw [pCt_up a3, if_pos (by omega), h3]
    rfl
  have e2 : ks st dp (jk_up va (ko st nb c) (kg st dp va nb c)) c = jk_up va (ko st nb c) (kg st dp va nb c) (st c) := by
    have e3 : ks st dp (jk_up va (ko st nb c) (kg st dp va nb c)) c = if st c + 1 ≤ ko st nb c then ks st dp va c - va (ko st nb c) + kg st dp va nb c else ks st dp va c := by
      unfold ks
      rw [pSm_up, h2]
      by_cases x : st c + 1 ≤ ko st nb c
      · rw [if_pos (by omega), if_pos x]
      · rw [if_neg (by omega), if_neg x]
    rw [e3]
    by_cases x : ko st nb c = st c
    · rw [up_eq x.symm, if_neg (by omega)]
      unfold kg
      rw [if_pos x]
    · rw [up_ne (fun z => x z.symm), if_pos (by omega)]
      unfold kg
      rw [if_neg x]
      omega
  unfold kst
  rw [if_neg (by omega), if_neg (by omega), if_pos e2.symm]
/-- what stays of cords that are only lent -/
def pDr (st dp : Int → Int) : Prop := st 0 = 0 ∧ ∀ j, 0 ≤ j → j < 40 → jk_R (dp j)
theorem sp_guesses (H : pC tn cl sz st dp tp va nb w) {c1 z1 : Int} {b1 b2 b3 b4 b5 : Int → Int} (Hd : pDr b1 b2) : ∃ c2 z2 d1 d2 d3 d4 d5, fn_Check_guesses cl sz st dp tp va nb c1 z1 b1 b2 b3 b4 b5 = some (1, c2, z2, d1, d2, d3, d4, d5) ∧ pDr d1 d2 := by
  have hF := jk_F_big
  have HH := H
  obtain ⟨⟨g, I, M⟩, G⟩ := HH
  have hcl := I.1.1
  have e1 : ∀ (n k : Nat) (i c1 z1 : Int) (b1 b2 b3 b4 b5 : Int → Int), pDr b1 b2 → i + k = cl → 0 ≤ i → k < n → ∃ c2 z2 d1 d2 d3 d4 d5, fn_Check_guesses_b2 n cl sz st dp tp va nb c1 z1 b1 b2 b3 b4 b5 i = some (1, c2, z2, d1, d2, d3, d4, d5) ∧ pDr d1 d2 := by
    intro n
    induction n with
    | zero => intro k i _ _ _ _ _ _ _ _ _ _ h; omega
    | succ n ih =>
      intro k i c1 z1 b1 b2 b3 b4 b5 Hd hi h0 hk
      rw [fn_Check_guesses_b2]
      cases k with
      | zero => exact ⟨c1, z1, b1, b2, b3, b4, b5, by (try simp (disch := omega) only [↓zk_lt, ↓zk_nl, ↓zk_eq, ↓zk_ne, ↓zk_ix, ↓zk_dv, ↓zk_bo, ↓zk_rg, ↓zk_get, ↓zk_set, Option.bind_some]), Hd⟩
      | succ k =>
        have h1 : i < cl := by omega
        have hr := kob_r (st := st) (dp := dp) (va := va) (nb := nb) (c := i)
        (try simp (disch := omega) only [↓zk_lt, ↓zk_nl, ↓zk_eq, ↓zk_ne, ↓zk_ix, ↓zk_dv, ↓zk_bo, ↓zk_rg, ↓zk_get, ↓zk_set, Option.bind_some])
        rw [zk_bd (sp_ob I h0 h1)]
        by_cases x : kob st dp va nb i = 0
        · have HC := pC_cpy (a1 := b1) (a2 := b2) (a3 := b3) (a4 := b4) (a5 := b5) H
          have HC2 := HC
          obtain ⟨⟨g', I', M'⟩, G'⟩ := HC
          have x' : kob (cpy 7 b1 st) (cpy 40 b2 dp) (cpy 40 b4 va) (cpy 40 b5 nb) i = 0 := by
            have q1 := sm_ob I' M' h0 h1
            rw [sm_ob I M h0 h1] at q1
            rw [← Option.some.inj q1, x]
          obtain ⟨m1, m2, m3⟩ := kob_0 I' h0 h1 x'
          obtain ⟨-, -, m4, m5, m6⟩ := ko_r I' h0 h1 m2
          have hsz := I.1.2.1
          have hon : fn_Cords_onlyNibbled (cpy 7 b1 st) (cpy 40 b5 nb) i = some (ko (cpy 7 b1 st) (cpy 40 b5 nb) i) := sp_on I' h0 h1
          have I2 := pI_vn I' (k := ko (cpy 7 b1 st) (cpy 40 b5 nb) i) (v := kg (cpy 7 b1 st) (cpy 40 b2 dp) (cpy 40 b4 va) (cpy 40 b5 nb) i) (b := 0) m3 (by omega) (by simp [pw])
          have hst := sp_state I2 h0 h1
          rw [mend_match I' h0 h1 x'] at hst
          (try simp (disch := omega) only [↓zk_lt, ↓zk_nl, ↓zk_eq, ↓zk_ne, ↓zk_ix, ↓zk_dv, ↓zk_bo, ↓zk_rg, ↓zk_get, ↓zk_set, Option.bind_some])
          rw [zk_bd sp_ccpy]
          unfold fn_Cords_mend
          rw [zk_bd (sp_kg I' h0 h1 m1 m2), zk_bd hon]
          (try simp (disch := omega) only [↓zk_lt, ↓zk_nl, ↓zk_eq, ↓zk_ne, ↓zk_ix, ↓zk_dv, ↓zk_bo, ↓zk_rg, ↓zk_get, ↓zk_set, Option.bind_some])
          rw [zk_bd hst]
          (try simp (disch := omega) only [↓zk_lt, ↓zk_nl, ↓zk_eq, ↓zk_ne, ↓zk_ix, ↓zk_dv, ↓zk_bo, ↓zk_rg, ↓zk_get, ↓zk_set, Option.bind_some])
          refine ih k _ _ _ _ _ _ _ _ ⟨?_, G'⟩ (by omega) (by omega) (by omega)
          rw [cpy_in (by omega) (by omega)]
          exact I.2.1.1
        · (try simp (disch := omega) only [↓zk_lt, ↓zk_nl, ↓zk_eq, ↓zk_ne, ↓zk_ix, ↓zk_dv, ↓zk_bo, ↓zk_rg, ↓zk_get, ↓zk_set, Option.bind_some])
          exact ih k _ _ _ _ _ _ _ _ Hd (by omega) (by omega) (by omega)
  unfold fn_Check_guesses
  exact e1 jk_F cl.toNat 0 c1 z1 b1 b2 b3 b4 b5 Hd (by omega) (by omega) (by omega)
/-! the reference's checks -/
theorem sm_cr (I : pI cl sz tn st dp tp va nb g) (M : pM cl sz dp tp va nb g w) {k : Int} (h0 : 0 ≤ k) (h1 : k < sz) : fn_Md_isCordRight w k = some 1 := by
  have hcl := I.1.1
  have hsz := I.1.2.1
  obtain ⟨⟨a1, a2, a3, a4⟩, hd, -⟩ := I.2.2 k h0 h1
  obtain ⟨⟨b1, b2⟩, -⟩ := be_r I h0 h1
  have hl := pSm_r (f := va) (B := 9999) (be sz dp k - k).toNat k (fun j h2 h3 => (I.2.2 j (by omega) (by omega)).2.2.2.1)
  have hh := pSm_r (f := fun j => va j + pw (nb j) - 1) (B := 20000) (be sz dp k - k).toNat k (fun j h2 h3 => by
    obtain ⟨-, -, -, c1, c2, -⟩ := I.2.2 j (by omega) (by omega)
    have := pw_pos c2.1 c2.2
    constructor <;> omega)
  have hlh := lh (va := va) (nb := nb) (be sz dp k - k).toNat k (fun j h2 h3 => (I.2.2 j (by omega) (by omega)).2.2.2.2.1)
  have t := sm_tb I M 8 k h0 h1 (by omega)
  have et : pT sz dp va k = pSm va k (be sz dp k - k).toNat := rfl
  rw [et] at t
  have b50 : fn_Md_isCordRight_b50 w k = some 1 := by
    unfold fn_Md_isCordRight_b50 fn_Md_isCordRight_b68
    rw [zk_bd (sm_low I M h0 h1), zk_bd (sm_high I M h0 h1), zk_bd (sm_whole I M h0 h1), zk_bd t, zk_bd (sm_low I M h0 h1)]
    by_cases x : pCt (fun j => decide (0 < nb j)) k (be sz dp k - k).toNat = 0
    · have := hlh.1 x
      rw [if_pos x]
      (try simp (disch := omega) only [↓zk_lt, ↓zk_nl, ↓zk_eq, ↓zk_ne, ↓zk_ix, ↓zk_dv, ↓zk_bo, ↓zk_rg, ↓zk_get, ↓zk_set, Option.bind_some])
    · have := hlh.2 x
      (try simp (disch := omega) only [↓zk_lt, ↓zk_nl, ↓zk_eq, ↓zk_ne, ↓zk_ix, ↓zk_dv, ↓zk_bo, ↓zk_rg, ↓zk_get, ↓zk_set, Option.bind_some])
      rw [zk_bd (sm_whole I M h0 h1), if_neg x]
      (try simp (disch := omega) only [↓zk_lt, ↓zk_nl, ↓zk_eq, ↓zk_ne, ↓zk_ix, ↓zk_dv, ↓zk_bo, ↓zk_rg, ↓zk_get, ↓zk_set, Option.bind_some])
  unfold fn_Md_isCordRight
  rw [zk_bd (M1 I M h0 h1), zk_bd (sm_inR ⟨by omega, by omega⟩ ⟨by omega, by omega⟩ ⟨by omega, by omega⟩), if_pos (by omega)]
  (try simp (disch := omega) only [↓zk_lt, ↓zk_nl, ↓zk_eq, ↓zk_ne, ↓zk_ix, ↓zk_dv, ↓zk_bo, ↓zk_rg, ↓zk_get, ↓zk_set, Option.bind_some])
  rw [zk_bd (M0 I M h0 h1), zk_bd (sm_isCl I M ⟨by omega, by omega⟩), if_pos ⟨a1, a2⟩]
  (try simp (disch := omega) only [↓zk_lt, ↓zk_nl, ↓zk_eq, ↓zk_ne, ↓zk_ix, ↓zk_dv, ↓zk_bo, ↓zk_rg, ↓zk_get, ↓zk_set, Option.bind_some])
  by_cases x : 0 < k
  · obtain ⟨⟨c1, c2, c3, c4⟩, -⟩ := I.2.2 (k - 1) (by omega) (by omega)
    have hmono : g (k - 1) ≤ g k := by
      by_cases y : g (k - 1) ≤ g k
      · exact y
      · have := pI_le I (c := g k + 1) (d := g (k - 1)) (by omega) (by omega) (by omega); omega
    (try simp (disch := omega) only [↓zk_lt, ↓zk_nl, ↓zk_eq, ↓zk_ne, ↓zk_ix, ↓zk_dv, ↓zk_bo, ↓zk_rg, ↓zk_get, ↓zk_set, Option.bind_some])
    rw [zk_bd (M0 I M h0 h1), zk_bd (M0 I M (k := k - 1) (by omega) (by omega))]
    (try simp (disch := omega) only [↓zk_lt, ↓zk_nl, ↓zk_eq, ↓zk_ne, ↓zk_ix, ↓zk_dv, ↓zk_bo, ↓zk_rg, ↓zk_get, ↓zk_set, Option.bind_some])
    exact b50
  · (try simp (disch := omega) only [↓zk_lt, ↓zk_nl, ↓zk_eq, ↓zk_ne, ↓zk_ix, ↓zk_dv, ↓zk_bo, ↓zk_rg, ↓zk_get, ↓zk_set, Option.bind_some])
    exact b50
theorem sm_clr (I : pI cl sz tn st dp tp va nb g) (M : pM cl sz dp tp va nb g w) {c : Int} (h0 : 0 ≤ c) (h1 : c < cl) : fn_Md_isClusterRight w c = some 1 := by
  have hF := jk_F_big
  have hcl := I.1.1
  have hsz := I.1.2.1
  have s1 := pI_st I (c := c) h0 (by omega)
  have s2 := pI_st I (c := c + 1) (by omega) (by omega)
  have hm := I.2.1.2.2 c h0 h1
  have hl := ht_le I h0 h1
  have hh := ht_r (st := st) (dp := dp) c
  have R := row_pend I h0 h1
  have hkr := ks_r I h0 h1
  have hks : fn_Md_knownSum w c = some (ks st dp va c) := sm_ks I M h0 h1
  have hob := kob_r (st := st) (dp := dp) (va := va) (nb := nb) (c := c)
  have e1 : ∀ (n m : Nat) (s i : Int), st (c + 1) - i ≤ m → st c + ht st dp c ≤ i → i ≤ st (c + 1) → (i < st (c + 1) → dp i = 1) → s = 0 + pSm va (st c + ht st dp c) (i - (st c + ht st dp c)).toNat → m < n → fn_Md_isClusterRight_b8 n w c s i = some 1 := by
    intro n
    induction n with
    | zero => intro m s i _ _ _ _ _ h; omega
    | succ n ih =>
      intro m s i hm h2 h3 h4 hs hn
      rw [fn_Md_isClusterRight_b8, zk_bd (sm_end I M h0 h1)]
      by_cases x : i < st (c + 1)
      · have hD := h4 x
        obtain ⟨⟨c1, c2⟩, c3, -⟩ := R.2 i h2 x hD
        (try simp (disch := omega) only [↓zk_lt, ↓zk_nl, ↓zk_eq, ↓zk_ne, ↓zk_ix, ↓zk_dv, ↓zk_bo, ↓zk_rg, ↓zk_get, ↓zk_set, Option.bind_some])
        rw [zk_bd (sm_tb I M 8 i (by omega) (by omega) (by omega)), zk_bd (sm_be I M (k := i) (by omega) (by omega))]
        exact ih (m - 1) _ _ (by omega) (by omega) c2 c3 (by rw [hs]; exact row_add R h2 x hD) (by omega)
      · have hse : s = ks st dp va c := by
          rw [hs, show i = st (c + 1) by omega]
          unfold ks
          simp
        (try simp (disch := omega) only [↓zk_lt, ↓zk_nl, ↓zk_eq, ↓zk_ne, ↓zk_ix, ↓zk_dv, ↓zk_bo, ↓zk_rg, ↓zk_get, ↓zk_set, Option.bind_some])
        rw [zk_bd hks]
        (try simp (disch := omega) only [↓zk_lt, ↓zk_nl, ↓zk_eq, ↓zk_ne, ↓zk_ix, ↓zk_dv, ↓zk_bo, ↓zk_rg, ↓zk_get, ↓zk_set, Option.bind_some])
        rw [zk_bd (sm_ob I M h0 h1)]
        by_cases y : kob st dp va nb c = 0
        · obtain ⟨k1, k2, k3⟩ := kob_0 I h0 h1 y
          obtain ⟨⟨a1, a2⟩, -, a3, a4, a5⟩ := ko_r I h0 h1 k2
          have hdo := (I.2.2 _ a4 a5).2.1
          have hv := (I.2.2 _ a4 a5).2.2.2.1
          have hv2 := (I.2.2 (st c) (by omega) (by omega)).2.2.2.1
          have h00 := ko_0 I h0 h1 k1 k2
          have hon2 : fn_Md_onlyNibbled w c = some (ko st nb c) := sm_on I M h0 h1
          have hgr := kg_r I h0 h1 k1 k2
          have hkg : kg st dp va nb c = if ko st nb c = st c then ks st dp va c else va (st c) - (ks st dp va c - va (ko st nb c)) := rfl
          (try simp (disch := omega) only [↓zk_lt, ↓zk_nl, ↓zk_eq, ↓zk_ne, ↓zk_ix, ↓zk_dv, ↓zk_bo, ↓zk_rg, ↓zk_get, ↓zk_set, Option.bind_some])
          rw [zk_bd hon2, zk_bd hks, zk_bd (M1 I M a4 a5)]
          unfold fn_Md_isClusterRight_b91
          by_cases z : ko st nb c = st c
          · have := h00.mpr z
            rw [if_pos z] at hkg
            (try simp (disch := omega) only [↓zk_lt, ↓zk_nl, ↓zk_eq, ↓zk_ne, ↓zk_ix, ↓zk_dv, ↓zk_bo, ↓zk_rg, ↓zk_get, ↓zk_set, Option.bind_some])
            rw [zk_bd (M1 I M a4 a5)]
            (try simp (disch := omega) only [↓zk_lt, ↓zk_nl, ↓zk_eq, ↓zk_ne, ↓zk_ix, ↓zk_dv, ↓zk_bo, ↓zk_rg, ↓zk_get, ↓zk_set, Option.bind_some])
            rw [zk_bd (sm_kg I M h0 h1 k1 k2)]
            (try simp (disch := omega) only [↓zk_lt, ↓zk_nl, ↓zk_eq, ↓zk_ne, ↓zk_ix, ↓zk_dv, ↓zk_bo, ↓zk_rg, ↓zk_get, ↓zk_set, Option.bind_some])
          · have : ¬ dp (ko st nb c) = 0 := fun q => z (h00.mp q)
            rw [if_neg z] at hkg
            (try simp (disch := omega) only [↓zk_lt, ↓zk_nl, ↓zk_eq, ↓zk_ne, ↓zk_ix, ↓zk_dv, ↓zk_bo, ↓zk_rg, ↓zk_get, ↓zk_set, Option.bind_some])
            rw [zk_bd (sm_kg I M h0 h1 k1 k2), zk_bd (M3 I M a4 a5), zk_bd (M1 I M a4 a5)]
            (try simp (disch := omega) only [↓zk_lt, ↓zk_nl, ↓zk_eq, ↓zk_ne, ↓zk_ix, ↓zk_dv, ↓zk_bo, ↓zk_rg, ↓zk_get, ↓zk_set, Option.bind_some])
            rw [zk_bd (sm_first I M h0 (by omega)), zk_bd (M3 I M (k := st c) (by omega) (by omega))]
            (try simp (disch := omega) only [↓zk_lt, ↓zk_nl, ↓zk_eq, ↓zk_ne, ↓zk_ix, ↓zk_dv, ↓zk_bo, ↓zk_rg, ↓zk_get, ↓zk_set, Option.bind_some])
        · (try simp (disch := omega) only [↓zk_lt, ↓zk_nl, ↓zk_eq, ↓zk_ne, ↓zk_ix, ↓zk_dv, ↓zk_bo, ↓zk_rg, ↓zk_get, ↓zk_set, Option.bind_some])
  unfold fn_Md_isClusterRight
  rw [zk_bd (sm_pf I M h0 h1)]
  exact e1 jk_F 100 0 (st c + ht st dp c) (by omega) (by omega) (by omega) R.1.1 (by simp [pSm]) (by omega)
theorem q_isConsistent (H : pC tn cl sz st dp tp va nb w) {c1 z1 th : Int} {b1 b2 b3 b4 b5 : Int → Int} (Hd : pDr b1 b2) : (∃ c2 z2 d1 d2 d3 d4 d5, fn_KR_isConsistent cl sz st dp tp va nb c1 z1 b1 b2 b3 b4 b5 = some (1, c2, z2, d1, d2, d3, d4, d5) ∧ pDr d1 d2) ∧ fn_Md_isConsistent w th = some (1, 0) := by
  have hF := jk_F_big
  have HH := H
  obtain ⟨⟨g, I, M⟩, G⟩ := HH
  have hcl := I.1.1
  have hsz := I.1.2.1
  have hw1 := M.1
  have hw2 := M.2.1
  constructor
  · obtain ⟨c2, z2, d1, d2, d3, d4, d5, h1, h2⟩ := sp_guesses H (c1 := c1) (z1 := z1) (b3 := b3) (b4 := b4) (b5 := b5) Hd
    refine ⟨c2, z2, d1, d2, d3, d4, d5, ?_, h2⟩
    unfold fn_KR_isConsistent
    rw [zk_bd (sp_order I), zk_bd (sp_branches I), zk_bd (sp_sums H), zk_bd h1]
    (try simp (disch := omega) only [↓zk_lt, ↓zk_nl, ↓zk_eq, ↓zk_ne, ↓zk_ix, ↓zk_dv, ↓zk_bo, ↓zk_rg, ↓zk_get, ↓zk_set, Option.bind_some])
  · have e2 : ∀ (n k : Nat) (i : Int), i + k = sz → 0 ≤ i → k < n → fn_Md_isConsistent_b51 n w 0 sz i = some (1, 0) := by
      intro n
      induction n with
      | zero => intro k i _ _ h; omega
      | succ n ih =>
        intro k i hi h0 hk
        rw [fn_Md_isConsistent_b51]
        cases k with
        | zero => (try simp (disch := omega) only [↓zk_lt, ↓zk_nl, ↓zk_eq, ↓zk_ne, ↓zk_ix, ↓zk_dv, ↓zk_bo, ↓zk_rg, ↓zk_get, ↓zk_set, Option.bind_some])
        | succ k =>
          (try simp (disch := omega) only [↓zk_lt, ↓zk_nl, ↓zk_eq, ↓zk_ne, ↓zk_ix, ↓zk_dv, ↓zk_bo, ↓zk_rg, ↓zk_get, ↓zk_set, Option.bind_some])
          rw [zk_bd (sm_cr I M (k := i) (by omega) (by omega))]
          (try simp (disch := omega) only [↓zk_lt, ↓zk_nl, ↓zk_eq, ↓zk_ne, ↓zk_ix, ↓zk_dv, ↓zk_bo, ↓zk_rg, ↓zk_get, ↓zk_set, Option.bind_some])
          exact ih k _ (by omega) (by omega) (by omega)
    have e1 : ∀ (n k : Nat) (i : Int), i + k = cl → 0 ≤ i → k < n → fn_Md_isConsistent_b9 n w 0 (st i) i = some (1, 0) := by
      intro n
      induction n with
      | zero => intro k i _ _ h; omega
      | succ n ih =>
        intro k i hi h0 hk
        rw [fn_Md_isConsistent_b9]
        cases k with
        | zero =>
          (try simp (disch := omega) only [↓zk_lt, ↓zk_nl, ↓zk_eq, ↓zk_ne, ↓zk_ix, ↓zk_dv, ↓zk_bo, ↓zk_rg, ↓zk_get, ↓zk_set, Option.bind_some])
          rw [show i = cl by omega, I.2.1.2.1]
          exact e2 jk_F sz.toNat 0 (by omega) (by omega) (by omega)
        | succ k =>
          (try simp (disch := omega) only [↓zk_lt, ↓zk_nl, ↓zk_eq, ↓zk_ne, ↓zk_ix, ↓zk_dv, ↓zk_bo, ↓zk_rg, ↓zk_get, ↓zk_set, Option.bind_some])
          rw [zk_bd (sm_clr I M (c := i) (by omega) (by omega))]
          (try simp (disch := omega) only [↓zk_lt, ↓zk_nl, ↓zk_eq, ↓zk_ne, ↓zk_ix, ↓zk_dv, ↓zk_bo, ↓zk_rg, ↓zk_get, ↓zk_set, Option.bind_some])
          rw [zk_bd (sm_end I M (c := i) (by omega) (by omega)), zk_bd (sm_first I M (c := i) (by omega) (by omega)), show st i + (st (i + 1) - st i) = st (i + 1) by omega]
          exact ih k _ (by omega) (by omega) (by omega)
    unfold fn_Md_isConsistent
    have := e1 jk_F cl.toNat 0 (by omega) (by omega) (by omega)
    rw [I.2.1.1] at this
    exact this
end PF
