/-! the guess, the state -/
section P5
variable {cl sz tn : Int} {st dp tp va nb g w : Int → Int}
theorem sm_inR {x a b : Int} (hx : jk_R x) (ha : jk_R a) (hb : jk_R b) : fn_Md_inRange x a b = some (if a ≤ x ∧ x ≤ b then 1 else 0) := by
  have h1 := hx.1; have h2 := hx.2; have h3 := ha.1; have h4 := ha.2; have h5 := hb.1; have h6 := hb.2
  unfold fn_Md_inRange
  by_cases h : a ≤ x
  · by_cases h' : x ≤ b
    · (try simp (disch := omega) only [↓zk_lt, ↓zk_nl, ↓zk_eq, ↓zk_ne, ↓zk_ix, ↓zk_dv, ↓zk_bo, ↓zk_rg, ↓zk_get, ↓zk_set, Option.bind_some]); rw [if_pos ⟨h, h'⟩]
    · (try simp (disch := omega) only [↓zk_lt, ↓zk_nl, ↓zk_eq, ↓zk_ne, ↓zk_ix, ↓zk_dv, ↓zk_bo, ↓zk_rg, ↓zk_get, ↓zk_set, Option.bind_some]); rw [if_neg (by omega)]
  · (try simp (disch := omega) only [↓zk_lt, ↓zk_nl, ↓zk_eq, ↓zk_ne, ↓zk_ix, ↓zk_dv, ↓zk_bo, ↓zk_rg, ↓zk_get, ↓zk_set, Option.bind_some]); rw [if_neg (by omega)]
theorem sp_val {x : Int} (hx : jk_R x) : fn_KR_isValue x = some (if 0 ≤ x ∧ x ≤ 9999 then 1 else 0) := by
  have h1 := hx.1; have h2 := hx.2
  unfold fn_KR_isValue
  by_cases h : 0 ≤ x
  · by_cases h' : x ≤ 9999
    · (try simp (disch := omega) only [↓zk_lt, ↓zk_nl, ↓zk_eq, ↓zk_ne, ↓zk_ix, ↓zk_dv, ↓zk_bo, ↓zk_rg, ↓zk_get, ↓zk_set, Option.bind_some]); rw [if_pos ⟨h, h'⟩]
    · (try simp (disch := omega) only [↓zk_lt, ↓zk_nl, ↓zk_eq, ↓zk_ne, ↓zk_ix, ↓zk_dv, ↓zk_bo, ↓zk_rg, ↓zk_get, ↓zk_set, Option.bind_some]); rw [if_neg (by omega)]
  · (try simp (disch := omega) only [↓zk_lt, ↓zk_nl, ↓zk_eq, ↓zk_ne, ↓zk_ix, ↓zk_dv, ↓zk_bo, ↓zk_rg, ↓zk_get, ↓zk_set, Option.bind_some]); rw [if_neg (by omega)]
theorem pw_iff {a b p : Int} (hp : 1 ≤ p) (hb : b / p * p = b) : a / p * p = b ↔ a / p = b / p := by
  constructor
  · intro h
    have : a / p * p / p = a / p := Int.mul_ediv_cancel _ (by omega)
    rw [← this, h]
  · intro h
    rw [h, hb]
/-- the known sum of a cluster's pendants -/
def ks (st dp va : Int → Int) (c : Int) : Int := pSm va (st c + ht st dp c) (st (c + 1) - (st c + ht st dp c)).toNat
/-- the nibbled ones of a cluster -/
def kn (st nb : Int → Int) (c : Int) : Int := pCt (fun j => decide (0 < nb j)) (st c) (st (c + 1) - st c).toNat
def ko (st nb : Int → Int) (c : Int) : Int := pOn nb (st c) (st (c + 1) - st c).toNat
def kg (st dp va nb : Int → Int) (c : Int) : Int := if ko st nb c = st c then ks st dp va c else va (st c) - (ks st dp va c - va (ko st nb c))
theorem ks_r (I : pI cl sz tn st dp tp va nb g) {c : Int} (h0 : 0 ≤ c) (h1 : c < cl) : 0 ≤ ks st dp va c ∧ ks st dp va c ≤ 399960 := by
  have hsz := I.1.2.1
  have s1 := pI_st I (c := c) h0 (by omega)
  have s2 := pI_st I (c := c + 1) (by omega) (by omega)
  have hl := ht_le I h0 h1
  have hr := ht_r (st := st) (dp := dp) c
  have := pSm_r (f := va) (B := 9999) (st (c + 1) - (st c + ht st dp c)).toNat (st c + ht st dp c) (fun j h2 h3 => (I.2.2 j (by omega) (by omega)).2.2.2.1)
  unfold ks
  omega
theorem kn_r (I : pI cl sz tn st dp tp va nb g) {c : Int} (h0 : 0 ≤ c) (h1 : c < cl) : 0 ≤ kn st nb c ∧ kn st nb c ≤ 40 := by
  have hsz := I.1.2.1
  have s1 := pI_st I (c := c) h0 (by omega)
  have s2 := pI_st I (c := c + 1) (by omega) (by omega)
  have := pCt_r (p := fun j => decide (0 < nb j)) (st (c + 1) - st c).toNat (st c)
  unfold kn
  omega
theorem ko_r (I : pI cl sz tn st dp tp va nb g) {c : Int} (h0 : 0 ≤ c) (h1 : c < cl) (h2 : kn st nb c = 1) : (st c ≤ ko st nb c ∧ ko st nb c < st (c + 1)) ∧ 0 < nb (ko st nb c) ∧ g (ko st nb c) = c ∧ (0 ≤ ko st nb c ∧ ko st nb c < sz) := by
  have s1 := pI_st I (c := c) h0 (by omega)
  have s2 := pI_st I (c := c + 1) (by omega) (by omega)
  have hm := I.2.1.2.2 c h0 h1
  have h3 := pFi_r (p := fun j => decide (0 < nb j)) (st (c + 1) - st c).toNat (st c) (by unfold kn at h2; omega)
  have e : ko st nb c = pFi (fun j => decide (0 < nb j)) (st c) (st (c + 1) - st c).toNat := by
    exact if_pos h2
  rw [e]
  obtain ⟨⟨a1, a2⟩, a3, -⟩ := h3
  refine ⟨⟨a1, by omega⟩, of_decide_eq_true a3, pI_g I h0 h1 a1 (by omega), by omega, by omega⟩
theorem ko_R (I : pI cl sz tn st dp tp va nb g) {c : Int} (h0 : 0 ≤ c) (h1 : c < cl) : ko st nb c = -1 ∨ (0 ≤ ko st nb c ∧ ko st nb c < sz) := by
  by_cases x : kn st nb c = 1
  · exact Or.inr (ko_r I h0 h1 x).2.2.2
  · left
    exact if_neg x
theorem ht_1 {c : Int} (h : ht st dp c = 1) : st c < st (c + 1) ∧ dp (st c) = 0 := by
  unfold ht at h
  by_cases x : st c < st (c + 1) ∧ dp (st c) = 0
  · exact x
  · rw [if_neg x] at h; omega
/-- the only cord of depth 0 is the first -/
theorem ko_0 (I : pI cl sz tn st dp tp va nb g) {c : Int} (h0 : 0 ≤ c) (h1 : c < cl) (ht1 : ht st dp c = 1) (h2 : kn st nb c = 1) : dp (ko st nb c) = 0 ↔ ko st nb c = st c := by
  obtain ⟨⟨a1, a2⟩, -, a3, a4, a5⟩ := ko_r I h0 h1 h2
  constructor
  · intro h
    obtain ⟨-, -, -, -, -, -, -, b⟩ := I.2.2 _ a4 a5
    rw [a3] at b
    by_cases x : st c < ko st nb c
    · have := b x; omega
    · omega
  · intro h
    rw [h]
    exact (ht_1 ht1).2
theorem kg_r (I : pI cl sz tn st dp tp va nb g) {c : Int} (h0 : 0 ≤ c) (h1 : c < cl) (ht1 : ht st dp c = 1) (h2 : kn st nb c = 1) : -400000 ≤ kg st dp va nb c ∧ kg st dp va nb c ≤ 400000 := by
  have hsz := I.1.2.1
  have hk := ks_r I h0 h1
  have s1 := pI_st I (c := c) h0 (by omega)
  have s2 := pI_st I (c := c + 1) (by omega) (by omega)
  obtain ⟨⟨a1, a2⟩, -, a3, a4, a5⟩ := ko_r I h0 h1 h2
  have v1 := (I.2.2 _ a4 a5).2.2.2.1
  have v2 := (I.2.2 (st c) (by omega) (by omega)).2.2.2.1
  unfold kg
  split <;> omega
theorem sp_kg (I : pI cl sz tn st dp tp va nb g) {c : Int} (h0 : 0 ≤ c) (h1 : c < cl) (ht1 : ht st dp c = 1) (h2 : kn st nb c = 1) : fn_Cords_guess st va nb c = some (kg st dp va nb c) := by
  have hcl := I.1.1
  have hsz := I.1.2.1
  have hk := ks_r I h0 h1
  have s1 := pI_st I (c := c) h0 (by omega)
  have s2 := pI_st I (c := c + 1) (by omega) (by omega)
  obtain ⟨⟨a1, a2⟩, -, a3, a4, a5⟩ := ko_r I h0 h1 h2
  have hlow := sp_low (va := va) (a := st c + 1) (b := st (c + 1)) (by omega) (by omega) (by omega) (fun j h2 h3 => (I.2.2 j (by omega) (by omega)).2.2.2.1)
  unfold fn_Cords_guess
  (try simp (disch := omega) only [↓zk_lt, ↓zk_nl, ↓zk_eq, ↓zk_ne, ↓zk_ix, ↓zk_dv, ↓zk_bo, ↓zk_rg, ↓zk_get, ↓zk_set, Option.bind_some])
  rw [zk_bd (sp_on I h0 h1)]
  (try simp (disch := omega) only [↓zk_lt, ↓zk_nl, ↓zk_eq, ↓zk_ne, ↓zk_ix, ↓zk_dv, ↓zk_bo, ↓zk_rg, ↓zk_get, ↓zk_set, Option.bind_some])
  rw [zk_bd hlow]
  have e : pSm va (st c + 1) (st (c + 1) - (st c + 1)).toNat = ks st dp va c := by unfold ks; rw [ht1]
  have e2 : pOn nb (st c) (st (c + 1) - st c).toNat = ko st nb c := rfl
  rw [e, e2]
  unfold kg
  by_cases x : ko st nb c = st c
  · (try simp (disch := omega) only [↓zk_lt, ↓zk_nl, ↓zk_eq, ↓zk_ne, ↓zk_ix, ↓zk_dv, ↓zk_bo, ↓zk_rg, ↓zk_get, ↓zk_set, Option.bind_some])
    rw [if_pos x]
  · (try simp (disch := omega) only [↓zk_lt, ↓zk_nl, ↓zk_eq, ↓zk_ne, ↓zk_ix, ↓zk_dv, ↓zk_bo, ↓zk_rg, ↓zk_get, ↓zk_set, Option.bind_some])
    rw [if_neg x]
theorem sm_kg (I : pI cl sz tn st dp tp va nb g) (M : pM cl sz dp tp va nb g w) {c : Int} (h0 : 0 ≤ c) (h1 : c < cl) (ht1 : ht st dp c = 1) (h2 : kn st nb c = 1) : fn_Md_guess w c = some (kg st dp va nb c) := by
  have hsz := I.1.2.1
  have hk := ks_r I h0 h1
  have s1 := pI_st I (c := c) h0 (by omega)
  have s2 := pI_st I (c := c + 1) (by omega) (by omega)
  obtain ⟨⟨a1, a2⟩, -, a3, a4, a5⟩ := ko_r I h0 h1 h2
  have hd := (I.2.2 _ a4 a5).2.1
  have h00 := ko_0 I h0 h1 ht1 h2
  unfold fn_Md_guess
  rw [zk_bd (sm_on I M h0 h1)]
  have e2 : pOn nb (st c) (st (c + 1) - st c).toNat = ko st nb c := rfl
  have hks : fn_Md_knownSum w c = some (ks st dp va c) := sm_ks I M h0 h1
  rw [e2, zk_bd (M1 I M a4 a5)]
  unfold kg
  by_cases x : ko st nb c = st c
  · have := h00.mpr x
    (try simp (disch := omega) only [↓zk_lt, ↓zk_nl, ↓zk_eq, ↓zk_ne, ↓zk_ix, ↓zk_dv, ↓zk_bo, ↓zk_rg, ↓zk_get, ↓zk_set, Option.bind_some])
    rw [zk_bd hks, if_pos x]
  · have : ¬ dp (ko st nb c) = 0 := fun z => x (h00.mp z)
    (try simp (disch := omega) only [↓zk_lt, ↓zk_nl, ↓zk_eq, ↓zk_ne, ↓zk_ix, ↓zk_dv, ↓zk_bo, ↓zk_rg, ↓zk_get, ↓zk_set, Option.bind_some])
    rw [zk_bd (sm_first I M h0 (by omega)), zk_bd (M3 I M (k := st c) (by omega) (by omega)), zk_bd hks, zk_bd (M3 I M a4 a5), if_neg x]
/-- what stands against a guess -/
def kob (st dp va nb : Int → Int) (c : Int) : Int := if ht st dp c = 0 then 1 else if kn st nb c = 0 then 2 else if 1 < kn st nb c then 3 else if (0 ≤ kg st dp va nb c ∧ kg st dp va nb c ≤ 9999) ∧ kg st dp va nb c / pw (nb (ko st nb c)) * pw (nb (ko st nb c)) = va (ko st nb c) then 0 else 4
theorem kob_r {c : Int} : 0 ≤ kob st dp va nb c ∧ kob st dp va nb c ≤ 4 := by
  unfold kob
  repeat' split
  all_goals omega
theorem kob_0 (I : pI cl sz tn st dp tp va nb g) {c : Int} (h0 : 0 ≤ c) (h1 : c < cl) (h : kob st dp va nb c = 0) : ht st dp c = 1 ∧ kn st nb c = 1 ∧ (0 ≤ kg st dp va nb c ∧ kg st dp va nb c ≤ 9999) := by
  have hr := ht_r (st := st) (dp := dp) c
  have hn := kn_r I h0 h1
  unfold kob at h
  by_cases x : ht st dp c = 0
  · rw [if_pos x] at h; omega
  · rw [if_neg x] at h
    by_cases y : kn st nb c = 0
    · rw [if_pos y] at h; omega
    · rw [if_neg y] at h
      by_cases z : 1 < kn st nb c
      · rw [if_pos z] at h; omega
      · rw [if_neg z] at h
        by_cases u : (0 ≤ kg st dp va nb c ∧ kg st dp va nb c ≤ 9999) ∧ kg st dp va nb c / pw (nb (ko st nb c)) * pw (nb (ko st nb c)) = va (ko st nb c)
        · exact ⟨by omega, by omega, u.1⟩
        · rw [if_neg u] at h; omega
theorem sp_ob (I : pI cl sz tn st dp tp va nb g) {c : Int} (h0 : 0 ≤ c) (h1 : c < cl) : fn_Cords_obstacle st dp va nb c = some (kob st dp va nb c) := by
  have hcl := I.1.1
  have hsz := I.1.2.1
  have hr := ht_r (st := st) (dp := dp) c
  have hn := kn_r I h0 h1
  have s1 := pI_st I (c := c) h0 (by omega)
  have s2 := pI_st I (c := c + 1) (by omega) (by omega)
  have hm := I.2.1.2.2 c h0 h1
  have hnib : fn_Cords_nibbledAmong nb (st c) (st (c + 1)) = some (kn st nb c) := sp_nib (by omega) (by omega) (by omega) (fun j h2 h3 => (I.2.2 j (by omega) (by omega)).2.2.2.2.1)
  unfold fn_Cords_obstacle kob
  rw [zk_bd (sp_ht I h0 h1)]
  by_cases x : ht st dp c = 0
  · (try simp (disch := omega) only [↓zk_lt, ↓zk_nl, ↓zk_eq, ↓zk_ne, ↓zk_ix, ↓zk_dv, ↓zk_bo, ↓zk_rg, ↓zk_get, ↓zk_set, Option.bind_some])
    rw [if_pos x]
  · (try simp (disch := omega) only [↓zk_lt, ↓zk_nl, ↓zk_eq, ↓zk_ne, ↓zk_ix, ↓zk_dv, ↓zk_bo, ↓zk_rg, ↓zk_get, ↓zk_set, Option.bind_some])
    rw [if_neg x, zk_bd (sp_start I h0 (by omega)), zk_bd (sp_end I h0 h1), zk_bd hnib]
    by_cases y : kn st nb c = 0
    · (try simp (disch := omega) only [↓zk_lt, ↓zk_nl, ↓zk_eq, ↓zk_ne, ↓zk_ix, ↓zk_dv, ↓zk_bo, ↓zk_rg, ↓zk_get, ↓zk_set, Option.bind_some])
      rw [if_pos y]
    · (try simp (disch := omega) only [↓zk_lt, ↓zk_nl, ↓zk_eq, ↓zk_ne, ↓zk_ix, ↓zk_dv, ↓zk_bo, ↓zk_rg, ↓zk_get, ↓zk_set, Option.bind_some])
      rw [if_neg y]
      by_cases z : 1 < kn st nb c
      · (try simp (disch := omega) only [↓zk_lt, ↓zk_nl, ↓zk_eq, ↓zk_ne, ↓zk_ix, ↓zk_dv, ↓zk_bo, ↓zk_rg, ↓zk_get, ↓zk_set, Option.bind_some])
        rw [if_pos z]
      · (try simp (disch := omega) only [↓zk_lt, ↓zk_nl, ↓zk_eq, ↓zk_ne, ↓zk_ix, ↓zk_dv, ↓zk_bo, ↓zk_rg, ↓zk_get, ↓zk_set, Option.bind_some])
        rw [if_neg z, zk_bd (sp_on I h0 h1), zk_bd (sp_kg I h0 h1 (by omega) (by omega))]
        have e2 : pOn nb (st c) (st (c + 1) - st c).toNat = ko st nb c := rfl
        rw [e2]
        obtain ⟨⟨a1, a2⟩, -, a3, a4, a5⟩ := ko_r I h0 h1 (by omega)
        have hg := kg_r I h0 h1 (by omega) (by omega)
        obtain ⟨-, -, -, hv, hb, -⟩ := I.2.2 _ a4 a5
        unfold fn_Cords_fits
        rw [zk_bd (sp_val ⟨by omega, by omega⟩)]
        by_cases u : 0 ≤ kg st dp va nb c ∧ kg st dp va nb c ≤ 9999
        · have hdm := pw_dm hb.1 hb.2 u.1
          rw [if_pos u]
          (try simp (disch := omega) only [↓zk_lt, ↓zk_nl, ↓zk_eq, ↓zk_ne, ↓zk_ix, ↓zk_dv, ↓zk_bo, ↓zk_rg, ↓zk_get, ↓zk_set, Option.bind_some])
          rw [zk_bd (sp_lose hb.1 hb.2 u.1 (by omega))]
          (try simp (disch := omega) only [↓zk_lt, ↓zk_nl, ↓zk_eq, ↓zk_ne, ↓zk_ix, ↓zk_dv, ↓zk_bo, ↓zk_rg, ↓zk_get, ↓zk_set, Option.bind_some])
          by_cases v : kg st dp va nb c / pw (nb (ko st nb c)) * pw (nb (ko st nb c)) = va (ko st nb c)
          · (try simp (disch := omega) only [↓zk_lt, ↓zk_nl, ↓zk_eq, ↓zk_ne, ↓zk_ix, ↓zk_dv, ↓zk_bo, ↓zk_rg, ↓zk_get, ↓zk_set, Option.bind_some])
            rw [if_pos ⟨u, v⟩]
          · (try simp (disch := omega) only [↓zk_lt, ↓zk_nl, ↓zk_eq, ↓zk_ne, ↓zk_ix, ↓zk_dv, ↓zk_bo, ↓zk_rg, ↓zk_get, ↓zk_set, Option.bind_some])
            rw [if_neg (fun z => v z.2)]
        · rw [if_neg u]
          (try simp (disch := omega) only [↓zk_lt, ↓zk_nl, ↓zk_eq, ↓zk_ne, ↓zk_ix, ↓zk_dv, ↓zk_bo, ↓zk_rg, ↓zk_get, ↓zk_set, Option.bind_some])
          rw [if_neg (fun z => u z.1)]
theorem sm_ob (I : pI cl sz tn st dp tp va nb g) (M : pM cl sz dp tp va nb g w) {c : Int} (h0 : 0 ≤ c) (h1 : c < cl) : fn_Md_guessReason w c = some (kob st dp va nb c) := by
  have hcl := I.1.1
  have hsz := I.1.2.1
  have hr := ht_r (st := st) (dp := dp) c
  have hn := kn_r I h0 h1
  have s1 := pI_st I (c := c) h0 (by omega)
  have s2 := pI_st I (c := c + 1) (by omega) (by omega)
  have hm := I.2.1.2.2 c h0 h1
  have hni : fn_Md_nibbledIn w c = some (kn st nb c) := sm_ni I M h0 h1
  unfold fn_Md_guessReason kob
  rw [zk_bd (sm_ht I M h0 h1)]
  by_cases x : ht st dp c = 0
  · (try simp (disch := omega) only [↓zk_lt, ↓zk_nl, ↓zk_eq, ↓zk_ne, ↓zk_ix, ↓zk_dv, ↓zk_bo, ↓zk_rg, ↓zk_get, ↓zk_set, Option.bind_some])
    rw [if_pos x]
  · (try simp (disch := omega) only [↓zk_lt, ↓zk_nl, ↓zk_eq, ↓zk_ne, ↓zk_ix, ↓zk_dv, ↓zk_bo, ↓zk_rg, ↓zk_get, ↓zk_set, Option.bind_some])
    rw [if_neg x, zk_bd hni]
    by_cases y : kn st nb c = 1
    · (try simp (disch := omega) only [↓zk_lt, ↓zk_nl, ↓zk_eq, ↓zk_ne, ↓zk_ix, ↓zk_dv, ↓zk_bo, ↓zk_rg, ↓zk_get, ↓zk_set, Option.bind_some])
      rw [if_neg (by omega), if_neg (by omega)]
      unfold fn_Md_isPossible
      rw [zk_bd (sm_on I M h0 h1), zk_bd (sm_kg I M h0 h1 (by omega) y)]
      have e2 : pOn nb (st c) (st (c + 1) - st c).toNat = ko st nb c := rfl
      rw [e2]
      obtain ⟨⟨a1, a2⟩, -, a3, a4, a5⟩ := ko_r I h0 h1 y
      have hg := kg_r I h0 h1 (by omega) y
      obtain ⟨-, -, -, hv, hb, hvd, -⟩ := I.2.2 _ a4 a5
      have hp := pw_pos hb.1 hb.2
      rw [zk_bd (sm_inR ⟨by omega, by omega⟩ ⟨by omega, by omega⟩ ⟨by omega, by omega⟩)]
      by_cases u : 0 ≤ kg st dp va nb c ∧ kg st dp va nb c ≤ 9999
      · have hiff := pw_iff (a := kg st dp va nb c) hp.1 hvd
        have d1 := pw_div hb.1 hb.2 u.1
        have d2 := pw_div hb.1 hb.2 hv.1
        rw [if_pos u]
        (try simp (disch := omega) only [↓zk_lt, ↓zk_nl, ↓zk_eq, ↓zk_ne, ↓zk_ix, ↓zk_dv, ↓zk_bo, ↓zk_rg, ↓zk_get, ↓zk_set, Option.bind_some])
        rw [zk_bd (M4 I M a4 a5), zk_bd (sm_power hb.1 hb.2)]
        (try simp (disch := omega) only [↓zk_lt, ↓zk_nl, ↓zk_eq, ↓zk_ne, ↓zk_ix, ↓zk_dv, ↓zk_bo, ↓zk_rg, ↓zk_get, ↓zk_set, Option.bind_some])
        rw [zk_bd (M3 I M a4 a5)]
        (try simp (disch := omega) only [↓zk_lt, ↓zk_nl, ↓zk_eq, ↓zk_ne, ↓zk_ix, ↓zk_dv, ↓zk_bo, ↓zk_rg, ↓zk_get, ↓zk_set, Option.bind_some])
        by_cases v : kg st dp va nb c / pw (nb (ko st nb c)) = va (ko st nb c) / pw (nb (ko st nb c))
        · (try simp (disch := omega) only [↓zk_lt, ↓zk_nl, ↓zk_eq, ↓zk_ne, ↓zk_ix, ↓zk_dv, ↓zk_bo, ↓zk_rg, ↓zk_get, ↓zk_set, Option.bind_some])
          rw [if_pos ⟨u, hiff.mpr v⟩]
        · (try simp (disch := omega) only [↓zk_lt, ↓zk_nl, ↓zk_eq, ↓zk_ne, ↓zk_ix, ↓zk_dv, ↓zk_bo, ↓zk_rg, ↓zk_get, ↓zk_set, Option.bind_some])
          rw [if_neg (fun z => v (hiff.mp z.2))]
      · rw [if_neg u]
        (try simp (disch := omega) only [↓zk_lt, ↓zk_nl, ↓zk_eq, ↓zk_ne, ↓zk_ix, ↓zk_dv, ↓zk_bo, ↓zk_rg, ↓zk_get, ↓zk_set, Option.bind_some])
        rw [if_neg (fun z => u z.1)]
    · by_cases z : kn st nb c = 0
      · (try simp (disch := omega) only [↓zk_lt, ↓zk_nl, ↓zk_eq, ↓zk_ne, ↓zk_ix, ↓zk_dv, ↓zk_bo, ↓zk_rg, ↓zk_get, ↓zk_set, Option.bind_some])
        rw [if_pos z]
      · (try simp (disch := omega) only [↓zk_lt, ↓zk_nl, ↓zk_eq, ↓zk_ne, ↓zk_ix, ↓zk_dv, ↓zk_bo, ↓zk_rg, ↓zk_get, ↓zk_set, Option.bind_some])
        rw [if_neg z, if_pos (by omega)]
def kst (st dp va nb : Int → Int) (c : Int) : Int := if ht st dp c = 0 then 0 else if 0 < kn st nb c then 1 else if va (st c) = ks st dp va c then 2 else 3
theorem kst_r {c : Int} : 0 ≤ kst st dp va nb c ∧ kst st dp va nb c ≤ 3 := by
  unfold kst
  repeat' split
  all_goals omega
theorem sp_state (I : pI cl sz tn st dp tp va nb g) {c : Int} (h0 : 0 ≤ c) (h1 : c < cl) : fn_Cords_state st dp va nb c = some (kst st dp va nb c) := by
  have hcl := I.1.1
  have hsz := I.1.2.1
  have hr := ht_r (st := st) (dp := dp) c
  have hn := kn_r I h0 h1
  have hk := ks_r I h0 h1
  have s1 := pI_st I (c := c) h0 (by omega)
  have s2 := pI_st I (c := c + 1) (by omega) (by omega)
  have hm := I.2.1.2.2 c h0 h1
  have hnib : fn_Cords_nibbledAmong nb (st c) (st (c + 1)) = some (kn st nb c) := sp_nib (by omega) (by omega) (by omega) (fun j h2 h3 => (I.2.2 j (by omega) (by omega)).2.2.2.2.1)
  have hsum : fn_Cords_sum st dp va c = some (ks st dp va c) := sp_sum I h0 h1
  unfold fn_Cords_state kst
  rw [zk_bd (sp_ht I h0 h1)]
  by_cases x : ht st dp c = 0
  · (try simp (disch := omega) only [↓zk_lt, ↓zk_nl, ↓zk_eq, ↓zk_ne, ↓zk_ix, ↓zk_dv, ↓zk_bo, ↓zk_rg, ↓zk_get, ↓zk_set, Option.bind_some])
    rw [if_pos x]
  · have h2 := ht_1 (st := st) (dp := dp) (c := c) (by omega)
    have v2 := (I.2.2 (st c) (by omega) (by omega)).2.2.2.1
    (try simp (disch := omega) only [↓zk_lt, ↓zk_nl, ↓zk_eq, ↓zk_ne, ↓zk_ix, ↓zk_dv, ↓zk_bo, ↓zk_rg, ↓zk_get, ↓zk_set, Option.bind_some])
    rw [if_neg x, zk_bd (sp_start I h0 (by omega)), zk_bd (sp_end I h0 h1), zk_bd hnib]
    by_cases y : 0 < kn st nb c
    · (try simp (disch := omega) only [↓zk_lt, ↓zk_nl, ↓zk_eq, ↓zk_ne, ↓zk_ix, ↓zk_dv, ↓zk_bo, ↓zk_rg, ↓zk_get, ↓zk_set, Option.bind_some])
      rw [if_pos y]
    · (try simp (disch := omega) only [↓zk_lt, ↓zk_nl, ↓zk_eq, ↓zk_ne, ↓zk_ix, ↓zk_dv, ↓zk_bo, ↓zk_rg, ↓zk_get, ↓zk_set, Option.bind_some])
      rw [if_neg y, zk_bd hsum]
      by_cases z : va (st c) = ks st dp va c
      · (try simp (disch := omega) only [↓zk_lt, ↓zk_nl, ↓zk_eq, ↓zk_ne, ↓zk_ix, ↓zk_dv, ↓zk_bo, ↓zk_rg, ↓zk_get, ↓zk_set, Option.bind_some])
        rw [if_pos z]
      · (try simp (disch := omega) only [↓zk_lt, ↓zk_nl, ↓zk_eq, ↓zk_ne, ↓zk_ix, ↓zk_dv, ↓zk_bo, ↓zk_rg, ↓zk_get, ↓zk_set, Option.bind_some])
        rw [if_neg z]
theorem sm_state (I : pI cl sz tn st dp tp va nb g) (M : pM cl sz dp tp va nb g w) {c : Int} (h0 : 0 ≤ c) (h1 : c < cl) : fn_Md_state w c = some (kst st dp va nb c) := by
  have hcl := I.1.1
  have hsz := I.1.2.1
  have hr := ht_r (st := st) (dp := dp) c
  have hn := kn_r I h0 h1
  have hk := ks_r I h0 h1
  have s1 := pI_st I (c := c) h0 (by omega)
  have s2 := pI_st I (c := c + 1) (by omega) (by omega)
  have hni : fn_Md_nibbledIn w c = some (kn st nb c) := sm_ni I M h0 h1
  have hks : fn_Md_knownSum w c = some (ks st dp va c) := sm_ks I M h0 h1
  unfold fn_Md_state kst
  rw [zk_bd (sm_ht I M h0 h1)]
  by_cases x : ht st dp c = 0
  · (try simp (disch := omega) only [↓zk_lt, ↓zk_nl, ↓zk_eq, ↓zk_ne, ↓zk_ix, ↓zk_dv, ↓zk_bo, ↓zk_rg, ↓zk_get, ↓zk_set, Option.bind_some])
    rw [if_pos x]
  · have h2 := ht_1 (st := st) (dp := dp) (c := c) (by omega)
    have v2 := (I.2.2 (st c) (by omega) (by omega)).2.2.2.1
    (try simp (disch := omega) only [↓zk_lt, ↓zk_nl, ↓zk_eq, ↓zk_ne, ↓zk_ix, ↓zk_dv, ↓zk_bo, ↓zk_rg, ↓zk_get, ↓zk_set, Option.bind_some])
    rw [if_neg x, zk_bd hni]
    by_cases y : 0 < kn st nb c
    · (try simp (disch := omega) only [↓zk_lt, ↓zk_nl, ↓zk_eq, ↓zk_ne, ↓zk_ix, ↓zk_dv, ↓zk_bo, ↓zk_rg, ↓zk_get, ↓zk_set, Option.bind_some])
      rw [if_pos y]
    · (try simp (disch := omega) only [↓zk_lt, ↓zk_nl, ↓zk_eq, ↓zk_ne, ↓zk_ix, ↓zk_dv, ↓zk_bo, ↓zk_rg, ↓zk_get, ↓zk_set, Option.bind_some])
      rw [if_neg y, zk_bd (sm_first I M h0 (by omega)), zk_bd (M3 I M (k := st c) (by omega) (by omega)), zk_bd hks]
      by_cases z : va (st c) = ks st dp va c
      · (try simp (disch := omega) only [↓zk_lt, ↓zk_nl, ↓zk_eq, ↓zk_ne, ↓zk_ix, ↓zk_dv, ↓zk_bo, ↓zk_rg, ↓zk_get, ↓zk_set, Option.bind_some])
        rw [if_pos z]
      · (try simp (disch := omega) only [↓zk_lt, ↓zk_nl, ↓zk_eq, ↓zk_ne, ↓zk_ix, ↓zk_dv, ↓zk_bo, ↓zk_rg, ↓zk_get, ↓zk_set, Option.bind_some])
        rw [if_neg z]
end P5
