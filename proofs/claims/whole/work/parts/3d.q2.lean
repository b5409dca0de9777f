/-! a cord's branch -/
def bel (dp : Int → Int) (d : Int) (e : Int) : Nat → Int
  | 0 => e
  | m + 1 => if d < dp e then bel dp d (e + 1) m else e
def be (sz : Int) (dp : Int → Int) (k : Int) : Int := if dp k = 0 then k + 1 else bel dp (dp k) (k + 1) (sz - (k + 1)).toNat
theorem bel_r {dp : Int → Int} {d : Int} : ∀ (m : Nat) (e : Int), (e ≤ bel dp d e m ∧ bel dp d e m ≤ e + m) ∧ (∀ j, e ≤ j → j < bel dp d e m → d < dp j) ∧ (bel dp d e m < e + m → dp (bel dp d e m) ≤ d) := by
  intro m
  induction m with
  | zero => intro e; simp only [bel]; exact ⟨⟨by omega, by omega⟩, fun j h1 h2 => by omega, fun h => by omega⟩
  | succ m ih =>
    intro e
    obtain ⟨⟨h1, h2⟩, h3, h4⟩ := ih (e + 1)
    simp only [bel]
    by_cases x : d < dp e
    · simp only [if_pos x]
      refine ⟨⟨by omega, by omega⟩, fun j h5 h6 => ?_, fun h => h4 (by omega)⟩
      by_cases y : j = e
      · rw [y]; exact x
      · exact h3 j (by omega) h6
    · simp only [if_neg x]
      exact ⟨⟨by omega, by omega⟩, fun j h5 h6 => by omega, fun _ => by omega⟩
section P4
variable {cl sz tn : Int} {st dp tp va nb g w : Int → Int}
theorem be_r (I : pI cl sz tn st dp tp va nb g) {k : Int} (h0 : 0 ≤ k) (h1 : k < sz) : (k < be sz dp k ∧ be sz dp k ≤ sz) ∧ (∀ j, k < j → j < be sz dp k → dp k < dp j ∧ 0 < dp k) ∧ (0 < dp k → be sz dp k < sz → dp (be sz dp k) ≤ dp k) := by
  have hd := (I.2.2 k h0 h1).2.1
  unfold be
  by_cases x : dp k = 0
  · simp only [if_pos x]
    exact ⟨⟨by omega, by omega⟩, fun j h2 h3 => by omega, fun h => by omega⟩
  · simp only [if_neg x]
    obtain ⟨⟨h2, h3⟩, h4, h5⟩ := bel_r (dp := dp) (d := dp k) (sz - (k + 1)).toNat (k + 1)
    exact ⟨⟨by omega, by omega⟩, fun j h6 h7 => ⟨h4 j (by omega) h7, by omega⟩, fun _ h => h5 (by omega)⟩
/-- cords deeper than one of depth 1 or more, one behind the other, stand in its cluster -/
theorem pI_run (I : pI cl sz tn st dp tp va nb g) {k : Int} (h0 : 0 ≤ k) : ∀ (m : Nat), k + m < sz → (∀ j, k < j → j ≤ k + m → dp k < dp j ∧ 0 < dp k) → g (k + m) = g k := by
  intro m
  induction m with
  | zero => intro _ _; simp
  | succ m ih =>
    intro h1 h2
    have h3 := h2 (k + ((m + 1 : Nat) : Int)) (by omega) (by omega)
    obtain ⟨⟨a1, a2, a3, a4⟩, a5, -, -, -, -, a6, a7⟩ := I.2.2 (k + ((m + 1 : Nat) : Int)) (by omega) (by omega)
    have h4 : st (g (k + ((m + 1 : Nat) : Int))) < k + ((m + 1 : Nat) : Int) := by
      by_cases x : st (g (k + ((m + 1 : Nat) : Int))) = k + ((m + 1 : Nat) : Int)
      · have := a6 x; omega
      · omega
    rw [← pI_pred I (by omega) h1 h4, ← ih (by omega) (fun j h5 h6 => h2 j h5 (by omega))]
    congr 1
    omega
theorem be_g (I : pI cl sz tn st dp tp va nb g) {k j : Int} (h0 : 0 ≤ k) (h1 : k < sz) (h2 : k ≤ j) (h3 : j < be sz dp k) : g j = g k := by
  obtain ⟨⟨b1, b2⟩, b3, -⟩ := be_r I h0 h1
  have := pI_run I h0 (j - k).toNat (by omega) (fun i h4 h5 => b3 i h4 (by omega))
  rw [show k + ((j - k).toNat : Int) = j by omega] at this
  exact this
theorem be_le (I : pI cl sz tn st dp tp va nb g) {k : Int} (h0 : 0 ≤ k) (h1 : k < sz) : be sz dp k ≤ st (g k + 1) := by
  obtain ⟨⟨b1, b2⟩, b3, -⟩ := be_r I h0 h1
  have h := be_g I h0 h1 (j := be sz dp k - 1) (by omega) (by omega)
  obtain ⟨⟨a1, a2, a3, a4⟩, -⟩ := I.2.2 (be sz dp k - 1) (by omega) (by omega)
  rw [h] at a4
  omega
theorem sp_be_b (I : pI cl sz tn st dp tp va nb g) {k : Int} (h0 : 0 ≤ k) (h1 : k < sz) : ∀ (n m : Nat) (e : Int), e + m = sz → 0 ≤ e → m < n → fn_Cords_branchEnd_b17 n sz dp k e = some (bel dp (dp k) e m) := by
  have hsz := I.1.2.1
  have hd := (I.2.2 k h0 h1).2.1
  intro n
  induction n with
  | zero => intro m e _ _ h; omega
  | succ n ih =>
    intro m e he h2 hm
    rw [fn_Cords_branchEnd_b17]
    cases m with
    | zero => simp (disch := omega) only [↓zk_lt, ↓zk_nl, ↓zk_eq, ↓zk_ne, ↓zk_ix, ↓zk_dv, ↓zk_bo, ↓zk_rg, ↓zk_get, ↓zk_set, Option.bind_some]; simp [bel, show e = sz by omega]
    | succ m =>
      have hd2 := (I.2.2 e (by omega) (by omega)).2.1
      simp only [bel]
      by_cases x : dp k < dp e
      · simp (disch := omega) only [↓zk_lt, ↓zk_nl, ↓zk_eq, ↓zk_ne, ↓zk_ix, ↓zk_dv, ↓zk_bo, ↓zk_rg, ↓zk_get, ↓zk_set, Option.bind_some]
        rw [ih m _ (by omega) (by omega) (by omega), if_pos x]
      · simp (disch := omega) only [↓zk_lt, ↓zk_nl, ↓zk_eq, ↓zk_ne, ↓zk_ix, ↓zk_dv, ↓zk_bo, ↓zk_rg, ↓zk_get, ↓zk_set, Option.bind_some]
        rw [if_neg x]
theorem sp_be (I : pI cl sz tn st dp tp va nb g) {k : Int} (h0 : 0 ≤ k) (h1 : k < sz) : fn_Cords_branchEnd sz dp k = some (be sz dp k) := by
  have hF := jk_F_big
  have hsz := I.1.2.1
  have hd := (I.2.2 k h0 h1).2.1
  unfold fn_Cords_branchEnd be
  simp (disch := omega) only [↓zk_lt, ↓zk_nl, ↓zk_eq, ↓zk_ne, ↓zk_ix, ↓zk_dv, ↓zk_bo, ↓zk_rg, ↓zk_get, ↓zk_set, Option.bind_some]
  by_cases x : dp k = 0
  · simp (disch := omega) only [↓zk_lt, ↓zk_nl, ↓zk_eq, ↓zk_ne, ↓zk_ix, ↓zk_dv, ↓zk_bo, ↓zk_rg, ↓zk_get, ↓zk_set, Option.bind_some]
    rw [if_pos x]
  · simp (disch := omega) only [↓zk_lt, ↓zk_nl, ↓zk_eq, ↓zk_ne, ↓zk_ix, ↓zk_dv, ↓zk_bo, ↓zk_rg, ↓zk_get, ↓zk_set, Option.bind_some]
    rw [if_neg x, sp_be_b I h0 h1 jk_F (sz - (k + 1)).toNat (k + 1) (by omega) (by omega) (by omega)]
theorem sm_be_b (I : pI cl sz tn st dp tp va nb g) (M : pM cl sz dp tp va nb g w) {k : Int} (h0 : 0 ≤ k) (h1 : k < sz) (hp : 0 < dp k) : ∀ (n m : Nat) (e : Int), e + m = sz → k < e → (∀ j, k < j → j < e → dp k < dp j) → m < n → fn_Md_behind_b4 n w k e = some (bel dp (dp k) e m) := by
  have hsz := I.1.2.1
  have hw2 := M.2.1
  obtain ⟨⟨a1, a2, a3, a4⟩, hd, -⟩ := I.2.2 k h0 h1
  have hcl := I.1.1
  intro n
  induction n with
  | zero => intro m e _ _ _ h; omega
  | succ n ih =>
    intro m e he h2 h3 hm
    rw [fn_Md_behind_b4]
    cases m with
    | zero => simp (disch := omega) only [↓zk_lt, ↓zk_nl, ↓zk_eq, ↓zk_ne, ↓zk_ix, ↓zk_dv, ↓zk_bo, ↓zk_rg, ↓zk_get, ↓zk_set, Option.bind_some]; simp [bel]
    | succ m =>
      obtain ⟨⟨c1, c2, c3, c4⟩, hd2, -⟩ := I.2.2 e (by omega) (by omega)
      simp only [bel]
      simp (disch := omega) only [↓zk_lt, ↓zk_nl, ↓zk_eq, ↓zk_ne, ↓zk_ix, ↓zk_dv, ↓zk_bo, ↓zk_rg, ↓zk_get, ↓zk_set, Option.bind_some]
      rw [zk_bd (M1 I M h0 h1)]
      simp (disch := omega) only [↓zk_lt, ↓zk_nl, ↓zk_eq, ↓zk_ne, ↓zk_ix, ↓zk_dv, ↓zk_bo, ↓zk_rg, ↓zk_get, ↓zk_set, Option.bind_some]
      rw [zk_bd (M1 I M (k := e) (by omega) (by omega)), zk_bd (M1 I M h0 h1)]
      by_cases x : dp k < dp e
      · have hg : g e = g k := by
          have := pI_run I h0 (e - k).toNat (by omega) (fun j h4 h5 => ⟨by
            by_cases y : j = e
            · rw [y]; exact x
            · exact h3 j h4 (by omega), hp⟩)
          rw [show k + ((e - k).toNat : Int) = e by omega] at this
          exact this
        simp (disch := omega) only [↓zk_lt, ↓zk_nl, ↓zk_eq, ↓zk_ne, ↓zk_ix, ↓zk_dv, ↓zk_bo, ↓zk_rg, ↓zk_get, ↓zk_set, Option.bind_some]
        rw [zk_bd (M0 I M (k := e) (by omega) (by omega)), zk_bd (M0 I M h0 h1)]
        simp (disch := omega) only [↓zk_lt, ↓zk_nl, ↓zk_eq, ↓zk_ne, ↓zk_ix, ↓zk_dv, ↓zk_bo, ↓zk_rg, ↓zk_get, ↓zk_set, Option.bind_some]
        rw [ih m _ (by omega) (by omega) (fun j h4 h5 => by
          by_cases y : j = e
          · rw [y]; exact x
          · exact h3 j h4 (by omega)) (by omega), if_pos x]
      · simp (disch := omega) only [↓zk_lt, ↓zk_nl, ↓zk_eq, ↓zk_ne, ↓zk_ix, ↓zk_dv, ↓zk_bo, ↓zk_rg, ↓zk_get, ↓zk_set, Option.bind_some]
        rw [if_neg x]
theorem sm_be (I : pI cl sz tn st dp tp va nb g) (M : pM cl sz dp tp va nb g w) {k : Int} (h0 : 0 ≤ k) (h1 : k < sz) : fn_Md_behind w k = some (be sz dp k) := by
  have hF := jk_F_big
  have hsz := I.1.2.1
  have hw2 := M.2.1
  have hd := (I.2.2 k h0 h1).2.1
  unfold fn_Md_behind be
  by_cases x : dp k = 0
  · rw [if_pos x, show jk_F = 99999 + 1 from rfl, fn_Md_behind_b4]
    by_cases y : k + 1 < sz
    · simp (disch := omega) only [↓zk_lt, ↓zk_nl, ↓zk_eq, ↓zk_ne, ↓zk_ix, ↓zk_dv, ↓zk_bo, ↓zk_rg, ↓zk_get, ↓zk_set, Option.bind_some]
      rw [zk_bd (M1 I M h0 h1)]
      simp (disch := omega) only [↓zk_lt, ↓zk_nl, ↓zk_eq, ↓zk_ne, ↓zk_ix, ↓zk_dv, ↓zk_bo, ↓zk_rg, ↓zk_get, ↓zk_set, Option.bind_some]
    · simp (disch := omega) only [↓zk_lt, ↓zk_nl, ↓zk_eq, ↓zk_ne, ↓zk_ix, ↓zk_dv, ↓zk_bo, ↓zk_rg, ↓zk_get, ↓zk_set, Option.bind_some]
  · rw [if_neg x, sm_be_b I M h0 h1 (by omega) jk_F (sz - (k + 1)).toNat (k + 1) (by omega) (by omega) (fun j h4 h5 => by omega) (by omega)]
/-! a cord's numbers -/
theorem sm_low_b (I : pI cl sz tn st dp tp va nb g) (M : pM cl sz dp tp va nb g w) {c : Int} (h0 : 0 ≤ c) (h1 : c < sz) : ∀ (n k : Nat) (s i : Int), i + k = be sz dp c → 0 ≤ i → 0 ≤ s → s ≤ 1000000 - 20000 * (k : Int) → k < n → fn_Md_lowest_b4 n w c s i = some (s + pSm va i k) := by
  have hsz := I.1.2.1
  obtain ⟨⟨b1, b2⟩, -⟩ := be_r I h0 h1
  intro n
  induction n with
  | zero => intro k s i _ _ _ _ h; omega
  | succ n ih =>
    intro k s i hi h2 hs hs2 hk
    rw [fn_Md_lowest_b4, zk_bd (sm_be I M h0 h1)]
    cases k with
    | zero => simp (disch := omega) only [↓zk_lt, ↓zk_nl, ↓zk_eq, ↓zk_ne, ↓zk_ix, ↓zk_dv, ↓zk_bo, ↓zk_rg, ↓zk_get, ↓zk_set, Option.bind_some]; simp [pSm]
    | succ k =>
      have hv := (I.2.2 i (by omega) (by omega)).2.2.2.1
      simp (disch := omega) only [↓zk_lt, ↓zk_nl, ↓zk_eq, ↓zk_ne, ↓zk_ix, ↓zk_dv, ↓zk_bo, ↓zk_rg, ↓zk_get, ↓zk_set, Option.bind_some]
      rw [zk_bd (M3 I M (k := i) (by omega) (by omega)), ih k _ _ (by omega) (by omega) (by omega) (by omega) (by omega)]
      simp only [pSm]
      congr 1
      omega
theorem sm_low (I : pI cl sz tn st dp tp va nb g) (M : pM cl sz dp tp va nb g w) {c : Int} (h0 : 0 ≤ c) (h1 : c < sz) : fn_Md_lowest w c = some (pSm va c (be sz dp c - c).toNat) := by
  have hF := jk_F_big
  have hsz := I.1.2.1
  obtain ⟨⟨b1, b2⟩, -⟩ := be_r I h0 h1
  unfold fn_Md_lowest
  rw [sm_low_b I M h0 h1 jk_F (be sz dp c - c).toNat 0 c (by omega) (by omega) (by omega) (by omega) (by omega)]
  simp
theorem sm_high_b (I : pI cl sz tn st dp tp va nb g) (M : pM cl sz dp tp va nb g w) {c : Int} (h0 : 0 ≤ c) (h1 : c < sz) : ∀ (n k : Nat) (s i : Int), i + k = be sz dp c → 0 ≤ i → 0 ≤ s → s ≤ 1000000 - 20000 * (k : Int) → k < n → fn_Md_highest_b4 n w c s i = some (s + pSm (fun j => va j + pw (nb j) - 1) i k) := by
  have hsz := I.1.2.1
  obtain ⟨⟨b1, b2⟩, -⟩ := be_r I h0 h1
  intro n
  induction n with
  | zero => intro k s i _ _ _ _ h; omega
  | succ n ih =>
    intro k s i hi h2 hs hs2 hk
    rw [fn_Md_highest_b4, zk_bd (sm_be I M h0 h1)]
    cases k with
    | zero => simp (disch := omega) only [↓zk_lt, ↓zk_nl, ↓zk_eq, ↓zk_ne, ↓zk_ix, ↓zk_dv, ↓zk_bo, ↓zk_rg, ↓zk_get, ↓zk_set, Option.bind_some]; simp [pSm]
    | succ k =>
      obtain ⟨-, -, -, hv, hn, -⟩ := I.2.2 i (by omega) (by omega)
      have h4 := pw_pos hn.1 hn.2
      simp (disch := omega) only [↓zk_lt, ↓zk_nl, ↓zk_eq, ↓zk_ne, ↓zk_ix, ↓zk_dv, ↓zk_bo, ↓zk_rg, ↓zk_get, ↓zk_set, Option.bind_some]
      rw [zk_bd (M3 I M (k := i) (by omega) (by omega)), zk_bd (M4 I M (k := i) (by omega) (by omega)), zk_bd (sm_power hn.1 hn.2), ih k _ _ (by omega) (by omega) (by omega) (by omega) (by omega)]
      simp only [pSm]
      congr 1
      omega
theorem sm_high (I : pI cl sz tn st dp tp va nb g) (M : pM cl sz dp tp va nb g w) {c : Int} (h0 : 0 ≤ c) (h1 : c < sz) : fn_Md_highest w c = some (pSm (fun j => va j + pw (nb j) - 1) c (be sz dp c - c).toNat) := by
  have hF := jk_F_big
  have hsz := I.1.2.1
  obtain ⟨⟨b1, b2⟩, -⟩ := be_r I h0 h1
  unfold fn_Md_highest
  rw [sm_high_b I M h0 h1 jk_F (be sz dp c - c).toNat 0 c (by omega) (by omega) (by omega) (by omega) (by omega)]
  simp
theorem sm_subs_b (I : pI cl sz tn st dp tp va nb g) (M : pM cl sz dp tp va nb g w) {c : Int} (h0 : 0 ≤ c) (h1 : c < sz) : ∀ (n k : Nat) (s i : Int), i + k = be sz dp c → 0 ≤ i → 0 ≤ s → s ≤ 1000 - (k : Int) → k < n → fn_Md_subsidiaries_b6 n w c s i = some (s + pCt (fun j => decide (dp j = dp c + 1)) i k) := by
  have hsz := I.1.2.1
  have hdc := (I.2.2 c h0 h1).2.1
  obtain ⟨⟨b1, b2⟩, -⟩ := be_r I h0 h1
  intro n
  induction n with
  | zero => intro k s i _ _ _ _ h; omega
  | succ n ih =>
    intro k s i hi h2 hs hs2 hk
    rw [fn_Md_subsidiaries_b6, zk_bd (sm_be I M h0 h1)]
    cases k with
    | zero => simp (disch := omega) only [↓zk_lt, ↓zk_nl, ↓zk_eq, ↓zk_ne, ↓zk_ix, ↓zk_dv, ↓zk_bo, ↓zk_rg, ↓zk_get, ↓zk_set, Option.bind_some]; simp [pCt]
    | succ k =>
      have hd := (I.2.2 i (by omega) (by omega)).2.1
      simp (disch := omega) only [↓zk_lt, ↓zk_nl, ↓zk_eq, ↓zk_ne, ↓zk_ix, ↓zk_dv, ↓zk_bo, ↓zk_rg, ↓zk_get, ↓zk_set, Option.bind_some]
      rw [zk_bd (M1 I M (k := i) (by omega) (by omega)), zk_bd (M1 I M h0 h1)]
      simp only [pCt]
      by_cases e : dp i = dp c + 1
      · simp (disch := omega) only [↓zk_lt, ↓zk_nl, ↓zk_eq, ↓zk_ne, ↓zk_ix, ↓zk_dv, ↓zk_bo, ↓zk_rg, ↓zk_get, ↓zk_set, Option.bind_some]
        rw [zk_bd sm_one1, ih k _ _ (by omega) (by omega) (by omega) (by omega) (by omega)]
        simp only [e, decide_true, if_true]
        congr 1
        omega
      · simp (disch := omega) only [↓zk_lt, ↓zk_nl, ↓zk_eq, ↓zk_ne, ↓zk_ix, ↓zk_dv, ↓zk_bo, ↓zk_rg, ↓zk_get, ↓zk_set, Option.bind_some]
        rw [zk_bd sm_one0, ih k _ _ (by omega) (by omega) (by omega) (by omega) (by omega)]
        simp [e]
theorem sm_subs (I : pI cl sz tn st dp tp va nb g) (M : pM cl sz dp tp va nb g w) {c : Int} (h0 : 0 ≤ c) (h1 : c < sz) : fn_Md_subsidiaries w c = some (pCt (fun j => decide (dp j = dp c + 1)) (c + 1) (be sz dp c - (c + 1)).toNat) := by
  have hF := jk_F_big
  have hsz := I.1.2.1
  obtain ⟨⟨b1, b2⟩, -⟩ := be_r I h0 h1
  unfold fn_Md_subsidiaries
  rw [sm_subs_b I M h0 h1 jk_F (be sz dp c - (c + 1)).toNat 0 (c + 1) (by omega) (by omega) (by omega) (by omega) (by omega)]
  simp
theorem sm_pen_b (I : pI cl sz tn st dp tp va nb g) (M : pM cl sz dp tp va nb g w) {c : Int} (h0 : 0 ≤ c) (h1 : c < cl) : ∀ (n k : Nat) (s i : Int), i + k = st (c + 1) → 0 ≤ i → 0 ≤ s → s ≤ 1000 - (k : Int) → k < n → fn_Md_pendants_b8 n w c s i = some (s + pCt (fun j => decide (dp j = 1)) i k) := by
  have hsz := I.1.2.1
  have s2 := pI_st I (c := c + 1) (by omega) (by omega)
  intro n
  induction n with
  | zero => intro k s i _ _ _ _ h; omega
  | succ n ih =>
    intro k s i hi h2 hs hs2 hk
    rw [fn_Md_pendants_b8, zk_bd (sm_end I M h0 h1)]
    cases k with
    | zero => simp (disch := omega) only [↓zk_lt, ↓zk_nl, ↓zk_eq, ↓zk_ne, ↓zk_ix, ↓zk_dv, ↓zk_bo, ↓zk_rg, ↓zk_get, ↓zk_set, Option.bind_some]; simp [pCt]
    | succ k =>
      have hd := (I.2.2 i (by omega) (by omega)).2.1
      simp (disch := omega) only [↓zk_lt, ↓zk_nl, ↓zk_eq, ↓zk_ne, ↓zk_ix, ↓zk_dv, ↓zk_bo, ↓zk_rg, ↓zk_get, ↓zk_set, Option.bind_some]
      rw [zk_bd (M1 I M (k := i) (by omega) (by omega))]
      simp only [pCt]
      by_cases e : dp i = 1
      · simp (disch := omega) only [↓zk_lt, ↓zk_nl, ↓zk_eq, ↓zk_ne, ↓zk_ix, ↓zk_dv, ↓zk_bo, ↓zk_rg, ↓zk_get, ↓zk_set, Option.bind_some]
        rw [zk_bd sm_one1, ih k _ _ (by omega) (by omega) (by omega) (by omega) (by omega)]
        simp only [e, decide_true, if_true]
        congr 1
        omega
      · simp (disch := omega) only [↓zk_lt, ↓zk_nl, ↓zk_eq, ↓zk_ne, ↓zk_ix, ↓zk_dv, ↓zk_bo, ↓zk_rg, ↓zk_get, ↓zk_set, Option.bind_some]
        rw [zk_bd sm_one0, ih k _ _ (by omega) (by omega) (by omega) (by omega) (by omega)]
        simp [e]
theorem sm_pen (I : pI cl sz tn st dp tp va nb g) (M : pM cl sz dp tp va nb g w) {c : Int} (h0 : 0 ≤ c) (h1 : c < cl) : fn_Md_pendants w c = some (pCt (fun j => decide (dp j = 1)) (st c) (st (c + 1) - st c).toNat) := by
  have hF := jk_F_big
  have hsz := I.1.2.1
  have s1 := pI_st I (c := c) h0 (by omega)
  have s2 := pI_st I (c := c + 1) (by omega) (by omega)
  have hm := I.2.1.2.2 c h0 h1
  unfold fn_Md_pendants
  rw [zk_bd (sm_first I M h0 (by omega)), sm_pen_b I M h0 h1 jk_F (st (c + 1) - st c).toNat 0 _ (by omega) (by omega) (by omega) (by omega) (by omega)]
  simp
theorem sm_wf_b (I : pI cl sz tn st dp tp va nb g) (M : pM cl sz dp tp va nb g w) {b : Int} (hb : b ≤ sz) : ∀ (n k : Nat) (i : Int), i + k = b → 0 ≤ i → k < n → fn_Md_isWholeFrom_b2 n w b i = some (if pCt (fun j => decide (0 < nb j)) i k = 0 then 1 else 0) := by
  have hsz := I.1.2.1
  intro n
  induction n with
  | zero => intro k i _ _ h; omega
  | succ n ih =>
    intro k i hi h2 hk
    rw [fn_Md_isWholeFrom_b2]
    cases k with
    | zero => simp (disch := omega) only [↓zk_lt, ↓zk_nl, ↓zk_eq, ↓zk_ne, ↓zk_ix, ↓zk_dv, ↓zk_bo, ↓zk_rg, ↓zk_get, ↓zk_set, Option.bind_some]; simp [pCt]
    | succ k =>
      have hr := pCt_r (p := fun j => decide (0 < nb j)) k (i + 1)
      simp (disch := omega) only [↓zk_lt, ↓zk_nl, ↓zk_eq, ↓zk_ne, ↓zk_ix, ↓zk_dv, ↓zk_bo, ↓zk_rg, ↓zk_get, ↓zk_set, Option.bind_some]
      rw [zk_bd (sm_isn I M (k := i) (by omega) (by omega))]
      simp only [pCt]
      by_cases e : 0 < nb i
      · rw [if_pos e]
        simp (disch := omega) only [↓zk_lt, ↓zk_nl, ↓zk_eq, ↓zk_ne, ↓zk_ix, ↓zk_dv, ↓zk_bo, ↓zk_rg, ↓zk_get, ↓zk_set, Option.bind_some]
        simp only [e, decide_true, if_true]
        rw [if_neg (by omega)]
      · rw [if_neg e]
        simp (disch := omega) only [↓zk_lt, ↓zk_nl, ↓zk_eq, ↓zk_ne, ↓zk_ix, ↓zk_dv, ↓zk_bo, ↓zk_rg, ↓zk_get, ↓zk_set, Option.bind_some]
        rw [ih k _ (by omega) (by omega) (by omega)]
        simp [e]
theorem sm_wf (I : pI cl sz tn st dp tp va nb g) (M : pM cl sz dp tp va nb g w) {a b : Int} (h0 : 0 ≤ a) (h1 : a ≤ b) (hb : b ≤ sz) : fn_Md_isWholeFrom w a b = some (if pCt (fun j => decide (0 < nb j)) a (b - a).toNat = 0 then 1 else 0) := by
  have hF := jk_F_big
  have hsz := I.1.2.1
  unfold fn_Md_isWholeFrom
  rw [sm_wf_b I M hb jk_F (b - a).toNat a (by omega) (by omega) (by omega)]
theorem sm_whole (I : pI cl sz tn st dp tp va nb g) (M : pM cl sz dp tp va nb g w) {c : Int} (h0 : 0 ≤ c) (h1 : c < sz) : fn_Md_isWhole w c = some (if pCt (fun j => decide (0 < nb j)) c (be sz dp c - c).toNat = 0 then 1 else 0) := by
  obtain ⟨⟨b1, b2⟩, -⟩ := be_r I h0 h1
  unfold fn_Md_isWhole
  rw [zk_bd (sm_be I M h0 h1), zk_bd (sm_wf I M h0 (by omega) b2)]
  by_cases e : pCt (fun j => decide (0 < nb j)) c (be sz dp c - c).toNat = 0
  · rw [if_pos e]; simp (disch := omega) only [↓zk_lt, ↓zk_nl, ↓zk_eq, ↓zk_ne, ↓zk_ix, ↓zk_dv, ↓zk_bo, ↓zk_rg, ↓zk_get, ↓zk_set, Option.bind_some]
  · rw [if_neg e]; simp (disch := omega) only [↓zk_lt, ↓zk_nl, ↓zk_eq, ↓zk_ne, ↓zk_ix, ↓zk_dv, ↓zk_bo, ↓zk_rg, ↓zk_get, ↓zk_set, Option.bind_some]
/-! the cord above -/
theorem pI_par (I : pI cl sz tn st dp tp va nb g) {k : Int} (h0 : 0 ≤ k) (h1 : k < sz) (h2 : 2 ≤ dp k) : ∀ (m : Nat), m ≤ k → (∀ i, k - m ≤ i → i < k → dp k ≤ dp i) → ∃ j, 0 ≤ j ∧ j < k - m ∧ dp j = dp k - 1 ∧ ∀ i, j < i → i < k → dp k ≤ dp i := by
  intro m
  induction h : (k - m).toNat generalizing m with
  | zero =>
    intro h3 h4
    obtain ⟨⟨a1, a2, a3, a4⟩, a5, -, -, -, -, a6, a7⟩ := I.2.2 (k - m) (by omega) (by omega)
    have hs := pI_st I (c := g (k - m)) a1 (by omega)
    have := a6 (by omega)
    by_cases x : m = 0
    · subst x
      have e : k = 0 := by omega
      have e2 : k - ((0 : Nat) : Int) = k := by omega
      rw [e2] at this
      omega
    · have := h4 (k - m) (by omega) (by omega)
      omega
  | succ r ih =>
    intro h3 h4
    have hk0 : 0 < k - m := by omega
    obtain ⟨⟨a1, a2, a3, a4⟩, a5, -, -, -, -, a6, a7⟩ := I.2.2 (k - m) (by omega) (by omega)
    have hge : dp k ≤ dp (k - m) := by
      by_cases x : m = 0
      · subst x; rw [show k - ((0 : Nat) : Int) = k by omega]; omega
      · exact h4 (k - m) (by omega) (by omega)
    have hst : st (g (k - m)) < k - m := by
      by_cases x : st (g (k - m)) = k - m
      · have := a6 x; omega
      · omega
    have h5 := a7 hst
    by_cases x : dp (k - m - 1) < dp k
    · refine ⟨k - m - 1, by omega, by omega, by omega, fun i h6 h7 => ?_⟩
      by_cases y : i = k
      · omega
      · exact h4 i (by omega) h7
    · obtain ⟨j, b1, b2, b3, b4⟩ := ih (m + 1) (by omega) (by omega) (fun i h6 h7 => by
        by_cases y : i = k - m - 1
        · rw [y]; omega
        · exact h4 i (by omega) h7)
      exact ⟨j, b1, by omega, b3, b4⟩
theorem sp_lad_b {dp : Int → Int} {a d j : Int} (hd : -100 ≤ d ∧ d ≤ 100) (ha : 0 ≤ a) (hj : a ≤ j) (hjd : dp j = d) : ∀ (n m : Nat) (i : Int), i = j + m → i < 40 → (∀ x, j < x → x ≤ i → ¬ dp x = d) → (∀ x, j ≤ x → x ≤ i → 0 ≤ dp x ∧ dp x ≤ 3) → m < n → fn_Cords_latestAtDepth_b5 n dp a d i = some j := by
  intro n
  induction n with
  | zero => intro m i _ _ _ _ h; omega
  | succ n ih =>
    intro m i hi h1 h2 h3 hm
    have hb := h3 i (by omega) (by omega)
    rw [fn_Cords_latestAtDepth_b5]
    cases m with
    | zero =>
      have e : i = j := by omega
      subst e
      simp (disch := omega) only [↓zk_lt, ↓zk_nl, ↓zk_eq, ↓zk_ne, ↓zk_ix, ↓zk_dv, ↓zk_bo, ↓zk_rg, ↓zk_get, ↓zk_set, Option.bind_some]
    | succ m =>
      have := h2 i (by omega) (by omega)
      simp (disch := omega) only [↓zk_lt, ↓zk_nl, ↓zk_eq, ↓zk_ne, ↓zk_ix, ↓zk_dv, ↓zk_bo, ↓zk_rg, ↓zk_get, ↓zk_set, Option.bind_some]
      exact ih m _ (by omega) (by omega) (fun x h4 h5 => h2 x h4 (by omega)) (fun x h4 h5 => h3 x h4 (by omega)) (by omega)
theorem sm_par_b (I : pI cl sz tn st dp tp va nb g) (M : pM cl sz dp tp va nb g w) {k j : Int} (h0 : 0 ≤ j) (h1 : j < k) (h2 : k < sz) (hj : dp j < dp k) : ∀ (n m : Nat) (i : Int), i = j + m → i < k → (∀ x, j < x → x ≤ i → dp k ≤ dp x) → m < n → fn_Md_parent_b16 n w k i = some j := by
  have hsz := I.1.2.1
  have hk := (I.2.2 k (by omega) h2).2.1
  intro n
  induction n with
  | zero => intro m i _ _ _ h; omega
  | succ n ih =>
    intro m i hi h3 h4 hm
    have hb := (I.2.2 i (by omega) (by omega)).2.1
    rw [fn_Md_parent_b16, zk_bd (M1 I M (k := i) (by omega) (by omega)), zk_bd (M1 I M (k := k) (by omega) h2)]
    cases m with
    | zero =>
      have e : i = j := by omega
      subst e
      simp (disch := omega) only [↓zk_lt, ↓zk_nl, ↓zk_eq, ↓zk_ne, ↓zk_ix, ↓zk_dv, ↓zk_bo, ↓zk_rg, ↓zk_get, ↓zk_set, Option.bind_some]
    | succ m =>
      have := h4 i (by omega) (by omega)
      simp (disch := omega) only [↓zk_lt, ↓zk_nl, ↓zk_eq, ↓zk_ne, ↓zk_ix, ↓zk_dv, ↓zk_bo, ↓zk_rg, ↓zk_get, ↓zk_set, Option.bind_some]
      exact ih m _ (by omega) (by omega) (fun x h5 h6 => h4 x h5 (by omega)) (by omega)
theorem par_both (I : pI cl sz tn st dp tp va nb g) (M : pM cl sz dp tp va nb g w) {k : Int} (h0 : 0 ≤ k) (h1 : k < sz) : ∃ r, fn_Cords_parent dp k = some r ∧ fn_Md_parent w k = some r ∧ jk_R r := by
  have hF := jk_F_big
  have hsz := I.1.2.1
  have hd := (I.2.2 k h0 h1).2.1
  unfold fn_Cords_parent fn_Md_parent
  rw [zk_bd (M1 I M h0 h1)]
  by_cases x : dp k ≤ 1
  · refine ⟨-1, ?_, ?_, by decide, by decide⟩
    · simp (disch := omega) only [↓zk_lt, ↓zk_nl, ↓zk_eq, ↓zk_ne, ↓zk_ix, ↓zk_dv, ↓zk_bo, ↓zk_rg, ↓zk_get, ↓zk_set, Option.bind_some]
    · simp (disch := omega) only [↓zk_lt, ↓zk_nl, ↓zk_eq, ↓zk_ne, ↓zk_ix, ↓zk_dv, ↓zk_bo, ↓zk_rg, ↓zk_get, ↓zk_set, Option.bind_some]
  · obtain ⟨j, b1, b2, b3, b4⟩ := pI_par I h0 h1 (by omega) 0 (by omega) (fun i h3 h4 => by omega)
    refine ⟨j, ?_, ?_, by omega, by omega⟩
    · simp (disch := omega) only [↓zk_lt, ↓zk_nl, ↓zk_eq, ↓zk_ne, ↓zk_ix, ↓zk_dv, ↓zk_bo, ↓zk_rg, ↓zk_get, ↓zk_set, Option.bind_some]
      unfold fn_Cords_latestAtDepth
      rw [sp_lad_b (j := j) (by omega) (by omega) (by omega) b3 jk_F (k - 1 - j).toNat (k - 1) (by omega) (by omega) (fun x h3 h4 => by have := b4 x h3 (by omega); omega) (fun x h3 h4 => (I.2.2 x (by omega) (by omega)).2.1) (by omega)]
      rfl
    · simp (disch := omega) only [↓zk_lt, ↓zk_nl, ↓zk_eq, ↓zk_ne, ↓zk_ix, ↓zk_dv, ↓zk_bo, ↓zk_rg, ↓zk_get, ↓zk_set, Option.bind_some]
      exact sm_par_b I M b1 (by omega) h1 (by omega) jk_F (k - 1 - j).toNat (k - 1) (by omega) (by omega) (fun x h3 h4 => b4 x h3 (by omega)) (by omega)
end P4
