/-! the checks of consistency: all hold -/
theorem pSm_up {f : Int → Int} {k v : Int} : ∀ (m : Nat) (i : Int), pSm (jk_up f k v) i m = if i ≤ k ∧ k < i + m then pSm f i m - f k + v else pSm f i m := by
  intro m
  induction m with
  | zero => intro i; rw [if_neg (by omega)]; rfl
  | succ m ih =>
    intro i
    simp only [pSm]
    rw [ih (i + 1)]
    by_cases e : i = k
    · rw [up_eq e, if_neg (by omega), if_pos (by omega), e]; omega
    · rw [up_ne e]
      by_cases h : i + 1 ≤ k ∧ k < i + 1 + m
      · rw [if_pos h, if_pos (by omega)]; omega
      · rw [if_neg h, if_neg (by omega)]
theorem pCt_up {f : Int → Int} {k : Int} (hk : 0 < f k) : ∀ (m : Nat) (i : Int), pCt (fun j => decide (0 < jk_up f k 0 j)) i m = if i ≤ k ∧ k < i + m then pCt (fun j => decide (0 < f j)) i m - 1 else pCt (fun j => decide (0 < f j)) i m := by
  intro m
  induction m with
  | zero => intro i; rw [if_neg (by omega)]; rfl
  | succ m ih =>
    intro i
    simp only [pCt]
    rw [ih (i + 1)]
    by_cases e : i = k
    · have d1 : decide (0 < jk_up f k 0 i) = false := decide_eq_false (by rw [up_eq e]; omega)
      have d2 : decide (0 < f i) = true := decide_eq_true (by rw [e]; exact hk)
      rw [if_neg (show ¬ decide (0 < jk_up f k 0 i) = true by rw [d1]; simp), if_neg (show ¬ (i + 1 ≤ k ∧ k < i + 1 + (m : Int)) by omega), if_pos (show i ≤ k ∧ k < i + ((m + 1 : Nat) : Int) by omega), if_pos d2]
      omega
    · have d1 : decide (0 < jk_up f k 0 i) = decide (0 < f i) := decide_eq_decide.mpr (by rw [up_ne e])
      simp only [d1]
      by_cases h : i + 1 ≤ k ∧ k < i + 1 + (m : Int)
      · rw [if_pos h, if_pos (show i ≤ k ∧ k < i + ((m + 1 : Nat) : Int) by omega)]; omega
      · rw [if_neg h, if_neg (show ¬ (i ≤ k ∧ k < i + ((m + 1 : Nat) : Int)) by omega)]
theorem lh {va nb : Int → Int} : ∀ (m : Nat) (i : Int), (∀ j, i ≤ j → j < i + m → 0 ≤ nb j ∧ nb j ≤ 4) → (pCt (fun j => decide (0 < nb j)) i m = 0 → pSm (fun j => va j + pw (nb j) - 1) i m = pSm va i m) ∧ (¬ pCt (fun j => decide (0 < nb j)) i m = 0 → pSm va i m < pSm (fun j => va j + pw (nb j) - 1) i m) := by
  intro m
  induction m with
  | zero => intro i _; exact ⟨fun _ => rfl, fun h => absurd rfl h⟩
  | succ m ih =>
    intro i h
    have hi := h i (by omega) (by omega)
    have h1 := ih (i + 1) (fun j h3 h4 => h j (by omega) (by omega))
    have hr := pCt_r (p := fun j => decide (0 < nb j)) m (i + 1)
    simp only [pSm, pCt]
    have hp := pw_c hi.1 hi.2
    by_cases e : 0 < nb i
    · simp only [e, decide_true, if_true]
      refine ⟨fun z => by omega, fun _ => ?_⟩
      by_cases z : pCt (fun j => decide (0 < nb j)) (i + 1) m = 0
      · have := h1.1 z; omega
      · have := h1.2 z; omega
    · simp only [e, decide_false]
      refine ⟨fun z => ?_, fun z => ?_⟩
      · have := h1.1 (by simpa using z); omega
      · have := h1.2 (by simpa using z); omega
section PE
variable {cl sz tn : Int} {st dp tp va nb g w : Int → Int}
def pT (sz : Int) (dp va : Int → Int) (k : Int) : Int := pSm va k (be sz dp k - k).toNat
/-- a row of branches: each ends where the next of its depth begins -/
def pRow (sz : Int) (dp : Int → Int) (D a e : Int) : Prop := ((a < e → dp a = D) ∧ 0 ≤ a ∧ a ≤ e ∧ e ≤ sz) ∧ ∀ i, a ≤ i → i < e → dp i = D → (i < be sz dp i ∧ be sz dp i ≤ e) ∧ (be sz dp i < e → dp (be sz dp i) = D) ∧ ∀ j, i < j → j < be sz dp i → ¬ dp j = D
theorem row_below (I : pI cl sz tn st dp tp va nb g) {k : Int} (h0 : 0 ≤ k) (h1 : k < sz) : pRow sz dp (dp k + 1) (k + 1) (be sz dp k) := by
  obtain ⟨⟨b1, b2⟩, b3, b4⟩ := be_r I h0 h1
  refine ⟨⟨fun h => ?_, by omega, by omega, b2⟩, fun i h2 h3 h4 => ?_⟩
  · have h5 := b3 (k + 1) (by omega) h
    have hg := be_g I h0 h1 (j := k + 1) (by omega) h
    obtain ⟨⟨a1, a2, a3, a4⟩, -⟩ := I.2.2 k h0 h1
    obtain ⟨-, -, -, -, -, -, c1, c2⟩ := I.2.2 (k + 1) (by omega) (by omega)
    rw [hg] at c2
    have := c2 (by omega)
    rw [show k + 1 - 1 = k by omega] at this
    omega
  · obtain ⟨⟨d1, d2⟩, d3, d4⟩ := be_r I (k := i) (by omega) (by omega)
    have hle : be sz dp i ≤ be sz dp k := by
      by_cases x : be sz dp i ≤ be sz dp k
      · exact x
      · have h6 := d3 (be sz dp k) (by omega) (by omega)
        have h7 := b3 i (by omega) h3
        have := b4 h7.2 (by omega)
        omega
    refine ⟨⟨d1, hle⟩, fun h => ?_, fun j h5 h6 => ?_⟩
    · have h7 := b3 (be sz dp i) (by omega) h
      have h8 := b3 i (by omega) h3
      have := d4 (by omega) (by omega)
      omega
    · have := d3 j h5 h6
      omega
theorem row_pend (I : pI cl sz tn st dp tp va nb g) {c : Int} (h0 : 0 ≤ c) (h1 : c < cl) : pRow sz dp 1 (st c + ht st dp c) (st (c + 1)) := by
  have s1 := pI_st I (c := c) h0 (by omega)
  have s2 := pI_st I (c := c + 1) (by omega) (by omega)
  have hl := ht_le I h0 h1
  have hh := ht_r (st := st) (dp := dp) c
  have hin : ∀ i, st c < i → i < st (c + 1) → 1 ≤ dp i ∧ dp i ≤ dp (i - 1) + 1 := fun i h2 h3 => by
    have hg := pI_g I (c := c) (k := i) h0 h1 (by omega) h3
    obtain ⟨-, -, -, -, -, -, -, c2⟩ := I.2.2 i (by omega) (by omega)
    exact c2 (by rw [hg]; exact h2)
  refine ⟨⟨fun h => ?_, by omega, by omega, by omega⟩, fun i h2 h3 h4 => ?_⟩
  · rcases hh with y | y
    · rw [y] at h ⊢
      rw [Int.add_zero] at h ⊢
      have hg := pI_g I (c := c) (k := st c) h0 h1 (by omega) h
      obtain ⟨-, c0, -, -, -, -, c1, -⟩ := I.2.2 (st c) (by omega) (by omega)
      have := c1 (by rw [hg])
      have h4 : ¬ dp (st c) = 0 := fun q => by
        unfold ht at y
        rw [if_pos ⟨h, q⟩] at y
        omega
      omega
    · have h5 := ht_1 y
      rw [y] at h ⊢
      have := hin (st c + 1) (by omega) h
      rw [show st c + 1 - 1 = st c by omega] at this
      omega
  · obtain ⟨⟨d1, d2⟩, d3, d4⟩ := be_r I (k := i) (by omega) (by omega)
    have hg := pI_g I (c := c) (k := i) h0 h1 (by omega) h3
    have hle := be_le I (k := i) (by omega) (by omega)
    rw [hg] at hle
    refine ⟨⟨d1, hle⟩, fun h => ?_, fun j h5 h6 => ?_⟩
    · have h7 := hin (be sz dp i) (by omega) h
      have := d4 (by omega) (by omega)
      omega
    · have := d3 j h5 h6
      omega
theorem row_add {D a e s0 c : Int} (R : pRow sz dp D a e) (h0 : a ≤ c) (h1 : c < e) (h2 : dp c = D) : s0 + pSm va a (c - a).toNat + pT sz dp va c = s0 + pSm va a (be sz dp c - a).toNat := by
  obtain ⟨⟨b1, b2⟩, -⟩ := R.2 c h0 h1 h2
  unfold pT
  rw [show (be sz dp c - a).toNat = (c - a).toNat + (be sz dp c - c).toNat by omega, pSm_add, show a + ((c - a).toNat : Int) = c by omega]
  omega
theorem sp_tbr_b (I : pI cl sz tn st dp tp va nb g) {d a e s0 : Int} (hd : -1 ≤ d ∧ d ≤ 3) (R : pRow sz dp (d + 1) a e) {rc : Int → (Int → Int) → (Int → Int) → Int → Int → Option Int} (hrc : ∀ i, a ≤ i → i < e → dp i = d + 1 → rc sz dp va i (d + 1) = some (pT sz dp va i)) :
    ∀ (n m : Nat) (s i c : Int), i + m = e → a ≤ i → i ≤ c → c ≤ e → (∀ j, i ≤ j → j < c → ¬ dp j = d + 1) → (c < e → dp c = d + 1) → s = s0 + pSm va a (c - a).toNat → m < n → fn_Check_totalByRecursion_b28 rc n sz dp va d s e i = some (s0 + pSm va a (e - a).toNat) := by
  have hsz := I.1.2.1
  have hR := R.1
  intro n
  induction n with
  | zero => intro m s i c _ _ _ _ _ _ _ h; omega
  | succ n ih =>
    intro m s i c hi h0 h1 h2 h3 h4 hs hm
    rw [fn_Check_totalByRecursion_b28]
    cases m with
    | zero =>
      (try simp (disch := omega) only [↓zk_lt, ↓zk_nl, ↓zk_eq, ↓zk_ne, ↓zk_ix, ↓zk_dv, ↓zk_bo, ↓zk_rg, ↓zk_get, ↓zk_set, Option.bind_some])
      rw [hs, show c = e by omega]
    | succ m =>
      have hdi := (I.2.2 i (by omega) (by omega)).2.1
      (try simp (disch := omega) only [↓zk_lt, ↓zk_nl, ↓zk_eq, ↓zk_ne, ↓zk_ix, ↓zk_dv, ↓zk_bo, ↓zk_rg, ↓zk_get, ↓zk_set, Option.bind_some])
      by_cases x : i < c
      · have := h3 i (by omega) x
        (try simp (disch := omega) only [↓zk_lt, ↓zk_nl, ↓zk_eq, ↓zk_ne, ↓zk_ix, ↓zk_dv, ↓zk_bo, ↓zk_rg, ↓zk_get, ↓zk_set, Option.bind_some])
        exact ih m s (i + 1) c (by omega) (by omega) (by omega) h2 (fun j h5 h6 => h3 j (by omega) h6) h4 hs (by omega)
      · have hic : i = c := by omega
        subst hic
        have hD := h4 (by omega)
        obtain ⟨⟨b1, b2⟩, b3, b4⟩ := R.2 i h0 (by omega) hD
        (try simp (disch := omega) only [↓zk_lt, ↓zk_nl, ↓zk_eq, ↓zk_ne, ↓zk_ix, ↓zk_dv, ↓zk_bo, ↓zk_rg, ↓zk_get, ↓zk_set, Option.bind_some])
        rw [zk_bd (hrc i h0 (by omega) hD)]
        exact ih m _ (i + 1) (be sz dp i) (by omega) (by omega) (by omega) b2 (fun j h5 h6 => b4 j (by omega) h6) b3 (by rw [hs]; exact row_add R h0 (by omega) hD) (by omega)
theorem pT_deep (I : pI cl sz tn st dp tp va nb g) {k : Int} (h0 : 0 ≤ k) (h1 : k < sz) (h : 3 ≤ dp k) : pT sz dp va k = va k := by
  obtain ⟨⟨b1, b2⟩, b3, b4⟩ := be_r I h0 h1
  have e : be sz dp k = k + 1 := by
    by_cases x : be sz dp k = k + 1
    · exact x
    · have h2 := b3 (k + 1) (by omega) (by omega)
      have := (I.2.2 (k + 1) (by omega) (by omega)).2.1
      omega
  unfold pT
  rw [e, show (k + 1 - k).toNat = 1 by omega]
  simp [pSm]
theorem pT_row {k : Int} (h : k < be sz dp k) : pT sz dp va k = va k + pSm va (k + 1) (be sz dp k - (k + 1)).toNat := by
  unfold pT
  rw [show (be sz dp k - k).toNat = (be sz dp k - (k + 1)).toNat + 1 by omega]
  rfl
theorem sp_tbr (I : pI cl sz tn st dp tp va nb g) : ∀ (f : Nat) (k : Int), 0 ≤ k → k < sz → 3 - dp k < f → fn_Check_totalByRecursion f sz dp va k (dp k) = some (pT sz dp va k) := by
  have hF := jk_F_big
  have hsz := I.1.2.1
  intro f
  induction f with
  | zero => intro k h0 h1 h; have := (I.2.2 k h0 h1).2.1; omega
  | succ f ih =>
    intro k h0 h1 h
    have hd := (I.2.2 k h0 h1).2.1
    obtain ⟨⟨b1, b2⟩, b3, b4⟩ := be_r I h0 h1
    rw [fn_Check_totalByRecursion]
    (try simp (disch := omega) only [↓zk_lt, ↓zk_nl, ↓zk_eq, ↓zk_ne, ↓zk_ix, ↓zk_dv, ↓zk_bo, ↓zk_rg, ↓zk_get, ↓zk_set, Option.bind_some])
    by_cases x : dp k < 3
    · (try simp (disch := omega) only [↓zk_lt, ↓zk_nl, ↓zk_eq, ↓zk_ne, ↓zk_ix, ↓zk_dv, ↓zk_bo, ↓zk_rg, ↓zk_get, ↓zk_set, Option.bind_some])
      rw [zk_bd (sp_be I h0 h1)]
      have R := row_below I h0 h1
      rw [sp_tbr_b I (s0 := va k) (a := k + 1) (e := be sz dp k) (d := dp k) (by omega) R (fun i h2 h3 h4 => by
        have := ih i (by omega) (by omega) (by omega)
        rw [h4] at this
        exact this) jk_F (be sz dp k - (k + 1)).toNat (va k) (k + 1) (k + 1) (by omega) (by omega) (by omega) (by omega) (fun j h2 h3 => by omega) R.1.1 (by simp [pSm]) (by omega)]
      rw [pT_row b1]
    · (try simp (disch := omega) only [↓zk_lt, ↓zk_nl, ↓zk_eq, ↓zk_ne, ↓zk_ix, ↓zk_dv, ↓zk_bo, ↓zk_rg, ↓zk_get, ↓zk_set, Option.bind_some])
      rw [pT_deep I h0 h1 (by omega)]
theorem sp_sbr_b (I : pI cl sz tn st dp tp va nb g) {a e : Int} (R : pRow sz dp 1 a e) :
    ∀ (n m : Nat) (s i c : Int), i + m = e → a ≤ i → i ≤ c → c ≤ e → (∀ j, i ≤ j → j < c → ¬ dp j = 1) → (c < e → dp c = 1) → s = 0 + pSm va a (c - a).toNat → m < n → fn_Check_sumByRecursion_b15 n sz dp va s e i = some (0 + pSm va a (e - a).toNat) := by
  have hsz := I.1.2.1
  have hR := R.1
  intro n
  induction n with
  | zero => intro m s i c _ _ _ _ _ _ _ h; omega
  | succ n ih =>
    intro m s i c hi h0 h1 h2 h3 h4 hs hm
    rw [fn_Check_sumByRecursion_b15]
    cases m with
    | zero =>
      (try simp (disch := omega) only [↓zk_lt, ↓zk_nl, ↓zk_eq, ↓zk_ne, ↓zk_ix, ↓zk_dv, ↓zk_bo, ↓zk_rg, ↓zk_get, ↓zk_set, Option.bind_some])
      rw [hs, show c = e by omega]
    | succ m =>
      have hdi := (I.2.2 i (by omega) (by omega)).2.1
      (try simp (disch := omega) only [↓zk_lt, ↓zk_nl, ↓zk_eq, ↓zk_ne, ↓zk_ix, ↓zk_dv, ↓zk_bo, ↓zk_rg, ↓zk_get, ↓zk_set, Option.bind_some])
      by_cases x : i < c
      · have := h3 i (by omega) x
        (try simp (disch := omega) only [↓zk_lt, ↓zk_nl, ↓zk_eq, ↓zk_ne, ↓zk_ix, ↓zk_dv, ↓zk_bo, ↓zk_rg, ↓zk_get, ↓zk_set, Option.bind_some])
        exact ih m s (i + 1) c (by omega) (by omega) (by omega) h2 (fun j h5 h6 => h3 j (by omega) h6) h4 hs (by omega)
      · have hic : i = c := by omega
        subst hic
        have hD := h4 (by omega)
        obtain ⟨⟨b1, b2⟩, b3, b4⟩ := R.2 i h0 (by omega) hD
        have ht := sp_tbr I 8 i (by omega) (by omega) (by omega)
        rw [hD] at ht
        (try simp (disch := omega) only [↓zk_lt, ↓zk_nl, ↓zk_eq, ↓zk_ne, ↓zk_ix, ↓zk_dv, ↓zk_bo, ↓zk_rg, ↓zk_get, ↓zk_set, Option.bind_some])
        rw [zk_bd ht]
        exact ih m _ (i + 1) (be sz dp i) (by omega) (by omega) (by omega) b2 (fun j h5 h6 => b4 j (by omega) h6) b3 (by rw [hs]; exact row_add R h0 (by omega) hD) (by omega)
theorem sp_sbr (I : pI cl sz tn st dp tp va nb g) {c : Int} (h0 : 0 ≤ c) (h1 : c < cl) : fn_Check_sumByRecursion sz st dp va c = some (ks st dp va c) := by
  have hF := jk_F_big
  have hsz := I.1.2.1
  have s1 := pI_st I (c := c) h0 (by omega)
  have s2 := pI_st I (c := c + 1) (by omega) (by omega)
  have hl := ht_le I h0 h1
  have hh := ht_r (st := st) (dp := dp) c
  have R := row_pend I h0 h1
  have key := fun n (hn : 100 < n) => sp_sbr_b I R n (st (c + 1) - (st c + ht st dp c)).toNat 0 (st c + ht st dp c) (st c + ht st dp c) (by omega) (by omega) (by omega) (by omega) (fun j h2 h3 => by omega) R.1.1 (by simp [pSm]) (by omega)
  unfold fn_Check_sumByRecursion
  rw [zk_bd (sp_end I h0 h1), zk_bd (sp_start I h0 (by omega))]
  have fin : some (0 + pSm va (st c + ht st dp c) (st (c + 1) - (st c + ht st dp c)).toNat) = some (ks st dp va c) := by unfold ks; simp
  rcases hh with y | y
  · have k := key jk_F (by omega)
    rw [y, Int.add_zero] at k
    rw [y, Int.add_zero] at fin
    rw [k, fin]
  · have h5 := ht_1 y
    have k := key 99999 (by omega)
    rw [show jk_F = 99999 + 1 from rfl, fn_Check_sumByRecursion_b15]
    (try simp (disch := omega) only [↓zk_lt, ↓zk_nl, ↓zk_eq, ↓zk_ne, ↓zk_ix, ↓zk_dv, ↓zk_bo, ↓zk_rg, ↓zk_get, ↓zk_set, Option.bind_some])
    rw [y] at k fin
    rw [k, fin]
/-! the reference's sums -/
theorem sm_tb_b (I : pI cl sz tn st dp tp va nb g) (M : pM cl sz dp tp va nb g w) {k : Int} (h0 : 0 ≤ k) (h1 : k < sz) {rc : (Int → Int) → Int → Option Int} (hrc : ∀ i, k < i → i < be sz dp k → dp i = dp k + 1 → rc w i = some (pT sz dp va i)) :
    ∀ (n m : Nat) (s i : Int), be sz dp k - i ≤ m → k + 1 ≤ i → i ≤ be sz dp k → (i < be sz dp k → dp i = dp k + 1) → s = va k + pSm va (k + 1) (i - (k + 1)).toNat → m < n → fn_Md_totalBelow_b11 rc n w k s i = some (va k + pSm va (k + 1) (be sz dp k - (k + 1)).toNat) := by
  have hsz := I.1.2.1
  have R := row_below I h0 h1
  obtain ⟨⟨b1, b2⟩, -⟩ := be_r I h0 h1
  intro n
  induction n with
  | zero => intro m s i _ _ _ _ _ h; omega
  | succ n ih =>
    intro m s i hm h2 h3 h4 hs hn
    rw [fn_Md_totalBelow_b11, zk_bd (sm_be I M h0 h1)]
    by_cases x : i < be sz dp k
    · have hD := h4 x
      obtain ⟨⟨c1, c2⟩, c3, -⟩ := R.2 i h2 x hD
      (try simp (disch := omega) only [↓zk_lt, ↓zk_nl, ↓zk_eq, ↓zk_ne, ↓zk_ix, ↓zk_dv, ↓zk_bo, ↓zk_rg, ↓zk_get, ↓zk_set, Option.bind_some])
      rw [zk_bd (hrc i (by omega) x hD), zk_bd (sm_be I M (k := i) (by omega) (by omega))]
      exact ih (m - 1) _ _ (by omega) (by omega) c2 c3 (by rw [hs]; exact row_add R h2 x hD) (by omega)
    · (try simp (disch := omega) only [↓zk_lt, ↓zk_nl, ↓zk_eq, ↓zk_ne, ↓zk_ix, ↓zk_dv, ↓zk_bo, ↓zk_rg, ↓zk_get, ↓zk_set, Option.bind_some])
      rw [hs, show i = be sz dp k by omega]
theorem sm_tb (I : pI cl sz tn st dp tp va nb g) (M : pM cl sz dp tp va nb g w) : ∀ (f : Nat) (k : Int), 0 ≤ k → k < sz → 3 - dp k < f → fn_Md_totalBelow f w k = some (pT sz dp va k) := by
  have hF := jk_F_big
  have hsz := I.1.2.1
  intro f
  induction f with
  | zero => intro k h0 h1 h; have := (I.2.2 k h0 h1).2.1; omega
  | succ f ih =>
    intro k h0 h1 h
    obtain ⟨⟨b1, b2⟩, -⟩ := be_r I h0 h1
    have R := row_below I h0 h1
    rw [fn_Md_totalBelow, zk_bd (M3 I M h0 h1), sm_tb_b I M h0 h1 (fun i h2 h3 h4 => ih i (by omega) (by omega) (by omega)) jk_F 100 (va k) (k + 1) (by omega) (by omega) (by omega) R.1.1 (by simp [pSm]) (by omega), pT_row b1]
end PE
