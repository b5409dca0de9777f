/-! sums, counts, first places -/
def pSm (f : Int → Int) (i : Int) : Nat → Int
  | 0 => 0
  | k + 1 => f i + pSm f (i + 1) k
def pCt (p : Int → Bool) (i : Int) : Nat → Int
  | 0 => 0
  | k + 1 => (if p i = true then 1 else 0) + pCt p (i + 1) k
def pFi (p : Int → Bool) (i : Int) : Nat → Int
  | 0 => i
  | k + 1 => if p i = true then i else pFi p (i + 1) k
theorem pSm_r {f : Int → Int} {B : Int} : ∀ (k : Nat) (i : Int), (∀ j, i ≤ j → j < i + k → 0 ≤ f j ∧ f j ≤ B) → 0 ≤ pSm f i k ∧ pSm f i k ≤ B * k := by
  intro k
  induction k with
  | zero => intro i _; simp [pSm]
  | succ k ih =>
    intro i h
    have h1 := h i (by omega) (by omega)
    have h2 := ih (i + 1) (fun j h3 h4 => h j (by omega) (by omega))
    have h5 : B * ((k + 1 : Nat) : Int) = B * (k : Int) + B := by rw [Int.natCast_add, Int.mul_add]; simp
    simp only [pSm]
    omega
theorem pSm_c {f g : Int → Int} : ∀ (k : Nat) (i : Int), (∀ j, i ≤ j → j < i + k → f j = g j) → pSm f i k = pSm g i k := by
  intro k
  induction k with
  | zero => intro i _; rfl
  | succ k ih =>
    intro i h
    simp only [pSm]
    rw [h i (by omega) (by omega), ih (i + 1) (fun j h3 h4 => h j (by omega) (by omega))]
theorem pSm_add {f : Int → Int} : ∀ (k m : Nat) (i : Int), pSm f i (k + m) = pSm f i k + pSm f (i + k) m := by
  intro k
  induction k with
  | zero => intro m i; simp [pSm]
  | succ k ih =>
    intro m i
    rw [show k + 1 + m = (k + m) + 1 by omega]
    simp only [pSm]
    rw [ih, show i + 1 + (k : Int) = i + ((k + 1 : Nat) : Int) by omega]
    omega
theorem pCt_r {p : Int → Bool} : ∀ (k : Nat) (i : Int), 0 ≤ pCt p i k ∧ pCt p i k ≤ k := by
  intro k
  induction k with
  | zero => intro i; simp [pCt]
  | succ k ih =>
    intro i
    have := ih (i + 1)
    simp only [pCt]
    split <;> omega
theorem pCt_c {p q : Int → Bool} : ∀ (k : Nat) (i : Int), (∀ j, i ≤ j → j < i + k → p j = q j) → pCt p i k = pCt q i k := by
  intro k
  induction k with
  | zero => intro i _; rfl
  | succ k ih =>
    intro i h
    simp only [pCt]
    rw [h i (by omega) (by omega), ih (i + 1) (fun j h3 h4 => h j (by omega) (by omega))]
theorem pCt_add {p : Int → Bool} : ∀ (k m : Nat) (i : Int), pCt p i (k + m) = pCt p i k + pCt p (i + k) m := by
  intro k
  induction k with
  | zero => intro m i; simp [pCt]
  | succ k ih =>
    intro m i
    rw [show k + 1 + m = (k + m) + 1 by omega]
    simp only [pCt]
    rw [ih, show i + 1 + (k : Int) = i + ((k + 1 : Nat) : Int) by omega]
    omega
theorem pCt_0 {p : Int → Bool} : ∀ (k : Nat) (i : Int), pCt p i k = 0 → ∀ j, i ≤ j → j < i + k → p j = false := by
  intro k
  induction k with
  | zero => intro i _ j h1 h2; omega
  | succ k ih =>
    intro i h j h1 h2
    have hr := pCt_r (p := p) k (i + 1)
    simp only [pCt] at h
    by_cases e : p i = true
    · rw [if_pos e] at h; omega
    · rw [if_neg e] at h
      by_cases ej : j = i
      · subst ej; simpa using e
      · exact ih (i + 1) (by omega) j (by omega) (by omega)
theorem pCt_z {p : Int → Bool} : ∀ (k : Nat) (i : Int), (∀ j, i ≤ j → j < i + k → p j = false) → pCt p i k = 0 := by
  intro k
  induction k with
  | zero => intro i _; rfl
  | succ k ih =>
    intro i h
    simp only [pCt]
    rw [h i (by omega) (by omega), ih (i + 1) (fun j h3 h4 => h j (by omega) (by omega))]
    simp
theorem pFi_r {p : Int → Bool} : ∀ (k : Nat) (i : Int), 0 < pCt p i k → (i ≤ pFi p i k ∧ pFi p i k < i + k) ∧ p (pFi p i k) = true ∧ ∀ j, i ≤ j → j < pFi p i k → p j = false := by
  intro k
  induction k with
  | zero => intro i h; simp [pCt] at h
  | succ k ih =>
    intro i h
    simp only [pCt] at h
    simp only [pFi]
    by_cases e : p i = true
    · simp only [if_pos e]
      exact ⟨⟨by omega, by omega⟩, e, fun j h1 h2 => by omega⟩
    · simp only [if_neg e] at h ⊢
      obtain ⟨⟨h1, h2⟩, h3, h4⟩ := ih (i + 1) (by omega)
      refine ⟨⟨by omega, by omega⟩, h3, fun j h5 h6 => ?_⟩
      by_cases ej : j = i
      · subst ej; simpa using e
      · exact h4 j (by omega) h6
theorem pFi_c {p q : Int → Bool} : ∀ (k : Nat) (i : Int), (∀ j, i ≤ j → j < i + k → p j = q j) → pFi p i k = pFi q i k := by
  intro k
  induction k with
  | zero => intro i _; rfl
  | succ k ih =>
    intro i h
    simp only [pFi]
    rw [h i (by omega) (by omega), ih (i + 1) (fun j h3 h4 => h j (by omega) (by omega))]
/-! the system's loops -/
theorem sp_low_b {va : Int → Int} {b : Int} (hb : b ≤ 40) : ∀ (n k : Nat) (s i : Int), i + k = b → 0 ≤ i → (∀ j, i ≤ j → j < b → 0 ≤ va j ∧ va j ≤ 9999) → 0 ≤ s → s ≤ 1000000 - 20000 * (k : Int) → k < n → fn_Cords_lowestSum_b5 n va b s i = some (s + pSm va i k) := by
  intro n
  induction n with
  | zero => intro k s i _ _ _ _ _ h; omega
  | succ n ih =>
    intro k s i hi h0 hv hs hs2 hk
    cases k with
    | zero =>
      rw [fn_Cords_lowestSum_b5]
      simp (disch := omega) only [↓zk_lt, ↓zk_nl, ↓zk_eq, ↓zk_ne, ↓zk_ix, ↓zk_dv, ↓zk_bo, ↓zk_rg, ↓zk_get, ↓zk_set, Option.bind_some]
      simp [pSm]
    | succ k =>
      have h1 := hv i (by omega) (by omega)
      rw [fn_Cords_lowestSum_b5]
      simp (disch := omega) only [↓zk_lt, ↓zk_nl, ↓zk_eq, ↓zk_ne, ↓zk_ix, ↓zk_dv, ↓zk_bo, ↓zk_rg, ↓zk_get, ↓zk_set, Option.bind_some]
      rw [ih k _ _ (by omega) (by omega) (fun j h2 h3 => hv j (by omega) (by omega)) (by omega) (by omega) (by omega)]
      simp only [pSm]
      congr 1
      omega
theorem sp_low {va : Int → Int} {a b : Int} (h0 : 0 ≤ a) (h1 : a ≤ b) (hb : b ≤ 40) (hv : ∀ j, a ≤ j → j < b → 0 ≤ va j ∧ va j ≤ 9999) : fn_Cords_lowestSum va a b = some (pSm va a (b - a).toNat) := by
  have hF := jk_F_big
  unfold fn_Cords_lowestSum
  rw [sp_low_b hb jk_F (b - a).toNat 0 a (by omega) h0 hv (by omega) (by omega) (by omega)]
  simp
theorem sp_high_b {va nb : Int → Int} {b : Int} (hb : b ≤ 40) : ∀ (n k : Nat) (s i : Int), i + k = b → 0 ≤ i → (∀ j, i ≤ j → j < b → (0 ≤ va j ∧ va j ≤ 9999) ∧ (0 ≤ nb j ∧ nb j ≤ 4)) → 0 ≤ s → s ≤ 1000000 - 20000 * (k : Int) → k < n → fn_Cords_highestSum_b5 n va nb b s i = some (s + pSm (fun j => va j + pw (nb j) - 1) i k) := by
  intro n
  induction n with
  | zero => intro k s i _ _ _ _ _ h; omega
  | succ n ih =>
    intro k s i hi h0 hv hs hs2 hk
    cases k with
    | zero =>
      rw [fn_Cords_highestSum_b5]
      simp (disch := omega) only [↓zk_lt, ↓zk_nl, ↓zk_eq, ↓zk_ne, ↓zk_ix, ↓zk_dv, ↓zk_bo, ↓zk_rg, ↓zk_get, ↓zk_set, Option.bind_some]
      simp [pSm]
    | succ k =>
      have h1 := hv i (by omega) (by omega)
      have h4 := pw_pos h1.2.1 h1.2.2
      rw [fn_Cords_highestSum_b5]
      simp (disch := omega) only [↓zk_lt, ↓zk_nl, ↓zk_eq, ↓zk_ne, ↓zk_ix, ↓zk_dv, ↓zk_bo, ↓zk_rg, ↓zk_get, ↓zk_set, Option.bind_some]
      rw [zk_bd (sp_power h1.2.1 h1.2.2)]
      rw [ih k _ _ (by omega) (by omega) (fun j h2 h3 => hv j (by omega) (by omega)) (by omega) (by omega) (by omega)]
      simp only [pSm]
      congr 1
      omega
theorem sp_high {va nb : Int → Int} {a b : Int} (h0 : 0 ≤ a) (h1 : a ≤ b) (hb : b ≤ 40) (hv : ∀ j, a ≤ j → j < b → (0 ≤ va j ∧ va j ≤ 9999) ∧ (0 ≤ nb j ∧ nb j ≤ 4)) : fn_Cords_highestSum va nb a b = some (pSm (fun j => va j + pw (nb j) - 1) a (b - a).toNat) := by
  have hF := jk_F_big
  unfold fn_Cords_highestSum
  rw [sp_high_b hb jk_F (b - a).toNat 0 a (by omega) h0 hv (by omega) (by omega) (by omega)]
  simp
theorem sp_nib_b {nb : Int → Int} {b : Int} (hb : b ≤ 40) : ∀ (n k : Nat) (s i : Int), i + k = b → 0 ≤ i → (∀ j, i ≤ j → j < b → 0 ≤ nb j ∧ nb j ≤ 4) → 0 ≤ s → s ≤ 1000 - (k : Int) → k < n → fn_Cords_nibbledAmong_b5 n nb b s i = some (s + pCt (fun j => decide (0 < nb j)) i k) := by
  intro n
  induction n with
  | zero => intro k s i _ _ _ _ _ h; omega
  | succ n ih =>
    intro k s i hi h0 hv hs hs2 hk
    cases k with
    | zero =>
      rw [fn_Cords_nibbledAmong_b5]
      simp (disch := omega) only [↓zk_lt, ↓zk_nl, ↓zk_eq, ↓zk_ne, ↓zk_ix, ↓zk_dv, ↓zk_bo, ↓zk_rg, ↓zk_get, ↓zk_set, Option.bind_some]
      simp [pCt]
    | succ k =>
      have h1 := hv i (by omega) (by omega)
      rw [fn_Cords_nibbledAmong_b5]
      simp only [pCt]
      by_cases e : 0 < nb i
      · simp (disch := omega) only [↓zk_lt, ↓zk_nl, ↓zk_eq, ↓zk_ne, ↓zk_ix, ↓zk_dv, ↓zk_bo, ↓zk_rg, ↓zk_get, ↓zk_set, Option.bind_some]
        rw [ih k _ _ (by omega) (by omega) (fun j h2 h3 => hv j (by omega) (by omega)) (by omega) (by omega) (by omega)]
        simp only [e, decide_true, if_true]
        congr 1
        omega
      · simp (disch := omega) only [↓zk_lt, ↓zk_nl, ↓zk_eq, ↓zk_ne, ↓zk_ix, ↓zk_dv, ↓zk_bo, ↓zk_rg, ↓zk_get, ↓zk_set, Option.bind_some]
        rw [ih k _ _ (by omega) (by omega) (fun j h2 h3 => hv j (by omega) (by omega)) (by omega) (by omega) (by omega)]
        simp [e]
theorem sp_nib {nb : Int → Int} {a b : Int} (h0 : 0 ≤ a) (h1 : a ≤ b) (hb : b ≤ 40) (hv : ∀ j, a ≤ j → j < b → 0 ≤ nb j ∧ nb j ≤ 4) : fn_Cords_nibbledAmong nb a b = some (pCt (fun j => decide (0 < nb j)) a (b - a).toNat) := by
  have hF := jk_F_big
  unfold fn_Cords_nibbledAmong
  rw [sp_nib_b hb jk_F (b - a).toNat 0 a (by omega) h0 hv (by omega) (by omega) (by omega)]
  simp
theorem sp_cad_b {dp : Int → Int} {b d : Int} (hb : b ≤ 40) (hd : -100 ≤ d ∧ d ≤ 100) : ∀ (n k : Nat) (s i : Int), i + k = b → 0 ≤ i → (∀ j, i ≤ j → j < b → 0 ≤ dp j ∧ dp j ≤ 3) → 0 ≤ s → s ≤ 1000 - (k : Int) → k < n → fn_Cords_countAtDepth_b6 n dp b d s i = some (s + pCt (fun j => decide (dp j = d)) i k) := by
  intro n
  induction n with
  | zero => intro k s i _ _ _ _ _ h; omega
  | succ n ih =>
    intro k s i hi h0 hv hs hs2 hk
    cases k with
    | zero =>
      rw [fn_Cords_countAtDepth_b6]
      simp (disch := omega) only [↓zk_lt, ↓zk_nl, ↓zk_eq, ↓zk_ne, ↓zk_ix, ↓zk_dv, ↓zk_bo, ↓zk_rg, ↓zk_get, ↓zk_set, Option.bind_some]
      simp [pCt]
    | succ k =>
      have h1 := hv i (by omega) (by omega)
      rw [fn_Cords_countAtDepth_b6]
      simp only [pCt]
      by_cases e : dp i = d
      · simp (disch := omega) only [↓zk_lt, ↓zk_nl, ↓zk_eq, ↓zk_ne, ↓zk_ix, ↓zk_dv, ↓zk_bo, ↓zk_rg, ↓zk_get, ↓zk_set, Option.bind_some]
        rw [ih k _ _ (by omega) (by omega) (fun j h2 h3 => hv j (by omega) (by omega)) (by omega) (by omega) (by omega)]
        simp only [e, decide_true, if_true]
        congr 1
        omega
      · simp (disch := omega) only [↓zk_lt, ↓zk_nl, ↓zk_eq, ↓zk_ne, ↓zk_ix, ↓zk_dv, ↓zk_bo, ↓zk_rg, ↓zk_get, ↓zk_set, Option.bind_some]
        rw [ih k _ _ (by omega) (by omega) (fun j h2 h3 => hv j (by omega) (by omega)) (by omega) (by omega) (by omega)]
        simp [e]
theorem sp_cad {dp : Int → Int} {a b d : Int} (h0 : 0 ≤ a) (h1 : a ≤ b) (hb : b ≤ 40) (hd : -100 ≤ d ∧ d ≤ 100) (hv : ∀ j, a ≤ j → j < b → 0 ≤ dp j ∧ dp j ≤ 3) : fn_Cords_countAtDepth dp a b d = some (pCt (fun j => decide (dp j = d)) a (b - a).toNat) := by
  have hF := jk_F_big
  unfold fn_Cords_countAtDepth
  rw [sp_cad_b hb hd jk_F (b - a).toNat 0 a (by omega) h0 hv (by omega) (by omega) (by omega)]
  simp
theorem sp_cot_b {tp : Int → Int} {b d : Int} (hb : b ≤ 40) (hb0 : 0 ≤ b) (hd : -2147483648 ≤ d ∧ d < 2147483648) : ∀ (n k : Nat) (s i : Int), i + k = b → 0 ≤ i → (∀ j, i ≤ j → j < b → 0 ≤ tp j ∧ tp j < 8) → 0 ≤ s → s ≤ 1000 - (k : Int) → k < n → fn_Cords_countOfTopic_b4 n b tp d s i = some (s + pCt (fun j => decide (tp j = d)) i k) := by
  intro n
  induction n with
  | zero => intro k s i _ _ _ _ _ h; omega
  | succ n ih =>
    intro k s i hi h0 hv hs hs2 hk
    cases k with
    | zero =>
      rw [fn_Cords_countOfTopic_b4]
      simp (disch := omega) only [↓zk_lt, ↓zk_nl, ↓zk_eq, ↓zk_ne, ↓zk_ix, ↓zk_dv, ↓zk_bo, ↓zk_rg, ↓zk_get, ↓zk_set, Option.bind_some]
      simp [pCt]
    | succ k =>
      have h1 := hv i (by omega) (by omega)
      rw [fn_Cords_countOfTopic_b4]
      simp only [pCt]
      by_cases e : tp i = d
      · simp (disch := omega) only [↓zk_lt, ↓zk_nl, ↓zk_eq, ↓zk_ne, ↓zk_ix, ↓zk_dv, ↓zk_bo, ↓zk_rg, ↓zk_get, ↓zk_set, Option.bind_some]
        rw [ih k _ _ (by omega) (by omega) (fun j h2 h3 => hv j (by omega) (by omega)) (by omega) (by omega) (by omega)]
        simp only [e, decide_true, if_true]
        congr 1
        omega
      · simp (disch := omega) only [↓zk_lt, ↓zk_nl, ↓zk_eq, ↓zk_ne, ↓zk_ix, ↓zk_dv, ↓zk_bo, ↓zk_rg, ↓zk_get, ↓zk_set, Option.bind_some]
        rw [ih k _ _ (by omega) (by omega) (fun j h2 h3 => hv j (by omega) (by omega)) (by omega) (by omega) (by omega)]
        simp [e]
theorem sp_cot {tp : Int → Int} {b d : Int} (hb : b ≤ 40) (hb0 : 0 ≤ b) (hd : -2147483648 ≤ d ∧ d < 2147483648) (hv : ∀ j, 0 ≤ j → j < b → 0 ≤ tp j ∧ tp j < 8) : fn_Cords_countOfTopic b tp d = some (pCt (fun j => decide (tp j = d)) 0 b.toNat) := by
  have hF := jk_F_big
  unfold fn_Cords_countOfTopic
  rw [sp_cot_b hb hb0 hd jk_F b.toNat 0 0 (by omega) (by omega) hv (by omega) (by omega) (by omega)]
  simp
/-- the only nibbled place of a range, or -1 -/
def pOn (nb : Int → Int) (a : Int) (k : Nat) : Int := if pCt (fun j => decide (0 < nb j)) a k = 1 then pFi (fun j => decide (0 < nb j)) a k else -1
theorem sp_on_b {nb : Int → Int} {b : Int} (hb : b ≤ 40) : ∀ (n k : Nat) (v i : Int), i + k = b → 0 ≤ i → (∀ j, i ≤ j → j < b → 0 ≤ nb j ∧ nb j ≤ 4) → (v = -1 ∨ (0 ≤ v ∧ v < 40)) → k < n → fn_Cords_onlyNibbled_b23 n nb v b i = some (if v = -1 then pOn nb i k else if pCt (fun j => decide (0 < nb j)) i k = 0 then v else -1) := by
  intro n
  induction n with
  | zero => intro k v i _ _ _ _ h; omega
  | succ n ih =>
    intro k v i hi h0 hv hs hk
    cases k with
    | zero =>
      rw [fn_Cords_onlyNibbled_b23]
      simp (disch := omega) only [↓zk_lt, ↓zk_nl, ↓zk_eq, ↓zk_ne, ↓zk_ix, ↓zk_dv, ↓zk_bo, ↓zk_rg, ↓zk_get, ↓zk_set, Option.bind_some]
      simp only [pOn, pCt]
      rcases hs with rfl | hs
      · simp
      · simp
    | succ k =>
      have h1 := hv i (by omega) (by omega)
      have hr := pCt_r (p := fun j => decide (0 < nb j)) k (i + 1)
      rw [fn_Cords_onlyNibbled_b23]
      simp only [pOn, pCt, pFi]
      by_cases e : 0 < nb i
      · rcases hs with rfl | hs
        · simp (disch := omega) only [↓zk_lt, ↓zk_nl, ↓zk_eq, ↓zk_ne, ↓zk_ix, ↓zk_dv, ↓zk_bo, ↓zk_rg, ↓zk_get, ↓zk_set, Option.bind_some]
          rw [ih k _ _ (by omega) (by omega) (fun j h2 h3 => hv j (by omega) (by omega)) (by omega) (by omega)]
          simp only [e, decide_true, if_true]
          rw [if_neg (by omega)]
          by_cases z : pCt (fun j => decide (0 < nb j)) (i + 1) k = 0
          · rw [if_pos z, if_pos (by omega)]
          · rw [if_neg z, if_neg (by omega)]
        · simp (disch := omega) only [↓zk_lt, ↓zk_nl, ↓zk_eq, ↓zk_ne, ↓zk_ix, ↓zk_dv, ↓zk_bo, ↓zk_rg, ↓zk_get, ↓zk_set, Option.bind_some]
          simp only [e, decide_true, if_true]
          rw [if_neg (by omega), if_neg (by omega)]
      · simp (disch := omega) only [↓zk_lt, ↓zk_nl, ↓zk_eq, ↓zk_ne, ↓zk_ix, ↓zk_dv, ↓zk_bo, ↓zk_rg, ↓zk_get, ↓zk_set, Option.bind_some]
        rw [ih k _ _ (by omega) (by omega) (fun j h2 h3 => hv j (by omega) (by omega)) (by omega) (by omega)]
        simp [e, pOn]
