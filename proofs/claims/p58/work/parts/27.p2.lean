/-! forwards: the words of the translation where what they ask holds -/
theorem zk_lt {α : Type} {x y : Int} {a b : Option α} (h1 : -2147483648 ≤ x) (h2 : x < 2147483648) (h3 : -2147483648 ≤ y) (h4 : y < 2147483648) (h : x < y) : jk_lts x y a b = a := by
  unfold jk_lts; rw [if_pos ⟨⟨h1, h2⟩, ⟨h3, h4⟩⟩, if_pos h]
theorem zk_nl {α : Type} {x y : Int} {a b : Option α} (h1 : -2147483648 ≤ x) (h2 : x < 2147483648) (h3 : -2147483648 ≤ y) (h4 : y < 2147483648) (h : y ≤ x) : jk_lts x y a b = b := by
  unfold jk_lts; rw [if_pos ⟨⟨h1, h2⟩, ⟨h3, h4⟩⟩, if_neg (by omega)]
theorem zk_eq {α : Type} {x y : Int} {a b : Option α} (h1 : -2147483648 ≤ x) (h2 : x < 2147483648) (h : x = y) : jk_eqs x y a b = a := by
  subst h; unfold jk_eqs; rw [if_pos ⟨⟨h1, h2⟩, ⟨h1, h2⟩⟩, if_pos rfl]
theorem zk_ne {α : Type} {x y : Int} {a b : Option α} (h1 : -2147483648 ≤ x) (h2 : x < 2147483648) (h3 : -2147483648 ≤ y) (h4 : y < 2147483648) (h : ¬ x = y) : jk_eqs x y a b = b := by
  unfold jk_eqs; rw [if_pos ⟨⟨h1, h2⟩, ⟨h3, h4⟩⟩, if_neg h]
theorem zk_ix {α : Type} {n i : Int} {a : Option α} (h0 : 0 ≤ i) (h1 : i < n) : jk_ix n i a = a := by
  unfold jk_ix; rw [if_pos ⟨h0, h1⟩]
theorem zk_dv {α : Type} {x y : Int} {a : Option α} (h1 : 0 ≤ x) (h2 : x < 2147483648) (h3 : 0 < y) (h4 : y < 2147483648) : jk_dv x y a = a := by
  unfold jk_dv; rw [if_pos ⟨⟨h1, h2⟩, ⟨h3, h4⟩⟩]
theorem zk_bo {α : Type} {x : Int} {a : Option α} (h0 : 0 ≤ x) (h1 : x ≤ 1) : jk_bo x a = a := by
  unfold jk_bo; rw [if_pos (by omega)]
theorem zk_rg {α : Type} {x : Int} {a : Option α} (h1 : -2147483648 ≤ x) (h2 : x < 2147483648) : jk_rg x a = a := by
  unfold jk_rg; rw [if_pos ⟨h1, h2⟩]
theorem zk_bd {α β : Type} {x : Option α} {q : α} {f : α → Option β} (h : x = some q) : x.bind f = f q := by rw [h]; rfl
theorem sp_get {n i : Int} {f : Int → Int} (h0 : 0 ≤ i) (h1 : i < n) (hn : n < 2147483648) : fn_Row_get n f i = some (f i) := by
  unfold fn_Row_get
  simp (disch := omega) only [↓zk_lt, ↓zk_nl, ↓zk_ix]
theorem zk_get {β : Type} {n i : Int} {f : Int → Int} {g : Int → Option β} (h0 : 0 ≤ i) (h1 : i < n) (hn : n < 2147483648) : (fn_Row_get n f i).bind g = g (f i) := zk_bd (sp_get h0 h1 hn)
theorem sp_set {n i v : Int} {f : Int → Int} (h0 : 0 ≤ i) (h1 : i < n) (hn : n < 2147483648) : fn_Row_set n f i v = some (jk_up f i v) := by
  unfold fn_Row_set
  simp (disch := omega) only [↓zk_lt, ↓zk_nl, ↓zk_ix]
theorem zk_set {β : Type} {n i v : Int} {f : Int → Int} {g : (Int → Int) → Option β} (h0 : 0 ≤ i) (h1 : i < n) (hn : n < 2147483648) : (fn_Row_set n f i v).bind g = g (jk_up f i v) := zk_bd (sp_set h0 h1 hn)
theorem up_eq {f : Int → Int} {i j v : Int} (h : j = i) : jk_up f i v j = v := by unfold jk_up; rw [if_pos h]
theorem up_ne {f : Int → Int} {i j v : Int} (h : ¬ j = i) : jk_up f i v j = f j := by unfold jk_up; rw [if_neg h]
theorem jk_F_big : 50000 < jk_F := by unfold jk_F; omega
/-! places -/
def pw (x : Int) : Int := if x = 0 then 1 else if x = 1 then 10 else if x = 2 then 100 else if x = 3 then 1000 else 10000
theorem pw_c {x : Int} (h0 : 0 ≤ x) (h4 : x ≤ 4) : (x = 0 ∧ pw x = 1) ∨ (x = 1 ∧ pw x = 10) ∨ (x = 2 ∧ pw x = 100) ∨ (x = 3 ∧ pw x = 1000) ∨ (x = 4 ∧ pw x = 10000) := by
  have : x = 0 ∨ x = 1 ∨ x = 2 ∨ x = 3 ∨ x = 4 := by omega
  rcases this with rfl | rfl | rfl | rfl | rfl <;> simp [pw]
theorem pw_pos {x : Int} (h0 : 0 ≤ x) (h4 : x ≤ 4) : 1 ≤ pw x ∧ pw x ≤ 10000 := by
  rcases pw_c h0 h4 with h | h | h | h | h <;> omega
theorem sp_power {x : Int} (h0 : 0 ≤ x) (h4 : x ≤ 4) : fn_Knots_power x = some (pw x) := by
  have : x = 0 ∨ x = 1 ∨ x = 2 ∨ x = 3 ∨ x = 4 := by omega
  rcases this with rfl | rfl | rfl | rfl | rfl <;> decide +kernel
def pdv (v : Int) : Nat → Int
  | 0 => v
  | k + 1 => pdv (v / 10) k
theorem sp_wl_b {d : Int} (hd : d ≤ 10) : ∀ (n k : Nat) (v i : Int), i + k = d → 0 ≤ i → 0 ≤ v → v < 2147483648 → k < n → fn_Knots_withoutLast_b4 n d v i = some (pdv v k) := by
  intro n
  induction n with
  | zero => intro k v i _ _ _ _ h; omega
  | succ n ih =>
    intro k v i hi h0 hv hv2 hk
    cases k with
    | zero =>
      rw [fn_Knots_withoutLast_b4]
      simp (disch := omega) only [↓zk_lt, ↓zk_nl, ↓zk_eq, ↓zk_ne, ↓zk_ix, ↓zk_dv, ↓zk_bo, ↓zk_rg, ↓zk_get, ↓zk_set, Option.bind_some]
      rfl
    | succ k =>
      rw [fn_Knots_withoutLast_b4]
      simp (disch := omega) only [↓zk_lt, ↓zk_nl, ↓zk_eq, ↓zk_ne, ↓zk_ix, ↓zk_dv, ↓zk_bo, ↓zk_rg, ↓zk_get, ↓zk_set, Option.bind_some]
      rw [ih k _ _ (by omega) (by omega) (by omega) (by omega) (by omega)]
      rfl
theorem sp_wl {v d : Int} (h0 : 0 ≤ d) (h4 : d ≤ 4) (hv : 0 ≤ v) (hv2 : v < 2147483648) : fn_Knots_withoutLast v d = some (v / pw d) := by
  have hF := jk_F_big
  unfold fn_Knots_withoutLast
  rw [sp_wl_b (by omega) jk_F d.toNat v 0 (by omega) (by omega) hv hv2 (by omega)]
  have : d = 0 ∨ d = 1 ∨ d = 2 ∨ d = 3 ∨ d = 4 := by omega
  rcases this with rfl | rfl | rfl | rfl | rfl
  · show some v = some (v / 1); congr 1; omega
  · show some (v / 10) = some (v / 10); rfl
  · show some (v / 10 / 10) = some (v / 100); congr 1; omega
  · show some (v / 10 / 10 / 10) = some (v / 1000); congr 1; omega
  · show some (v / 10 / 10 / 10 / 10) = some (v / 10000); congr 1; omega
theorem pw_div {v d : Int} (h0 : 0 ≤ d) (h4 : d ≤ 4) (hv : 0 ≤ v) : 0 ≤ v / pw d ∧ v / pw d ≤ v := by
  rcases pw_c h0 h4 with ⟨_, h⟩ | ⟨_, h⟩ | ⟨_, h⟩ | ⟨_, h⟩ | ⟨_, h⟩ <;> rw [h] <;> omega
theorem pw_dm {v d : Int} (h0 : 0 ≤ d) (h4 : d ≤ 4) (hv : 0 ≤ v) : 0 ≤ v / pw d * pw d ∧ v / pw d * pw d ≤ v := by
  rcases pw_c h0 h4 with ⟨_, h⟩ | ⟨_, h⟩ | ⟨_, h⟩ | ⟨_, h⟩ | ⟨_, h⟩ <;> rw [h] <;> omega
theorem sp_at {v d : Int} (h0 : 0 ≤ d) (h4 : d ≤ 4) (hv : 0 ≤ v) (hv2 : v < 2147483648) : fn_Knots_at v d = some (v / pw d % 10) := by
  have := pw_div h0 h4 hv
  unfold fn_Knots_at
  rw [zk_bd (sp_wl h0 h4 hv hv2)]
  simp (disch := omega) only [↓zk_lt, ↓zk_nl, ↓zk_eq, ↓zk_ne, ↓zk_ix, ↓zk_dv, ↓zk_bo, ↓zk_rg, ↓zk_get, ↓zk_set, Option.bind_some]
theorem sp_lose {v d : Int} (h0 : 0 ≤ d) (h4 : d ≤ 4) (hv : 0 ≤ v) (hv2 : v < 2147483648) : fn_Knots_lose v d = some (v / pw d * pw d) := by
  unfold fn_Knots_lose
  rw [zk_bd (sp_wl h0 h4 hv hv2), zk_bd (sp_power h0 h4)]
/-- the knots of a value -/
def pks (v : Int) : Int := v % 10 + v / 10 % 10 + v / 100 % 10 + v / 1000 % 10
theorem pks_r (v : Int) : 0 ≤ pks v ∧ pks v ≤ 36 := by unfold pks; omega
theorem sp_ksum {v : Int} (hv : 0 ≤ v) (hv2 : v < 2147483648) : fn_Knots_sum v = some (pks v) := by
  have h0 := sp_at (v := v) (d := 0) (by omega) (by omega) hv hv2
  have h1 := sp_at (v := v) (d := 1) (by omega) (by omega) hv hv2
  have h2 := sp_at (v := v) (d := 2) (by omega) (by omega) hv hv2
  have h3 := sp_at (v := v) (d := 3) (by omega) (by omega) hv hv2
  unfold fn_Knots_sum
  rw [show jk_F = 99996 + 1 + 1 + 1 + 1 from rfl, fn_Knots_sum_b4]
  simp (disch := omega) only [↓zk_lt, ↓zk_nl, ↓zk_eq, ↓zk_ne, ↓zk_ix, ↓zk_dv, ↓zk_bo, ↓zk_rg, ↓zk_get, ↓zk_set, Option.bind_some]
  rw [zk_bd h0]
  rw [show (99996 + 1 + 1 + 1 : Nat) = (99996 + 1 + 1) + 1 from rfl, fn_Knots_sum_b4]
  simp (disch := omega) only [↓zk_lt, ↓zk_nl, ↓zk_eq, ↓zk_ne, ↓zk_ix, ↓zk_dv, ↓zk_bo, ↓zk_rg, ↓zk_get, ↓zk_set, Option.bind_some]
  rw [show (0 + 1 : Int) = 1 from rfl, zk_bd h1, fn_Knots_sum_b4]
  simp (disch := omega) only [↓zk_lt, ↓zk_nl, ↓zk_eq, ↓zk_ne, ↓zk_ix, ↓zk_dv, ↓zk_bo, ↓zk_rg, ↓zk_get, ↓zk_set, Option.bind_some]
  rw [show (1 + 1 : Int) = 2 from rfl, zk_bd h2, fn_Knots_sum_b4]
  simp (disch := omega) only [↓zk_lt, ↓zk_nl, ↓zk_eq, ↓zk_ne, ↓zk_ix, ↓zk_dv, ↓zk_bo, ↓zk_rg, ↓zk_get, ↓zk_set, Option.bind_some]
  rw [show (2 + 1 : Int) = 3 from rfl, zk_bd h3, show (99996 : Nat) = 99995 + 1 from rfl, fn_Knots_sum_b4]
  simp (disch := omega) only [↓zk_lt, ↓zk_nl, ↓zk_eq, ↓zk_ne, ↓zk_ix, ↓zk_dv, ↓zk_bo, ↓zk_rg, ↓zk_get, ↓zk_set, Option.bind_some]
  simp only [pw, pks]
  congr 1
  simp

/-! sums, counts, first places -/
def pSm (f : Int → Int) (i : Int) : Nat → Int
  | 0 => 0
  | k + 1 => f i + pSm f (i + 1) k
def pCt (p : Int → Bool) (i : Int) : Nat → Int
  | 0 => 0
  | k + 1 => (if p i = true then 1 else 0) + pCt p (i + 1) k
def pFi (p : Int → Bool) (i : Int) : Nat → Int
  | 0 => i
  | k + 1 => if p i = true then i else pFi p (i + 1) k
theorem pSm_r {f : Int → Int} {B : Int} : ∀ (k : Nat) (i : Int), (∀ j, i ≤ j → j < i + k → 0 ≤ f j ∧ f j ≤ B) → 0 ≤ pSm f i k ∧ pSm f i k ≤ B * k := by
  intro k
  induction k with
  | zero => intro i _; simp [pSm]
  | succ k ih =>
    intro i h
    have h1 := h i (by omega) (by omega)
    have h2 := ih (i + 1) (fun j h3 h4 => h j (by omega) (by omega))
    have h5 : B * ((k + 1 : Nat) : Int) = B * (k : Int) + B := by rw [Int.natCast_add, Int.mul_add]; simp
    simp only [pSm]
    omega
theorem pSm_c {f g : Int → Int} : ∀ (k : Nat) (i : Int), (∀ j, i ≤ j → j < i + k → f j = g j) → pSm f i k = pSm g i k := by
  intro k
  induction k with
  | zero => intro i _; rfl
  | succ k ih =>
    intro i h
    simp only [pSm]
    rw [h i (by omega) (by omega), ih (i + 1) (fun j h3 h4 => h j (by omega) (by omega))]
theorem pSm_add {f : Int → Int} : ∀ (k m : Nat) (i : Int), pSm f i (k + m) = pSm f i k + pSm f (i + k) m := by
  intro k
  induction k with
  | zero => intro m i; simp [pSm]
  | succ k ih =>
    intro m i
    rw [show k + 1 + m = (k + m) + 1 by omega]
    simp only [pSm]
    rw [ih, show i + 1 + (k : Int) = i + ((k + 1 : Nat) : Int) by omega]
    omega
theorem pCt_r {p : Int → Bool} : ∀ (k : Nat) (i : Int), 0 ≤ pCt p i k ∧ pCt p i k ≤ k := by
  intro k
  induction k with
  | zero => intro i; simp [pCt]
  | succ k ih =>
    intro i
    have := ih (i + 1)
    simp only [pCt]
    split <;> omega
theorem pCt_c {p q : Int → Bool} : ∀ (k : Nat) (i : Int), (∀ j, i ≤ j → j < i + k → p j = q j) → pCt p i k = pCt q i k := by
  intro k
  induction k with
  | zero => intro i _; rfl
  | succ k ih =>
    intro i h
    simp only [pCt]
    rw [h i (by omega) (by omega), ih (i + 1) (fun j h3 h4 => h j (by omega) (by omega))]
theorem pCt_add {p : Int → Bool} : ∀ (k m : Nat) (i : Int), pCt p i (k + m) = pCt p i k + pCt p (i + k) m := by
  intro k
  induction k with
  | zero => intro m i; simp [pCt]
  | succ k ih =>
    intro m i
    rw [show k + 1 + m = (k + m) + 1 by omega]
    simp only [pCt]
    rw [ih, show i + 1 + (k : Int) = i + ((k + 1 : Nat) : Int) by omega]
    omega
theorem pCt_0 {p : Int → Bool} : ∀ (k : Nat) (i : Int), pCt p i k = 0 → ∀ j, i ≤ j → j < i + k → p j = false := by
  intro k
  induction k with
  | zero => intro i _ j h1 h2; omega
  | succ k ih =>
    intro i h j h1 h2
    have hr := pCt_r (p := p) k (i + 1)
    simp only [pCt] at h
    by_cases e : p i = true
    · rw [if_pos e] at h; omega
    · rw [if_neg e] at h
      by_cases ej : j = i
      · subst ej; simpa using e
      · exact ih (i + 1) (by omega) j (by omega) (by omega)
theorem pCt_z {p : Int → Bool} : ∀ (k : Nat) (i : Int), (∀ j, i ≤ j → j < i + k → p j = false) → pCt p i k = 0 := by
  intro k
  induction k with
  | zero => intro i _; rfl
  | succ k ih =>
    intro i h
    simp only [pCt]
    rw [h i (by omega) (by omega), ih (i + 1) (fun j h3 h4 => h j (by omega) (by omega))]
    simp
theorem pFi_r {p : Int → Bool} : ∀ (k : Nat) (i : Int), 0 < pCt p i k → (i ≤ pFi p i k ∧ pFi p i k < i + k) ∧ p (pFi p i k) = true ∧ ∀ j, i ≤ j → j < pFi p i k → p j = false := by
  intro k
  induction k with
  | zero => intro i h; simp [pCt] at h
  | succ k ih =>
    intro i h
    simp only [pCt] at h
    simp only [pFi]
    by_cases e : p i = true
    · simp only [if_pos e]
      exact ⟨⟨by omega, by omega⟩, e, fun j h1 h2 => by omega⟩
    · simp only [if_neg e] at h ⊢
      obtain ⟨⟨h1, h2⟩, h3, h4⟩ := ih (i + 1) (by omega)
      refine ⟨⟨by omega, by omega⟩, h3, fun j h5 h6 => ?_⟩
      by_cases ej : j = i
      · subst ej; simpa using e
      · exact h4 j (by omega) h6
theorem pFi_c {p q : Int → Bool} : ∀ (k : Nat) (i : Int), (∀ j, i ≤ j → j < i + k → p j = q j) → pFi p i k = pFi q i k := by
  intro k
  induction k with
  | zero => intro i _; rfl
  | succ k ih =>
    intro i h
    simp only [pFi]
    rw [h i (by omega) (by omega), ih (i + 1) (fun j h3 h4 => h j (by omega) (by omega))]
/-! the system's loops -/
theorem sp_low_b {va : Int → Int} {b : Int} (hb : b ≤ 40) : ∀ (n k : Nat) (s i : Int), i + k = b → 0 ≤ i → (∀ j, i ≤ j → j < b → 0 ≤ va j ∧ va j ≤ 9999) → 0 ≤ s → s ≤ 1000000 - 20000 * (k : Int) → k < n → fn_Cords_lowestSum_b5 n va b s i = some (s + pSm va i k) := by
  intro n
  induction n with
  | zero => intro k s i _ _ _ _ _ h; omega
  | succ n ih =>
    intro k s i hi h0 hv hs hs2 hk
    cases k with
    | zero =>
      rw [fn_Cords_lowestSum_b5]
      simp (disch := omega) only [↓zk_lt, ↓zk_nl, ↓zk_eq, ↓zk_ne, ↓zk_ix, ↓zk_dv, ↓zk_bo, ↓zk_rg, ↓zk_get, ↓zk_set, Option.bind_some]
      simp [pSm]
    | succ k =>
      have h1 := hv i (by omega) (by omega)
      rw [fn_Cords_lowestSum_b5]
      simp (disch := omega) only [↓zk_lt, ↓zk_nl, ↓zk_eq, ↓zk_ne, ↓zk_ix, ↓zk_dv, ↓zk_bo, ↓zk_rg, ↓zk_get, ↓zk_set, Option.bind_some]
      rw [ih k _ _ (by omega) (by omega) (fun j h2 h3 => hv j (by omega) (by omega)) (by omega) (by omega) (by omega)]
      simp only [pSm]
      congr 1
      omega
theorem sp_low {va : Int → Int} {a b : Int} (h0 : 0 ≤ a) (h1 : a ≤ b) (hb : b ≤ 40) (hv : ∀ j, a ≤ j → j < b → 0 ≤ va j ∧ va j ≤ 9999) : fn_Cords_lowestSum va a b = some (pSm va a (b - a).toNat) := by
  have hF := jk_F_big
  unfold fn_Cords_lowestSum
  rw [sp_low_b hb jk_F (b - a).toNat 0 a (by omega) h0 hv (by omega) (by omega) (by omega)]
  simp
theorem sp_high_b {va nb : Int → Int} {b : Int} (hb : b ≤ 40) : ∀ (n k : Nat) (s i : Int), i + k = b → 0 ≤ i → (∀ j, i ≤ j → j < b → (0 ≤ va j ∧ va j ≤ 9999) ∧ (0 ≤ nb j ∧ nb j ≤ 4)) → 0 ≤ s → s ≤ 1000000 - 20000 * (k : Int) → k < n → fn_Cords_highestSum_b5 n va nb b s i = some (s + pSm (fun j => va j + pw (nb j) - 1) i k) := by
  intro n
  induction n with
  | zero => intro k s i _ _ _ _ _ h; omega
  | succ n ih =>
    intro k s i hi h0 hv hs hs2 hk
    cases k with
    | zero =>
      rw [fn_Cords_highestSum_b5]
      simp (disch := omega) only [↓zk_lt, ↓zk_nl, ↓zk_eq, ↓zk_ne, ↓zk_ix, ↓zk_dv, ↓zk_bo, ↓zk_rg, ↓zk_get, ↓zk_set, Option.bind_some]
      simp [pSm]
    | succ k =>
      have h1 := hv i (by omega) (by omega)
      have h4 := pw_pos h1.2.1 h1.2.2
      rw [fn_Cords_highestSum_b5]
      simp (disch := omega) only [↓zk_lt, ↓zk_nl, ↓zk_eq, ↓zk_ne, ↓zk_ix, ↓zk_dv, ↓zk_bo, ↓zk_rg, ↓zk_get, ↓zk_set, Option.bind_some]
      rw [zk_bd (sp_power h1.2.1 h1.2.2)]
      rw [ih k _ _ (by omega) (by omega) (fun j h2 h3 => hv j (by omega) (by omega)) (by omega) (by omega) (by omega)]
      simp only [pSm]
      congr 1
      omega
theorem sp_high {va nb : Int → Int} {a b : Int} (h0 : 0 ≤ a) (h1 : a ≤ b) (hb : b ≤ 40) (hv : ∀ j, a ≤ j → j < b → (0 ≤ va j ∧ va j ≤ 9999) ∧ (0 ≤ nb j ∧ nb j ≤ 4)) : fn_Cords_highestSum va nb a b = some (pSm (fun j => va j + pw (nb j) - 1) a (b - a).toNat) := by
  have hF := jk_F_big
  unfold fn_Cords_highestSum
  rw [sp_high_b hb jk_F (b - a).toNat 0 a (by omega) h0 hv (by omega) (by omega) (by omega)]
  simp
theorem sp_nib_b {nb : Int → Int} {b : Int} (hb : b ≤ 40) : ∀ (n k : Nat) (s i : Int), i + k = b → 0 ≤ i → (∀ j, i ≤ j → j < b → 0 ≤ nb j ∧ nb j ≤ 4) → 0 ≤ s → s ≤ 1000 - (k : Int) → k < n → fn_Cords_nibbledAmong_b5 n nb b s i = some (s + pCt (fun j => decide (0 < nb j)) i k) := by
  intro n
  induction n with
  | zero => intro k s i _ _ _ _ _ h; omega
  | succ n ih =>
    intro k s i hi h0 hv hs hs2 hk
    cases k with
    | zero =>
      rw [fn_Cords_nibbledAmong_b5]
      simp (disch := omega) only [↓zk_lt, ↓zk_nl, ↓zk_eq, ↓zk_ne, ↓zk_ix, ↓zk_dv, ↓zk_bo, ↓zk_rg, ↓zk_get, ↓zk_set, Option.bind_some]
      simp [pCt]
    | succ k =>
      have h1 := hv i (by omega) (by omega)
      rw [fn_Cords_nibbledAmong_b5]
      simp only [pCt]
      by_cases e : 0 < nb i
      · simp (disch := omega) only [↓zk_lt, ↓zk_nl, ↓zk_eq, ↓zk_ne, ↓zk_ix, ↓zk_dv, ↓zk_bo, ↓zk_rg, ↓zk_get, ↓zk_set, Option.bind_some]
        rw [ih k _ _ (by omega) (by omega) (fun j h2 h3 => hv j (by omega) (by omega)) (by omega) (by omega) (by omega)]
        simp only [e, decide_true, if_true]
        congr 1
        omega
      · simp (disch := omega) only [↓zk_lt, ↓zk_nl, ↓zk_eq, ↓zk_ne, ↓zk_ix, ↓zk_dv, ↓zk_bo, ↓zk_rg, ↓zk_get, ↓zk_set, Option.bind_some]
        rw [ih k _ _ (by omega) (by omega) (fun j h2 h3 => hv j (by omega) (by omega)) (by omega) (by omega) (by omega)]
        simp [e]
theorem sp_nib {nb : Int → Int} {a b : Int} (h0 : 0 ≤ a) (h1 : a ≤ b) (hb : b ≤ 40) (hv : ∀ j, a ≤ j → j < b → 0 ≤ nb j ∧ nb j ≤ 4) : fn_Cords_nibbledAmong nb a b = some (pCt (fun j => decide (0 < nb j)) a (b - a).toNat) := by
  have hF := jk_F_big
  unfold fn_Cords_nibbledAmong
  rw [sp_nib_b hb jk_F (b - a).toNat 0 a (by omega) h0 hv (by omega) (by omega) (by omega)]
  simp
theorem sp_cad_b {dp : Int → Int} {b d : Int} (hb : b ≤ 40) (hd : -100 ≤ d ∧ d ≤ 100) : ∀ (n k : Nat) (s i : Int), i + k = b → 0 ≤ i → (∀ j, i ≤ j → j < b → 0 ≤ dp j ∧ dp j ≤ 3) → 0 ≤ s → s ≤ 1000 - (k : Int) → k < n → fn_Cords_countAtDepth_b6 n dp b d s i = some (s + pCt (fun j => decide (dp j = d)) i k) := by
  intro n
  induction n with
  | zero => intro k s i _ _ _ _ _ h; omega
  | succ n ih =>
    intro k s i hi h0 hv hs hs2 hk
    cases k with
    | zero =>
      rw [fn_Cords_countAtDepth_b6]
      simp (disch := omega) only [↓zk_lt, ↓zk_nl, ↓zk_eq, ↓zk_ne, ↓zk_ix, ↓zk_dv, ↓zk_bo, ↓zk_rg, ↓zk_get, ↓zk_set, Option.bind_some]
      simp [pCt]
    | succ k =>
      have h1 := hv i (by omega) (by omega)
      rw [fn_Cords_countAtDepth_b6]
      simp only [pCt]
      by_cases e : dp i = d
      · simp (disch := omega) only [↓zk_lt, ↓zk_nl, ↓zk_eq, ↓zk_ne, ↓zk_ix, ↓zk_dv, ↓zk_bo, ↓zk_rg, ↓zk_get, ↓zk_set, Option.bind_some]
        rw [ih k _ _ (by omega) (by omega) (fun j h2 h3 => hv j (by omega) (by omega)) (by omega) (by omega) (by omega)]
        simp only [e, decide_true, if_true]
        congr 1
        omega
      · simp (disch := omega) only [↓zk_lt, ↓zk_nl, ↓zk_eq, ↓zk_ne, ↓zk_ix, ↓zk_dv, ↓zk_bo, ↓zk_rg, ↓zk_get, ↓zk_set, Option.bind_some]
        rw [ih k _ _ (by omega) (by omega) (fun j h2 h3 => hv j (by omega) (by omega)) (by omega) (by omega) (by omega)]
        simp [e]
theorem sp_cad {dp : Int → Int} {a b d : Int} (h0 : 0 ≤ a) (h1 : a ≤ b) (hb : b ≤ 40) (hd : -100 ≤ d ∧ d ≤ 100) (hv : ∀ j, a ≤ j → j < b → 0 ≤ dp j ∧ dp j ≤ 3) : fn_Cords_countAtDepth dp a b d = some (pCt (fun j => decide (dp j = d)) a (b - a).toNat) := by
  have hF := jk_F_big
  unfold fn_Cords_countAtDepth
  rw [sp_cad_b hb hd jk_F (b - a).toNat 0 a (by omega) h0 hv (by omega) (by omega) (by omega)]
  simp
/-- the only nibbled place of a range, or -1 -/
def pOn (nb : Int → Int) (a : Int) (k : Nat) : Int := if pCt (fun j => decide (0 < nb j)) a k = 1 then pFi (fun j => decide (0 < nb j)) a k else -1
theorem sp_on_b {nb : Int → Int} {b : Int} (hb : b ≤ 40) : ∀ (n k : Nat) (v i : Int), i + k = b → 0 ≤ i → (∀ j, i ≤ j → j < b → 0 ≤ nb j ∧ nb j ≤ 4) → (v = -1 ∨ (0 ≤ v ∧ v < 40)) → k < n → fn_Cords_onlyNibbled_b23 n nb v b i = some (if v = -1 then pOn nb i k else if pCt (fun j => decide (0 < nb j)) i k = 0 then v else -1) := by
  intro n
  induction n with
  | zero => intro k v i _ _ _ _ h; omega
  | succ n ih =>
    intro k v i hi h0 hv hs hk
    cases k with
    | zero =>
      rw [fn_Cords_onlyNibbled_b23]
      simp (disch := omega) only [↓zk_lt, ↓zk_nl, ↓zk_eq, ↓zk_ne, ↓zk_ix, ↓zk_dv, ↓zk_bo, ↓zk_rg, ↓zk_get, ↓zk_set, Option.bind_some]
      simp only [pOn, pCt]
      rcases hs with rfl | hs
      · simp
      · simp
    | succ k =>
      have h1 := hv i (by omega) (by omega)
      have hr := pCt_r (p := fun j => decide (0 < nb j)) k (i + 1)
      rw [fn_Cords_onlyNibbled_b23]
      simp only [pOn, pCt, pFi]
      by_cases e : 0 < nb i
      · rcases hs with rfl | hs
        · simp (disch := omega) only [↓zk_lt, ↓zk_nl, ↓zk_eq, ↓zk_ne, ↓zk_ix, ↓zk_dv, ↓zk_bo, ↓zk_rg, ↓zk_get, ↓zk_set, Option.bind_some]
          rw [ih k _ _ (by omega) (by omega) (fun j h2 h3 => hv j (by omega) (by omega)) (by omega) (by omega)]
          simp only [e, decide_true, if_true]
          rw [if_neg (by omega)]
          by_cases z : pCt (fun j => decide (0 < nb j)) (i + 1) k = 0
          · rw [if_pos z, if_pos (by omega)]
          · rw [if_neg z, if_neg (by omega)]
        · simp (disch := omega) only [↓zk_lt, ↓zk_nl, ↓zk_eq, ↓zk_ne, ↓zk_ix, ↓zk_dv, ↓zk_bo, ↓zk_rg, ↓zk_get, ↓zk_set, Option.bind_some]
          simp only [e, decide_true, if_true]
          rw [if_neg (by omega), if_neg (by omega)]
      · simp (disch := omega) only [↓zk_lt, ↓zk_nl, ↓zk_eq, ↓zk_ne, ↓zk_ix, ↓zk_dv, ↓zk_bo, ↓zk_rg, ↓zk_get, ↓zk_set, Option.bind_some]
        rw [ih k _ _ (by omega) (by omega) (fun j h2 h3 => hv j (by omega) (by omega)) (by omega) (by omega)]
        simp [e, pOn]

/-! the cords: what holds of the system's columns, with the cluster g of each cord; and the reference's array beside them -/
def pI (cl sz tn : Int) (st dp tp va nb g : Int → Int) : Prop :=
  ((0 ≤ cl ∧ cl ≤ 6) ∧ (0 ≤ sz ∧ sz ≤ 40) ∧ (0 ≤ tn ∧ tn ≤ 8)) ∧ (st 0 = 0 ∧ st cl = sz ∧ ∀ c, 0 ≤ c → c < cl → st c ≤ st (c + 1)) ∧
  ∀ k, 0 ≤ k → k < sz → (0 ≤ g k ∧ g k < cl ∧ st (g k) ≤ k ∧ k < st (g k + 1)) ∧ (0 ≤ dp k ∧ dp k ≤ 3) ∧ (0 ≤ tp k ∧ tp k < tn) ∧ (0 ≤ va k ∧ va k ≤ 9999) ∧ (0 ≤ nb k ∧ nb k ≤ 4) ∧ va k / pw (nb k) * pw (nb k) = va k ∧ (st (g k) = k → dp k ≤ 1) ∧ (st (g k) < k → 1 ≤ dp k ∧ dp k ≤ dp (k - 1) + 1)
def pM (cl sz : Int) (dp tp va nb g w : Int → Int) : Prop :=
  w 1 = cl ∧ w 2 = sz ∧ ∀ k, 0 ≤ k → k < sz → w (59 + 5 * k + 0) = g k ∧ w (59 + 5 * k + 1) = dp k ∧ w (59 + 5 * k + 2) = tp k ∧ w (59 + 5 * k + 3) = va k ∧ w (59 + 5 * k + 4) = nb k
section P3
variable {cl sz tn : Int} {st dp tp va nb g w : Int → Int}
theorem pI_mono (I : pI cl sz tn st dp tp va nb g) : ∀ (m : Nat) (c d : Int), c + m = d → 0 ≤ c → d ≤ cl → st c ≤ st d := by
  intro m
  induction m with
  | zero => intro c d h _ _; rw [show d = c by omega]; omega
  | succ m ih =>
    intro c d h h0 h1
    have h2 := I.2.1.2.2 c h0 (by omega)
    have h3 := ih (c + 1) d (by omega) (by omega) h1
    omega
theorem pI_le (I : pI cl sz tn st dp tp va nb g) {c d : Int} (h0 : 0 ≤ c) (h1 : c ≤ d) (h2 : d ≤ cl) : st c ≤ st d := pI_mono I (d - c).toNat c d (by omega) h0 h2
theorem pI_st (I : pI cl sz tn st dp tp va nb g) {c : Int} (h0 : 0 ≤ c) (h1 : c ≤ cl) : 0 ≤ st c ∧ st c ≤ sz := by
  have a := pI_le I (c := 0) (d := c) (by omega) h0 h1
  have b := pI_le I (c := c) (d := cl) h0 h1 (by omega)
  have := I.2.1
  omega
/-- a cord's cluster is the only one that holds it -/
theorem pI_g (I : pI cl sz tn st dp tp va nb g) {c k : Int} (h0 : 0 ≤ c) (h1 : c < cl) (h2 : st c ≤ k) (h3 : k < st (c + 1)) : g k = c := by
  have hs := pI_st I (c := c) h0 (by omega)
  have hs' := pI_st I (c := c + 1) (by omega) (by omega)
  obtain ⟨⟨a1, a2, a3, a4⟩, -⟩ := I.2.2 k (by omega) (by omega)
  by_cases x : g k < c
  · have := pI_le I (c := g k + 1) (d := c) (by omega) (by omega) (by omega); omega
  · by_cases y : c < g k
    · have := pI_le I (c := c + 1) (d := g k) (by omega) (by omega) (by omega); omega
    · omega
/-- a cord that begins no cluster stands in the cluster of the one before it -/
theorem pI_pred (I : pI cl sz tn st dp tp va nb g) {k : Int} (h0 : 0 ≤ k) (h1 : k < sz) (h2 : st (g k) < k) : g (k - 1) = g k := by
  obtain ⟨⟨a1, a2, a3, a4⟩, -⟩ := I.2.2 k h0 h1
  exact pI_g I a1 a2 (by omega) (by omega)
theorem pI_lt_iff (I : pI cl sz tn st dp tp va nb g) {c k : Int} (h0 : 0 ≤ c) (h1 : c ≤ cl) (hk : 0 ≤ k) (hk2 : k < sz) : st c ≤ k ↔ c ≤ g k := by
  obtain ⟨⟨a1, a2, a3, a4⟩, -⟩ := I.2.2 k hk hk2
  constructor
  · intro h
    by_cases x : c ≤ g k
    · exact x
    · have := pI_le I (c := g k + 1) (d := c) (by omega) (by omega) h1; omega
  · intro h
    have := pI_le I (c := c) (d := g k) h0 h (by omega); omega
/-! the reference's reads -/
theorem sp_has {k : Int} (hs : 0 ≤ sz ∧ sz ≤ 40) (hk : jk_R k) : fn_Cords_has sz k = some (if 0 ≤ k ∧ k < sz then 1 else 0) := by
  have h := hk.1
  have h' := hk.2
  unfold fn_Cords_has
  by_cases h0 : 0 ≤ k
  · by_cases h1 : k < sz
    · simp (disch := omega) only [↓zk_lt, ↓zk_nl, ↓zk_eq, ↓zk_ne, ↓zk_ix, ↓zk_dv, ↓zk_bo, ↓zk_rg, ↓zk_get, ↓zk_set, Option.bind_some]; rw [if_pos ⟨h0, h1⟩]
    · simp (disch := omega) only [↓zk_lt, ↓zk_nl, ↓zk_eq, ↓zk_ne, ↓zk_ix, ↓zk_dv, ↓zk_bo, ↓zk_rg, ↓zk_get, ↓zk_set, Option.bind_some]; rw [if_neg (by omega)]
  · simp (disch := omega) only [↓zk_lt, ↓zk_nl, ↓zk_eq, ↓zk_ne, ↓zk_ix, ↓zk_dv, ↓zk_bo, ↓zk_rg, ↓zk_get, ↓zk_set, Option.bind_some]; rw [if_neg (by omega)]
theorem sp_hasC {k : Int} (hs : 0 ≤ cl ∧ cl ≤ 6) (hk : jk_R k) : fn_Cords_hasCluster cl k = some (if 0 ≤ k ∧ k < cl then 1 else 0) := by
  have h := hk.1
  have h' := hk.2
  unfold fn_Cords_hasCluster
  by_cases h0 : 0 ≤ k
  · by_cases h1 : k < cl
    · simp (disch := omega) only [↓zk_lt, ↓zk_nl, ↓zk_eq, ↓zk_ne, ↓zk_ix, ↓zk_dv, ↓zk_bo, ↓zk_rg, ↓zk_get, ↓zk_set, Option.bind_some]; rw [if_pos ⟨h0, h1⟩]
    · simp (disch := omega) only [↓zk_lt, ↓zk_nl, ↓zk_eq, ↓zk_ne, ↓zk_ix, ↓zk_dv, ↓zk_bo, ↓zk_rg, ↓zk_get, ↓zk_set, Option.bind_some]; rw [if_neg (by omega)]
  · simp (disch := omega) only [↓zk_lt, ↓zk_nl, ↓zk_eq, ↓zk_ne, ↓zk_ix, ↓zk_dv, ↓zk_bo, ↓zk_rg, ↓zk_get, ↓zk_set, Option.bind_some]; rw [if_neg (by omega)]
/-! clusters -/
theorem sp_start (I : pI cl sz tn st dp tp va nb g) {c : Int} (h0 : 0 ≤ c) (h1 : c ≤ cl) : fn_Cords_start st c = some (st c) := by
  have := I.1.1
  unfold fn_Cords_start
  simp (disch := omega) only [↓zk_lt, ↓zk_nl, ↓zk_eq, ↓zk_ne, ↓zk_ix, ↓zk_dv, ↓zk_bo, ↓zk_rg, ↓zk_get, ↓zk_set, Option.bind_some]
theorem sp_end (I : pI cl sz tn st dp tp va nb g) {c : Int} (h0 : 0 ≤ c) (h1 : c < cl) : fn_Cords_end st c = some (st (c + 1)) := by
  have := I.1.1
  unfold fn_Cords_end
  simp (disch := omega) only [↓zk_lt, ↓zk_nl, ↓zk_eq, ↓zk_ne, ↓zk_ix, ↓zk_dv, ↓zk_bo, ↓zk_rg, ↓zk_get, ↓zk_set, Option.bind_some]
theorem sp_ca_b (I : pI cl sz tn st dp tp va nb g) {k : Int} (hk : 0 ≤ k) (hk2 : k < sz) : ∀ (n m : Nat) (v i : Int), i + m = cl → 1 ≤ i → (v = if i ≤ g k then i - 1 else g k) → m < n → fn_Cords_clusterAt_b4 n cl st k v i = some (g k) := by
  have hcl := I.1.1
  have hsz := I.1.2.1
  obtain ⟨⟨a1, a2, a3, a4⟩, -⟩ := I.2.2 k hk hk2
  intro n
  induction n with
  | zero => intro m v i _ _ _ h; omega
  | succ n ih =>
    intro m v i hi h1 hv hm
    rw [fn_Cords_clusterAt_b4]
    cases m with
    | zero =>
      simp (disch := omega) only [↓zk_lt, ↓zk_nl, ↓zk_eq, ↓zk_ne, ↓zk_ix, ↓zk_dv, ↓zk_bo, ↓zk_rg, ↓zk_get, ↓zk_set, Option.bind_some]
      rw [hv, if_neg (by omega)]
    | succ m =>
      have hst := pI_st I (c := i) (by omega) (by omega)
      have hiff := pI_lt_iff I (c := i) (k := k) (by omega) (by omega) hk hk2
      by_cases e : i ≤ g k
      · have := hiff.mpr e
        simp (disch := omega) only [↓zk_lt, ↓zk_nl, ↓zk_eq, ↓zk_ne, ↓zk_ix, ↓zk_dv, ↓zk_bo, ↓zk_rg, ↓zk_get, ↓zk_set, Option.bind_some]
        exact ih m _ _ (by omega) (by omega) (by split <;> omega) (by omega)
      · have : k < st i := by omega
        simp (disch := omega) only [↓zk_lt, ↓zk_nl, ↓zk_eq, ↓zk_ne, ↓zk_ix, ↓zk_dv, ↓zk_bo, ↓zk_rg, ↓zk_get, ↓zk_set, Option.bind_some]
        exact ih m _ _ (by omega) (by omega) (by rw [hv, if_neg e, if_neg (by omega)]) (by omega)
theorem sp_ca (I : pI cl sz tn st dp tp va nb g) {k : Int} (hk : 0 ≤ k) (hk2 : k < sz) : fn_Cords_clusterAt cl st k = some (g k) := by
  have hF := jk_F_big
  have hcl := I.1.1
  obtain ⟨⟨a1, a2, a3, a4⟩, -⟩ := I.2.2 k hk hk2
  unfold fn_Cords_clusterAt
  exact sp_ca_b I hk hk2 jk_F (cl - 1).toNat 0 1 (by omega) (by omega) (by split <;> omega) (by omega)
/-- 1 where a cluster has a top cord -/
def ht (st dp : Int → Int) (c : Int) : Int := if st c < st (c + 1) ∧ dp (st c) = 0 then 1 else 0
theorem ht_r (c : Int) : ht st dp c = 0 ∨ ht st dp c = 1 := by unfold ht; split <;> simp
theorem ht_le (I : pI cl sz tn st dp tp va nb g) {c : Int} (h0 : 0 ≤ c) (h1 : c < cl) : st c + ht st dp c ≤ st (c + 1) := by
  have := I.2.1.2.2 c h0 h1
  unfold ht
  split <;> omega
theorem sp_ps (I : pI cl sz tn st dp tp va nb g) {c : Int} (h0 : 0 ≤ c) (h1 : c < cl) : fn_Cords_pendantStart st dp c = some (st c + ht st dp c) := by
  have hcl := I.1.1
  have hsz := I.1.2.1
  have s1 := pI_st I (c := c) h0 (by omega)
  have s2 := pI_st I (c := c + 1) (by omega) (by omega)
  unfold fn_Cords_pendantStart ht
  simp (disch := omega) only [↓zk_lt, ↓zk_nl, ↓zk_eq, ↓zk_ne, ↓zk_ix, ↓zk_dv, ↓zk_bo, ↓zk_rg, ↓zk_get, ↓zk_set, Option.bind_some]
  by_cases e : st c < st (c + 1)
  · have hd := (I.2.2 (st c) (by omega) (by omega)).2.1
    simp (disch := omega) only [↓zk_lt, ↓zk_nl, ↓zk_eq, ↓zk_ne, ↓zk_ix, ↓zk_dv, ↓zk_bo, ↓zk_rg, ↓zk_get, ↓zk_set, Option.bind_some]
    by_cases e2 : dp (st c) = 0
    · simp (disch := omega) only [↓zk_lt, ↓zk_nl, ↓zk_eq, ↓zk_ne, ↓zk_ix, ↓zk_dv, ↓zk_bo, ↓zk_rg, ↓zk_get, ↓zk_set, Option.bind_some]
      rw [if_pos ⟨e, e2⟩]
    · simp (disch := omega) only [↓zk_lt, ↓zk_nl, ↓zk_eq, ↓zk_ne, ↓zk_ix, ↓zk_dv, ↓zk_bo, ↓zk_rg, ↓zk_get, ↓zk_set, Option.bind_some]
      rw [if_neg (by omega)]
      simp
  · simp (disch := omega) only [↓zk_lt, ↓zk_nl, ↓zk_eq, ↓zk_ne, ↓zk_ix, ↓zk_dv, ↓zk_bo, ↓zk_rg, ↓zk_get, ↓zk_set, Option.bind_some]
    rw [if_neg (by omega)]
    simp
theorem sp_ht (I : pI cl sz tn st dp tp va nb g) {c : Int} (h0 : 0 ≤ c) (h1 : c < cl) : fn_Cords_hasTop st dp c = some (ht st dp c) := by
  have hcl := I.1.1
  have hsz := I.1.2.1
  have s1 := pI_st I (c := c) h0 (by omega)
  have s2 := pI_st I (c := c + 1) (by omega) (by omega)
  unfold fn_Cords_hasTop
  rw [zk_bd (sp_ps I h0 h1)]
  rcases ht_r (st := st) (dp := dp) c with h | h <;> rw [h] <;> simp (disch := omega) only [↓zk_lt, ↓zk_nl, ↓zk_eq, ↓zk_ne, ↓zk_ix, ↓zk_dv, ↓zk_bo, ↓zk_rg, ↓zk_get, ↓zk_set, Option.bind_some]
theorem sp_sum (I : pI cl sz tn st dp tp va nb g) {c : Int} (h0 : 0 ≤ c) (h1 : c < cl) : fn_Cords_sum st dp va c = some (pSm va (st c + ht st dp c) (st (c + 1) - (st c + ht st dp c)).toNat) := by
  have hsz := I.1.2.1
  have s1 := pI_st I (c := c) h0 (by omega)
  have s2 := pI_st I (c := c + 1) (by omega) (by omega)
  have hl := ht_le I h0 h1
  have hr := ht_r (st := st) (dp := dp) c
  unfold fn_Cords_sum
  rw [zk_bd (sp_ps I h0 h1), zk_bd (sp_end I h0 h1), zk_bd (sp_low (by omega) (by omega) (by omega) (fun j h2 h3 => (I.2.2 j (by omega) (by omega)).2.2.2.1))]
theorem sp_on (I : pI cl sz tn st dp tp va nb g) {c : Int} (h0 : 0 ≤ c) (h1 : c < cl) : fn_Cords_onlyNibbled st nb c = some (pOn nb (st c) (st (c + 1) - st c).toNat) := by
  have hF := jk_F_big
  have hcl := I.1.1
  have hsz := I.1.2.1
  have s1 := pI_st I (c := c) h0 (by omega)
  have s2 := pI_st I (c := c + 1) (by omega) (by omega)
  have hm := I.2.1.2.2 c h0 h1
  unfold fn_Cords_onlyNibbled
  simp (disch := omega) only [↓zk_lt, ↓zk_nl, ↓zk_eq, ↓zk_ne, ↓zk_ix, ↓zk_dv, ↓zk_bo, ↓zk_rg, ↓zk_get, ↓zk_set, Option.bind_some]
  rw [sp_on_b (b := st (c + 1)) (by omega) jk_F (st (c + 1) - st c).toNat (-1) (st c) (by omega) (by omega) (fun j h2 h3 => (I.2.2 j (by omega) (by omega)).2.2.2.2.1) (by omega) (by omega)]
  rw [if_pos rfl]
end P3

/-! a cord's branch -/
def bel (dp : Int → Int) (d : Int) (e : Int) : Nat → Int
  | 0 => e
  | m + 1 => if d < dp e then bel dp d (e + 1) m else e
def be (sz : Int) (dp : Int → Int) (k : Int) : Int := if dp k = 0 then k + 1 else bel dp (dp k) (k + 1) (sz - (k + 1)).toNat
theorem bel_r {dp : Int → Int} {d : Int} : ∀ (m : Nat) (e : Int), (e ≤ bel dp d e m ∧ bel dp d e m ≤ e + m) ∧ (∀ j, e ≤ j → j < bel dp d e m → d < dp j) ∧ (bel dp d e m < e + m → dp (bel dp d e m) ≤ d) := by
  intro m
  induction m with
  | zero => intro e; simp only [bel]; exact ⟨⟨by omega, by omega⟩, fun j h1 h2 => by omega, fun h => by omega⟩
  | succ m ih =>
    intro e
    obtain ⟨⟨h1, h2⟩, h3, h4⟩ := ih (e + 1)
    simp only [bel]
    by_cases x : d < dp e
    · simp only [if_pos x]
      refine ⟨⟨by omega, by omega⟩, fun j h5 h6 => ?_, fun h => h4 (by omega)⟩
      by_cases y : j = e
      · rw [y]; exact x
      · exact h3 j (by omega) h6
    · simp only [if_neg x]
      exact ⟨⟨by omega, by omega⟩, fun j h5 h6 => by omega, fun _ => by omega⟩
section P4
variable {cl sz tn : Int} {st dp tp va nb g w : Int → Int}
theorem be_r (I : pI cl sz tn st dp tp va nb g) {k : Int} (h0 : 0 ≤ k) (h1 : k < sz) : (k < be sz dp k ∧ be sz dp k ≤ sz) ∧ (∀ j, k < j → j < be sz dp k → dp k < dp j ∧ 0 < dp k) ∧ (0 < dp k → be sz dp k < sz → dp (be sz dp k) ≤ dp k) := by
  have hd := (I.2.2 k h0 h1).2.1
  unfold be
  by_cases x : dp k = 0
  · simp only [if_pos x]
    exact ⟨⟨by omega, by omega⟩, fun j h2 h3 => by omega, fun h => by omega⟩
  · simp only [if_neg x]
    obtain ⟨⟨h2, h3⟩, h4, h5⟩ := bel_r (dp := dp) (d := dp k) (sz - (k + 1)).toNat (k + 1)
    exact ⟨⟨by omega, by omega⟩, fun j h6 h7 => ⟨h4 j (by omega) h7, by omega⟩, fun _ h => h5 (by omega)⟩
/-- cords deeper than one of depth 1 or more, one behind the other, stand in its cluster -/
theorem pI_run (I : pI cl sz tn st dp tp va nb g) {k : Int} (h0 : 0 ≤ k) : ∀ (m : Nat), k + m < sz → (∀ j, k < j → j ≤ k + m → dp k < dp j ∧ 0 < dp k) → g (k + m) = g k := by
  intro m
  induction m with
  | zero => intro _ _; simp
  | succ m ih =>
    intro h1 h2
    have h3 := h2 (k + ((m + 1 : Nat) : Int)) (by omega) (by omega)
    obtain ⟨⟨a1, a2, a3, a4⟩, a5, -, -, -, -, a6, a7⟩ := I.2.2 (k + ((m + 1 : Nat) : Int)) (by omega) (by omega)
    have h4 : st (g (k + ((m + 1 : Nat) : Int))) < k + ((m + 1 : Nat) : Int) := by
      by_cases x : st (g (k + ((m + 1 : Nat) : Int))) = k + ((m + 1 : Nat) : Int)
      · have := a6 x; omega
      · omega
    rw [← pI_pred I (by omega) h1 h4, ← ih (by omega) (fun j h5 h6 => h2 j h5 (by omega))]
    congr 1
    omega
theorem be_g (I : pI cl sz tn st dp tp va nb g) {k j : Int} (h0 : 0 ≤ k) (h1 : k < sz) (h2 : k ≤ j) (h3 : j < be sz dp k) : g j = g k := by
  obtain ⟨⟨b1, b2⟩, b3, -⟩ := be_r I h0 h1
  have := pI_run I h0 (j - k).toNat (by omega) (fun i h4 h5 => b3 i h4 (by omega))
  rw [show k + ((j - k).toNat : Int) = j by omega] at this
  exact this
theorem be_le (I : pI cl sz tn st dp tp va nb g) {k : Int} (h0 : 0 ≤ k) (h1 : k < sz) : be sz dp k ≤ st (g k + 1) := by
  obtain ⟨⟨b1, b2⟩, b3, -⟩ := be_r I h0 h1
  have h := be_g I h0 h1 (j := be sz dp k - 1) (by omega) (by omega)
  obtain ⟨⟨a1, a2, a3, a4⟩, -⟩ := I.2.2 (be sz dp k - 1) (by omega) (by omega)
  rw [h] at a4
  omega
theorem sp_be_b (I : pI cl sz tn st dp tp va nb g) {k : Int} (h0 : 0 ≤ k) (h1 : k < sz) : ∀ (n m : Nat) (e : Int), e + m = sz → 0 ≤ e → m < n → fn_Cords_branchEnd_b17 n sz dp k e = some (bel dp (dp k) e m) := by
  have hsz := I.1.2.1
  have hd := (I.2.2 k h0 h1).2.1
  intro n
  induction n with
  | zero => intro m e _ _ h; omega
  | succ n ih =>
    intro m e he h2 hm
    rw [fn_Cords_branchEnd_b17]
    cases m with
    | zero => simp (disch := omega) only [↓zk_lt, ↓zk_nl, ↓zk_eq, ↓zk_ne, ↓zk_ix, ↓zk_dv, ↓zk_bo, ↓zk_rg, ↓zk_get, ↓zk_set, Option.bind_some]; simp [bel, show e = sz by omega]
    | succ m =>
      have hd2 := (I.2.2 e (by omega) (by omega)).2.1
      simp only [bel]
      by_cases x : dp k < dp e
      · simp (disch := omega) only [↓zk_lt, ↓zk_nl, ↓zk_eq, ↓zk_ne, ↓zk_ix, ↓zk_dv, ↓zk_bo, ↓zk_rg, ↓zk_get, ↓zk_set, Option.bind_some]
        rw [ih m _ (by omega) (by omega) (by omega), if_pos x]
      · simp (disch := omega) only [↓zk_lt, ↓zk_nl, ↓zk_eq, ↓zk_ne, ↓zk_ix, ↓zk_dv, ↓zk_bo, ↓zk_rg, ↓zk_get, ↓zk_set, Option.bind_some]
        rw [if_neg x]
theorem sp_be (I : pI cl sz tn st dp tp va nb g) {k : Int} (h0 : 0 ≤ k) (h1 : k < sz) : fn_Cords_branchEnd sz dp k = some (be sz dp k) := by
  have hF := jk_F_big
  have hsz := I.1.2.1
  have hd := (I.2.2 k h0 h1).2.1
  unfold fn_Cords_branchEnd be
  simp (disch := omega) only [↓zk_lt, ↓zk_nl, ↓zk_eq, ↓zk_ne, ↓zk_ix, ↓zk_dv, ↓zk_bo, ↓zk_rg, ↓zk_get, ↓zk_set, Option.bind_some]
  by_cases x : dp k = 0
  · simp (disch := omega) only [↓zk_lt, ↓zk_nl, ↓zk_eq, ↓zk_ne, ↓zk_ix, ↓zk_dv, ↓zk_bo, ↓zk_rg, ↓zk_get, ↓zk_set, Option.bind_some]
    rw [if_pos x]
  · simp (disch := omega) only [↓zk_lt, ↓zk_nl, ↓zk_eq, ↓zk_ne, ↓zk_ix, ↓zk_dv, ↓zk_bo, ↓zk_rg, ↓zk_get, ↓zk_set, Option.bind_some]
    rw [if_neg x, sp_be_b I h0 h1 jk_F (sz - (k + 1)).toNat (k + 1) (by omega) (by omega) (by omega)]
/-! a cord's numbers -/
/-! the cord above -/
theorem pI_par (I : pI cl sz tn st dp tp va nb g) {k : Int} (h0 : 0 ≤ k) (h1 : k < sz) (h2 : 2 ≤ dp k) : ∀ (m : Nat), m ≤ k → (∀ i, k - m ≤ i → i < k → dp k ≤ dp i) → ∃ j, 0 ≤ j ∧ j < k - m ∧ dp j = dp k - 1 ∧ ∀ i, j < i → i < k → dp k ≤ dp i := by
  intro m
  induction h : (k - m).toNat generalizing m with
  | zero =>
    intro h3 h4
    obtain ⟨⟨a1, a2, a3, a4⟩, a5, -, -, -, -, a6, a7⟩ := I.2.2 (k - m) (by omega) (by omega)
    have hs := pI_st I (c := g (k - m)) a1 (by omega)
    have := a6 (by omega)
    by_cases x : m = 0
    · subst x
      have e : k = 0 := by omega
      have e2 : k - ((0 : Nat) : Int) = k := by omega
      rw [e2] at this
      omega
    · have := h4 (k - m) (by omega) (by omega)
      omega
  | succ r ih =>
    intro h3 h4
    have hk0 : 0 < k - m := by omega
    obtain ⟨⟨a1, a2, a3, a4⟩, a5, -, -, -, -, a6, a7⟩ := I.2.2 (k - m) (by omega) (by omega)
    have hge : dp k ≤ dp (k - m) := by
      by_cases x : m = 0
      · subst x; rw [show k - ((0 : Nat) : Int) = k by omega]; omega
      · exact h4 (k - m) (by omega) (by omega)
    have hst : st (g (k - m)) < k - m := by
      by_cases x : st (g (k - m)) = k - m
      · have := a6 x; omega
      · omega
    have h5 := a7 hst
    by_cases x : dp (k - m - 1) < dp k
    · refine ⟨k - m - 1, by omega, by omega, by omega, fun i h6 h7 => ?_⟩
      by_cases y : i = k
      · omega
      · exact h4 i (by omega) h7
    · obtain ⟨j, b1, b2, b3, b4⟩ := ih (m + 1) (by omega) (by omega) (fun i h6 h7 => by
        by_cases y : i = k - m - 1
        · rw [y]; omega
        · exact h4 i (by omega) h7)
      exact ⟨j, b1, by omega, b3, b4⟩
theorem sp_lad_b {dp : Int → Int} {a d j : Int} (hd : -100 ≤ d ∧ d ≤ 100) (ha : 0 ≤ a) (hj : a ≤ j) (hjd : dp j = d) : ∀ (n m : Nat) (i : Int), i = j + m → i < 40 → (∀ x, j < x → x ≤ i → ¬ dp x = d) → (∀ x, j ≤ x → x ≤ i → 0 ≤ dp x ∧ dp x ≤ 3) → m < n → fn_Cords_latestAtDepth_b5 n dp a d i = some j := by
  intro n
  induction n with
  | zero => intro m i _ _ _ _ h; omega
  | succ n ih =>
    intro m i hi h1 h2 h3 hm
    have hb := h3 i (by omega) (by omega)
    rw [fn_Cords_latestAtDepth_b5]
    cases m with
    | zero =>
      have e : i = j := by omega
      subst e
      simp (disch := omega) only [↓zk_lt, ↓zk_nl, ↓zk_eq, ↓zk_ne, ↓zk_ix, ↓zk_dv, ↓zk_bo, ↓zk_rg, ↓zk_get, ↓zk_set, Option.bind_some]
    | succ m =>
      have := h2 i (by omega) (by omega)
      simp (disch := omega) only [↓zk_lt, ↓zk_nl, ↓zk_eq, ↓zk_ne, ↓zk_ix, ↓zk_dv, ↓zk_bo, ↓zk_rg, ↓zk_get, ↓zk_set, Option.bind_some]
      exact ih m _ (by omega) (by omega) (fun x h4 h5 => h2 x h4 (by omega)) (fun x h4 h5 => h3 x h4 (by omega)) (by omega)
end P4

/-! the guess, the state -/
section P5
variable {cl sz tn : Int} {st dp tp va nb g w : Int → Int}
theorem sp_val {x : Int} (hx : jk_R x) : fn_KR_isValue x = some (if 0 ≤ x ∧ x ≤ 9999 then 1 else 0) := by
  have h1 := hx.1; have h2 := hx.2
  unfold fn_KR_isValue
  by_cases h : 0 ≤ x
  · by_cases h' : x ≤ 9999
    · (try simp (disch := omega) only [↓zk_lt, ↓zk_nl, ↓zk_eq, ↓zk_ne, ↓zk_ix, ↓zk_dv, ↓zk_bo, ↓zk_rg, ↓zk_get, ↓zk_set, Option.bind_some]); rw [if_pos ⟨h, h'⟩]
    · (try simp (disch := omega) only [↓zk_lt, ↓zk_nl, ↓zk_eq, ↓zk_ne, ↓zk_ix, ↓zk_dv, ↓zk_bo, ↓zk_rg, ↓zk_get, ↓zk_set, Option.bind_some]); rw [if_neg (by omega)]
  · (try simp (disch := omega) only [↓zk_lt, ↓zk_nl, ↓zk_eq, ↓zk_ne, ↓zk_ix, ↓zk_dv, ↓zk_bo, ↓zk_rg, ↓zk_get, ↓zk_set, Option.bind_some]); rw [if_neg (by omega)]
theorem pw_iff {a b p : Int} (hp : 1 ≤ p) (hb : b / p * p = b) : a / p * p = b ↔ a / p = b / p := by
  constructor
  · intro h
    have : a / p * p / p = a / p := Int.mul_ediv_cancel _ (by omega)
    rw [← this, h]
  · intro h
    rw [h, hb]
/-- the known sum of a cluster's pendants -/
def ks (st dp va : Int → Int) (c : Int) : Int := pSm va (st c + ht st dp c) (st (c + 1) - (st c + ht st dp c)).toNat
/-- the nibbled ones of a cluster -/
def kn (st nb : Int → Int) (c : Int) : Int := pCt (fun j => decide (0 < nb j)) (st c) (st (c + 1) - st c).toNat
def ko (st nb : Int → Int) (c : Int) : Int := pOn nb (st c) (st (c + 1) - st c).toNat
def kg (st dp va nb : Int → Int) (c : Int) : Int := if ko st nb c = st c then ks st dp va c else va (st c) - (ks st dp va c - va (ko st nb c))
theorem ks_r (I : pI cl sz tn st dp tp va nb g) {c : Int} (h0 : 0 ≤ c) (h1 : c < cl) : 0 ≤ ks st dp va c ∧ ks st dp va c ≤ 399960 := by
  have hsz := I.1.2.1
  have s1 := pI_st I (c := c) h0 (by omega)
  have s2 := pI_st I (c := c + 1) (by omega) (by omega)
  have hl := ht_le I h0 h1
  have hr := ht_r (st := st) (dp := dp) c
  have := pSm_r (f := va) (B := 9999) (st (c + 1) - (st c + ht st dp c)).toNat (st c + ht st dp c) (fun j h2 h3 => (I.2.2 j (by omega) (by omega)).2.2.2.1)
  unfold ks
  omega
theorem kn_r (I : pI cl sz tn st dp tp va nb g) {c : Int} (h0 : 0 ≤ c) (h1 : c < cl) : 0 ≤ kn st nb c ∧ kn st nb c ≤ 40 := by
  have hsz := I.1.2.1
  have s1 := pI_st I (c := c) h0 (by omega)
  have s2 := pI_st I (c := c + 1) (by omega) (by omega)
  have := pCt_r (p := fun j => decide (0 < nb j)) (st (c + 1) - st c).toNat (st c)
  unfold kn
  omega
theorem ko_r (I : pI cl sz tn st dp tp va nb g) {c : Int} (h0 : 0 ≤ c) (h1 : c < cl) (h2 : kn st nb c = 1) : (st c ≤ ko st nb c ∧ ko st nb c < st (c + 1)) ∧ 0 < nb (ko st nb c) ∧ g (ko st nb c) = c ∧ (0 ≤ ko st nb c ∧ ko st nb c < sz) := by
  have s1 := pI_st I (c := c) h0 (by omega)
  have s2 := pI_st I (c := c + 1) (by omega) (by omega)
  have hm := I.2.1.2.2 c h0 h1
  have h3 := pFi_r (p := fun j => decide (0 < nb j)) (st (c + 1) - st c).toNat (st c) (by unfold kn at h2; omega)
  have e : ko st nb c = pFi (fun j => decide (0 < nb j)) (st c) (st (c + 1) - st c).toNat := by
    exact if_pos h2
  rw [e]
  obtain ⟨⟨a1, a2⟩, a3, -⟩ := h3
  refine ⟨⟨a1, by omega⟩, of_decide_eq_true a3, pI_g I h0 h1 a1 (by omega), by omega, by omega⟩
theorem ko_R (I : pI cl sz tn st dp tp va nb g) {c : Int} (h0 : 0 ≤ c) (h1 : c < cl) : ko st nb c = -1 ∨ (0 ≤ ko st nb c ∧ ko st nb c < sz) := by
  by_cases x : kn st nb c = 1
  · exact Or.inr (ko_r I h0 h1 x).2.2.2
  · left
    exact if_neg x
theorem ht_1 {c : Int} (h : ht st dp c = 1) : st c < st (c + 1) ∧ dp (st c) = 0 := by
  unfold ht at h
  by_cases x : st c < st (c + 1) ∧ dp (st c) = 0
  · exact x
  · rw [if_neg x] at h; omega
/-- the only cord of depth 0 is the first -/
theorem ko_0 (I : pI cl sz tn st dp tp va nb g) {c : Int} (h0 : 0 ≤ c) (h1 : c < cl) (ht1 : ht st dp c = 1) (h2 : kn st nb c = 1) : dp (ko st nb c) = 0 ↔ ko st nb c = st c := by
  obtain ⟨⟨a1, a2⟩, -, a3, a4, a5⟩ := ko_r I h0 h1 h2
  constructor
  · intro h
    obtain ⟨-, -, -, -, -, -, -, b⟩ := I.2.2 _ a4 a5
    rw [a3] at b
    by_cases x : st c < ko st nb c
    · have := b x; omega
    · omega
  · intro h
    rw [h]
    exact (ht_1 ht1).2
theorem kg_r (I : pI cl sz tn st dp tp va nb g) {c : Int} (h0 : 0 ≤ c) (h1 : c < cl) (ht1 : ht st dp c = 1) (h2 : kn st nb c = 1) : -400000 ≤ kg st dp va nb c ∧ kg st dp va nb c ≤ 400000 := by
  have hsz := I.1.2.1
  have hk := ks_r I h0 h1
  have s1 := pI_st I (c := c) h0 (by omega)
  have s2 := pI_st I (c := c + 1) (by omega) (by omega)
  obtain ⟨⟨a1, a2⟩, -, a3, a4, a5⟩ := ko_r I h0 h1 h2
  have v1 := (I.2.2 _ a4 a5).2.2.2.1
  have v2 := (I.2.2 (st c) (by omega) (by omega)).2.2.2.1
  unfold kg
  split <;> omega
theorem sp_kg (I : pI cl sz tn st dp tp va nb g) {c : Int} (h0 : 0 ≤ c) (h1 : c < cl) (ht1 : ht st dp c = 1) (h2 : kn st nb c = 1) : fn_Cords_guess st va nb c = some (kg st dp va nb c) := by
  have hcl := I.1.1
  have hsz := I.1.2.1
  have hk := ks_r I h0 h1
  have s1 := pI_st I (c := c) h0 (by omega)
  have s2 := pI_st I (c := c + 1) (by omega) (by omega)
  obtain ⟨⟨a1, a2⟩, -, a3, a4, a5⟩ := ko_r I h0 h1 h2
  have hlow := sp_low (va := va) (a := st c + 1) (b := st (c + 1)) (by omega) (by omega) (by omega) (fun j h2 h3 => (I.2.2 j (by omega) (by omega)).2.2.2.1)
  unfold fn_Cords_guess
  (try simp (disch := omega) only [↓zk_lt, ↓zk_nl, ↓zk_eq, ↓zk_ne, ↓zk_ix, ↓zk_dv, ↓zk_bo, ↓zk_rg, ↓zk_get, ↓zk_set, Option.bind_some])
  rw [zk_bd (sp_on I h0 h1)]
  (try simp (disch := omega) only [↓zk_lt, ↓zk_nl, ↓zk_eq, ↓zk_ne, ↓zk_ix, ↓zk_dv, ↓zk_bo, ↓zk_rg, ↓zk_get, ↓zk_set, Option.bind_some])
  rw [zk_bd hlow]
  have e : pSm va (st c + 1) (st (c + 1) - (st c + 1)).toNat = ks st dp va c := by unfold ks; rw [ht1]
  have e2 : pOn nb (st c) (st (c + 1) - st c).toNat = ko st nb c := rfl
  rw [e, e2]
  unfold kg
  by_cases x : ko st nb c = st c
  · (try simp (disch := omega) only [↓zk_lt, ↓zk_nl, ↓zk_eq, ↓zk_ne, ↓zk_ix, ↓zk_dv, ↓zk_bo, ↓zk_rg, ↓zk_get, ↓zk_set, Option.bind_some])
    rw [if_pos x]
  · (try simp (disch := omega) only [↓zk_lt, ↓zk_nl, ↓zk_eq, ↓zk_ne, ↓zk_ix, ↓zk_dv, ↓zk_bo, ↓zk_rg, ↓zk_get, ↓zk_set, Option.bind_some])
    rw [if_neg x]
/-- what stands against a guess -/
def kob (st dp va nb : Int → Int) (c : Int) : Int := if ht st dp c = 0 then 1 else if kn st nb c = 0 then 2 else if 1 < kn st nb c then 3 else if (0 ≤ kg st dp va nb c ∧ kg st dp va nb c ≤ 9999) ∧ kg st dp va nb c / pw (nb (ko st nb c)) * pw (nb (ko st nb c)) = va (ko st nb c) then 0 else 4
theorem kob_r {c : Int} : 0 ≤ kob st dp va nb c ∧ kob st dp va nb c ≤ 4 := by
  unfold kob
  repeat' split
  all_goals omega
theorem kob_0 (I : pI cl sz tn st dp tp va nb g) {c : Int} (h0 : 0 ≤ c) (h1 : c < cl) (h : kob st dp va nb c = 0) : ht st dp c = 1 ∧ kn st nb c = 1 ∧ (0 ≤ kg st dp va nb c ∧ kg st dp va nb c ≤ 9999) := by
  have hr := ht_r (st := st) (dp := dp) c
  have hn := kn_r I h0 h1
  unfold kob at h
  by_cases x : ht st dp c = 0
  · rw [if_pos x] at h; omega
  · rw [if_neg x] at h
    by_cases y : kn st nb c = 0
    · rw [if_pos y] at h; omega
    · rw [if_neg y] at h
      by_cases z : 1 < kn st nb c
      · rw [if_pos z] at h; omega
      · rw [if_neg z] at h
        by_cases u : (0 ≤ kg st dp va nb c ∧ kg st dp va nb c ≤ 9999) ∧ kg st dp va nb c / pw (nb (ko st nb c)) * pw (nb (ko st nb c)) = va (ko st nb c)
        · exact ⟨by omega, by omega, u.1⟩
        · rw [if_neg u] at h; omega
theorem sp_ob (I : pI cl sz tn st dp tp va nb g) {c : Int} (h0 : 0 ≤ c) (h1 : c < cl) : fn_Cords_obstacle st dp va nb c = some (kob st dp va nb c) := by
  have hcl := I.1.1
  have hsz := I.1.2.1
  have hr := ht_r (st := st) (dp := dp) c
  have hn := kn_r I h0 h1
  have s1 := pI_st I (c := c) h0 (by omega)
  have s2 := pI_st I (c := c + 1) (by omega) (by omega)
  have hm := I.2.1.2.2 c h0 h1
  have hnib : fn_Cords_nibbledAmong nb (st c) (st (c + 1)) = some (kn st nb c) := sp_nib (by omega) (by omega) (by omega) (fun j h2 h3 => (I.2.2 j (by omega) (by omega)).2.2.2.2.1)
  unfold fn_Cords_obstacle kob
  rw [zk_bd (sp_ht I h0 h1)]
  by_cases x : ht st dp c = 0
  · (try simp (disch := omega) only [↓zk_lt, ↓zk_nl, ↓zk_eq, ↓zk_ne, ↓zk_ix, ↓zk_dv, ↓zk_bo, ↓zk_rg, ↓zk_get, ↓zk_set, Option.bind_some])
    rw [if_pos x]
  · (try simp (disch := omega) only [↓zk_lt, ↓zk_nl, ↓zk_eq, ↓zk_ne, ↓zk_ix, ↓zk_dv, ↓zk_bo, ↓zk_rg, ↓zk_get, ↓zk_set, Option.bind_some])
    rw [if_neg x, zk_bd (sp_start I h0 (by omega)), zk_bd (sp_end I h0 h1), zk_bd hnib]
    by_cases y : kn st nb c = 0
    · (try simp (disch := omega) only [↓zk_lt, ↓zk_nl, ↓zk_eq, ↓zk_ne, ↓zk_ix, ↓zk_dv, ↓zk_bo, ↓zk_rg, ↓zk_get, ↓zk_set, Option.bind_some])
      rw [if_pos y]
    · (try simp (disch := omega) only [↓zk_lt, ↓zk_nl, ↓zk_eq, ↓zk_ne, ↓zk_ix, ↓zk_dv, ↓zk_bo, ↓zk_rg, ↓zk_get, ↓zk_set, Option.bind_some])
      rw [if_neg y]
      by_cases z : 1 < kn st nb c
      · (try simp (disch := omega) only [↓zk_lt, ↓zk_nl, ↓zk_eq, ↓zk_ne, ↓zk_ix, ↓zk_dv, ↓zk_bo, ↓zk_rg, ↓zk_get, ↓zk_set, Option.bind_some])
        rw [if_pos z]
      · (try simp (disch := omega) only [↓zk_lt, ↓zk_nl, ↓zk_eq, ↓zk_ne, ↓zk_ix, ↓zk_dv, ↓zk_bo, ↓zk_rg, ↓zk_get, ↓zk_set, Option.bind_some])
        rw [if_neg z, zk_bd (sp_on I h0 h1), zk_bd (sp_kg I h0 h1 (by omega) (by omega))]
        have e2 : pOn nb (st c) (st (c + 1) - st c).toNat = ko st nb c := rfl
        rw [e2]
        obtain ⟨⟨a1, a2⟩, -, a3, a4, a5⟩ := ko_r I h0 h1 (by omega)
        have hg := kg_r I h0 h1 (by omega) (by omega)
        obtain ⟨-, -, -, hv, hb, -⟩ := I.2.2 _ a4 a5
        unfold fn_Cords_fits
        rw [zk_bd (sp_val ⟨by omega, by omega⟩)]
        by_cases u : 0 ≤ kg st dp va nb c ∧ kg st dp va nb c ≤ 9999
        · have hdm := pw_dm hb.1 hb.2 u.1
          rw [if_pos u]
          (try simp (disch := omega) only [↓zk_lt, ↓zk_nl, ↓zk_eq, ↓zk_ne, ↓zk_ix, ↓zk_dv, ↓zk_bo, ↓zk_rg, ↓zk_get, ↓zk_set, Option.bind_some])
          rw [zk_bd (sp_lose hb.1 hb.2 u.1 (by omega))]
          (try simp (disch := omega) only [↓zk_lt, ↓zk_nl, ↓zk_eq, ↓zk_ne, ↓zk_ix, ↓zk_dv, ↓zk_bo, ↓zk_rg, ↓zk_get, ↓zk_set, Option.bind_some])
          by_cases v : kg st dp va nb c / pw (nb (ko st nb c)) * pw (nb (ko st nb c)) = va (ko st nb c)
          · (try simp (disch := omega) only [↓zk_lt, ↓zk_nl, ↓zk_eq, ↓zk_ne, ↓zk_ix, ↓zk_dv, ↓zk_bo, ↓zk_rg, ↓zk_get, ↓zk_set, Option.bind_some])
            rw [if_pos ⟨u, v⟩]
          · (try simp (disch := omega) only [↓zk_lt, ↓zk_nl, ↓zk_eq, ↓zk_ne, ↓zk_ix, ↓zk_dv, ↓zk_bo, ↓zk_rg, ↓zk_get, ↓zk_set, Option.bind_some])
            rw [if_neg (fun z => v z.2)]
        · rw [if_neg u]
          (try simp (disch := omega) only [↓zk_lt, ↓zk_nl, ↓zk_eq, ↓zk_ne, ↓zk_ix, ↓zk_dv, ↓zk_bo, ↓zk_rg, ↓zk_get, ↓zk_set, Option.bind_some])
          rw [if_neg (fun z => u z.1)]
def kst (st dp va nb : Int → Int) (c : Int) : Int := if ht st dp c = 0 then 0 else if 0 < kn st nb c then 1 else if va (st c) = ks st dp va c then 2 else 3
theorem kst_r {c : Int} : 0 ≤ kst st dp va nb c ∧ kst st dp va nb c ≤ 3 := by
  unfold kst
  repeat' split
  all_goals omega
theorem sp_state (I : pI cl sz tn st dp tp va nb g) {c : Int} (h0 : 0 ≤ c) (h1 : c < cl) : fn_Cords_state st dp va nb c = some (kst st dp va nb c) := by
  have hcl := I.1.1
  have hsz := I.1.2.1
  have hr := ht_r (st := st) (dp := dp) c
  have hn := kn_r I h0 h1
  have hk := ks_r I h0 h1
  have s1 := pI_st I (c := c) h0 (by omega)
  have s2 := pI_st I (c := c + 1) (by omega) (by omega)
  have hm := I.2.1.2.2 c h0 h1
  have hnib : fn_Cords_nibbledAmong nb (st c) (st (c + 1)) = some (kn st nb c) := sp_nib (by omega) (by omega) (by omega) (fun j h2 h3 => (I.2.2 j (by omega) (by omega)).2.2.2.2.1)
  have hsum : fn_Cords_sum st dp va c = some (ks st dp va c) := sp_sum I h0 h1
  unfold fn_Cords_state kst
  rw [zk_bd (sp_ht I h0 h1)]
  by_cases x : ht st dp c = 0
  · (try simp (disch := omega) only [↓zk_lt, ↓zk_nl, ↓zk_eq, ↓zk_ne, ↓zk_ix, ↓zk_dv, ↓zk_bo, ↓zk_rg, ↓zk_get, ↓zk_set, Option.bind_some])
    rw [if_pos x]
  · have h2 := ht_1 (st := st) (dp := dp) (c := c) (by omega)
    have v2 := (I.2.2 (st c) (by omega) (by omega)).2.2.2.1
    (try simp (disch := omega) only [↓zk_lt, ↓zk_nl, ↓zk_eq, ↓zk_ne, ↓zk_ix, ↓zk_dv, ↓zk_bo, ↓zk_rg, ↓zk_get, ↓zk_set, Option.bind_some])
    rw [if_neg x, zk_bd (sp_start I h0 (by omega)), zk_bd (sp_end I h0 h1), zk_bd hnib]
    by_cases y : 0 < kn st nb c
    · (try simp (disch := omega) only [↓zk_lt, ↓zk_nl, ↓zk_eq, ↓zk_ne, ↓zk_ix, ↓zk_dv, ↓zk_bo, ↓zk_rg, ↓zk_get, ↓zk_set, Option.bind_some])
      rw [if_pos y]
    · (try simp (disch := omega) only [↓zk_lt, ↓zk_nl, ↓zk_eq, ↓zk_ne, ↓zk_ix, ↓zk_dv, ↓zk_bo, ↓zk_rg, ↓zk_get, ↓zk_set, Option.bind_some])
      rw [if_neg y, zk_bd hsum]
      by_cases z : va (st c) = ks st dp va c
      · (try simp (disch := omega) only [↓zk_lt, ↓zk_nl, ↓zk_eq, ↓zk_ne, ↓zk_ix, ↓zk_dv, ↓zk_bo, ↓zk_rg, ↓zk_get, ↓zk_set, Option.bind_some])
        rw [if_pos z]
      · (try simp (disch := omega) only [↓zk_lt, ↓zk_nl, ↓zk_eq, ↓zk_ne, ↓zk_ix, ↓zk_dv, ↓zk_bo, ↓zk_rg, ↓zk_get, ↓zk_set, Option.bind_some])
        rw [if_neg z]
end P5

/-! the answers: system and reference beside each other -/
/-- the same answer: an exception of the k-th kind of the list where the reference's note is k, else the same number and no note -/
def ag (ls : List Nat) (a : Nat ⊕ Int) (b t : Int) : Prop := match a with
  | .inl k => ∃ j : Nat, ls[j]? = some k ∧ t = (j : Int) + 1
  | .inr v => t = 0 ∧ v = b ∧ jk_R b
section P6
variable {cl sz tn : Int} {st dp tp va nb g w : Int → Int}
theorem sp_hasT {x : Int} (hs : 0 ≤ tn ∧ tn ≤ 8) (hx : jk_R x) : fn_Topics_has tn x = some (if 0 ≤ x ∧ x < tn then 1 else 0) := by
  have h := hx.1
  have h' := hx.2
  unfold fn_Topics_has
  by_cases h0 : 0 ≤ x
  · by_cases h1 : x < tn
    · (try simp (disch := omega) only [↓zk_lt, ↓zk_nl, ↓zk_eq, ↓zk_ne, ↓zk_ix, ↓zk_dv, ↓zk_bo, ↓zk_rg, ↓zk_get, ↓zk_set, Option.bind_some]); rw [if_pos ⟨h0, h1⟩]
    · (try simp (disch := omega) only [↓zk_lt, ↓zk_nl, ↓zk_eq, ↓zk_ne, ↓zk_ix, ↓zk_dv, ↓zk_bo, ↓zk_rg, ↓zk_get, ↓zk_set, Option.bind_some]); rw [if_neg (by omega)]
  · (try simp (disch := omega) only [↓zk_lt, ↓zk_nl, ↓zk_eq, ↓zk_ne, ↓zk_ix, ↓zk_dv, ↓zk_bo, ↓zk_rg, ↓zk_get, ↓zk_set, Option.bind_some]); rw [if_neg (by omega)]
theorem sp_reqCord (hs : 0 ≤ sz ∧ sz ≤ 40) {x : Int} (hx : jk_R x) : fn_KR_requireCord sz x = some (if 0 ≤ x ∧ x < sz then .inr () else .inl 1) := by
  unfold fn_KR_requireCord
  rw [zk_bd (sp_has hs hx)]
  by_cases h : 0 ≤ x ∧ x < sz
  · rw [if_pos h, if_pos h]; (try simp (disch := omega) only [↓zk_lt, ↓zk_nl, ↓zk_eq, ↓zk_ne, ↓zk_ix, ↓zk_dv, ↓zk_bo, ↓zk_rg, ↓zk_get, ↓zk_set, Option.bind_some])
  · rw [if_neg h, if_neg h]; (try simp (disch := omega) only [↓zk_lt, ↓zk_nl, ↓zk_eq, ↓zk_ne, ↓zk_ix, ↓zk_dv, ↓zk_bo, ↓zk_rg, ↓zk_get, ↓zk_set, Option.bind_some])
theorem sp_reqCluster (hs : 0 ≤ cl ∧ cl ≤ 6) {x : Int} (hx : jk_R x) : fn_KR_requireCluster cl x = some (if 0 ≤ x ∧ x < cl then .inr () else .inl 1) := by
  unfold fn_KR_requireCluster
  rw [zk_bd (sp_hasC hs hx)]
  by_cases h : 0 ≤ x ∧ x < cl
  · rw [if_pos h, if_pos h]; (try simp (disch := omega) only [↓zk_lt, ↓zk_nl, ↓zk_eq, ↓zk_ne, ↓zk_ix, ↓zk_dv, ↓zk_bo, ↓zk_rg, ↓zk_get, ↓zk_set, Option.bind_some])
  · rw [if_neg h, if_neg h]; (try simp (disch := omega) only [↓zk_lt, ↓zk_nl, ↓zk_eq, ↓zk_ne, ↓zk_ix, ↓zk_dv, ↓zk_bo, ↓zk_rg, ↓zk_get, ↓zk_set, Option.bind_some])
end P6

section P7
variable {cl sz tn : Int} {st dp tp va nb g w : Int → Int}
theorem sp_nibAll (I : pI cl sz tn st dp tp va nb g) : fn_Cords_nibbledAmong nb 0 sz = some (pCt (fun j => decide (0 < nb j)) 0 sz.toNat) := by
  have hsz := I.1.2.1
  have := sp_nib (nb := nb) (a := 0) (b := sz) (by omega) (by omega) (by omega) (fun j h2 h3 => (I.2.2 j h2 h3).2.2.2.2.1)
  rw [Int.sub_zero] at this
  exact this
end P7

/-! rows of numbers: put in, taken out -/
def ins (f : Int → Int) (a v sz : Int) : Int → Int := fun j => if j < a then f j else if j = a then v else if j ≤ sz then f (j - 1) else f j
def rem (f : Int → Int) (a b sz : Int) : Int → Int := fun j => if a ≤ j ∧ j < sz - (b - a) then f (j + (b - a)) else f j
def rsz (st : Int → Int) (c cl m : Int) : Int → Int := fun j => if c < j ∧ j ≤ cl then st j + m else st j
theorem sp_ins_b {f : Int → Int} {a v sz : Int} (ha : 0 ≤ a) (hs : sz < 40) : ∀ (n k : Nat) (t : Int → Int) (i : Int), i = a + k → i ≤ sz → (∀ j, t j = if i < j ∧ j ≤ sz then f (j - 1) else f j) → k < n → fn_Row_insert_b3 n 40 t a v i = some (ins f a v sz) := by
  intro n
  induction n with
  | zero => intro k t i _ _ _ h; omega
  | succ n ih =>
    intro k t i hi h1 ht hk
    rw [fn_Row_insert_b3]
    cases k with
    | zero =>
      (try simp (disch := omega) only [↓zk_lt, ↓zk_nl, ↓zk_eq, ↓zk_ne, ↓zk_ix, ↓zk_dv, ↓zk_bo, ↓zk_rg, ↓zk_get, ↓zk_set, Option.bind_some])
      congr 1
      funext j
      unfold ins jk_up
      by_cases e : j = a
      · rw [if_pos e, if_neg (by omega), if_pos e]
      · rw [if_neg e, ht j]
        by_cases e2 : j < a
        · rw [if_pos e2, if_neg (by omega)]
        · rw [if_neg e2, if_neg e]
          by_cases e3 : j ≤ sz
          · rw [if_pos (by omega), if_pos e3]
          · rw [if_neg (by omega), if_neg e3]
    | succ k =>
      (try simp (disch := omega) only [↓zk_lt, ↓zk_nl, ↓zk_eq, ↓zk_ne, ↓zk_ix, ↓zk_dv, ↓zk_bo, ↓zk_rg, ↓zk_get, ↓zk_set, Option.bind_some])
      refine ih k _ _ (by omega) (by omega) (fun j => ?_) (by omega)
      unfold jk_up
      by_cases e : j = i
      · rw [if_pos e, if_pos (by omega), ht (i - 1), if_neg (by omega), e]
      · rw [if_neg e, ht j]
        by_cases e2 : i < j ∧ j ≤ sz
        · rw [if_pos e2, if_pos (by omega)]
        · rw [if_neg e2, if_neg (by omega)]
theorem sp_ins {f : Int → Int} {a v sz : Int} (ha : 0 ≤ a) (ha2 : a ≤ sz) (hs : sz < 40) : fn_Row_insert 40 f a v sz = some (ins f a v sz) := by
  have hF := jk_F_big
  unfold fn_Row_insert
  exact sp_ins_b ha hs jk_F (sz - a).toNat f sz (by omega) (by omega) (fun j => by rw [if_neg (by omega)]) (by omega)
theorem sp_rem_b {f : Int → Int} {a b sz : Int} (ha : 0 ≤ a) (hab : a < b) (hb : b ≤ sz) (hs : sz ≤ 40) : ∀ (n k : Nat) (t : Int → Int) (i : Int), i + k = sz - b → 0 ≤ i → (∀ j, t j = if a ≤ j ∧ j < a + i then f (j + (b - a)) else f j) → k < n → fn_Row_remove_b3 n 40 t a b sz i = some (rem f a b sz) := by
  intro n
  induction n with
  | zero => intro k t i _ _ _ h; omega
  | succ n ih =>
    intro k t i hi h1 ht hk
    rw [fn_Row_remove_b3]
    cases k with
    | zero =>
      (try simp (disch := omega) only [↓zk_lt, ↓zk_nl, ↓zk_eq, ↓zk_ne, ↓zk_ix, ↓zk_dv, ↓zk_bo, ↓zk_rg, ↓zk_get, ↓zk_set, Option.bind_some])
      congr 1
      funext j
      unfold rem
      rw [ht j]
      by_cases e : a ≤ j ∧ j < a + i
      · rw [if_pos e, if_pos (by omega)]
      · rw [if_neg e, if_neg (by omega)]
    | succ k =>
      (try simp (disch := omega) only [↓zk_lt, ↓zk_nl, ↓zk_eq, ↓zk_ne, ↓zk_ix, ↓zk_dv, ↓zk_bo, ↓zk_rg, ↓zk_get, ↓zk_set, Option.bind_some])
      refine ih k _ _ (by omega) (by omega) (fun j => ?_) (by omega)
      unfold jk_up
      by_cases e : j = a + i
      · rw [if_pos e, if_pos (by omega), ht (b + i), if_neg (by omega), e]
        congr 1
        omega
      · rw [if_neg e, ht j]
        by_cases e2 : a ≤ j ∧ j < a + i
        · rw [if_pos e2, if_pos (by omega)]
        · rw [if_neg e2, if_neg (by omega)]
theorem sp_rem {f : Int → Int} {a b sz : Int} (ha : 0 ≤ a) (hab : a < b) (hb : b ≤ sz) (hs : sz ≤ 40) : fn_Row_remove 40 f a b sz = some (rem f a b sz) := by
  have hF := jk_F_big
  unfold fn_Row_remove
  exact sp_rem_b ha hab hb hs jk_F (sz - b).toNat f 0 (by omega) (by omega) (fun j => by rw [if_neg (by omega)]) (by omega)
theorem sp_rsz_b {st : Int → Int} {c cl m s : Int} (hc : 0 ≤ c) (hcl : cl ≤ 6) : ∀ (n k : Nat) (t : Int → Int) (i : Int), i + k = cl + 1 → c < i → (∀ j, t j = if c < j ∧ j < i then st j + m else st j) → k < n → fn_Cords_resize_b14 n cl s t m i = some (s, rsz st c cl m) := by
  intro n
  induction n with
  | zero => intro k t i _ _ _ h; omega
  | succ n ih =>
    intro k t i hi h1 ht hk
    rw [fn_Cords_resize_b14]
    cases k with
    | zero =>
      (try simp (disch := omega) only [↓zk_lt, ↓zk_nl, ↓zk_eq, ↓zk_ne, ↓zk_ix, ↓zk_dv, ↓zk_bo, ↓zk_rg, ↓zk_get, ↓zk_set, Option.bind_some])
      congr 2
      funext j
      unfold rsz
      rw [ht j]
      by_cases e : c < j ∧ j < i
      · rw [if_pos e, if_pos (by omega)]
      · rw [if_neg e, if_neg (by omega)]
    | succ k =>
      (try simp (disch := omega) only [↓zk_lt, ↓zk_nl, ↓zk_eq, ↓zk_ne, ↓zk_ix, ↓zk_dv, ↓zk_bo, ↓zk_rg, ↓zk_get, ↓zk_set, Option.bind_some])
      refine ih k _ _ (by omega) (by omega) (fun j => ?_) (by omega)
      unfold jk_up
      by_cases e : j = i
      · rw [if_pos e, if_pos (by omega), ht i, if_neg (by omega), e]
      · rw [if_neg e, ht j]
        by_cases e2 : c < j ∧ j < i
        · rw [if_pos e2, if_pos (by omega)]
        · rw [if_neg e2, if_neg (by omega)]
theorem sp_rsz {st : Int → Int} {c cl m sz : Int} (hc : 0 ≤ c) (hc2 : c ≤ cl) (hcl : cl ≤ 6) : fn_Cords_resize cl sz st c m = some (sz + m, rsz st c cl m) := by
  have hF := jk_F_big
  unfold fn_Cords_resize
  exact sp_rsz_b hc hcl jk_F (cl - c).toNat st (c + 1) (by omega) (by omega) (fun j => by rw [if_neg (by omega)]) (by omega)
/-- the topics' part of the reference's array is as it was -/
def pU (w w' : Int → Int) : Prop := w' 0 = w 0 ∧ ∀ i, 3 ≤ i → i < 59 → w' i = w i
theorem pU_rfl (w : Int → Int) : pU w w := ⟨rfl, fun _ _ _ => rfl⟩
theorem pU_tr {a b c : Int → Int} (h : pU a b) (k : pU b c) : pU a c := ⟨k.1.trans h.1, fun i h1 h2 => (k.2 i h1 h2).trans (h.2 i h1 h2)⟩
section P8
variable {cl sz tn : Int} {st dp tp va nb g w : Int → Int}
theorem sp_cins (I : pI cl sz tn st dp tp va nb g) {a c d t v : Int} (hs : sz < 40) (ha : 0 ≤ a) (ha2 : a ≤ sz) (hc : 0 ≤ c) (hc2 : c ≤ cl) : fn_Cords_insert cl sz st dp tp va nb a c d t v = some (a, sz + 1, rsz st c cl 1, ins dp a d sz, ins tp a t sz, ins va a v sz, ins nb a 0 sz) := by
  have hcl := I.1.1
  have hsz := I.1.2.1
  unfold fn_Cords_insert
  (try simp (disch := omega) only [↓zk_lt, ↓zk_nl, ↓zk_eq, ↓zk_ne, ↓zk_ix, ↓zk_dv, ↓zk_bo, ↓zk_rg, ↓zk_get, ↓zk_set, Option.bind_some])
  rw [zk_bd (sp_ins ha ha2 hs), zk_bd (sp_ins ha ha2 hs), zk_bd (sp_ins ha ha2 hs), zk_bd (sp_ins ha ha2 hs), zk_bd (sp_rsz hc hc2 (by omega))]
/-- a cord more -/
theorem pI_ins (I : pI cl sz tn st dp tp va nb g) {a c d t v : Int} (hs : sz < 40) (hc : 0 ≤ c) (hc2 : c < cl) (ha : st c ≤ a) (ha2 : a ≤ st (c + 1)) (hd : 0 ≤ d ∧ d ≤ 3) (ht : 0 ≤ t ∧ t < tn) (hv : 0 ≤ v ∧ v ≤ 9999)
    (h1 : a = st c → d ≤ 1) (h2 : st c < a → 1 ≤ d ∧ d ≤ dp (a - 1) + 1) (h3 : a < st (c + 1) → 1 ≤ dp a ∧ dp a ≤ d + 1) :
    pI cl (sz + 1) tn (rsz st c cl 1) (ins dp a d sz) (ins tp a t sz) (ins va a v sz) (ins nb a 0 sz) (ins g a c sz) := by
  have hcl := I.1.1
  have hsz := I.1.2.1
  have s1 := pI_st I (c := c) hc (by omega)
  have s2 := pI_st I (c := c + 1) (by omega) (by omega)
  refine ⟨⟨I.1.1, by omega, I.1.2.2⟩, ⟨?_, ?_, fun e h4 h5 => ?_⟩, fun k h4 h5 => ?_⟩
  · unfold rsz; rw [if_neg (by omega)]; exact I.2.1.1
  · unfold rsz; rw [if_pos (by omega), I.2.1.2.1]
  · have := I.2.1.2.2 e h4 h5
    unfold rsz
    by_cases x : c < e
    · rw [if_pos (by omega), if_pos (by omega)]; omega
    · by_cases y : c = e
      · rw [if_neg (by omega), if_pos (by omega)]; omega
      · rw [if_neg (by omega), if_neg (by omega)]; omega
  · by_cases x : k < a
    · obtain ⟨⟨a1, a2, a3, a4⟩, a5, a6, a7, a8, a9, b1, b2⟩ := I.2.2 k h4 (by omega)
      have e1 : ∀ f : Int → Int, ∀ u, ins f a u sz k = f k := fun f u => by unfold ins; rw [if_pos x]
      have e2 : ∀ f : Int → Int, ∀ u, ins f a u sz (k - 1) = f (k - 1) := fun f u => by unfold ins; rw [if_pos (by omega)]
      have hgc : g k ≤ c := by
        by_cases y : g k ≤ c
        · exact y
        · have := pI_le I (c := c + 1) (d := g k) (by omega) (by omega) (by omega); omega
      have e3 : rsz st c cl 1 (g k) = st (g k) := by unfold rsz; rw [if_neg (by omega)]
      have e4 : st (g k + 1) ≤ rsz st c cl 1 (g k + 1) := by unfold rsz; split <;> omega
      rw [e1, e1, e1, e1, e1, e2, e3]
      exact ⟨⟨a1, a2, a3, by omega⟩, a5, a6, a7, a8, a9, b1, b2⟩
    · by_cases y : k = a
      · subst y
        have e1 : ∀ f : Int → Int, ∀ u, ins f k u sz k = u := fun f u => by unfold ins; rw [if_neg (by omega), if_pos rfl]
        have e2 : ∀ f : Int → Int, ∀ u, ins f k u sz (k - 1) = f (k - 1) := fun f u => by unfold ins; rw [if_pos (by omega)]
        have e3 : rsz st c cl 1 c = st c := by unfold rsz; rw [if_neg (by omega)]
        have e4 : rsz st c cl 1 (c + 1) = st (c + 1) + 1 := by unfold rsz; rw [if_pos (by omega)]
        rw [e1, e1, e1, e1, e1, e2, e3, e4]
        refine ⟨⟨hc, hc2, ha, by omega⟩, hd, ht, hv, ⟨by omega, by omega⟩, ?_, fun z => h1 z.symm, fun z => h2 z⟩
        simp [pw]
      · obtain ⟨⟨a1, a2, a3, a4⟩, a5, a6, a7, a8, a9, b1, b2⟩ := I.2.2 (k - 1) (by omega) (by omega)
        have e1 : ∀ f : Int → Int, ∀ u, ins f a u sz k = f (k - 1) := fun f u => by unfold ins; rw [if_neg x, if_neg y, if_pos (by omega)]
        have hgc : c ≤ g (k - 1) := by
          by_cases z : c ≤ g (k - 1)
          · exact z
          · have := pI_le I (c := g (k - 1) + 1) (d := c) (by omega) (by omega) (by omega); omega
        have e4 : rsz st c cl 1 (g (k - 1) + 1) = st (g (k - 1) + 1) + 1 := by unfold rsz; rw [if_pos (by omega)]
        rw [e1, e1, e1, e1, e1, e4]
        by_cases z : g (k - 1) = c
        · have e3 : rsz st c cl 1 (g (k - 1)) = st (g (k - 1)) := by unfold rsz; rw [if_neg (by omega)]
          rw [e3]
          refine ⟨⟨a1, a2, by omega, by omega⟩, a5, a6, a7, a8, a9, fun q => ?_, fun q => ?_⟩
          · rw [z] at q; omega
          · by_cases u : k - 1 = a
            · have e5 : ins dp a d sz (k - 1) = d := by unfold ins; rw [if_neg (by omega), if_pos u]
              rw [e5, u]
              rw [z] at a4
              exact h3 (by omega)
            · have e5 : ins dp a d sz (k - 1) = dp (k - 1 - 1) := by unfold ins; rw [if_neg (by omega), if_neg u, if_pos (by omega)]
              rw [e5]
              exact b2 (by rw [z]; omega)
        · have e3 : rsz st c cl 1 (g (k - 1)) = st (g (k - 1)) + 1 := by unfold rsz; rw [if_pos (by omega)]
          have hst := pI_le I (c := c + 1) (d := g (k - 1)) (by omega) (by omega) (by omega)
          rw [e3]
          refine ⟨⟨a1, a2, by omega, by omega⟩, a5, a6, a7, a8, a9, fun q => b1 (by omega), fun q => ?_⟩
          have e5 : ins dp a d sz (k - 1) = dp (k - 1 - 1) := by unfold ins; rw [if_neg (by omega), if_neg (by omega), if_pos (by omega)]
          rw [e5]
          exact b2 (by omega)
/-- a branch less -/
theorem pI_rem (I : pI cl sz tn st dp tp va nb g) {a b : Int} (ha : 0 ≤ a) (hab : a < b) (hb : b ≤ st (g a + 1)) (ha2 : a < sz) (h1 : b < st (g a + 1) → dp b ≤ dp a ∨ dp b ≤ 1) (h0 : b < st (g a + 1) → dp b ≤ dp a ∨ a = st (g a)) :
    pI cl (sz - (b - a)) tn (rsz st (g a) cl (-(b - a))) (rem dp a b sz) (rem tp a b sz) (rem va a b sz) (rem nb a b sz) (rem g a b sz) := by
  have hcl := I.1.1
  have hsz := I.1.2.1
  obtain ⟨⟨g1, g2, g3, g4⟩, gd, -, -, -, -, gs1, gs2⟩ := I.2.2 a ha ha2
  have s2 := pI_st I (c := g a + 1) (by omega) (by omega)
  refine ⟨⟨I.1.1, by omega, I.1.2.2⟩, ⟨?_, ?_, fun e h4 h5 => ?_⟩, fun k h4 h5 => ?_⟩
  · unfold rsz; rw [if_neg (by omega)]; exact I.2.1.1
  · unfold rsz; rw [if_pos (by omega), I.2.1.2.1]; omega
  · have := I.2.1.2.2 e h4 h5
    unfold rsz
    by_cases x : g a < e
    · rw [if_pos (by omega), if_pos (by omega)]; omega
    · by_cases y : g a = e
      · rw [if_neg (by omega), if_pos (by omega), ← y]; omega
      · rw [if_neg (by omega), if_neg (by omega)]; omega
  · by_cases x : k < a
    · obtain ⟨⟨a1, a2, a3, a4⟩, a5, a6, a7, a8, a9, b1, b2⟩ := I.2.2 k h4 (by omega)
      have e1 : ∀ f : Int → Int, rem f a b sz k = f k := fun f => by unfold rem; rw [if_neg (by omega)]
      have e2 : ∀ f : Int → Int, rem f a b sz (k - 1) = f (k - 1) := fun f => by unfold rem; rw [if_neg (by omega)]
      have hgc : g k ≤ g a := by
        by_cases y : g k ≤ g a
        · exact y
        · have := pI_le I (c := g a + 1) (d := g k) (by omega) (by omega) (by omega); omega
      have e3 : rsz st (g a) cl (-(b - a)) (g k) = st (g k) := by unfold rsz; rw [if_neg (by omega)]
      have e4 : k < rsz st (g a) cl (-(b - a)) (g k + 1) := by
        unfold rsz
        by_cases y : g k = g a
        · rw [if_pos (by omega), y]; omega
        · rw [if_neg (by omega)]; exact a4
      rw [e1, e1, e1, e1, e1, e2, e3]
      exact ⟨⟨a1, a2, a3, e4⟩, a5, a6, a7, a8, a9, b1, b2⟩
    · obtain ⟨⟨a1, a2, a3, a4⟩, a5, a6, a7, a8, a9, b1, b2⟩ := I.2.2 (k + (b - a)) (by omega) (by omega)
      have e1 : ∀ f : Int → Int, rem f a b sz k = f (k + (b - a)) := fun f => by unfold rem; rw [if_pos (by omega)]
      have hgc : g a ≤ g (k + (b - a)) := by
        by_cases z : g a ≤ g (k + (b - a))
        · exact z
        · have := pI_le I (c := g (k + (b - a)) + 1) (d := g a) (by omega) (by omega) (by omega); omega
      have e4 : rsz st (g a) cl (-(b - a)) (g (k + (b - a)) + 1) = st (g (k + (b - a)) + 1) - (b - a) := by unfold rsz; rw [if_pos (by omega)]; omega
      rw [e1, e1, e1, e1, e1, e4]
      by_cases z : g (k + (b - a)) = g a
      · have e3 : rsz st (g a) cl (-(b - a)) (g (k + (b - a))) = st (g (k + (b - a))) := by unfold rsz; rw [if_neg (by omega)]
        rw [e3]
        have hstart : st (g (k + (b - a))) ≤ a := by rw [z]; exact g3
        refine ⟨⟨a1, a2, by omega, by omega⟩, a5, a6, a7, a8, a9, fun q => ?_, fun q => ?_⟩
        · have hk : k = a := by omega
          have e6 : k + (b - a) = b := by omega
          rw [e6] at a4 z ⊢
          rw [z] at a4
          rw [e6] at q
          rw [z] at q
          have := gs1 (by omega)
          rcases h1 a4 with h | h <;> omega
        · by_cases u : k = a
          · have e5 : rem dp a b sz (k - 1) = dp (k - 1) := by unfold rem; rw [if_neg (by omega)]
            have e6 : k + (b - a) = b := by omega
            have b3 := b2 (by omega)
            rw [e5]
            rw [e6] at z a4 b3 q ⊢
            rw [z] at a4 q
            have := gs2 (by omega)
            rw [u]
            rcases h0 a4 with h | h <;> omega
          · have e5 : rem dp a b sz (k - 1) = dp (k + (b - a) - 1) := by
              unfold rem
              rw [if_pos (by omega)]
              congr 1
              omega
            rw [e5]
            exact b2 (by omega)
      · have e3 : rsz st (g a) cl (-(b - a)) (g (k + (b - a))) = st (g (k + (b - a))) - (b - a) := by unfold rsz; rw [if_pos (by omega)]; omega
        have hst := pI_le I (c := g a + 1) (d := g (k + (b - a))) (by omega) (by omega) (by omega)
        rw [e3]
        refine ⟨⟨a1, a2, by omega, by omega⟩, a5, a6, a7, a8, a9, fun q => b1 (by omega), fun q => ?_⟩
        have e5 : rem dp a b sz (k - 1) = dp (k + (b - a) - 1) := by
          unfold rem
          rw [if_pos (by omega)]
          congr 1
          omega
        rw [e5]
        exact b2 (by omega)
end P8

section P9
variable {cl sz tn : Int} {st dp tp va nb g w : Int → Int}
/-- the array with a gap for a cord -/
def wsh (w : Int → Int) (a sz : Int) : Int → Int := fun i => if 59 + 5 * (a + 1) ≤ i ∧ i < 59 + 5 * (sz + 1) then w (i - 5) else w i
def wins (w : Int → Int) (a c d t v sz : Int) : Int → Int := jk_up (jk_up (jk_up (jk_up (jk_up (jk_up (wsh w a sz) (59 + 5 * a + 0) c) (59 + 5 * a + 1) d) (59 + 5 * a + 2) t) (59 + 5 * a + 3) v) (59 + 5 * a + 4) 0) 2 (sz + 1)
theorem pM_ins (M : pM cl sz dp tp va nb g w) (hs0 : 0 ≤ sz) {a c d t v : Int} (ha : 0 ≤ a) (ha2 : a ≤ sz) : pM cl (sz + 1) (ins dp a d sz) (ins tp a t sz) (ins va a v sz) (ins nb a 0 sz) (ins g a c sz) (wins w a c d t v sz) ∧ pU w (wins w a c d t v sz) := by
  have lo : ∀ i, i < 59 → ¬ i = 2 → wins w a c d t v sz i = w i := fun i h1 h2 => by
    unfold wins
    simp (disch := omega) only [up_ne]
    unfold wsh
    rw [if_neg (by omega)]
  refine ⟨⟨?_, ?_, fun k h0 h1 => ?_⟩, lo 0 (by omega) (by omega), fun i h0 h1 => lo i h1 (by omega)⟩
  · rw [lo 1 (by omega) (by omega), M.1]
  · unfold wins; rw [up_eq rfl]
  · by_cases x : k < a
    · have e1 : ∀ f : Int → Int, ∀ u, ins f a u sz k = f k := fun f u => by unfold ins; rw [if_pos x]
      have e2 : ∀ y, 0 ≤ y → y ≤ 4 → wins w a c d t v sz (59 + 5 * k + y) = w (59 + 5 * k + y) := fun y h2 h3 => by
        unfold wins
        simp (disch := omega) only [up_ne]
        unfold wsh
        rw [if_neg (by omega)]
      rw [e1, e1, e1, e1, e1, e2 0 (by omega) (by omega), e2 1 (by omega) (by omega), e2 2 (by omega) (by omega), e2 3 (by omega) (by omega), e2 4 (by omega) (by omega)]
      exact M.2.2 k h0 (by omega)
    · by_cases y : k = a
      · subst y
        have e1 : ∀ f : Int → Int, ∀ u, ins f k u sz k = u := fun f u => by unfold ins; rw [if_neg (by omega), if_pos rfl]
        rw [e1, e1, e1, e1, e1]
        unfold wins
        refine ⟨?_, ?_, ?_, ?_, ?_⟩ <;> simp (disch := omega) only [up_ne, up_eq]
      · have e1 : ∀ f : Int → Int, ∀ u, ins f a u sz k = f (k - 1) := fun f u => by unfold ins; rw [if_neg x, if_neg y, if_pos (by omega)]
        have e2 : ∀ y, 0 ≤ y → y ≤ 4 → wins w a c d t v sz (59 + 5 * k + y) = w (59 + 5 * (k - 1) + y) := fun y h2 h3 => by
          unfold wins
          simp (disch := omega) only [up_ne]
          unfold wsh
          rw [if_pos (by omega)]
          congr 1
          omega
        rw [e1, e1, e1, e1, e1, e2 0 (by omega) (by omega), e2 1 (by omega) (by omega), e2 2 (by omega) (by omega), e2 3 (by omega) (by omega), e2 4 (by omega) (by omega)]
        exact M.2.2 (k - 1) (by omega) (by omega)
def wrem (w : Int → Int) (a b sz : Int) : Int → Int := fun i => if 59 + 5 * a ≤ i ∧ i < 59 + 5 * (sz - (b - a)) then w (i + 5 * (b - a)) else if i = 2 then sz - (b - a) else w i
theorem pM_rem (M : pM cl sz dp tp va nb g w) {a b : Int} (ha : 0 ≤ a) (hab : a < b) (hb : b ≤ sz) : pM cl (sz - (b - a)) (rem dp a b sz) (rem tp a b sz) (rem va a b sz) (rem nb a b sz) (rem g a b sz) (wrem w a b sz) ∧ pU w (wrem w a b sz) := by
  have lo : ∀ i, i < 59 → ¬ i = 2 → wrem w a b sz i = w i := fun i h1 h2 => by
    unfold wrem
    rw [if_neg (by omega), if_neg h2]
  refine ⟨⟨?_, ?_, fun k h0 h1 => ?_⟩, lo 0 (by omega) (by omega), fun i h0 h1 => lo i h1 (by omega)⟩
  · rw [lo 1 (by omega) (by omega), M.1]
  · unfold wrem; rw [if_neg (by omega), if_pos rfl]
  · by_cases x : k < a
    · have e1 : ∀ f : Int → Int, rem f a b sz k = f k := fun f => by unfold rem; rw [if_neg (by omega)]
      have e2 : ∀ y, 0 ≤ y → y ≤ 4 → wrem w a b sz (59 + 5 * k + y) = w (59 + 5 * k + y) := fun y h2 h3 => by
        unfold wrem
        rw [if_neg (by omega), if_neg (by omega)]
      rw [e1, e1, e1, e1, e1, e2 0 (by omega) (by omega), e2 1 (by omega) (by omega), e2 2 (by omega) (by omega), e2 3 (by omega) (by omega), e2 4 (by omega) (by omega)]
      exact M.2.2 k h0 (by omega)
    · have e1 : ∀ f : Int → Int, rem f a b sz k = f (k + (b - a)) := fun f => by unfold rem; rw [if_pos (by omega)]
      have e2 : ∀ y, 0 ≤ y → y ≤ 4 → wrem w a b sz (59 + 5 * k + y) = w (59 + 5 * (k + (b - a)) + y) := fun y h2 h3 => by
        unfold wrem
        rw [if_pos (by omega)]
        congr 1
        omega
      rw [e1, e1, e1, e1, e1, e2 0 (by omega) (by omega), e2 1 (by omega) (by omega), e2 2 (by omega) (by omega), e2 3 (by omega) (by omega), e2 4 (by omega) (by omega)]
      exact M.2.2 (k + (b - a)) (by omega) (by omega)
/-- one number of one cord anew -/
theorem pM_up (M : pM cl sz dp tp va nb g w) {k y v : Int} (h0 : 0 ≤ k) (h2 : 0 ≤ y) (h3 : y ≤ 4) {dp' tp' va' nb' : Int → Int} (hy : ¬ y = 0)
    (e1 : dp' = if y = 1 then jk_up dp k v else dp) (e2 : tp' = if y = 2 then jk_up tp k v else tp) (e3 : va' = if y = 3 then jk_up va k v else va) (e4 : nb' = if y = 4 then jk_up nb k v else nb) : pM cl sz dp' tp' va' nb' g (jk_up w (59 + 5 * k + y) v) ∧ pU w (jk_up w (59 + 5 * k + y) v) := by
  have lo : ∀ i, i < 59 → jk_up w (59 + 5 * k + y) v i = w i := fun i h1 => up_ne (by omega)
  refine ⟨⟨?_, ?_, fun j h4 h5 => ?_⟩, lo 0 (by omega), fun i _ h1 => lo i h1⟩
  · rw [lo 1 (by omega), M.1]
  · rw [lo 2 (by omega), M.2.1]
  · obtain ⟨a0, a1, a2, a3, a4⟩ := M.2.2 j h4 h5
    subst e1; subst e2; subst e3; subst e4
    have go : ∀ (z : Int) (f : Int → Int), 0 ≤ z → z ≤ 4 → w (59 + 5 * j + z) = f j → jk_up w (59 + 5 * k + y) v (59 + 5 * j + z) = (if y = z then jk_up f k v else f) j := fun z f h6 h7 h8 => by
      by_cases u : y = z
      · rw [if_pos u]
        by_cases q : j = k
        · rw [up_eq (by omega), up_eq q]
        · rw [up_ne (by omega), up_ne q, h8]
      · rw [if_neg u, up_ne (by omega), h8]
    refine ⟨?_, go 1 dp (by omega) (by omega) a1, go 2 tp (by omega) (by omega) a2, go 3 va (by omega) (by omega) a3, go 4 nb (by omega) (by omega) a4⟩
    rw [up_ne (by omega), a0]
theorem pI_tp (I : pI cl sz tn st dp tp va nb g) {k v : Int} (hv : 0 ≤ v ∧ v < tn) : pI cl sz tn st dp (jk_up tp k v) va nb g := by
  refine ⟨I.1, I.2.1, fun j h0 h1 => ?_⟩
  obtain ⟨a1, a2, a3, a4⟩ := I.2.2 j h0 h1
  refine ⟨a1, a2, ?_, a4⟩
  by_cases e : j = k
  · rw [up_eq e]; exact hv
  · rw [up_ne e]; exact a3
theorem pI_vn (I : pI cl sz tn st dp tp va nb g) {k v b : Int} (hv : 0 ≤ v ∧ v ≤ 9999) (hb : 0 ≤ b ∧ b ≤ 4) (hd : v / pw b * pw b = v) : pI cl sz tn st dp tp (jk_up va k v) (jk_up nb k b) g := by
  refine ⟨I.1, I.2.1, fun j h0 h1 => ?_⟩
  obtain ⟨a1, a2, a3, a4, a5, a6, a7⟩ := I.2.2 j h0 h1
  by_cases e : j = k
  · rw [up_eq e, up_eq e]; exact ⟨a1, a2, a3, hv, hb, hd, a7⟩
  · rw [up_ne e, up_ne e]; exact ⟨a1, a2, a3, a4, a5, a6, a7⟩
theorem pI_v (I : pI cl sz tn st dp tp va nb g) {k v : Int} (hk : 0 ≤ k) (hk2 : k < sz) (hv : 0 ≤ v ∧ v ≤ 9999) (hd : v / pw (nb k) * pw (nb k) = v) : pI cl sz tn st dp tp (jk_up va k v) nb g := by
  have hb := (I.2.2 k hk hk2).2.2.2.2.1
  have h := pI_vn I (k := k) hv hb hd
  have e : jk_up nb k (nb k) = nb := by
    funext j
    by_cases u : j = k
    · rw [up_eq u, u]
    · rw [up_ne u]
  rw [e] at h
  exact h
theorem pI_cl (I : pI cl sz tn st dp tp va nb g) (hc : cl < 6) : pI (cl + 1) sz tn (jk_up st (cl + 1) sz) dp tp va nb g := by
  have hcl := I.1.1
  have hsz := I.1.2.1
  refine ⟨⟨by omega, I.1.2⟩, ⟨?_, up_eq rfl, fun c h0 h1 => ?_⟩, fun j h0 h1 => ?_⟩
  · rw [up_ne (by omega)]; exact I.2.1.1
  · by_cases e : c = cl
    · rw [up_ne (by omega), up_eq (by omega), e]
      have := I.2.1.2.1
      omega
    · rw [up_ne (by omega), up_ne (by omega)]
      exact I.2.1.2.2 c h0 (by omega)
  · obtain ⟨⟨a1, a2, a3, a4⟩, a5⟩ := I.2.2 j h0 h1
    rw [up_ne (by omega), up_ne (by omega)]
    exact ⟨⟨a1, by omega, a3, a4⟩, a5⟩
theorem pM_cl (M : pM cl sz dp tp va nb g w) : pM (cl + 1) sz dp tp va nb g (jk_up w 1 (cl + 1)) ∧ pU w (jk_up w 1 (cl + 1)) := by
  refine ⟨⟨up_eq rfl, ?_, fun j h0 h1 => ?_⟩, up_ne (by omega), fun i h0 h1 => up_ne (by omega)⟩
  · rw [up_ne (by omega), M.2.1]
  · rw [up_ne (by omega), up_ne (by omega), up_ne (by omega), up_ne (by omega), up_ne (by omega)]
    exact M.2.2 j h0 h1
end P9

/-! the changes: what each makes, on both sides -/
def pC (tn cl sz : Int) (st dp tp va nb w : Int → Int) : Prop := (∃ g, pI cl sz tn st dp tp va nb g ∧ pM cl sz dp tp va nb g w) ∧ ∀ j, 0 ≤ j → j < 40 → jk_R (dp j)
def pP (tn cl sz : Int) (st dp tp va nb w : Int → Int) (K A B C : Int) (md : Option (Int × (Int → Int))) : Prop :=
  ∃ (r cl' sz' : Int) (st' dp' tp' va' nb' w' : Int → Int), fn_KR_perform cl sz st dp tp va nb K A B C = some (r, cl', sz', st', dp', tp', va', nb') ∧ md = some (r, w') ∧ pC tn cl' sz' st' dp' tp' va' nb' w' ∧ pU w w' ∧ 0 ≤ r ∧ r < 1000000
section PA
variable {cl sz tn : Int} {st dp tp va nb w : Int → Int}
theorem pG_ins {a d : Int} (h : ∀ j, 0 ≤ j → j < 40 → jk_R (dp j)) (ha : 0 ≤ a) (hd : jk_R d) : ∀ j, 0 ≤ j → j < 40 → jk_R (ins dp a d sz j) := by
  intro j h0 h1
  unfold ins
  by_cases x : j < a
  · rw [if_pos x]; exact h j h0 h1
  · rw [if_neg x]
    by_cases y : j = a
    · rw [if_pos y]; exact hd
    · rw [if_neg y]
      by_cases z : j ≤ sz
      · rw [if_pos z]; exact h _ (by omega) (by omega)
      · rw [if_neg z]; exact h j h0 h1
theorem pG_rem {a b : Int} (h : ∀ j, 0 ≤ j → j < 40 → jk_R (dp j)) (hab : a < b) (hs : sz ≤ 40) : ∀ j, 0 ≤ j → j < 40 → jk_R (rem dp a b sz j) := by
  intro j h0 h1
  unfold rem
  by_cases x : a ≤ j ∧ j < sz - (b - a)
  · rw [if_pos x]; exact h _ (by omega) (by omega)
  · rw [if_neg x]; exact h j h0 h1
theorem setk {v x y n : Int} (hv : 0 ≤ v ∧ v ≤ 9999) (hx : 0 ≤ x ∧ x ≤ 9) (hy : 0 ≤ y ∧ y ≤ 3) (hn : 0 ≤ n ∧ n ≤ y) (hd : v / pw n * pw n = v) : (0 ≤ v + (x - v / pw y % 10) * pw y ∧ v + (x - v / pw y % 10) * pw y ≤ 9999) ∧ (v + (x - v / pw y % 10) * pw y) / pw n * pw n = v + (x - v / pw y % 10) * pw y := by
  rcases pw_c hy.1 (by omega) with ⟨a, h⟩ | ⟨a, h⟩ | ⟨a, h⟩ | ⟨a, h⟩ | ⟨a, h⟩ <;> rcases pw_c hn.1 (by omega) with ⟨b, h'⟩ | ⟨b, h'⟩ | ⟨b, h'⟩ | ⟨b, h'⟩ | ⟨b, h'⟩ <;> rw [h'] at hd <;> rw [h, h'] <;> omega
theorem lose_dm {v p : Int} (h0 : 0 ≤ p) (h4 : p ≤ 4) : v / pw p * pw p / pw p * pw p = v / pw p * pw p := by
  have hp := pw_pos h0 h4
  rw [Int.mul_ediv_cancel _ (by omega)]
theorem pks_le {v y : Int} (hv : 0 ≤ v) (hy : 0 ≤ y) (hy4 : y ≤ 4) : pks (v / pw y * pw y) ≤ pks v := by
  unfold pks
  rcases pw_c hy hy4 with ⟨a, h⟩ | ⟨a, h⟩ | ⟨a, h⟩ | ⟨a, h⟩ | ⟨a, h⟩ <;> rw [h]
  · have e0 : v / 1 * 1 = v := by omega
    rw [e0]; omega
  · have e1 : v / 10 * 10 % 10 = 0 := by omega
    have e2 : v / 10 * 10 / 10 = v / 10 := by omega
    have e3 : v / 10 * 10 / 100 = v / 100 := by omega
    have e4 : v / 10 * 10 / 1000 = v / 1000 := by omega
    rw [e1, e2, e3, e4]; omega
  · have e1 : v / 100 * 100 % 10 = 0 := by omega
    have e2 : v / 100 * 100 / 10 % 10 = 0 := by omega
    have e3 : v / 100 * 100 / 100 = v / 100 := by omega
    have e4 : v / 100 * 100 / 1000 = v / 1000 := by omega
    rw [e1, e2, e3, e4]; omega
  · have e1 : v / 1000 * 1000 % 10 = 0 := by omega
    have e2 : v / 1000 * 1000 / 10 % 10 = 0 := by omega
    have e3 : v / 1000 * 1000 / 100 % 10 = 0 := by omega
    have e4 : v / 1000 * 1000 / 1000 = v / 1000 := by omega
    rw [e1, e2, e3, e4]; omega
  · have e1 : v / 10000 * 10000 % 10 = 0 := by omega
    have e2 : v / 10000 * 10000 / 10 % 10 = 0 := by omega
    have e3 : v / 10000 * 10000 / 100 % 10 = 0 := by omega
    have e4 : v / 10000 * 10000 / 1000 % 10 = 0 := by omega
    rw [e1, e2, e3, e4]; omega
end PA

/-! copies; the changes remembered -/
def cpy (n : Int) (t a : Int → Int) : Int → Int := fun j => if 0 ≤ j ∧ j < n then a j else t j
theorem sp_cpy_b {n : Int} (hn : 0 ≤ n ∧ n ≤ 700) {f a : Int → Int} : ∀ (m k : Nat) (t : Int → Int) (i : Int), i + k = n → 0 ≤ i → (∀ j, t j = if 0 ≤ j ∧ j < i then a j else f j) → k < m → fn_Row_copyFrom_b2 m n n t a i = some (cpy n f a) := by
  intro m
  induction m with
  | zero => intro k t i _ _ _ h; omega
  | succ m ih =>
    intro k t i hi h0 ht hk
    rw [fn_Row_copyFrom_b2]
    cases k with
    | zero =>
      (try simp (disch := omega) only [↓zk_lt, ↓zk_nl, ↓zk_eq, ↓zk_ne, ↓zk_ix, ↓zk_dv, ↓zk_bo, ↓zk_rg, ↓zk_get, ↓zk_set, Option.bind_some])
      congr 1
      funext j
      rw [ht j]
      unfold cpy
      rw [show i = n by omega]
    | succ k =>
      (try simp (disch := omega) only [↓zk_lt, ↓zk_nl, ↓zk_eq, ↓zk_ne, ↓zk_ix, ↓zk_dv, ↓zk_bo, ↓zk_rg, ↓zk_get, ↓zk_set, Option.bind_some])
      refine ih k _ _ (by omega) (by omega) (fun j => ?_) (by omega)
      unfold jk_up
      by_cases e : j = i
      · rw [if_pos e, if_pos (by omega), e]
      · rw [if_neg e, ht j]
        by_cases e2 : 0 ≤ j ∧ j < i
        · rw [if_pos e2, if_pos (by omega)]
        · rw [if_neg e2, if_neg (by omega)]
theorem sp_cpy {n : Int} (hn : 0 ≤ n ∧ n ≤ 700) {f a : Int → Int} : fn_Row_copyFrom n n f a = some (cpy n f a) := by
  have hF := jk_F_big
  unfold fn_Row_copyFrom
  exact sp_cpy_b hn jk_F n.toNat f 0 (by omega) (by omega) (fun j => by rw [if_neg (by omega)]) (by omega)
theorem cpy_in {n : Int} {t a : Int → Int} {j : Int} (h0 : 0 ≤ j) (h1 : j < n) : cpy n t a j = a j := by unfold cpy; rw [if_pos ⟨h0, h1⟩]
theorem sp_ccpy {c1 s1 c2 s2 : Int} {a1 a2 a3 a4 a5 b1 b2 b3 b4 b5 : Int → Int} : fn_Cords_copyFrom c1 s1 a1 a2 a3 a4 a5 c2 s2 b1 b2 b3 b4 b5 = some (c2, s2, cpy 7 a1 b1, cpy 40 a2 b2, cpy 40 a3 b3, cpy 40 a4 b4, cpy 40 a5 b5) := by
  unfold fn_Cords_copyFrom
  rw [zk_bd (sp_cpy (by omega)), zk_bd (sp_cpy (by omega)), zk_bd (sp_cpy (by omega)), zk_bd (sp_cpy (by omega)), zk_bd (sp_cpy (by omega))]
theorem pC_ext {tn cl sz : Int} {st dp tp va nb w st' dp' tp' va' nb' w' : Int → Int} (H : pC tn cl sz st dp tp va nb w) (e1 : ∀ j, 0 ≤ j → j < 7 → st' j = st j) (e2 : ∀ j, 0 ≤ j → j < 40 → dp' j = dp j) (e3 : ∀ j, 0 ≤ j → j < 40 → tp' j = tp j) (e4 : ∀ j, 0 ≤ j → j < 40 → va' j = va j) (e5 : ∀ j, 0 ≤ j → j < 40 → nb' j = nb j) (e6 : ∀ j, 0 ≤ j → j < 259 → w' j = w j) : pC tn cl sz st' dp' tp' va' nb' w' := by
  obtain ⟨⟨g, I, M⟩, G⟩ := H
  have hcl := I.1.1
  have hsz := I.1.2.1
  refine ⟨⟨g, ⟨I.1, ⟨?_, ?_, fun c h0 h1 => ?_⟩, fun k h0 h1 => ?_⟩, ?_, ?_, fun k h0 h1 => ?_⟩, fun j h0 h1 => ?_⟩
  · rw [e1 0 (by omega) (by omega)]; exact I.2.1.1
  · rw [e1 cl (by omega) (by omega)]; exact I.2.1.2.1
  · rw [e1 c (by omega) (by omega), e1 (c + 1) (by omega) (by omega)]; exact I.2.1.2.2 c h0 h1
  · obtain ⟨⟨a1, a2, a3, a4⟩, a5, a6, a7, a8, a9, b1, b2⟩ := I.2.2 k h0 h1
    rw [e1 (g k) (by omega) (by omega), e1 (g k + 1) (by omega) (by omega), e2 k (by omega) (by omega), e3 k (by omega) (by omega), e4 k (by omega) (by omega), e5 k (by omega) (by omega)]
    refine ⟨⟨a1, a2, a3, a4⟩, a5, a6, a7, a8, a9, b1, fun h => ?_⟩
    have hs := pI_st I (c := g k) a1 (by omega)
    rw [e2 (k - 1) (by omega) (by omega)]
    exact b2 h
  · rw [e6 1 (by omega) (by omega)]; exact M.1
  · rw [e6 2 (by omega) (by omega)]; exact M.2.1
  · rw [e6 _ (by omega) (by omega), e6 _ (by omega) (by omega), e6 _ (by omega) (by omega), e6 _ (by omega) (by omega), e6 _ (by omega) (by omega), e2 k (by omega) (by omega), e3 k (by omega) (by omega), e4 k (by omega) (by omega), e5 k (by omega) (by omega)]
    exact M.2.2 k h0 h1
  · rw [e2 j h0 h1]; exact G j h0 h1
theorem pC_cpy {tn cl sz : Int} {st dp tp va nb w a1 a2 a3 a4 a5 : Int → Int} (H : pC tn cl sz st dp tp va nb w) : pC tn cl sz (cpy 7 a1 st) (cpy 40 a2 dp) (cpy 40 a3 tp) (cpy 40 a4 va) (cpy 40 a5 nb) w :=
  pC_ext H (fun _ h0 h1 => cpy_in h0 h1) (fun _ h0 h1 => cpy_in h0 h1) (fun _ h0 h1 => cpy_in h0 h1) (fun _ h0 h1 => cpy_in h0 h1) (fun _ h0 h1 => cpy_in h0 h1) (fun _ _ _ => rfl)
/-- a block of the reference's array copied -/
def blk (a b : Int → Int) (x y : Int) : Int → Int := fun j => if y ≤ j ∧ j < y + 259 then a (x + (j - y)) else b j
/-- the ring beside the reference's past -/
def hsl (l i : Int) : Int := (l + 8 - i) % 8
def pH (tn l n : Int) (HC HZ : Int → Int) (HS HD HT HV HN : Int → Int → Int) (w past : Int → Int) : Prop :=
  (0 ≤ l ∧ l < 8) ∧ (0 ≤ n ∧ n ≤ 8) ∧ ∀ i, 0 ≤ i → i < n → pC tn (HC (hsl l i)) (HZ (hsl l i)) (HS (hsl l i)) (HD (hsl l i)) (HT (hsl l i)) (HV (hsl l i)) (HN (hsl l i)) (fun x => past (259 * (n - 1 - i) + x)) ∧ pU w (fun x => past (259 * (n - 1 - i) + x))
def upF (f : Int → Int → Int) (i : Int) (v : Int → Int) : Int → Int → Int := fun j => if j = i then v else f j
theorem pU_sw {a b c : Int → Int} (h : pU a b) (k : pU a c) : pU b c := ⟨k.1.trans h.1.symm, fun i h1 h2 => (k.2 i h1 h2).trans (h.2 i h1 h2).symm⟩
section PB
variable {tn cl sz l n : Int} {HC HZ : Int → Int} {HS HD HT HV HN : Int → Int → Int} {st dp tp va nb w past : Int → Int}
theorem pH_w {w' : Int → Int} (h : pH tn l n HC HZ HS HD HT HV HN w past) (hu : pU w w') : pH tn l n HC HZ HS HD HT HV HN w' past :=
  ⟨h.1, h.2.1, fun i h0 h1 => ⟨(h.2.2 i h0 h1).1, pU_sw hu (h.2.2 i h0 h1).2⟩⟩
end PB

