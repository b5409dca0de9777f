/-! forwards: the words of the translation where what they ask holds -/
theorem zk_lt {α : Type} {x y : Int} {a b : Option α} (h1 : -2147483648 ≤ x) (h2 : x < 2147483648) (h3 : -2147483648 ≤ y) (h4 : y < 2147483648) (h : x < y) : jk_lts x y a b = a := by
  unfold jk_lts; rw [if_pos ⟨⟨h1, h2⟩, ⟨h3, h4⟩⟩, if_pos h]
theorem zk_nl {α : Type} {x y : Int} {a b : Option α} (h1 : -2147483648 ≤ x) (h2 : x < 2147483648) (h3 : -2147483648 ≤ y) (h4 : y < 2147483648) (h : y ≤ x) : jk_lts x y a b = b := by
  unfold jk_lts; rw [if_pos ⟨⟨h1, h2⟩, ⟨h3, h4⟩⟩, if_neg (by omega)]
theorem zk_eq {α : Type} {x y : Int} {a b : Option α} (h1 : -2147483648 ≤ x) (h2 : x < 2147483648) (h : x = y) : jk_eqs x y a b = a := by
  subst h; unfold jk_eqs; rw [if_pos ⟨⟨h1, h2⟩, ⟨h1, h2⟩⟩, if_pos rfl]
theorem zk_ne {α : Type} {x y : Int} {a b : Option α} (h1 : -2147483648 ≤ x) (h2 : x < 2147483648) (h3 : -2147483648 ≤ y) (h4 : y < 2147483648) (h : ¬ x = y) : jk_eqs x y a b = b := by
  unfold jk_eqs; rw [if_pos ⟨⟨h1, h2⟩, ⟨h3, h4⟩⟩, if_neg h]
theorem zk_ix {α : Type} {n i : Int} {a : Option α} (h0 : 0 ≤ i) (h1 : i < n) : jk_ix n i a = a := by
  unfold jk_ix; rw [if_pos ⟨h0, h1⟩]
theorem zk_dv {α : Type} {x y : Int} {a : Option α} (h1 : 0 ≤ x) (h2 : x < 2147483648) (h3 : 0 < y) (h4 : y < 2147483648) : jk_dv x y a = a := by
  unfold jk_dv; rw [if_pos ⟨⟨h1, h2⟩, ⟨h3, h4⟩⟩]
theorem zk_bo {α : Type} {x : Int} {a : Option α} (h0 : 0 ≤ x) (h1 : x ≤ 1) : jk_bo x a = a := by
  unfold jk_bo; rw [if_pos (by omega)]
theorem zk_rg {α : Type} {x : Int} {a : Option α} (h1 : -2147483648 ≤ x) (h2 : x < 2147483648) : jk_rg x a = a := by
  unfold jk_rg; rw [if_pos ⟨h1, h2⟩]
theorem zk_bd {α β : Type} {x : Option α} {q : α} {f : α → Option β} (h : x = some q) : x.bind f = f q := by rw [h]; rfl
theorem sp_get {n i : Int} {f : Int → Int} (h0 : 0 ≤ i) (h1 : i < n) (hn : n < 2147483648) : fn_Row_get n f i = some (f i) := by
  unfold fn_Row_get
  simp (disch := omega) only [↓zk_lt, ↓zk_nl, ↓zk_ix]
theorem zk_get {β : Type} {n i : Int} {f : Int → Int} {g : Int → Option β} (h0 : 0 ≤ i) (h1 : i < n) (hn : n < 2147483648) : (fn_Row_get n f i).bind g = g (f i) := zk_bd (sp_get h0 h1 hn)
theorem sp_set {n i v : Int} {f : Int → Int} (h0 : 0 ≤ i) (h1 : i < n) (hn : n < 2147483648) : fn_Row_set n f i v = some (jk_up f i v) := by
  unfold fn_Row_set
  simp (disch := omega) only [↓zk_lt, ↓zk_nl, ↓zk_ix]
theorem zk_set {β : Type} {n i v : Int} {f : Int → Int} {g : (Int → Int) → Option β} (h0 : 0 ≤ i) (h1 : i < n) (hn : n < 2147483648) : (fn_Row_set n f i v).bind g = g (jk_up f i v) := zk_bd (sp_set h0 h1 hn)
theorem up_eq {f : Int → Int} {i j v : Int} (h : j = i) : jk_up f i v j = v := by unfold jk_up; rw [if_pos h]
theorem up_ne {f : Int → Int} {i j v : Int} (h : ¬ j = i) : jk_up f i v j = f j := by unfold jk_up; rw [if_neg h]
theorem jk_F_big : 50000 < jk_F := by unfold jk_F; omega
/-! places -/
def pw (x : Int) : Int := if x = 0 then 1 else if x = 1 then 10 else if x = 2 then 100 else if x = 3 then 1000 else 10000
theorem pw_c {x : Int} (h0 : 0 ≤ x) (h4 : x ≤ 4) : (x = 0 ∧ pw x = 1) ∨ (x = 1 ∧ pw x = 10) ∨ (x = 2 ∧ pw x = 100) ∨ (x = 3 ∧ pw x = 1000) ∨ (x = 4 ∧ pw x = 10000) := by
  have : x = 0 ∨ x = 1 ∨ x = 2 ∨ x = 3 ∨ x = 4 := by omega
  rcases this with rfl | rfl | rfl | rfl | rfl <;> simp [pw]
theorem pw_pos {x : Int} (h0 : 0 ≤ x) (h4 : x ≤ 4) : 1 ≤ pw x ∧ pw x ≤ 10000 := by
  rcases pw_c h0 h4 with h | h | h | h | h <;> omega
theorem sp_power {x : Int} (h0 : 0 ≤ x) (h4 : x ≤ 4) : fn_Knots_power x = some (pw x) := by
  have : x = 0 ∨ x = 1 ∨ x = 2 ∨ x = 3 ∨ x = 4 := by omega
  rcases this with rfl | rfl | rfl | rfl | rfl <;> decide +kernel
theorem sm_power_b {x : Int} (h4 : x ≤ 4) : ∀ (n k : Nat) (v i : Int), i + k = x → 0 ≤ i → k < n → fn_Md_power_b4 n x v i = some (v * 10 ^ k) := by
  intro n
  induction n with
  | zero => intro k v i _ _ h; omega
  | succ n ih =>
    intro k v i hi h0 hk
    cases k with
    | zero =>
      rw [fn_Md_power_b4]
      simp (disch := omega) only [↓zk_lt, ↓zk_nl]
      simp
    | succ k =>
      rw [fn_Md_power_b4]
      simp (disch := omega) only [↓zk_lt, ↓zk_nl]
      rw [ih k _ _ (by omega) (by omega) (by omega), Int.pow_succ, Int.mul_assoc, Int.mul_comm 10]
theorem sm_power {x : Int} (h0 : 0 ≤ x) (h4 : x ≤ 4) : fn_Md_power x = some (pw x) := by
  have hF := jk_F_big
  unfold fn_Md_power
  rw [sm_power_b h4 jk_F x.toNat 1 0 (by omega) (by omega) (by omega)]
  have : x = 0 ∨ x = 1 ∨ x = 2 ∨ x = 3 ∨ x = 4 := by omega
  rcases this with rfl | rfl | rfl | rfl | rfl <;> decide +kernel
def pdv (v : Int) : Nat → Int
  | 0 => v
  | k + 1 => pdv (v / 10) k
theorem sp_wl_b {d : Int} (hd : d ≤ 10) : ∀ (n k : Nat) (v i : Int), i + k = d → 0 ≤ i → 0 ≤ v → v < 2147483648 → k < n → fn_Knots_withoutLast_b4 n d v i = some (pdv v k) := by
  intro n
  induction n with
  | zero => intro k v i _ _ _ _ h; omega
  | succ n ih =>
    intro k v i hi h0 hv hv2 hk
    cases k with
    | zero =>
      rw [fn_Knots_withoutLast_b4]
      simp (disch := omega) only [↓zk_lt, ↓zk_nl, ↓zk_eq, ↓zk_ne, ↓zk_ix, ↓zk_dv, ↓zk_bo, ↓zk_rg, ↓zk_get, ↓zk_set, Option.bind_some]
      rfl
    | succ k =>
      rw [fn_Knots_withoutLast_b4]
      simp (disch := omega) only [↓zk_lt, ↓zk_nl, ↓zk_eq, ↓zk_ne, ↓zk_ix, ↓zk_dv, ↓zk_bo, ↓zk_rg, ↓zk_get, ↓zk_set, Option.bind_some]
      rw [ih k _ _ (by omega) (by omega) (by omega) (by omega) (by omega)]
      rfl
theorem sp_wl {v d : Int} (h0 : 0 ≤ d) (h4 : d ≤ 4) (hv : 0 ≤ v) (hv2 : v < 2147483648) : fn_Knots_withoutLast v d = some (v / pw d) := by
  have hF := jk_F_big
  unfold fn_Knots_withoutLast
  rw [sp_wl_b (by omega) jk_F d.toNat v 0 (by omega) (by omega) hv hv2 (by omega)]
  have : d = 0 ∨ d = 1 ∨ d = 2 ∨ d = 3 ∨ d = 4 := by omega
  rcases this with rfl | rfl | rfl | rfl | rfl
  · show some v = some (v / 1); congr 1; omega
  · show some (v / 10) = some (v / 10); rfl
  · show some (v / 10 / 10) = some (v / 100); congr 1; omega
  · show some (v / 10 / 10 / 10) = some (v / 1000); congr 1; omega
  · show some (v / 10 / 10 / 10 / 10) = some (v / 10000); congr 1; omega
theorem pw_div {v d : Int} (h0 : 0 ≤ d) (h4 : d ≤ 4) (hv : 0 ≤ v) : 0 ≤ v / pw d ∧ v / pw d ≤ v := by
  rcases pw_c h0 h4 with ⟨_, h⟩ | ⟨_, h⟩ | ⟨_, h⟩ | ⟨_, h⟩ | ⟨_, h⟩ <;> rw [h] <;> omega
theorem pw_dm {v d : Int} (h0 : 0 ≤ d) (h4 : d ≤ 4) (hv : 0 ≤ v) : 0 ≤ v / pw d * pw d ∧ v / pw d * pw d ≤ v := by
  rcases pw_c h0 h4 with ⟨_, h⟩ | ⟨_, h⟩ | ⟨_, h⟩ | ⟨_, h⟩ | ⟨_, h⟩ <;> rw [h] <;> omega
theorem sp_at {v d : Int} (h0 : 0 ≤ d) (h4 : d ≤ 4) (hv : 0 ≤ v) (hv2 : v < 2147483648) : fn_Knots_at v d = some (v / pw d % 10) := by
  have := pw_div h0 h4 hv
  unfold fn_Knots_at
  rw [zk_bd (sp_wl h0 h4 hv hv2)]
  simp (disch := omega) only [↓zk_lt, ↓zk_nl, ↓zk_eq, ↓zk_ne, ↓zk_ix, ↓zk_dv, ↓zk_bo, ↓zk_rg, ↓zk_get, ↓zk_set, Option.bind_some]
theorem sp_lose {v d : Int} (h0 : 0 ≤ d) (h4 : d ≤ 4) (hv : 0 ≤ v) (hv2 : v < 2147483648) : fn_Knots_lose v d = some (v / pw d * pw d) := by
  unfold fn_Knots_lose
  rw [zk_bd (sp_wl h0 h4 hv hv2), zk_bd (sp_power h0 h4)]
/-- the knots of a value -/
def pks (v : Int) : Int := v % 10 + v / 10 % 10 + v / 100 % 10 + v / 1000 % 10
theorem pks_r (v : Int) : 0 ≤ pks v ∧ pks v ≤ 36 := by unfold pks; omega
theorem sp_ksum {v : Int} (hv : 0 ≤ v) (hv2 : v < 2147483648) : fn_Knots_sum v = some (pks v) := by
  have h0 := sp_at (v := v) (d := 0) (by omega) (by omega) hv hv2
  have h1 := sp_at (v := v) (d := 1) (by omega) (by omega) hv hv2
  have h2 := sp_at (v := v) (d := 2) (by omega) (by omega) hv hv2
  have h3 := sp_at (v := v) (d := 3) (by omega) (by omega) hv hv2
  unfold fn_Knots_sum
  rw [show jk_F = 99996 + 1 + 1 + 1 + 1 from rfl, fn_Knots_sum_b4]
  simp (disch := omega) only [↓zk_lt, ↓zk_nl, ↓zk_eq, ↓zk_ne, ↓zk_ix, ↓zk_dv, ↓zk_bo, ↓zk_rg, ↓zk_get, ↓zk_set, Option.bind_some]
  rw [zk_bd h0]
  rw [show (99996 + 1 + 1 + 1 : Nat) = (99996 + 1 + 1) + 1 from rfl, fn_Knots_sum_b4]
  simp (disch := omega) only [↓zk_lt, ↓zk_nl, ↓zk_eq, ↓zk_ne, ↓zk_ix, ↓zk_dv, ↓zk_bo, ↓zk_rg, ↓zk_get, ↓zk_set, Option.bind_some]
  rw [show (0 + 1 : Int) = 1 from rfl, zk_bd h1, fn_Knots_sum_b4]
  simp (disch := omega) only [↓zk_lt, ↓zk_nl, ↓zk_eq, ↓zk_ne, ↓zk_ix, ↓zk_dv, ↓zk_bo, ↓zk_rg, ↓zk_get, ↓zk_set, Option.bind_some]
  rw [show (1 + 1 : Int) = 2 from rfl, zk_bd h2, fn_Knots_sum_b4]
  simp (disch := omega) only [↓zk_lt, ↓zk_nl, ↓zk_eq, ↓zk_ne, ↓zk_ix, ↓zk_dv, ↓zk_bo, ↓zk_rg, ↓zk_get, ↓zk_set, Option.bind_some]
  rw [show (2 + 1 : Int) = 3 from rfl, zk_bd h3, show (99996 : Nat) = 99995 + 1 from rfl, fn_Knots_sum_b4]
  simp (disch := omega) only [↓zk_lt, ↓zk_nl, ↓zk_eq, ↓zk_ne, ↓zk_ix, ↓zk_dv, ↓zk_bo, ↓zk_rg, ↓zk_get, ↓zk_set, Option.bind_some]
  simp only [pw, pks]
  congr 1
  simp
