/-! the words of a text -/
def cls (x : Int) : Int := if x = 32 ∨ x = 10 then 1 else if 97 ≤ x ∧ x ≤ 122 then 2 else if 48 ≤ x ∧ x ≤ 57 then 3 else if x = 59 then 4 else 5
theorem cls_r (x : Int) : 1 ≤ cls x ∧ cls x ≤ 5 := by
  unfold cls
  repeat' split
  all_goals omega
def tSk (f : Int → Int) (p : Int) : Nat → Int
  | 0 => p
  | m + 1 => if cls (f p) = 1 then tSk f (p + 1) m else p
def tRun (f : Int → Int) (k p : Int) : Nat → Int
  | 0 => p
  | m + 1 => if cls (f p) = k then tRun f k (p + 1) m else p
theorem tRun_0 {f : Int → Int} {k p : Int} : tRun f k p 0 = p := rfl
theorem tRun_t {f : Int → Int} {k p : Int} {m : Nat} (h : cls (f p) = k) : tRun f k p (m + 1) = tRun f k (p + 1) m := if_pos h
theorem tRun_f {f : Int → Int} {k p : Int} {m : Nat} (h : ¬ cls (f p) = k) : tRun f k p (m + 1) = p := if_neg h
theorem tSk_r {f : Int → Int} : ∀ (m : Nat) (p : Int), (p ≤ tSk f p m ∧ tSk f p m ≤ p + m) ∧ (∀ i, p ≤ i → i < tSk f p m → cls (f i) = 1) ∧ (tSk f p m < p + m → ¬ cls (f (tSk f p m)) = 1) := by
  intro m
  induction m with
  | zero => intro p; simp only [tSk]; exact ⟨⟨by omega, by omega⟩, fun i h1 h2 => by omega, fun h => by omega⟩
  | succ m ih =>
    intro p
    obtain ⟨⟨h1, h2⟩, h3, h4⟩ := ih (p + 1)
    simp only [tSk]
    by_cases e : cls (f p) = 1
    · simp only [if_pos e]
      refine ⟨⟨by omega, by omega⟩, fun i h5 h6 => ?_, fun h => h4 (by omega)⟩
      by_cases y : i = p
      · rw [y]; exact e
      · exact h3 i (by omega) h6
    · simp only [if_neg e]
      exact ⟨⟨by omega, by omega⟩, fun i h5 h6 => by omega, fun _ => e⟩
theorem tRun_r {f : Int → Int} {k : Int} : ∀ (m : Nat) (p : Int), (p ≤ tRun f k p m ∧ tRun f k p m ≤ p + m) ∧ (∀ i, p ≤ i → i < tRun f k p m → cls (f i) = k) := by
  intro m
  induction m with
  | zero => intro p; simp only [tRun]; exact ⟨⟨by omega, by omega⟩, fun i h1 h2 => by omega⟩
  | succ m ih =>
    intro p
    obtain ⟨⟨h1, h2⟩, h3⟩ := ih (p + 1)
    simp only [tRun]
    by_cases e : cls (f p) = k
    · simp only [if_pos e]
      refine ⟨⟨by omega, by omega⟩, fun i h5 h6 => ?_⟩
      by_cases y : i = p
      · rw [y]; exact e
      · exact h3 i (by omega) h6
    · simp only [if_neg e]
      exact ⟨⟨by omega, by omega⟩, fun i h5 h6 => by omega⟩
/-- the token at q: its start, its end, its kind -/
def tS (f : Int → Int) (len q : Int) : Int := tSk f q (len - q).toNat
def tE (f : Int → Int) (len q : Int) : Int := if tS f len q < len then (if cls (f (tS f len q)) = 2 ∨ cls (f (tS f len q)) = 3 then tRun f (cls (f (tS f len q))) (tS f len q + 1) (len - (tS f len q + 1)).toNat else tS f len q + 1) else tS f len q
def tK (f : Int → Int) (len q : Int) : Int := if tS f len q < len then (if cls (f (tS f len q)) = 2 then (if 8 < tE f len q - tS f len q then 5 else 2) else if cls (f (tS f len q)) = 3 then (if 4 < tE f len q - tS f len q then 5 else 3) else cls (f (tS f len q))) else 0
section PS
variable {len q : Int} {f f1 : Int → Int}
theorem tS_r (hq : 0 ≤ q) (hl : q ≤ len) : (q ≤ tS f len q ∧ tS f len q ≤ len) ∧ (∀ i, q ≤ i → i < tS f len q → cls (f i) = 1) ∧ (tS f len q < len → ¬ cls (f (tS f len q)) = 1) := by
  obtain ⟨⟨h1, h2⟩, h3, h4⟩ := tSk_r (f := f) (len - q).toNat q
  exact ⟨⟨h1, by unfold tS; omega⟩, h3, fun h => h4 (by unfold tS at h; omega)⟩
theorem tE_r (hq : 0 ≤ q) (hl : q ≤ len) : (tS f len q ≤ tE f len q ∧ tE f len q ≤ len) ∧ (tS f len q < len → tS f len q < tE f len q) := by
  obtain ⟨⟨h1, h2⟩, -⟩ := tS_r (f := f) hq hl
  unfold tE
  by_cases e : tS f len q < len
  · rw [if_pos e]
    by_cases y : cls (f (tS f len q)) = 2 ∨ cls (f (tS f len q)) = 3
    · rw [if_pos y]
      obtain ⟨⟨h3, h4⟩, -⟩ := tRun_r (f := f) (k := cls (f (tS f len q))) (len - (tS f len q + 1)).toNat (tS f len q + 1)
      exact ⟨⟨by omega, by omega⟩, fun _ => by omega⟩
    · rw [if_neg y]; exact ⟨⟨by omega, by omega⟩, fun _ => by omega⟩
  · rw [if_neg e]; exact ⟨⟨by omega, by omega⟩, fun h => by omega⟩
theorem tK_r (hq : 0 ≤ q) (hl : q ≤ len) : (0 ≤ tK f len q ∧ tK f len q ≤ 5) ∧ (tK f len q = 0 ↔ tS f len q = len) ∧ ¬ tK f len q = 1 := by
  obtain ⟨⟨h1, h2⟩, -, h3⟩ := tS_r (f := f) hq hl
  have hc := cls_r (f (tS f len q))
  unfold tK
  by_cases e : tS f len q < len
  · have := h3 e
    rw [if_pos e]
    by_cases y : cls (f (tS f len q)) = 2
    · rw [if_pos y]; split <;> (refine ⟨by omega, by omega, by omega⟩)
    · rw [if_neg y]
      by_cases z : cls (f (tS f len q)) = 3
      · rw [if_pos z]; split <;> (refine ⟨by omega, by omega, by omega⟩)
      · rw [if_neg z]; exact ⟨by omega, by omega, by omega⟩
  · rw [if_neg e]; exact ⟨by omega, by omega, by omega⟩
/-- a word's letters, a number's digits -/
theorem tK_2 (hq : 0 ≤ q) (hl : q ≤ len) (h : tK f len q = 2) : tS f len q < len ∧ (1 ≤ tE f len q - tS f len q ∧ tE f len q - tS f len q ≤ 8) ∧ ∀ i, tS f len q ≤ i → i < tE f len q → 97 ≤ f i ∧ f i ≤ 122 := by
  have hk := tK_r (f := f) hq hl
  have hE := tE_r (f := f) hq hl
  obtain ⟨⟨h1, h2⟩, -, h3⟩ := tS_r (f := f) hq hl
  have e : tS f len q < len := by
    by_cases e : tS f len q < len
    · exact e
    · have := hk.2.1.mpr (by omega); omega
  have hc := cls_r (f (tS f len q))
  have y : cls (f (tS f len q)) = 2 ∧ tE f len q - tS f len q ≤ 8 := by
    unfold tK at h
    rw [if_pos e] at h
    by_cases y : cls (f (tS f len q)) = 2
    · rw [if_pos y] at h
      by_cases z : 8 < tE f len q - tS f len q
      · rw [if_pos z] at h; omega
      · exact ⟨y, by omega⟩
    · rw [if_neg y] at h
      by_cases z : cls (f (tS f len q)) = 3
      · rw [if_pos z] at h; split at h <;> omega
      · rw [if_neg z] at h; omega
  have hs := hE.2 e
  refine ⟨e, ⟨by omega, y.2⟩, fun i h4 h5 => ?_⟩
  have hr := (tRun_r (f := f) (k := cls (f (tS f len q))) (len - (tS f len q + 1)).toNat (tS f len q + 1)).2
  have c2 : cls (f i) = 2 := by
    by_cases z : i = tS f len q
    · rw [z]; exact y.1
    · rw [← y.1]
      refine hr i (by omega) ?_
      unfold tE at h5
      rw [if_pos e, if_pos (Or.inl y.1)] at h5
      exact h5
  unfold cls at c2
  by_cases u : f i = 32 ∨ f i = 10
  · rw [if_pos u] at c2; omega
  · rw [if_neg u] at c2
    by_cases v : 97 ≤ f i ∧ f i ≤ 122
    · exact v
    · rw [if_neg v] at c2
      by_cases x : 48 ≤ f i ∧ f i ≤ 57
      · rw [if_pos x] at c2; omega
      · rw [if_neg x] at c2
        split at c2 <;> omega
theorem tK_3 (hq : 0 ≤ q) (hl : q ≤ len) (h : tK f len q = 3) : tS f len q < len ∧ (1 ≤ tE f len q - tS f len q ∧ tE f len q - tS f len q ≤ 4) ∧ ∀ i, tS f len q ≤ i → i < tE f len q → 48 ≤ f i ∧ f i ≤ 57 := by
  have hk := tK_r (f := f) hq hl
  have hE := tE_r (f := f) hq hl
  obtain ⟨⟨h1, h2⟩, -, h3⟩ := tS_r (f := f) hq hl
  have e : tS f len q < len := by
    by_cases e : tS f len q < len
    · exact e
    · have := hk.2.1.mpr (by omega); omega
  have hc := cls_r (f (tS f len q))
  have y : cls (f (tS f len q)) = 3 ∧ tE f len q - tS f len q ≤ 4 := by
    unfold tK at h
    rw [if_pos e] at h
    by_cases y : cls (f (tS f len q)) = 2
    · rw [if_pos y] at h; split at h <;> omega
    · rw [if_neg y] at h
      by_cases z : cls (f (tS f len q)) = 3
      · rw [if_pos z] at h
        by_cases u : 4 < tE f len q - tS f len q
        · rw [if_pos u] at h; omega
        · exact ⟨z, by omega⟩
      · rw [if_neg z] at h; omega
  have hs := hE.2 e
  refine ⟨e, ⟨by omega, y.2⟩, fun i h4 h5 => ?_⟩
  have hr := (tRun_r (f := f) (k := cls (f (tS f len q))) (len - (tS f len q + 1)).toNat (tS f len q + 1)).2
  have c2 : cls (f i) = 3 := by
    by_cases z : i = tS f len q
    · rw [z]; exact y.1
    · rw [← y.1]
      refine hr i (by omega) ?_
      unfold tE at h5
      rw [if_pos e, if_pos (Or.inr y.1)] at h5
      exact h5
  unfold cls at c2
  by_cases u : f i = 32 ∨ f i = 10
  · rw [if_pos u] at c2; omega
  · rw [if_neg u] at c2
    by_cases v : 97 ≤ f i ∧ f i ≤ 122
    · rw [if_pos v] at c2; omega
    · rw [if_neg v] at c2
      by_cases x : 48 ≤ f i ∧ f i ≤ 57
      · exact x
      · rw [if_neg x] at c2
        split at c2 <;> omega
/-! the system's way to a token -/
theorem c_sort (H : pB len f1 f) {x : Int} (h0 : 0 ≤ x) (h1 : x ≤ len) : fn_Text_sortAt f1 len x = some (if x < len then cls (f x) else 0) := by
  have hl := H.1
  unfold fn_Text_sortAt
  by_cases e : x < len
  · obtain ⟨b1, b2⟩ := H.2 x h0 e
    rw [if_pos e]
    (try simp (disch := omega) only [↓zk_lt, ↓zk_nl, ↓zk_eq, ↓zk_ne, ↓zk_ix, ↓zk_dv, ↓zk_bo, ↓zk_rg, ↓zk_get, ↓zk_set, Option.bind_some])
    rw [b1]
    unfold cls fn_Text_sortAt_b47
    by_cases a : f x = 32
    · (try simp (disch := omega) only [↓zk_lt, ↓zk_nl, ↓zk_eq, ↓zk_ne, ↓zk_ix, ↓zk_dv, ↓zk_bo, ↓zk_rg, ↓zk_get, ↓zk_set, Option.bind_some]); rw [if_pos (Or.inl a)]
    · by_cases b : f x = 10
      · (try simp (disch := omega) only [↓zk_lt, ↓zk_nl, ↓zk_eq, ↓zk_ne, ↓zk_ix, ↓zk_dv, ↓zk_bo, ↓zk_rg, ↓zk_get, ↓zk_set, Option.bind_some]); rw [if_pos (Or.inr b)]
      · (try simp (disch := omega) only [↓zk_lt, ↓zk_nl, ↓zk_eq, ↓zk_ne, ↓zk_ix, ↓zk_dv, ↓zk_bo, ↓zk_rg, ↓zk_get, ↓zk_set, Option.bind_some])
        rw [if_neg (by omega)]
        by_cases c : 97 ≤ f x
        · by_cases d : f x ≤ 122
          · (try simp (disch := omega) only [↓zk_lt, ↓zk_nl, ↓zk_eq, ↓zk_ne, ↓zk_ix, ↓zk_dv, ↓zk_bo, ↓zk_rg, ↓zk_get, ↓zk_set, Option.bind_some]); rw [if_pos ⟨c, d⟩]
          · (try simp (disch := omega) only [↓zk_lt, ↓zk_nl, ↓zk_eq, ↓zk_ne, ↓zk_ix, ↓zk_dv, ↓zk_bo, ↓zk_rg, ↓zk_get, ↓zk_set, Option.bind_some]); rw [if_neg (by omega), if_neg (by omega), if_neg (by omega)]
        · (try simp (disch := omega) only [↓zk_lt, ↓zk_nl, ↓zk_eq, ↓zk_ne, ↓zk_ix, ↓zk_dv, ↓zk_bo, ↓zk_rg, ↓zk_get, ↓zk_set, Option.bind_some])
          rw [if_neg (by omega)]
          by_cases d : 48 ≤ f x
          · by_cases g : f x ≤ 57
            · (try simp (disch := omega) only [↓zk_lt, ↓zk_nl, ↓zk_eq, ↓zk_ne, ↓zk_ix, ↓zk_dv, ↓zk_bo, ↓zk_rg, ↓zk_get, ↓zk_set, Option.bind_some]); rw [if_pos ⟨d, g⟩]
            · (try simp (disch := omega) only [↓zk_lt, ↓zk_nl, ↓zk_eq, ↓zk_ne, ↓zk_ix, ↓zk_dv, ↓zk_bo, ↓zk_rg, ↓zk_get, ↓zk_set, Option.bind_some])
              rw [if_neg (by omega)]
              by_cases k : f x = 59
              · (try simp (disch := omega) only [↓zk_lt, ↓zk_nl, ↓zk_eq, ↓zk_ne, ↓zk_ix, ↓zk_dv, ↓zk_bo, ↓zk_rg, ↓zk_get, ↓zk_set, Option.bind_some]); rw [if_pos k]
              · (try simp (disch := omega) only [↓zk_lt, ↓zk_nl, ↓zk_eq, ↓zk_ne, ↓zk_ix, ↓zk_dv, ↓zk_bo, ↓zk_rg, ↓zk_get, ↓zk_set, Option.bind_some]); rw [if_neg k]
          · (try simp (disch := omega) only [↓zk_lt, ↓zk_nl, ↓zk_eq, ↓zk_ne, ↓zk_ix, ↓zk_dv, ↓zk_bo, ↓zk_rg, ↓zk_get, ↓zk_set, Option.bind_some])
            rw [if_neg (by omega)]
            rw [if_neg (by omega)]
  · rw [if_neg e]; (try simp (disch := omega) only [↓zk_lt, ↓zk_nl, ↓zk_eq, ↓zk_ne, ↓zk_ix, ↓zk_dv, ↓zk_bo, ↓zk_rg, ↓zk_get, ↓zk_set, Option.bind_some])
theorem c_run (H : pB len f1 f) {k s : Int} (hk : k = 2 ∨ k = 3) : ∀ (n m : Nat) (e : Int), e + m = len → 0 ≤ e → m < n → fn_Text_next_b106 n f1 len k s e 1 = fn_Text_next_b149 k s (tRun f k e m) 1 := by
  have hl := H.1
  intro n
  induction n with
  | zero => intro m e _ _ h; omega
  | succ n ih =>
    intro m e he h0 hm
    rw [fn_Text_next_b106]
    cases m with
    | zero => (try simp (disch := omega) only [↓zk_lt, ↓zk_nl, ↓zk_eq, ↓zk_ne, ↓zk_ix, ↓zk_dv, ↓zk_bo, ↓zk_rg, ↓zk_get, ↓zk_set, Option.bind_some]); rfl
    | succ m =>
      have hc := cls_r (f e)
      (try simp (disch := omega) only [↓zk_lt, ↓zk_nl, ↓zk_eq, ↓zk_ne, ↓zk_ix, ↓zk_dv, ↓zk_bo, ↓zk_rg, ↓zk_get, ↓zk_set, Option.bind_some])
      rw [zk_bd (c_sort H h0 (by omega)), if_pos (by omega)]
      simp only [tRun]
      by_cases x : cls (f e) = k
      · (try simp (disch := omega) only [↓zk_lt, ↓zk_nl, ↓zk_eq, ↓zk_ne, ↓zk_ix, ↓zk_dv, ↓zk_bo, ↓zk_rg, ↓zk_get, ↓zk_set, Option.bind_some])
        rw [ih m _ (by omega) (by omega) (by omega), if_pos x]
      · (try simp (disch := omega) only [↓zk_lt, ↓zk_nl, ↓zk_eq, ↓zk_ne, ↓zk_ix, ↓zk_dv, ↓zk_bo, ↓zk_rg, ↓zk_get, ↓zk_set, Option.bind_some])
        rw [if_neg x]
theorem c_skip (H : pB len f1 f) {k0 e0 : Int} : ∀ (n m : Nat) (p : Int), p + m = len → 0 ≤ p → m < n → fn_Text_next_b8 n f1 len k0 p e0 = fn_Text_next_b44 f1 len k0 (tSk f p m) e0 := by
  have hl := H.1
  intro n
  induction n with
  | zero => intro m p _ _ h; omega
  | succ n ih =>
    intro m p hp h0 hm
    rw [fn_Text_next_b8]
    cases m with
    | zero => (try simp (disch := omega) only [↓zk_lt, ↓zk_nl, ↓zk_eq, ↓zk_ne, ↓zk_ix, ↓zk_dv, ↓zk_bo, ↓zk_rg, ↓zk_get, ↓zk_set, Option.bind_some]); rfl
    | succ m =>
      have hc := cls_r (f p)
      (try simp (disch := omega) only [↓zk_lt, ↓zk_nl, ↓zk_eq, ↓zk_ne, ↓zk_ix, ↓zk_dv, ↓zk_bo, ↓zk_rg, ↓zk_get, ↓zk_set, Option.bind_some])
      rw [zk_bd (c_sort H h0 (by omega)), if_pos (by omega)]
      simp only [tSk]
      by_cases x : cls (f p) = 1
      · (try simp (disch := omega) only [↓zk_lt, ↓zk_nl, ↓zk_eq, ↓zk_ne, ↓zk_ix, ↓zk_dv, ↓zk_bo, ↓zk_rg, ↓zk_get, ↓zk_set, Option.bind_some])
        rw [ih m _ (by omega) (by omega) (by omega), if_pos x]
      · (try simp (disch := omega) only [↓zk_lt, ↓zk_nl, ↓zk_eq, ↓zk_ne, ↓zk_ix, ↓zk_dv, ↓zk_bo, ↓zk_rg, ↓zk_get, ↓zk_set, Option.bind_some])
        rw [if_neg x]
theorem c_next (H : pB len f1 f) (hq : 0 ≤ q) (hl : q ≤ len) {k0 s0 : Int} : fn_Text_next f1 len k0 s0 q = some (tK f len q, tS f len q, tE f len q) := by
  have hF := jk_F_big
  have hb := H.1
  obtain ⟨⟨h1, h2⟩, -, h3⟩ := tS_r (f := f) hq hl
  have hE := tE_r (f := f) hq hl
  have hc := cls_r (f (tS f len q))
  unfold fn_Text_next
  rw [c_skip H jk_F (len - q).toNat q (by omega) hq (by omega)]
  have es : tSk f q (len - q).toNat = tS f len q := rfl
  rw [es]
  unfold fn_Text_next_b44
  rw [zk_bd (c_sort H (by omega) h2)]
  by_cases e : tS f len q < len
  · have hk := h3 e
    rw [if_pos e]
    (try simp (disch := omega) only [↓zk_lt, ↓zk_nl, ↓zk_eq, ↓zk_ne, ↓zk_ix, ↓zk_dv, ↓zk_bo, ↓zk_rg, ↓zk_get, ↓zk_set, Option.bind_some])
    unfold fn_Text_next_b81
    by_cases y : cls (f (tS f len q)) = 2
    · have eE : tE f len q = tRun f (cls (f (tS f len q))) (tS f len q + 1) (len - (tS f len q + 1)).toNat := by
        unfold tE
        rw [if_pos e, if_pos (Or.inl y)]
      (try simp (disch := omega) only [↓zk_lt, ↓zk_nl, ↓zk_eq, ↓zk_ne, ↓zk_ix, ↓zk_dv, ↓zk_bo, ↓zk_rg, ↓zk_get, ↓zk_set, Option.bind_some])
      rw [c_run H (Or.inl y) jk_F (len - (tS f len q + 1)).toNat (tS f len q + 1) (by omega) (by omega) (by omega), ← eE]
      unfold fn_Text_next_b149 tK
      rw [if_pos e, if_pos y]
      by_cases z : 8 < tE f len q - tS f len q
      · (try simp (disch := omega) only [↓zk_lt, ↓zk_nl, ↓zk_eq, ↓zk_ne, ↓zk_ix, ↓zk_dv, ↓zk_bo, ↓zk_rg, ↓zk_get, ↓zk_set, Option.bind_some])
        rw [if_pos z]
      · (try simp (disch := omega) only [↓zk_lt, ↓zk_nl, ↓zk_eq, ↓zk_ne, ↓zk_ix, ↓zk_dv, ↓zk_bo, ↓zk_rg, ↓zk_get, ↓zk_set, Option.bind_some])
        rw [if_neg z, y]
    · by_cases y3 : cls (f (tS f len q)) = 3
      · have eE : tE f len q = tRun f (cls (f (tS f len q))) (tS f len q + 1) (len - (tS f len q + 1)).toNat := by
          unfold tE
          rw [if_pos e, if_pos (Or.inr y3)]
        (try simp (disch := omega) only [↓zk_lt, ↓zk_nl, ↓zk_eq, ↓zk_ne, ↓zk_ix, ↓zk_dv, ↓zk_bo, ↓zk_rg, ↓zk_get, ↓zk_set, Option.bind_some])
        rw [c_run H (Or.inr y3) jk_F (len - (tS f len q + 1)).toNat (tS f len q + 1) (by omega) (by omega) (by omega), ← eE]
        unfold fn_Text_next_b149 tK
        rw [if_pos e, if_neg y, if_pos y3]
        by_cases z : 4 < tE f len q - tS f len q
        · (try simp (disch := omega) only [↓zk_lt, ↓zk_nl, ↓zk_eq, ↓zk_ne, ↓zk_ix, ↓zk_dv, ↓zk_bo, ↓zk_rg, ↓zk_get, ↓zk_set, Option.bind_some])
          rw [if_pos z]
        · (try simp (disch := omega) only [↓zk_lt, ↓zk_nl, ↓zk_eq, ↓zk_ne, ↓zk_ix, ↓zk_dv, ↓zk_bo, ↓zk_rg, ↓zk_get, ↓zk_set, Option.bind_some])
          rw [if_neg z, y3]
      · have eE : tE f len q = tS f len q + 1 := by
          unfold tE
          rw [if_pos e, if_neg (by omega)]
        (try simp (disch := omega) only [↓zk_lt, ↓zk_nl, ↓zk_eq, ↓zk_ne, ↓zk_ix, ↓zk_dv, ↓zk_bo, ↓zk_rg, ↓zk_get, ↓zk_set, Option.bind_some])
        rw [show jk_F = 99999 + 1 from rfl, fn_Text_next_b106]
        unfold fn_Text_next_b149 tK
        (try simp (disch := omega) only [↓zk_lt, ↓zk_nl, ↓zk_eq, ↓zk_ne, ↓zk_ix, ↓zk_dv, ↓zk_bo, ↓zk_rg, ↓zk_get, ↓zk_set, Option.bind_some])
        rw [if_pos e, if_neg y, if_neg y3, eE]
  · have eE : tE f len q = tS f len q := by
      unfold tE
      rw [if_neg e]
    rw [if_neg e]
    (try simp (disch := omega) only [↓zk_lt, ↓zk_nl, ↓zk_eq, ↓zk_ne, ↓zk_ix, ↓zk_dv, ↓zk_bo, ↓zk_rg, ↓zk_get, ↓zk_set, Option.bind_some])
    unfold fn_Text_next_b81
    (try simp (disch := omega) only [↓zk_lt, ↓zk_nl, ↓zk_eq, ↓zk_ne, ↓zk_ix, ↓zk_dv, ↓zk_bo, ↓zk_rg, ↓zk_get, ↓zk_set, Option.bind_some])
    rw [show jk_F = 99999 + 1 from rfl, fn_Text_next_b106]
    unfold fn_Text_next_b149 tK
    (try simp (disch := omega) only [↓zk_lt, ↓zk_nl, ↓zk_eq, ↓zk_ne, ↓zk_ix, ↓zk_dv, ↓zk_bo, ↓zk_rg, ↓zk_get, ↓zk_set, Option.bind_some])
    rw [if_neg e, eE]
/-! the reference's way to it -/
/-- the number that digits write -/
def nvl (f : Int → Int) (s : Int) : Nat → Int
  | 0 => 0
  | j + 1 => nvl f s j * 10 + f (s + j) - 48
/-- the reference's name of a kind -/
def mk (k : Int) : Int := if k = 0 then 0 else k - 1
/-- the reference has read the token at q -/
def pTk (f : Int → Int) (len q nb bg vl tk : Int) : Prop := nb = tE f len q ∧ bg = tS f len q ∧ tk = mk (tK f len q) ∧ (tK f len q = 3 → vl = nvl f (tS f len q) (tE f len q - tS f len q).toNat)
end PS

/-! what is read of a text, on both sides -/
section PT1
variable {len q : Int} {f f1 : Int → Int}
/-- letters that a word has -/
def eqw (f : Int → Int) (s : Int) : List Int → Prop
  | [] => True
  | c :: cs => f s = c ∧ eqw f (s + 1) cs
theorem c_hf0 : fn_Text_hasFailed 0 = some 0 := by decide +kernel
theorem c_hf {c : Int} (h : 1 ≤ c ∧ c ≤ 7) : fn_Text_hasFailed c = some 1 := by
  unfold fn_Text_hasFailed
  (try simp (disch := omega) only [↓zk_lt, ↓zk_nl, ↓zk_eq, ↓zk_ne, ↓zk_ix, ↓zk_dv, ↓zk_bo, ↓zk_rg, ↓zk_get, ↓zk_set, Option.bind_some])
theorem c_fail0 {s o x : Int} : fn_Text_fail s 0 o x = some (x, s) := by
  unfold fn_Text_fail
  (try simp (disch := omega) only [↓zk_lt, ↓zk_nl, ↓zk_eq, ↓zk_ne, ↓zk_ix, ↓zk_dv, ↓zk_bo, ↓zk_rg, ↓zk_get, ↓zk_set, Option.bind_some])
theorem c_fail {s o x c : Int} (h : 1 ≤ c ∧ c ≤ 7) : fn_Text_fail s c o x = some (c, o) := by
  unfold fn_Text_fail
  (try simp (disch := omega) only [↓zk_lt, ↓zk_nl, ↓zk_eq, ↓zk_ne, ↓zk_ix, ↓zk_dv, ↓zk_bo, ↓zk_rg, ↓zk_get, ↓zk_set, Option.bind_some])
theorem nvl_r {s : Int} : ∀ (m : Nat), (∀ i, s ≤ i → i < s + m → 48 ≤ f i ∧ f i ≤ 57) → 0 ≤ nvl f s m ∧ nvl f s m < 10 ^ m := by
  intro m
  induction m with
  | zero => intro _; simp [nvl]
  | succ m ih =>
    intro h
    have h1 := h (s + m) (by omega) (by omega)
    have h2 := ih (fun i h3 h4 => h i h3 (by omega))
    simp only [nvl]
    rw [Int.pow_succ]
    omega
theorem p10 {n : Nat} (h : n ≤ 4) : (10 : Int) ^ n ≤ 10000 := by
  have : n = 0 ∨ n = 1 ∨ n = 2 ∨ n = 3 ∨ n = 4 := by omega
  rcases this with rfl | rfl | rfl | rfl | rfl <;> decide
/-- the number of the token at q -/
def tV (f : Int → Int) (len q : Int) : Int := nvl f (tS f len q) (tE f len q - tS f len q).toNat
theorem tV_r (hq : 0 ≤ q) (hl : q ≤ len) (h : tK f len q = 3) : 0 ≤ tV f len q ∧ tV f len q ≤ 9999 := by
  obtain ⟨a, b, c⟩ := tK_3 hq hl h
  have h1 := nvl_r (f := f) (s := tS f len q) (tE f len q - tS f len q).toNat (fun i h2 h3 => c i h2 (by omega))
  have h2 := p10 (n := (tE f len q - tS f len q).toNat) (by omega)
  unfold tV
  omega
theorem c_num_b (H : pB len f1 f) (hq : 0 ≤ q) (hl : q ≤ len) (h : tK f len q = 3) {lo hi o : Int} (hlo : 0 ≤ lo ∧ lo ≤ 10000) (hhi : 0 ≤ hi ∧ hi ≤ 10000) : ∀ (n m : Nat) (v i : Int), i + m = tE f len q → tS f len q ≤ i → v = nvl f (tS f len q) (i - tS f len q).toNat → m < n →
    fn_Text_readNumber_b36 n f1 (tK f len q) (tS f len q) (tE f len q) 0 o lo hi v i = some (tV f len q, tK f len q, tS f len q, tE f len q, if lo ≤ tV f len q ∧ tV f len q ≤ hi then 0 else 2, if lo ≤ tV f len q ∧ tV f len q ≤ hi then o else tS f len q) := by
  have hb := H.1
  obtain ⟨⟨h1, h2⟩, -⟩ := tS_r (f := f) hq hl
  have hE := tE_r (f := f) hq hl
  have hv := tV_r hq hl h
  intro n
  induction n with
  | zero => intro m v i _ _ _ h; omega
  | succ n ih =>
    intro m v i hie h0 hv2 hm
    rw [fn_Text_readNumber_b36]
    cases m with
    | zero =>
      have ev : v = tV f len q := by
        rw [hv2, show i = tE f len q by omega]
        rfl
      rw [ev]
      by_cases a : lo ≤ tV f len q
      · by_cases b : tV f len q ≤ hi
        · (try simp (disch := omega) only [↓zk_lt, ↓zk_nl, ↓zk_eq, ↓zk_ne, ↓zk_ix, ↓zk_dv, ↓zk_bo, ↓zk_rg, ↓zk_get, ↓zk_set, Option.bind_some])
          rw [if_pos ⟨a, b⟩, if_pos ⟨a, b⟩]
        · (try simp (disch := omega) only [↓zk_lt, ↓zk_nl, ↓zk_eq, ↓zk_ne, ↓zk_ix, ↓zk_dv, ↓zk_bo, ↓zk_rg, ↓zk_get, ↓zk_set, Option.bind_some])
          rw [zk_bd c_fail0, if_neg (fun z : lo ≤ tV f len q ∧ tV f len q ≤ hi => b z.2), if_neg (fun z : lo ≤ tV f len q ∧ tV f len q ≤ hi => b z.2)]
      · (try simp (disch := omega) only [↓zk_lt, ↓zk_nl, ↓zk_eq, ↓zk_ne, ↓zk_ix, ↓zk_dv, ↓zk_bo, ↓zk_rg, ↓zk_get, ↓zk_set, Option.bind_some])
        rw [zk_bd c_fail0, if_neg (fun z : lo ≤ tV f len q ∧ tV f len q ≤ hi => a z.1), if_neg (fun z : lo ≤ tV f len q ∧ tV f len q ≤ hi => a z.1)]
    | succ m =>
      obtain ⟨b1, b2⟩ := H.2 i (by omega) (by omega)
      (try simp (disch := omega) only [↓zk_lt, ↓zk_nl, ↓zk_eq, ↓zk_ne, ↓zk_ix, ↓zk_dv, ↓zk_bo, ↓zk_rg, ↓zk_get, ↓zk_set, Option.bind_some])
      refine ih m _ _ (by omega) (by omega) ?_ (by omega)
      rw [show (i + 1 - tS f len q).toNat = (i - tS f len q).toNat + 1 by omega]
      simp only [nvl]
      rw [← hv2, b1, show tS f len q + (((i - tS f len q).toNat : Nat) : Int) = i by omega]
/-! names -/
theorem c_name_b (H : pB len f1 f) {s e o : Int} (hs : 0 ≤ s) (he : e ≤ len) (h6 : e - s ≤ 6) (hL : ∀ i, s ≤ i → i < e → 97 ≤ f i ∧ f i ≤ 122) : ∀ (n m : Nat) (i : Int), i + 1 = s + m → i < e → m < n → fn_Text_name_b38 n f1 s 0 o (enc f (i + 1) (e - (i + 1)).toNat) i = some (enc f s (e - s).toNat, 0, o) := by
  have hb := H.1
  intro n
  induction n with
  | zero => intro m i _ _ h; omega
  | succ n ih =>
    intro m i hi h0 hm
    rw [fn_Text_name_b38]
    cases m with
    | zero =>
      (try simp (disch := omega) only [↓zk_lt, ↓zk_nl, ↓zk_eq, ↓zk_ne, ↓zk_ix, ↓zk_dv, ↓zk_bo, ↓zk_rg, ↓zk_get, ↓zk_set, Option.bind_some])
      rw [show i + 1 = s by omega]
    | succ m =>
      obtain ⟨b1, b2⟩ := H.2 i (by omega) (by omega)
      have hl := hL i (by omega) h0
      have hr := enc_r (f := f) (e - (i + 1)).toNat (i + 1) (fun j h3 h4 => hL j (by omega) (by omega))
      have h5 : (32 : Int) ^ (e - (i + 1)).toNat ≤ 33554432 := by
        have : (e - (i + 1)).toNat = 0 ∨ (e - (i + 1)).toNat = 1 ∨ (e - (i + 1)).toNat = 2 ∨ (e - (i + 1)).toNat = 3 ∨ (e - (i + 1)).toNat = 4 ∨ (e - (i + 1)).toNat = 5 := by omega
        rcases this with h | h | h | h | h | h <;> rw [h] <;> decide
      (try simp (disch := omega) only [↓zk_lt, ↓zk_nl, ↓zk_eq, ↓zk_ne, ↓zk_ix, ↓zk_dv, ↓zk_bo, ↓zk_rg, ↓zk_get, ↓zk_set, Option.bind_some])
      rw [b1, zb_shl5 hr.1 (by omega), zb_or5 hr.1 (by omega) (by omega) (by omega)]
      have e1 : enc f (i + 1) (e - (i + 1)).toNat * 32 + (f i - 97 + 1) = enc f (i + (-1) + 1) (e - (i + (-1) + 1)).toNat := by
        rw [show (e - (i + (-1) + 1)).toNat = (e - (i + 1)).toNat + 1 by omega, show i + (-1) + 1 = i by omega]
        simp only [enc]
        omega
      rw [e1]
      exact ih m (i + (-1)) (by omega) (by omega) (by omega)
/-- a token that can be a name -/
def tN (f : Int → Int) (len q : Int) : Prop := tK f len q = 2 ∧ tE f len q - tS f len q ≤ 6
theorem c_name (H : pB len f1 f) (hq : 0 ≤ q) (hl : q ≤ len) {o : Int} : (tN f len q ∧ fn_Text_name f1 (tK f len q) (tS f len q) (tE f len q) 0 o = some (enc f (tS f len q) (tE f len q - tS f len q).toNat, 0, o)) ∨ (¬ tN f len q ∧ fn_Text_name f1 (tK f len q) (tS f len q) (tE f len q) 0 o = some (0, 1, tS f len q)) := by
  have hF := jk_F_big
  have hb := H.1
  have hk := tK_r (f := f) hq hl
  have hE := tE_r (f := f) hq hl
  obtain ⟨⟨h1, h2⟩, -⟩ := tS_r (f := f) hq hl
  unfold fn_Text_name
  by_cases a : tK f len q = 2
  · obtain ⟨a1, a2, a3⟩ := tK_2 hq hl a
    by_cases b : tE f len q - tS f len q ≤ 6
    · left
      refine ⟨⟨a, b⟩, ?_⟩
      have hn := c_name_b H (s := tS f len q) (e := tE f len q) (o := o) (by omega) (by omega) b a3 jk_F (tE f len q - tS f len q).toNat (tE f len q - 1) (by omega) (by omega) (by omega)
      rw [show (tE f len q - (tE f len q - 1 + 1)).toNat = 0 by omega] at hn
      (try simp (disch := omega) only [↓zk_lt, ↓zk_nl, ↓zk_eq, ↓zk_ne, ↓zk_ix, ↓zk_dv, ↓zk_bo, ↓zk_rg, ↓zk_get, ↓zk_set, Option.bind_some])
      exact hn
    · right
      refine ⟨fun z => b z.2, ?_⟩
      (try simp (disch := omega) only [↓zk_lt, ↓zk_nl, ↓zk_eq, ↓zk_ne, ↓zk_ix, ↓zk_dv, ↓zk_bo, ↓zk_rg, ↓zk_get, ↓zk_set, Option.bind_some])
      rw [zk_bd c_fail0]
  · right
    refine ⟨fun z => a z.1, ?_⟩
    (try simp (disch := omega) only [↓zk_lt, ↓zk_nl, ↓zk_eq, ↓zk_ne, ↓zk_ix, ↓zk_dv, ↓zk_bo, ↓zk_rg, ↓zk_get, ↓zk_set, Option.bind_some])
    rw [zk_bd c_fail0]
end PT1

/-! topics read; what a failed text still does -/
section PT2
variable {len q : Int} {f f1 : Int → Int}
theorem x_num {c o k s e lo hi : Int} (h : 1 ≤ c ∧ c ≤ 7) : fn_Text_readNumber f1 len k s e c o lo hi = some (0, k, s, e, c, o) := by
  unfold fn_Text_readNumber
  rw [zk_bd (c_hf h)]
  (try simp (disch := omega) only [↓zk_lt, ↓zk_nl, ↓zk_eq, ↓zk_ne, ↓zk_ix, ↓zk_dv, ↓zk_bo, ↓zk_rg, ↓zk_get, ↓zk_set, Option.bind_some])
theorem x_top {c o k s e z : Int} {nm : Int → Int} (h : 1 ≤ c ∧ c ≤ 7) : fn_Text_readTopic f1 len k s e c o z nm = some (0, k, s, e, c, o) := by
  unfold fn_Text_readTopic
  rw [zk_bd (c_hf h)]
  (try simp (disch := omega) only [↓zk_lt, ↓zk_nl, ↓zk_eq, ↓zk_ne, ↓zk_ix, ↓zk_dv, ↓zk_bo, ↓zk_rg, ↓zk_get, ↓zk_set, Option.bind_some])
theorem x_new {c o k s e z : Int} {nm : Int → Int} (h : 1 ≤ c ∧ c ≤ 7) : fn_Text_readNewTopic f1 len k s e c o z nm = some (k, s, e, c, o, z, nm) := by
  unfold fn_Text_readNewTopic
  rw [zk_bd (c_hf h)]
  (try simp (disch := omega) only [↓zk_lt, ↓zk_nl, ↓zk_eq, ↓zk_ne, ↓zk_ix, ↓zk_dv, ↓zk_bo, ↓zk_rg, ↓zk_get, ↓zk_set, Option.bind_some])
theorem x_semi {c o k s e : Int} (h : 1 ≤ c ∧ c ≤ 7) : fn_Text_readSemicolon f1 len k s e c o = some (k, s, e, c, o) := by
  unfold fn_Text_readSemicolon
  rw [zk_bd (c_hf h)]
  (try simp (disch := omega) only [↓zk_lt, ↓zk_nl, ↓zk_eq, ↓zk_ne, ↓zk_ix, ↓zk_dv, ↓zk_bo, ↓zk_rg, ↓zk_get, ↓zk_set, Option.bind_some])
theorem x_tw {c k s e : Int} {l : List Int} (h : 1 ≤ c ∧ c ≤ 7) : fn_Text_takesWord f1 len k s e c l = some (0, k, s, e) := by
  unfold fn_Text_takesWord
  rw [zk_bd (c_hf h)]
  (try simp (disch := omega) only [↓zk_lt, ↓zk_nl, ↓zk_eq, ↓zk_ne, ↓zk_ix, ↓zk_dv, ↓zk_bo, ↓zk_rg, ↓zk_get, ↓zk_set, Option.bind_some])
theorem x_ns {c k s e : Int} (h : 1 ≤ c ∧ c ≤ 7) : fn_Text_nextStatement f1 len k s e c = some (0, k, s, e) := by
  unfold fn_Text_nextStatement
  rw [zk_bd (c_hf h)]
  (try simp (disch := omega) only [↓zk_lt, ↓zk_nl, ↓zk_eq, ↓zk_ne, ↓zk_ix, ↓zk_dv, ↓zk_bo, ↓zk_rg, ↓zk_get, ↓zk_set, Option.bind_some])
theorem find_any {tn v : Int} {nm w : Int → Int} (N : pN tn nm w) (ht : 0 ≤ tn ∧ tn ≤ 8) (hv : 0 ≤ v ∧ v ≤ 1073741824) : ∃ r, fn_Topics_find tn nm v = some r ∧ -1 ≤ r ∧ r ≤ 8 := by
  have hF := jk_F_big
  have e1 : ∀ (n k : Nat) (i : Int), i + k = tn → 0 ≤ i → k < n → ∃ r, fn_Topics_find_b2 n tn nm v i = some r ∧ -1 ≤ r ∧ r ≤ 8 := by
    intro n
    induction n with
    | zero => intro k i _ _ h; omega
    | succ n ih =>
      intro k i hi h0 hk
      rw [fn_Topics_find_b2]
      cases k with
      | zero =>
        refine ⟨-1, ?_, by omega, by omega⟩
        (try simp (disch := omega) only [↓zk_lt, ↓zk_nl, ↓zk_eq, ↓zk_ne, ↓zk_ix, ↓zk_dv, ↓zk_bo, ↓zk_rg, ↓zk_get, ↓zk_set, Option.bind_some])
      | succ k =>
        obtain ⟨ni, a1, a2, a3, a4⟩ := N.2 i h0 (by omega)
        have hv2 := enc_r ni _ a3
        have hp2 := p32 a1.2
        have hnr : 0 ≤ nm i ∧ nm i < 1073741825 := by rw [a4]; omega
        by_cases x : nm i = v
        · refine ⟨i, ?_, by omega, by omega⟩
          (try simp (disch := omega) only [↓zk_lt, ↓zk_nl, ↓zk_eq, ↓zk_ne, ↓zk_ix, ↓zk_dv, ↓zk_bo, ↓zk_rg, ↓zk_get, ↓zk_set, Option.bind_some])
        · obtain ⟨r, k1, k2⟩ := ih k (i + 1) (by omega) (by omega) (by omega)
          refine ⟨r, ?_, k2⟩
          (try simp (disch := omega) only [↓zk_lt, ↓zk_nl, ↓zk_eq, ↓zk_ne, ↓zk_ix, ↓zk_dv, ↓zk_bo, ↓zk_rg, ↓zk_get, ↓zk_set, Option.bind_some])
          exact k1
  unfold fn_Topics_find
  exact e1 jk_F tn.toNat 0 (by omega) (by omega) (by omega)
/-- a name's token, its number and its place among the topics -/
theorem tN_r (hq : 0 ≤ q) (hl : q ≤ len) (h : tN f len q) : ∃ m : Nat, (1 ≤ m ∧ m ≤ 6) ∧ tE f len q = tS f len q + m ∧ (tE f len q - tS f len q).toNat = m ∧ pLet f (tS f len q) m ∧ tS f len q + m ≤ len ∧ 0 ≤ tS f len q := by
  obtain ⟨a1, a2, a3⟩ := tK_2 hq hl h.1
  have hE := tE_r (f := f) hq hl
  obtain ⟨⟨h1, h2⟩, -⟩ := tS_r (f := f) hq hl
  have := h.2
  refine ⟨(tE f len q - tS f len q).toNat, by omega, by omega, rfl, fun i h3 h4 => a3 i h3 (by omega), by omega, by omega⟩
theorem pN_new {tn s : Int} {m : Nat} {nm w U : Int → Int} (N : pN tn nm w) (ht : 0 ≤ tn ∧ tn < 8) (hm : 1 ≤ m ∧ m ≤ 6) (hL : pLet f s m) (hU : ∀ j, U j = if j = 0 then w 0 + 1 else if 3 + 7 * tn + 1 ≤ j ∧ j < 3 + 7 * tn + 7 then (if j - (3 + 7 * tn + 1) < m then f (s + (j - (3 + 7 * tn + 1))) else 0) else jk_up w (3 + 7 * tn + 0) m j) : pN (tn + 1) (jk_up nm tn (enc f s m)) U ∧ ∀ j, j = 1 ∨ j = 2 ∨ 59 ≤ j → U j = w j := by
  have old : ∀ j, 0 ≤ j → (j < 3 + 7 * tn ∨ 3 + 7 * tn + 7 ≤ j) → ¬ j = 0 → U j = w j := fun j h0 h1 h2 => by rw [hU j, if_neg h2, if_neg (by omega), up_ne (by omega)]
  refine ⟨⟨by rw [hU 0, if_pos rfl, N.1], fun t h0 h1 => ?_⟩, fun j h => old j (by omega) (by omega) (by omega)⟩
  by_cases x : t = tn
  · have hL2 : pLet U (3 + 7 * t + 1) m := fun i h2 h3 => by
      rw [hU i, if_neg (by omega), if_pos (by omega), if_pos (by omega)]
      exact hL _ (by omega) (by omega)
    refine ⟨m, hm, ?_, hL2, ?_⟩
    · rw [hU, if_neg (by omega), if_neg (by omega), up_eq (by omega)]
    · rw [up_eq x]
      refine (enc_inj m m s _ hL hL2).mpr ⟨rfl, fun i hi => ?_⟩
      rw [hU, if_neg (by omega), if_pos (by omega), if_pos (by omega), show s + (3 + 7 * t + 1 + (i : Int) - (3 + 7 * tn + 1)) = s + i by omega]
  · obtain ⟨ni, a1, a2, a3, a4⟩ := N.2 t h0 (by omega)
    refine ⟨ni, a1, ?_, ?_, ?_⟩
    · rw [old _ (by omega) (by omega) (by omega)]; exact a2
    · exact pLet_c a3 (fun i h2 h3 => old i (by omega) (by omega) (by omega))
    · rw [up_ne x, a4]
      exact (enc_c ni _ (fun i h2 h3 => old i (by omega) (by omega) (by omega))).symm
end PT2

/-! a cord's place, and the rest of a cord's statement -/
section PT3
variable {len q cl sz tn : Int} {f f1 st dp tp va nb w g nm : Int → Int}
theorem tS_i (hq : 0 ≤ q) (hl : q ≤ len) : tS f len (tS f len q) = tS f len q := by
  obtain ⟨⟨h1, h2⟩, h3, h4⟩ := tS_r (f := f) hq hl
  obtain ⟨⟨h5, h6⟩, h7, h8⟩ := tS_r (f := f) (q := tS f len q) (by omega) h2
  by_cases a : tS f len (tS f len q) = tS f len q
  · exact a
  · exact absurd (h7 (tS f len q) (by omega) (by omega)) (h4 (by omega))
theorem tE_i (hq : 0 ≤ q) (hl : q ≤ len) : tE f len (tS f len q) = tE f len q := by
  unfold tE
  rw [tS_i hq hl]
theorem tK_i (hq : 0 ≤ q) (hl : q ≤ len) : tK f len (tS f len q) = tK f len q := by
  unfold tK
  rw [tE_i hq hl, tS_i hq hl]
theorem pTk_i (hq : 0 ≤ q) (hl : q ≤ len) {y1 y2 y3 y4 : Int} (P : pTk f len q y1 y2 y3 y4) : pTk f len (tS f len q) y1 y2 y3 y4 := by
  unfold pTk at P ⊢
  rw [tE_i hq hl, tS_i hq hl, tK_i hq hl]
  exact P
/-- a cord of depth d may come at a of the latest cluster -/
def pAt (cl sz : Int) (st dp : Int → Int) (a d : Int) : Prop := (st (cl - 1) ≤ a ∧ a ≤ sz) ∧ (0 ≤ d ∧ d ≤ 3) ∧ (a = st (cl - 1) → d ≤ 1) ∧ (st (cl - 1) < a → 1 ≤ d ∧ d ≤ dp (a - 1) + 1) ∧ (a < sz → 1 ≤ dp a ∧ dp a ≤ d + 1)
theorem at_top (I : pI cl sz tn st dp tp va nb g) (h0 : 1 ≤ cl) (h1 : ht st dp (cl - 1) = 0) : pAt cl sz st dp (st (cl - 1)) 0 := by
  have s1 := pI_st I (c := cl - 1) (by omega) (by omega)
  have he : st (cl - 1 + 1) = sz := by rw [show cl - 1 + 1 = cl by omega]; exact I.2.1.2.1
  refine ⟨⟨by omega, by omega⟩, by omega, fun _ => by omega, fun h => by omega, fun h2 => ?_⟩
  have hg := pI_g I (c := cl - 1) (k := st (cl - 1)) (by omega) (by omega) (by omega) (by omega)
  obtain ⟨-, c1, -, -, -, -, c2, -⟩ := I.2.2 (st (cl - 1)) (by omega) (by omega)
  have := c2 (by rw [hg])
  have h4 : ¬ dp (st (cl - 1)) = 0 := fun q => by
    unfold ht at h1
    rw [if_pos ⟨by omega, q⟩] at h1
    omega
  omega
theorem at_pend (I : pI cl sz tn st dp tp va nb g) (h0 : 1 ≤ cl) : pAt cl sz st dp sz 1 := by
  have s1 := pI_st I (c := cl - 1) (by omega) (by omega)
  refine ⟨⟨by omega, by omega⟩, by omega, fun _ => by omega, fun h => ⟨by omega, ?_⟩, fun h2 => by omega⟩
  have := (I.2.2 (sz - 1) (by omega) (by omega)).2.1
  omega
theorem at_sub (I : pI cl sz tn st dp tp va nb g) (hc : 1 ≤ cl) {k d : Int} (h0 : st (cl - 1) ≤ k) (h1 : k < sz) (h2 : dp k = d - 1) (hd : 2 ≤ d ∧ d ≤ 3) : pAt cl sz st dp (be sz dp k) d ∧ 0 ≤ k := by
  have s1 := pI_st I (c := cl - 1) (by omega) (by omega)
  have he : st (cl - 1 + 1) = sz := by rw [show cl - 1 + 1 = cl by omega]; exact I.2.1.2.1
  have hk : 0 ≤ k := by omega
  obtain ⟨⟨b1, b2⟩, b3, b4⟩ := be_r I hk h1
  refine ⟨⟨⟨by omega, by omega⟩, by omega, fun _ => by omega, fun h => ⟨by omega, ?_⟩, fun h => ?_⟩, hk⟩
  · by_cases x : be sz dp k - 1 = k
    · rw [x]; omega
    · have := b3 (be sz dp k - 1) (by omega) (by omega)
      omega
  · have hg := pI_g I (c := cl - 1) (k := be sz dp k) (by omega) (by omega) (by omega) (by omega)
    obtain ⟨-, -, -, -, -, -, -, c2⟩ := I.2.2 (be sz dp k) (by omega) (by omega)
    have := c2 (by rw [hg]; omega)
    have := b4 (by omega) (by omega)
    omega
theorem up_id {u : Int → Int} {i : Int} : jk_up u i (u i) = u := by
  funext j
  by_cases x : j = i
  · rw [up_eq x, x]
  · rw [up_ne x]
theorem lose0 (H : pC tn cl sz st dp tp va nb w) {k : Int} (h0 : 0 ≤ k) (h1 : k < sz) (hn : nb k = 0) : fn_Cords_loseKnots va nb k 0 = some (0, va, nb) := by
  obtain ⟨⟨g, I, M⟩, G⟩ := H
  have hsz := I.1.2.1
  obtain ⟨-, -, -, hv, hb, hd, -⟩ := I.2.2 k h0 h1
  have hp : pw 0 = 1 := rfl
  have e1 : va k / pw 0 * pw 0 = va k := by rw [hp]; omega
  have e2 : jk_up va k (va k / pw 0 * pw 0) = va := by rw [e1]; exact up_id
  have e3 : jk_up nb k 0 = nb := by rw [← hn]; exact up_id
  unfold fn_Cords_loseKnots
  (try simp (disch := omega) only [↓zk_lt, ↓zk_nl, ↓zk_eq, ↓zk_ne, ↓zk_ix, ↓zk_dv, ↓zk_bo, ↓zk_rg, ↓zk_get, ↓zk_set, Option.bind_some])
  rw [zk_bd (sp_ksum hv.1 (by omega)), zk_bd (sp_lose (by omega) (by omega) hv.1 (by omega))]
  (try simp (disch := omega) only [↓zk_lt, ↓zk_nl, ↓zk_eq, ↓zk_ne, ↓zk_ix, ↓zk_dv, ↓zk_bo, ↓zk_rg, ↓zk_get, ↓zk_set, Option.bind_some])
  rw [e2, e3, zk_bd (sp_ksum hv.1 (by omega))]
  simp
/-! the latest cord of a depth -/
def pLt (dp : Int → Int) (D a e k : Int) : Prop := (k = -1 ∧ ∀ j, a ≤ j → j < e → ¬ dp j = D) ∨ ((a ≤ k ∧ k < e) ∧ dp k = D ∧ ∀ j, k < j → j < e → ¬ dp j = D)
theorem pLt_u {D a e k k' : Int} (ha : 0 ≤ a) (h : pLt dp D a e k) (h' : pLt dp D a e k') : k = k' := by
  rcases h with ⟨rfl, h⟩ | ⟨⟨h1, h2⟩, h3, h4⟩ <;> rcases h' with ⟨rfl, h'⟩ | ⟨⟨h5, h6⟩, h7, h8⟩
  · rfl
  · exact absurd h7 (h k' h5 h6)
  · exact absurd h3 (h' k h1 h2)
  · by_cases x : k < k'
    · exact absurd h7 (h4 k' x h6)
    · by_cases y : k' < k
      · exact absurd h3 (h8 k y h2)
      · omega
theorem c_lat (I : pI cl sz tn st dp tp va nb g) {D a : Int} (hD : 0 ≤ D ∧ D ≤ 10000) (ha : 0 ≤ a ∧ a ≤ sz) : ∃ k, fn_Cords_latestAtDepth dp a sz D = some k ∧ pLt dp D a sz k := by
  have hF := jk_F_big
  have hsz := I.1.2.1
  have e1 : ∀ (n m : Nat) (i : Int), i + 1 = a + m → i < sz → (∀ j, i < j → j < sz → ¬ dp j = D) → m < n → ∃ k, fn_Cords_latestAtDepth_b5 n dp a D i = some k ∧ pLt dp D a sz k := by
    intro n
    induction n with
    | zero => intro m i _ _ _ h; omega
    | succ n ih =>
      intro m i hi h0 hno hm
      rw [fn_Cords_latestAtDepth_b5]
      cases m with
      | zero =>
        refine ⟨-1, ?_, Or.inl ⟨rfl, fun j h1 h2 => hno j (by omega) h2⟩⟩
        (try simp (disch := omega) only [↓zk_lt, ↓zk_nl, ↓zk_eq, ↓zk_ne, ↓zk_ix, ↓zk_dv, ↓zk_bo, ↓zk_rg, ↓zk_get, ↓zk_set, Option.bind_some])
      | succ m =>
        have hd := (I.2.2 i (by omega) h0).2.1
        by_cases x : dp i = D
        · refine ⟨i, ?_, Or.inr ⟨⟨by omega, h0⟩, x, hno⟩⟩
          (try simp (disch := omega) only [↓zk_lt, ↓zk_nl, ↓zk_eq, ↓zk_ne, ↓zk_ix, ↓zk_dv, ↓zk_bo, ↓zk_rg, ↓zk_get, ↓zk_set, Option.bind_some])
        · obtain ⟨k, k1, k2⟩ := ih m (i + (-1)) (by omega) (by omega) (fun j h1 h2 => by
            by_cases y : j = i
            · rw [y]; exact x
            · exact hno j (by omega) h2) (by omega)
          refine ⟨k, ?_, k2⟩
          (try simp (disch := omega) only [↓zk_lt, ↓zk_nl, ↓zk_eq, ↓zk_ne, ↓zk_ix, ↓zk_dv, ↓zk_bo, ↓zk_rg, ↓zk_get, ↓zk_set, Option.bind_some])
          exact k1
  unfold fn_Cords_latestAtDepth
  exact e1 jk_F (sz - a).toNat (sz - 1) (by omega) (by omega) (fun j h1 h2 => by omega) (by omega)
end PT3

section PT4
variable {len q cl sz tn : Int} {f f1 st dp tp va nb w g nm : Int → Int}
theorem x_b92 {c o k s e v3 v4 v5 v6 s0 : Int} (h : 1 ≤ c ∧ c ≤ 7) : fn_Setup_readCord_b92 f1 len k s e c o cl sz st dp tp va nb v3 v4 v5 v6 s0 = some (k, s, e, c, o, sz, st, dp, tp, va, nb) := by
  unfold fn_Setup_readCord_b92
  rw [zk_bd (x_semi h)]
  (try simp (disch := omega) only [↓zk_lt, ↓zk_nl, ↓zk_eq, ↓zk_ne, ↓zk_ix, ↓zk_dv, ↓zk_bo, ↓zk_rg, ↓zk_get, ↓zk_set, Option.bind_some])
  rw [zk_bd (c_hf h)]
  (try simp (disch := omega) only [↓zk_lt, ↓zk_nl, ↓zk_eq, ↓zk_ne, ↓zk_ix, ↓zk_dv, ↓zk_bo, ↓zk_rg, ↓zk_get, ↓zk_set, Option.bind_some])
theorem x_b56 {c o k s e z v3 v4 : Int} (h : 1 ≤ c ∧ c ≤ 7) : fn_Setup_readCord_b56 f1 len k s e c o z nm cl sz st dp tp va nb v3 v4 = some (k, s, e, c, o, sz, st, dp, tp, va, nb) := by
  unfold fn_Setup_readCord_b56
  rw [zk_bd (x_top h)]
  (try simp (disch := omega) only [↓zk_lt, ↓zk_nl, ↓zk_eq, ↓zk_ne, ↓zk_ix, ↓zk_dv, ↓zk_bo, ↓zk_rg, ↓zk_get, ↓zk_set, Option.bind_some])
  rw [zk_bd (x_num h)]
  (try simp (disch := omega) only [↓zk_lt, ↓zk_nl, ↓zk_eq, ↓zk_ne, ↓zk_ix, ↓zk_dv, ↓zk_bo, ↓zk_rg, ↓zk_get, ↓zk_set, Option.bind_some])
  rw [zk_bd (x_tw h)]
  (try simp (disch := omega) only [↓zk_lt, ↓zk_nl, ↓zk_eq, ↓zk_ne, ↓zk_ix, ↓zk_dv, ↓zk_bo, ↓zk_rg, ↓zk_get, ↓zk_set, Option.bind_some])
  exact x_b92 h
theorem x_b37 {c o k s e z v3 p : Int} (h : 1 ≤ c ∧ c ≤ 7) (hp : fn_Setup_placeFor cl sz st dp v3 = some p) (hp2 : -1 ≤ p ∧ p ≤ 1000) : fn_Setup_readCord_b37 f1 len k s e c o z nm cl sz st dp tp va nb v3 = some (k, s, e, c, o, sz, st, dp, tp, va, nb) := by
  unfold fn_Setup_readCord_b37
  rw [zk_bd hp]
  by_cases x : p = -1
  · (try simp (disch := omega) only [↓zk_lt, ↓zk_nl, ↓zk_eq, ↓zk_ne, ↓zk_ix, ↓zk_dv, ↓zk_bo, ↓zk_rg, ↓zk_get, ↓zk_set, Option.bind_some])
    rw [zk_bd (c_fail h)]
    exact x_b56 h
  · (try simp (disch := omega) only [↓zk_lt, ↓zk_nl, ↓zk_eq, ↓zk_ne, ↓zk_ix, ↓zk_dv, ↓zk_bo, ↓zk_rg, ↓zk_get, ↓zk_set, Option.bind_some])
    exact x_b56 h
end PT4

/-! setup texts -/
section PT5
variable {len q cl sz tn : Int} {f f1 st dp tp va nb w g nm : Int → Int}
theorem num_v (H : pB len f1 f) (hq : 0 ≤ q) (hl : q ≤ len) {k0 s0 o lo hi : Int} (hlo : 0 ≤ lo ∧ lo ≤ 10000) (hhi : 0 ≤ hi ∧ hi ≤ 10000) {v k s e c off : Int} (h : fn_Text_readNumber f1 len k0 s0 q 0 o lo hi = some (v, k, s, e, c, off)) : 0 ≤ v ∧ v ≤ 9999 := by
  have hF := jk_F_big
  have hb := H.1
  have hk := tK_r (f := f) hq hl
  have hE := tE_r (f := f) hq hl
  obtain ⟨⟨h1, h2⟩, -⟩ := tS_r (f := f) hq hl
  have hcn := c_next H hq hl (k0 := k0) (s0 := s0)
  unfold fn_Text_readNumber at h
  rw [zk_bd c_hf0] at h
  simp (disch := omega) only [↓zk_eq] at h
  rw [zk_bd hcn] at h
  by_cases a : tK f len q = 3
  · have hv := tV_r hq hl a
    have hn := c_num_b H hq hl a (lo := lo) (hi := hi) (o := o) hlo hhi jk_F (tE f len q - tS f len q).toNat 0 (tS f len q) (by omega) (by omega) (by rw [show (tS f len q - tS f len q).toNat = 0 by omega]; rfl) (by omega)
    simp (disch := omega) only [↓zk_eq] at h
    rw [hn] at h
    simp only [Option.some.injEq, Prod.mk.injEq] at h
    omega
  · simp (disch := omega) only [↓zk_ne] at h
    rw [zk_bd c_fail0] at h
    simp only [Option.some.injEq, Prod.mk.injEq] at h
    omega
theorem pDr_of (C : pC tn cl sz st dp tp va nb w) : pDr st dp := by
  obtain ⟨⟨g, I, M⟩, G⟩ := C
  exact ⟨I.2.1.1, G⟩
theorem pC_tn (C : pC tn cl sz st dp tp va nb w) {w' : Int → Int} (h : tn < 8) (hw : ∀ j, j = 1 ∨ j = 2 ∨ 59 ≤ j → w' j = w j) : pC (tn + 1) cl sz st dp tp va nb w' := by
  obtain ⟨⟨g, I, M⟩, G⟩ := C
  have := I.1
  refine ⟨⟨g, ⟨⟨I.1.1, I.1.2.1, by omega⟩, I.2.1, fun k h0 h1 => ?_⟩, ⟨by rw [hw 1 (by omega)]; exact M.1, by rw [hw 2 (by omega)]; exact M.2.1, fun k h0 h1 => ?_⟩⟩, G⟩
  · obtain ⟨a1, a2, a3, a4⟩ := I.2.2 k h0 h1
    exact ⟨a1, a2, ⟨a3.1, by omega⟩, a4⟩
  · rw [hw _ (by omega), hw _ (by omega), hw _ (by omega), hw _ (by omega), hw _ (by omega)]
    exact M.2.2 k h0 h1
/-! a cluster -/
/-! a cord: where it may come -/
theorem pf0 (I : pI cl sz tn st dp tp va nb g) (h : 1 ≤ cl) : fn_Setup_placeFor cl sz st dp 0 = some (st (cl - 1)) := by
  unfold fn_Setup_placeFor
  rw [zk_bd (sp_start I (c := cl - 1) (by omega) (by omega))]
  (try simp (disch := omega) only [↓zk_lt, ↓zk_nl, ↓zk_eq, ↓zk_ne, ↓zk_ix, ↓zk_dv, ↓zk_bo, ↓zk_rg, ↓zk_get, ↓zk_set, Option.bind_some])
theorem pf1 (I : pI cl sz tn st dp tp va nb g) (h : 1 ≤ cl) : fn_Setup_placeFor cl sz st dp 1 = some sz := by
  unfold fn_Setup_placeFor
  rw [zk_bd (sp_start I (c := cl - 1) (by omega) (by omega))]
  (try simp (disch := omega) only [↓zk_lt, ↓zk_nl, ↓zk_eq, ↓zk_ne, ↓zk_ix, ↓zk_dv, ↓zk_bo, ↓zk_rg, ↓zk_get, ↓zk_set, Option.bind_some])
/-! the first word's errors -/
theorem x_cfw (C : pC tn cl sz st dp tp va nb w) {c o s v : Int} (h : 1 ≤ c ∧ c ≤ 7) (hv : v = 0 ∨ v = 1) : fn_Setup_checkFirstWord_b34 s c o cl sz st dp v = some (c, o) := by
  obtain ⟨⟨g, I, M⟩, G⟩ := C
  have hsz := I.1.2.1
  have hcl := I.1.1
  have e58 : fn_Setup_checkFirstWord_b58 s c o sz = some (c, o) := by
    unfold fn_Setup_checkFirstWord_b58
    rw [zk_bd (c_fail h)]
    by_cases a : sz < 40
    · (try simp (disch := omega) only [↓zk_lt, ↓zk_nl, ↓zk_eq, ↓zk_ne, ↓zk_ix, ↓zk_dv, ↓zk_bo, ↓zk_rg, ↓zk_get, ↓zk_set, Option.bind_some])
    · (try simp (disch := omega) only [↓zk_lt, ↓zk_nl, ↓zk_eq, ↓zk_ne, ↓zk_ix, ↓zk_dv, ↓zk_bo, ↓zk_rg, ↓zk_get, ↓zk_set, Option.bind_some])
      rw [zk_bd (c_fail h)]
  unfold fn_Setup_checkFirstWord_b34
  by_cases a : cl = 0
  · (try simp (disch := omega) only [↓zk_lt, ↓zk_nl, ↓zk_eq, ↓zk_ne, ↓zk_ix, ↓zk_dv, ↓zk_bo, ↓zk_rg, ↓zk_get, ↓zk_set, Option.bind_some])
    exact e58
  · have h1 := sp_ht I (c := cl - 1) (by omega) (by omega)
    have h2 := ht_r (st := st) (dp := dp) (cl - 1)
    rcases hv with rfl | rfl
    · by_cases b : sz < 40
      · (try simp (disch := omega) only [↓zk_lt, ↓zk_nl, ↓zk_eq, ↓zk_ne, ↓zk_ix, ↓zk_dv, ↓zk_bo, ↓zk_rg, ↓zk_get, ↓zk_set, Option.bind_some])
      · (try simp (disch := omega) only [↓zk_lt, ↓zk_nl, ↓zk_eq, ↓zk_ne, ↓zk_ix, ↓zk_dv, ↓zk_bo, ↓zk_rg, ↓zk_get, ↓zk_set, Option.bind_some])
        rw [zk_bd (c_fail h)]
    · (try simp (disch := omega) only [↓zk_lt, ↓zk_nl, ↓zk_eq, ↓zk_ne, ↓zk_ix, ↓zk_dv, ↓zk_bo, ↓zk_rg, ↓zk_get, ↓zk_set, Option.bind_some])
      rw [zk_bd h1]
      rcases h2 with h2 | h2
      · by_cases b : sz < 40
        · (try simp (disch := omega) only [↓zk_lt, ↓zk_nl, ↓zk_eq, ↓zk_ne, ↓zk_ix, ↓zk_dv, ↓zk_bo, ↓zk_rg, ↓zk_get, ↓zk_set, Option.bind_some])
        · (try simp (disch := omega) only [↓zk_lt, ↓zk_nl, ↓zk_eq, ↓zk_ne, ↓zk_ix, ↓zk_dv, ↓zk_bo, ↓zk_rg, ↓zk_get, ↓zk_set, Option.bind_some])
          rw [zk_bd (c_fail h)]
      · (try simp (disch := omega) only [↓zk_lt, ↓zk_nl, ↓zk_eq, ↓zk_ne, ↓zk_ix, ↓zk_dv, ↓zk_bo, ↓zk_rg, ↓zk_get, ↓zk_set, Option.bind_some])
        exact e58
theorem cfw (C : pC tn cl sz st dp tp va nb w) {o s v : Int} (hv : v = 0 ∨ v = 1) : ((cl = 0 ∨ (v = 1 ∧ 1 ≤ cl ∧ ht st dp (cl - 1) = 1)) ∧ fn_Setup_checkFirstWord_b34 s 0 o cl sz st dp v = some (5, s)) ∨ ((1 ≤ cl ∧ (v = 1 → ht st dp (cl - 1) = 0)) ∧ ((sz = 40 ∧ fn_Setup_checkFirstWord_b34 s 0 o cl sz st dp v = some (6, s)) ∨ (sz < 40 ∧ fn_Setup_checkFirstWord_b34 s 0 o cl sz st dp v = some (0, o)))) := by
  obtain ⟨⟨g, I, M⟩, G⟩ := C
  have hsz := I.1.2.1
  have hcl := I.1.1
  have e58 : fn_Setup_checkFirstWord_b58 s 0 o sz = some (5, s) := by
    unfold fn_Setup_checkFirstWord_b58
    rw [zk_bd c_fail0]
    by_cases a : sz < 40
    · (try simp (disch := omega) only [↓zk_lt, ↓zk_nl, ↓zk_eq, ↓zk_ne, ↓zk_ix, ↓zk_dv, ↓zk_bo, ↓zk_rg, ↓zk_get, ↓zk_set, Option.bind_some])
    · (try simp (disch := omega) only [↓zk_lt, ↓zk_nl, ↓zk_eq, ↓zk_ne, ↓zk_ix, ↓zk_dv, ↓zk_bo, ↓zk_rg, ↓zk_get, ↓zk_set, Option.bind_some])
      rw [zk_bd (c_fail (by omega))]
  unfold fn_Setup_checkFirstWord_b34
  by_cases a : cl = 0
  · refine Or.inl ⟨Or.inl a, ?_⟩
    (try simp (disch := omega) only [↓zk_lt, ↓zk_nl, ↓zk_eq, ↓zk_ne, ↓zk_ix, ↓zk_dv, ↓zk_bo, ↓zk_rg, ↓zk_get, ↓zk_set, Option.bind_some])
    exact e58
  · have h1 := sp_ht I (c := cl - 1) (by omega) (by omega)
    have h2 := ht_r (st := st) (dp := dp) (cl - 1)
    rcases hv with rfl | rfl
    · refine Or.inr ⟨⟨by omega, fun h => by omega⟩, ?_⟩
      by_cases b : sz < 40
      · refine Or.inr ⟨b, ?_⟩
        (try simp (disch := omega) only [↓zk_lt, ↓zk_nl, ↓zk_eq, ↓zk_ne, ↓zk_ix, ↓zk_dv, ↓zk_bo, ↓zk_rg, ↓zk_get, ↓zk_set, Option.bind_some])
      · refine Or.inl ⟨by omega, ?_⟩
        (try simp (disch := omega) only [↓zk_lt, ↓zk_nl, ↓zk_eq, ↓zk_ne, ↓zk_ix, ↓zk_dv, ↓zk_bo, ↓zk_rg, ↓zk_get, ↓zk_set, Option.bind_some])
        rw [zk_bd c_fail0]
    · rcases h2 with h2 | h2
      · refine Or.inr ⟨⟨by omega, fun h => h2⟩, ?_⟩
        by_cases b : sz < 40
        · refine Or.inr ⟨b, ?_⟩
          (try simp (disch := omega) only [↓zk_lt, ↓zk_nl, ↓zk_eq, ↓zk_ne, ↓zk_ix, ↓zk_dv, ↓zk_bo, ↓zk_rg, ↓zk_get, ↓zk_set, Option.bind_some])
          rw [zk_bd h1]
          (try simp (disch := omega) only [↓zk_lt, ↓zk_nl, ↓zk_eq, ↓zk_ne, ↓zk_ix, ↓zk_dv, ↓zk_bo, ↓zk_rg, ↓zk_get, ↓zk_set, Option.bind_some])
        · refine Or.inl ⟨by omega, ?_⟩
          (try simp (disch := omega) only [↓zk_lt, ↓zk_nl, ↓zk_eq, ↓zk_ne, ↓zk_ix, ↓zk_dv, ↓zk_bo, ↓zk_rg, ↓zk_get, ↓zk_set, Option.bind_some])
          rw [zk_bd h1]
          (try simp (disch := omega) only [↓zk_lt, ↓zk_nl, ↓zk_eq, ↓zk_ne, ↓zk_ix, ↓zk_dv, ↓zk_bo, ↓zk_rg, ↓zk_get, ↓zk_set, Option.bind_some])
          rw [zk_bd c_fail0]
      · refine Or.inl ⟨Or.inr ⟨rfl, by omega, h2⟩, ?_⟩
        (try simp (disch := omega) only [↓zk_lt, ↓zk_nl, ↓zk_eq, ↓zk_ne, ↓zk_ix, ↓zk_dv, ↓zk_bo, ↓zk_rg, ↓zk_get, ↓zk_set, Option.bind_some])
        rw [zk_bd h1]
        (try simp (disch := omega) only [↓zk_lt, ↓zk_nl, ↓zk_eq, ↓zk_ne, ↓zk_ix, ↓zk_dv, ↓zk_bo, ↓zk_rg, ↓zk_get, ↓zk_set, Option.bind_some])
        exact e58
end PT5

/-! a cord's statement -/
section PT6
variable {len q cl sz tn : Int} {f f1 st dp tp va nb w g nm : Int → Int}
variable {y1 y2 y3 y4 o mo got rt rp rs : Int} {n : Int → Int}
end PT6

/-! the loop over a setup text, and loadCords -/
section PT7
variable {len : Int} {f f1 : Int → Int}
theorem c_ns (H : pB len f1 f) {q k0 s0 : Int} (hq : 0 ≤ q) (hl : q ≤ len) : fn_Text_nextStatement f1 len k0 s0 q 0 = some (if tK f len q = 0 then 0 else 1, tK f len q, tS f len q, tE f len q) := by
  have hb := H.1
  have hk := tK_r (f := f) hq hl
  unfold fn_Text_nextStatement
  rw [zk_bd c_hf0]
  (try simp (disch := omega) only [↓zk_lt, ↓zk_nl, ↓zk_eq, ↓zk_ne, ↓zk_ix, ↓zk_dv, ↓zk_bo, ↓zk_rg, ↓zk_get, ↓zk_set, Option.bind_some])
  rw [zk_bd (c_next H hq hl)]
  by_cases a : tK f len q = 0
  · (try simp (disch := omega) only [↓zk_lt, ↓zk_nl, ↓zk_eq, ↓zk_ne, ↓zk_ix, ↓zk_dv, ↓zk_bo, ↓zk_rg, ↓zk_get, ↓zk_set, Option.bind_some])
    rw [if_pos a]
  · (try simp (disch := omega) only [↓zk_lt, ↓zk_nl, ↓zk_eq, ↓zk_ne, ↓zk_ix, ↓zk_dv, ↓zk_bo, ↓zk_rg, ↓zk_get, ↓zk_set, Option.bind_some])
    rw [if_neg a]
theorem x_loop {c o k s e tn cl sz i : Int} {nm st dp tp va nb : Int → Int} (h : 1 ≤ c ∧ c ≤ 7) (ht : 0 ≤ tn ∧ tn ≤ 8) (hi : 0 ≤ i ∧ i ≤ 700) {n : Nat} (hn : 1 ≤ n) : fn_Setup_parse_b14 n f1 len k s e c o tn nm cl sz st dp tp va nb i = some (k, s, e, c, o, tn, nm, cl, sz, st, dp, tp, va, nb) := by
  obtain ⟨m, rfl⟩ : ∃ m, n = m + 1 := ⟨n - 1, by omega⟩
  rw [fn_Setup_parse_b14]
  (try simp (disch := omega) only [↓zk_lt, ↓zk_nl, ↓zk_eq, ↓zk_ne, ↓zk_ix, ↓zk_dv, ↓zk_bo, ↓zk_rg, ↓zk_get, ↓zk_set, Option.bind_some])
  rw [zk_bd (x_ns h)]
  by_cases a : tn = 0
  · (try simp (disch := omega) only [↓zk_lt, ↓zk_nl, ↓zk_eq, ↓zk_ne, ↓zk_ix, ↓zk_dv, ↓zk_bo, ↓zk_rg, ↓zk_get, ↓zk_set, Option.bind_some])
    rw [zk_bd (c_fail h)]
  · (try simp (disch := omega) only [↓zk_lt, ↓zk_nl, ↓zk_eq, ↓zk_ne, ↓zk_ix, ↓zk_dv, ↓zk_bo, ↓zk_rg, ↓zk_get, ↓zk_set, Option.bind_some])
variable {q k0 s0 o tn cl sz y1 y2 y3 y4 got i : Int} {nm st dp tp va nb w nn : Int → Int} {n : Nat}
theorem o_comp (H : pB len f1 f) (hq : 0 ≤ q) (hl : q ≤ len) (hi : 0 ≤ i ∧ i ≤ 700) (h2 : ¬ tK f len q = 0) (t1 : fn_Text_isWord f1 (tK f len q) (tS f len q) (tE f len q) [116, 111, 112, 105, 99] = some 0) (c1 : fn_Text_isWord f1 (tK f len q) (tS f len q) (tE f len q) [99, 108, 117, 115, 116, 101, 114] = some 0) :
    fn_Setup_parse_b14 (n + 1) f1 len k0 s0 q 0 o tn nm cl sz st dp tp va nb i = (fn_Setup_readCord f1 len (tK f len q) (tS f len q) (tE f len q) 0 o tn nm cl sz st dp tp va nb).bind fun q65 => fn_Setup_parse_b14 n f1 len q65.1 q65.2.1 q65.2.2.1 q65.2.2.2.1 q65.2.2.2.2.1 tn nm cl q65.2.2.2.2.2.1 q65.2.2.2.2.2.2.1 q65.2.2.2.2.2.2.2.1 q65.2.2.2.2.2.2.2.2.1 q65.2.2.2.2.2.2.2.2.2.1 q65.2.2.2.2.2.2.2.2.2.2 (i + 1) := by
  have hns := c_ns H hq hl (k0 := k0) (s0 := s0)
  rw [if_neg h2] at hns
  rw [fn_Setup_parse_b14]
  (try simp (disch := omega) only [↓zk_lt, ↓zk_nl, ↓zk_eq, ↓zk_ne, ↓zk_ix, ↓zk_dv, ↓zk_bo, ↓zk_rg, ↓zk_get, ↓zk_set, Option.bind_some])
  rw [zk_bd hns]
  (try simp (disch := omega) only [↓zk_lt, ↓zk_nl, ↓zk_eq, ↓zk_ne, ↓zk_ix, ↓zk_dv, ↓zk_bo, ↓zk_rg, ↓zk_get, ↓zk_set, Option.bind_some])
  rw [zk_bd t1]
  (try simp (disch := omega) only [↓zk_lt, ↓zk_nl, ↓zk_eq, ↓zk_ne, ↓zk_ix, ↓zk_dv, ↓zk_bo, ↓zk_rg, ↓zk_get, ↓zk_set, Option.bind_some])
  rw [zk_bd c1]
  (try simp (disch := omega) only [↓zk_lt, ↓zk_nl, ↓zk_eq, ↓zk_ne, ↓zk_ix, ↓zk_dv, ↓zk_bo, ↓zk_rg, ↓zk_get, ↓zk_set, Option.bind_some])
end PT7

/-! the loop over a setup text, and loadCords -/
section PT8
variable {len : Int} {f f1 : Int → Int}
theorem pN_ext {tn : Int} {nm nm' w w' : Int → Int} (N : pN tn nm w) (ht : tn ≤ 8) (h0 : 0 ≤ tn) (e1 : ∀ j, 0 ≤ j → j < 8 → nm' j = nm j) (e2 : ∀ j, 0 ≤ j → j < 59 → w' j = w j) : pN tn nm' w' := by
  refine ⟨by rw [e2 0 (by omega) (by omega)]; exact N.1, fun t h1 h2 => ?_⟩
  obtain ⟨n, a1, a2, a3, a4⟩ := N.2 t h1 h2
  refine ⟨n, a1, ?_, pLet_c a3 (fun i h3 h4 => e2 i (by omega) (by omega)), ?_⟩
  · rw [e2 _ (by omega) (by omega)]; exact a2
  · rw [e1 t h1 (by omega), a4]
    exact (enc_c n _ (fun i h3 h4 => e2 i (by omega) (by omega))).symm
theorem pC_w {tn cl sz : Int} {st dp tp va nb w w' : Int → Int} (C : pC tn cl sz st dp tp va nb w) (e : ∀ j, 0 ≤ j → j < 259 → w' j = w j) : pC tn cl sz st dp tp va nb w' := by
  obtain ⟨⟨g, I, M⟩, G⟩ := C
  have hs := I.1.2.1
  refine ⟨⟨g, I, ⟨by rw [e 1 (by omega) (by omega)]; exact M.1, by rw [e 2 (by omega) (by omega)]; exact M.2.1, fun k h0 h1 => ?_⟩⟩, G⟩
  rw [e _ (by omega) (by omega), e _ (by omega) (by omega), e _ (by omega) (by omega), e _ (by omega) (by omega), e _ (by omega) (by omega)]
  exact M.2.2 k h0 h1
theorem pC_0 {st dp tp va nb w : Int → Int} (D : pDr st dp) (h1 : w 1 = 0) (h2 : w 2 = 0) : pC 0 0 0 st dp tp va nb w :=
  ⟨⟨fun _ => 0, ⟨⟨by omega, by omega, by omega⟩, ⟨D.1, D.1, fun c h0 h1 => by omega⟩, fun k h0 h1 => by omega⟩, ⟨h1, h2, fun k h0 h1 => by omega⟩⟩, D.2⟩
theorem l_ok {tn cl sz dtn dcl dsz k0 s0 e0 c0 o0 hs hS rc ro k' s' e' tn' cl' sz' : Int} {nm st dp tp va nb dnm dst ddp dtp dva dnb nm' st' dp' tp' va' nb' : Int → Int} (u1 : fn_Setup_parse f1 len k0 s0 e0 c0 o0 dtn dnm dcl dsz dst ddp dtp dva dnb = some (k', s', e', 0, -1, tn', nm', cl', sz', st', dp', tp', va', nb')) :
    fn_KR_loadCords f1 len k0 s0 e0 c0 o0 tn nm cl sz st dp tp va nb dtn dnm dcl dsz dst ddp dtp dva dnb hs hS rc ro = some (sz', 0, k', s', e', 0, -1, tn', cpy 8 nm nm', cl', sz', cpy 7 st st', cpy 40 dp dp', cpy 40 tp tp', cpy 40 va va', cpy 40 nb nb', tn', nm', cl', sz', st', dp', tp', va', nb', 0, 0, 0, -1) := by
  unfold fn_KR_loadCords fn_KR_closeText fn_Topics_copyFrom
  rw [zk_bd u1]
  (try simp (disch := omega) only [↓zk_lt, ↓zk_nl, ↓zk_eq, ↓zk_ne, ↓zk_ix, ↓zk_dv, ↓zk_bo, ↓zk_rg, ↓zk_get, ↓zk_set, Option.bind_some])
  unfold fn_Text_clear
  (try simp (disch := omega) only [↓zk_lt, ↓zk_nl, ↓zk_eq, ↓zk_ne, ↓zk_ix, ↓zk_dv, ↓zk_bo, ↓zk_rg, ↓zk_get, ↓zk_set, Option.bind_some])
  rw [zk_bd (sp_cpy (n := 8) (by omega))]
  (try simp (disch := omega) only [↓zk_lt, ↓zk_nl, ↓zk_eq, ↓zk_ne, ↓zk_ix, ↓zk_dv, ↓zk_bo, ↓zk_rg, ↓zk_get, ↓zk_set, Option.bind_some])
  rw [zk_bd sp_ccpy]
  unfold fn_History_clear
  (try simp (disch := omega) only [↓zk_lt, ↓zk_nl, ↓zk_eq, ↓zk_ne, ↓zk_ix, ↓zk_dv, ↓zk_bo, ↓zk_rg, ↓zk_get, ↓zk_set, Option.bind_some])
theorem l_no {tn cl sz dtn dcl dsz k0 s0 e0 c0 o0 hs hS rc ro k' s' e' c off tn' cl' sz' : Int} {nm st dp tp va nb dnm dst ddp dtp dva dnb nm' st' dp' tp' va' nb' : Int → Int} (hc : 1 ≤ c ∧ c ≤ 7) (u1 : fn_Setup_parse f1 len k0 s0 e0 c0 o0 dtn dnm dcl dsz dst ddp dtp dva dnb = some (k', s', e', c, off, tn', nm', cl', sz', st', dp', tp', va', nb')) :
    fn_KR_loadCords f1 len k0 s0 e0 c0 o0 tn nm cl sz st dp tp va nb dtn dnm dcl dsz dst ddp dtp dva dnb hs hS rc ro = some (-1, 0, k', s', e', c, off, tn, nm, cl, sz, st, dp, tp, va, nb, tn', nm', cl', sz', st', dp', tp', va', nb', hs, hS, c, off) := by
  unfold fn_KR_loadCords fn_KR_closeText
  rw [zk_bd u1]
  (try simp (disch := omega) only [↓zk_lt, ↓zk_nl, ↓zk_eq, ↓zk_ne, ↓zk_ix, ↓zk_dv, ↓zk_bo, ↓zk_rg, ↓zk_get, ↓zk_set, Option.bind_some])
  unfold fn_Text_clear
  (try simp (disch := omega) only [↓zk_lt, ↓zk_nl, ↓zk_eq, ↓zk_ne, ↓zk_ix, ↓zk_dv, ↓zk_bo, ↓zk_rg, ↓zk_get, ↓zk_set, Option.bind_some])
theorem l_sp {k0 s0 e0 c0 o0 dtn dcl dsz : Int} {dnm dst ddp dtp dva dnb : Int → Int} : fn_Setup_parse f1 len k0 s0 e0 c0 o0 dtn dnm dcl dsz dst ddp dtp dva dnb = fn_Setup_parse_b14 jk_F f1 len k0 s0 0 0 (-1) 0 dnm 0 0 dst ddp dtp dva dnb 0 := by
  have e1 : fn_Text_begin e0 c0 o0 = some (0, 0, -1) := rfl
  have e2 : fn_Topics_clear dtn = some 0 := rfl
  have e3 : fn_Cords_clear dcl dsz = some (0, 0) := rfl
  unfold fn_Setup_parse
  rw [zk_bd e1, zk_bd e2, zk_bd e3]
end PT8

/-! a script's statement: its word and its arguments -/
section PU1
variable {len q tn : Int} {f f1 nm w : Int → Int}
theorem zk_i0 {β : Type} {x : Option Int} {r : Int} {a b : Option β} (h : x = some r) (h0 : r = 0) : (x.bind fun q => jk_eqs q 0 a b) = a := by
  rw [zk_bd h]
  exact zk_eq (by omega) (by omega) h0
theorem zk_i1 {β : Type} {x : Option Int} {r : Int} {a b : Option β} (h : x = some r) (h0 : r = 1) : (x.bind fun q => jk_eqs q 0 a b) = b := by
  rw [zk_bd h]
  exact zk_ne (by omega) (by omega) (by omega) (by omega) (by omega)
/-- a statement read: its kind and arguments beside the reference's order and numbers -/
def pSt (tn K A B C o x y z : Int) : Prop := (K = 0 ∧ o = 1) ∨ (K = 1 ∧ o = 2 ∧ x = A ∧ (0 ≤ A ∧ A ≤ 5) ∧ y = B ∧ (0 ≤ B ∧ B < tn) ∧ z = C ∧ (0 ≤ C ∧ C ≤ 9999)) ∨ (K = 2 ∧ o = 3 ∧ x = A ∧ (0 ≤ A ∧ A ≤ 39) ∧ y = B ∧ (0 ≤ B ∧ B < tn) ∧ z = C ∧ (0 ≤ C ∧ C ≤ 9999)) ∨ (K = 3 ∧ o = 4 ∧ x = A ∧ (0 ≤ A ∧ A ≤ 39)) ∨ (K = 4 ∧ o = 5 ∧ x = A ∧ (0 ≤ A ∧ A ≤ 5) ∧ y = B ∧ (0 ≤ B ∧ B < tn)) ∨ (K = 5 ∧ o = 6 ∧ x = A ∧ (0 ≤ A ∧ A ≤ 39) ∧ y = B ∧ (0 ≤ B ∧ B ≤ 3) ∧ z = C ∧ (0 ≤ C ∧ C ≤ 9)) ∨ (K = 6 ∧ o = 7 ∧ x = A ∧ (0 ≤ A ∧ A ≤ 39) ∧ y = B ∧ (1 ≤ B ∧ B ≤ 4)) ∨ (K = 7 ∧ o = 8 ∧ x = A ∧ (0 ≤ A ∧ A ≤ 39) ∧ y = B ∧ (0 ≤ B ∧ B < tn)) ∨ (K = 8 ∧ o = 9 ∧ x = A ∧ (0 ≤ A ∧ A ≤ 5))
variable {y1 y2 y3 y4 o mo got : Int} {n : Int → Int}
end PU1

/-! script statements read, one after another -/
section PU2
variable {len q tn : Int} {f f1 nm w : Int → Int}
theorem set_any (u : Int → Int) (i v : Int) (hi : 0 ≤ i ∧ i ≤ 30) : ∃ u', fn_Row_set 30 u i v = some u' := by
  unfold fn_Row_set
  by_cases a : i < 30
  · refine ⟨jk_up u i v, ?_⟩
    (try simp (disch := omega) only [↓zk_lt, ↓zk_nl, ↓zk_eq, ↓zk_ne, ↓zk_ix, ↓zk_dv, ↓zk_bo, ↓zk_rg, ↓zk_get, ↓zk_set, Option.bind_some])
  · refine ⟨u, ?_⟩
    (try simp (disch := omega) only [↓zk_lt, ↓zk_nl, ↓zk_eq, ↓zk_ne, ↓zk_ix, ↓zk_dv, ↓zk_bo, ↓zk_rg, ↓zk_get, ↓zk_set, Option.bind_some])
theorem set_in {u : Int → Int} {i v : Int} (hi : 0 ≤ i ∧ i < 30) : fn_Row_set 30 u i v = some (jk_up u i v) := by
  unfold fn_Row_set
  (try simp (disch := omega) only [↓zk_lt, ↓zk_nl, ↓zk_eq, ↓zk_ne, ↓zk_ix, ↓zk_dv, ↓zk_bo, ↓zk_rg, ↓zk_get, ↓zk_set, Option.bind_some])
/-! the reference keeps three numbers -/
def pRl (tn i : Int) (kk k1 k2 k3 od nu : Int → Int) : Prop := ∀ j, 0 ≤ j → j < i → pSt tn (kk j) (k1 j) (k2 j) (k3 j) (od j) (nu (3 * j)) (nu (3 * j + 1)) (nu (3 * j + 2))
theorem pRl_s {i K A B C : Int} {kk k1 k2 k3 od nu nu' nn : Int → Int} (R : pRl tn i kk k1 k2 k3 od nu) (h : pSt tn K A B C (K + 1) (nn 0) (nn 1) (nn 2)) (hnu : ∀ j, nu' j = if 3 * i ≤ j ∧ j < 3 * i + 3 then nn (j - 3 * i) else nu j) : pRl tn (i + 1) (jk_up kk i K) (jk_up k1 i A) (jk_up k2 i B) (jk_up k3 i C) (jk_up od i (K + 1)) nu' := by
  intro j h0 h1
  by_cases x : j = i
  · rw [up_eq x, up_eq x, up_eq x, up_eq x, up_eq x, hnu, hnu, hnu, if_pos (by omega), if_pos (by omega), if_pos (by omega), show 3 * j - 3 * i = 0 by omega, show 3 * j + 1 - 3 * i = 1 by omega, show 3 * j + 2 - 3 * i = 2 by omega]
    exact h
  · rw [up_ne x, up_ne x, up_ne x, up_ne x, up_ne x, hnu, hnu, hnu, if_neg (by omega), if_neg (by omega), if_neg (by omega)]
    exact R j h0 (by omega)
end PU2

/-! one statement of a script done, on both sides -/
section PV1
variable {cl sz tn : Int} {st dp tp va nb w od nu : Int → Int} {A B C v : Int}
end PV1

/-! runScript -/
section PV2
variable {len : Int} {f f1 : Int → Int}
theorem upF_id {u : Int → Int → Int} {i : Int} : upF u i (u i) = u := by
  funext j
  unfold upF
  by_cases x : j = i
  · rw [if_pos x, x]
  · rw [if_neg x]
theorem ct_0 {off rc ro : Int} : fn_KR_closeText len 0 off rc ro = some (1, 0, 0, off) := by
  unfold fn_KR_closeText fn_Text_clear
  (try simp (disch := omega) only [↓zk_lt, ↓zk_nl, ↓zk_eq, ↓zk_ne, ↓zk_ix, ↓zk_dv, ↓zk_bo, ↓zk_rg, ↓zk_get, ↓zk_set, Option.bind_some])
theorem ct_c {c off rc ro : Int} (h : 1 ≤ c ∧ c ≤ 7) : fn_KR_closeText len c off rc ro = some (0, 0, c, off) := by
  unfold fn_KR_closeText fn_Text_clear
  (try simp (disch := omega) only [↓zk_lt, ↓zk_nl, ↓zk_eq, ↓zk_ne, ↓zk_ix, ↓zk_dv, ↓zk_bo, ↓zk_rg, ↓zk_get, ↓zk_set, Option.bind_some])
end PV2

