/-! the words of a text -/
def cls (x : Int) : Int := if x = 32 ∨ x = 10 then 1 else if 97 ≤ x ∧ x ≤ 122 then 2 else if 48 ≤ x ∧ x ≤ 57 then 3 else if x = 59 then 4 else 5
theorem cls_r (x : Int) : 1 ≤ cls x ∧ cls x ≤ 5 := by
  unfold cls
  repeat' split
  all_goals omega
def tSk (f : Int → Int) (p : Int) : Nat → Int
  | 0 => p
  | m + 1 => if cls (f p) = 1 then tSk f (p + 1) m else p
def tRun (f : Int → Int) (k p : Int) : Nat → Int
  | 0 => p
  | m + 1 => if cls (f p) = k then tRun f k (p + 1) m else p
theorem tRun_0 {f : Int → Int} {k p : Int} : tRun f k p 0 = p := rfl
theorem tRun_t {f : Int → Int} {k p : Int} {m : Nat} (h : cls (f p) = k) : tRun f k p (m + 1) = tRun f k (p + 1) m := if_pos h
theorem tRun_f {f : Int → Int} {k p : Int} {m : Nat} (h : ¬ cls (f p) = k) : tRun f k p (m + 1) = p := if_neg h
theorem tSk_r {f : Int → Int} : ∀ (m : Nat) (p : Int), (p ≤ tSk f p m ∧ tSk f p m ≤ p + m) ∧ (∀ i, p ≤ i → i < tSk f p m → cls (f i) = 1) ∧ (tSk f p m < p + m → ¬ cls (f (tSk f p m)) = 1) := by
  intro m
  induction m with
  | zero => intro p; simp only [tSk]; exact ⟨⟨by omega, by omega⟩, fun i h1 h2 => by omega, fun h => by omega⟩
  | succ m ih =>
    intro p
    obtain ⟨⟨h1, h2⟩, h3, h4⟩ := ih (p + 1)
    simp only [tSk]
    by_cases e : cls (f p) = 1
    · simp only [if_pos e]
      refine ⟨⟨by omega, by omega⟩, fun i h5 h6 => ?_, fun h => h4 (by omega)⟩
      by_cases y : i = p
      · rw [y]; exact e
      · exact h3 i (by omega) h6
    · simp only [if_neg e]
      exact ⟨⟨by omega, by omega⟩, fun i h5 h6 => by omega, fun _ => e⟩
theorem tRun_r {f : Int → Int} {k : Int} : ∀ (m : Nat) (p : Int), (p ≤ tRun f k p m ∧ tRun f k p m ≤ p + m) ∧ (∀ i, p ≤ i → i < tRun f k p m → cls (f i) = k) := by
  intro m
  induction m with
  | zero => intro p; simp only [tRun]; exact ⟨⟨by omega, by omega⟩, fun i h1 h2 => by omega⟩
  | succ m ih =>
    intro p
    obtain ⟨⟨h1, h2⟩, h3⟩ := ih (p + 1)
    simp only [tRun]
    by_cases e : cls (f p) = k
    · simp only [if_pos e]
      refine ⟨⟨by omega, by omega⟩, fun i h5 h6 => ?_⟩
      by_cases y : i = p
      · rw [y]; exact e
      · exact h3 i (by omega) h6
    · simp only [if_neg e]
      exact ⟨⟨by omega, by omega⟩, fun i h5 h6 => by omega⟩
/-- the token at q: its start, its end, its kind -/
def tS (f : Int → Int) (len q : Int) : Int := tSk f q (len - q).toNat
def tE (f : Int → Int) (len q : Int) : Int := if tS f len q < len then (if cls (f (tS f len q)) = 2 ∨ cls (f (tS f len q)) = 3 then tRun f (cls (f (tS f len q))) (tS f len q + 1) (len - (tS f len q + 1)).toNat else tS f len q + 1) else tS f len q
def tK (f : Int → Int) (len q : Int) : Int := if tS f len q < len then (if cls (f (tS f len q)) = 2 then (if 8 < tE f len q - tS f len q then 5 else 2) else if cls (f (tS f len q)) = 3 then (if 4 < tE f len q - tS f len q then 5 else 3) else cls (f (tS f len q))) else 0
section PS
variable {len q : Int} {f f1 : Int → Int}
theorem tS_r (hq : 0 ≤ q) (hl : q ≤ len) : (q ≤ tS f len q ∧ tS f len q ≤ len) ∧ (∀ i, q ≤ i → i < tS f len q → cls (f i) = 1) ∧ (tS f len q < len → ¬ cls (f (tS f len q)) = 1) := by
  obtain ⟨⟨h1, h2⟩, h3, h4⟩ := tSk_r (f := f) (len - q).toNat q
  exact ⟨⟨h1, by unfold tS; omega⟩, h3, fun h => h4 (by unfold tS at h; omega)⟩
theorem tE_r (hq : 0 ≤ q) (hl : q ≤ len) : (tS f len q ≤ tE f len q ∧ tE f len q ≤ len) ∧ (tS f len q < len → tS f len q < tE f len q) := by
  obtain ⟨⟨h1, h2⟩, -⟩ := tS_r (f := f) hq hl
  unfold tE
  by_cases e : tS f len q < len
  · rw [if_pos e]
    by_cases y : cls (f (tS f len q)) = 2 ∨ cls (f (tS f len q)) = 3
    · rw [if_pos y]
      obtain ⟨⟨h3, h4⟩, -⟩ := tRun_r (f := f) (k := cls (f (tS f len q))) (len - (tS f len q + 1)).toNat (tS f len q + 1)
      exact ⟨⟨by omega, by omega⟩, fun _ => by omega⟩
    · rw [if_neg y]; exact ⟨⟨by omega, by omega⟩, fun _ => by omega⟩
  · rw [if_neg e]; exact ⟨⟨by omega, by omega⟩, fun h => by omega⟩
theorem tK_r (hq : 0 ≤ q) (hl : q ≤ len) : (0 ≤ tK f len q ∧ tK f len q ≤ 5) ∧ (tK f len q = 0 ↔ tS f len q = len) ∧ ¬ tK f len q = 1 := by
  obtain ⟨⟨h1, h2⟩, -, h3⟩ := tS_r (f := f) hq hl
  have hc := cls_r (f (tS f len q))
  unfold tK
  by_cases e : tS f len q < len
  · have := h3 e
    rw [if_pos e]
    by_cases y : cls (f (tS f len q)) = 2
    · rw [if_pos y]; split <;> (refine ⟨by omega, by omega, by omega⟩)
    · rw [if_neg y]
      by_cases z : cls (f (tS f len q)) = 3
      · rw [if_pos z]; split <;> (refine ⟨by omega, by omega, by omega⟩)
      · rw [if_neg z]; exact ⟨by omega, by omega, by omega⟩
  · rw [if_neg e]; exact ⟨by omega, by omega, by omega⟩
/-- a word's letters, a number's digits -/
theorem tK_2 (hq : 0 ≤ q) (hl : q ≤ len) (h : tK f len q = 2) : tS f len q < len ∧ (1 ≤ tE f len q - tS f len q ∧ tE f len q - tS f len q ≤ 8) ∧ ∀ i, tS f len q ≤ i → i < tE f len q → 97 ≤ f i ∧ f i ≤ 122 := by
  have hk := tK_r (f := f) hq hl
  have hE := tE_r (f := f) hq hl
  obtain ⟨⟨h1, h2⟩, -, h3⟩ := tS_r (f := f) hq hl
  have e : tS f len q < len := by
    by_cases e : tS f len q < len
    · exact e
    · have := hk.2.1.mpr (by omega); omega
  have hc := cls_r (f (tS f len q))
  have y : cls (f (tS f len q)) = 2 ∧ tE f len q - tS f len q ≤ 8 := by
    unfold tK at h
    rw [if_pos e] at h
    by_cases y : cls (f (tS f len q)) = 2
    · rw [if_pos y] at h
      by_cases z : 8 < tE f len q - tS f len q
      · rw [if_pos z] at h; omega
      · exact ⟨y, by omega⟩
    · rw [if_neg y] at h
      by_cases z : cls (f (tS f len q)) = 3
      · rw [if_pos z] at h; split at h <;> omega
      · rw [if_neg z] at h; omega
  have hs := hE.2 e
  refine ⟨e, ⟨by omega, y.2⟩, fun i h4 h5 => ?_⟩
  have hr := (tRun_r (f := f) (k := cls (f (tS f len q))) (len - (tS f len q + 1)).toNat (tS f len q + 1)).2
  have c2 : cls (f i) = 2 := by
    by_cases z : i = tS f len q
    · rw [z]; exact y.1
    · rw [← y.1]
      refine hr i (by omega) ?_
      unfold tE at h5
      rw [if_pos e, if_pos (Or.inl y.1)] at h5
      exact h5
  unfold cls at c2
  by_cases u : f i = 32 ∨ f i = 10
  · rw [if_pos u] at c2; omega
  · rw [if_neg u] at c2
    by_cases v : 97 ≤ f i ∧ f i ≤ 122
    · exact v
    · rw [if_neg v] at c2
      by_cases x : 48 ≤ f i ∧ f i ≤ 57
      · rw [if_pos x] at c2; omega
      · rw [if_neg x] at c2
        split at c2 <;> omega
theorem tK_3 (hq : 0 ≤ q) (hl : q ≤ len) (h : tK f len q = 3) : tS f len q < len ∧ (1 ≤ tE f len q - tS f len q ∧ tE f len q - tS f len q ≤ 4) ∧ ∀ i, tS f len q ≤ i → i < tE f len q → 48 ≤ f i ∧ f i ≤ 57 := by
  have hk := tK_r (f := f) hq hl
  have hE := tE_r (f := f) hq hl
  obtain ⟨⟨h1, h2⟩, -, h3⟩ := tS_r (f := f) hq hl
  have e : tS f len q < len := by
    by_cases e : tS f len q < len
    · exact e
    · have := hk.2.1.mpr (by omega); omega
  have hc := cls_r (f (tS f len q))
  have y : cls (f (tS f len q)) = 3 ∧ tE f len q - tS f len q ≤ 4 := by
    unfold tK at h
    rw [if_pos e] at h
    by_cases y : cls (f (tS f len q)) = 2
    · rw [if_pos y] at h; split at h <;> omega
    · rw [if_neg y] at h
      by_cases z : cls (f (tS f len q)) = 3
      · rw [if_pos z] at h
        by_cases u : 4 < tE f len q - tS f len q
        · rw [if_pos u] at h; omega
        · exact ⟨z, by omega⟩
      · rw [if_neg z] at h; omega
  have hs := hE.2 e
  refine ⟨e, ⟨by omega, y.2⟩, fun i h4 h5 => ?_⟩
  have hr := (tRun_r (f := f) (k := cls (f (tS f len q))) (len - (tS f len q + 1)).toNat (tS f len q + 1)).2
  have c2 : cls (f i) = 3 := by
    by_cases z : i = tS f len q
    · rw [z]; exact y.1
    · rw [← y.1]
      refine hr i (by omega) ?_
      unfold tE at h5
      rw [if_pos e, if_pos (Or.inr y.1)] at h5
      exact h5
  unfold cls at c2
  by_cases u : f i = 32 ∨ f i = 10
  · rw [if_pos u] at c2; omega
  · rw [if_neg u] at c2
    by_cases v : 97 ≤ f i ∧ f i ≤ 122
    · rw [if_pos v] at c2; omega
    · rw [if_neg v] at c2
      by_cases x : 48 ≤ f i ∧ f i ≤ 57
      · exact x
      · rw [if_neg x] at c2
        split at c2 <;> omega
/-! the system's way to a token -/
theorem c_sort (H : pB len f1 f) {x : Int} (h0 : 0 ≤ x) (h1 : x ≤ len) : fn_Text_sortAt f1 len x = some (if x < len then cls (f x) else 0) := by
  have hl := H.1
  unfold fn_Text_sortAt
  by_cases e : x < len
  · obtain ⟨b1, b2⟩ := H.2 x h0 e
    rw [if_pos e]
    (try simp (disch := omega) only [↓zk_lt, ↓zk_nl, ↓zk_eq, ↓zk_ne, ↓zk_ix, ↓zk_dv, ↓zk_bo, ↓zk_rg, ↓zk_get, ↓zk_set, Option.bind_some])
    rw [b1]
    unfold cls fn_Text_sortAt_b47
    by_cases a : f x = 32
    · (try simp (disch := omega) only [↓zk_lt, ↓zk_nl, ↓zk_eq, ↓zk_ne, ↓zk_ix, ↓zk_dv, ↓zk_bo, ↓zk_rg, ↓zk_get, ↓zk_set, Option.bind_some]); rw [if_pos (Or.inl a)]
    · by_cases b : f x = 10
      · (try simp (disch := omega) only [↓zk_lt, ↓zk_nl, ↓zk_eq, ↓zk_ne, ↓zk_ix, ↓zk_dv, ↓zk_bo, ↓zk_rg, ↓zk_get, ↓zk_set, Option.bind_some]); rw [if_pos (Or.inr b)]
      · (try simp (disch := omega) only [↓zk_lt, ↓zk_nl, ↓zk_eq, ↓zk_ne, ↓zk_ix, ↓zk_dv, ↓zk_bo, ↓zk_rg, ↓zk_get, ↓zk_set, Option.bind_some])
        rw [if_neg (by omega)]
        by_cases c : 97 ≤ f x
        · by_cases d : f x ≤ 122
          · (try simp (disch := omega) only [↓zk_lt, ↓zk_nl, ↓zk_eq, ↓zk_ne, ↓zk_ix, ↓zk_dv, ↓zk_bo, ↓zk_rg, ↓zk_get, ↓zk_set, Option.bind_some]); rw [if_pos ⟨c, d⟩]
          · (try simp (disch := omega) only [↓zk_lt, ↓zk_nl, ↓zk_eq, ↓zk_ne, ↓zk_ix, ↓zk_dv, ↓zk_bo, ↓zk_rg, ↓zk_get, ↓zk_set, Option.bind_some]); rw [if_neg (by omega), if_neg (by omega), if_neg (by omega)]
        · (try simp (disch := omega) only [↓zk_lt, ↓zk_nl, ↓zk_eq, ↓zk_ne, ↓zk_ix, ↓zk_dv, ↓zk_bo, ↓zk_rg, ↓zk_get, ↓zk_set, Option.bind_some])
          rw [if_neg (by omega)]
          by_cases d : 48 ≤ f x
          · by_cases g : f x ≤ 57
            · (try simp (disch := omega) only [↓zk_lt, ↓zk_nl, ↓zk_eq, ↓zk_ne, ↓zk_ix, ↓zk_dv, ↓zk_bo, ↓zk_rg, ↓zk_get, ↓zk_set, Option.bind_some]); rw [if_pos ⟨d, g⟩]
            · (try simp (disch := omega) only [↓zk_lt, ↓zk_nl, ↓zk_eq, ↓zk_ne, ↓zk_ix, ↓zk_dv, ↓zk_bo, ↓zk_rg, ↓zk_get, ↓zk_set, Option.bind_some])
              rw [if_neg (by omega)]
              by_cases k : f x = 59
              · (try simp (disch := omega) only [↓zk_lt, ↓zk_nl, ↓zk_eq, ↓zk_ne, ↓zk_ix, ↓zk_dv, ↓zk_bo, ↓zk_rg, ↓zk_get, ↓zk_set, Option.bind_some]); rw [if_pos k]
              · (try simp (disch := omega) only [↓zk_lt, ↓zk_nl, ↓zk_eq, ↓zk_ne, ↓zk_ix, ↓zk_dv, ↓zk_bo, ↓zk_rg, ↓zk_get, ↓zk_set, Option.bind_some]); rw [if_neg k]
          · (try simp (disch := omega) only [↓zk_lt, ↓zk_nl, ↓zk_eq, ↓zk_ne, ↓zk_ix, ↓zk_dv, ↓zk_bo, ↓zk_rg, ↓zk_get, ↓zk_set, Option.bind_some])
            rw [if_neg (by omega)]
            rw [if_neg (by omega)]
  · rw [if_neg e]; (try simp (disch := omega) only [↓zk_lt, ↓zk_nl, ↓zk_eq, ↓zk_ne, ↓zk_ix, ↓zk_dv, ↓zk_bo, ↓zk_rg, ↓zk_get, ↓zk_set, Option.bind_some])
theorem c_run (H : pB len f1 f) {k s : Int} (hk : k = 2 ∨ k = 3) : ∀ (n m : Nat) (e : Int), e + m = len → 0 ≤ e → m < n → fn_Text_next_b106 n f1 len k s e 1 = fn_Text_next_b149 k s (tRun f k e m) 1 := by
  have hl := H.1
  intro n
  induction n with
  | zero => intro m e _ _ h; omega
  | succ n ih =>
    intro m e he h0 hm
    rw [fn_Text_next_b106]
    cases m with
    | zero => (try simp (disch := omega) only [↓zk_lt, ↓zk_nl, ↓zk_eq, ↓zk_ne, ↓zk_ix, ↓zk_dv, ↓zk_bo, ↓zk_rg, ↓zk_get, ↓zk_set, Option.bind_some]); rfl
    | succ m =>
      have hc := cls_r (f e)
      (try simp (disch := omega) only [↓zk_lt, ↓zk_nl, ↓zk_eq, ↓zk_ne, ↓zk_ix, ↓zk_dv, ↓zk_bo, ↓zk_rg, ↓zk_get, ↓zk_set, Option.bind_some])
      rw [zk_bd (c_sort H h0 (by omega)), if_pos (by omega)]
      simp only [tRun]
      by_cases x : cls (f e) = k
      · (try simp (disch := omega) only [↓zk_lt, ↓zk_nl, ↓zk_eq, ↓zk_ne, ↓zk_ix, ↓zk_dv, ↓zk_bo, ↓zk_rg, ↓zk_get, ↓zk_set, Option.bind_some])
        rw [ih m _ (by omega) (by omega) (by omega), if_pos x]
      · (try simp (disch := omega) only [↓zk_lt, ↓zk_nl, ↓zk_eq, ↓zk_ne, ↓zk_ix, ↓zk_dv, ↓zk_bo, ↓zk_rg, ↓zk_get, ↓zk_set, Option.bind_some])
        rw [if_neg x]
theorem c_skip (H : pB len f1 f) {k0 e0 : Int} : ∀ (n m : Nat) (p : Int), p + m = len → 0 ≤ p → m < n → fn_Text_next_b8 n f1 len k0 p e0 = fn_Text_next_b44 f1 len k0 (tSk f p m) e0 := by
  have hl := H.1
  intro n
  induction n with
  | zero => intro m p _ _ h; omega
  | succ n ih =>
    intro m p hp h0 hm
    rw [fn_Text_next_b8]
    cases m with
    | zero => (try simp (disch := omega) only [↓zk_lt, ↓zk_nl, ↓zk_eq, ↓zk_ne, ↓zk_ix, ↓zk_dv, ↓zk_bo, ↓zk_rg, ↓zk_get, ↓zk_set, Option.bind_some]); rfl
    | succ m =>
      have hc := cls_r (f p)
      (try simp (disch := omega) only [↓zk_lt, ↓zk_nl, ↓zk_eq, ↓zk_ne, ↓zk_ix, ↓zk_dv, ↓zk_bo, ↓zk_rg, ↓zk_get, ↓zk_set, Option.bind_some])
      rw [zk_bd (c_sort H h0 (by omega)), if_pos (by omega)]
      simp only [tSk]
      by_cases x : cls (f p) = 1
      · (try simp (disch := omega) only [↓zk_lt, ↓zk_nl, ↓zk_eq, ↓zk_ne, ↓zk_ix, ↓zk_dv, ↓zk_bo, ↓zk_rg, ↓zk_get, ↓zk_set, Option.bind_some])
        rw [ih m _ (by omega) (by omega) (by omega), if_pos x]
      · (try simp (disch := omega) only [↓zk_lt, ↓zk_nl, ↓zk_eq, ↓zk_ne, ↓zk_ix, ↓zk_dv, ↓zk_bo, ↓zk_rg, ↓zk_get, ↓zk_set, Option.bind_some])
        rw [if_neg x]
theorem c_next (H : pB len f1 f) (hq : 0 ≤ q) (hl : q ≤ len) {k0 s0 : Int} : fn_Text_next f1 len k0 s0 q = some (tK f len q, tS f len q, tE f len q) := by
  have hF := jk_F_big
  have hb := H.1
  obtain ⟨⟨h1, h2⟩, -, h3⟩ := tS_r (f := f) hq hl
  have hE := tE_r (f := f) hq hl
  have hc := cls_r (f (tS f len q))
  unfold fn_Text_next
  rw [c_skip H jk_F (len - q).toNat q (by omega) hq (by omega)]
  have es : tSk f q (len - q).toNat = tS f len q := rfl
  rw [es]
  unfold fn_Text_next_b44
  rw [zk_bd (c_sort H (by omega) h2)]
  by_cases e : tS f len q < len
  · have hk := h3 e
    rw [if_pos e]
    (try simp (disch := omega) only [↓zk_lt, ↓zk_nl, ↓zk_eq, ↓zk_ne, ↓zk_ix, ↓zk_dv, ↓zk_bo, ↓zk_rg, ↓zk_get, ↓zk_set, Option.bind_some])
    unfold fn_Text_next_b81
    by_cases y : cls (f (tS f len q)) = 2
    · have eE : tE f len q = tRun f (cls (f (tS f len q))) (tS f len q + 1) (len - (tS f len q + 1)).toNat := by
        unfold tE
        rw [if_pos e, if_pos (Or.inl y)]
      (try simp (disch := omega) only [↓zk_lt, ↓zk_nl, ↓zk_eq, ↓zk_ne, ↓zk_ix, ↓zk_dv, ↓zk_bo, ↓zk_rg, ↓zk_get, ↓zk_set, Option.bind_some])
      rw [c_run H (Or.inl y) jk_F (len - (tS f len q + 1)).toNat (tS f len q + 1) (by omega) (by omega) (by omega), ← eE]
      unfold fn_Text_next_b149 tK
      rw [if_pos e, if_pos y]
      by_cases z : 8 < tE f len q - tS f len q
      · (try simp (disch := omega) only [↓zk_lt, ↓zk_nl, ↓zk_eq, ↓zk_ne, ↓zk_ix, ↓zk_dv, ↓zk_bo, ↓zk_rg, ↓zk_get, ↓zk_set, Option.bind_some])
        rw [if_pos z]
      · (try simp (disch := omega) only [↓zk_lt, ↓zk_nl, ↓zk_eq, ↓zk_ne, ↓zk_ix, ↓zk_dv, ↓zk_bo, ↓zk_rg, ↓zk_get, ↓zk_set, Option.bind_some])
        rw [if_neg z, y]
    · by_cases y3 : cls (f (tS f len q)) = 3
      · have eE : tE f len q = tRun f (cls (f (tS f len q))) (tS f len q + 1) (len - (tS f len q + 1)).toNat := by
          unfold tE
          rw [if_pos e, if_pos (Or.inr y3)]
        (try simp (disch := omega) only [↓zk_lt, ↓zk_nl, ↓zk_eq, ↓zk_ne, ↓zk_ix, ↓zk_dv, ↓zk_bo, ↓zk_rg, ↓zk_get, ↓zk_set, Option.bind_some])
        rw [c_run H (Or.inr y3) jk_F (len - (tS f len q + 1)).toNat (tS f len q + 1) (by omega) (by omega) (by omega), ← eE]
        unfold fn_Text_next_b149 tK
        rw [if_pos e, if_neg y, if_pos y3]
        by_cases z : 4 < tE f len q - tS f len q
        · (try simp (disch := omega) only [↓zk_lt, ↓zk_nl, ↓zk_eq, ↓zk_ne, ↓zk_ix, ↓zk_dv, ↓zk_bo, ↓zk_rg, ↓zk_get, ↓zk_set, Option.bind_some])
          rw [if_pos z]
        · (try simp (disch := omega) only [↓zk_lt, ↓zk_nl, ↓zk_eq, ↓zk_ne, ↓zk_ix, ↓zk_dv, ↓zk_bo, ↓zk_rg, ↓zk_get, ↓zk_set, Option.bind_some])
          rw [if_neg z, y3]
      · have eE : tE f len q = tS f len q + 1 := by
          unfold tE
          rw [if_pos e, if_neg (by omega)]
        (try simp (disch := omega) only [↓zk_lt, ↓zk_nl, ↓zk_eq, ↓zk_ne, ↓zk_ix, ↓zk_dv, ↓zk_bo, ↓zk_rg, ↓zk_get, ↓zk_set, Option.bind_some])
        rw [show jk_F = 99999 + 1 from rfl, fn_Text_next_b106]
        unfold fn_Text_next_b149 tK
        (try simp (disch := omega) only [↓zk_lt, ↓zk_nl, ↓zk_eq, ↓zk_ne, ↓zk_ix, ↓zk_dv, ↓zk_bo, ↓zk_rg, ↓zk_get, ↓zk_set, Option.bind_some])
        rw [if_pos e, if_neg y, if_neg y3, eE]
  · have eE : tE f len q = tS f len q := by
      unfold tE
      rw [if_neg e]
    rw [if_neg e]
    (try simp (disch := omega) only [↓zk_lt, ↓zk_nl, ↓zk_eq, ↓zk_ne, ↓zk_ix, ↓zk_dv, ↓zk_bo, ↓zk_rg, ↓zk_get, ↓zk_set, Option.bind_some])
    unfold fn_Text_next_b81
    (try simp (disch := omega) only [↓zk_lt, ↓zk_nl, ↓zk_eq, ↓zk_ne, ↓zk_ix, ↓zk_dv, ↓zk_bo, ↓zk_rg, ↓zk_get, ↓zk_set, Option.bind_some])
    rw [show jk_F = 99999 + 1 from rfl, fn_Text_next_b106]
    unfold fn_Text_next_b149 tK
    (try simp (disch := omega) only [↓zk_lt, ↓zk_nl, ↓zk_eq, ↓zk_ne, ↓zk_ix, ↓zk_dv, ↓zk_bo, ↓zk_rg, ↓zk_get, ↓zk_set, Option.bind_some])
    rw [if_neg e, eE]
/-! the reference's way to it -/
theorem m_byte (H : pB len f1 f) {x : Int} (h0 : 0 ≤ x) : x < 100000 → fn_Md_byteAt f len x = some (if x < len then f x else -1) := by
  intro h1
  have hl := H.1
  unfold fn_Md_byteAt
  by_cases e : x < len
  · rw [if_pos e]; (try simp (disch := omega) only [↓zk_lt, ↓zk_nl, ↓zk_eq, ↓zk_ne, ↓zk_ix, ↓zk_dv, ↓zk_bo, ↓zk_rg, ↓zk_get, ↓zk_set, Option.bind_some])
  · rw [if_neg e]; (try simp (disch := omega) only [↓zk_lt, ↓zk_nl, ↓zk_eq, ↓zk_ne, ↓zk_ix, ↓zk_dv, ↓zk_bo, ↓zk_rg, ↓zk_get, ↓zk_set, Option.bind_some])
theorem m_let (H : pB len f1 f) {x : Int} (h0 : 0 ≤ x) (h1 : x ≤ len) : fn_Md_isLetter f len x = some (if x < len ∧ cls (f x) = 2 then 1 else 0) := by
  have hl := H.1
  unfold fn_Md_isLetter
  rw [zk_bd (m_byte H h0 (by omega))]
  by_cases e : x < len
  · obtain ⟨b1, b2⟩ := H.2 x h0 e
    rw [if_pos e, zk_bd (sm_inR ⟨by omega, by omega⟩ ⟨by omega, by omega⟩ ⟨by omega, by omega⟩)]
    by_cases y : 97 ≤ f x ∧ f x ≤ 122
    · have c : cls (f x) = 2 := by unfold cls; rw [if_neg (by omega), if_pos y]
      rw [if_pos y, if_pos ⟨e, c⟩]
      (try simp (disch := omega) only [↓zk_lt, ↓zk_nl, ↓zk_eq, ↓zk_ne, ↓zk_ix, ↓zk_dv, ↓zk_bo, ↓zk_rg, ↓zk_get, ↓zk_set, Option.bind_some])
    · have c : ¬ cls (f x) = 2 := by
        unfold cls
        by_cases u : f x = 32 ∨ f x = 10
        · rw [if_pos u]; omega
        · rw [if_neg u, if_neg y]
          repeat' split
          all_goals omega
      rw [if_neg y, if_neg (fun z => c z.2)]
      (try simp (disch := omega) only [↓zk_lt, ↓zk_nl, ↓zk_eq, ↓zk_ne, ↓zk_ix, ↓zk_dv, ↓zk_bo, ↓zk_rg, ↓zk_get, ↓zk_set, Option.bind_some])
  · rw [if_neg e, if_neg (fun z => e z.1), zk_bd (sm_inR ⟨by omega, by omega⟩ ⟨by omega, by omega⟩ ⟨by omega, by omega⟩), if_neg (by omega)]
    (try simp (disch := omega) only [↓zk_lt, ↓zk_nl, ↓zk_eq, ↓zk_ne, ↓zk_ix, ↓zk_dv, ↓zk_bo, ↓zk_rg, ↓zk_get, ↓zk_set, Option.bind_some])
theorem m_lrun (H : pB len f1 f) {s v tk : Int} (hs : 0 ≤ s) : ∀ (n m : Nat) (e : Int), e + m = len → s ≤ e → m < n → fn_Md_advanceToken_b85 n f len e s v tk = some (tRun f 2 e m, s, v, if 8 < tRun f 2 e m - s then 4 else 1) := by
  have hl := H.1
  intro n
  induction n with
  | zero => intro m e _ _ h; omega
  | succ n ih =>
    intro m e he h0 hm
    rw [fn_Md_advanceToken_b85, zk_bd (m_let H (by omega) (by omega))]
    cases m with
    | zero =>
      rw [if_neg (by omega), tRun_0]
      by_cases z : 8 < e - s
      · (try simp (disch := omega) only [↓zk_lt, ↓zk_nl, ↓zk_eq, ↓zk_ne, ↓zk_ix, ↓zk_dv, ↓zk_bo, ↓zk_rg, ↓zk_get, ↓zk_set, Option.bind_some]); rw [if_pos z]
      · (try simp (disch := omega) only [↓zk_lt, ↓zk_nl, ↓zk_eq, ↓zk_ne, ↓zk_ix, ↓zk_dv, ↓zk_bo, ↓zk_rg, ↓zk_get, ↓zk_set, Option.bind_some]); rw [if_neg z]
    | succ m =>
      by_cases x : cls (f e) = 2
      · rw [if_pos ⟨by omega, x⟩]
        (try simp (disch := omega) only [↓zk_lt, ↓zk_nl, ↓zk_eq, ↓zk_ne, ↓zk_ix, ↓zk_dv, ↓zk_bo, ↓zk_rg, ↓zk_get, ↓zk_set, Option.bind_some])
        rw [ih m _ (by omega) (by omega) (by omega), tRun_t x]
      · rw [if_neg (fun z => x z.2), tRun_f x]
        by_cases z : 8 < e - s
        · (try simp (disch := omega) only [↓zk_lt, ↓zk_nl, ↓zk_eq, ↓zk_ne, ↓zk_ix, ↓zk_dv, ↓zk_bo, ↓zk_rg, ↓zk_get, ↓zk_set, Option.bind_some]); rw [if_pos z]
        · (try simp (disch := omega) only [↓zk_lt, ↓zk_nl, ↓zk_eq, ↓zk_ne, ↓zk_ix, ↓zk_dv, ↓zk_bo, ↓zk_rg, ↓zk_get, ↓zk_set, Option.bind_some]); rw [if_neg z]
/-- the number that digits write -/
def nvl (f : Int → Int) (s : Int) : Nat → Int
  | 0 => 0
  | j + 1 => nvl f s j * 10 + f (s + j) - 48
theorem m_dig (H : pB len f1 f) {x : Int} (h0 : 0 ≤ x) (h1 : x ≤ len) : fn_Md_inRange (if x < len then f x else -1) 48 57 = some (if x < len ∧ cls (f x) = 3 then 1 else 0) := by
  have hl := H.1
  by_cases e : x < len
  · obtain ⟨b1, b2⟩ := H.2 x h0 e
    rw [if_pos e, sm_inR ⟨by omega, by omega⟩ ⟨by omega, by omega⟩ ⟨by omega, by omega⟩]
    by_cases y : 48 ≤ f x ∧ f x ≤ 57
    · have c : cls (f x) = 3 := by unfold cls; rw [if_neg (by omega), if_neg (by omega), if_pos y]
      rw [if_pos y, if_pos ⟨e, c⟩]
    · have c : ¬ cls (f x) = 3 := by
        unfold cls
        by_cases u : f x = 32 ∨ f x = 10
        · rw [if_pos u]; omega
        · rw [if_neg u]
          by_cases v : 97 ≤ f x ∧ f x ≤ 122
          · rw [if_pos v]; omega
          · rw [if_neg v, if_neg y]; split <;> omega
      rw [if_neg y, if_neg (fun z => c z.2)]
  · rw [if_neg e, if_neg (fun z => e z.1), sm_inR ⟨by omega, by omega⟩ ⟨by omega, by omega⟩ ⟨by omega, by omega⟩, if_neg (by omega)]
theorem m_drun (H : pB len f1 f) {s tk : Int} (hs : 0 ≤ s) : ∀ (n m : Nat) (e v : Int), e + m = len → s ≤ e → (e - s ≤ 4 → v = nvl f s (e - s).toNat) → m < n → ∃ v', fn_Md_advanceToken_b146 n f len e s v tk = some (tRun f 3 e m, s, v', if 4 < tRun f 3 e m - s then 4 else 2) ∧ (tRun f 3 e m - s ≤ 4 → v' = nvl f s (tRun f 3 e m - s).toNat) := by
  have hl := H.1
  intro n
  induction n with
  | zero => intro m e v _ _ _ h; omega
  | succ n ih =>
    intro m e v he h0 hv hm
    rw [fn_Md_advanceToken_b146, zk_bd (m_byte H (by omega) (by omega)), zk_bd (m_dig H (by omega) (by omega))]
    cases m with
    | zero =>
      rw [if_neg (by omega), tRun_0]
      refine ⟨v, ?_, hv⟩
      by_cases z : 4 < e - s
      · (try simp (disch := omega) only [↓zk_lt, ↓zk_nl, ↓zk_eq, ↓zk_ne, ↓zk_ix, ↓zk_dv, ↓zk_bo, ↓zk_rg, ↓zk_get, ↓zk_set, Option.bind_some]); rw [if_pos z]
      · (try simp (disch := omega) only [↓zk_lt, ↓zk_nl, ↓zk_eq, ↓zk_ne, ↓zk_ix, ↓zk_dv, ↓zk_bo, ↓zk_rg, ↓zk_get, ↓zk_set, Option.bind_some]); rw [if_neg z]
    | succ m =>
      by_cases x : cls (f e) = 3
      · rw [if_pos (⟨by omega, x⟩ : e < len ∧ cls (f e) = 3), tRun_t x]
        by_cases y : e - s < 4
        · obtain ⟨v', k1, k2⟩ := ih m (e + 1) (10 * v + f e - 48) (by omega) (by omega) (fun h => by
            rw [show (e + 1 - s).toNat = (e - s).toNat + 1 by omega]
            simp only [nvl]
            rw [← hv (by omega), show s + (((e - s).toNat : Nat) : Int) = e by omega]
            omega) (by omega)
          refine ⟨v', ?_, k2⟩
          (try simp (disch := omega) only [↓zk_lt, ↓zk_nl, ↓zk_eq, ↓zk_ne, ↓zk_ix, ↓zk_dv, ↓zk_bo, ↓zk_rg, ↓zk_get, ↓zk_set, Option.bind_some])
          rw [zk_bd (m_byte H (by omega) (by omega)), if_pos (show e < len by omega)]
          exact k1
        · obtain ⟨v', k1, k2⟩ := ih m (e + 1) v (by omega) (by omega) (fun h => by omega) (by omega)
          refine ⟨v', ?_, k2⟩
          (try simp (disch := omega) only [↓zk_lt, ↓zk_nl, ↓zk_eq, ↓zk_ne, ↓zk_ix, ↓zk_dv, ↓zk_bo, ↓zk_rg, ↓zk_get, ↓zk_set, Option.bind_some])
          exact k1
      · rw [if_neg (fun z : e < len ∧ cls (f e) = 3 => x z.2), tRun_f x]
        refine ⟨v, ?_, hv⟩
        by_cases z : 4 < e - s
        · (try simp (disch := omega) only [↓zk_lt, ↓zk_nl, ↓zk_eq, ↓zk_ne, ↓zk_ix, ↓zk_dv, ↓zk_bo, ↓zk_rg, ↓zk_get, ↓zk_set, Option.bind_some]); rw [if_pos z]
        · (try simp (disch := omega) only [↓zk_lt, ↓zk_nl, ↓zk_eq, ↓zk_ne, ↓zk_ix, ↓zk_dv, ↓zk_bo, ↓zk_rg, ↓zk_get, ↓zk_set, Option.bind_some]); rw [if_neg z]
/-- the reference's name of a kind -/
def mk (k : Int) : Int := if k = 0 then 0 else k - 1
/-- the reference has read the token at q -/
def pTk (f : Int → Int) (len q nb bg vl tk : Int) : Prop := nb = tE f len q ∧ bg = tS f len q ∧ tk = mk (tK f len q) ∧ (tK f len q = 3 → vl = nvl f (tS f len q) (tE f len q - tS f len q).toNat)
theorem m_next_b (H : pB len f1 f) {b0 v0 t0 : Int} (hq : 0 ≤ q) (hl : q ≤ len) : ∀ (n m : Nat) (p : Int), p + m = len → q ≤ p → tSk f p m = tS f len q → m < n → ∃ nb bg vl tk, fn_Md_advanceToken_b0 n f len p b0 v0 t0 = some (nb, bg, vl, tk) ∧ pTk f len q nb bg vl tk := by
  have hF := jk_F_big
  have hb := H.1
  obtain ⟨⟨h1, h2⟩, -, h3⟩ := tS_r (f := f) hq hl
  have hE := tE_r (f := f) hq hl
  intro n
  induction n with
  | zero => intro m p _ _ _ h; omega
  | succ n ih =>
    intro m p hp h0 hs hm
    rw [fn_Md_advanceToken_b0, zk_bd (m_byte H (by omega) (by omega))]
    cases m with
    | zero =>
      simp only [tSk] at hs
      have ek : tK f len q = 0 := (tK_r hq hl).2.1.mpr (by omega)
      have eE : tE f len q = tS f len q := by unfold tE; rw [if_neg (by omega)]
      rw [if_neg (by omega)]
      (try simp (disch := omega) only [↓zk_lt, ↓zk_nl, ↓zk_eq, ↓zk_ne, ↓zk_ix, ↓zk_dv, ↓zk_bo, ↓zk_rg, ↓zk_get, ↓zk_set, Option.bind_some])
      rw [zk_bd (m_byte H (by omega) (by omega)), if_neg (by omega)]
      (try simp (disch := omega) only [↓zk_lt, ↓zk_nl, ↓zk_eq, ↓zk_ne, ↓zk_ix, ↓zk_dv, ↓zk_bo, ↓zk_rg, ↓zk_get, ↓zk_set, Option.bind_some])
      rw [zk_bd (m_byte H (by omega) (by omega)), if_neg (by omega)]
      (try simp (disch := omega) only [↓zk_lt, ↓zk_nl, ↓zk_eq, ↓zk_ne, ↓zk_ix, ↓zk_dv, ↓zk_bo, ↓zk_rg, ↓zk_get, ↓zk_set, Option.bind_some])
      exact ⟨p, p, 0, 0, rfl, by rw [eE, ← hs], hs, by rw [ek]; rfl, fun h => by omega⟩
    | succ m =>
      obtain ⟨c1, c2⟩ := H.2 p (by omega) (by omega)
      simp only [tSk] at hs
      rw [if_pos (by omega)]
      by_cases x : cls (f p) = 1
      · rw [if_pos x] at hs
        obtain ⟨nb, bg, vl, tk, k1, k2⟩ := ih m (p + 1) (by omega) (by omega) hs (by omega)
        refine ⟨nb, bg, vl, tk, ?_, k2⟩
        by_cases y : f p = 32
        · (try simp (disch := omega) only [↓zk_lt, ↓zk_nl, ↓zk_eq, ↓zk_ne, ↓zk_ix, ↓zk_dv, ↓zk_bo, ↓zk_rg, ↓zk_get, ↓zk_set, Option.bind_some])
          exact k1
        · have y2 : f p = 10 := by
            unfold cls at x
            by_cases z : f p = 32 ∨ f p = 10
            · omega
            · rw [if_neg z] at x
              repeat' split at x
              all_goals omega
          (try simp (disch := omega) only [↓zk_lt, ↓zk_nl, ↓zk_eq, ↓zk_ne, ↓zk_ix, ↓zk_dv, ↓zk_bo, ↓zk_rg, ↓zk_get, ↓zk_set, Option.bind_some])
          rw [zk_bd (m_byte H (by omega) (by omega)), if_pos (by omega)]
          (try simp (disch := omega) only [↓zk_lt, ↓zk_nl, ↓zk_eq, ↓zk_ne, ↓zk_ix, ↓zk_dv, ↓zk_bo, ↓zk_rg, ↓zk_get, ↓zk_set, Option.bind_some])
          exact k1
      · rw [if_neg x] at hs
        have y1 : ¬ f p = 32 := fun z => x (by unfold cls; rw [if_pos (Or.inl z)])
        have y2 : ¬ f p = 10 := fun z => x (by unfold cls; rw [if_pos (Or.inr z)])
        have hps : p < len := by omega
        (try simp (disch := omega) only [↓zk_lt, ↓zk_nl, ↓zk_eq, ↓zk_ne, ↓zk_ix, ↓zk_dv, ↓zk_bo, ↓zk_rg, ↓zk_get, ↓zk_set, Option.bind_some])
        rw [zk_bd (m_byte H (by omega) (by omega)), if_pos hps]
        (try simp (disch := omega) only [↓zk_lt, ↓zk_nl, ↓zk_eq, ↓zk_ne, ↓zk_ix, ↓zk_dv, ↓zk_bo, ↓zk_rg, ↓zk_get, ↓zk_set, Option.bind_some])
        rw [zk_bd (m_byte H (by omega) (by omega)), if_pos hps]
        (try simp (disch := omega) only [↓zk_lt, ↓zk_nl, ↓zk_eq, ↓zk_ne, ↓zk_ix, ↓zk_dv, ↓zk_bo, ↓zk_rg, ↓zk_get, ↓zk_set, Option.bind_some])
        rw [zk_bd (m_let H (by omega) (by omega))]
        by_cases z : cls (f p) = 2
        · have eE : tE f len q = tRun f 2 (p + 1) m := by
            unfold tE
            rw [← hs, if_pos hps, z, if_pos (Or.inl rfl)]
            congr 1
            omega
          rw [if_pos ⟨hps, z⟩]
          (try simp (disch := omega) only [↓zk_lt, ↓zk_nl, ↓zk_eq, ↓zk_ne, ↓zk_ix, ↓zk_dv, ↓zk_bo, ↓zk_rg, ↓zk_get, ↓zk_set, Option.bind_some])
          have hr := m_lrun H (s := p) (v := 0) (tk := t0) (by omega) 99999 m (p + 1) (by omega) (by omega) (by omega)
          rw [show jk_F = 99999 + 1 from rfl, fn_Md_advanceToken_b85, zk_bd (m_let H (by omega) (by omega)), if_pos ⟨hps, z⟩]
          (try simp (disch := omega) only [↓zk_lt, ↓zk_nl, ↓zk_eq, ↓zk_ne, ↓zk_ix, ↓zk_dv, ↓zk_bo, ↓zk_rg, ↓zk_get, ↓zk_set, Option.bind_some])
          refine ⟨_, _, _, _, hr, eE.symm, hs, ?_, fun h => ?_⟩
          · unfold mk tK
            rw [← hs, if_pos hps, if_pos z, eE]
            by_cases u : 8 < tRun f 2 (p + 1) m - p
            · rw [if_pos u, if_pos u]; rfl
            · rw [if_neg u, if_neg u]; rfl
          · unfold tK at h
            rw [← hs, if_pos hps, if_pos z] at h
            split at h <;> omega
        · rw [if_neg (fun u => z u.2)]
          (try simp (disch := omega) only [↓zk_lt, ↓zk_nl, ↓zk_eq, ↓zk_ne, ↓zk_ix, ↓zk_dv, ↓zk_bo, ↓zk_rg, ↓zk_get, ↓zk_set, Option.bind_some])
          have hd := m_dig H (x := p) (by omega) (by omega)
          rw [if_pos hps] at hd
          rw [zk_bd hd]
          by_cases z3 : cls (f p) = 3
          · have eE : tE f len q = tRun f 3 (p + 1) m := by
              unfold tE
              rw [← hs, if_pos hps, z3, if_pos (Or.inr rfl)]
              congr 1
              omega
            have hr := m_drun H (s := p) (tk := t0) (by omega) 99999 m (p + 1) (10 * 0 + f p - 48) (by omega) (by omega) (fun h => by
              rw [show (p + 1 - p).toNat = 0 + 1 by omega]
              simp only [nvl, Int.natCast_zero, Int.add_zero]
              omega) (by omega)
            obtain ⟨v', k1, k2⟩ := hr
            rw [if_pos ⟨hps, z3⟩]
            (try simp (disch := omega) only [↓zk_lt, ↓zk_nl, ↓zk_eq, ↓zk_ne, ↓zk_ix, ↓zk_dv, ↓zk_bo, ↓zk_rg, ↓zk_get, ↓zk_set, Option.bind_some])
            rw [show jk_F = 99999 + 1 from rfl, fn_Md_advanceToken_b146, zk_bd (m_byte H (by omega) (by omega)), zk_bd (m_dig H (by omega) (by omega)), if_pos ⟨hps, z3⟩]
            (try simp (disch := omega) only [↓zk_lt, ↓zk_nl, ↓zk_eq, ↓zk_ne, ↓zk_ix, ↓zk_dv, ↓zk_bo, ↓zk_rg, ↓zk_get, ↓zk_set, Option.bind_some])
            rw [zk_bd (m_byte H (by omega) (by omega)), if_pos hps]
            refine ⟨_, _, _, _, k1, eE.symm, hs, ?_, fun h => ?_⟩
            · unfold mk tK
              rw [← hs, if_pos hps, if_neg z, if_pos z3, eE]
              by_cases u : 4 < tRun f 3 (p + 1) m - p
              · rw [if_pos u, if_pos u]; rfl
              · rw [if_neg u, if_neg u]; rfl
            · have := (tK_3 hq hl h).2.1
              rw [← hs, eE] at this
              rw [← hs, eE]
              exact k2 this.2
          · have eE : tE f len q = tS f len q + 1 := by
              unfold tE
              rw [← hs, if_pos hps, if_neg (by omega)]
            have eK : tK f len q = cls (f p) := by
              unfold tK
              rw [← hs, if_pos hps, if_neg z, if_neg z3]
            have hc := cls_r (f p)
            rw [if_neg (fun u => z3 u.2)]
            (try simp (disch := omega) only [↓zk_lt, ↓zk_nl, ↓zk_eq, ↓zk_ne, ↓zk_ix, ↓zk_dv, ↓zk_bo, ↓zk_rg, ↓zk_get, ↓zk_set, Option.bind_some])
            by_cases u : f p = 59
            · have c4 : cls (f p) = 4 := by unfold cls; rw [if_neg (by omega), if_neg (by omega), if_neg (by omega), if_pos u]
              (try simp (disch := omega) only [↓zk_lt, ↓zk_nl, ↓zk_eq, ↓zk_ne, ↓zk_ix, ↓zk_dv, ↓zk_bo, ↓zk_rg, ↓zk_get, ↓zk_set, Option.bind_some])
              exact ⟨_, _, _, _, rfl, by rw [eE, hs], hs, by rw [eK, c4]; rfl, fun h => by omega⟩
            · have c5 : cls (f p) = 5 := by
                unfold cls at z z3 ⊢
                rw [if_neg (by omega)] at z z3 ⊢
                by_cases a : 97 ≤ f p ∧ f p ≤ 122
                · rw [if_pos a] at z; omega
                · rw [if_neg a] at z3 ⊢
                  by_cases b : 48 ≤ f p ∧ f p ≤ 57
                  · rw [if_pos b] at z3; omega
                  · rw [if_neg b, if_neg u]
              (try simp (disch := omega) only [↓zk_lt, ↓zk_nl, ↓zk_eq, ↓zk_ne, ↓zk_ix, ↓zk_dv, ↓zk_bo, ↓zk_rg, ↓zk_get, ↓zk_set, Option.bind_some])
              exact ⟨_, _, _, _, rfl, by rw [eE, hs], hs, by rw [eK, c5]; rfl, fun h => by omega⟩
theorem m_next (H : pB len f1 f) (hq : 0 ≤ q) (hl : q ≤ len) (b0 v0 t0 : Int) : ∃ nb bg vl tk, fn_Md_advanceToken f len q b0 v0 t0 = some (nb, bg, vl, tk) ∧ pTk f len q nb bg vl tk := by
  have hF := jk_F_big
  have hb := H.1
  unfold fn_Md_advanceToken
  exact m_next_b H hq hl jk_F (len - q).toNat q (by omega) (by omega) rfl (by omega)
end PS
