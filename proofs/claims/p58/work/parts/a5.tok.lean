/-! tokens of a text that is told -/
/-- the letters w stand at q -/
def tk_at (f : Int → Int) (q : Int) (w : List Int) : Prop := ∀ i : Nat, i < w.length → f (q + (i : Int)) = w.getD i 0
section TK
variable {f : Int → Int} {len q s : Int} {w : List Int}
theorem tk_app {a b : List Int} (h : tk_at f q (a ++ b)) : tk_at f q a ∧ tk_at f (q + (a.length : Int)) b := by
  refine ⟨fun i hi => ?_, fun i hi => ?_⟩
  · rw [h i (by rw [List.length_append]; omega), List.getD_eq_getElem?_getD, List.getD_eq_getElem?_getD, List.getElem?_append_left hi]
  · have := h (a.length + i) (by rw [List.length_append]; omega)
    rw [show q + (a.length : Int) + (i : Int) = q + ((a.length + i : Nat) : Int) by omega, this, List.getD_eq_getElem?_getD, List.getD_eq_getElem?_getD, List.getElem?_append_right (by omega), show a.length + i - a.length = i by omega]
theorem tk_cons {x : Int} (h : tk_at f q (x :: w)) : f q = x ∧ tk_at f (q + 1) w := by
  refine ⟨?_, fun i hi => ?_⟩
  · have := h 0 (by rw [List.length_cons]; omega)
    rw [show q + ((0 : Nat) : Int) = q by omega] at this
    exact this
  · have := h (i + 1) (by rw [List.length_cons]; omega)
    rw [show q + 1 + (i : Int) = q + ((i + 1 : Nat) : Int) by omega, this]
    rfl
theorem tk_sk {p : Int} (h : ¬ cls (f p) = 1) : ∀ m : Nat, tSk f p m = p := by
  intro m
  cases m with
  | zero => rfl
  | succ m => exact if_neg h
theorem tk_run {d k : Int} (hd : ¬ cls d = k) : ∀ (w : List Int) (p : Int) (m : Nat), tk_at f p (w ++ [d]) → (∀ x ∈ w, cls x = k) → w.length ≤ m → tRun f k p m = p + (w.length : Int) := by
  intro w
  induction w with
  | nil =>
    intro p m h _ _
    have h0 := (tk_cons h).1
    cases m with
    | zero => show p = _; rw [List.length_nil]; omega
    | succ m => rw [tRun_f (by rw [h0]; exact hd), List.length_nil]; omega
  | cons x w ih =>
    intro p m h hx hm
    obtain ⟨h0, h1⟩ := tk_cons h
    rw [List.length_cons] at hm
    obtain ⟨m, rfl⟩ : ∃ m', m = m' + 1 := ⟨m - 1, by omega⟩
    rw [tRun_t (by rw [h0]; exact hx x (List.mem_cons_self ..)), ih (p + 1) m h1 (fun y hy => hx y (List.mem_cons_of_mem _ hy)) (by omega), List.length_cons]
    omega
theorem tk_S0 (h : ¬ cls (f q) = 1) : tS f len q = q := tk_sk h _
theorem tk_S1 (h : f q = 32) (h2 : ¬ cls (f (q + 1)) = 1) (hq : q < len) : tS f len q = q + 1 := by
  unfold tS
  obtain ⟨m, hm⟩ : ∃ m, (len - q).toNat = m + 1 := ⟨(len - q).toNat - 1, by omega⟩
  rw [hm]
  show (if cls (f q) = 1 then tSk f (q + 1) m else q) = q + 1
  rw [h, if_pos (by decide), tk_sk h2]
/-- a run of letters or digits, ended by another sign -/
theorem tk_EK {x d c : Int} {w : List Int} (hS : tS f len q = s) (hat : tk_at f s (x :: w ++ [d])) (hc : ∀ y ∈ x :: w, cls y = c) (hcc : c = 2 ∨ c = 3) (hd : ¬ cls d = c) (hl : s + (w.length : Int) + 1 < len) (h8 : (w.length : Int) + 1 ≤ (if c = 2 then 8 else 4)) : tE f len q = s + ((x :: w).length : Int) ∧ tK f len q = c := by
  obtain ⟨h0, h1⟩ := tk_cons (show tk_at f s (x :: (w ++ [d])) from hat)
  have hcx : cls (f s) = c := by rw [h0]; exact hc x (List.mem_cons_self ..)
  have hE : tE f len q = s + ((x :: w).length : Int) := by
    unfold tE
    rw [hS, if_pos (by omega), if_pos (by rw [hcx]; exact hcc), hcx, tk_run hd w (s + 1) _ h1 (fun y hy => hc y (List.mem_cons_of_mem _ hy)) (by omega), List.length_cons]
    omega
  refine ⟨hE, ?_⟩
  unfold tK
  rw [hE, hS, if_pos (by omega), hcx, List.length_cons]
  rcases hcc with rfl | rfl
  · rw [if_pos rfl] at h8
    rw [if_pos rfl, if_neg (by omega)]
  · rw [if_neg (by decide)] at h8
    rw [if_neg (by decide), if_pos rfl, if_neg (by omega)]
theorem tk_semi (h : f q = 59) (hq : q < len) : tS f len q = q ∧ tE f len q = q + 1 ∧ tK f len q = 4 := by
  have hc : cls (f q) = 4 := by rw [h]; decide
  have hS : tS f len q = q := tk_S0 (by rw [hc]; decide)
  refine ⟨hS, ?_, ?_⟩
  · unfold tE
    rw [hS, if_pos hq, hc, if_neg (by decide)]
  · unfold tK
    rw [hS, if_pos hq, hc, if_neg (by decide), if_neg (by decide)]
/-- a word at once, or behind a space -/
theorem tk_word {x d c : Int} {w : List Int} (hat : tk_at f q (x :: w ++ [d])) (hc : ∀ y ∈ x :: w, cls y = c) (hcc : c = 2 ∨ c = 3) (hd : ¬ cls d = c) (hl : q + (w.length : Int) + 1 < len) (h8 : (w.length : Int) + 1 ≤ (if c = 2 then 8 else 4)) : tS f len q = q ∧ tE f len q = q + ((x :: w).length : Int) ∧ tK f len q = c := by
  have h0 := (tk_cons (show tk_at f q (x :: (w ++ [d])) from hat)).1
  have hS : tS f len q = q := tk_S0 (by rw [h0, hc x (List.mem_cons_self ..)]; omega)
  exact ⟨hS, tk_EK hS hat hc hcc hd hl h8⟩
theorem tk_sword {x d c : Int} {w : List Int} (hat : tk_at f q (32 :: (x :: w ++ [d]))) (hc : ∀ y ∈ x :: w, cls y = c) (hcc : c = 2 ∨ c = 3) (hd : ¬ cls d = c) (hl : q + 1 + (w.length : Int) + 1 < len) (h8 : (w.length : Int) + 1 ≤ (if c = 2 then 8 else 4)) : tS f len q = q + 1 ∧ tE f len q = q + 1 + ((x :: w).length : Int) ∧ tK f len q = c := by
  obtain ⟨h32, hat1⟩ := tk_cons hat
  have h0 := (tk_cons (show tk_at f (q + 1) (x :: (w ++ [d])) from hat1)).1
  have hS : tS f len q = q + 1 := tk_S1 h32 (by rw [h0, hc x (List.mem_cons_self ..)]; omega) (by omega)
  exact ⟨hS, tk_EK hS hat1 hc hcc hd hl h8⟩
/-- words compared -/
theorem iw_1 (H : pB len f f) (hat : tk_at f s w) (hs : 0 ≤ s) (hl : s + (w.length : Int) ≤ len) (hw : w.length ≤ 8) : fn_Text_isWord f 2 s (s + (w.length : Int)) w = some 1 := by
  have hF := jk_F_big
  have hb := H.1
  have e1 : ∀ (n k : Nat) (i : Int), i + k = (w.length : Int) → 0 ≤ i → k < n → fn_Text_isWord_b28 n f s w i = some 1 := by
    intro n
    induction n with
    | zero => intro k i _ _ h; omega
    | succ n ih =>
      intro k i hi h0 hk
      rw [fn_Text_isWord_b28]
      cases k with
      | zero => (try simp (disch := omega) only [↓zk_lt, ↓zk_nl, ↓zk_eq, ↓zk_ne, ↓zk_ix, ↓zk_dv, ↓zk_bo, ↓zk_rg, ↓zk_get, ↓zk_set, Option.bind_some])
      | succ k =>
        have h1 := hat i.toNat (by omega)
        rw [show s + (i.toNat : Int) = s + i by omega] at h1
        have h2 := (H.2 (s + i) (by omega) (by omega)).2
        (try simp (disch := omega) only [↓zk_lt, ↓zk_nl, ↓zk_eq, ↓zk_ne, ↓zk_ix, ↓zk_dv, ↓zk_bo, ↓zk_rg, ↓zk_get, ↓zk_set, Option.bind_some])
        exact ih k (i + 1) (by omega) (by omega) (by omega)
  unfold fn_Text_isWord
  (try simp (disch := omega) only [↓zk_lt, ↓zk_nl, ↓zk_eq, ↓zk_ne, ↓zk_ix, ↓zk_dv, ↓zk_bo, ↓zk_rg, ↓zk_get, ↓zk_set, Option.bind_some])
  exact e1 jk_F w.length 0 (by omega) (by omega) (by omega)
theorem iw_l {e k : Int} (h : ¬ e - s = (w.length : Int)) (hs : 0 ≤ s ∧ s ≤ 700) (he : 0 ≤ e ∧ e ≤ 700) (hw : w.length ≤ 8) (hk : 0 ≤ k ∧ k ≤ 5) : fn_Text_isWord f k s e w = some 0 := by
  unfold fn_Text_isWord
  by_cases hk2 : k = 2
  · (try simp (disch := omega) only [↓zk_lt, ↓zk_nl, ↓zk_eq, ↓zk_ne, ↓zk_ix, ↓zk_dv, ↓zk_bo, ↓zk_rg, ↓zk_get, ↓zk_set, Option.bind_some])
  · (try simp (disch := omega) only [↓zk_lt, ↓zk_nl, ↓zk_eq, ↓zk_ne, ↓zk_ix, ↓zk_dv, ↓zk_bo, ↓zk_rg, ↓zk_get, ↓zk_set, Option.bind_some])
theorem iw_k {e k : Int} (h : ¬ k = 2) (hk : 0 ≤ k ∧ k ≤ 5) : fn_Text_isWord f k s e w = some 0 := by
  unfold fn_Text_isWord
  (try simp (disch := omega) only [↓zk_lt, ↓zk_nl, ↓zk_eq, ↓zk_ne, ↓zk_ix, ↓zk_dv, ↓zk_bo, ↓zk_rg, ↓zk_get, ↓zk_set, Option.bind_some])
theorem iw_h (H : pB len f f) {e x : Int} (hw : w.length ≤ 8) (hx : ¬ f s = x) (hxr : 0 ≤ x ∧ x ≤ 255) (hs : 0 ≤ s) (hl : s < len) (he : e - s = ((x :: w).length : Int)) (hel : e ≤ 700) : fn_Text_isWord f 2 s e (x :: w) = some 0 := by
  have hF := jk_F_big
  have hb := H.1
  have h2 := (H.2 s hs hl).2
  unfold fn_Text_isWord
  rw [List.length_cons] at he ⊢
  (try simp (disch := omega) only [↓zk_lt, ↓zk_nl, ↓zk_eq, ↓zk_ne, ↓zk_ix, ↓zk_dv, ↓zk_bo, ↓zk_rg, ↓zk_get, ↓zk_set, Option.bind_some])
  have e1 : ∀ n : Nat, 0 < n → fn_Text_isWord_b28 n f s (x :: w) 0 = some 0 := by
    intro n hn
    obtain ⟨n, rfl⟩ : ∃ n', n = n' + 1 := ⟨n - 1, by omega⟩
    rw [fn_Text_isWord_b28, List.length_cons]
    have hg : (x :: w).getD (0 : Int).toNat 0 = x := rfl
    rw [hg]
    have h0 : s + 0 = s := by omega
    rw [h0]
    (try simp (disch := omega) only [↓zk_lt, ↓zk_nl, ↓zk_eq, ↓zk_ne, ↓zk_ix, ↓zk_dv, ↓zk_bo, ↓zk_rg, ↓zk_get, ↓zk_set, Option.bind_some])
  exact e1 jk_F (by omega)
/-- numbers -/
theorem nt_cls {v : Nat} (hv : v < 1000) : ∀ x ∈ jl_nt v, cls x = 3 := by
  have hc : ∀ d : Nat, d < 10 → cls (48 + (d : Int)) = 3 := fun d hd => by
    unfold cls
    rw [if_neg (by omega), if_neg (by omega), if_pos (by omega)]
  intro x hx
  unfold jl_nt at hx
  split at hx
  · rw [List.mem_singleton] at hx
    rw [hx]
    exact hc v (by omega)
  · split at hx
    · rcases List.mem_cons.mp hx with hx | hx
      · rw [hx]; exact hc _ (by omega)
      · rw [List.mem_singleton.mp hx]; exact hc _ (by omega)
    · rcases List.mem_cons.mp hx with hx | hx
      · rw [hx]; exact hc _ (by omega)
      · rcases List.mem_cons.mp hx with hx | hx
        · rw [hx]; exact hc _ (by omega)
        · rw [List.mem_singleton.mp hx]; exact hc _ (by omega)
theorem nt_val {v : Nat} (hv : v < 1000) (hat : tk_at f s (jl_nt v)) : nvl f s (jl_nt v).length = (v : Int) := by
  have h0 : ∀ m : Nat, nvl f s (m + 1) = nvl f s m * 10 + f (s + (m : Int)) - 48 := fun _ => rfl
  have hz : nvl f s 0 = 0 := rfl
  unfold jl_nt at hat ⊢
  split at hat
  · have g0 : f (s + ((0 : Nat) : Int)) = 48 + (v : Int) := hat 0 (Nat.lt_succ_self 0)
    rename_i h
    rw [if_pos h]
    show nvl f s (0 + 1) = _
    rw [h0, hz, g0]
    omega
  · rename_i h
    split at hat
    · rename_i h'
      have g0 : f (s + ((0 : Nat) : Int)) = 48 + ((v / 10 : Nat) : Int) := hat 0 (by simp)
      have g1 : f (s + ((1 : Nat) : Int)) = 48 + ((v % 10 : Nat) : Int) := hat 1 (by simp)
      rw [if_neg h, if_pos h']
      show nvl f s (1 + 1) = _
      rw [h0, h0 0, hz, g0, g1]
      omega
    · rename_i h'
      have g0 : f (s + ((0 : Nat) : Int)) = 48 + ((v / 100 : Nat) : Int) := hat 0 (by simp)
      have g1 : f (s + ((1 : Nat) : Int)) = 48 + ((v / 10 % 10 : Nat) : Int) := hat 1 (by simp)
      have g2 : f (s + ((2 : Nat) : Int)) = 48 + ((v % 10 : Nat) : Int) := hat 2 (by simp)
      rw [if_neg h, if_neg h']
      show nvl f s (2 + 1) = _
      rw [h0, h0 1, h0 0, hz, g0, g1, g2]
      omega
theorem nt_cons (v : Nat) : ∃ x w, jl_nt v = x :: w := by
  unfold jl_nt
  split
  · exact ⟨_, _, rfl⟩
  · split
    · exact ⟨_, _, rfl⟩
    · exact ⟨_, _, rfl⟩
/-- a number read behind a space, ended by a space or a semicolon -/
theorem rn_1 (H : pB len f f) {v : Nat} (hv : v < 1000) {d lo hi k0 s0 o : Int} (hat : tk_at f q (32 :: (jl_nt v ++ [d]))) (hd : d = 32 ∨ d = 59) (hq : 0 ≤ q) (hl : q + 1 + ((jl_nt v).length : Int) < len) (hlo : 0 ≤ lo ∧ lo ≤ (v : Int)) (hhi : (v : Int) ≤ hi ∧ hi ≤ 10000) : fn_Text_readNumber f len k0 s0 q 0 o lo hi = some ((v : Int), 3, q + 1, q + 1 + ((jl_nt v).length : Int), 0, o) := by
  have hF := jk_F_big
  have hb := H.1
  have h3 := jl_nt_le3 v
  obtain ⟨x, w, hxw⟩ := nt_cons v
  have hcl := nt_cls hv
  have hdd : ¬ cls d = 3 := by rcases hd with rfl | rfl <;> decide
  have hat2 := (tk_app (tk_cons hat).2).1
  rw [hxw] at hat hcl h3 hl
  rw [List.length_cons] at h3 hl
  obtain ⟨hS, hE, hK⟩ := tk_sword (f := f) (len := len) (c := 3) hat hcl (Or.inr rfl) hdd (by omega) (by rw [if_neg (by decide)]; omega)
  have hval := nt_val hv hat2
  have hV : tV f len q = (v : Int) := by
    unfold tV
    rw [hE, hS, ← hxw, show (q + 1 + ((jl_nt v).length : Int) - (q + 1)).toNat = (jl_nt v).length by omega]
    exact hval
  have hn := c_num_b H hq (by omega) hK (lo := lo) (hi := hi) (o := o) (by omega) (by omega) jk_F (tE f len q - tS f len q).toNat 0 (tS f len q) (by rw [hE, hS, List.length_cons]; omega) (by omega) (by rw [show (tS f len q - tS f len q).toNat = 0 by omega]; rfl) (by rw [hE, hS, List.length_cons]; omega)
  rw [hV, if_pos (by omega), if_pos (by omega), hK, hS, hE, ← hxw] at hn
  have hcn := c_next H hq (by omega : q ≤ len) (k0 := k0) (s0 := s0)
  rw [hK, hS, hE, ← hxw] at hcn
  unfold fn_Text_readNumber
  rw [zk_bd c_hf0]
  (try simp (disch := omega) only [↓zk_lt, ↓zk_nl, ↓zk_eq, ↓zk_ne, ↓zk_ix, ↓zk_dv, ↓zk_bo, ↓zk_rg, ↓zk_get, ↓zk_set, Option.bind_some])
  rw [zk_bd hcn]
  (try simp (disch := omega) only [↓zk_lt, ↓zk_nl, ↓zk_eq, ↓zk_ne, ↓zk_ix, ↓zk_dv, ↓zk_bo, ↓zk_rg, ↓zk_get, ↓zk_set, Option.bind_some])
  exact hn
/-- the topic a or b -/
theorem fd_1 {nm : Int → Int} (h0 : nm 0 = 1) (h1 : nm 1 = 2) {tp : Nat} (htp : tp < 2) : fn_Topics_find 2 nm (1 + (tp : Int)) = some (tp : Int) := by
  have hF := jk_F_big
  have e : ∀ n : Nat, 2 < n → fn_Topics_find_b2 n 2 nm (1 + (tp : Int)) 0 = some (tp : Int) := by
    intro n hn
    obtain ⟨n, rfl⟩ : ∃ n', n = n' + 1 + 1 := ⟨n - 2, by omega⟩
    rcases (show tp = 0 ∨ tp = 1 by omega) with rfl | rfl
    · rw [fn_Topics_find_b2]
      (try simp (disch := omega) only [↓zk_lt, ↓zk_nl, ↓zk_eq, ↓zk_ne, ↓zk_ix, ↓zk_dv, ↓zk_bo, ↓zk_rg, ↓zk_get, ↓zk_set, Option.bind_some])
      rfl
    · rw [fn_Topics_find_b2]
      (try simp (disch := omega) only [↓zk_lt, ↓zk_nl, ↓zk_eq, ↓zk_ne, ↓zk_ix, ↓zk_dv, ↓zk_bo, ↓zk_rg, ↓zk_get, ↓zk_set, Option.bind_some])
      rw [fn_Topics_find_b2, show (0 : Int) + 1 = 1 from rfl]
      (try simp (disch := omega) only [↓zk_lt, ↓zk_nl, ↓zk_eq, ↓zk_ne, ↓zk_ix, ↓zk_dv, ↓zk_bo, ↓zk_rg, ↓zk_get, ↓zk_set, Option.bind_some])
      rfl
  unfold fn_Topics_find
  exact e jk_F (by omega)
theorem rt_1 (H : pB len f f) {nm : Int → Int} (h0 : nm 0 = 1) (h1 : nm 1 = 2) {tp : Nat} (htp : tp < 2) {k0 s0 o : Int} (hat : tk_at f q [32, 97 + (tp : Int), 32]) (hq : 0 ≤ q) (hl : q + 2 < len) : fn_Text_readTopic f len k0 s0 q 0 o 2 nm = some ((tp : Int), 2, q + 1, q + 2, 0, o) := by
  have hb := H.1
  have hc2 : ∀ y ∈ [97 + (tp : Int)], cls y = 2 := fun y hy => by
    rw [List.mem_singleton.mp hy]
    unfold cls
    rw [if_neg (by omega), if_pos (by omega)]
  obtain ⟨hS, hE, hK⟩ := tk_sword (f := f) (len := len) (x := 97 + (tp : Int)) (d := 32) (c := 2) (w := []) hat hc2 (Or.inl rfl) (by decide) (by rw [List.length_nil]; omega) (by rw [if_pos rfl, List.length_nil]; omega)
  rw [show q + 1 + (([97 + (tp : Int)] : List Int).length : Int) = q + 2 by rw [List.length_singleton]; omega] at hE
  have hf1 := (tk_cons (tk_cons hat).2).1
  have hcn := c_next H hq (by omega : q ≤ len) (k0 := k0) (s0 := s0)
  have hnm := c_name H hq (by omega : q ≤ len) (o := o)
  rw [hK, hS, hE] at hcn hnm
  have hnm2 : fn_Text_name f 2 (q + 1) (q + 2) 0 o = some (1 + (tp : Int), 0, o) := by
    rcases hnm with ⟨-, h⟩ | ⟨hno, -⟩
    · rw [h, show (q + 2 - (q + 1)).toNat = 0 + 1 by omega]
      show some ((f (q + 1) - 96) + 32 * 0, (0 : Int), o) = _
      rw [hf1, show 97 + (tp : Int) - 96 + 32 * 0 = 1 + (tp : Int) by omega]
    · exact absurd ⟨hK, by rw [hE, hS]; omega⟩ hno
  unfold fn_Text_readTopic
  rw [zk_bd c_hf0]
  (try simp (disch := omega) only [↓zk_lt, ↓zk_nl, ↓zk_eq, ↓zk_ne, ↓zk_ix, ↓zk_dv, ↓zk_bo, ↓zk_rg, ↓zk_get, ↓zk_set, Option.bind_some])
  rw [zk_bd hcn]
  (try simp (disch := omega) only [↓zk_lt, ↓zk_nl, ↓zk_eq, ↓zk_ne, ↓zk_ix, ↓zk_dv, ↓zk_bo, ↓zk_rg, ↓zk_get, ↓zk_set, Option.bind_some])
  rw [zk_bd hnm2]
  (try simp (disch := omega) only [↓zk_lt, ↓zk_nl, ↓zk_eq, ↓zk_ne, ↓zk_ix, ↓zk_dv, ↓zk_bo, ↓zk_rg, ↓zk_get, ↓zk_set, Option.bind_some])
  rw [zk_bd (fd_1 h0 h1 htp)]
  (try simp (disch := omega) only [↓zk_lt, ↓zk_nl, ↓zk_eq, ↓zk_ne, ↓zk_ix, ↓zk_dv, ↓zk_bo, ↓zk_rg, ↓zk_get, ↓zk_set, Option.bind_some])
theorem sc_1 (H : pB len f f) (h : f q = 59) (hq : 0 ≤ q) (hl : q < len) {k0 s0 o : Int} : fn_Text_readSemicolon f len k0 s0 q 0 o = some (4, q, q + 1, 0, o) := by
  obtain ⟨hS, hE, hK⟩ := tk_semi (len := len) h hl
  have hcn := c_next H hq (by omega : q ≤ len) (k0 := k0) (s0 := s0)
  rw [hK, hS, hE] at hcn
  unfold fn_Text_readSemicolon
  rw [zk_bd c_hf0]
  (try simp (disch := omega) only [↓zk_lt, ↓zk_nl, ↓zk_eq, ↓zk_ne, ↓zk_ix, ↓zk_dv, ↓zk_bo, ↓zk_rg, ↓zk_get, ↓zk_set, Option.bind_some])
  rw [zk_bd hcn]
  (try simp (disch := omega) only [↓zk_lt, ↓zk_nl, ↓zk_eq, ↓zk_ne, ↓zk_ix, ↓zk_dv, ↓zk_bo, ↓zk_rg, ↓zk_get, ↓zk_set, Option.bind_some])
end TK
