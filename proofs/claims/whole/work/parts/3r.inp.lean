/-! bits -/
theorem zb_t {n : Nat} (h : n < 2147483648) : (nI n).toInt = (n : Int) := jk_toInt (x := (n : Int)) ⟨by omega, by omega⟩
theorem zb_n {x : Int} (h : 0 ≤ x) : jk_I x = nI x.toNat := by
  rw [show x = (x.toNat : Int) by omega]
  rfl
theorem zb_and31 {x : Int} (h0 : 0 ≤ x) (h1 : x < 2147483648) : jk_and x 31 = x % 32 := by
  unfold jk_and
  rw [zb_n h0, pk_andN (by omega) (m := jk_I 31) 5 (by decide +kernel), zb_t (by omega)]
  omega
theorem zb_and255 (x : Int) : 0 ≤ jk_and x 255 ∧ jk_and x 255 ≤ 255 := by
  unfold jk_and
  obtain ⟨j, h1, h2⟩ := pk_andE (jk_I x) (m := jk_I 255) 8 (by decide +kernel)
  rw [h2, zb_t (by omega)]
  omega
theorem zb_shr {x : Int} (h0 : 0 ≤ x) (h1 : x < 2147483648) {y : Int} {k : Nat} (hy : ((jk_I y &&& 31).toBitVec.smod 32).toNat = k) : jk_shr x y = x / ((2 ^ k : Nat) : Int) := by
  unfold jk_shr
  have h : x.toNat / 2 ^ k ≤ x.toNat := Nat.div_le_self _ _
  rw [zb_n h0, pk_shrN (by omega) _ k hy, zb_t (by omega), Int.natCast_ediv, show ((x.toNat : Nat) : Int) = x by omega]
theorem zb_shl5 {x : Int} (h0 : 0 ≤ x) (h1 : x < 33554432) : jk_shl x 5 = x * 32 := by
  unfold jk_shl
  rw [zb_n h0, pk_shlN _ 5 (by decide +kernel) (by omega), zb_t (by omega)]
  omega
theorem zb_or (a b : Nat) : nI a ||| nI b = nI (a ||| b) := by
  apply Int32.toBitVec_inj.mp
  rw [Int32.toBitVec_or]
  show BitVec.ofNat 32 a ||| BitVec.ofNat 32 b = BitVec.ofNat 32 (a ||| b)
  apply BitVec.eq_of_toNat_eq
  rw [BitVec.toNat_or, BitVec.toNat_ofNat, BitVec.toNat_ofNat, BitVec.toNat_ofNat, Nat.or_mod_two_pow]
theorem zb_or5 {x y : Int} (h0 : 0 ≤ x) (h1 : x < 33554432) (h2 : 0 ≤ y) (h3 : y < 32) : jk_or (x * 32) y = x * 32 + y := by
  unfold jk_or
  have e : (x * 32).toNat ||| y.toNat = (x * 32).toNat + y.toNat := by
    have h := Nat.shiftLeft_add_eq_or_of_lt (show y.toNat < 2 ^ 5 by omega) x.toNat
    rw [Nat.shiftLeft_eq] at h
    rw [show (x * 32).toNat = x.toNat * 2 ^ 5 by omega, ← h]
  rw [zb_n (by omega), zb_n h2, zb_or, e, zb_t (by omega)]
  omega
/-! names as numbers: five bits a letter -/
def enc (f : Int → Int) (a : Int) : Nat → Int
  | 0 => 0
  | n + 1 => (f a - 96) + 32 * enc f (a + 1) n
def pLet (f : Int → Int) (a : Int) (n : Nat) : Prop := ∀ i, a ≤ i → i < a + n → 97 ≤ f i ∧ f i ≤ 122
theorem enc_r {f : Int → Int} : ∀ (n : Nat) (a : Int), pLet f a n → 0 ≤ enc f a n ∧ enc f a n < 32 ^ n := by
  intro n
  induction n with
  | zero => intro a _; simp [enc]
  | succ n ih =>
    intro a h
    have h1 := h a (by omega) (by omega)
    have h2 := ih (a + 1) (fun i h3 h4 => h i (by omega) (by omega))
    simp only [enc]
    rw [Int.pow_succ]
    omega
theorem p32 {n : Nat} (h : n ≤ 6) : (32 : Int) ^ n ≤ 1073741824 := by
  have : n = 0 ∨ n = 1 ∨ n = 2 ∨ n = 3 ∨ n = 4 ∨ n = 5 ∨ n = 6 := by omega
  rcases this with rfl | rfl | rfl | rfl | rfl | rfl | rfl <;> decide
/-- the letter at place i of a name's number -/
def dg (v : Int) : Nat → Int
  | 0 => v % 32
  | i + 1 => dg (v / 32) i
theorem dg_enc {f : Int → Int} : ∀ (i n : Nat) (a : Int), pLet f a n → dg (enc f a n) i = if i < n then f (a + i) - 96 else 0 := by
  intro i
  induction i with
  | zero =>
    intro n a h
    cases n with
    | zero => simp [dg, enc]
    | succ n =>
      have h1 := h a (by omega) (by omega)
      simp only [dg, enc]
      rw [if_pos (by omega)]
      simp only [Int.natCast_zero, Int.add_zero]
      omega
  | succ i ih =>
    intro n a h
    cases n with
    | zero =>
      have := ih 0 a (fun j h3 h4 => by omega)
      simpa [dg, enc] using this
    | succ n =>
      have h1 := h a (by omega) (by omega)
      simp only [dg, enc]
      rw [show (f a - 96 + 32 * enc f (a + 1) n) / 32 = enc f (a + 1) n by omega, ih n (a + 1) (fun j h3 h4 => h j (by omega) (by omega)), show a + 1 + (i : Int) = a + ((i + 1 : Nat) : Int) by omega]
      by_cases e : i < n
      · rw [if_pos e, if_pos (by omega)]
      · rw [if_neg e, if_neg (by omega)]
/-- names differ where their numbers do -/
theorem enc_inj {f h : Int → Int} : ∀ (n m : Nat) (a b : Int), pLet f a n → pLet h b m → (enc f a n = enc h b m ↔ n = m ∧ ∀ i : Nat, i < n → f (a + i) = h (b + i)) := by
  intro n
  induction n with
  | zero =>
    intro m a b _ hb
    cases m with
    | zero => exact ⟨fun _ => ⟨rfl, fun i h => by omega⟩, fun _ => rfl⟩
    | succ m =>
      have h1 := hb b (by omega) (by omega)
      have h2 := enc_r m (b + 1) (fun j h3 h4 => hb j (by omega) (by omega))
      simp only [enc]
      exact ⟨fun z => by omega, fun z => by omega⟩
  | succ n ih =>
    intro m a b ha hb
    have h1 := ha a (by omega) (by omega)
    have h2 := enc_r n (a + 1) (fun j h3 h4 => ha j (by omega) (by omega))
    cases m with
    | zero =>
      simp only [enc]
      exact ⟨fun z => by omega, fun z => by omega⟩
    | succ m =>
      have h3 := hb b (by omega) (by omega)
      have h4 := enc_r m (b + 1) (fun j h5 h6 => hb j (by omega) (by omega))
      have h5 := ih m (a + 1) (b + 1) (fun j h7 h8 => ha j (by omega) (by omega)) (fun j h7 h8 => hb j (by omega) (by omega))
      simp only [enc]
      constructor
      · intro z
        obtain ⟨k1, k2⟩ := h5.mp (by omega)
        refine ⟨by omega, fun i hi => ?_⟩
        cases i with
        | zero => simp only [Int.natCast_zero, Int.add_zero]; omega
        | succ i =>
          have := k2 i (by omega)
          rw [show a + ((i + 1 : Nat) : Int) = a + 1 + (i : Int) by omega, show b + ((i + 1 : Nat) : Int) = b + 1 + (i : Int) by omega]
          exact this
      · intro z
        have k1 := z.2 0 (by omega)
        simp only [Int.natCast_zero, Int.add_zero] at k1
        have k2 := h5.mpr ⟨by omega, fun i hi => by
          have := z.2 (i + 1) (by omega)
          rw [show a + ((i + 1 : Nat) : Int) = a + 1 + (i : Int) by omega, show b + ((i + 1 : Nat) : Int) = b + 1 + (i : Int) by omega] at this
          exact this⟩
        omega
/-- the topics, on both sides -/
def pN (tn : Int) (nm w : Int → Int) : Prop := w 0 = tn ∧ ∀ t, 0 ≤ t → t < tn → ∃ n : Nat, (1 ≤ n ∧ n ≤ 6) ∧ w (3 + 7 * t + 0) = (n : Int) ∧ pLet w (3 + 7 * t + 1) n ∧ nm t = enc w (3 + 7 * t + 1) n
theorem pLet_c {f h : Int → Int} {a : Int} {n : Nat} (H : pLet f a n) (e : ∀ i, a ≤ i → i < a + n → h i = f i) : pLet h a n := fun i h0 h1 => by rw [e i h0 h1]; exact H i h0 h1
theorem enc_c {f h : Int → Int} : ∀ (n : Nat) (a : Int), (∀ i, a ≤ i → i < a + n → h i = f i) → enc h a n = enc f a n := by
  intro n
  induction n with
  | zero => intro a _; rfl
  | succ n ih =>
    intro a e
    simp only [enc]
    rw [e a (by omega) (by omega), ih (a + 1) (fun i h0 h1 => e i (by omega) (by omega))]
theorem pN_U {tn : Int} {nm w w' : Int → Int} (h : pN tn nm w) (ht : tn ≤ 8) (hu : pU w w') : pN tn nm w' := by
  refine ⟨hu.1.trans h.1, fun t h0 h1 => ?_⟩
  obtain ⟨n, a, b, c, d⟩ := h.2 t h0 h1
  have e : ∀ i, 3 + 7 * t + 1 ≤ i → i < 3 + 7 * t + 1 + n → w' i = w i := fun i h2 h3 => hu.2 i (by omega) (by omega)
  exact ⟨n, a, (hu.2 _ (by omega) (by omega)).trans b, pLet_c c e, by rw [d, enc_c n _ e]⟩
theorem dg_shr {v : Int} (h0 : 0 ≤ v) (h1 : v < 2147483648) : ∀ i : Nat, i < 6 → jk_and (jk_shr v (5 * (i : Int))) 31 = dg v i := by
  have key : ∀ i : Nat, i < 6 → ((jk_I (5 * (i : Int)) &&& 31).toBitVec.smod 32).toNat = 5 * i := by decide +kernel
  intro i hi
  rw [zb_shr h0 h1 (key i hi)]
  have e : i = 0 ∨ i = 1 ∨ i = 2 ∨ i = 3 ∨ i = 4 ∨ i = 5 := by omega
  rcases e with rfl | rfl | rfl | rfl | rfl | rfl
  · rw [zb_and31 (by simp; omega) (by simp; omega)]; simp only [dg]; simp
  · rw [zb_and31 (by simp; omega) (by simp; omega)]; simp only [dg]; simp
  · rw [zb_and31 (by simp; omega) (by simp; omega)]; simp only [dg]; simp; omega
  · rw [zb_and31 (by simp; omega) (by simp; omega)]; simp only [dg]; simp; omega
  · rw [zb_and31 (by simp; omega) (by simp; omega)]; simp only [dg]; simp; omega
  · rw [zb_and31 (by simp; omega) (by simp; omega)]; simp only [dg]; simp; omega
theorem sp_let {tn t x : Int} {nm w : Int → Int} (h : pN tn nm w) (ht : tn ≤ 8) (h0 : 0 ≤ t) (h1 : t < tn) (hx : jk_R x) : ∃ n : Nat, (1 ≤ n ∧ n ≤ 6) ∧ w (3 + 7 * t + 0) = (n : Int) ∧ pLet w (3 + 7 * t + 1) n ∧ fn_Topics_letter nm t x = some (if 0 ≤ x ∧ x < n then w (3 + 7 * t + 1 + x) else -1) := by
  obtain ⟨n, a, b, c, d⟩ := h.2 t h0 h1
  have x1 := hx.1
  have x2 := hx.2
  have hr := enc_r n _ c
  have hp := p32 a.2
  refine ⟨n, a, b, c, ?_⟩
  unfold fn_Topics_letter
  by_cases e : 0 ≤ x
  · by_cases e2 : x < 6
    · have hd := dg_shr (v := nm t) (by rw [d]; omega) (by rw [d]; omega) x.toNat (by omega)
      rw [show ((x.toNat : Nat) : Int) = x by omega, d, dg_enc x.toNat n _ c] at hd
      (try simp (disch := omega) only [↓zk_lt, ↓zk_nl, ↓zk_eq, ↓zk_ne, ↓zk_ix, ↓zk_dv, ↓zk_bo, ↓zk_rg, ↓zk_get, ↓zk_set, Option.bind_some])
      rw [d, hd]
      by_cases e3 : x < n
      · have hl := c (3 + 7 * t + 1 + x) (by omega) (by omega)
        rw [if_pos (by omega), show 3 + 7 * t + 1 + ((x.toNat : Nat) : Int) = 3 + 7 * t + 1 + x by omega, if_pos ⟨e, e3⟩]
        (try simp (disch := omega) only [↓zk_lt, ↓zk_nl, ↓zk_eq, ↓zk_ne, ↓zk_ix, ↓zk_dv, ↓zk_bo, ↓zk_rg, ↓zk_get, ↓zk_set, Option.bind_some])
        congr 1
        omega
      · rw [if_neg (by omega), if_neg (by omega)]
        (try simp (disch := omega) only [↓zk_lt, ↓zk_nl, ↓zk_eq, ↓zk_ne, ↓zk_ix, ↓zk_dv, ↓zk_bo, ↓zk_rg, ↓zk_get, ↓zk_set, Option.bind_some])
    · (try simp (disch := omega) only [↓zk_lt, ↓zk_nl, ↓zk_eq, ↓zk_ne, ↓zk_ix, ↓zk_dv, ↓zk_bo, ↓zk_rg, ↓zk_get, ↓zk_set, Option.bind_some])
      rw [if_neg (by omega)]
  · (try simp (disch := omega) only [↓zk_lt, ↓zk_nl, ↓zk_eq, ↓zk_ne, ↓zk_ix, ↓zk_dv, ↓zk_bo, ↓zk_rg, ↓zk_get, ↓zk_set, Option.bind_some])
    rw [if_neg (by omega)]
theorem hL_of {tn : Int} {nm w : Int → Int} (h : pN tn nm w) (ht : tn ≤ 8) : ∀ t, 0 ≤ t → t < tn → fn_Topics_letter nm t 0 = some (w (3 + 7 * t + 1)) := by
  intro t h0 h1
  obtain ⟨n, a, -, -, d⟩ := sp_let h ht h0 h1 (x := 0) ⟨by omega, by omega⟩
  rw [d, if_pos (by omega), Int.add_zero]
theorem q_topicByte {tn th x y : Int} {nm w : Int → Int} (h : pN tn nm w) (ht : 0 ≤ tn ∧ tn ≤ 8) (hx : jk_R x) (hy : jk_R y) : ∃ a b t, fn_KR_topicByte tn nm x y = some a ∧ fn_Md_topicByte w th x y = some (b, t) ∧ ag [1] a b t := by
  have y1 := hy.1
  have y2 := hy.2
  unfold fn_KR_topicByte fn_Md_topicByte
  refine qt ht h.1 hx (fun t => (fn_Md_ofTopic w x 0).bind fun q20 => (fn_Md_inRange y 0 (q20 - 1)).bind fun q25 => jk_eqs q25 0 (some ((-1), t)) ((fn_Md_ofTopic w x (1 + y)).bind fun q36 => some (q36, t))) rfl (fun h0 h1 => ?_)
  obtain ⟨n, a, b, c, d⟩ := sp_let h ht.2 h0 h1 hy
  have e1 : fn_Md_ofTopic w x 0 = some (n : Int) := by
    unfold fn_Md_ofTopic
    (try simp (disch := omega) only [↓zk_lt, ↓zk_nl, ↓zk_eq, ↓zk_ne, ↓zk_ix, ↓zk_dv, ↓zk_bo, ↓zk_rg, ↓zk_get, ↓zk_set, Option.bind_some])
    rw [b]
  rw [zk_bd d, zk_bd e1, zk_bd (sm_inR hy ⟨by omega, by omega⟩ ⟨by omega, by omega⟩)]
  by_cases e : 0 ≤ y ∧ y < n
  · have hl := c (3 + 7 * x + 1 + y) (by omega) (by omega)
    rw [if_pos e, if_pos (by omega)]
    refine ⟨.inr (w (3 + 7 * x + 1 + y)), w (3 + 7 * x + 1 + y), 0, rfl, ?_, rfl, rfl, by omega, by omega⟩
    (try simp (disch := omega) only [↓zk_lt, ↓zk_nl, ↓zk_eq, ↓zk_ne, ↓zk_ix, ↓zk_dv, ↓zk_bo, ↓zk_rg, ↓zk_get, ↓zk_set, Option.bind_some])
    unfold fn_Md_ofTopic
    (try simp (disch := omega) only [↓zk_lt, ↓zk_nl, ↓zk_eq, ↓zk_ne, ↓zk_ix, ↓zk_dv, ↓zk_bo, ↓zk_rg, ↓zk_get, ↓zk_set, Option.bind_some])
    rw [show 3 + 7 * x + (1 + y) = 3 + 7 * x + 1 + y by omega]
  · rw [if_neg e, if_neg (by omega)]
    refine ⟨.inr (-1), -1, 0, rfl, ?_, rfl, rfl, by omega, by omega⟩
    (try simp (disch := omega) only [↓zk_lt, ↓zk_nl, ↓zk_eq, ↓zk_ne, ↓zk_ix, ↓zk_dv, ↓zk_bo, ↓zk_rg, ↓zk_get, ↓zk_set, Option.bind_some])
/-! the input -/
def pB (len : Int) (f1 f2 : Int → Int) : Prop := (0 ≤ len ∧ len ≤ 700) ∧ ∀ i, 0 ≤ i → i < len → f1 i = f2 i ∧ (0 ≤ f2 i ∧ f2 i ≤ 255)
theorem pB_put {len v : Int} {f1 f2 : Int → Int} (h : pB len f1 f2) (hl : len < 700) (hv : 0 ≤ v ∧ v ≤ 255) : pB (len + 1) (jk_up f1 len v) (jk_up f2 len v) := by
  refine ⟨by have := h.1; omega, fun i h0 h1 => ?_⟩
  by_cases e : i = len
  · rw [up_eq e, up_eq e]; exact ⟨rfl, hv⟩
  · rw [up_ne e, up_ne e]; exact h.2 i h0 (by omega)
theorem four_both {x : Int} : ∀ (m n : Nat) (len s : Int) (f1 f2 : Int → Int), pB len f1 f2 → len + m ≤ 700 → s = 8 * (m : Int) - 8 → m ≤ 4 → m < n → ∃ g1 g2, fn_Text_putFour_b3 n f1 len x s = some (g1, len + m) ∧ fn_Md_appendWord_b3 n f2 len x s = some (g2, len + m) ∧ pB (len + m) g1 g2 := by
  intro m
  induction m with
  | zero =>
    intro n len s f1 f2 h hl hs _ hn
    obtain ⟨n, rfl⟩ : ∃ n', n = n' + 1 := ⟨n - 1, by omega⟩
    rw [fn_Text_putFour_b3, fn_Md_appendWord_b3]
    refine ⟨f1, f2, ?_, ?_, by simpa using h⟩
    · (try simp (disch := omega) only [↓zk_lt, ↓zk_nl, ↓zk_eq, ↓zk_ne, ↓zk_ix, ↓zk_dv, ↓zk_bo, ↓zk_rg, ↓zk_get, ↓zk_set, Option.bind_some]); simp
    · (try simp (disch := omega) only [↓zk_lt, ↓zk_nl, ↓zk_eq, ↓zk_ne, ↓zk_ix, ↓zk_dv, ↓zk_bo, ↓zk_rg, ↓zk_get, ↓zk_set, Option.bind_some]); simp
  | succ m ih =>
    intro n len s f1 f2 h hl hs hm hn
    obtain ⟨n, rfl⟩ : ∃ n', n = n' + 1 := ⟨n - 1, by omega⟩
    have h1 := h.1
    obtain ⟨g1, g2, a1, a2, a3⟩ := ih n (len + 1) (s + (-8)) _ _ (pB_put h (by omega) (zb_and255 (jk_shr x s))) (by omega) (by omega) (by omega) (by omega)
    rw [show len + 1 + (m : Int) = len + ((m + 1 : Nat) : Int) by omega] at a1 a2 a3
    rw [fn_Text_putFour_b3, fn_Md_appendWord_b3]
    refine ⟨g1, g2, ?_, ?_, a3⟩
    · unfold fn_Text_putByte
      (try simp (disch := omega) only [↓zk_lt, ↓zk_nl, ↓zk_eq, ↓zk_ne, ↓zk_ix, ↓zk_dv, ↓zk_bo, ↓zk_rg, ↓zk_get, ↓zk_set, Option.bind_some])
      exact a1
    · (try simp (disch := omega) only [↓zk_lt, ↓zk_nl, ↓zk_eq, ↓zk_ne, ↓zk_ix, ↓zk_dv, ↓zk_bo, ↓zk_rg, ↓zk_get, ↓zk_set, Option.bind_some])
      exact a2
theorem q_appendInput {len th a b c d e : Int} {f1 f2 : Int → Int} (h : pB len f1 f2) : ∃ r g1 g2 len', fn_KR_appendInput f1 len a b c d e = some (r, g1, len') ∧ fn_Md_appendInput th f2 len a b c d e = some (r, 0, g2, len') ∧ jk_R r ∧ pB len' g1 g2 := by
  have hF := jk_F_big
  have h1 := h.1
  unfold fn_KR_appendInput fn_Md_appendInput
  by_cases z : 700 < len + 20
  · refine ⟨-1, f1, f2, len, ?_, ?_, ⟨by omega, by omega⟩, h⟩
    · (try simp (disch := omega) only [↓zk_lt, ↓zk_nl, ↓zk_eq, ↓zk_ne, ↓zk_ix, ↓zk_dv, ↓zk_bo, ↓zk_rg, ↓zk_get, ↓zk_set, Option.bind_some])
    · (try simp (disch := omega) only [↓zk_lt, ↓zk_nl, ↓zk_eq, ↓zk_ne, ↓zk_ix, ↓zk_dv, ↓zk_bo, ↓zk_rg, ↓zk_get, ↓zk_set, Option.bind_some])
  · obtain ⟨g1, k1, p1, q1, r1⟩ := four_both (x := a) 4 jk_F len 24 f1 f2 h (by omega) (by omega) (by omega) (by omega)
    obtain ⟨g2, k2, p2, q2, r2⟩ := four_both (x := b) 4 jk_F _ 24 g1 k1 r1 (by omega) (by omega) (by omega) (by omega)
    obtain ⟨g3, k3, p3, q3, r3⟩ := four_both (x := c) 4 jk_F _ 24 g2 k2 r2 (by omega) (by omega) (by omega) (by omega)
    obtain ⟨g4, k4, p4, q4, r4⟩ := four_both (x := d) 4 jk_F _ 24 g3 k3 r3 (by omega) (by omega) (by omega) (by omega)
    obtain ⟨g5, k5, p5, q5, r5⟩ := four_both (x := e) 4 jk_F _ 24 g4 k4 r4 (by omega) (by omega) (by omega) (by omega)
    refine ⟨len + ((4 : Nat) : Int) + ((4 : Nat) : Int) + ((4 : Nat) : Int) + ((4 : Nat) : Int) + ((4 : Nat) : Int), g5, k5, len + ((4 : Nat) : Int) + ((4 : Nat) : Int) + ((4 : Nat) : Int) + ((4 : Nat) : Int) + ((4 : Nat) : Int), ?_, ?_, ⟨by omega, by omega⟩, r5⟩
    · (try simp (disch := omega) only [↓zk_lt, ↓zk_nl, ↓zk_eq, ↓zk_ne, ↓zk_ix, ↓zk_dv, ↓zk_bo, ↓zk_rg, ↓zk_get, ↓zk_set, Option.bind_some])
      unfold fn_Text_putFour
      rw [zk_bd p1, zk_bd p2, zk_bd p3, zk_bd p4, zk_bd p5]
    · (try simp (disch := omega) only [↓zk_lt, ↓zk_nl, ↓zk_eq, ↓zk_ne, ↓zk_ix, ↓zk_dv, ↓zk_bo, ↓zk_rg, ↓zk_get, ↓zk_set, Option.bind_some])
      unfold fn_Md_appendWord
      rw [zk_bd q1, zk_bd q2, zk_bd q3, zk_bd q4, zk_bd q5]
theorem q_truncateInput {len th x : Int} {f1 f2 : Int → Int} (h : pB len f1 f2) (hx : jk_R x) : ∃ r len', fn_KR_truncateInput len x = some (r, len') ∧ fn_Md_truncateInput th len x = some (r, 0, len') ∧ (r = 0 ∨ r = 1) ∧ pB len' f1 f2 := by
  have h1 := h.1
  have x1 := hx.1
  have x2 := hx.2
  unfold fn_KR_truncateInput fn_Md_truncateInput
  rw [zk_bd (sm_inR hx ⟨by omega, by omega⟩ ⟨by omega, by omega⟩)]
  by_cases e : 0 ≤ x ∧ x ≤ len
  · refine ⟨1, x, ?_, ?_, Or.inr rfl, by omega, fun i h2 h3 => h.2 i h2 (by omega)⟩
    · (try simp (disch := omega) only [↓zk_lt, ↓zk_nl, ↓zk_eq, ↓zk_ne, ↓zk_ix, ↓zk_dv, ↓zk_bo, ↓zk_rg, ↓zk_get, ↓zk_set, Option.bind_some])
    · rw [if_pos e]; (try simp (disch := omega) only [↓zk_lt, ↓zk_nl, ↓zk_eq, ↓zk_ne, ↓zk_ix, ↓zk_dv, ↓zk_bo, ↓zk_rg, ↓zk_get, ↓zk_set, Option.bind_some])
  · refine ⟨0, len, ?_, ?_, Or.inl rfl, h⟩
    · by_cases z : 0 ≤ x
      · (try simp (disch := omega) only [↓zk_lt, ↓zk_nl, ↓zk_eq, ↓zk_ne, ↓zk_ix, ↓zk_dv, ↓zk_bo, ↓zk_rg, ↓zk_get, ↓zk_set, Option.bind_some])
      · (try simp (disch := omega) only [↓zk_lt, ↓zk_nl, ↓zk_eq, ↓zk_ne, ↓zk_ix, ↓zk_dv, ↓zk_bo, ↓zk_rg, ↓zk_get, ↓zk_set, Option.bind_some])
    · rw [if_neg e]; (try simp (disch := omega) only [↓zk_lt, ↓zk_nl, ↓zk_eq, ↓zk_ne, ↓zk_ix, ↓zk_dv, ↓zk_bo, ↓zk_rg, ↓zk_get, ↓zk_set, Option.bind_some])
