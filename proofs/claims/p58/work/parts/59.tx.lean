/-! letters packed in fours, and unpacked -/
theorem jw_shl8 {x : Int} (h0 : 0 ≤ x) (h1 : x < 8388608) : jk_shl x 8 = x * 256 := by
  unfold jk_shl
  rw [zb_n h0, pk_shlN _ 8 (by decide +kernel) (by omega), zb_t (by omega)]
  omega
theorem jw_or8 {x y : Int} (h0 : 0 ≤ x) (h1 : x < 8388608) (h2 : 0 ≤ y) (h3 : y < 256) : jk_or (x * 256) y = x * 256 + y := by
  unfold jk_or
  have e : (x * 256).toNat ||| y.toNat = (x * 256).toNat + y.toNat := by
    have h := Nat.shiftLeft_add_eq_or_of_lt (show y.toNat < 2 ^ 8 by omega) x.toNat
    rw [Nat.shiftLeft_eq] at h
    rw [show (x * 256).toNat = x.toNat * 2 ^ 8 by omega, ← h]
  rw [zb_n (by omega), zb_n h2, zb_or, e, zb_t (by omega)]
  omega
theorem jw_and255 {x : Int} (h0 : 0 ≤ x) (h1 : x < 2147483648) : jk_and x 255 = x % 256 := by
  unfold jk_and
  rw [zb_n h0, pk_andN (by omega) (m := jk_I 255) 8 (by decide +kernel), zb_t (by omega)]
  omega
/-- m letters of g from 4 j on, packed -/
def jw_acc (g : Nat → Int) (j : Nat) : Nat → Int
  | 0 => 0
  | m + 1 => jw_acc g j m * 256 + g (4 * j + m)
theorem jw_acc_r {g : Nat → Int} (hg : ∀ i, 0 ≤ g i ∧ g i < 128) (j : Nat) : (0 ≤ jw_acc g j 1 ∧ jw_acc g j 1 < 128) ∧ (0 ≤ jw_acc g j 2 ∧ jw_acc g j 2 < 32768) ∧ (0 ≤ jw_acc g j 3 ∧ jw_acc g j 3 < 8388608) ∧ (0 ≤ jw_acc g j 4 ∧ jw_acc g j 4 < 2147483648) := by
  have h0 := hg (4 * j + 0)
  have h1 := hg (4 * j + 1)
  have h2 := hg (4 * j + 2)
  have h3 := hg (4 * j + 3)
  simp only [jw_acc]
  omega
theorem jw_byte {g : Nat → Int} (hg : ∀ i, 0 ≤ g i ∧ g i < 128) (j t : Nat) (ht : t < 4) : jk_and (jk_shr (jw_acc g j 4) (8 * (3 - (t : Int)))) 255 = g (4 * j + t) := by
  have h0 := hg (4 * j + 0)
  have h1 := hg (4 * j + 1)
  have h2 := hg (4 * j + 2)
  have h3 := hg (4 * j + 3)
  have hr := (jw_acc_r hg j).2.2.2
  have e : jw_acc g j 4 = (((0 * 256 + g (4 * j + 0)) * 256 + g (4 * j + 1)) * 256 + g (4 * j + 2)) * 256 + g (4 * j + 3) := rfl
  have hd : t = 0 ∨ t = 1 ∨ t = 2 ∨ t = 3 := by omega
  rcases hd with rfl | rfl | rfl | rfl
  · rw [zb_shr hr.1 hr.2 (k := 24) (by decide +kernel), show ((2 ^ 24 : Nat) : Int) = 16777216 from rfl, jw_and255 (by omega) (by omega)]
    omega
  · rw [zb_shr hr.1 hr.2 (k := 16) (by decide +kernel), show ((2 ^ 16 : Nat) : Int) = 65536 from rfl, jw_and255 (by omega) (by omega)]
    omega
  · rw [zb_shr hr.1 hr.2 (k := 8) (by decide +kernel), show ((2 ^ 8 : Nat) : Int) = 256 from rfl, jw_and255 (by omega) (by omega)]
    omega
  · rw [zb_shr hr.1 hr.2 (k := 0) (by decide +kernel), show ((2 ^ 0 : Nat) : Int) = 1 from rfl, jw_and255 (by omega) (by omega)]
    omega
theorem jw_four {x : Int} : ∀ (m n : Nat) (len s : Int) (f : Int → Int), 0 ≤ len → len + m ≤ 700 → s = 8 * (m : Int) - 8 → m ≤ 4 → m < n → ∃ g, fn_Text_putFour_b3 n f len x s = some (g, len + m) ∧ ∀ i : Int, g i = if len ≤ i ∧ i < len + m then jk_and (jk_shr x (8 * ((m : Int) - 1 - (i - len)))) 255 else f i := by
  intro m
  induction m with
  | zero =>
    intro n len s f h hl hs _ hn
    obtain ⟨n, rfl⟩ : ∃ n', n = n' + 1 := ⟨n - 1, by omega⟩
    rw [fn_Text_putFour_b3]
    refine ⟨f, ?_, fun i => (if_neg (by omega)).symm⟩
    (try simp (disch := omega) only [↓zk_lt, ↓zk_nl, ↓zk_eq, ↓zk_ne, ↓zk_ix, ↓zk_dv, ↓zk_bo, ↓zk_rg, ↓zk_get, ↓zk_set, Option.bind_some]); simp
  | succ m ih =>
    intro n len s f h hl hs hm hn
    obtain ⟨n, rfl⟩ : ∃ n', n = n' + 1 := ⟨n - 1, by omega⟩
    obtain ⟨g1, a1, a2⟩ := ih n (len + 1) (s + (-8)) (jk_up f len (jk_and (jk_shr x s) 255)) (by omega) (by omega) (by omega) (by omega) (by omega)
    rw [show len + 1 + (m : Int) = len + ((m + 1 : Nat) : Int) by omega] at a1
    rw [fn_Text_putFour_b3]
    refine ⟨g1, ?_, fun i => ?_⟩
    · unfold fn_Text_putByte
      (try simp (disch := omega) only [↓zk_lt, ↓zk_nl, ↓zk_eq, ↓zk_ne, ↓zk_ix, ↓zk_dv, ↓zk_bo, ↓zk_rg, ↓zk_get, ↓zk_set, Option.bind_some])
      exact a1
    · rw [a2 i]
      by_cases h1 : i = len
      · rw [if_neg (by omega), if_pos (by omega), up_eq h1, h1, hs]
        rw [show 8 * (((m + 1 : Nat) : Int) - 1 - (len - len)) = 8 * ((m + 1 : Nat) : Int) - 8 by omega]
      · rw [up_ne h1]
        by_cases h2 : len + 1 ≤ i ∧ i < len + 1 + m
        · rw [if_pos h2, if_pos (by omega), show 8 * ((m : Int) - 1 - (i - (len + 1))) = 8 * (((m + 1 : Nat) : Int) - 1 - (i - len)) by omega]
        · rw [if_neg h2, if_neg (by omega)]
theorem jw_put {g : Nat → Int} (hg : ∀ i, 0 ≤ g i ∧ g i < 128) (j : Nat) {len : Int} {f : Int → Int} (h0 : 0 ≤ len) (h1 : len + 4 ≤ 700) : ∃ f', fn_Text_putFour f len (jw_acc g j 4) = some (f', len + 4) ∧ ∀ i : Int, f' i = if len ≤ i ∧ i < len + 4 then g (4 * j + (i - len).toNat) else f i := by
  have hF := jk_F_big
  obtain ⟨f', e1, e2⟩ := jw_four (x := jw_acc g j 4) 4 jk_F len 24 f h0 (by omega) (by omega) (by omega) (by omega)
  refine ⟨f', e1, fun i => ?_⟩
  rw [e2 i]
  by_cases h : len ≤ i ∧ i < len + 4
  · have hb := jw_byte hg j (i - len).toNat (by omega)
    rw [if_pos (by omega), if_pos h, ← hb, show 8 * (((4 : Nat) : Int) - 1 - (i - len)) = 8 * (3 - (((i - len).toNat : Nat) : Int)) by omega]
  · rw [if_neg (by omega), if_neg h]
/-- twenty letters appended -/
theorem jw_app {g : Nat → Int} (hg : ∀ i, 0 ≤ g i ∧ g i < 128) {len : Int} {f : Int → Int} (h0 : 0 ≤ len) (h1 : len + 20 ≤ 700) : ∃ f', fn_KR_appendInput f len (jw_acc g 0 4) (jw_acc g 1 4) (jw_acc g 2 4) (jw_acc g 3 4) (jw_acc g 4 4) = some (len + 20, f', len + 20) ∧ ∀ i : Int, f' i = if len ≤ i ∧ i < len + 20 then g (i - len).toNat else f i := by
  obtain ⟨f1, p1, r1⟩ := jw_put hg 0 (f := f) h0 (by omega)
  obtain ⟨f2, p2, r2⟩ := jw_put hg 1 (f := f1) (len := len + 4) (by omega) (by omega)
  obtain ⟨f3, p3, r3⟩ := jw_put hg 2 (f := f2) (len := len + 4 + 4) (by omega) (by omega)
  obtain ⟨f4, p4, r4⟩ := jw_put hg 3 (f := f3) (len := len + 4 + 4 + 4) (by omega) (by omega)
  obtain ⟨f5, p5, r5⟩ := jw_put hg 4 (f := f4) (len := len + 4 + 4 + 4 + 4) (by omega) (by omega)
  refine ⟨f5, ?_, fun i => ?_⟩
  · unfold fn_KR_appendInput
    (try simp (disch := omega) only [↓zk_lt, ↓zk_nl, ↓zk_eq, ↓zk_ne, ↓zk_ix, ↓zk_dv, ↓zk_bo, ↓zk_rg, ↓zk_get, ↓zk_set, Option.bind_some])
    rw [zk_bd p1, zk_bd p2, zk_bd p3, zk_bd p4, zk_bd p5]
    rw [show len + 4 + 4 + 4 + 4 + 4 = len + 20 by omega]
  · rw [r5, r4, r3, r2, r1]
    by_cases a5 : len + 4 + 4 + 4 + 4 ≤ i ∧ i < len + 4 + 4 + 4 + 4 + 4
    · rw [if_pos a5, if_pos (by omega), show 4 * 4 + (i - (len + 4 + 4 + 4 + 4)).toNat = (i - len).toNat by omega]
    rw [if_neg a5]
    by_cases a4 : len + 4 + 4 + 4 ≤ i ∧ i < len + 4 + 4 + 4 + 4
    · rw [if_pos a4, if_pos (by omega), show 4 * 3 + (i - (len + 4 + 4 + 4)).toNat = (i - len).toNat by omega]
    rw [if_neg a4]
    by_cases a3 : len + 4 + 4 ≤ i ∧ i < len + 4 + 4 + 4
    · rw [if_pos a3, if_pos (by omega), show 4 * 2 + (i - (len + 4 + 4)).toNat = (i - len).toNat by omega]
    rw [if_neg a3]
    by_cases a2 : len + 4 ≤ i ∧ i < len + 4 + 4
    · rw [if_pos a2, if_pos (by omega), show 4 * 1 + (i - (len + 4)).toNat = (i - len).toNat by omega]
    rw [if_neg a2]
    by_cases a1 : len ≤ i ∧ i < len + 4
    · rw [if_pos a1, if_pos (by omega), show 4 * 0 + (i - len).toNat = (i - len).toNat by omega]
    rw [if_neg a1, if_neg (by omega)]
theorem jw_trunc {len x : Int} (h0 : 0 ≤ x) (h1 : x ≤ len) (h2 : len ≤ 700) : fn_KR_truncateInput len x = some (1, x) := by
  unfold fn_KR_truncateInput
  (try simp (disch := omega) only [↓zk_lt, ↓zk_nl, ↓zk_eq, ↓zk_ne, ↓zk_ix, ↓zk_dv, ↓zk_bo, ↓zk_rg, ↓zk_get, ↓zk_set, Option.bind_some])
/-- the row of five words behind i letters -/
def jw_wd (g : Nat → Int) (i : Nat) : Int → Int := fun j => jw_acc g j.toNat (min 4 (i - 4 * j.toNat))
theorem jw_wd_step {g : Nat → Int} (hg : ∀ i, 0 ≤ g i ∧ g i < 128) {i : Nat} (hi : i < 20) (j : Nat) : jk_up (jw_wd g i) ((i : Int) / 4) (jk_or (jk_shl (jw_wd g i ((i : Int) / 4)) 8) (g i)) (j : Int) = jw_wd g (i + 1) (j : Int) := by
  have hr := jw_acc_r hg (i / 4)
  have e1 : jw_wd g i ((i : Int) / 4) = jw_acc g (i / 4) (i % 4) := by
    unfold jw_wd
    rw [show ((i : Int) / 4).toNat = i / 4 by omega, show min 4 (i - 4 * (i / 4)) = i % 4 by omega]
  by_cases h : (j : Int) = (i : Int) / 4
  · have hj : j = i / 4 := by omega
    have e2 : jw_wd g (i + 1) (j : Int) = jw_acc g (i / 4) (i % 4 + 1) := by
      unfold jw_wd
      rw [Int.toNat_natCast, hj, show min 4 (i + 1 - 4 * (i / 4)) = i % 4 + 1 by omega]
    have e3 : jw_acc g (i / 4) (i % 4 + 1) = jw_acc g (i / 4) (i % 4) * 256 + g i := by
      show jw_acc g (i / 4) (i % 4) * 256 + g (4 * (i / 4) + i % 4) = _
      rw [Nat.div_add_mod]
    have hb : 0 ≤ jw_acc g (i / 4) (i % 4) ∧ jw_acc g (i / 4) (i % 4) < 8388608 := by
      rcases (show i % 4 = 0 ∨ i % 4 = 1 ∨ i % 4 = 2 ∨ i % 4 = 3 by omega) with h | h | h | h
      · rw [h]; exact ⟨Int.le_refl 0, (by decide : (0 : Int) < 8388608)⟩
      · rw [h]; exact ⟨hr.1.1, by have := hr.1.2; omega⟩
      · rw [h]; exact ⟨hr.2.1.1, by have := hr.2.1.2; omega⟩
      · rw [h]; exact hr.2.2.1
    have hc := hg i
    rw [up_eq h, e1, e2, e3, jw_shl8 hb.1 hb.2, jw_or8 hb.1 hb.2 hc.1 (by omega)]
  · rw [up_ne h]
    unfold jw_wd
    rw [Int.toNat_natCast]
    have e4 : min 4 (i - 4 * j) = min 4 (i + 1 - 4 * j) := by omega
    rw [e4]
