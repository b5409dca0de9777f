/-! rows of numbers: put in, taken out -/
def ins (f : Int → Int) (a v sz : Int) : Int → Int := fun j => if j < a then f j else if j = a then v else if j ≤ sz then f (j - 1) else f j
def rem (f : Int → Int) (a b sz : Int) : Int → Int := fun j => if a ≤ j ∧ j < sz - (b - a) then f (j + (b - a)) else f j
def rsz (st : Int → Int) (c cl m : Int) : Int → Int := fun j => if c < j ∧ j ≤ cl then st j + m else st j
theorem sp_ins_b {f : Int → Int} {a v sz : Int} (ha : 0 ≤ a) (hs : sz < 40) : ∀ (n k : Nat) (t : Int → Int) (i : Int), i = a + k → i ≤ sz → (∀ j, t j = if i < j ∧ j ≤ sz then f (j - 1) else f j) → k < n → fn_Row_insert_b3 n 40 t a v i = some (ins f a v sz) := by
  intro n
  induction n with
  | zero => intro k t i _ _ _ h; omega
  | succ n ih =>
    intro k t i hi h1 ht hk
    rw [fn_Row_insert_b3]
    cases k with
    | zero =>
      (try simp (disch := omega) only [↓zk_lt, ↓zk_nl, ↓zk_eq, ↓zk_ne, ↓zk_ix, ↓zk_dv, ↓zk_bo, ↓zk_rg, ↓zk_get, ↓zk_set, Option.bind_some])
      congr 1
      funext j
      unfold ins jk_up
      by_cases e : j = a
      · rw [if_pos e, if_neg (by omega), if_pos e]
      · rw [if_neg e, ht j]
        by_cases e2 : j < a
        · rw [if_pos e2, if_neg (by omega)]
        · rw [if_neg e2, if_neg e]
          by_cases e3 : j ≤ sz
          · rw [if_pos (by omega), if_pos e3]
          · rw [if_neg (by omega), if_neg e3]
    | succ k =>
      (try simp (disch := omega) only [↓zk_lt, ↓zk_nl, ↓zk_eq, ↓zk_ne, ↓zk_ix, ↓zk_dv, ↓zk_bo, ↓zk_rg, ↓zk_get, ↓zk_set, Option.bind_some])
      refine ih k _ _ (by omega) (by omega) (fun j => ?_) (by omega)
      unfold jk_up
      by_cases e : j = i
      · rw [if_pos e, if_pos (by omega), ht (i - 1), if_neg (by omega), e]
      · rw [if_neg e, ht j]
        by_cases e2 : i < j ∧ j ≤ sz
        · rw [if_pos e2, if_pos (by omega)]
        · rw [if_neg e2, if_neg (by omega)]
theorem sp_ins {f : Int → Int} {a v sz : Int} (ha : 0 ≤ a) (ha2 : a ≤ sz) (hs : sz < 40) : fn_Row_insert 40 f a v sz = some (ins f a v sz) := by
  have hF := jk_F_big
  unfold fn_Row_insert
  exact sp_ins_b ha hs jk_F (sz - a).toNat f sz (by omega) (by omega) (fun j => by rw [if_neg (by omega)]) (by omega)
theorem sp_rem_b {f : Int → Int} {a b sz : Int} (ha : 0 ≤ a) (hab : a < b) (hb : b ≤ sz) (hs : sz ≤ 40) : ∀ (n k : Nat) (t : Int → Int) (i : Int), i + k = sz - b → 0 ≤ i → (∀ j, t j = if a ≤ j ∧ j < a + i then f (j + (b - a)) else f j) → k < n → fn_Row_remove_b3 n 40 t a b sz i = some (rem f a b sz) := by
  intro n
  induction n with
  | zero => intro k t i _ _ _ h; omega
  | succ n ih =>
    intro k t i hi h1 ht hk
    rw [fn_Row_remove_b3]
    cases k with
    | zero =>
      (try simp (disch := omega) only [↓zk_lt, ↓zk_nl, ↓zk_eq, ↓zk_ne, ↓zk_ix, ↓zk_dv, ↓zk_bo, ↓zk_rg, ↓zk_get, ↓zk_set, Option.bind_some])
      congr 1
      funext j
      unfold rem
      rw [ht j]
      by_cases e : a ≤ j ∧ j < a + i
      · rw [if_pos e, if_pos (by omega)]
      · rw [if_neg e, if_neg (by omega)]
    | succ k =>
      (try simp (disch := omega) only [↓zk_lt, ↓zk_nl, ↓zk_eq, ↓zk_ne, ↓zk_ix, ↓zk_dv, ↓zk_bo, ↓zk_rg, ↓zk_get, ↓zk_set, Option.bind_some])
      refine ih k _ _ (by omega) (by omega) (fun j => ?_) (by omega)
      unfold jk_up
      by_cases e : j = a + i
      · rw [if_pos e, if_pos (by omega), ht (b + i), if_neg (by omega), e]
        congr 1
        omega
      · rw [if_neg e, ht j]
        by_cases e2 : a ≤ j ∧ j < a + i
        · rw [if_pos e2, if_pos (by omega)]
        · rw [if_neg e2, if_neg (by omega)]
theorem sp_rem {f : Int → Int} {a b sz : Int} (ha : 0 ≤ a) (hab : a < b) (hb : b ≤ sz) (hs : sz ≤ 40) : fn_Row_remove 40 f a b sz = some (rem f a b sz) := by
  have hF := jk_F_big
  unfold fn_Row_remove
  exact sp_rem_b ha hab hb hs jk_F (sz - b).toNat f 0 (by omega) (by omega) (fun j => by rw [if_neg (by omega)]) (by omega)
theorem sp_rsz_b {st : Int → Int} {c cl m s : Int} (hc : 0 ≤ c) (hcl : cl ≤ 6) : ∀ (n k : Nat) (t : Int → Int) (i : Int), i + k = cl + 1 → c < i → (∀ j, t j = if c < j ∧ j < i then st j + m else st j) → k < n → fn_Cords_resize_b14 n cl s t m i = some (s, rsz st c cl m) := by
  intro n
  induction n with
  | zero => intro k t i _ _ _ h; omega
  | succ n ih =>
    intro k t i hi h1 ht hk
    rw [fn_Cords_resize_b14]
    cases k with
    | zero =>
      (try simp (disch := omega) only [↓zk_lt, ↓zk_nl, ↓zk_eq, ↓zk_ne, ↓zk_ix, ↓zk_dv, ↓zk_bo, ↓zk_rg, ↓zk_get, ↓zk_set, Option.bind_some])
      congr 2
      funext j
      unfold rsz
      rw [ht j]
      by_cases e : c < j ∧ j < i
      · rw [if_pos e, if_pos (by omega)]
      · rw [if_neg e, if_neg (by omega)]
    | succ k =>
      (try simp (disch := omega) only [↓zk_lt, ↓zk_nl, ↓zk_eq, ↓zk_ne, ↓zk_ix, ↓zk_dv, ↓zk_bo, ↓zk_rg, ↓zk_get, ↓zk_set, Option.bind_some])
      refine ih k _ _ (by omega) (by omega) (fun j => ?_) (by omega)
      unfold jk_up
      by_cases e : j = i
      · rw [if_pos e, if_pos (by omega), ht i, if_neg (by omega), e]
      · rw [if_neg e, ht j]
        by_cases e2 : c < j ∧ j < i
        · rw [if_pos e2, if_pos (by omega)]
        · rw [if_neg e2, if_neg (by omega)]
theorem sp_rsz {st : Int → Int} {c cl m sz : Int} (hc : 0 ≤ c) (hc2 : c ≤ cl) (hcl : cl ≤ 6) : fn_Cords_resize cl sz st c m = some (sz + m, rsz st c cl m) := by
  have hF := jk_F_big
  unfold fn_Cords_resize
  exact sp_rsz_b hc hcl jk_F (cl - c).toNat st (c + 1) (by omega) (by omega) (fun j => by rw [if_neg (by omega)]) (by omega)
/-- the topics' part of the reference's array is as it was -/
def pU (w w' : Int → Int) : Prop := w' 0 = w 0 ∧ ∀ i, 3 ≤ i → i < 59 → w' i = w i
theorem pU_rfl (w : Int → Int) : pU w w := ⟨rfl, fun _ _ _ => rfl⟩
theorem pU_tr {a b c : Int → Int} (h : pU a b) (k : pU b c) : pU a c := ⟨k.1.trans h.1, fun i h1 h2 => (k.2 i h1 h2).trans (h.2 i h1 h2)⟩
section P8
variable {cl sz tn : Int} {st dp tp va nb g w : Int → Int}
theorem sp_cins (I : pI cl sz tn st dp tp va nb g) {a c d t v : Int} (hs : sz < 40) (ha : 0 ≤ a) (ha2 : a ≤ sz) (hc : 0 ≤ c) (hc2 : c ≤ cl) : fn_Cords_insert cl sz st dp tp va nb a c d t v = some (a, sz + 1, rsz st c cl 1, ins dp a d sz, ins tp a t sz, ins va a v sz, ins nb a 0 sz) := by
  have hcl := I.1.1
  have hsz := I.1.2.1
  unfold fn_Cords_insert
  (try simp (disch := omega) only [↓zk_lt, ↓zk_nl, ↓zk_eq, ↓zk_ne, ↓zk_ix, ↓zk_dv, ↓zk_bo, ↓zk_rg, ↓zk_get, ↓zk_set, Option.bind_some])
  rw [zk_bd (sp_ins ha ha2 hs), zk_bd (sp_ins ha ha2 hs), zk_bd (sp_ins ha ha2 hs), zk_bd (sp_ins ha ha2 hs), zk_bd (sp_rsz hc hc2 (by omega))]
/-- a cord more -/
theorem pI_ins (I : pI cl sz tn st dp tp va nb g) {a c d t v : Int} (hs : sz < 40) (hc : 0 ≤ c) (hc2 : c < cl) (ha : st c ≤ a) (ha2 : a ≤ st (c + 1)) (hd : 0 ≤ d ∧ d ≤ 3) (ht : 0 ≤ t ∧ t < tn) (hv : 0 ≤ v ∧ v ≤ 9999)
    (h1 : a = st c → d ≤ 1) (h2 : st c < a → 1 ≤ d ∧ d ≤ dp (a - 1) + 1) (h3 : a < st (c + 1) → 1 ≤ dp a ∧ dp a ≤ d + 1) :
    pI cl (sz + 1) tn (rsz st c cl 1) (ins dp a d sz) (ins tp a t sz) (ins va a v sz) (ins nb a 0 sz) (ins g a c sz) := by
  have hcl := I.1.1
  have hsz := I.1.2.1
  have s1 := pI_st I (c := c) hc (by omega)
  have s2 := pI_st I (c := c + 1) (by omega) (by omega)
  refine ⟨⟨I.1.1, by omega, I.1.2.2⟩, ⟨?_, ?_, fun e h4 h5 => ?_⟩, fun k h4 h5 => ?_⟩
  · unfold rsz; rw [if_neg (by omega)]; exact I.2.1.1
  · unfold rsz; rw [if_pos (by omega), I.2.1.2.1]
  · have := I.2.1.2.2 e h4 h5
    unfold rsz
    by_cases x : c < e
    · rw [if_pos (by omega), if_pos (by omega)]; omega
    · by_cases y : c = e
      · rw [if_neg (by omega), if_pos (by omega)]; omega
      · rw [if_neg (by omega), if_neg (by omega)]; omega
  · by_cases x : k < a
    · obtain ⟨⟨a1, a2, a3, a4⟩, a5, a6, a7, a8, a9, b1, b2⟩ := I.2.2 k h4 (by omega)
      have e1 : ∀ f : Int → Int, ∀ u, ins f a u sz k = f k := fun f u => by unfold ins; rw [if_pos x]
      have e2 : ∀ f : Int → Int, ∀ u, ins f a u sz (k - 1) = f (k - 1) := fun f u => by unfold ins; rw [if_pos (by omega)]
      have hgc : g k ≤ c := by
        by_cases y : g k ≤ c
        · exact y
        · have := pI_le I (c := c + 1) (d := g k) (by omega) (by omega) (by omega); omega
      have e3 : rsz st c cl 1 (g k) = st (g k) := by unfold rsz; rw [if_neg (by omega)]
      have e4 : st (g k + 1) ≤ rsz st c cl 1 (g k + 1) := by unfold rsz; split <;> omega
      rw [e1, e1, e1, e1, e1, e2, e3]
      exact ⟨⟨a1, a2, a3, by omega⟩, a5, a6, a7, a8, a9, b1, b2⟩
    · by_cases y : k = a
      · subst y
        have e1 : ∀ f : Int → Int, ∀ u, ins f k u sz k = u := fun f u => by unfold ins; rw [if_neg (by omega), if_pos rfl]
        have e2 : ∀ f : Int → Int, ∀ u, ins f k u sz (k - 1) = f (k - 1) := fun f u => by unfold ins; rw [if_pos (by omega)]
        have e3 : rsz st c cl 1 c = st c := by unfold rsz; rw [if_neg (by omega)]
        have e4 : rsz st c cl 1 (c + 1) = st (c + 1) + 1 := by unfold rsz; rw [if_pos (by omega)]
        rw [e1, e1, e1, e1, e1, e2, e3, e4]
        refine ⟨⟨hc, hc2, ha, by omega⟩, hd, ht, hv, ⟨by omega, by omega⟩, ?_, fun z => h1 z.symm, fun z => h2 z⟩
        simp [pw]
      · obtain ⟨⟨a1, a2, a3, a4⟩, a5, a6, a7, a8, a9, b1, b2⟩ := I.2.2 (k - 1) (by omega) (by omega)
        have e1 : ∀ f : Int → Int, ∀ u, ins f a u sz k = f (k - 1) := fun f u => by unfold ins; rw [if_neg x, if_neg y, if_pos (by omega)]
        have hgc : c ≤ g (k - 1) := by
          by_cases z : c ≤ g (k - 1)
          · exact z
          · have := pI_le I (c := g (k - 1) + 1) (d := c) (by omega) (by omega) (by omega); omega
        have e4 : rsz st c cl 1 (g (k - 1) + 1) = st (g (k - 1) + 1) + 1 := by unfold rsz; rw [if_pos (by omega)]
        rw [e1, e1, e1, e1, e1, e4]
        by_cases z : g (k - 1) = c
        · have e3 : rsz st c cl 1 (g (k - 1)) = st (g (k - 1)) := by unfold rsz; rw [if_neg (by omega)]
          rw [e3]
          refine ⟨⟨a1, a2, by omega, by omega⟩, a5, a6, a7, a8, a9, fun q => ?_, fun q => ?_⟩
          · rw [z] at q; omega
          · by_cases u : k - 1 = a
            · have e5 : ins dp a d sz (k - 1) = d := by unfold ins; rw [if_neg (by omega), if_pos u]
              rw [e5, u]
              rw [z] at a4
              exact h3 (by omega)
            · have e5 : ins dp a d sz (k - 1) = dp (k - 1 - 1) := by unfold ins; rw [if_neg (by omega), if_neg u, if_pos (by omega)]
              rw [e5]
              exact b2 (by rw [z]; omega)
        · have e3 : rsz st c cl 1 (g (k - 1)) = st (g (k - 1)) + 1 := by unfold rsz; rw [if_pos (by omega)]
          have hst := pI_le I (c := c + 1) (d := g (k - 1)) (by omega) (by omega) (by omega)
          rw [e3]
          refine ⟨⟨a1, a2, by omega, by omega⟩, a5, a6, a7, a8, a9, fun q => b1 (by omega), fun q => ?_⟩
          have e5 : ins dp a d sz (k - 1) = dp (k - 1 - 1) := by unfold ins; rw [if_neg (by omega), if_neg (by omega), if_pos (by omega)]
          rw [e5]
          exact b2 (by omega)
/-- a branch less -/
theorem pI_rem (I : pI cl sz tn st dp tp va nb g) {a b : Int} (ha : 0 ≤ a) (hab : a < b) (hb : b ≤ st (g a + 1)) (ha2 : a < sz) (h1 : b < st (g a + 1) → dp b ≤ dp a ∨ dp b ≤ 1) (h0 : b < st (g a + 1) → dp b ≤ dp a ∨ a = st (g a)) :
    pI cl (sz - (b - a)) tn (rsz st (g a) cl (-(b - a))) (rem dp a b sz) (rem tp a b sz) (rem va a b sz) (rem nb a b sz) (rem g a b sz) := by
  have hcl := I.1.1
  have hsz := I.1.2.1
  obtain ⟨⟨g1, g2, g3, g4⟩, gd, -, -, -, -, gs1, gs2⟩ := I.2.2 a ha ha2
  have s2 := pI_st I (c := g a + 1) (by omega) (by omega)
  refine ⟨⟨I.1.1, by omega, I.1.2.2⟩, ⟨?_, ?_, fun e h4 h5 => ?_⟩, fun k h4 h5 => ?_⟩
  · unfold rsz; rw [if_neg (by omega)]; exact I.2.1.1
  · unfold rsz; rw [if_pos (by omega), I.2.1.2.1]; omega
  · have := I.2.1.2.2 e h4 h5
    unfold rsz
    by_cases x : g a < e
    · rw [if_pos (by omega), if_pos (by omega)]; omega
    · by_cases y : g a = e
      · rw [if_neg (by omega), if_pos (by omega), ← y]; omega
      · rw [if_neg (by omega), if_neg (by omega)]; omega
  · by_cases x : k < a
    · obtain ⟨⟨a1, a2, a3, a4⟩, a5, a6, a7, a8, a9, b1, b2⟩ := I.2.2 k h4 (by omega)
      have e1 : ∀ f : Int → Int, rem f a b sz k = f k := fun f => by unfold rem; rw [if_neg (by omega)]
      have e2 : ∀ f : Int → Int, rem f a b sz (k - 1) = f (k - 1) := fun f => by unfold rem; rw [if_neg (by omega)]
      have hgc : g k ≤ g a := by
        by_cases y : g k ≤ g a
        · exact y
        · have := pI_le I (c := g a + 1) (d := g k) (by omega) (by omega) (by omega); omega
      have e3 : rsz st (g a) cl (-(b - a)) (g k) = st (g k) := by unfold rsz; rw [if_neg (by omega)]
      have e4 : k < rsz st (g a) cl (-(b - a)) (g k + 1) := by
        unfold rsz
        by_cases y : g k = g a
        · rw [if_pos (by omega), y]; omega
        · rw [if_neg (by omega)]; exact a4
      rw [e1, e1, e1, e1, e1, e2, e3]
      exact ⟨⟨a1, a2, a3, e4⟩, a5, a6, a7, a8, a9, b1, b2⟩
    · obtain ⟨⟨a1, a2, a3, a4⟩, a5, a6, a7, a8, a9, b1, b2⟩ := I.2.2 (k + (b - a)) (by omega) (by omega)
      have e1 : ∀ f : Int → Int, rem f a b sz k = f (k + (b - a)) := fun f => by unfold rem; rw [if_pos (by omega)]
      have hgc : g a ≤ g (k + (b - a)) := by
        by_cases z : g a ≤ g (k + (b - a))
        · exact z
        · have := pI_le I (c := g (k + (b - a)) + 1) (d := g a) (by omega) (by omega) (by omega); omega
      have e4 : rsz st (g a) cl (-(b - a)) (g (k + (b - a)) + 1) = st (g (k + (b - a)) + 1) - (b - a) := by unfold rsz; rw [if_pos (by omega)]; omega
      rw [e1, e1, e1, e1, e1, e4]
      by_cases z : g (k + (b - a)) = g a
      · have e3 : rsz st (g a) cl (-(b - a)) (g (k + (b - a))) = st (g (k + (b - a))) := by unfold rsz; rw [if_neg (by omega)]
        rw [e3]
        have hstart : st (g (k + (b - a))) ≤ a := by rw [z]; exact g3
        refine ⟨⟨a1, a2, by omega, by omega⟩, a5, a6, a7, a8, a9, fun q => ?_, fun q => ?_⟩
        · have hk : k = a := by omega
          have e6 : k + (b - a) = b := by omega
          rw [e6] at a4 z ⊢
          rw [z] at a4
          rw [e6] at q
          rw [z] at q
          have := gs1 (by omega)
          rcases h1 a4 with h | h <;> omega
        · by_cases u : k = a
          · have e5 : rem dp a b sz (k - 1) = dp (k - 1) := by unfold rem; rw [if_neg (by omega)]
            have e6 : k + (b - a) = b := by omega
            have b3 := b2 (by omega)
            rw [e5]
            rw [e6] at z a4 b3 q ⊢
            rw [z] at a4 q
            have := gs2 (by omega)
            rw [u]
            rcases h0 a4 with h | h <;> omega
          · have e5 : rem dp a b sz (k - 1) = dp (k + (b - a) - 1) := by
              unfold rem
              rw [if_pos (by omega)]
              congr 1
              omega
            rw [e5]
            exact b2 (by omega)
      · have e3 : rsz st (g a) cl (-(b - a)) (g (k + (b - a))) = st (g (k + (b - a))) - (b - a) := by unfold rsz; rw [if_pos (by omega)]; omega
        have hst := pI_le I (c := g a + 1) (d := g (k + (b - a))) (by omega) (by omega) (by omega)
        rw [e3]
        refine ⟨⟨a1, a2, by omega, by omega⟩, a5, a6, a7, a8, a9, fun q => b1 (by omega), fun q => ?_⟩
        have e5 : rem dp a b sz (k - 1) = dp (k + (b - a) - 1) := by
          unfold rem
          rw [if_pos (by omega)]
          congr 1
          omega
        rw [e5]
        exact b2 (by omega)
end P8
