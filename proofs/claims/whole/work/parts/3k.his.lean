/-! copies; the changes remembered -/
def cpy (n : Int) (t a : Int → Int) : Int → Int := fun j => if 0 ≤ j ∧ j < n then a j else t j
theorem sp_cpy_b {n : Int} (hn : 0 ≤ n ∧ n ≤ 700) {f a : Int → Int} : ∀ (m k : Nat) (t : Int → Int) (i : Int), i + k = n → 0 ≤ i → (∀ j, t j = if 0 ≤ j ∧ j < i then a j else f j) → k < m → fn_Row_copyFrom_b2 m n n t a i = some (cpy n f a) := by
  intro m
  induction m with
  | zero => intro k t i _ _ _ h; omega
  | succ m ih =>
    intro k t i hi h0 ht hk
    rw [fn_Row_copyFrom_b2]
    cases k with
    | zero =>
      (try simp (disch := omega) only [↓zk_lt, ↓zk_nl, ↓zk_eq, ↓zk_ne, ↓zk_ix, ↓zk_dv, ↓zk_bo, ↓zk_rg, ↓zk_get, ↓zk_set, Option.bind_some])
      congr 1
      funext j
      rw [ht j]
      unfold cpy
      rw [show i = n by omega]
    | succ k =>
      (try simp (disch := omega) only [↓zk_lt, ↓zk_nl, ↓zk_eq, ↓zk_ne, ↓zk_ix, ↓zk_dv, ↓zk_bo, ↓zk_rg, ↓zk_get, ↓zk_set, Option.bind_some])
      refine ih k _ _ (by omega) (by omega) (fun j => ?_) (by omega)
      unfold jk_up
      by_cases e : j = i
      · rw [if_pos e, if_pos (by omega), e]
      · rw [if_neg e, ht j]
        by_cases e2 : 0 ≤ j ∧ j < i
        · rw [if_pos e2, if_pos (by omega)]
        · rw [if_neg e2, if_neg (by omega)]
theorem sp_cpy {n : Int} (hn : 0 ≤ n ∧ n ≤ 700) {f a : Int → Int} : fn_Row_copyFrom n n f a = some (cpy n f a) := by
  have hF := jk_F_big
  unfold fn_Row_copyFrom
  exact sp_cpy_b hn jk_F n.toNat f 0 (by omega) (by omega) (fun j => by rw [if_neg (by omega)]) (by omega)
theorem cpy_in {n : Int} {t a : Int → Int} {j : Int} (h0 : 0 ≤ j) (h1 : j < n) : cpy n t a j = a j := by unfold cpy; rw [if_pos ⟨h0, h1⟩]
theorem sp_ccpy {c1 s1 c2 s2 : Int} {a1 a2 a3 a4 a5 b1 b2 b3 b4 b5 : Int → Int} : fn_Cords_copyFrom c1 s1 a1 a2 a3 a4 a5 c2 s2 b1 b2 b3 b4 b5 = some (c2, s2, cpy 7 a1 b1, cpy 40 a2 b2, cpy 40 a3 b3, cpy 40 a4 b4, cpy 40 a5 b5) := by
  unfold fn_Cords_copyFrom
  rw [zk_bd (sp_cpy (by omega)), zk_bd (sp_cpy (by omega)), zk_bd (sp_cpy (by omega)), zk_bd (sp_cpy (by omega)), zk_bd (sp_cpy (by omega))]
theorem pC_ext {tn cl sz : Int} {st dp tp va nb w st' dp' tp' va' nb' w' : Int → Int} (H : pC tn cl sz st dp tp va nb w) (e1 : ∀ j, 0 ≤ j → j < 7 → st' j = st j) (e2 : ∀ j, 0 ≤ j → j < 40 → dp' j = dp j) (e3 : ∀ j, 0 ≤ j → j < 40 → tp' j = tp j) (e4 : ∀ j, 0 ≤ j → j < 40 → va' j = va j) (e5 : ∀ j, 0 ≤ j → j < 40 → nb' j = nb j) (e6 : ∀ j, 0 ≤ j → j < 259 → w' j = w j) : pC tn cl sz st' dp' tp' va' nb' w' := by
  obtain ⟨⟨g, I, M⟩, G⟩ := H
  have hcl := I.1.1
  have hsz := I.1.2.1
  refine ⟨⟨g, ⟨I.1, ⟨?_, ?_, fun c h0 h1 => ?_⟩, fun k h0 h1 => ?_⟩, ?_, ?_, fun k h0 h1 => ?_⟩, fun j h0 h1 => ?_⟩
  · rw [e1 0 (by omega) (by omega)]; exact I.2.1.1
  · rw [e1 cl (by omega) (by omega)]; exact I.2.1.2.1
  · rw [e1 c (by omega) (by omega), e1 (c + 1) (by omega) (by omega)]; exact I.2.1.2.2 c h0 h1
  · obtain ⟨⟨a1, a2, a3, a4⟩, a5, a6, a7, a8, a9, b1, b2⟩ := I.2.2 k h0 h1
    rw [e1 (g k) (by omega) (by omega), e1 (g k + 1) (by omega) (by omega), e2 k (by omega) (by omega), e3 k (by omega) (by omega), e4 k (by omega) (by omega), e5 k (by omega) (by omega)]
    refine ⟨⟨a1, a2, a3, a4⟩, a5, a6, a7, a8, a9, b1, fun h => ?_⟩
    have hs := pI_st I (c := g k) a1 (by omega)
    rw [e2 (k - 1) (by omega) (by omega)]
    exact b2 h
  · rw [e6 1 (by omega) (by omega)]; exact M.1
  · rw [e6 2 (by omega) (by omega)]; exact M.2.1
  · rw [e6 _ (by omega) (by omega), e6 _ (by omega) (by omega), e6 _ (by omega) (by omega), e6 _ (by omega) (by omega), e6 _ (by omega) (by omega), e2 k (by omega) (by omega), e3 k (by omega) (by omega), e4 k (by omega) (by omega), e5 k (by omega) (by omega)]
    exact M.2.2 k h0 h1
  · rw [e2 j h0 h1]; exact G j h0 h1
theorem pC_cpy {tn cl sz : Int} {st dp tp va nb w a1 a2 a3 a4 a5 : Int → Int} (H : pC tn cl sz st dp tp va nb w) : pC tn cl sz (cpy 7 a1 st) (cpy 40 a2 dp) (cpy 40 a3 tp) (cpy 40 a4 va) (cpy 40 a5 nb) w :=
  pC_ext H (fun _ h0 h1 => cpy_in h0 h1) (fun _ h0 h1 => cpy_in h0 h1) (fun _ h0 h1 => cpy_in h0 h1) (fun _ h0 h1 => cpy_in h0 h1) (fun _ h0 h1 => cpy_in h0 h1) (fun _ _ _ => rfl)
/-- a block of the reference's array copied -/
def blk (a b : Int → Int) (x y : Int) : Int → Int := fun j => if y ≤ j ∧ j < y + 259 then a (x + (j - y)) else b j
theorem sm_cpy_b {na nb x y : Int} {a b : Int → Int} (hx : 0 ≤ x ∧ x + 259 ≤ na) (hy : 0 ≤ y ∧ y + 259 ≤ nb) : ∀ (m k : Nat) (t : Int → Int) (i : Int), i + k = 259 → 0 ≤ i → (∀ j, t j = if y ≤ j ∧ j < y + i then a (x + (j - y)) else b j) → k < m → fn_Md_copies_b3 m na nb a t x y i = some (blk a b x y) := by
  intro m
  induction m with
  | zero => intro k t i _ _ _ h; omega
  | succ m ih =>
    intro k t i hi h0 ht hk
    rw [fn_Md_copies_b3]
    cases k with
    | zero =>
      (try simp (disch := omega) only [↓zk_lt, ↓zk_nl, ↓zk_eq, ↓zk_ne, ↓zk_ix, ↓zk_dv, ↓zk_bo, ↓zk_rg, ↓zk_get, ↓zk_set, Option.bind_some])
      congr 1
      funext j
      rw [ht j]
      unfold blk
      rw [show i = 259 by omega]
    | succ k =>
      (try simp (disch := omega) only [↓zk_lt, ↓zk_nl, ↓zk_eq, ↓zk_ne, ↓zk_ix, ↓zk_dv, ↓zk_bo, ↓zk_rg, ↓zk_get, ↓zk_set, Option.bind_some])
      refine ih k _ _ (by omega) (by omega) (fun j => ?_) (by omega)
      unfold jk_up
      by_cases e : j = y + i
      · rw [if_pos e, if_pos (by omega), e]
        congr 1
        omega
      · rw [if_neg e, ht j]
        by_cases e2 : y ≤ j ∧ j < y + i
        · rw [if_pos e2, if_pos (by omega)]
        · rw [if_neg e2, if_neg (by omega)]
theorem sm_cpy {na nb x y : Int} {a b : Int → Int} (hx : 0 ≤ x ∧ x + 259 ≤ na) (hy : 0 ≤ y ∧ y + 259 ≤ nb) : fn_Md_copies na nb a b x y = some (blk a b x y) := by
  have hF := jk_F_big
  unfold fn_Md_copies
  exact sm_cpy_b hx hy jk_F 259 b 0 (by omega) (by omega) (fun j => by rw [if_neg (by omega)]) (by omega)
/-- the ring beside the reference's past -/
def hsl (l i : Int) : Int := (l + 8 - i) % 8
def pH (tn l n : Int) (HC HZ : Int → Int) (HS HD HT HV HN : Int → Int → Int) (w past : Int → Int) : Prop :=
  (0 ≤ l ∧ l < 8) ∧ (0 ≤ n ∧ n ≤ 8) ∧ ∀ i, 0 ≤ i → i < n → pC tn (HC (hsl l i)) (HZ (hsl l i)) (HS (hsl l i)) (HD (hsl l i)) (HT (hsl l i)) (HV (hsl l i)) (HN (hsl l i)) (fun x => past (259 * (n - 1 - i) + x)) ∧ pU w (fun x => past (259 * (n - 1 - i) + x))
def upF (f : Int → Int → Int) (i : Int) (v : Int → Int) : Int → Int → Int := fun j => if j = i then v else f j
theorem pU_sw {a b c : Int → Int} (h : pU a b) (k : pU a c) : pU b c := ⟨k.1.trans h.1.symm, fun i h1 h2 => (k.2 i h1 h2).trans (h.2 i h1 h2).symm⟩
section PB
variable {tn cl sz l n : Int} {HC HZ : Int → Int} {HS HD HT HV HN : Int → Int → Int} {st dp tp va nb w past : Int → Int}
theorem pH_w {w' : Int → Int} (h : pH tn l n HC HZ HS HD HT HV HN w past) (hu : pU w w') : pH tn l n HC HZ HS HD HT HV HN w' past :=
  ⟨h.1, h.2.1, fun i h0 h1 => ⟨(h.2.2 i h0 h1).1, pU_sw hu (h.2.2 i h0 h1).2⟩⟩
/-- the past moved down by a block -/
theorem sm_shift {w past : Int → Int} {q : Int} : ∀ (m k : Nat) (t : Int → Int) (i : Int), i + k = 1813 → 0 ≤ i → (∀ j, t j = if 0 ≤ j ∧ j < i then past (j + 259) else past j) → k < m → fn_Md_remembers_b11 m w t q i = fn_Md_remembers_b50 w (fun j => if 0 ≤ j ∧ j < 1813 then past (j + 259) else past j) (q - 1) := by
  intro m
  induction m with
  | zero => intro k t i _ _ _ h; omega
  | succ m ih =>
    intro k t i hi h0 ht hk
    rw [fn_Md_remembers_b11]
    cases k with
    | zero =>
      (try simp (disch := omega) only [↓zk_lt, ↓zk_nl, ↓zk_eq, ↓zk_ne, ↓zk_ix, ↓zk_dv, ↓zk_bo, ↓zk_rg, ↓zk_get, ↓zk_set, Option.bind_some])
      congr 1
      funext j
      rw [ht j, show i = 1813 by omega]
    | succ k =>
      (try simp (disch := omega) only [↓zk_lt, ↓zk_nl, ↓zk_eq, ↓zk_ne, ↓zk_ix, ↓zk_dv, ↓zk_bo, ↓zk_rg, ↓zk_get, ↓zk_set, Option.bind_some])
      refine ih k _ _ (by omega) (by omega) (fun j => ?_) (by omega)
      unfold jk_up
      by_cases e : j = i
      · rw [if_pos e, if_pos (by omega), ht (i + 259), if_neg (by omega), e]
      · rw [if_neg e, ht j]
        by_cases e2 : 0 ≤ j ∧ j < i
        · rw [if_pos e2, if_pos (by omega)]
        · rw [if_neg e2, if_neg (by omega)]
theorem push_both (H : pC tn cl sz st dp tp va nb w) (Hh : pH tn l n HC HZ HS HD HT HV HN w past) :
    ∃ (n' : Int) (c1 c2 c3 c4 c5 past' : Int → Int), fn_History_push l n (HC ((l + 1) % 8)) (HZ ((l + 1) % 8)) (HS ((l + 1) % 8)) (HD ((l + 1) % 8)) (HT ((l + 1) % 8)) (HV ((l + 1) % 8)) (HN ((l + 1) % 8)) cl sz st dp tp va nb = some ((l + 1) % 8, n', cl, sz, c1, c2, c3, c4, c5) ∧
      fn_Md_remembers w past n = some (past', n') ∧ pH tn ((l + 1) % 8) n' (jk_up HC ((l + 1) % 8) cl) (jk_up HZ ((l + 1) % 8) sz) (upF HS ((l + 1) % 8) c1) (upF HD ((l + 1) % 8) c2) (upF HT ((l + 1) % 8) c3) (upF HV ((l + 1) % 8) c4) (upF HN ((l + 1) % 8) c5) w past' := by
  have hF := jk_F_big
  obtain ⟨hl, hn, hh⟩ := Hh
  have hm : 0 ≤ (l + 1) % 8 ∧ (l + 1) % 8 < 8 := by omega
  have hC := pC_cpy (a1 := HS ((l + 1) % 8)) (a2 := HD ((l + 1) % 8)) (a3 := HT ((l + 1) % 8)) (a4 := HV ((l + 1) % 8)) (a5 := HN ((l + 1) % 8)) H
  -- the reference's side, whatever was moved down before
  have key : ∀ (q : Int) (P : Int → Int), 0 ≤ q → q < 8 → (∀ i, 1 ≤ i → i ≤ q → pC tn (HC (hsl l (i - 1))) (HZ (hsl l (i - 1))) (HS (hsl l (i - 1))) (HD (hsl l (i - 1))) (HT (hsl l (i - 1))) (HV (hsl l (i - 1))) (HN (hsl l (i - 1))) (fun x => P (259 * (q - i) + x)) ∧ pU w (fun x => P (259 * (q - i) + x))) →
      fn_Md_remembers_b50 w P q = some (blk w P 0 (259 * q), q + 1) ∧ pH tn ((l + 1) % 8) (q + 1) (jk_up HC ((l + 1) % 8) cl) (jk_up HZ ((l + 1) % 8) sz) (upF HS ((l + 1) % 8) (cpy 7 (HS ((l + 1) % 8)) st)) (upF HD ((l + 1) % 8) (cpy 40 (HD ((l + 1) % 8)) dp)) (upF HT ((l + 1) % 8) (cpy 40 (HT ((l + 1) % 8)) tp)) (upF HV ((l + 1) % 8) (cpy 40 (HV ((l + 1) % 8)) va)) (upF HN ((l + 1) % 8) (cpy 40 (HN ((l + 1) % 8)) nb)) w (blk w P 0 (259 * q)) := by
    intro q P h0 h1 h2
    refine ⟨?_, hm, by omega, fun i h3 h4 => ?_⟩
    · unfold fn_Md_remembers_b50
      rw [zk_bd (sm_cpy (by omega) (by omega))]
    · by_cases e : i = 0
      · subst e
        have e1 : hsl ((l + 1) % 8) 0 = (l + 1) % 8 := by unfold hsl; omega
        have e2 : ∀ x, 0 ≤ x → x < 259 → blk w P 0 (259 * q) (259 * (q + 1 - 1 - 0) + x) = w x := fun x h5 h6 => by
          unfold blk
          rw [if_pos (by omega)]
          congr 1
          omega
        rw [e1]
        unfold upF
        rw [up_eq rfl, up_eq rfl, if_pos rfl, if_pos rfl, if_pos rfl, if_pos rfl, if_pos rfl]
        exact ⟨pC_ext hC (fun _ _ _ => rfl) (fun _ _ _ => rfl) (fun _ _ _ => rfl) (fun _ _ _ => rfl) (fun _ _ _ => rfl) e2, e2 0 (by omega) (by omega), fun x h5 h6 => e2 x (by omega) (by omega)⟩
      · obtain ⟨a1, a2⟩ := h2 i (by omega) (by omega)
        have e1 : hsl ((l + 1) % 8) i = hsl l (i - 1) := by unfold hsl; omega
        have e3 : ¬ hsl l (i - 1) = (l + 1) % 8 := by unfold hsl; omega
        have e2 : ∀ x, 0 ≤ x → x < 259 → blk w P 0 (259 * q) (259 * (q + 1 - 1 - i) + x) = P (259 * (q - i) + x) := fun x h5 h6 => by
          unfold blk
          rw [if_neg (by omega)]
          congr 1
          omega
        rw [e1]
        unfold upF
        rw [up_ne e3, up_ne e3, if_neg e3, if_neg e3, if_neg e3, if_neg e3, if_neg e3]
        refine ⟨pC_ext a1 (fun _ _ _ => rfl) (fun _ _ _ => rfl) (fun _ _ _ => rfl) (fun _ _ _ => rfl) (fun _ _ _ => rfl) e2, ?_, fun x h5 h6 => ?_⟩
        · show blk w P 0 (259 * q) (259 * (q + 1 - 1 - i) + 0) = w 0
          rw [e2 0 (by omega) (by omega)]; exact a2.1
        · show blk w P 0 (259 * q) (259 * (q + 1 - 1 - i) + x) = w x
          rw [e2 x (by omega) (by omega)]; exact a2.2 x h5 h6
  by_cases e : n = 8
  · obtain ⟨k1, k2⟩ := key 7 (fun j => if 0 ≤ j ∧ j < 1813 then past (j + 259) else past j) (by omega) (by omega) (fun i h3 h4 => by
      obtain ⟨a1, a2⟩ := hh (i - 1) (by omega) (by omega)
      have e2 : ∀ x, 0 ≤ x → x < 259 → (if 0 ≤ 259 * (7 - i) + x ∧ 259 * (7 - i) + x < 1813 then past (259 * (7 - i) + x + 259) else past (259 * (7 - i) + x)) = past (259 * (n - 1 - (i - 1)) + x) := fun x h5 h6 => by
        rw [if_pos (by omega)]
        congr 1
        omega
      refine ⟨pC_ext a1 (fun _ _ _ => rfl) (fun _ _ _ => rfl) (fun _ _ _ => rfl) (fun _ _ _ => rfl) (fun _ _ _ => rfl) e2, ?_, fun x h5 h6 => ?_⟩
      · exact (e2 0 (by omega) (by omega)).trans a2.1
      · exact (e2 x (by omega) (by omega)).trans (a2.2 x h5 h6))
    refine ⟨7 + 1, _, _, _, _, _, _, ?_, ?_, k2⟩
    · unfold fn_History_push
      (try simp (disch := omega) only [↓zk_lt, ↓zk_nl, ↓zk_eq, ↓zk_ne, ↓zk_ix, ↓zk_dv, ↓zk_bo, ↓zk_rg, ↓zk_get, ↓zk_set, Option.bind_some])
      rw [zk_bd sp_ccpy]
      rfl
    · unfold fn_Md_remembers
      (try simp (disch := omega) only [↓zk_lt, ↓zk_nl, ↓zk_eq, ↓zk_ne, ↓zk_ix, ↓zk_dv, ↓zk_bo, ↓zk_rg, ↓zk_get, ↓zk_set, Option.bind_some])
      rw [sm_shift jk_F 1813 past 0 (by omega) (by omega) (fun j => by rw [if_neg (by omega)]) (by omega), e]
      exact k1
  · obtain ⟨k1, k2⟩ := key n past (by omega) (by omega) (fun i h3 h4 => by
      obtain ⟨a1, a2⟩ := hh (i - 1) (by omega) (by omega)
      rw [show n - 1 - (i - 1) = n - i by omega] at a1 a2
      exact ⟨a1, a2⟩)
    refine ⟨n + 1, _, _, _, _, _, _, ?_, ?_, k2⟩
    · unfold fn_History_push
      (try simp (disch := omega) only [↓zk_lt, ↓zk_nl, ↓zk_eq, ↓zk_ne, ↓zk_ix, ↓zk_dv, ↓zk_bo, ↓zk_rg, ↓zk_get, ↓zk_set, Option.bind_some])
      rw [zk_bd sp_ccpy]
    · unfold fn_Md_remembers
      (try simp (disch := omega) only [↓zk_lt, ↓zk_nl, ↓zk_eq, ↓zk_ne, ↓zk_ix, ↓zk_dv, ↓zk_bo, ↓zk_rg, ↓zk_get, ↓zk_set, Option.bind_some])
      exact k1
end PB
