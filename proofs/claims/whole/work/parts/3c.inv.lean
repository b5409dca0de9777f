/-! the cords: what holds of the system's columns, with the cluster g of each cord; and the reference's array beside them -/
def pI (cl sz tn : Int) (st dp tp va nb g : Int → Int) : Prop :=
  ((0 ≤ cl ∧ cl ≤ 6) ∧ (0 ≤ sz ∧ sz ≤ 40) ∧ (0 ≤ tn ∧ tn ≤ 8)) ∧ (st 0 = 0 ∧ st cl = sz ∧ ∀ c, 0 ≤ c → c < cl → st c ≤ st (c + 1)) ∧
  ∀ k, 0 ≤ k → k < sz → (0 ≤ g k ∧ g k < cl ∧ st (g k) ≤ k ∧ k < st (g k + 1)) ∧ (0 ≤ dp k ∧ dp k ≤ 3) ∧ (0 ≤ tp k ∧ tp k < tn) ∧ (0 ≤ va k ∧ va k ≤ 9999) ∧ (0 ≤ nb k ∧ nb k ≤ 4) ∧ va k / pw (nb k) * pw (nb k) = va k ∧ (st (g k) = k → dp k ≤ 1) ∧ (st (g k) < k → 1 ≤ dp k ∧ dp k ≤ dp (k - 1) + 1)
def pM (cl sz : Int) (dp tp va nb g w : Int → Int) : Prop :=
  w 1 = cl ∧ w 2 = sz ∧ ∀ k, 0 ≤ k → k < sz → w (59 + 5 * k + 0) = g k ∧ w (59 + 5 * k + 1) = dp k ∧ w (59 + 5 * k + 2) = tp k ∧ w (59 + 5 * k + 3) = va k ∧ w (59 + 5 * k + 4) = nb k
section P3
variable {cl sz tn : Int} {st dp tp va nb g w : Int → Int}
theorem pI_mono (I : pI cl sz tn st dp tp va nb g) : ∀ (m : Nat) (c d : Int), c + m = d → 0 ≤ c → d ≤ cl → st c ≤ st d := by
  intro m
  induction m with
  | zero => intro c d h _ _; rw [show d = c by omega]; omega
  | succ m ih =>
    intro c d h h0 h1
    have h2 := I.2.1.2.2 c h0 (by omega)
    have h3 := ih (c + 1) d (by omega) (by omega) h1
    omega
theorem pI_le (I : pI cl sz tn st dp tp va nb g) {c d : Int} (h0 : 0 ≤ c) (h1 : c ≤ d) (h2 : d ≤ cl) : st c ≤ st d := pI_mono I (d - c).toNat c d (by omega) h0 h2
theorem pI_st (I : pI cl sz tn st dp tp va nb g) {c : Int} (h0 : 0 ≤ c) (h1 : c ≤ cl) : 0 ≤ st c ∧ st c ≤ sz := by
  have a := pI_le I (c := 0) (d := c) (by omega) h0 h1
  have b := pI_le I (c := c) (d := cl) h0 h1 (by omega)
  have := I.2.1
  omega
/-- a cord's cluster is the only one that holds it -/
theorem pI_g (I : pI cl sz tn st dp tp va nb g) {c k : Int} (h0 : 0 ≤ c) (h1 : c < cl) (h2 : st c ≤ k) (h3 : k < st (c + 1)) : g k = c := by
  have hs := pI_st I (c := c) h0 (by omega)
  have hs' := pI_st I (c := c + 1) (by omega) (by omega)
  obtain ⟨⟨a1, a2, a3, a4⟩, -⟩ := I.2.2 k (by omega) (by omega)
  by_cases x : g k < c
  · have := pI_le I (c := g k + 1) (d := c) (by omega) (by omega) (by omega); omega
  · by_cases y : c < g k
    · have := pI_le I (c := c + 1) (d := g k) (by omega) (by omega) (by omega); omega
    · omega
/-- a cord that begins no cluster stands in the cluster of the one before it -/
theorem pI_pred (I : pI cl sz tn st dp tp va nb g) {k : Int} (h0 : 0 ≤ k) (h1 : k < sz) (h2 : st (g k) < k) : g (k - 1) = g k := by
  obtain ⟨⟨a1, a2, a3, a4⟩, -⟩ := I.2.2 k h0 h1
  exact pI_g I a1 a2 (by omega) (by omega)
theorem pI_lt_iff (I : pI cl sz tn st dp tp va nb g) {c k : Int} (h0 : 0 ≤ c) (h1 : c ≤ cl) (hk : 0 ≤ k) (hk2 : k < sz) : st c ≤ k ↔ c ≤ g k := by
  obtain ⟨⟨a1, a2, a3, a4⟩, -⟩ := I.2.2 k hk hk2
  constructor
  · intro h
    by_cases x : c ≤ g k
    · exact x
    · have := pI_le I (c := g k + 1) (d := c) (by omega) (by omega) h1; omega
  · intro h
    have := pI_le I (c := c) (d := g k) h0 h (by omega); omega
/-! the reference's reads -/
theorem sm_of {k x : Int} (h0 : 0 ≤ k) (h1 : k < 40) (h2 : 0 ≤ x) (h3 : x ≤ 4) : fn_Md_of w k x = some (w (59 + 5 * k + x)) := by
  unfold fn_Md_of
  simp (disch := omega) only [↓zk_lt, ↓zk_nl, ↓zk_eq, ↓zk_ne, ↓zk_ix, ↓zk_dv, ↓zk_bo, ↓zk_rg, ↓zk_get, ↓zk_set, Option.bind_some]
theorem M0 (I : pI cl sz tn st dp tp va nb g) (M : pM cl sz dp tp va nb g w) {k : Int} (h0 : 0 ≤ k) (h1 : k < sz) : fn_Md_of w k 0 = some (g k) := by
  have := I.1.2.1; rw [sm_of h0 (by omega) (by omega) (by omega), (M.2.2 k h0 h1).1]
theorem M1 (I : pI cl sz tn st dp tp va nb g) (M : pM cl sz dp tp va nb g w) {k : Int} (h0 : 0 ≤ k) (h1 : k < sz) : fn_Md_of w k 1 = some (dp k) := by
  have := I.1.2.1; rw [sm_of h0 (by omega) (by omega) (by omega), (M.2.2 k h0 h1).2.1]
theorem M2 (I : pI cl sz tn st dp tp va nb g) (M : pM cl sz dp tp va nb g w) {k : Int} (h0 : 0 ≤ k) (h1 : k < sz) : fn_Md_of w k 2 = some (tp k) := by
  have := I.1.2.1; rw [sm_of h0 (by omega) (by omega) (by omega), (M.2.2 k h0 h1).2.2.1]
theorem M3 (I : pI cl sz tn st dp tp va nb g) (M : pM cl sz dp tp va nb g w) {k : Int} (h0 : 0 ≤ k) (h1 : k < sz) : fn_Md_of w k 3 = some (va k) := by
  have := I.1.2.1; rw [sm_of h0 (by omega) (by omega) (by omega), (M.2.2 k h0 h1).2.2.2.1]
theorem M4 (I : pI cl sz tn st dp tp va nb g) (M : pM cl sz dp tp va nb g w) {k : Int} (h0 : 0 ≤ k) (h1 : k < sz) : fn_Md_of w k 4 = some (nb k) := by
  have := I.1.2.1; rw [sm_of h0 (by omega) (by omega) (by omega), (M.2.2 k h0 h1).2.2.2.2]
theorem sp_has {k : Int} (hs : 0 ≤ sz ∧ sz ≤ 40) (hk : jk_R k) : fn_Cords_has sz k = some (if 0 ≤ k ∧ k < sz then 1 else 0) := by
  have h := hk.1
  have h' := hk.2
  unfold fn_Cords_has
  by_cases h0 : 0 ≤ k
  · by_cases h1 : k < sz
    · simp (disch := omega) only [↓zk_lt, ↓zk_nl, ↓zk_eq, ↓zk_ne, ↓zk_ix, ↓zk_dv, ↓zk_bo, ↓zk_rg, ↓zk_get, ↓zk_set, Option.bind_some]; rw [if_pos ⟨h0, h1⟩]
    · simp (disch := omega) only [↓zk_lt, ↓zk_nl, ↓zk_eq, ↓zk_ne, ↓zk_ix, ↓zk_dv, ↓zk_bo, ↓zk_rg, ↓zk_get, ↓zk_set, Option.bind_some]; rw [if_neg (by omega)]
  · simp (disch := omega) only [↓zk_lt, ↓zk_nl, ↓zk_eq, ↓zk_ne, ↓zk_ix, ↓zk_dv, ↓zk_bo, ↓zk_rg, ↓zk_get, ↓zk_set, Option.bind_some]; rw [if_neg (by omega)]
theorem sp_hasC {k : Int} (hs : 0 ≤ cl ∧ cl ≤ 6) (hk : jk_R k) : fn_Cords_hasCluster cl k = some (if 0 ≤ k ∧ k < cl then 1 else 0) := by
  have h := hk.1
  have h' := hk.2
  unfold fn_Cords_hasCluster
  by_cases h0 : 0 ≤ k
  · by_cases h1 : k < cl
    · simp (disch := omega) only [↓zk_lt, ↓zk_nl, ↓zk_eq, ↓zk_ne, ↓zk_ix, ↓zk_dv, ↓zk_bo, ↓zk_rg, ↓zk_get, ↓zk_set, Option.bind_some]; rw [if_pos ⟨h0, h1⟩]
    · simp (disch := omega) only [↓zk_lt, ↓zk_nl, ↓zk_eq, ↓zk_ne, ↓zk_ix, ↓zk_dv, ↓zk_bo, ↓zk_rg, ↓zk_get, ↓zk_set, Option.bind_some]; rw [if_neg (by omega)]
  · simp (disch := omega) only [↓zk_lt, ↓zk_nl, ↓zk_eq, ↓zk_ne, ↓zk_ix, ↓zk_dv, ↓zk_bo, ↓zk_rg, ↓zk_get, ↓zk_set, Option.bind_some]; rw [if_neg (by omega)]
/-! clusters -/
theorem sp_start (I : pI cl sz tn st dp tp va nb g) {c : Int} (h0 : 0 ≤ c) (h1 : c ≤ cl) : fn_Cords_start st c = some (st c) := by
  have := I.1.1
  unfold fn_Cords_start
  simp (disch := omega) only [↓zk_lt, ↓zk_nl, ↓zk_eq, ↓zk_ne, ↓zk_ix, ↓zk_dv, ↓zk_bo, ↓zk_rg, ↓zk_get, ↓zk_set, Option.bind_some]
theorem sp_end (I : pI cl sz tn st dp tp va nb g) {c : Int} (h0 : 0 ≤ c) (h1 : c < cl) : fn_Cords_end st c = some (st (c + 1)) := by
  have := I.1.1
  unfold fn_Cords_end
  simp (disch := omega) only [↓zk_lt, ↓zk_nl, ↓zk_eq, ↓zk_ne, ↓zk_ix, ↓zk_dv, ↓zk_bo, ↓zk_rg, ↓zk_get, ↓zk_set, Option.bind_some]
theorem sp_ca_b (I : pI cl sz tn st dp tp va nb g) {k : Int} (hk : 0 ≤ k) (hk2 : k < sz) : ∀ (n m : Nat) (v i : Int), i + m = cl → 1 ≤ i → (v = if i ≤ g k then i - 1 else g k) → m < n → fn_Cords_clusterAt_b4 n cl st k v i = some (g k) := by
  have hcl := I.1.1
  have hsz := I.1.2.1
  obtain ⟨⟨a1, a2, a3, a4⟩, -⟩ := I.2.2 k hk hk2
  intro n
  induction n with
  | zero => intro m v i _ _ _ h; omega
  | succ n ih =>
    intro m v i hi h1 hv hm
    rw [fn_Cords_clusterAt_b4]
    cases m with
    | zero =>
      simp (disch := omega) only [↓zk_lt, ↓zk_nl, ↓zk_eq, ↓zk_ne, ↓zk_ix, ↓zk_dv, ↓zk_bo, ↓zk_rg, ↓zk_get, ↓zk_set, Option.bind_some]
      rw [hv, if_neg (by omega)]
    | succ m =>
      have hst := pI_st I (c := i) (by omega) (by omega)
      have hiff := pI_lt_iff I (c := i) (k := k) (by omega) (by omega) hk hk2
      by_cases e : i ≤ g k
      · have := hiff.mpr e
        simp (disch := omega) only [↓zk_lt, ↓zk_nl, ↓zk_eq, ↓zk_ne, ↓zk_ix, ↓zk_dv, ↓zk_bo, ↓zk_rg, ↓zk_get, ↓zk_set, Option.bind_some]
        exact ih m _ _ (by omega) (by omega) (by split <;> omega) (by omega)
      · have : k < st i := by omega
        simp (disch := omega) only [↓zk_lt, ↓zk_nl, ↓zk_eq, ↓zk_ne, ↓zk_ix, ↓zk_dv, ↓zk_bo, ↓zk_rg, ↓zk_get, ↓zk_set, Option.bind_some]
        exact ih m _ _ (by omega) (by omega) (by rw [hv, if_neg e, if_neg (by omega)]) (by omega)
theorem sp_ca (I : pI cl sz tn st dp tp va nb g) {k : Int} (hk : 0 ≤ k) (hk2 : k < sz) : fn_Cords_clusterAt cl st k = some (g k) := by
  have hF := jk_F_big
  have hcl := I.1.1
  obtain ⟨⟨a1, a2, a3, a4⟩, -⟩ := I.2.2 k hk hk2
  unfold fn_Cords_clusterAt
  exact sp_ca_b I hk hk2 jk_F (cl - 1).toNat 0 1 (by omega) (by omega) (by split <;> omega) (by omega)
theorem sm_first_b (I : pI cl sz tn st dp tp va nb g) (M : pM cl sz dp tp va nb g w) {c : Int} (h0 : 0 ≤ c) (h1 : c ≤ cl) : ∀ (n m : Nat) (i : Int), i + m = st c → 0 ≤ i → m < n → fn_Md_first_b2 n w c i = some (st c) := by
  have hcl := I.1.1
  have hsz := I.1.2.1
  have hst := pI_st I h0 h1
  have hw2 := M.2.1
  intro n
  induction n with
  | zero => intro m i _ _ h; omega
  | succ n ih =>
    intro m i hi h2 hm
    rw [fn_Md_first_b2]
    cases m with
    | zero =>
      by_cases e : st c < sz
      · obtain ⟨⟨a1, a2, a3, a4⟩, -⟩ := I.2.2 i (by omega) (by omega)
        have hiff := (pI_lt_iff I (c := c) (k := i) h0 h1 (by omega) (by omega)).mp (by omega)
        simp (disch := omega) only [↓zk_lt, ↓zk_nl, ↓zk_eq, ↓zk_ne, ↓zk_ix, ↓zk_dv, ↓zk_bo, ↓zk_rg, ↓zk_get, ↓zk_set, Option.bind_some]
        rw [zk_bd (M0 I M (k := i) (by omega) (by omega))]
        simp (disch := omega) only [↓zk_lt, ↓zk_nl, ↓zk_eq, ↓zk_ne, ↓zk_ix, ↓zk_dv, ↓zk_bo, ↓zk_rg, ↓zk_get, ↓zk_set, Option.bind_some]
        congr 1
        omega
      · simp (disch := omega) only [↓zk_lt, ↓zk_nl, ↓zk_eq, ↓zk_ne, ↓zk_ix, ↓zk_dv, ↓zk_bo, ↓zk_rg, ↓zk_get, ↓zk_set, Option.bind_some]
        congr 1
        omega
    | succ m =>
      obtain ⟨⟨a1, a2, a3, a4⟩, -⟩ := I.2.2 i (by omega) (by omega)
      have hiff := pI_lt_iff I (c := c) (k := i) h0 h1 (by omega) (by omega)
      have : g i < c := by
        by_cases z : g i < c
        · exact z
        · have := hiff.mpr (by omega); omega
      simp (disch := omega) only [↓zk_lt, ↓zk_nl, ↓zk_eq, ↓zk_ne, ↓zk_ix, ↓zk_dv, ↓zk_bo, ↓zk_rg, ↓zk_get, ↓zk_set, Option.bind_some]
      rw [zk_bd (M0 I M (k := i) (by omega) (by omega))]
      simp (disch := omega) only [↓zk_lt, ↓zk_nl, ↓zk_eq, ↓zk_ne, ↓zk_ix, ↓zk_dv, ↓zk_bo, ↓zk_rg, ↓zk_get, ↓zk_set, Option.bind_some]
      exact ih m _ (by omega) (by omega) (by omega)
theorem sm_first (I : pI cl sz tn st dp tp va nb g) (M : pM cl sz dp tp va nb g w) {c : Int} (h0 : 0 ≤ c) (h1 : c ≤ cl) : fn_Md_first w c = some (st c) := by
  have hF := jk_F_big
  have hst := pI_st I h0 h1
  have hsz := I.1.2.1
  unfold fn_Md_first
  exact sm_first_b I M h0 h1 jk_F (st c).toNat 0 (by omega) (by omega) (by omega)
theorem sm_end (I : pI cl sz tn st dp tp va nb g) (M : pM cl sz dp tp va nb g w) {c : Int} (h0 : 0 ≤ c) (h1 : c < cl) : fn_Md_end w c = some (st (c + 1)) := by
  unfold fn_Md_end
  rw [zk_bd (sm_first I M (c := c + 1) (by omega) (by omega))]
/-- 1 where a cluster has a top cord -/
def ht (st dp : Int → Int) (c : Int) : Int := if st c < st (c + 1) ∧ dp (st c) = 0 then 1 else 0
theorem ht_r (c : Int) : ht st dp c = 0 ∨ ht st dp c = 1 := by unfold ht; split <;> simp
theorem ht_le (I : pI cl sz tn st dp tp va nb g) {c : Int} (h0 : 0 ≤ c) (h1 : c < cl) : st c + ht st dp c ≤ st (c + 1) := by
  have := I.2.1.2.2 c h0 h1
  unfold ht
  split <;> omega
theorem sp_ps (I : pI cl sz tn st dp tp va nb g) {c : Int} (h0 : 0 ≤ c) (h1 : c < cl) : fn_Cords_pendantStart st dp c = some (st c + ht st dp c) := by
  have hcl := I.1.1
  have hsz := I.1.2.1
  have s1 := pI_st I (c := c) h0 (by omega)
  have s2 := pI_st I (c := c + 1) (by omega) (by omega)
  unfold fn_Cords_pendantStart ht
  simp (disch := omega) only [↓zk_lt, ↓zk_nl, ↓zk_eq, ↓zk_ne, ↓zk_ix, ↓zk_dv, ↓zk_bo, ↓zk_rg, ↓zk_get, ↓zk_set, Option.bind_some]
  by_cases e : st c < st (c + 1)
  · have hd := (I.2.2 (st c) (by omega) (by omega)).2.1
    simp (disch := omega) only [↓zk_lt, ↓zk_nl, ↓zk_eq, ↓zk_ne, ↓zk_ix, ↓zk_dv, ↓zk_bo, ↓zk_rg, ↓zk_get, ↓zk_set, Option.bind_some]
    by_cases e2 : dp (st c) = 0
    · simp (disch := omega) only [↓zk_lt, ↓zk_nl, ↓zk_eq, ↓zk_ne, ↓zk_ix, ↓zk_dv, ↓zk_bo, ↓zk_rg, ↓zk_get, ↓zk_set, Option.bind_some]
      rw [if_pos ⟨e, e2⟩]
    · simp (disch := omega) only [↓zk_lt, ↓zk_nl, ↓zk_eq, ↓zk_ne, ↓zk_ix, ↓zk_dv, ↓zk_bo, ↓zk_rg, ↓zk_get, ↓zk_set, Option.bind_some]
      rw [if_neg (by omega)]
      simp
  · simp (disch := omega) only [↓zk_lt, ↓zk_nl, ↓zk_eq, ↓zk_ne, ↓zk_ix, ↓zk_dv, ↓zk_bo, ↓zk_rg, ↓zk_get, ↓zk_set, Option.bind_some]
    rw [if_neg (by omega)]
    simp
theorem sp_ht (I : pI cl sz tn st dp tp va nb g) {c : Int} (h0 : 0 ≤ c) (h1 : c < cl) : fn_Cords_hasTop st dp c = some (ht st dp c) := by
  have hcl := I.1.1
  have hsz := I.1.2.1
  have s1 := pI_st I (c := c) h0 (by omega)
  have s2 := pI_st I (c := c + 1) (by omega) (by omega)
  unfold fn_Cords_hasTop
  rw [zk_bd (sp_ps I h0 h1)]
  rcases ht_r (st := st) (dp := dp) c with h | h <;> rw [h] <;> simp (disch := omega) only [↓zk_lt, ↓zk_nl, ↓zk_eq, ↓zk_ne, ↓zk_ix, ↓zk_dv, ↓zk_bo, ↓zk_rg, ↓zk_get, ↓zk_set, Option.bind_some]
theorem sm_ht (I : pI cl sz tn st dp tp va nb g) (M : pM cl sz dp tp va nb g w) {c : Int} (h0 : 0 ≤ c) (h1 : c < cl) : fn_Md_hasTop w c = some (ht st dp c) := by
  have hcl := I.1.1
  have hsz := I.1.2.1
  have s1 := pI_st I (c := c) h0 (by omega)
  have s2 := pI_st I (c := c + 1) (by omega) (by omega)
  unfold fn_Md_hasTop ht
  rw [zk_bd (sm_first I M h0 (by omega)), zk_bd (sm_end I M h0 h1)]
  by_cases e : st c < st (c + 1)
  · have hd := (I.2.2 (st c) (by omega) (by omega)).2.1
    simp (disch := omega) only [↓zk_lt, ↓zk_nl, ↓zk_eq, ↓zk_ne, ↓zk_ix, ↓zk_dv, ↓zk_bo, ↓zk_rg, ↓zk_get, ↓zk_set, Option.bind_some]
    rw [zk_bd (M1 I M (k := st c) (by omega) (by omega))]
    by_cases e2 : dp (st c) = 0
    · simp (disch := omega) only [↓zk_lt, ↓zk_nl, ↓zk_eq, ↓zk_ne, ↓zk_ix, ↓zk_dv, ↓zk_bo, ↓zk_rg, ↓zk_get, ↓zk_set, Option.bind_some]
      rw [if_pos ⟨e, e2⟩]
    · simp (disch := omega) only [↓zk_lt, ↓zk_nl, ↓zk_eq, ↓zk_ne, ↓zk_ix, ↓zk_dv, ↓zk_bo, ↓zk_rg, ↓zk_get, ↓zk_set, Option.bind_some]
      rw [if_neg (by omega)]
  · simp (disch := omega) only [↓zk_lt, ↓zk_nl, ↓zk_eq, ↓zk_ne, ↓zk_ix, ↓zk_dv, ↓zk_bo, ↓zk_rg, ↓zk_get, ↓zk_set, Option.bind_some]
    rw [if_neg (by omega)]
theorem sm_one0 : fn_Md_one 0 = some 0 := by decide +kernel
theorem sm_one1 : fn_Md_one 1 = some 1 := by decide +kernel
theorem sm_pf (I : pI cl sz tn st dp tp va nb g) (M : pM cl sz dp tp va nb g w) {c : Int} (h0 : 0 ≤ c) (h1 : c < cl) : fn_Md_pendantsFrom w c = some (st c + ht st dp c) := by
  unfold fn_Md_pendantsFrom
  rw [zk_bd (sm_first I M h0 (by omega)), zk_bd (sm_ht I M h0 h1)]
  rcases ht_r (st := st) (dp := dp) c with h | h <;> rw [h]
  · rw [zk_bd sm_one0]
  · rw [zk_bd sm_one1]
theorem sp_sum (I : pI cl sz tn st dp tp va nb g) {c : Int} (h0 : 0 ≤ c) (h1 : c < cl) : fn_Cords_sum st dp va c = some (pSm va (st c + ht st dp c) (st (c + 1) - (st c + ht st dp c)).toNat) := by
  have hsz := I.1.2.1
  have s1 := pI_st I (c := c) h0 (by omega)
  have s2 := pI_st I (c := c + 1) (by omega) (by omega)
  have hl := ht_le I h0 h1
  have hr := ht_r (st := st) (dp := dp) c
  unfold fn_Cords_sum
  rw [zk_bd (sp_ps I h0 h1), zk_bd (sp_end I h0 h1), zk_bd (sp_low (by omega) (by omega) (by omega) (fun j h2 h3 => (I.2.2 j (by omega) (by omega)).2.2.2.1))]
theorem sm_ks_b (I : pI cl sz tn st dp tp va nb g) (M : pM cl sz dp tp va nb g w) {c : Int} (h0 : 0 ≤ c) (h1 : c < cl) : ∀ (n k : Nat) (s i : Int), i + k = st (c + 1) → 0 ≤ i → 0 ≤ s → s ≤ 1000000 - 20000 * (k : Int) → k < n → fn_Md_knownSum_b8 n w c s i = some (s + pSm va i k) := by
  have hsz := I.1.2.1
  have s2 := pI_st I (c := c + 1) (by omega) (by omega)
  intro n
  induction n with
  | zero => intro k s i _ _ _ _ h; omega
  | succ n ih =>
    intro k s i hi h2 hs hs2 hk
    rw [fn_Md_knownSum_b8, zk_bd (sm_end I M h0 h1)]
    cases k with
    | zero =>
      simp (disch := omega) only [↓zk_lt, ↓zk_nl, ↓zk_eq, ↓zk_ne, ↓zk_ix, ↓zk_dv, ↓zk_bo, ↓zk_rg, ↓zk_get, ↓zk_set, Option.bind_some]
      simp [pSm]
    | succ k =>
      have hv := (I.2.2 i (by omega) (by omega)).2.2.2.1
      simp (disch := omega) only [↓zk_lt, ↓zk_nl, ↓zk_eq, ↓zk_ne, ↓zk_ix, ↓zk_dv, ↓zk_bo, ↓zk_rg, ↓zk_get, ↓zk_set, Option.bind_some]
      rw [zk_bd (M3 I M (k := i) (by omega) (by omega)), ih k _ _ (by omega) (by omega) (by omega) (by omega) (by omega)]
      simp only [pSm]
      congr 1
      omega
theorem sm_ks (I : pI cl sz tn st dp tp va nb g) (M : pM cl sz dp tp va nb g w) {c : Int} (h0 : 0 ≤ c) (h1 : c < cl) : fn_Md_knownSum w c = some (pSm va (st c + ht st dp c) (st (c + 1) - (st c + ht st dp c)).toNat) := by
  have hF := jk_F_big
  have hsz := I.1.2.1
  have s1 := pI_st I (c := c) h0 (by omega)
  have s2 := pI_st I (c := c + 1) (by omega) (by omega)
  have hl := ht_le I h0 h1
  have hr := ht_r (st := st) (dp := dp) c
  unfold fn_Md_knownSum
  rw [zk_bd (sm_pf I M h0 h1), sm_ks_b I M h0 h1 jk_F (st (c + 1) - (st c + ht st dp c)).toNat 0 _ (by omega) (by omega) (by omega) (by omega) (by omega)]
  simp
theorem sm_isn (I : pI cl sz tn st dp tp va nb g) (M : pM cl sz dp tp va nb g w) {k : Int} (h0 : 0 ≤ k) (h1 : k < sz) : fn_Md_isNibbled w k = some (if 0 < nb k then 1 else 0) := by
  have hv := (I.2.2 k (by omega) (by omega)).2.2.2.2.1
  unfold fn_Md_isNibbled
  rw [zk_bd (M4 I M h0 h1)]
  by_cases e : 0 < nb k
  · simp (disch := omega) only [↓zk_lt, ↓zk_nl, ↓zk_eq, ↓zk_ne, ↓zk_ix, ↓zk_dv, ↓zk_bo, ↓zk_rg, ↓zk_get, ↓zk_set, Option.bind_some]; rw [if_pos e]
  · simp (disch := omega) only [↓zk_lt, ↓zk_nl, ↓zk_eq, ↓zk_ne, ↓zk_ix, ↓zk_dv, ↓zk_bo, ↓zk_rg, ↓zk_get, ↓zk_set, Option.bind_some]; rw [if_neg e]
theorem sm_ni_b (I : pI cl sz tn st dp tp va nb g) (M : pM cl sz dp tp va nb g w) {c : Int} (h0 : 0 ≤ c) (h1 : c < cl) : ∀ (n k : Nat) (s i : Int), i + k = st (c + 1) → 0 ≤ i → 0 ≤ s → s ≤ 1000 - (k : Int) → k < n → fn_Md_nibbledIn_b8 n w c s i = some (s + pCt (fun j => decide (0 < nb j)) i k) := by
  have hsz := I.1.2.1
  have s2 := pI_st I (c := c + 1) (by omega) (by omega)
  intro n
  induction n with
  | zero => intro k s i _ _ _ _ h; omega
  | succ n ih =>
    intro k s i hi h2 hs hs2 hk
    rw [fn_Md_nibbledIn_b8, zk_bd (sm_end I M h0 h1)]
    cases k with
    | zero =>
      simp (disch := omega) only [↓zk_lt, ↓zk_nl, ↓zk_eq, ↓zk_ne, ↓zk_ix, ↓zk_dv, ↓zk_bo, ↓zk_rg, ↓zk_get, ↓zk_set, Option.bind_some]
      simp [pCt]
    | succ k =>
      simp (disch := omega) only [↓zk_lt, ↓zk_nl, ↓zk_eq, ↓zk_ne, ↓zk_ix, ↓zk_dv, ↓zk_bo, ↓zk_rg, ↓zk_get, ↓zk_set, Option.bind_some]
      rw [zk_bd (sm_isn I M (k := i) (by omega) (by omega))]
      simp only [pCt]
      by_cases e : 0 < nb i
      · rw [if_pos e, zk_bd sm_one1, ih k _ _ (by omega) (by omega) (by omega) (by omega) (by omega)]
        simp only [e, decide_true, if_true]
        congr 1
        omega
      · rw [if_neg e, zk_bd sm_one0, ih k _ _ (by omega) (by omega) (by omega) (by omega) (by omega)]
        simp [e]
theorem sm_ni (I : pI cl sz tn st dp tp va nb g) (M : pM cl sz dp tp va nb g w) {c : Int} (h0 : 0 ≤ c) (h1 : c < cl) : fn_Md_nibbledIn w c = some (pCt (fun j => decide (0 < nb j)) (st c) (st (c + 1) - st c).toNat) := by
  have hF := jk_F_big
  have hsz := I.1.2.1
  have s1 := pI_st I (c := c) h0 (by omega)
  have s2 := pI_st I (c := c + 1) (by omega) (by omega)
  have hm := I.2.1.2.2 c h0 h1
  unfold fn_Md_nibbledIn
  rw [zk_bd (sm_first I M h0 (by omega)), sm_ni_b I M h0 h1 jk_F (st (c + 1) - st c).toNat 0 _ (by omega) (by omega) (by omega) (by omega) (by omega)]
  simp
theorem sp_on (I : pI cl sz tn st dp tp va nb g) {c : Int} (h0 : 0 ≤ c) (h1 : c < cl) : fn_Cords_onlyNibbled st nb c = some (pOn nb (st c) (st (c + 1) - st c).toNat) := by
  have hF := jk_F_big
  have hcl := I.1.1
  have hsz := I.1.2.1
  have s1 := pI_st I (c := c) h0 (by omega)
  have s2 := pI_st I (c := c + 1) (by omega) (by omega)
  have hm := I.2.1.2.2 c h0 h1
  unfold fn_Cords_onlyNibbled
  simp (disch := omega) only [↓zk_lt, ↓zk_nl, ↓zk_eq, ↓zk_ne, ↓zk_ix, ↓zk_dv, ↓zk_bo, ↓zk_rg, ↓zk_get, ↓zk_set, Option.bind_some]
  rw [sp_on_b (b := st (c + 1)) (by omega) jk_F (st (c + 1) - st c).toNat (-1) (st c) (by omega) (by omega) (fun j h2 h3 => (I.2.2 j (by omega) (by omega)).2.2.2.2.1) (by omega) (by omega)]
  rw [if_pos rfl]
theorem sm_on_b (I : pI cl sz tn st dp tp va nb g) (M : pM cl sz dp tp va nb g w) : ∀ (n k : Nat) (i : Int), i + k ≤ sz → 0 ≤ i → 0 < pCt (fun j => decide (0 < nb j)) i k → k < n → fn_Md_onlyNibbled_b17 n w i = some (pFi (fun j => decide (0 < nb j)) i k) := by
  have hsz := I.1.2.1
  intro n
  induction n with
  | zero => intro k i _ _ _ h; omega
  | succ n ih =>
    intro k i hi h0 hc hk
    cases k with
    | zero => simp [pCt] at hc
    | succ k =>
      simp only [pCt] at hc
      rw [fn_Md_onlyNibbled_b17, zk_bd (sm_isn I M (k := i) (by omega) (by omega))]
      simp only [pFi]
      by_cases e : 0 < nb i
      · rw [if_pos e]
        simp (disch := omega) only [↓zk_lt, ↓zk_nl, ↓zk_eq, ↓zk_ne, ↓zk_ix, ↓zk_dv, ↓zk_bo, ↓zk_rg, ↓zk_get, ↓zk_set, Option.bind_some]
        simp [e]
      · rw [if_neg e]
        simp (disch := omega) only [↓zk_lt, ↓zk_nl, ↓zk_eq, ↓zk_ne, ↓zk_ix, ↓zk_dv, ↓zk_bo, ↓zk_rg, ↓zk_get, ↓zk_set, Option.bind_some]
        simp only [e, decide_false, if_false] at hc ⊢
        rw [ih k _ (by omega) (by omega) (by simpa using hc) (by omega)]
        simp
theorem sm_on (I : pI cl sz tn st dp tp va nb g) (M : pM cl sz dp tp va nb g w) {c : Int} (h0 : 0 ≤ c) (h1 : c < cl) : fn_Md_onlyNibbled w c = some (pOn nb (st c) (st (c + 1) - st c).toNat) := by
  have hF := jk_F_big
  have hsz := I.1.2.1
  have s1 := pI_st I (c := c) h0 (by omega)
  have s2 := pI_st I (c := c + 1) (by omega) (by omega)
  have hm := I.2.1.2.2 c h0 h1
  have hr := pCt_r (p := fun j => decide (0 < nb j)) (st (c + 1) - st c).toNat (st c)
  unfold fn_Md_onlyNibbled pOn
  rw [zk_bd (sm_ni I M h0 h1)]
  by_cases e : pCt (fun j => decide (0 < nb j)) (st c) (st (c + 1) - st c).toNat = 1
  · simp (disch := omega) only [↓zk_lt, ↓zk_nl, ↓zk_eq, ↓zk_ne, ↓zk_ix, ↓zk_dv, ↓zk_bo, ↓zk_rg, ↓zk_get, ↓zk_set, Option.bind_some]
    rw [zk_bd (sm_first I M h0 (by omega)), sm_on_b I M jk_F (st (c + 1) - st c).toNat (st c) (by omega) (by omega) (by omega) (by omega), if_pos e]
  · simp (disch := omega) only [↓zk_lt, ↓zk_nl, ↓zk_eq, ↓zk_ne, ↓zk_ix, ↓zk_dv, ↓zk_bo, ↓zk_rg, ↓zk_get, ↓zk_set, Option.bind_some]
    rw [if_neg e]
end P3
