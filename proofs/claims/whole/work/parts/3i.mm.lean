section P9
variable {cl sz tn : Int} {st dp tp va nb g w : Int → Int}
theorem sm_puts {k x v : Int} (h0 : 0 ≤ k) (h1 : k < 40) (h2 : 0 ≤ x) (h3 : x ≤ 4) : fn_Md_puts w k x v = some (jk_up w (59 + 5 * k + x) v) := by
  unfold fn_Md_puts
  (try simp (disch := omega) only [↓zk_lt, ↓zk_nl, ↓zk_eq, ↓zk_ne, ↓zk_ix, ↓zk_dv, ↓zk_bo, ↓zk_rg, ↓zk_get, ↓zk_set, Option.bind_some])
/-- the array with a gap for a cord -/
def wsh (w : Int → Int) (a sz : Int) : Int → Int := fun i => if 59 + 5 * (a + 1) ≤ i ∧ i < 59 + 5 * (sz + 1) then w (i - 5) else w i
def wins (w : Int → Int) (a c d t v sz : Int) : Int → Int := jk_up (jk_up (jk_up (jk_up (jk_up (jk_up (wsh w a sz) (59 + 5 * a + 0) c) (59 + 5 * a + 1) d) (59 + 5 * a + 2) t) (59 + 5 * a + 3) v) (59 + 5 * a + 4) 0) 2 (sz + 1)
theorem sm_ins_b {a c d t v : Int} (hs0 : 0 ≤ sz) (hs : sz < 40) (ha : 0 ≤ a) (ha2 : a ≤ sz) (hw2 : w 2 = sz) : ∀ (n k : Nat) (u : Int → Int) (i : Int), i + 1 = 59 + 5 * (a + 1) + k → i < 59 + 5 * (sz + 1) → (∀ j, u j = if i < j ∧ j < 59 + 5 * (sz + 1) then w (j - 5) else w j) → k < n → fn_Md_inserts_b17 n u a c d t v i = some (a, wins w a c d t v sz) := by
  intro n
  induction n with
  | zero => intro k u i _ _ _ h; omega
  | succ n ih =>
    intro k u i hi h1 hu hk
    rw [fn_Md_inserts_b17]
    cases k with
    | zero =>
      have e : u = wsh w a sz := by
        funext j
        rw [hu j]
        unfold wsh
        by_cases x : i < j ∧ j < 59 + 5 * (sz + 1)
        · rw [if_pos x, if_pos (by omega)]
        · rw [if_neg x, if_neg (by omega)]
      have e2 : wsh w a sz 2 = sz := by unfold wsh; rw [if_neg (by omega), hw2]
      rw [e]
      (try simp (disch := omega) only [↓zk_lt, ↓zk_nl, ↓zk_eq, ↓zk_ne, ↓zk_ix, ↓zk_dv, ↓zk_bo, ↓zk_rg, ↓zk_get, ↓zk_set, Option.bind_some])
      rw [zk_bd (sm_puts ha (by omega) (by omega) (by omega)), zk_bd (sm_puts ha (by omega) (by omega) (by omega)), zk_bd (sm_puts ha (by omega) (by omega) (by omega)), zk_bd (sm_puts ha (by omega) (by omega) (by omega)), zk_bd (sm_puts ha (by omega) (by omega) (by omega))]
      (try simp (disch := omega) only [↓zk_lt, ↓zk_nl, ↓zk_eq, ↓zk_ne, ↓zk_ix, ↓zk_dv, ↓zk_bo, ↓zk_rg, ↓zk_get, ↓zk_set, Option.bind_some])
      unfold wins
      simp (disch := omega) only [up_ne, e2]
    | succ k =>
      (try simp (disch := omega) only [↓zk_lt, ↓zk_nl, ↓zk_eq, ↓zk_ne, ↓zk_ix, ↓zk_dv, ↓zk_bo, ↓zk_rg, ↓zk_get, ↓zk_set, Option.bind_some])
      refine ih k _ _ (by omega) (by omega) (fun j => ?_) (by omega)
      unfold jk_up
      by_cases e : j = i
      · rw [if_pos e, if_pos (by omega), hu (i - 5), if_neg (by omega), e]
      · rw [if_neg e, hu j]
        by_cases e2 : i < j ∧ j < 59 + 5 * (sz + 1)
        · rw [if_pos e2, if_pos (by omega)]
        · rw [if_neg e2, if_neg (by omega)]
theorem sm_ins {a c d t v : Int} (hs0 : 0 ≤ sz) (hs : sz < 40) (ha : 0 ≤ a) (ha2 : a ≤ sz) (hw2 : w 2 = sz) : fn_Md_inserts w a c d t v = some (a, wins w a c d t v sz) := by
  have hF := jk_F_big
  unfold fn_Md_inserts
  (try simp (disch := omega) only [↓zk_lt, ↓zk_nl, ↓zk_eq, ↓zk_ne, ↓zk_ix, ↓zk_dv, ↓zk_bo, ↓zk_rg, ↓zk_get, ↓zk_set, Option.bind_some])
  exact sm_ins_b hs0 hs ha ha2 hw2 jk_F (5 * (sz - a)).toNat w _ (by omega) (by omega) (fun j => by rw [if_neg (by omega)]) (by omega)
theorem pM_ins (M : pM cl sz dp tp va nb g w) (hs0 : 0 ≤ sz) {a c d t v : Int} (ha : 0 ≤ a) (ha2 : a ≤ sz) : pM cl (sz + 1) (ins dp a d sz) (ins tp a t sz) (ins va a v sz) (ins nb a 0 sz) (ins g a c sz) (wins w a c d t v sz) ∧ pU w (wins w a c d t v sz) := by
  have lo : ∀ i, i < 59 → ¬ i = 2 → wins w a c d t v sz i = w i := fun i h1 h2 => by
    unfold wins
    simp (disch := omega) only [up_ne]
    unfold wsh
    rw [if_neg (by omega)]
  refine ⟨⟨?_, ?_, fun k h0 h1 => ?_⟩, lo 0 (by omega) (by omega), fun i h0 h1 => lo i h1 (by omega)⟩
  · rw [lo 1 (by omega) (by omega), M.1]
  · unfold wins; rw [up_eq rfl]
  · by_cases x : k < a
    · have e1 : ∀ f : Int → Int, ∀ u, ins f a u sz k = f k := fun f u => by unfold ins; rw [if_pos x]
      have e2 : ∀ y, 0 ≤ y → y ≤ 4 → wins w a c d t v sz (59 + 5 * k + y) = w (59 + 5 * k + y) := fun y h2 h3 => by
        unfold wins
        simp (disch := omega) only [up_ne]
        unfold wsh
        rw [if_neg (by omega)]
      rw [e1, e1, e1, e1, e1, e2 0 (by omega) (by omega), e2 1 (by omega) (by omega), e2 2 (by omega) (by omega), e2 3 (by omega) (by omega), e2 4 (by omega) (by omega)]
      exact M.2.2 k h0 (by omega)
    · by_cases y : k = a
      · subst y
        have e1 : ∀ f : Int → Int, ∀ u, ins f k u sz k = u := fun f u => by unfold ins; rw [if_neg (by omega), if_pos rfl]
        rw [e1, e1, e1, e1, e1]
        unfold wins
        refine ⟨?_, ?_, ?_, ?_, ?_⟩ <;> simp (disch := omega) only [up_ne, up_eq]
      · have e1 : ∀ f : Int → Int, ∀ u, ins f a u sz k = f (k - 1) := fun f u => by unfold ins; rw [if_neg x, if_neg y, if_pos (by omega)]
        have e2 : ∀ y, 0 ≤ y → y ≤ 4 → wins w a c d t v sz (59 + 5 * k + y) = w (59 + 5 * (k - 1) + y) := fun y h2 h3 => by
          unfold wins
          simp (disch := omega) only [up_ne]
          unfold wsh
          rw [if_pos (by omega)]
          congr 1
          omega
        rw [e1, e1, e1, e1, e1, e2 0 (by omega) (by omega), e2 1 (by omega) (by omega), e2 2 (by omega) (by omega), e2 3 (by omega) (by omega), e2 4 (by omega) (by omega)]
        exact M.2.2 (k - 1) (by omega) (by omega)
def wrem (w : Int → Int) (a b sz : Int) : Int → Int := fun i => if 59 + 5 * a ≤ i ∧ i < 59 + 5 * (sz - (b - a)) then w (i + 5 * (b - a)) else if i = 2 then sz - (b - a) else w i
theorem sm_rem_b {a b : Int} (hs : sz ≤ 40) (ha : 0 ≤ a) (hab : a < b) (hb : b ≤ sz) : ∀ (n k : Nat) (u : Int → Int) (i : Int), i + k = 59 + 5 * (sz - (b - a)) → 59 + 5 * a ≤ i → (∀ j, u j = if 59 + 5 * a ≤ j ∧ j < i then w (j + 5 * (b - a)) else if j = 2 then sz - (b - a) else w j) → k < n → fn_Md_removes_b17 n u (b - a) i = some (b - a, wrem w a b sz) := by
  intro n
  induction n with
  | zero => intro k u i _ _ _ h; omega
  | succ n ih =>
    intro k u i hi h1 hu hk
    have e2 : u 2 = sz - (b - a) := by rw [hu 2, if_neg (by omega), if_pos rfl]
    rw [fn_Md_removes_b17]
    cases k with
    | zero =>
      (try simp (disch := omega) only [↓zk_lt, ↓zk_nl, ↓zk_eq, ↓zk_ne, ↓zk_ix, ↓zk_dv, ↓zk_bo, ↓zk_rg, ↓zk_get, ↓zk_set, Option.bind_some])
      congr 2
      funext j
      rw [hu j]
      unfold wrem
      by_cases x : 59 + 5 * a ≤ j ∧ j < i
      · rw [if_pos x, if_pos (by omega)]
      · rw [if_neg x, if_neg (show ¬ (59 + 5 * a ≤ j ∧ j < 59 + 5 * (sz - (b - a))) by omega)]
    | succ k =>
      (try simp (disch := omega) only [↓zk_lt, ↓zk_nl, ↓zk_eq, ↓zk_ne, ↓zk_ix, ↓zk_dv, ↓zk_bo, ↓zk_rg, ↓zk_get, ↓zk_set, Option.bind_some])
      refine ih k _ _ (by omega) (by omega) (fun j => ?_) (by omega)
      unfold jk_up
      by_cases e : j = i
      · rw [if_pos e, if_pos (by omega), hu (i + 5 * (b - a)), if_neg (by omega), if_neg (by omega), e]
      · rw [if_neg e, hu j]
        by_cases e3 : 59 + 5 * a ≤ j ∧ j < i
        · rw [if_pos e3, if_pos (by omega)]
        · rw [if_neg e3, if_neg (show ¬ (59 + 5 * a ≤ j ∧ j < i + 1) by omega)]
theorem sm_rem {a b : Int} (hs : sz ≤ 40) (ha : 0 ≤ a) (hab : a < b) (hb : b ≤ sz) (hw2 : w 2 = sz) : fn_Md_removes w a (b - a) = some (b - a, wrem w a b sz) := by
  have hF := jk_F_big
  unfold fn_Md_removes
  (try simp (disch := omega) only [↓zk_lt, ↓zk_nl, ↓zk_eq, ↓zk_ne, ↓zk_ix, ↓zk_dv, ↓zk_bo, ↓zk_rg, ↓zk_get, ↓zk_set, Option.bind_some])
  refine sm_rem_b hs ha hab hb jk_F (5 * (sz - b)).toNat _ _ (by omega) (by omega) (fun j => ?_) (by omega)
  rw [if_neg (by omega)]
  unfold jk_up
  by_cases e : j = 2
  · rw [if_pos e, if_pos e, hw2]
  · rw [if_neg e, if_neg e]
theorem pM_rem (M : pM cl sz dp tp va nb g w) {a b : Int} (ha : 0 ≤ a) (hab : a < b) (hb : b ≤ sz) : pM cl (sz - (b - a)) (rem dp a b sz) (rem tp a b sz) (rem va a b sz) (rem nb a b sz) (rem g a b sz) (wrem w a b sz) ∧ pU w (wrem w a b sz) := by
  have lo : ∀ i, i < 59 → ¬ i = 2 → wrem w a b sz i = w i := fun i h1 h2 => by
    unfold wrem
    rw [if_neg (by omega), if_neg h2]
  refine ⟨⟨?_, ?_, fun k h0 h1 => ?_⟩, lo 0 (by omega) (by omega), fun i h0 h1 => lo i h1 (by omega)⟩
  · rw [lo 1 (by omega) (by omega), M.1]
  · unfold wrem; rw [if_neg (by omega), if_pos rfl]
  · by_cases x : k < a
    · have e1 : ∀ f : Int → Int, rem f a b sz k = f k := fun f => by unfold rem; rw [if_neg (by omega)]
      have e2 : ∀ y, 0 ≤ y → y ≤ 4 → wrem w a b sz (59 + 5 * k + y) = w (59 + 5 * k + y) := fun y h2 h3 => by
        unfold wrem
        rw [if_neg (by omega), if_neg (by omega)]
      rw [e1, e1, e1, e1, e1, e2 0 (by omega) (by omega), e2 1 (by omega) (by omega), e2 2 (by omega) (by omega), e2 3 (by omega) (by omega), e2 4 (by omega) (by omega)]
      exact M.2.2 k h0 (by omega)
    · have e1 : ∀ f : Int → Int, rem f a b sz k = f (k + (b - a)) := fun f => by unfold rem; rw [if_pos (by omega)]
      have e2 : ∀ y, 0 ≤ y → y ≤ 4 → wrem w a b sz (59 + 5 * k + y) = w (59 + 5 * (k + (b - a)) + y) := fun y h2 h3 => by
        unfold wrem
        rw [if_pos (by omega)]
        congr 1
        omega
      rw [e1, e1, e1, e1, e1, e2 0 (by omega) (by omega), e2 1 (by omega) (by omega), e2 2 (by omega) (by omega), e2 3 (by omega) (by omega), e2 4 (by omega) (by omega)]
      exact M.2.2 (k + (b - a)) (by omega) (by omega)
/-- one number of one cord anew -/
theorem pM_up (M : pM cl sz dp tp va nb g w) {k y v : Int} (h0 : 0 ≤ k) (h2 : 0 ≤ y) (h3 : y ≤ 4) {dp' tp' va' nb' : Int → Int} (hy : ¬ y = 0)
    (e1 : dp' = if y = 1 then jk_up dp k v else dp) (e2 : tp' = if y = 2 then jk_up tp k v else tp) (e3 : va' = if y = 3 then jk_up va k v else va) (e4 : nb' = if y = 4 then jk_up nb k v else nb) : pM cl sz dp' tp' va' nb' g (jk_up w (59 + 5 * k + y) v) ∧ pU w (jk_up w (59 + 5 * k + y) v) := by
  have lo : ∀ i, i < 59 → jk_up w (59 + 5 * k + y) v i = w i := fun i h1 => up_ne (by omega)
  refine ⟨⟨?_, ?_, fun j h4 h5 => ?_⟩, lo 0 (by omega), fun i _ h1 => lo i h1⟩
  · rw [lo 1 (by omega), M.1]
  · rw [lo 2 (by omega), M.2.1]
  · obtain ⟨a0, a1, a2, a3, a4⟩ := M.2.2 j h4 h5
    subst e1; subst e2; subst e3; subst e4
    have go : ∀ (z : Int) (f : Int → Int), 0 ≤ z → z ≤ 4 → w (59 + 5 * j + z) = f j → jk_up w (59 + 5 * k + y) v (59 + 5 * j + z) = (if y = z then jk_up f k v else f) j := fun z f h6 h7 h8 => by
      by_cases u : y = z
      · rw [if_pos u]
        by_cases q : j = k
        · rw [up_eq (by omega), up_eq q]
        · rw [up_ne (by omega), up_ne q, h8]
      · rw [if_neg u, up_ne (by omega), h8]
    refine ⟨?_, go 1 dp (by omega) (by omega) a1, go 2 tp (by omega) (by omega) a2, go 3 va (by omega) (by omega) a3, go 4 nb (by omega) (by omega) a4⟩
    rw [up_ne (by omega), a0]
theorem pI_tp (I : pI cl sz tn st dp tp va nb g) {k v : Int} (hv : 0 ≤ v ∧ v < tn) : pI cl sz tn st dp (jk_up tp k v) va nb g := by
  refine ⟨I.1, I.2.1, fun j h0 h1 => ?_⟩
  obtain ⟨a1, a2, a3, a4⟩ := I.2.2 j h0 h1
  refine ⟨a1, a2, ?_, a4⟩
  by_cases e : j = k
  · rw [up_eq e]; exact hv
  · rw [up_ne e]; exact a3
theorem pI_vn (I : pI cl sz tn st dp tp va nb g) {k v b : Int} (hv : 0 ≤ v ∧ v ≤ 9999) (hb : 0 ≤ b ∧ b ≤ 4) (hd : v / pw b * pw b = v) : pI cl sz tn st dp tp (jk_up va k v) (jk_up nb k b) g := by
  refine ⟨I.1, I.2.1, fun j h0 h1 => ?_⟩
  obtain ⟨a1, a2, a3, a4, a5, a6, a7⟩ := I.2.2 j h0 h1
  by_cases e : j = k
  · rw [up_eq e, up_eq e]; exact ⟨a1, a2, a3, hv, hb, hd, a7⟩
  · rw [up_ne e, up_ne e]; exact ⟨a1, a2, a3, a4, a5, a6, a7⟩
theorem pI_v (I : pI cl sz tn st dp tp va nb g) {k v : Int} (hk : 0 ≤ k) (hk2 : k < sz) (hv : 0 ≤ v ∧ v ≤ 9999) (hd : v / pw (nb k) * pw (nb k) = v) : pI cl sz tn st dp tp (jk_up va k v) nb g := by
  have hb := (I.2.2 k hk hk2).2.2.2.2.1
  have h := pI_vn I (k := k) hv hb hd
  have e : jk_up nb k (nb k) = nb := by
    funext j
    by_cases u : j = k
    · rw [up_eq u, u]
    · rw [up_ne u]
  rw [e] at h
  exact h
theorem pI_cl (I : pI cl sz tn st dp tp va nb g) (hc : cl < 6) : pI (cl + 1) sz tn (jk_up st (cl + 1) sz) dp tp va nb g := by
  have hcl := I.1.1
  have hsz := I.1.2.1
  refine ⟨⟨by omega, I.1.2⟩, ⟨?_, up_eq rfl, fun c h0 h1 => ?_⟩, fun j h0 h1 => ?_⟩
  · rw [up_ne (by omega)]; exact I.2.1.1
  · by_cases e : c = cl
    · rw [up_ne (by omega), up_eq (by omega), e]
      have := I.2.1.2.1
      omega
    · rw [up_ne (by omega), up_ne (by omega)]
      exact I.2.1.2.2 c h0 (by omega)
  · obtain ⟨⟨a1, a2, a3, a4⟩, a5⟩ := I.2.2 j h0 h1
    rw [up_ne (by omega), up_ne (by omega)]
    exact ⟨⟨a1, by omega, a3, a4⟩, a5⟩
theorem pM_cl (M : pM cl sz dp tp va nb g w) : pM (cl + 1) sz dp tp va nb g (jk_up w 1 (cl + 1)) ∧ pU w (jk_up w 1 (cl + 1)) := by
  refine ⟨⟨up_eq rfl, ?_, fun j h0 h1 => ?_⟩, up_ne (by omega), fun i h0 h1 => up_ne (by omega)⟩
  · rw [up_ne (by omega), M.2.1]
  · rw [up_ne (by omega), up_ne (by omega), up_ne (by omega), up_ne (by omega), up_ne (by omega)]
    exact M.2.2 j h0 h1
end P9
