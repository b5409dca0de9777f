/-! topics read; what a failed text still does -/
section PT2
variable {len q : Int} {f f1 : Int → Int}
theorem x_num {c o k s e lo hi : Int} (h : 1 ≤ c ∧ c ≤ 7) : fn_Text_readNumber f1 len k s e c o lo hi = some (0, k, s, e, c, o) := by
  unfold fn_Text_readNumber
  rw [zk_bd (c_hf h)]
  (try simp (disch := omega) only [↓zk_lt, ↓zk_nl, ↓zk_eq, ↓zk_ne, ↓zk_ix, ↓zk_dv, ↓zk_bo, ↓zk_rg, ↓zk_get, ↓zk_set, Option.bind_some])
theorem x_top {c o k s e z : Int} {nm : Int → Int} (h : 1 ≤ c ∧ c ≤ 7) : fn_Text_readTopic f1 len k s e c o z nm = some (0, k, s, e, c, o) := by
  unfold fn_Text_readTopic
  rw [zk_bd (c_hf h)]
  (try simp (disch := omega) only [↓zk_lt, ↓zk_nl, ↓zk_eq, ↓zk_ne, ↓zk_ix, ↓zk_dv, ↓zk_bo, ↓zk_rg, ↓zk_get, ↓zk_set, Option.bind_some])
theorem x_new {c o k s e z : Int} {nm : Int → Int} (h : 1 ≤ c ∧ c ≤ 7) : fn_Text_readNewTopic f1 len k s e c o z nm = some (k, s, e, c, o, z, nm) := by
  unfold fn_Text_readNewTopic
  rw [zk_bd (c_hf h)]
  (try simp (disch := omega) only [↓zk_lt, ↓zk_nl, ↓zk_eq, ↓zk_ne, ↓zk_ix, ↓zk_dv, ↓zk_bo, ↓zk_rg, ↓zk_get, ↓zk_set, Option.bind_some])
theorem x_semi {c o k s e : Int} (h : 1 ≤ c ∧ c ≤ 7) : fn_Text_readSemicolon f1 len k s e c o = some (k, s, e, c, o) := by
  unfold fn_Text_readSemicolon
  rw [zk_bd (c_hf h)]
  (try simp (disch := omega) only [↓zk_lt, ↓zk_nl, ↓zk_eq, ↓zk_ne, ↓zk_ix, ↓zk_dv, ↓zk_bo, ↓zk_rg, ↓zk_get, ↓zk_set, Option.bind_some])
theorem x_tw {c k s e : Int} {l : List Int} (h : 1 ≤ c ∧ c ≤ 7) : fn_Text_takesWord f1 len k s e c l = some (0, k, s, e) := by
  unfold fn_Text_takesWord
  rw [zk_bd (c_hf h)]
  (try simp (disch := omega) only [↓zk_lt, ↓zk_nl, ↓zk_eq, ↓zk_ne, ↓zk_ix, ↓zk_dv, ↓zk_bo, ↓zk_rg, ↓zk_get, ↓zk_set, Option.bind_some])
theorem x_ns {c k s e : Int} (h : 1 ≤ c ∧ c ≤ 7) : fn_Text_nextStatement f1 len k s e c = some (0, k, s, e) := by
  unfold fn_Text_nextStatement
  rw [zk_bd (c_hf h)]
  (try simp (disch := omega) only [↓zk_lt, ↓zk_nl, ↓zk_eq, ↓zk_ne, ↓zk_ix, ↓zk_dv, ↓zk_bo, ↓zk_rg, ↓zk_get, ↓zk_set, Option.bind_some])
theorem find_any {tn v : Int} {nm w : Int → Int} (N : pN tn nm w) (ht : 0 ≤ tn ∧ tn ≤ 8) (hv : 0 ≤ v ∧ v ≤ 1073741824) : ∃ r, fn_Topics_find tn nm v = some r ∧ -1 ≤ r ∧ r ≤ 8 := by
  have hF := jk_F_big
  have e1 : ∀ (n k : Nat) (i : Int), i + k = tn → 0 ≤ i → k < n → ∃ r, fn_Topics_find_b2 n tn nm v i = some r ∧ -1 ≤ r ∧ r ≤ 8 := by
    intro n
    induction n with
    | zero => intro k i _ _ h; omega
    | succ n ih =>
      intro k i hi h0 hk
      rw [fn_Topics_find_b2]
      cases k with
      | zero =>
        refine ⟨-1, ?_, by omega, by omega⟩
        (try simp (disch := omega) only [↓zk_lt, ↓zk_nl, ↓zk_eq, ↓zk_ne, ↓zk_ix, ↓zk_dv, ↓zk_bo, ↓zk_rg, ↓zk_get, ↓zk_set, Option.bind_some])
      | succ k =>
        obtain ⟨ni, a1, a2, a3, a4⟩ := N.2 i h0 (by omega)
        have hv2 := enc_r ni _ a3
        have hp2 := p32 a1.2
        have hnr : 0 ≤ nm i ∧ nm i < 1073741825 := by rw [a4]; omega
        by_cases x : nm i = v
        · refine ⟨i, ?_, by omega, by omega⟩
          (try simp (disch := omega) only [↓zk_lt, ↓zk_nl, ↓zk_eq, ↓zk_ne, ↓zk_ix, ↓zk_dv, ↓zk_bo, ↓zk_rg, ↓zk_get, ↓zk_set, Option.bind_some])
        · obtain ⟨r, k1, k2⟩ := ih k (i + 1) (by omega) (by omega) (by omega)
          refine ⟨r, ?_, k2⟩
          (try simp (disch := omega) only [↓zk_lt, ↓zk_nl, ↓zk_eq, ↓zk_ne, ↓zk_ix, ↓zk_dv, ↓zk_bo, ↓zk_rg, ↓zk_get, ↓zk_set, Option.bind_some])
          exact k1
  unfold fn_Topics_find
  exact e1 jk_F tn.toNat 0 (by omega) (by omega) (by omega)
/-- a name's token, its number and its place among the topics -/
theorem tN_r (hq : 0 ≤ q) (hl : q ≤ len) (h : tN f len q) : ∃ m : Nat, (1 ≤ m ∧ m ≤ 6) ∧ tE f len q = tS f len q + m ∧ (tE f len q - tS f len q).toNat = m ∧ pLet f (tS f len q) m ∧ tS f len q + m ≤ len ∧ 0 ≤ tS f len q := by
  obtain ⟨a1, a2, a3⟩ := tK_2 hq hl h.1
  have hE := tE_r (f := f) hq hl
  obtain ⟨⟨h1, h2⟩, -⟩ := tS_r (f := f) hq hl
  have := h.2
  refine ⟨(tE f len q - tS f len q).toNat, by omega, by omega, rfl, fun i h3 h4 => a3 i h3 (by omega), by omega, by omega⟩
theorem topic (H : pB len f1 f) (hq : 0 ≤ q) (hl : q ≤ len) {tn nb bg vl tk k0 s0 o mo kk : Int} {nm w n : Int → Int} (P : pTk f len q nb bg vl tk) (N : pN tn nm w) (ht : 0 ≤ tn ∧ tn ≤ 8) (hk : 0 ≤ kk ∧ kk < 3) :
    (∃ r nb' bg' vl' tk', (0 ≤ r ∧ r < tn) ∧ tK f len q = 2 ∧ fn_Text_readTopic f1 len k0 s0 q 0 o tn nm = some (r, tK f len q, tS f len q, tE f len q, 0, o) ∧ fn_Md_takesTopic w f len 0 mo nb bg vl tk n kk = some (1, 0, mo, nb', bg', vl', tk', jk_up n kk r) ∧ pTk f len (tE f len q) nb' bg' vl' tk') ∨
    (∃ r c n', (1 ≤ c ∧ c ≤ 7) ∧ (-1 ≤ r ∧ r ≤ 8) ∧ fn_Text_readTopic f1 len k0 s0 q 0 o tn nm = some (r, tK f len q, tS f len q, tE f len q, c, tS f len q) ∧ fn_Md_takesTopic w f len 0 mo nb bg vl tk n kk = some (0, c, tS f len q, nb, bg, vl, tk, n')) := by
  have hF := jk_F_big
  have hb := H.1
  obtain ⟨rfl, rfl, rfl, hvl⟩ := P
  have hE := tE_r (f := f) hq hl
  obtain ⟨⟨h1, h2⟩, -⟩ := tS_r (f := f) hq hl
  have hcn := c_next H hq hl (k0 := k0) (s0 := s0)
  have hms := m_sees (f := f) hq hl (by omega) (mo := mo)
  rcases c_name H hq hl (o := o) with ⟨a, hn⟩ | ⟨a, hn⟩
  · obtain ⟨m, m1, m2, m3, m4, m5, m6⟩ := tN_r hq hl a
    obtain ⟨r, r1, r2, r3, -⟩ := find_both H N ht m6 m5 m1 m4
    have hsn := hms.1 a
    rw [m3] at hn
    by_cases b : r = -1
    · right
      refine ⟨r, 4, jk_up n kk r, by omega, by omega, ?_, ?_⟩
      · unfold fn_Text_readTopic
        rw [zk_bd c_hf0]
        (try simp (disch := omega) only [↓zk_lt, ↓zk_nl, ↓zk_eq, ↓zk_ne, ↓zk_ix, ↓zk_dv, ↓zk_bo, ↓zk_rg, ↓zk_get, ↓zk_set, Option.bind_some])
        rw [zk_bd hcn]
        (try simp (disch := omega) only [↓zk_lt, ↓zk_nl, ↓zk_eq, ↓zk_ne, ↓zk_ix, ↓zk_dv, ↓zk_bo, ↓zk_rg, ↓zk_get, ↓zk_set, Option.bind_some])
        rw [zk_bd hn]
        (try simp (disch := omega) only [↓zk_lt, ↓zk_nl, ↓zk_eq, ↓zk_ne, ↓zk_ix, ↓zk_dv, ↓zk_bo, ↓zk_rg, ↓zk_get, ↓zk_set, Option.bind_some])
        rw [zk_bd r1]
        (try simp (disch := omega) only [↓zk_lt, ↓zk_nl, ↓zk_eq, ↓zk_ne, ↓zk_ix, ↓zk_dv, ↓zk_bo, ↓zk_rg, ↓zk_get, ↓zk_set, Option.bind_some])
        rw [zk_bd c_fail0]
      · unfold fn_Md_takesTopic
        rw [zk_bd hsn]
        (try simp (disch := omega) only [↓zk_lt, ↓zk_nl, ↓zk_eq, ↓zk_ne, ↓zk_ix, ↓zk_dv, ↓zk_bo, ↓zk_rg, ↓zk_get, ↓zk_set, Option.bind_some])
        rw [m2, zk_bd r2]
        simp only [up_eq (f := n) (i := kk) (j := kk) (v := r) rfl]
        (try simp (disch := omega) only [↓zk_lt, ↓zk_nl, ↓zk_eq, ↓zk_ne, ↓zk_ix, ↓zk_dv, ↓zk_bo, ↓zk_rg, ↓zk_get, ↓zk_set, Option.bind_some])
        rw [zk_bd m_fail0]
        (try simp (disch := omega) only [↓zk_lt, ↓zk_nl, ↓zk_eq, ↓zk_ne, ↓zk_ix, ↓zk_dv, ↓zk_bo, ↓zk_rg, ↓zk_get, ↓zk_set, Option.bind_some])
    · left
      obtain ⟨nb', bg', vl', tk', k1, k2⟩ := m_next H (q := tE f len q) (by omega) (by omega) (tS f len q) vl (mk (tK f len q))
      refine ⟨r, nb', bg', vl', tk', by omega, a.1, ?_, ?_, k2⟩
      · unfold fn_Text_readTopic
        rw [zk_bd c_hf0]
        (try simp (disch := omega) only [↓zk_lt, ↓zk_nl, ↓zk_eq, ↓zk_ne, ↓zk_ix, ↓zk_dv, ↓zk_bo, ↓zk_rg, ↓zk_get, ↓zk_set, Option.bind_some])
        rw [zk_bd hcn]
        (try simp (disch := omega) only [↓zk_lt, ↓zk_nl, ↓zk_eq, ↓zk_ne, ↓zk_ix, ↓zk_dv, ↓zk_bo, ↓zk_rg, ↓zk_get, ↓zk_set, Option.bind_some])
        rw [zk_bd hn]
        (try simp (disch := omega) only [↓zk_lt, ↓zk_nl, ↓zk_eq, ↓zk_ne, ↓zk_ix, ↓zk_dv, ↓zk_bo, ↓zk_rg, ↓zk_get, ↓zk_set, Option.bind_some])
        rw [zk_bd r1]
        (try simp (disch := omega) only [↓zk_lt, ↓zk_nl, ↓zk_eq, ↓zk_ne, ↓zk_ix, ↓zk_dv, ↓zk_bo, ↓zk_rg, ↓zk_get, ↓zk_set, Option.bind_some])
      · unfold fn_Md_takesTopic
        rw [zk_bd hsn]
        (try simp (disch := omega) only [↓zk_lt, ↓zk_nl, ↓zk_eq, ↓zk_ne, ↓zk_ix, ↓zk_dv, ↓zk_bo, ↓zk_rg, ↓zk_get, ↓zk_set, Option.bind_some])
        rw [m2] at k1 ⊢
        rw [zk_bd r2]
        simp only [up_eq (f := n) (i := kk) (j := kk) (v := r) rfl]
        (try simp (disch := omega) only [↓zk_lt, ↓zk_nl, ↓zk_eq, ↓zk_ne, ↓zk_ix, ↓zk_dv, ↓zk_bo, ↓zk_rg, ↓zk_get, ↓zk_set, Option.bind_some])
        rw [zk_bd k1]
  · right
    obtain ⟨r, r1, r2⟩ := find_any N ht (v := 0) (by omega)
    have hsn := hms.2 a
    refine ⟨r, 1, n, by omega, r2, ?_, ?_⟩
    · unfold fn_Text_readTopic
      rw [zk_bd c_hf0]
      (try simp (disch := omega) only [↓zk_lt, ↓zk_nl, ↓zk_eq, ↓zk_ne, ↓zk_ix, ↓zk_dv, ↓zk_bo, ↓zk_rg, ↓zk_get, ↓zk_set, Option.bind_some])
      rw [zk_bd hcn]
      (try simp (disch := omega) only [↓zk_lt, ↓zk_nl, ↓zk_eq, ↓zk_ne, ↓zk_ix, ↓zk_dv, ↓zk_bo, ↓zk_rg, ↓zk_get, ↓zk_set, Option.bind_some])
      rw [zk_bd hn]
      (try simp (disch := omega) only [↓zk_lt, ↓zk_nl, ↓zk_eq, ↓zk_ne, ↓zk_ix, ↓zk_dv, ↓zk_bo, ↓zk_rg, ↓zk_get, ↓zk_set, Option.bind_some])
      rw [zk_bd r1]
      by_cases b : r = -1
      · (try simp (disch := omega) only [↓zk_lt, ↓zk_nl, ↓zk_eq, ↓zk_ne, ↓zk_ix, ↓zk_dv, ↓zk_bo, ↓zk_rg, ↓zk_get, ↓zk_set, Option.bind_some])
        rw [zk_bd (c_fail (by omega))]
      · (try simp (disch := omega) only [↓zk_lt, ↓zk_nl, ↓zk_eq, ↓zk_ne, ↓zk_ix, ↓zk_dv, ↓zk_bo, ↓zk_rg, ↓zk_get, ↓zk_set, Option.bind_some])
    · unfold fn_Md_takesTopic
      rw [zk_bd hsn]
      (try simp (disch := omega) only [↓zk_lt, ↓zk_nl, ↓zk_eq, ↓zk_ne, ↓zk_ix, ↓zk_dv, ↓zk_bo, ↓zk_rg, ↓zk_get, ↓zk_set, Option.bind_some])
/-! a new topic -/
theorem wn_b {a s m : Int} (ha : 3 ≤ a ∧ a ≤ 52) (hs : 0 ≤ s) (hm : 1 ≤ m ∧ m ≤ 6) (hl : s + m ≤ len) (hb : len ≤ 700) {w1 : Int → Int} {o vl tk nb1 bg1 vl1 tk1 y e' o' nb2 bg2 vl2 tk2 : Int} (hadv : fn_Md_advanceToken f len (s + m) s vl tk = some (nb1, bg1, vl1, tk1)) (hsem : fn_Md_takesSemicolon f len 0 o nb1 bg1 vl1 tk1 = some (y, e', o', nb2, bg2, vl2, tk2)) (hy : 0 ≤ y ∧ y ≤ 1) : ∀ (n k : Nat) (u : Int → Int) (v : Int), v + k = 6 → 0 ≤ v → (∀ j, u j = if a + 1 ≤ j ∧ j < a + 1 + v then (if j - (a + 1) < m then f (s + (j - (a + 1))) else 0) else w1 j) → k < n → ∃ U : Int → Int, (∀ j, U j = if j = 0 then w1 0 + 1 else if a + 1 ≤ j ∧ j < a + 7 then (if j - (a + 1) < m then f (s + (j - (a + 1))) else 0) else w1 j) ∧ fn_Md_readTopic_b76 n u f len 0 o (s + m) s vl tk a v = some (y, U, e', o', nb2, bg2, vl2, tk2) := by
  intro n
  induction n with
  | zero => intro k u v _ _ _ h; omega
  | succ n ih =>
    intro k u v hv h0 hu hk
    rw [fn_Md_readTopic_b76]
    cases k with
    | zero =>
      refine ⟨jk_up u 0 (u 0 + 1), fun j => ?_, ?_⟩
      · by_cases x : j = 0
        · rw [up_eq x, if_pos x, hu 0, if_neg (by omega)]
        · rw [up_ne x, if_neg x, hu j]
          by_cases z : a + 1 ≤ j ∧ j < a + 7
          · rw [if_pos z, if_pos (by omega)]
          · rw [if_neg z, if_neg (by omega)]
      · (try simp (disch := omega) only [↓zk_lt, ↓zk_nl, ↓zk_eq, ↓zk_ne, ↓zk_ix, ↓zk_dv, ↓zk_bo, ↓zk_rg, ↓zk_get, ↓zk_set, Option.bind_some])
        rw [zk_bd hadv]
        (try simp (disch := omega) only [↓zk_lt, ↓zk_nl, ↓zk_eq, ↓zk_ne, ↓zk_ix, ↓zk_dv, ↓zk_bo, ↓zk_rg, ↓zk_get, ↓zk_set, Option.bind_some])
        rw [zk_bd hsem]
        (try simp (disch := omega) only [↓zk_lt, ↓zk_nl, ↓zk_eq, ↓zk_ne, ↓zk_ix, ↓zk_dv, ↓zk_bo, ↓zk_rg, ↓zk_get, ↓zk_set, Option.bind_some])
    | succ k =>
      by_cases x : v < m
      · obtain ⟨U, k1, k2⟩ := ih k (jk_up u (a + 1 + v) (f (s + v))) (v + 1) (by omega) (by omega) (fun j => by
          by_cases z : j = a + 1 + v
          · rw [up_eq z, if_pos (by omega), if_pos (by omega), show s + (j - (a + 1)) = s + v by omega]
          · rw [up_ne z, hu j]
            by_cases z2 : a + 1 ≤ j ∧ j < a + 1 + v
            · rw [if_pos z2, if_pos (show a + 1 ≤ j ∧ j < a + 1 + (v + 1) by omega)]
            · rw [if_neg z2, if_neg (show ¬ (a + 1 ≤ j ∧ j < a + 1 + (v + 1)) by omega)]) (by omega)
        refine ⟨U, k1, ?_⟩
        (try simp (disch := omega) only [↓zk_lt, ↓zk_nl, ↓zk_eq, ↓zk_ne, ↓zk_ix, ↓zk_dv, ↓zk_bo, ↓zk_rg, ↓zk_get, ↓zk_set, Option.bind_some])
        exact k2
      · obtain ⟨U, k1, k2⟩ := ih k (jk_up u (a + 1 + v) 0) (v + 1) (by omega) (by omega) (fun j => by
          by_cases z : j = a + 1 + v
          · rw [up_eq z, if_pos (by omega), if_neg (by omega)]
          · rw [up_ne z, hu j]
            by_cases z2 : a + 1 ≤ j ∧ j < a + 1 + v
            · rw [if_pos z2, if_pos (show a + 1 ≤ j ∧ j < a + 1 + (v + 1) by omega)]
            · rw [if_neg z2, if_neg (show ¬ (a + 1 ≤ j ∧ j < a + 1 + (v + 1)) by omega)]) (by omega)
        refine ⟨U, k1, ?_⟩
        (try simp (disch := omega) only [↓zk_lt, ↓zk_nl, ↓zk_eq, ↓zk_ne, ↓zk_ix, ↓zk_dv, ↓zk_bo, ↓zk_rg, ↓zk_get, ↓zk_set, Option.bind_some])
        exact k2
theorem pN_new {tn s : Int} {m : Nat} {nm w U : Int → Int} (N : pN tn nm w) (ht : 0 ≤ tn ∧ tn < 8) (hm : 1 ≤ m ∧ m ≤ 6) (hL : pLet f s m) (hU : ∀ j, U j = if j = 0 then w 0 + 1 else if 3 + 7 * tn + 1 ≤ j ∧ j < 3 + 7 * tn + 7 then (if j - (3 + 7 * tn + 1) < m then f (s + (j - (3 + 7 * tn + 1))) else 0) else jk_up w (3 + 7 * tn + 0) m j) : pN (tn + 1) (jk_up nm tn (enc f s m)) U ∧ ∀ j, j = 1 ∨ j = 2 ∨ 59 ≤ j → U j = w j := by
  have old : ∀ j, 0 ≤ j → (j < 3 + 7 * tn ∨ 3 + 7 * tn + 7 ≤ j) → ¬ j = 0 → U j = w j := fun j h0 h1 h2 => by rw [hU j, if_neg h2, if_neg (by omega), up_ne (by omega)]
  refine ⟨⟨by rw [hU 0, if_pos rfl, N.1], fun t h0 h1 => ?_⟩, fun j h => old j (by omega) (by omega) (by omega)⟩
  by_cases x : t = tn
  · have hL2 : pLet U (3 + 7 * t + 1) m := fun i h2 h3 => by
      rw [hU i, if_neg (by omega), if_pos (by omega), if_pos (by omega)]
      exact hL _ (by omega) (by omega)
    refine ⟨m, hm, ?_, hL2, ?_⟩
    · rw [hU, if_neg (by omega), if_neg (by omega), up_eq (by omega)]
    · rw [up_eq x]
      refine (enc_inj m m s _ hL hL2).mpr ⟨rfl, fun i hi => ?_⟩
      rw [hU, if_neg (by omega), if_pos (by omega), if_pos (by omega), show s + (3 + 7 * t + 1 + (i : Int) - (3 + 7 * tn + 1)) = s + i by omega]
  · obtain ⟨ni, a1, a2, a3, a4⟩ := N.2 t h0 (by omega)
    refine ⟨ni, a1, ?_, ?_, ?_⟩
    · rw [old _ (by omega) (by omega) (by omega)]; exact a2
    · exact pLet_c a3 (fun i h2 h3 => old i (by omega) (by omega) (by omega))
    · rw [up_ne x, a4]
      exact (enc_c ni _ (fun i h2 h3 => old i (by omega) (by omega) (by omega))).symm
theorem st_topic (H : pB len f1 f) (hq : 0 ≤ q) (hl : q ≤ len) {tn nb bg vl tk o mo : Int} {nm w : Int → Int} (P : pTk f len q nb bg vl tk) (N : pN tn nm w) (ht : 0 ≤ tn ∧ tn ≤ 8) (h2 : tK f len q = 2) :
    (∃ k' s' q' nm' w' nb' bg' vl' tk', fn_Setup_readTopic f1 len (tK f len q) (tS f len q) (tE f len q) 0 o tn nm = some (k', s', q', 0, o, tn + 1, nm') ∧ fn_Md_readTopic w f len 0 mo nb bg vl tk = some (1, w', 0, mo, nb', bg', vl', tk') ∧ pTk f len q' nb' bg' vl' tk' ∧ pN (tn + 1) nm' w' ∧ tn < 8 ∧ (q < q' ∧ q' ≤ len) ∧ ∀ j, j = 1 ∨ j = 2 ∨ 59 ≤ j → w' j = w j) ∨
    (∃ k' s' e' c off tn' nm' w' nb' bg' vl' tk', (1 ≤ c ∧ c ≤ 7) ∧ (0 ≤ tn' ∧ tn' ≤ 8) ∧ fn_Setup_readTopic f1 len (tK f len q) (tS f len q) (tE f len q) 0 o tn nm = some (k', s', e', c, off, tn', nm') ∧ fn_Md_readTopic w f len 0 mo nb bg vl tk = some (0, w', c, off, nb', bg', vl', tk')) := by
  have hF := jk_F_big
  have hb := H.1
  have hw0 := N.1
  obtain ⟨rfl, rfl, rfl, hvl⟩ := P
  have hE := tE_r (f := f) hq hl
  obtain ⟨⟨h1, h3⟩, -⟩ := tS_r (f := f) hq hl
  have h22 := tK_2 hq hl h2
  unfold fn_Setup_readTopic fn_Md_readTopic
  by_cases a : tn = 8
  · right
    refine ⟨tK f len q, tS f len q, tE f len q, 6, tS f len q, tn, nm, w, tE f len q, tS f len q, vl, mk (tK f len q), by omega, ht, ?_, ?_⟩
    · (try simp (disch := omega) only [↓zk_lt, ↓zk_nl, ↓zk_eq, ↓zk_ne, ↓zk_ix, ↓zk_dv, ↓zk_bo, ↓zk_rg, ↓zk_get, ↓zk_set, Option.bind_some])
      rw [zk_bd c_fail0, zk_bd (x_new (by omega))]
      (try simp (disch := omega) only [↓zk_lt, ↓zk_nl, ↓zk_eq, ↓zk_ne, ↓zk_ix, ↓zk_dv, ↓zk_bo, ↓zk_rg, ↓zk_get, ↓zk_set, Option.bind_some])
      rw [zk_bd (x_semi (by omega))]
    · (try simp (disch := omega) only [↓zk_lt, ↓zk_nl, ↓zk_eq, ↓zk_ne, ↓zk_ix, ↓zk_dv, ↓zk_bo, ↓zk_rg, ↓zk_get, ↓zk_set, Option.bind_some])
      rw [zk_bd m_fail0]
      (try simp (disch := omega) only [↓zk_lt, ↓zk_nl, ↓zk_eq, ↓zk_ne, ↓zk_ix, ↓zk_dv, ↓zk_bo, ↓zk_rg, ↓zk_get, ↓zk_set, Option.bind_some])
  · have hq1 : 0 ≤ tE f len q := by omega
    have hl1 : tE f len q ≤ len := by omega
    obtain ⟨nb1, bg1, vl1, tk1, k1, P1⟩ := m_next H hq1 hl1 (tS f len q) vl (mk (tK f len q))
    obtain ⟨rfl, rfl, rfl, hvl1⟩ := P1
    have hE1 := tE_r (f := f) hq1 hl1
    obtain ⟨⟨h4, h5⟩, -⟩ := tS_r (f := f) hq1 hl1
    have hcn := c_next H hq1 hl1 (k0 := tK f len q) (s0 := tS f len q)
    have hms := m_sees (f := f) hq1 hl1 (by omega) (mo := mo)
    rcases c_name H hq1 hl1 (o := o) with ⟨b, hn⟩ | ⟨b, hn⟩
    · obtain ⟨m, m1, m2, m3, m4, m5, m6⟩ := tN_r hq1 hl1 b
      obtain ⟨r, r1, r2, r3, -⟩ := find_both H N ht m6 m5 m1 m4
      have hsn := hms.1 b
      rw [m3] at hn
      by_cases d : r = -1
      · have hq2 : 0 ≤ tE f len (tE f len q) := by omega
        have hl2 : tE f len (tE f len q) ≤ len := by omega
        obtain ⟨nb2, bg2, vl2, tk2, k2, P2⟩ := m_next H hq2 hl2 (tS f len (tE f len q)) vl1 (mk (tK f len (tE f len q)))
        have P2' := P2
        have hnew : fn_Text_readNewTopic f1 len (tK f len q) (tS f len q) (tE f len q) 0 o tn nm = some (tK f len (tE f len q), tS f len (tE f len q), tE f len (tE f len q), 0, o, tn + 1, jk_up nm tn (enc f (tS f len (tE f len q)) m)) := by
          unfold fn_Text_readNewTopic fn_Topics_add
          rw [zk_bd c_hf0]
          (try simp (disch := omega) only [↓zk_lt, ↓zk_nl, ↓zk_eq, ↓zk_ne, ↓zk_ix, ↓zk_dv, ↓zk_bo, ↓zk_rg, ↓zk_get, ↓zk_set, Option.bind_some])
          rw [zk_bd hcn]
          (try simp (disch := omega) only [↓zk_lt, ↓zk_nl, ↓zk_eq, ↓zk_ne, ↓zk_ix, ↓zk_dv, ↓zk_bo, ↓zk_rg, ↓zk_get, ↓zk_set, Option.bind_some])
          rw [zk_bd hn]
          (try simp (disch := omega) only [↓zk_lt, ↓zk_nl, ↓zk_eq, ↓zk_ne, ↓zk_ix, ↓zk_dv, ↓zk_bo, ↓zk_rg, ↓zk_get, ↓zk_set, Option.bind_some])
          rw [zk_bd r1]
          (try simp (disch := omega) only [↓zk_lt, ↓zk_nl, ↓zk_eq, ↓zk_ne, ↓zk_ix, ↓zk_dv, ↓zk_bo, ↓zk_rg, ↓zk_get, ↓zk_set, Option.bind_some])
          rw [zk_bd c_hf0]
          (try simp (disch := omega) only [↓zk_lt, ↓zk_nl, ↓zk_eq, ↓zk_ne, ↓zk_ix, ↓zk_dv, ↓zk_bo, ↓zk_rg, ↓zk_get, ↓zk_set, Option.bind_some])
        have hgo : ∀ {y e' o' nb3 bg3 vl3 tk3 : Int}, fn_Md_takesSemicolon f len 0 mo nb2 bg2 vl2 tk2 = some (y, e', o', nb3, bg3, vl3, tk3) → 0 ≤ y ∧ y ≤ 1 → ∃ U : Int → Int, (∀ j, U j = if j = 0 then w 0 + 1 else if 3 + 7 * tn + 1 ≤ j ∧ j < 3 + 7 * tn + 7 then (if j - (3 + 7 * tn + 1) < m then f (tS f len (tE f len q) + (j - (3 + 7 * tn + 1))) else 0) else jk_up w (3 + 7 * tn + 0) m j) ∧ fn_Md_readTopic_b76 jk_F (jk_up w (3 + 7 * tn + 0) m) f len 0 mo (tS f len (tE f len q) + m) (tS f len (tE f len q)) vl1 (mk (tK f len (tE f len q))) (3 + 7 * tn) 0 = some (y, U, e', o', nb3, bg3, vl3, tk3) := by
          intro y e' o' nb3 bg3 vl3 tk3 hsem hy
          rw [m2] at k2
          obtain ⟨U, u1, u2⟩ := wn_b (a := 3 + 7 * tn) (s := tS f len (tE f len q)) (m := m) (by omega) (by omega) (by omega) (by omega) (by omega) (w1 := jk_up w (3 + 7 * tn + 0) m) k2 hsem hy jk_F 6 (jk_up w (3 + 7 * tn + 0) m) 0 (by omega) (by omega) (fun j => by rw [if_neg (by omega)]) (by omega)
          refine ⟨U, fun j => ?_, u2⟩
          rw [u1 j, up_ne (f := w) (i := 3 + 7 * tn + 0) (j := 0) (by omega)]
        rcases semi H hq2 hl2 (k0 := tK f len (tE f len q)) (s0 := tS f len (tE f len q)) (o := o) (mo := mo) P2 with ⟨nb3, bg3, vl3, tk3, s1, s2, s3, s4⟩ | ⟨s2, s3⟩
        · left
          obtain ⟨U, u1, u2⟩ := hgo s3 (by omega)
          obtain ⟨v1, v2⟩ := pN_new N ⟨ht.1, by omega⟩ m1 m4 u1
          have hE2 := tE_r (f := f) hq2 hl2
          have hS2 := (tS_r (f := f) hq2 hl2).1
          refine ⟨tK f len (tE f len (tE f len q)), tS f len (tE f len (tE f len q)), tE f len (tE f len (tE f len q)), jk_up nm tn (enc f (tS f len (tE f len q)) m), U, nb3, bg3, vl3, tk3, ?_, ?_, s4, v1, by omega, by omega, v2⟩
          · (try simp (disch := omega) only [↓zk_lt, ↓zk_nl, ↓zk_eq, ↓zk_ne, ↓zk_ix, ↓zk_dv, ↓zk_bo, ↓zk_rg, ↓zk_get, ↓zk_set, Option.bind_some])
            rw [zk_bd hnew]
            (try simp (disch := omega) only [↓zk_lt, ↓zk_nl, ↓zk_eq, ↓zk_ne, ↓zk_ix, ↓zk_dv, ↓zk_bo, ↓zk_rg, ↓zk_get, ↓zk_set, Option.bind_some])
            rw [zk_bd s2]
          · (try simp (disch := omega) only [↓zk_lt, ↓zk_nl, ↓zk_eq, ↓zk_ne, ↓zk_ix, ↓zk_dv, ↓zk_bo, ↓zk_rg, ↓zk_get, ↓zk_set, Option.bind_some])
            rw [zk_bd k1]
            (try simp (disch := omega) only [↓zk_lt, ↓zk_nl, ↓zk_eq, ↓zk_ne, ↓zk_ix, ↓zk_dv, ↓zk_bo, ↓zk_rg, ↓zk_get, ↓zk_set, Option.bind_some])
            rw [zk_bd hsn]
            (try simp (disch := omega) only [↓zk_lt, ↓zk_nl, ↓zk_eq, ↓zk_ne, ↓zk_ix, ↓zk_dv, ↓zk_bo, ↓zk_rg, ↓zk_get, ↓zk_set, Option.bind_some])
            rw [m2, zk_bd r2]
            (try simp (disch := omega) only [↓zk_lt, ↓zk_nl, ↓zk_eq, ↓zk_ne, ↓zk_ix, ↓zk_dv, ↓zk_bo, ↓zk_rg, ↓zk_get, ↓zk_set, Option.bind_some])
            rw [hw0, show tS f len (tE f len q) + (m : Int) - tS f len (tE f len q) = m by omega]
            exact u2
        · right
          obtain ⟨U, u1, u2⟩ := hgo s3 (by omega)
          refine ⟨tK f len (tE f len (tE f len q)), tS f len (tE f len (tE f len q)), tE f len (tE f len (tE f len q)), 1, tS f len (tE f len (tE f len q)), tn + 1, jk_up nm tn (enc f (tS f len (tE f len q)) m), U, nb2, bg2, vl2, tk2, by omega, by omega, ?_, ?_⟩
          · (try simp (disch := omega) only [↓zk_lt, ↓zk_nl, ↓zk_eq, ↓zk_ne, ↓zk_ix, ↓zk_dv, ↓zk_bo, ↓zk_rg, ↓zk_get, ↓zk_set, Option.bind_some])
            rw [zk_bd hnew]
            (try simp (disch := omega) only [↓zk_lt, ↓zk_nl, ↓zk_eq, ↓zk_ne, ↓zk_ix, ↓zk_dv, ↓zk_bo, ↓zk_rg, ↓zk_get, ↓zk_set, Option.bind_some])
            rw [zk_bd s2]
          · (try simp (disch := omega) only [↓zk_lt, ↓zk_nl, ↓zk_eq, ↓zk_ne, ↓zk_ix, ↓zk_dv, ↓zk_bo, ↓zk_rg, ↓zk_get, ↓zk_set, Option.bind_some])
            rw [zk_bd k1]
            (try simp (disch := omega) only [↓zk_lt, ↓zk_nl, ↓zk_eq, ↓zk_ne, ↓zk_ix, ↓zk_dv, ↓zk_bo, ↓zk_rg, ↓zk_get, ↓zk_set, Option.bind_some])
            rw [zk_bd hsn]
            (try simp (disch := omega) only [↓zk_lt, ↓zk_nl, ↓zk_eq, ↓zk_ne, ↓zk_ix, ↓zk_dv, ↓zk_bo, ↓zk_rg, ↓zk_get, ↓zk_set, Option.bind_some])
            rw [m2, zk_bd r2]
            (try simp (disch := omega) only [↓zk_lt, ↓zk_nl, ↓zk_eq, ↓zk_ne, ↓zk_ix, ↓zk_dv, ↓zk_bo, ↓zk_rg, ↓zk_get, ↓zk_set, Option.bind_some])
            rw [hw0, show tS f len (tE f len q) + (m : Int) - tS f len (tE f len q) = m by omega]
            rw [← m2] at u2 ⊢
            exact u2
      · right
        refine ⟨tK f len (tE f len q), tS f len (tE f len q), tE f len (tE f len q), 3, tS f len (tE f len q), tn, nm, w, tE f len (tE f len q), tS f len (tE f len q), vl1, mk (tK f len (tE f len q)), by omega, ht, ?_, ?_⟩
        · (try simp (disch := omega) only [↓zk_lt, ↓zk_nl, ↓zk_eq, ↓zk_ne, ↓zk_ix, ↓zk_dv, ↓zk_bo, ↓zk_rg, ↓zk_get, ↓zk_set, Option.bind_some])
          unfold fn_Text_readNewTopic
          rw [zk_bd c_hf0]
          (try simp (disch := omega) only [↓zk_lt, ↓zk_nl, ↓zk_eq, ↓zk_ne, ↓zk_ix, ↓zk_dv, ↓zk_bo, ↓zk_rg, ↓zk_get, ↓zk_set, Option.bind_some])
          rw [zk_bd hcn]
          (try simp (disch := omega) only [↓zk_lt, ↓zk_nl, ↓zk_eq, ↓zk_ne, ↓zk_ix, ↓zk_dv, ↓zk_bo, ↓zk_rg, ↓zk_get, ↓zk_set, Option.bind_some])
          rw [zk_bd hn]
          (try simp (disch := omega) only [↓zk_lt, ↓zk_nl, ↓zk_eq, ↓zk_ne, ↓zk_ix, ↓zk_dv, ↓zk_bo, ↓zk_rg, ↓zk_get, ↓zk_set, Option.bind_some])
          rw [zk_bd r1]
          (try simp (disch := omega) only [↓zk_lt, ↓zk_nl, ↓zk_eq, ↓zk_ne, ↓zk_ix, ↓zk_dv, ↓zk_bo, ↓zk_rg, ↓zk_get, ↓zk_set, Option.bind_some])
          rw [zk_bd c_fail0]
          (try simp (disch := omega) only [↓zk_lt, ↓zk_nl, ↓zk_eq, ↓zk_ne, ↓zk_ix, ↓zk_dv, ↓zk_bo, ↓zk_rg, ↓zk_get, ↓zk_set, Option.bind_some])
          rw [zk_bd (c_hf (by omega))]
          (try simp (disch := omega) only [↓zk_lt, ↓zk_nl, ↓zk_eq, ↓zk_ne, ↓zk_ix, ↓zk_dv, ↓zk_bo, ↓zk_rg, ↓zk_get, ↓zk_set, Option.bind_some])
          rw [zk_bd (x_semi (by omega))]
        · (try simp (disch := omega) only [↓zk_lt, ↓zk_nl, ↓zk_eq, ↓zk_ne, ↓zk_ix, ↓zk_dv, ↓zk_bo, ↓zk_rg, ↓zk_get, ↓zk_set, Option.bind_some])
          rw [zk_bd k1]
          (try simp (disch := omega) only [↓zk_lt, ↓zk_nl, ↓zk_eq, ↓zk_ne, ↓zk_ix, ↓zk_dv, ↓zk_bo, ↓zk_rg, ↓zk_get, ↓zk_set, Option.bind_some])
          rw [zk_bd hsn]
          (try simp (disch := omega) only [↓zk_lt, ↓zk_nl, ↓zk_eq, ↓zk_ne, ↓zk_ix, ↓zk_dv, ↓zk_bo, ↓zk_rg, ↓zk_get, ↓zk_set, Option.bind_some])
          rw [m2, zk_bd r2]
          (try simp (disch := omega) only [↓zk_lt, ↓zk_nl, ↓zk_eq, ↓zk_ne, ↓zk_ix, ↓zk_dv, ↓zk_bo, ↓zk_rg, ↓zk_get, ↓zk_set, Option.bind_some])
          rw [zk_bd m_fail0]
          (try simp (disch := omega) only [↓zk_lt, ↓zk_nl, ↓zk_eq, ↓zk_ne, ↓zk_ix, ↓zk_dv, ↓zk_bo, ↓zk_rg, ↓zk_get, ↓zk_set, Option.bind_some])
    · right
      obtain ⟨r, r1, r2⟩ := find_any N ht (v := 0) (by omega)
      have hsn := hms.2 b
      refine ⟨tK f len (tE f len q), tS f len (tE f len q), tE f len (tE f len q), 1, tS f len (tE f len q), tn, nm, w, tE f len (tE f len q), tS f len (tE f len q), vl1, mk (tK f len (tE f len q)), by omega, ht, ?_, ?_⟩
      · (try simp (disch := omega) only [↓zk_lt, ↓zk_nl, ↓zk_eq, ↓zk_ne, ↓zk_ix, ↓zk_dv, ↓zk_bo, ↓zk_rg, ↓zk_get, ↓zk_set, Option.bind_some])
        have hnew : fn_Text_readNewTopic f1 len (tK f len q) (tS f len q) (tE f len q) 0 o tn nm = some (tK f len (tE f len q), tS f len (tE f len q), tE f len (tE f len q), 1, tS f len (tE f len q), tn, nm) := by
          unfold fn_Text_readNewTopic
          rw [zk_bd c_hf0]
          (try simp (disch := omega) only [↓zk_lt, ↓zk_nl, ↓zk_eq, ↓zk_ne, ↓zk_ix, ↓zk_dv, ↓zk_bo, ↓zk_rg, ↓zk_get, ↓zk_set, Option.bind_some])
          rw [zk_bd hcn]
          (try simp (disch := omega) only [↓zk_lt, ↓zk_nl, ↓zk_eq, ↓zk_ne, ↓zk_ix, ↓zk_dv, ↓zk_bo, ↓zk_rg, ↓zk_get, ↓zk_set, Option.bind_some])
          rw [zk_bd hn]
          (try simp (disch := omega) only [↓zk_lt, ↓zk_nl, ↓zk_eq, ↓zk_ne, ↓zk_ix, ↓zk_dv, ↓zk_bo, ↓zk_rg, ↓zk_get, ↓zk_set, Option.bind_some])
          rw [zk_bd r1]
          by_cases d : r = -1
          · (try simp (disch := omega) only [↓zk_lt, ↓zk_nl, ↓zk_eq, ↓zk_ne, ↓zk_ix, ↓zk_dv, ↓zk_bo, ↓zk_rg, ↓zk_get, ↓zk_set, Option.bind_some])
            rw [zk_bd (c_hf (by omega))]
            (try simp (disch := omega) only [↓zk_lt, ↓zk_nl, ↓zk_eq, ↓zk_ne, ↓zk_ix, ↓zk_dv, ↓zk_bo, ↓zk_rg, ↓zk_get, ↓zk_set, Option.bind_some])
          · (try simp (disch := omega) only [↓zk_lt, ↓zk_nl, ↓zk_eq, ↓zk_ne, ↓zk_ix, ↓zk_dv, ↓zk_bo, ↓zk_rg, ↓zk_get, ↓zk_set, Option.bind_some])
            rw [zk_bd (c_fail (by omega))]
            (try simp (disch := omega) only [↓zk_lt, ↓zk_nl, ↓zk_eq, ↓zk_ne, ↓zk_ix, ↓zk_dv, ↓zk_bo, ↓zk_rg, ↓zk_get, ↓zk_set, Option.bind_some])
            rw [zk_bd (c_hf (by omega))]
            (try simp (disch := omega) only [↓zk_lt, ↓zk_nl, ↓zk_eq, ↓zk_ne, ↓zk_ix, ↓zk_dv, ↓zk_bo, ↓zk_rg, ↓zk_get, ↓zk_set, Option.bind_some])
        rw [zk_bd hnew]
        (try simp (disch := omega) only [↓zk_lt, ↓zk_nl, ↓zk_eq, ↓zk_ne, ↓zk_ix, ↓zk_dv, ↓zk_bo, ↓zk_rg, ↓zk_get, ↓zk_set, Option.bind_some])
        rw [zk_bd (x_semi (by omega))]
      · (try simp (disch := omega) only [↓zk_lt, ↓zk_nl, ↓zk_eq, ↓zk_ne, ↓zk_ix, ↓zk_dv, ↓zk_bo, ↓zk_rg, ↓zk_get, ↓zk_set, Option.bind_some])
        rw [zk_bd k1]
        (try simp (disch := omega) only [↓zk_lt, ↓zk_nl, ↓zk_eq, ↓zk_ne, ↓zk_ix, ↓zk_dv, ↓zk_bo, ↓zk_rg, ↓zk_get, ↓zk_set, Option.bind_some])
        rw [zk_bd hsn]
        (try simp (disch := omega) only [↓zk_lt, ↓zk_nl, ↓zk_eq, ↓zk_ne, ↓zk_ix, ↓zk_dv, ↓zk_bo, ↓zk_rg, ↓zk_get, ↓zk_set, Option.bind_some])
end PT2
