/-! the reference's way: cord by cord, each with what hangs below it -/
def pRows (b : Int → Int) (F : Int → List Int) (sep a e : Int) : Nat → Int → List Int
  | 0, _ => []
  | n + 1, i => if i < e then (if a < i then [sep] else []) ++ (F i ++ pRows b F sep a e n (b i)) else []
def pWc (sz : Int) (dp tp va nb w : Int → Int) : Nat → Int → List Int
  | 0, _ => []
  | d + 1, k => pCb tp va nb w k ++ (if be sz dp k = k + 1 then [] else [40] ++ (pRows (be sz dp) (pWc sz dp tp va nb w d) 44 (k + 1) (be sz dp k) 50 (k + 1) ++ [41]))
section PX
variable {cl sz tn : Int} {st dp tp va nb g w nm : Int → Int}
theorem lin_lower {D db i : Int} {m : Nat} (hD : 1 ≤ D) (hdb : D ≤ db) (h : m = 0 ∨ dp i ≤ D) : pLin dp tp va nb w i m db = List.replicate (db - D).toNat 41 ++ pLin dp tp va nb w i m D := by
  cases m with
  | zero =>
    simp only [pLin, pCl]
    rw [List.replicate_append_replicate]
    congr 1
    omega
  | succ m =>
    have h2 : dp i ≤ D := by
      rcases h with h | h
      · cases h
      · exact h
    simp only [pLin]
    have e : pJo db (dp i) = List.replicate (db - D).toNat 41 ++ pJo D (dp i) := by
      unfold pJo pCl
      rw [if_neg (show ¬ db = 0 by omega), if_neg (show ¬ db < dp i by omega), if_neg (show ¬ D = 0 by omega), if_neg (show ¬ D < dp i by omega), ← List.append_assoc, List.replicate_append_replicate]
      congr 2
      omega
    rw [e, List.append_assoc]
theorem lin_cord (I : pI cl sz tn st dp tp va nb g) : ∀ (d : Nat) (k db E : Int), 0 ≤ k → k < sz → 1 ≤ dp k → 3 - dp k < d → be sz dp k ≤ E → E ≤ sz →
    pLin dp tp va nb w k (E - k).toNat db = pJo db (dp k) ++ (pWc sz dp tp va nb w d k ++ pLin dp tp va nb w (be sz dp k) (E - be sz dp k).toNat (dp k)) := by
  have hsz := I.1.2.1
  intro d
  induction d with
  | zero => intro k db E h0 h1 h2 h3; have := (I.2.2 k h0 h1).2.1; omega
  | succ d ih =>
    intro k db E h0 h1 h2 h3 h4 h5
    obtain ⟨⟨b1, b2⟩, b3, b4⟩ := be_r I h0 h1
    have R := row_below I h0 h1
    have e0 : (E - k).toNat = (E - (k + 1)).toNat + 1 := by omega
    rw [e0]
    simp only [pLin, pWc]
    rw [if_neg (by omega : ¬ dp k = 0)]
    by_cases x : be sz dp k = k + 1
    · rw [if_pos x, x]
      simp
    · rw [if_neg x]
      have rows : ∀ (n : Nat) (i : Int), k + 1 ≤ i → i ≤ be sz dp k → (i < be sz dp k → dp i = dp k + 1) → be sz dp k - i < n →
          pLin dp tp va nb w i (E - i).toNat (if i = k + 1 then dp k else dp k + 1) = (if i = k + 1 then [40] else []) ++ (pRows (be sz dp) (pWc sz dp tp va nb w d) 44 (k + 1) (be sz dp k) n i ++ ([41] ++ pLin dp tp va nb w (be sz dp k) (E - be sz dp k).toNat (dp k))) := by
        intro n
        induction n with
        | zero => intro i _ _ _ h; omega
        | succ n ihn =>
          intro i j1 j2 j3 j4
          simp only [pRows]
          by_cases y : i < be sz dp k
          · have hD := j3 y
            obtain ⟨⟨c1, c2⟩, c3, -⟩ := R.2 i j1 y hD
            have hrec := ih i (if i = k + 1 then dp k else dp k + 1) E (by omega) (by omega) (by omega) (by omega) (by omega) h5
            have hn := ihn (be sz dp i) (by omega) c2 c3 (by omega)
            rw [if_neg (by omega : ¬ be sz dp i = k + 1), if_neg (by omega : ¬ be sz dp i = k + 1)] at hn
            rw [hrec, hD, hn, if_pos y]
            by_cases z : i = k + 1
            · rw [if_pos z, if_pos z, if_neg (by omega : ¬ k + 1 < i)]
              have e1 : pJo (dp k) (dp k + 1) = [40] := by
                unfold pJo
                rw [if_neg (by omega), if_pos (by omega)]
              rw [e1]
              simp
            · rw [if_neg z, if_neg z, if_pos (by omega : k + 1 < i)]
              have e1 : pJo (dp k + 1) (dp k + 1) = [44] := by
                unfold pJo pCl
                rw [if_neg (by omega), if_neg (by omega), if_neg (by omega), show (dp k + 1 - (dp k + 1)).toNat = 0 by omega]
                rfl
              rw [e1]
              simp
          · have e1 : i = be sz dp k := by omega
            rw [if_neg y, if_neg (by omega : ¬ i = k + 1), if_neg (by omega : ¬ i = k + 1), e1]
            rw [lin_lower (D := dp k) h2 (by omega) (by
              by_cases q : be sz dp k < sz
              · exact Or.inr (b4 (by omega) q)
              · exact Or.inl (by omega)), show (dp k + 1 - dp k).toNat = 1 by omega]
            simp
      have hr := rows 50 (k + 1) (by omega) (by omega) (fun h => R.1.1 h) (by omega)
      rw [if_pos rfl, if_pos rfl] at hr
      rw [hr]
      simp
theorem lin_pend (I : pI cl sz tn st dp tp va nb g) {c : Int} (h0 : 0 ≤ c) (h1 : c < cl) : ∀ (n : Nat) (i : Int), st c + ht st dp c ≤ i → i ≤ st (c + 1) → (i < st (c + 1) → dp i = 1) → st (c + 1) - i < n →
    pLin dp tp va nb w i (st (c + 1) - i).toNat (if i = st c + ht st dp c then 0 else 1) = pRows (be sz dp) (pWc sz dp tp va nb w 8) 43 (st c + ht st dp c) (st (c + 1)) n i := by
  have hsz := I.1.2.1
  have s1 := pI_st I (c := c) h0 (by omega)
  have s2 := pI_st I (c := c + 1) (by omega) (by omega)
  have hl := ht_le I h0 h1
  have hh := ht_r (st := st) (dp := dp) c
  have R := row_pend I h0 h1
  intro n
  induction n with
  | zero => intro i _ _ _ h; omega
  | succ n ihn =>
    intro i j1 j2 j3 j4
    simp only [pRows]
    by_cases y : i < st (c + 1)
    · have hD := j3 y
      obtain ⟨⟨c1, c2⟩, c3, -⟩ := R.2 i j1 y hD
      have hrec := lin_cord (w := w) I 8 i (if i = st c + ht st dp c then 0 else 1) (st (c + 1)) (by omega) (by omega) (by omega) (by omega) c2 (by omega)
      have hn := ihn (be sz dp i) (by omega) c2 c3 (by omega)
      rw [if_neg (by omega : ¬ be sz dp i = st c + ht st dp c)] at hn
      rw [hrec, hD, hn, if_pos y]
      by_cases z : i = st c + ht st dp c
      · rw [if_pos z, if_neg (by omega : ¬ st c + ht st dp c < i)]
        have e1 : pJo 0 1 = [] := rfl
        rw [e1]
      · rw [if_neg z, if_pos (by omega : st c + ht st dp c < i)]
        have e1 : pJo 1 1 = [43] := rfl
        rw [e1]
    · have e1 : i = st (c + 1) := by omega
      rw [if_neg y, show (st (c + 1) - i).toNat = 0 by omega]
      by_cases z : i = st c + ht st dp c
      · rw [if_pos z]; rfl
      · rw [if_neg z]; rfl
/-- all that a cluster writes -/
def pAll (sz : Int) (st dp tp va nb w : Int → Int) (c : Int) : List Int := (if ht st dp c = 0 then [] else pWc sz dp tp va nb w 8 (st c) ++ [61]) ++ pRows (be sz dp) (pWc sz dp tp va nb w 8) 43 (st c + ht st dp c) (st (c + 1)) 50 (st c + ht st dp c)
theorem lin_all (I : pI cl sz tn st dp tp va nb g) {c : Int} (h0 : 0 ≤ c) (h1 : c < cl) : pLin dp tp va nb w (st c) (st (c + 1) - st c).toNat 0 = pAll sz st dp tp va nb w c := by
  have hsz := I.1.2.1
  have s1 := pI_st I (c := c) h0 (by omega)
  have s2 := pI_st I (c := c + 1) (by omega) (by omega)
  have hl := ht_le I h0 h1
  have R := row_pend I h0 h1
  have hp := lin_pend (w := w) I h0 h1 50 (st c + ht st dp c) (by omega) hl R.1.1 (by have := ht_r (st := st) (dp := dp) c; omega)
  rw [if_pos rfl] at hp
  unfold pAll
  rw [← hp]
  rcases ht_r (st := st) (dp := dp) c with y | y
  · rw [y, if_pos rfl, Int.add_zero]
    rfl
  · have h5 := ht_1 y
    rw [y, if_neg (by omega)]
    have e0 : (st (c + 1) - st c).toNat = (st (c + 1) - (st c + 1)).toNat + 1 := by omega
    rw [e0]
    simp only [pLin, pWc]
    have e1 : be sz dp (st c) = st c + 1 := by unfold be; rw [if_pos h5.2]
    have e2 : pJo 0 (dp (st c)) = [] := rfl
    rw [e1, if_pos rfl, if_pos h5.2, e2, h5.2]
    simp
/-! the reference writes just that -/
theorem m_ot (I : pI cl sz tn st dp tp va nb g) {t : Int} (h0 : 0 ≤ t) (h1 : t < tn) : fn_Md_ofTopic w t 1 = some (w (3 + 7 * t + 1)) := by
  have := I.1.2.2
  unfold fn_Md_ofTopic
  (try simp (disch := omega) only [↓zk_lt, ↓zk_nl, ↓zk_eq, ↓zk_ne, ↓zk_ix, ↓zk_dv, ↓zk_bo, ↓zk_rg, ↓zk_get, ↓zk_set, Option.bind_some])
theorem m_place1 (I : pI cl sz tn st dp tp va nb g) (M : pM cl sz dp tp va nb g w) {rc : (Int → Int) → (Int → Int) → Int → Int → Option ((Int → Int) × Int)} {k : Int} (h0 : 0 ≤ k) (h1 : k < sz) {n : Nat} {p : Int} (hp : 0 ≤ p ∧ p ≤ 3) {f : Int → Int} {len : Int} {L : List Int} (hO : pO f len L) (hl : L.length < 500) :
    ∃ f', fn_Md_writeCord_b17 rc (n + 1) w f len k p = fn_Md_writeCord_b17 rc n w f' (len + 1) k (p + (-1)) ∧ pO f' (len + 1) (L ++ [pPl va nb k p]) := by
  have hb := (I.2.2 k h0 h1).2.2.2.2.1
  rw [fn_Md_writeCord_b17]
  unfold pPl
  by_cases e : p < nb k
  · obtain ⟨f', a1, a2⟩ := m_put (x := 63) hO hl
    refine ⟨f', ?_, by rw [if_pos e]; exact a2⟩
    (try simp (disch := omega) only [↓zk_lt, ↓zk_nl, ↓zk_eq, ↓zk_ne, ↓zk_ix, ↓zk_dv, ↓zk_bo, ↓zk_rg, ↓zk_get, ↓zk_set, Option.bind_some])
    rw [zk_bd (M4 I M h0 h1)]
    (try simp (disch := omega) only [↓zk_lt, ↓zk_nl, ↓zk_eq, ↓zk_ne, ↓zk_ix, ↓zk_dv, ↓zk_bo, ↓zk_rg, ↓zk_get, ↓zk_set, Option.bind_some])
    rw [zk_bd a1]
  · obtain ⟨f', a1, a2⟩ := m_put (x := 48 + va k / pw p % 10) hO hl
    refine ⟨f', ?_, by rw [if_neg e]; exact a2⟩
    (try simp (disch := omega) only [↓zk_lt, ↓zk_nl, ↓zk_eq, ↓zk_ne, ↓zk_ix, ↓zk_dv, ↓zk_bo, ↓zk_rg, ↓zk_get, ↓zk_set, Option.bind_some])
    rw [zk_bd (M4 I M h0 h1)]
    (try simp (disch := omega) only [↓zk_lt, ↓zk_nl, ↓zk_eq, ↓zk_ne, ↓zk_ix, ↓zk_dv, ↓zk_bo, ↓zk_rg, ↓zk_get, ↓zk_set, Option.bind_some])
    rw [zk_bd (sm_knots I M h0 h1 hp.1 (by omega)), zk_bd a1]
theorem m_cord (I : pI cl sz tn st dp tp va nb g) (M : pM cl sz dp tp va nb g w) : ∀ (d : Nat) (k : Int) (f : Int → Int) (len : Int) (L : List Int), 0 ≤ k → k < sz → 3 - dp k < d → pO f len L → L.length + (pWc sz dp tp va nb w d k).length ≤ 500 → ∃ f' len', fn_Md_writeCord d w f len k = some (f', len') ∧ pO f' len' (L ++ pWc sz dp tp va nb w d k) := by
  have hsz := I.1.2.1
  intro d
  induction d with
  | zero => intro k f len L h0 h1 h2; have := (I.2.2 k h0 h1).2.1; omega
  | succ d ih =>
    intro k f len L h0 h1 h2 hO hl
    obtain ⟨-, hd, ht, -⟩ := I.2.2 k h0 h1
    obtain ⟨⟨b1, b2⟩, b3, b4⟩ := be_r I h0 h1
    have R := row_below I h0 h1
    simp only [pWc, List.length_append, pCb, List.length_cons, List.length_nil] at hl
    rw [fn_Md_writeCord, zk_bd (M2 I M h0 h1), zk_bd (m_ot I ht.1 ht.2)]
    obtain ⟨f1, p1, q1⟩ := m_put (x := w (3 + 7 * tp k + 1)) hO (by omega)
    obtain ⟨f2, p2, q2⟩ := m_place1 I M (rc := fn_Md_writeCord d) h0 h1 (n := 99999) (p := 3) (by omega) q1 (by simp; omega)
    obtain ⟨f3, p3, q3⟩ := m_place1 I M (rc := fn_Md_writeCord d) h0 h1 (n := 99998) (p := 3 + (-1)) (by omega) q2 (by simp; omega)
    obtain ⟨f4, p4, q4⟩ := m_place1 I M (rc := fn_Md_writeCord d) h0 h1 (n := 99997) (p := 3 + (-1) + (-1)) (by omega) q3 (by simp; omega)
    obtain ⟨f5, p5, q5⟩ := m_place1 I M (rc := fn_Md_writeCord d) h0 h1 (n := 99996) (p := 3 + (-1) + (-1) + (-1)) (by omega) q4 (by simp; omega)
    have q6 : pO f5 (len + 1 + 1 + 1 + 1 + 1) (L ++ pCb tp va nb w k) := by
      simp only [List.append_assoc, List.cons_append, List.nil_append] at q5
      exact q5
    rw [zk_bd p1, show jk_F = 99999 + 1 from rfl, p2, show (99999 : Nat) = 99998 + 1 from rfl, p3, show (99998 : Nat) = 99997 + 1 from rfl, p4, show (99997 : Nat) = 99996 + 1 from rfl, p5, show (99996 : Nat) = 99995 + 1 from rfl, fn_Md_writeCord_b17]
    (try simp (disch := omega) only [↓zk_lt, ↓zk_nl, ↓zk_eq, ↓zk_ne, ↓zk_ix, ↓zk_dv, ↓zk_bo, ↓zk_rg, ↓zk_get, ↓zk_set, Option.bind_some])
    rw [zk_bd (sm_be I M h0 h1)]
    simp only [pWc]
    by_cases x : be sz dp k = k + 1
    · rw [if_pos x]
      refine ⟨f5, _, ?_, by simpa using q6⟩
      (try simp (disch := omega) only [↓zk_lt, ↓zk_nl, ↓zk_eq, ↓zk_ne, ↓zk_ix, ↓zk_dv, ↓zk_bo, ↓zk_rg, ↓zk_get, ↓zk_set, Option.bind_some])
    · rw [if_neg x] at hl ⊢
      simp only [List.length_append, List.length_cons, List.length_nil] at hl
      obtain ⟨f6, p7, q7⟩ := m_put (x := 40) q6 (by simp [pCb]; omega)
      have rows : ∀ (m : Nat) (n : Nat) (i : Int) (f : Int → Int) (len : Int) (L : List Int), pO f len L → k + 1 ≤ i → i ≤ be sz dp k → (i < be sz dp k → dp i = dp k + 1) → be sz dp k - i < m → m ≤ n → L.length + (pRows (be sz dp) (pWc sz dp tp va nb w d) 44 (k + 1) (be sz dp k) m i).length + 1 ≤ 500 →
          ∃ f' len', fn_Md_writeCord_b77 (fn_Md_writeCord d) n w f len k i (be sz dp k) = some (f', len') ∧ pO f' len' (L ++ (pRows (be sz dp) (pWc sz dp tp va nb w d) 44 (k + 1) (be sz dp k) m i ++ [41])) := by
        intro m
        induction m with
        | zero => intro n i _ _ _ _ _ _ _ h; omega
        | succ m ihm =>
          intro n i f len L hO j1 j2 j3 j4 hn hl
          obtain ⟨n, rfl⟩ : ∃ n', n = n' + 1 := ⟨n - 1, by omega⟩
          rw [fn_Md_writeCord_b77]
          simp only [pRows] at hl ⊢
          by_cases y : i < be sz dp k
          · have hD := j3 y
            obtain ⟨⟨c1, c2⟩, c3, -⟩ := R.2 i j1 y hD
            rw [if_pos y] at hl ⊢
            simp only [List.length_append] at hl
            by_cases z : k + 1 < i
            · rw [if_pos z] at hl ⊢
              simp only [List.length_cons, List.length_nil] at hl
              obtain ⟨g1, r1, r2⟩ := m_put (x := 44) hO (by omega)
              obtain ⟨g2, l2, r3, r4⟩ := ih i g1 (len + 1) (L ++ [44]) (by omega) (by omega) (by omega) r2 (by simp; omega)
              obtain ⟨g3, l3, r5, r6⟩ := ihm n (be sz dp i) g2 l2 _ r4 (by omega) c2 c3 (by omega) (by omega) (by simp; omega)
              refine ⟨g3, l3, ?_, ?_⟩
              · (try simp (disch := omega) only [↓zk_lt, ↓zk_nl, ↓zk_eq, ↓zk_ne, ↓zk_ix, ↓zk_dv, ↓zk_bo, ↓zk_rg, ↓zk_get, ↓zk_set, Option.bind_some])
                rw [zk_bd r1, zk_bd r3, zk_bd (sm_be I M (k := i) (by omega) (by omega))]
                exact r5
              · simp only [List.append_assoc] at r6 ⊢
                exact r6
            · rw [if_neg z] at hl ⊢
              simp only [List.length_nil] at hl
              obtain ⟨g2, l2, r3, r4⟩ := ih i f len L (by omega) (by omega) (by omega) hO (by omega)
              obtain ⟨g3, l3, r5, r6⟩ := ihm n (be sz dp i) g2 l2 _ r4 (by omega) c2 c3 (by omega) (by omega) (by simp; omega)
              refine ⟨g3, l3, ?_, ?_⟩
              · (try simp (disch := omega) only [↓zk_lt, ↓zk_nl, ↓zk_eq, ↓zk_ne, ↓zk_ix, ↓zk_dv, ↓zk_bo, ↓zk_rg, ↓zk_get, ↓zk_set, Option.bind_some])
                rw [zk_bd r3, zk_bd (sm_be I M (k := i) (by omega) (by omega))]
                exact r5
              · simp only [List.append_assoc, List.nil_append] at r6 ⊢
                exact r6
          · rw [if_neg y] at hl ⊢
            obtain ⟨g1, r1, r2⟩ := m_put (x := 41) hO (by omega)
            refine ⟨g1, len + 1, ?_, by simpa using r2⟩
            (try simp (disch := omega) only [↓zk_lt, ↓zk_nl, ↓zk_eq, ↓zk_ne, ↓zk_ix, ↓zk_dv, ↓zk_bo, ↓zk_rg, ↓zk_get, ↓zk_set, Option.bind_some])
            rw [zk_bd r1]
      obtain ⟨f7, l7, p8, q8⟩ := rows 50 jk_F (k + 1) f6 _ _ q7 (by omega) (by omega) (fun h => R.1.1 h) (by omega) (by unfold jk_F; omega) (by simp [pCb]; omega)
      refine ⟨f7, l7, ?_, ?_⟩
      · (try simp (disch := omega) only [↓zk_lt, ↓zk_nl, ↓zk_eq, ↓zk_ne, ↓zk_ix, ↓zk_dv, ↓zk_bo, ↓zk_rg, ↓zk_get, ↓zk_set, Option.bind_some])
        rw [zk_bd p7]
        exact p8
      · simp only [List.append_assoc] at q8 ⊢
        exact q8
theorem q_writeCluster (I : pI cl sz tn st dp tp va nb g) (M : pM cl sz dp tp va nb g w) (hL : ∀ t, 0 ≤ t → t < tn → fn_Topics_letter nm t 0 = some (w (3 + 7 * t + 1))) {f1 f2 : Int → Int} {l1 l2 th x : Int} (hx : jk_R x) :
    (fn_KR_writeCluster f1 l1 nm cl st dp tp va nb x = some (.inl 1) ∧ fn_Md_writeCluster w th f2 l2 x = some (0, 1, f2, l2)) ∨
    (∃ L g1 g2 len, fn_KR_writeCluster f1 l1 nm cl st dp tp va nb x = some (.inr (len, g1, len)) ∧ fn_Md_writeCluster w th f2 l2 x = some (len, 0, g2, len) ∧ jk_R len ∧ pO g1 len L ∧ pO g2 len L ∧ L.length ≤ 321) := by
  have hF := jk_F_big
  have hcl := I.1.1
  have hsz := I.1.2.1
  unfold fn_KR_writeCluster fn_Md_writeCluster
  rw [zk_bd (sp_reqCluster hcl hx), zk_bd (sm_noCluster I M hx)]
  by_cases h : 0 ≤ x ∧ x < cl
  · right
    obtain ⟨h0, h1⟩ := h
    have s1 := pI_st I (c := x) h0 (by omega)
    have s2 := pI_st I (c := x + 1) (by omega) (by omega)
    have hl := ht_le I h0 h1
    have hm := I.2.1.2.2 x h0 h1
    have R := row_pend I h0 h1
    have hlen := pLin_len (dp := dp) (tp := tp) (va := va) (nb := nb) (w := w) (st (x + 1) - st x).toNat (st x) 0 (fun j h2 h3 => (I.2.2 j (by omega) (by omega)).2.1) (by omega)
    rw [if_pos rfl] at hlen
    obtain ⟨g1, len, a1, a2⟩ := c_lin I hL (e := st (x + 1)) (by omega) jk_F (st (x + 1) - st x).toNat (st x) 0 f1 0 [] (pO_nil f1) (by omega) (by omega) (by omega) (by omega) (by simp; omega) (by omega)
    have hall := lin_all (w := w) I h0 h1
    rw [hall] at hlen
    rw [hall, List.nil_append] at a2
    -- the pendants of the reference
    have rows : ∀ (m : Nat) (n : Nat) (i : Int) (f : Int → Int) (len : Int) (L : List Int), pO f len L → st x + ht st dp x ≤ i → i ≤ st (x + 1) → (i < st (x + 1) → dp i = 1) → st (x + 1) - i < m → m ≤ n → L.length + (pRows (be sz dp) (pWc sz dp tp va nb w 8) 43 (st x + ht st dp x) (st (x + 1)) m i).length ≤ 500 →
        ∃ f' len', fn_Md_writeCluster_b51 n w 0 f len x (st x + ht st dp x) i = some (len', 0, f', len') ∧ pO f' len' (L ++ pRows (be sz dp) (pWc sz dp tp va nb w 8) 43 (st x + ht st dp x) (st (x + 1)) m i) := by
      have hh := ht_r (st := st) (dp := dp) x
      intro m
      induction m with
      | zero => intro n i _ _ _ _ _ _ _ h; omega
      | succ m ihm =>
        intro n i f len L hO j1 j2 j3 j4 hn hl
        obtain ⟨n, rfl⟩ : ∃ n', n = n' + 1 := ⟨n - 1, by omega⟩
        rw [fn_Md_writeCluster_b51, zk_bd (sm_end I M h0 h1)]
        simp only [pRows] at hl ⊢
        by_cases y : i < st (x + 1)
        · have hD := j3 y
          obtain ⟨⟨c1, c2⟩, c3, -⟩ := R.2 i j1 y hD
          rw [if_pos y] at hl ⊢
          simp only [List.length_append] at hl
          by_cases z : st x + ht st dp x < i
          · rw [if_pos z] at hl ⊢
            simp only [List.length_cons, List.length_nil] at hl
            obtain ⟨g1, r1, r2⟩ := m_put (x := 43) hO (by omega)
            obtain ⟨g2, l2, r3, r4⟩ := m_cord I M 8 i g1 (len + 1) (L ++ [43]) (by omega) (by omega) (by omega) r2 (by simp; omega)
            obtain ⟨g3, l3, r5, r6⟩ := ihm n (be sz dp i) g2 l2 _ r4 (by omega) c2 c3 (by omega) (by omega) (by simp; omega)
            refine ⟨g3, l3, ?_, ?_⟩
            · (try simp (disch := omega) only [↓zk_lt, ↓zk_nl, ↓zk_eq, ↓zk_ne, ↓zk_ix, ↓zk_dv, ↓zk_bo, ↓zk_rg, ↓zk_get, ↓zk_set, Option.bind_some])
              rw [zk_bd r1, zk_bd r3, zk_bd (sm_be I M (k := i) (by omega) (by omega))]
              exact r5
            · simp only [List.append_assoc] at r6 ⊢
              exact r6
          · rw [if_neg z] at hl ⊢
            simp only [List.length_nil] at hl
            obtain ⟨g2, l2, r3, r4⟩ := m_cord I M 8 i f len L (by omega) (by omega) (by omega) hO (by omega)
            obtain ⟨g3, l3, r5, r6⟩ := ihm n (be sz dp i) g2 l2 _ r4 (by omega) c2 c3 (by omega) (by omega) (by simp; omega)
            refine ⟨g3, l3, ?_, ?_⟩
            · (try simp (disch := omega) only [↓zk_lt, ↓zk_nl, ↓zk_eq, ↓zk_ne, ↓zk_ix, ↓zk_dv, ↓zk_bo, ↓zk_rg, ↓zk_get, ↓zk_set, Option.bind_some])
              rw [zk_bd r3, zk_bd (sm_be I M (k := i) (by omega) (by omega))]
              exact r5
            · simp only [List.append_assoc, List.nil_append] at r6 ⊢
              exact r6
        · rw [if_neg y] at hl ⊢
          refine ⟨f, len, ?_, by simpa using hO⟩
          (try simp (disch := omega) only [↓zk_lt, ↓zk_nl, ↓zk_eq, ↓zk_ne, ↓zk_ix, ↓zk_dv, ↓zk_bo, ↓zk_rg, ↓zk_get, ↓zk_set, Option.bind_some])
    have fin : ∃ g2 len2, ((fn_Md_hasTop w x).bind fun q22 => jk_eqs q22 0 ((fn_Md_pendantsFrom w x).bind fun q45 => fn_Md_writeCluster_b51 jk_F w 0 f2 0 x q45 q45) ((fn_Md_first w x).bind fun q31 => (fn_Md_writeCord 8 w f2 0 q31).bind fun q34 => (fn_Md_write q34.1 q34.2 61).bind fun q40 => (fn_Md_pendantsFrom w x).bind fun q45 => fn_Md_writeCluster_b51 jk_F w 0 q40.1 q40.2 x q45 q45)) = some (len2, 0, g2, len2) ∧ pO g2 len2 (pAll sz st dp tp va nb w x) := by
      rw [zk_bd (sm_ht I M h0 h1)]
      unfold pAll at hlen ⊢
      rcases ht_r (st := st) (dp := dp) x with y | y
      · rw [if_pos y] at hlen ⊢
        simp only [List.nil_append] at hlen ⊢
        obtain ⟨g2, len2, r1, r2⟩ := rows 50 jk_F (st x + ht st dp x) f2 0 [] (pO_nil f2) (by omega) hl R.1.1 (by omega) (by unfold jk_F; omega) (by simp; omega)
        refine ⟨g2, len2, ?_, r2⟩
        (try simp (disch := omega) only [↓zk_lt, ↓zk_nl, ↓zk_eq, ↓zk_ne, ↓zk_ix, ↓zk_dv, ↓zk_bo, ↓zk_rg, ↓zk_get, ↓zk_set, Option.bind_some])
        rw [zk_bd (sm_pf I M h0 h1)]
        exact r1
      · have h5 := ht_1 y
        rw [if_neg (by omega)] at hlen ⊢
        simp only [List.length_append, List.length_cons, List.length_nil] at hlen
        obtain ⟨g3, l3, r3, r4⟩ := m_cord I M 8 (st x) f2 0 [] (by omega) (by omega) (by omega) (pO_nil f2) (by simp; omega)
        obtain ⟨g4, r5, r6⟩ := m_put (x := 61) r4 (by simp; omega)
        obtain ⟨g2, len2, r1, r2⟩ := rows 50 jk_F (st x + ht st dp x) g4 _ _ r6 (by omega) hl R.1.1 (by omega) (by unfold jk_F; omega) (by simp; omega)
        refine ⟨g2, len2, ?_, by simpa using r2⟩
        (try simp (disch := omega) only [↓zk_lt, ↓zk_nl, ↓zk_eq, ↓zk_ne, ↓zk_ix, ↓zk_dv, ↓zk_bo, ↓zk_rg, ↓zk_get, ↓zk_set, Option.bind_some])
        rw [zk_bd (sm_first I M h0 (by omega)), zk_bd r3, zk_bd r5, zk_bd (sm_pf I M h0 h1)]
        exact r1
    obtain ⟨g2, len2, k1, k2⟩ := fin
    have e12 : len2 = len := by rw [k2.1, a2.1]
    subst e12
    refine ⟨pAll sz st dp tp va nb w x, g1, g2, len2, ?_, ?_, ?_, a2, k2, by omega⟩
    · rw [if_pos ⟨h0, h1⟩]
      simp only [jk_cx]
      rw [zk_bd (sp_end I h0 h1), zk_bd (sp_start I h0 (by omega))]
      exact a1
    · rw [if_pos ⟨h0, h1⟩]
      (try simp (disch := omega) only [↓zk_lt, ↓zk_nl, ↓zk_eq, ↓zk_ne, ↓zk_ix, ↓zk_dv, ↓zk_bo, ↓zk_rg, ↓zk_get, ↓zk_set, Option.bind_some])
      exact k1
    · have := k2.1
      constructor <;> omega
  · left
    rw [if_neg h, if_neg h]
    refine ⟨rfl, ?_⟩
    (try simp (disch := omega) only [↓zk_lt, ↓zk_nl, ↓zk_eq, ↓zk_ne, ↓zk_ix, ↓zk_dv, ↓zk_bo, ↓zk_rg, ↓zk_get, ↓zk_set, Option.bind_some])
theorem q_outputByte {f1 f2 : Int → Int} {len th x : Int} {L : List Int} (h1 : pO f1 len L) (h2 : pO f2 len L) (hl : L.length ≤ 321) (hx : jk_R x) : ∃ r, fn_KR_outputByte f1 len x = some r ∧ fn_Md_outputByte th f2 len x = some (r, 0) := by
  have x1 := hx.1
  have x2 := hx.2
  have e1 := h1.1
  unfold fn_KR_outputByte fn_Md_outputByte
  rw [zk_bd (sm_inR hx ⟨by omega, by omega⟩ ⟨by omega, by omega⟩)]
  by_cases h : 0 ≤ x ∧ x ≤ len - 1
  · have hv : L[x.toNat]? = some (L[x.toNat]'(by omega)) := List.getElem?_eq_getElem (by omega)
    have v1 := h1.2 x.toNat _ hv
    have v2 := h2.2 x.toNat _ hv
    rw [show ((x.toNat : Nat) : Int) = x by omega] at v1 v2
    refine ⟨f1 x, ?_, ?_⟩
    · (try simp (disch := omega) only [↓zk_lt, ↓zk_nl, ↓zk_eq, ↓zk_ne, ↓zk_ix, ↓zk_dv, ↓zk_bo, ↓zk_rg, ↓zk_get, ↓zk_set, Option.bind_some])
    · rw [if_pos h]
      (try simp (disch := omega) only [↓zk_lt, ↓zk_nl, ↓zk_eq, ↓zk_ne, ↓zk_ix, ↓zk_dv, ↓zk_bo, ↓zk_rg, ↓zk_get, ↓zk_set, Option.bind_some])
      rw [v1, v2]
  · refine ⟨-1, ?_, ?_⟩
    · by_cases z : 0 ≤ x
      · (try simp (disch := omega) only [↓zk_lt, ↓zk_nl, ↓zk_eq, ↓zk_ne, ↓zk_ix, ↓zk_dv, ↓zk_bo, ↓zk_rg, ↓zk_get, ↓zk_set, Option.bind_some])
      · (try simp (disch := omega) only [↓zk_lt, ↓zk_nl, ↓zk_eq, ↓zk_ne, ↓zk_ix, ↓zk_dv, ↓zk_bo, ↓zk_rg, ↓zk_get, ↓zk_set, Option.bind_some])
    · rw [if_neg h]
      (try simp (disch := omega) only [↓zk_lt, ↓zk_nl, ↓zk_eq, ↓zk_ne, ↓zk_ix, ↓zk_dv, ↓zk_bo, ↓zk_rg, ↓zk_get, ↓zk_set, Option.bind_some])
end PX
