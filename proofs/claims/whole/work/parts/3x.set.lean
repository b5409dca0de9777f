/-! setup texts -/
section PT5
variable {len q cl sz tn : Int} {f f1 st dp tp va nb w g nm : Int → Int}
theorem num_v (H : pB len f1 f) (hq : 0 ≤ q) (hl : q ≤ len) {k0 s0 o lo hi : Int} (hlo : 0 ≤ lo ∧ lo ≤ 10000) (hhi : 0 ≤ hi ∧ hi ≤ 10000) {v k s e c off : Int} (h : fn_Text_readNumber f1 len k0 s0 q 0 o lo hi = some (v, k, s, e, c, off)) : 0 ≤ v ∧ v ≤ 9999 := by
  have hF := jk_F_big
  have hb := H.1
  have hk := tK_r (f := f) hq hl
  have hE := tE_r (f := f) hq hl
  obtain ⟨⟨h1, h2⟩, -⟩ := tS_r (f := f) hq hl
  have hcn := c_next H hq hl (k0 := k0) (s0 := s0)
  unfold fn_Text_readNumber at h
  rw [zk_bd c_hf0] at h
  simp (disch := omega) only [↓zk_eq] at h
  rw [zk_bd hcn] at h
  by_cases a : tK f len q = 3
  · have hv := tV_r hq hl a
    have hn := c_num_b H hq hl a (lo := lo) (hi := hi) (o := o) hlo hhi jk_F (tE f len q - tS f len q).toNat 0 (tS f len q) (by omega) (by omega) (by rw [show (tS f len q - tS f len q).toNat = 0 by omega]; rfl) (by omega)
    simp (disch := omega) only [↓zk_eq] at h
    rw [hn] at h
    simp only [Option.some.injEq, Prod.mk.injEq] at h
    omega
  · simp (disch := omega) only [↓zk_ne] at h
    rw [zk_bd c_fail0] at h
    simp only [Option.some.injEq, Prod.mk.injEq] at h
    omega
theorem pDr_of (C : pC tn cl sz st dp tp va nb w) : pDr st dp := by
  obtain ⟨⟨g, I, M⟩, G⟩ := C
  exact ⟨I.2.1.1, G⟩
theorem pC_tn (C : pC tn cl sz st dp tp va nb w) {w' : Int → Int} (h : tn < 8) (hw : ∀ j, j = 1 ∨ j = 2 ∨ 59 ≤ j → w' j = w j) : pC (tn + 1) cl sz st dp tp va nb w' := by
  obtain ⟨⟨g, I, M⟩, G⟩ := C
  have := I.1
  refine ⟨⟨g, ⟨⟨I.1.1, I.1.2.1, by omega⟩, I.2.1, fun k h0 h1 => ?_⟩, ⟨by rw [hw 1 (by omega)]; exact M.1, by rw [hw 2 (by omega)]; exact M.2.1, fun k h0 h1 => ?_⟩⟩, G⟩
  · obtain ⟨a1, a2, a3, a4⟩ := I.2.2 k h0 h1
    exact ⟨a1, a2, ⟨a3.1, by omega⟩, a4⟩
  · rw [hw _ (by omega), hw _ (by omega), hw _ (by omega), hw _ (by omega), hw _ (by omega)]
    exact M.2.2 k h0 h1
/-! a cluster -/
theorem st_cluster (H : pB len f1 f) (hq : 0 ≤ q) (hl : q ≤ len) {y1 y2 y3 y4 o mo : Int} (P : pTk f len q y1 y2 y3 y4) (C : pC tn cl sz st dp tp va nb w) (h2 : tK f len q = 2) :
    (∃ k' s' q' st' w' x1 x2 x3 x4, fn_Setup_readCluster f1 len (tK f len q) (tS f len q) (tE f len q) 0 o cl sz st = some (k', s', q', 0, o, cl + 1, st') ∧ fn_Md_readCluster w f len 0 mo y1 y2 y3 y4 = some (1, w', 0, mo, x1, x2, x3, x4) ∧ pTk f len q' x1 x2 x3 x4 ∧ pC tn (cl + 1) sz st' dp tp va nb w' ∧ pU w w' ∧ (q < q' ∧ q' ≤ len)) ∨
    (∃ k' s' e' c off cl' st' w' x1 x2 x3 x4, (1 ≤ c ∧ c ≤ 7) ∧ st' 0 = 0 ∧ fn_Setup_readCluster f1 len (tK f len q) (tS f len q) (tE f len q) 0 o cl sz st = some (k', s', e', c, off, cl', st') ∧ fn_Md_readCluster w f len 0 mo y1 y2 y3 y4 = some (0, w', c, off, x1, x2, x3, x4)) := by
  have hb := H.1
  obtain ⟨⟨g, I, M⟩, G⟩ := C
  have hcl := I.1.1
  have hsz := I.1.2.1
  have hw1 := M.1
  have hst := I.2.1.1
  obtain ⟨rfl, rfl, rfl, hvl⟩ := P
  have E0 := tE_r (f := f) hq hl
  have S0 := (tS_r (f := f) hq hl).1
  have h22 := tK_2 hq hl h2
  unfold fn_Setup_readCluster fn_Md_readCluster fn_Cords_openCluster
  by_cases a : cl = 6
  · right
    refine ⟨tK f len q, tS f len q, tE f len q, 6, tS f len q, cl, st, w, tE f len q, tS f len q, y3, mk (tK f len q), by omega, hst, ?_, ?_⟩
    · (try simp (disch := omega) only [↓zk_lt, ↓zk_nl, ↓zk_eq, ↓zk_ne, ↓zk_ix, ↓zk_dv, ↓zk_bo, ↓zk_rg, ↓zk_get, ↓zk_set, Option.bind_some])
      rw [zk_bd c_fail0]
      (try simp (disch := omega) only [↓zk_lt, ↓zk_nl, ↓zk_eq, ↓zk_ne, ↓zk_ix, ↓zk_dv, ↓zk_bo, ↓zk_rg, ↓zk_get, ↓zk_set, Option.bind_some])
      rw [zk_bd (x_semi (by omega))]
    · (try simp (disch := omega) only [↓zk_lt, ↓zk_nl, ↓zk_eq, ↓zk_ne, ↓zk_ix, ↓zk_dv, ↓zk_bo, ↓zk_rg, ↓zk_get, ↓zk_set, Option.bind_some])
      rw [zk_bd m_fail0]
      (try simp (disch := omega) only [↓zk_lt, ↓zk_nl, ↓zk_eq, ↓zk_ne, ↓zk_ix, ↓zk_dv, ↓zk_bo, ↓zk_rg, ↓zk_get, ↓zk_set, Option.bind_some])
  · have hq1 : 0 ≤ tE f len q := by omega
    have hl1 : tE f len q ≤ len := by omega
    have E1 := tE_r (f := f) hq1 hl1
    have S1 := (tS_r (f := f) hq1 hl1).1
    obtain ⟨b1, b2, b3, b4, k1, P1⟩ := m_next H hq1 hl1 (tS f len q) y3 (mk (tK f len q))
    rcases semi H hq1 hl1 (k0 := tK f len q) (s0 := tS f len q) (o := o) (mo := mo) P1 with ⟨x1, x2, x3, x4, s1, s2, s3, s4⟩ | ⟨s2, s3⟩
    · left
      refine ⟨tK f len (tE f len q), tS f len (tE f len q), tE f len (tE f len q), jk_up st (cl + 1) sz, jk_up w 1 (cl + 1), x1, x2, x3, x4, ?_, ?_, s4, ⟨⟨g, pI_cl I (by omega), (pM_cl M).1⟩, G⟩, (pM_cl M).2, by omega, by omega⟩
      · (try simp (disch := omega) only [↓zk_lt, ↓zk_nl, ↓zk_eq, ↓zk_ne, ↓zk_ix, ↓zk_dv, ↓zk_bo, ↓zk_rg, ↓zk_get, ↓zk_set, Option.bind_some])
        rw [zk_bd s2]
      · (try simp (disch := omega) only [↓zk_lt, ↓zk_nl, ↓zk_eq, ↓zk_ne, ↓zk_ix, ↓zk_dv, ↓zk_bo, ↓zk_rg, ↓zk_get, ↓zk_set, Option.bind_some])
        rw [zk_bd k1]
        (try simp (disch := omega) only [↓zk_lt, ↓zk_nl, ↓zk_eq, ↓zk_ne, ↓zk_ix, ↓zk_dv, ↓zk_bo, ↓zk_rg, ↓zk_get, ↓zk_set, Option.bind_some])
        rw [zk_bd s3, hw1]
        (try simp (disch := omega) only [↓zk_lt, ↓zk_nl, ↓zk_eq, ↓zk_ne, ↓zk_ix, ↓zk_dv, ↓zk_bo, ↓zk_rg, ↓zk_get, ↓zk_set, Option.bind_some])
    · right
      refine ⟨tK f len (tE f len q), tS f len (tE f len q), tE f len (tE f len q), 1, tS f len (tE f len q), cl + 1, jk_up st (cl + 1) sz, jk_up w 1 (cl + 1), b1, b2, b3, b4, by omega, by rw [up_ne (by omega)]; exact hst, ?_, ?_⟩
      · (try simp (disch := omega) only [↓zk_lt, ↓zk_nl, ↓zk_eq, ↓zk_ne, ↓zk_ix, ↓zk_dv, ↓zk_bo, ↓zk_rg, ↓zk_get, ↓zk_set, Option.bind_some])
        rw [zk_bd s2]
      · (try simp (disch := omega) only [↓zk_lt, ↓zk_nl, ↓zk_eq, ↓zk_ne, ↓zk_ix, ↓zk_dv, ↓zk_bo, ↓zk_rg, ↓zk_get, ↓zk_set, Option.bind_some])
        rw [zk_bd k1]
        (try simp (disch := omega) only [↓zk_lt, ↓zk_nl, ↓zk_eq, ↓zk_ne, ↓zk_ix, ↓zk_dv, ↓zk_bo, ↓zk_rg, ↓zk_get, ↓zk_set, Option.bind_some])
        rw [zk_bd s3, hw1]
        (try simp (disch := omega) only [↓zk_lt, ↓zk_nl, ↓zk_eq, ↓zk_ne, ↓zk_ix, ↓zk_dv, ↓zk_bo, ↓zk_rg, ↓zk_get, ↓zk_set, Option.bind_some])
/-! a cord: where it may come -/
theorem pf0 (I : pI cl sz tn st dp tp va nb g) (h : 1 ≤ cl) : fn_Setup_placeFor cl sz st dp 0 = some (st (cl - 1)) := by
  unfold fn_Setup_placeFor
  rw [zk_bd (sp_start I (c := cl - 1) (by omega) (by omega))]
  (try simp (disch := omega) only [↓zk_lt, ↓zk_nl, ↓zk_eq, ↓zk_ne, ↓zk_ix, ↓zk_dv, ↓zk_bo, ↓zk_rg, ↓zk_get, ↓zk_set, Option.bind_some])
theorem pf1 (I : pI cl sz tn st dp tp va nb g) (h : 1 ≤ cl) : fn_Setup_placeFor cl sz st dp 1 = some sz := by
  unfold fn_Setup_placeFor
  rw [zk_bd (sp_start I (c := cl - 1) (by omega) (by omega))]
  (try simp (disch := omega) only [↓zk_lt, ↓zk_nl, ↓zk_eq, ↓zk_ne, ↓zk_ix, ↓zk_dv, ↓zk_bo, ↓zk_rg, ↓zk_get, ↓zk_set, Option.bind_some])
theorem pf2 (I : pI cl sz tn st dp tp va nb g) (M : pM cl sz dp tp va nb g w) (h : 1 ≤ cl) {v : Int} (hv : 2 ≤ v ∧ v ≤ 9999) : ∃ k, fn_Md_latest w (v - 1) = some k ∧ ((k = -1 ∧ fn_Setup_placeFor cl sz st dp v = some (-1)) ∨ (((st (cl - 1) ≤ k ∧ k < sz) ∧ 0 ≤ k) ∧ dp k = v - 1 ∧ fn_Setup_placeFor cl sz st dp v = some (be sz dp k))) := by
  have hsz := I.1.2.1
  have s1 := pI_st I (c := cl - 1) (by omega) (by omega)
  obtain ⟨k, k1, k2, k3⟩ := lat_both I M h (D := v - 1) (by omega)
  refine ⟨k, k2, ?_⟩
  unfold fn_Setup_placeFor
  rcases k3 with rfl | ⟨k3, k4⟩
  · refine Or.inl ⟨rfl, ?_⟩
    rw [zk_bd (sp_start I (c := cl - 1) (by omega) (by omega))]
    (try simp (disch := omega) only [↓zk_lt, ↓zk_nl, ↓zk_eq, ↓zk_ne, ↓zk_ix, ↓zk_dv, ↓zk_bo, ↓zk_rg, ↓zk_get, ↓zk_set, Option.bind_some])
    rw [zk_bd k1]
    (try simp (disch := omega) only [↓zk_lt, ↓zk_nl, ↓zk_eq, ↓zk_ne, ↓zk_ix, ↓zk_dv, ↓zk_bo, ↓zk_rg, ↓zk_get, ↓zk_set, Option.bind_some])
  · refine Or.inr ⟨⟨k3, by omega⟩, k4, ?_⟩
    rw [zk_bd (sp_start I (c := cl - 1) (by omega) (by omega))]
    (try simp (disch := omega) only [↓zk_lt, ↓zk_nl, ↓zk_eq, ↓zk_ne, ↓zk_ix, ↓zk_dv, ↓zk_bo, ↓zk_rg, ↓zk_get, ↓zk_set, Option.bind_some])
    rw [zk_bd k1]
    (try simp (disch := omega) only [↓zk_lt, ↓zk_nl, ↓zk_eq, ↓zk_ne, ↓zk_ix, ↓zk_dv, ↓zk_bo, ↓zk_rg, ↓zk_get, ↓zk_set, Option.bind_some])
    rw [zk_bd (sp_be I (by omega) k3.2)]
theorem pf (C : pC tn cl sz st dp tp va nb w) {v : Int} (hv : 0 ≤ v ∧ v ≤ 9999) (hc : cl = 0 → v ≤ 1) : ∃ p, fn_Setup_placeFor cl sz st dp v = some p ∧ (-1 ≤ p ∧ p ≤ 1000) := by
  obtain ⟨⟨g, I, M⟩, G⟩ := C
  have hsz := I.1.2.1
  have hcl := I.1.1
  by_cases a : cl = 0
  · have hs : fn_Cords_start st (cl - 1) = some 0 := by
      unfold fn_Cords_start fn_Row_get
      rw [a]
      (try simp (disch := omega) only [↓zk_lt, ↓zk_nl, ↓zk_eq, ↓zk_ne, ↓zk_ix, ↓zk_dv, ↓zk_bo, ↓zk_rg, ↓zk_get, ↓zk_set, Option.bind_some])
    by_cases b : v = 0
    · refine ⟨0, ?_, by omega⟩
      unfold fn_Setup_placeFor
      rw [zk_bd hs]
      (try simp (disch := omega) only [↓zk_lt, ↓zk_nl, ↓zk_eq, ↓zk_ne, ↓zk_ix, ↓zk_dv, ↓zk_bo, ↓zk_rg, ↓zk_get, ↓zk_set, Option.bind_some])
    · refine ⟨sz, ?_, by omega⟩
      unfold fn_Setup_placeFor
      rw [zk_bd hs]
      have := hc a
      (try simp (disch := omega) only [↓zk_lt, ↓zk_nl, ↓zk_eq, ↓zk_ne, ↓zk_ix, ↓zk_dv, ↓zk_bo, ↓zk_rg, ↓zk_get, ↓zk_set, Option.bind_some])
  · have s1 := pI_st I (c := cl - 1) (by omega) (by omega)
    by_cases b : v = 0
    · rw [b]; exact ⟨_, pf0 I (by omega), by omega⟩
    · by_cases d : v = 1
      · rw [d]; exact ⟨_, pf1 I (by omega), by omega⟩
      · obtain ⟨k, -, ⟨-, k2⟩ | ⟨k2, -, k3⟩⟩ := pf2 I M (by omega) (v := v) (by omega)
        · exact ⟨_, k2, by omega⟩
        · have := (be_r I k2.2 k2.1.2).1
          exact ⟨_, k3, by omega⟩
/-! the first word's errors -/
theorem x_cfw (C : pC tn cl sz st dp tp va nb w) {c o s v : Int} (h : 1 ≤ c ∧ c ≤ 7) (hv : v = 0 ∨ v = 1) : fn_Setup_checkFirstWord_b34 s c o cl sz st dp v = some (c, o) := by
  obtain ⟨⟨g, I, M⟩, G⟩ := C
  have hsz := I.1.2.1
  have hcl := I.1.1
  have e58 : fn_Setup_checkFirstWord_b58 s c o sz = some (c, o) := by
    unfold fn_Setup_checkFirstWord_b58
    rw [zk_bd (c_fail h)]
    by_cases a : sz < 40
    · (try simp (disch := omega) only [↓zk_lt, ↓zk_nl, ↓zk_eq, ↓zk_ne, ↓zk_ix, ↓zk_dv, ↓zk_bo, ↓zk_rg, ↓zk_get, ↓zk_set, Option.bind_some])
    · (try simp (disch := omega) only [↓zk_lt, ↓zk_nl, ↓zk_eq, ↓zk_ne, ↓zk_ix, ↓zk_dv, ↓zk_bo, ↓zk_rg, ↓zk_get, ↓zk_set, Option.bind_some])
      rw [zk_bd (c_fail h)]
  unfold fn_Setup_checkFirstWord_b34
  by_cases a : cl = 0
  · (try simp (disch := omega) only [↓zk_lt, ↓zk_nl, ↓zk_eq, ↓zk_ne, ↓zk_ix, ↓zk_dv, ↓zk_bo, ↓zk_rg, ↓zk_get, ↓zk_set, Option.bind_some])
    exact e58
  · have h1 := sp_ht I (c := cl - 1) (by omega) (by omega)
    have h2 := ht_r (st := st) (dp := dp) (cl - 1)
    rcases hv with rfl | rfl
    · by_cases b : sz < 40
      · (try simp (disch := omega) only [↓zk_lt, ↓zk_nl, ↓zk_eq, ↓zk_ne, ↓zk_ix, ↓zk_dv, ↓zk_bo, ↓zk_rg, ↓zk_get, ↓zk_set, Option.bind_some])
      · (try simp (disch := omega) only [↓zk_lt, ↓zk_nl, ↓zk_eq, ↓zk_ne, ↓zk_ix, ↓zk_dv, ↓zk_bo, ↓zk_rg, ↓zk_get, ↓zk_set, Option.bind_some])
        rw [zk_bd (c_fail h)]
    · (try simp (disch := omega) only [↓zk_lt, ↓zk_nl, ↓zk_eq, ↓zk_ne, ↓zk_ix, ↓zk_dv, ↓zk_bo, ↓zk_rg, ↓zk_get, ↓zk_set, Option.bind_some])
      rw [zk_bd h1]
      rcases h2 with h2 | h2
      · by_cases b : sz < 40
        · (try simp (disch := omega) only [↓zk_lt, ↓zk_nl, ↓zk_eq, ↓zk_ne, ↓zk_ix, ↓zk_dv, ↓zk_bo, ↓zk_rg, ↓zk_get, ↓zk_set, Option.bind_some])
        · (try simp (disch := omega) only [↓zk_lt, ↓zk_nl, ↓zk_eq, ↓zk_ne, ↓zk_ix, ↓zk_dv, ↓zk_bo, ↓zk_rg, ↓zk_get, ↓zk_set, Option.bind_some])
          rw [zk_bd (c_fail h)]
      · (try simp (disch := omega) only [↓zk_lt, ↓zk_nl, ↓zk_eq, ↓zk_ne, ↓zk_ix, ↓zk_dv, ↓zk_bo, ↓zk_rg, ↓zk_get, ↓zk_set, Option.bind_some])
        exact e58
theorem cfw (C : pC tn cl sz st dp tp va nb w) {o s v : Int} (hv : v = 0 ∨ v = 1) : ((cl = 0 ∨ (v = 1 ∧ 1 ≤ cl ∧ ht st dp (cl - 1) = 1)) ∧ fn_Setup_checkFirstWord_b34 s 0 o cl sz st dp v = some (5, s)) ∨ ((1 ≤ cl ∧ (v = 1 → ht st dp (cl - 1) = 0)) ∧ ((sz = 40 ∧ fn_Setup_checkFirstWord_b34 s 0 o cl sz st dp v = some (6, s)) ∨ (sz < 40 ∧ fn_Setup_checkFirstWord_b34 s 0 o cl sz st dp v = some (0, o)))) := by
  obtain ⟨⟨g, I, M⟩, G⟩ := C
  have hsz := I.1.2.1
  have hcl := I.1.1
  have e58 : fn_Setup_checkFirstWord_b58 s 0 o sz = some (5, s) := by
    unfold fn_Setup_checkFirstWord_b58
    rw [zk_bd c_fail0]
    by_cases a : sz < 40
    · (try simp (disch := omega) only [↓zk_lt, ↓zk_nl, ↓zk_eq, ↓zk_ne, ↓zk_ix, ↓zk_dv, ↓zk_bo, ↓zk_rg, ↓zk_get, ↓zk_set, Option.bind_some])
    · (try simp (disch := omega) only [↓zk_lt, ↓zk_nl, ↓zk_eq, ↓zk_ne, ↓zk_ix, ↓zk_dv, ↓zk_bo, ↓zk_rg, ↓zk_get, ↓zk_set, Option.bind_some])
      rw [zk_bd (c_fail (by omega))]
  unfold fn_Setup_checkFirstWord_b34
  by_cases a : cl = 0
  · refine Or.inl ⟨Or.inl a, ?_⟩
    (try simp (disch := omega) only [↓zk_lt, ↓zk_nl, ↓zk_eq, ↓zk_ne, ↓zk_ix, ↓zk_dv, ↓zk_bo, ↓zk_rg, ↓zk_get, ↓zk_set, Option.bind_some])
    exact e58
  · have h1 := sp_ht I (c := cl - 1) (by omega) (by omega)
    have h2 := ht_r (st := st) (dp := dp) (cl - 1)
    rcases hv with rfl | rfl
    · refine Or.inr ⟨⟨by omega, fun h => by omega⟩, ?_⟩
      by_cases b : sz < 40
      · refine Or.inr ⟨b, ?_⟩
        (try simp (disch := omega) only [↓zk_lt, ↓zk_nl, ↓zk_eq, ↓zk_ne, ↓zk_ix, ↓zk_dv, ↓zk_bo, ↓zk_rg, ↓zk_get, ↓zk_set, Option.bind_some])
      · refine Or.inl ⟨by omega, ?_⟩
        (try simp (disch := omega) only [↓zk_lt, ↓zk_nl, ↓zk_eq, ↓zk_ne, ↓zk_ix, ↓zk_dv, ↓zk_bo, ↓zk_rg, ↓zk_get, ↓zk_set, Option.bind_some])
        rw [zk_bd c_fail0]
    · rcases h2 with h2 | h2
      · refine Or.inr ⟨⟨by omega, fun h => h2⟩, ?_⟩
        by_cases b : sz < 40
        · refine Or.inr ⟨b, ?_⟩
          (try simp (disch := omega) only [↓zk_lt, ↓zk_nl, ↓zk_eq, ↓zk_ne, ↓zk_ix, ↓zk_dv, ↓zk_bo, ↓zk_rg, ↓zk_get, ↓zk_set, Option.bind_some])
          rw [zk_bd h1]
          (try simp (disch := omega) only [↓zk_lt, ↓zk_nl, ↓zk_eq, ↓zk_ne, ↓zk_ix, ↓zk_dv, ↓zk_bo, ↓zk_rg, ↓zk_get, ↓zk_set, Option.bind_some])
        · refine Or.inl ⟨by omega, ?_⟩
          (try simp (disch := omega) only [↓zk_lt, ↓zk_nl, ↓zk_eq, ↓zk_ne, ↓zk_ix, ↓zk_dv, ↓zk_bo, ↓zk_rg, ↓zk_get, ↓zk_set, Option.bind_some])
          rw [zk_bd h1]
          (try simp (disch := omega) only [↓zk_lt, ↓zk_nl, ↓zk_eq, ↓zk_ne, ↓zk_ix, ↓zk_dv, ↓zk_bo, ↓zk_rg, ↓zk_get, ↓zk_set, Option.bind_some])
          rw [zk_bd c_fail0]
      · refine Or.inl ⟨Or.inr ⟨rfl, by omega, h2⟩, ?_⟩
        (try simp (disch := omega) only [↓zk_lt, ↓zk_nl, ↓zk_eq, ↓zk_ne, ↓zk_ix, ↓zk_dv, ↓zk_bo, ↓zk_rg, ↓zk_get, ↓zk_set, Option.bind_some])
        rw [zk_bd h1]
        (try simp (disch := omega) only [↓zk_lt, ↓zk_nl, ↓zk_eq, ↓zk_ne, ↓zk_ix, ↓zk_dv, ↓zk_bo, ↓zk_rg, ↓zk_get, ↓zk_set, Option.bind_some])
        exact e58
end PT5
