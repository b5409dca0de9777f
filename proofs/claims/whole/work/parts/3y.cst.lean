/-! a cord's statement -/
section PT6
variable {len q cl sz tn : Int} {f f1 st dp tp va nb w g nm : Int → Int}
/-- what a cord's statement comes to, if it is one of the three -/
def cOk (f f1 : Int → Int) (len q cl sz tn : Int) (st dp tp va nb w nm : Int → Int) (y1 y2 y3 y4 o mo got : Int) (n : Int → Int) : Prop :=
  ∃ k' s' q' st' dp' tp' va' nb' w' x1 x2 x3 x4 got' n', fn_Setup_readCord f1 len (tK f len q) (tS f len q) (tE f len q) 0 o tn nm cl sz st dp tp va nb = some (k', s', q', 0, o, sz + 1, st', dp', tp', va', nb') ∧ fn_Md_readCord w f len 0 mo y1 y2 y3 y4 got n = some (1, w', 0, mo, x1, x2, x3, x4, got', n') ∧ pTk f len q' x1 x2 x3 x4 ∧ pC tn cl (sz + 1) st' dp' tp' va' nb' w' ∧ pU w w' ∧ (q < q' ∧ q' ≤ len)
def cNo (f f1 : Int → Int) (len q cl sz tn : Int) (st dp tp va nb w nm : Int → Int) (y1 y2 y3 y4 mo o got : Int) (n : Int → Int) : Prop :=
  ∃ k' s' e' c off w' x1 x2 x3 x4 got' n', (1 ≤ c ∧ c ≤ 7) ∧ fn_Setup_readCord f1 len (tK f len q) (tS f len q) (tE f len q) 0 o tn nm cl sz st dp tp va nb = some (k', s', e', c, off, sz, st, dp, tp, va, nb) ∧ fn_Md_readCord w f len 0 mo y1 y2 y3 y4 got n = some (0, w', c, off, x1, x2, x3, x4, got', n')
variable {y1 y2 y3 y4 o mo got rt rp rs : Int} {n : Int → Int}
theorem c_top (H : pB len f1 f) (hq : 0 ≤ q) (hl : q ≤ len) (P : pTk f len q y1 y2 y3 y4) (C : pC tn cl sz st dp tp va nb w) (N : pN tn nm w) (h2 : tK f len q = 2)
    (T1 : fn_Text_isWord f1 (tK f len q) (tS f len q) (tE f len q) [116, 111, 112] = some 1) (T2 : fn_Md_isWord f y1 y2 y4 [116, 111, 112] = some 1) (T3 : fn_Md_isWord f y1 y2 y4 [115, 117, 98] = some 0) :
    cOk f f1 len q cl sz tn st dp tp va nb w nm y1 y2 y3 y4 o mo got n ∨ cNo f f1 len q cl sz tn st dp tp va nb w nm y1 y2 y3 y4 mo o got n := by
  have hb := H.1
  have C' := C
  obtain ⟨⟨g, I, M⟩, G⟩ := C
  have hcl := I.1.1
  have hsz := I.1.2.1
  have hw1 := M.1
  obtain ⟨rfl, rfl, rfl, hvl⟩ := P
  have E0 := tE_r (f := f) hq hl
  have S0 := (tS_r (f := f) hq hl).1
  have h22 := tK_2 hq hl h2
  have hmay := sm_mayAdd C'
  have hcf : fn_Setup_checkFirstWord f1 (tK f len q) (tS f len q) (tE f len q) 0 o cl sz st dp = fn_Setup_checkFirstWord_b34 (tS f len q) 0 o cl sz st dp 1 := by
    unfold fn_Setup_checkFirstWord
    rw [zk_bd T1]
    (try simp (disch := omega) only [↓zk_lt, ↓zk_nl, ↓zk_eq, ↓zk_ne, ↓zk_ix, ↓zk_dv, ↓zk_bo, ↓zk_rg, ↓zk_get, ↓zk_set, Option.bind_some])
  have bad : ∀ c, 1 ≤ c ∧ c ≤ 7 → fn_Setup_checkFirstWord_b34 (tS f len q) 0 o cl sz st dp 1 = some (c, tS f len q) → fn_Setup_readCord f1 len (tK f len q) (tS f len q) (tE f len q) 0 o tn nm cl sz st dp tp va nb = some (tK f len q, tS f len q, tE f len q, c, tS f len q, sz, st, dp, tp, va, nb) := fun c hc h => by
    obtain ⟨p, p1, p2⟩ := pf C' (v := 0) (by omega) (fun _ => by omega)
    unfold fn_Setup_readCord
    rw [zk_bd (hcf.trans h), zk_bd T1]
    (try simp (disch := omega) only [↓zk_lt, ↓zk_nl, ↓zk_eq, ↓zk_ne, ↓zk_ix, ↓zk_dv, ↓zk_bo, ↓zk_rg, ↓zk_get, ↓zk_set, Option.bind_some])
    exact x_b37 hc p1 p2
  rcases cfw C' (o := o) (s := tS f len q) (v := 1) (Or.inr rfl) with ⟨a, e⟩ | ⟨⟨a1, a2⟩, ⟨a3, e⟩ | ⟨a3, e⟩⟩
  · right
    refine ⟨tK f len q, tS f len q, tE f len q, 5, tS f len q, w, tE f len q, tS f len q, y3, mk (tK f len q), got, n, by omega, bad 5 (by omega) e, ?_⟩
    unfold fn_Md_readCord
    rw [zk_bd T2]
    (try simp (disch := omega) only [↓zk_lt, ↓zk_nl, ↓zk_eq, ↓zk_ne, ↓zk_ix, ↓zk_dv, ↓zk_bo, ↓zk_rg, ↓zk_get, ↓zk_set, Option.bind_some])
    rcases a with a | ⟨-, a1, a2⟩
    · (try simp (disch := omega) only [↓zk_lt, ↓zk_nl, ↓zk_eq, ↓zk_ne, ↓zk_ix, ↓zk_dv, ↓zk_bo, ↓zk_rg, ↓zk_get, ↓zk_set, Option.bind_some])
      rw [zk_bd m_fail0]
      (try simp (disch := omega) only [↓zk_lt, ↓zk_nl, ↓zk_eq, ↓zk_ne, ↓zk_ix, ↓zk_dv, ↓zk_bo, ↓zk_rg, ↓zk_get, ↓zk_set, Option.bind_some])
    · (try simp (disch := omega) only [↓zk_lt, ↓zk_nl, ↓zk_eq, ↓zk_ne, ↓zk_ix, ↓zk_dv, ↓zk_bo, ↓zk_rg, ↓zk_get, ↓zk_set, Option.bind_some])
      rw [hw1, zk_bd (sm_ht I M (c := cl - 1) (by omega) (by omega))]
      (try simp (disch := omega) only [↓zk_lt, ↓zk_nl, ↓zk_eq, ↓zk_ne, ↓zk_ix, ↓zk_dv, ↓zk_bo, ↓zk_rg, ↓zk_get, ↓zk_set, Option.bind_some])
      rw [zk_bd m_fail0]
      (try simp (disch := omega) only [↓zk_lt, ↓zk_nl, ↓zk_eq, ↓zk_ne, ↓zk_ix, ↓zk_dv, ↓zk_bo, ↓zk_rg, ↓zk_get, ↓zk_set, Option.bind_some])
  · right
    refine ⟨tK f len q, tS f len q, tE f len q, 6, tS f len q, w, tE f len q, tS f len q, y3, mk (tK f len q), got, n, by omega, bad 6 (by omega) e, ?_⟩
    unfold fn_Md_readCord fn_Md_readCord_b41
    rw [zk_bd T2]
    rw [if_neg (by omega)] at hmay
    have := a2 rfl
    (try simp (disch := omega) only [↓zk_lt, ↓zk_nl, ↓zk_eq, ↓zk_ne, ↓zk_ix, ↓zk_dv, ↓zk_bo, ↓zk_rg, ↓zk_get, ↓zk_set, Option.bind_some])
    rw [hw1, zk_bd (sm_ht I M (c := cl - 1) (by omega) (by omega))]
    (try simp (disch := omega) only [↓zk_lt, ↓zk_nl, ↓zk_eq, ↓zk_ne, ↓zk_ix, ↓zk_dv, ↓zk_bo, ↓zk_rg, ↓zk_get, ↓zk_set, Option.bind_some])
    rw [zk_bd hmay]
    (try simp (disch := omega) only [↓zk_lt, ↓zk_nl, ↓zk_eq, ↓zk_ne, ↓zk_ix, ↓zk_dv, ↓zk_bo, ↓zk_rg, ↓zk_get, ↓zk_set, Option.bind_some])
    rw [zk_bd m_fail0]
    (try simp (disch := omega) only [↓zk_lt, ↓zk_nl, ↓zk_eq, ↓zk_ne, ↓zk_ix, ↓zk_dv, ↓zk_bo, ↓zk_rg, ↓zk_get, ↓zk_set, Option.bind_some])
  · have hq1 : 0 ≤ tE f len q := by omega
    have hl1 : tE f len q ≤ len := by omega
    have h0 := a2 rfl
    rw [if_pos a3] at hmay
    have s1 := pI_st I (c := cl - 1) (by omega) (by omega)
    obtain ⟨b1, b2, b3, b4, k1, P1⟩ := m_next H hq1 hl1 (tS f len q) y3 (mk (tK f len q))
    have comp : fn_Setup_readCord f1 len (tK f len q) (tS f len q) (tE f len q) 0 o tn nm cl sz st dp tp va nb = fn_Setup_readCord_b56 f1 len (tK f len q) (tS f len q) (tE f len q) 0 o tn nm cl sz st dp tp va nb 0 (st (cl - 1)) := by
      unfold fn_Setup_readCord
      rw [zk_bd (hcf.trans e), zk_bd T1]
      (try simp (disch := omega) only [↓zk_lt, ↓zk_nl, ↓zk_eq, ↓zk_ne, ↓zk_ix, ↓zk_dv, ↓zk_bo, ↓zk_rg, ↓zk_get, ↓zk_set, Option.bind_some])
      unfold fn_Setup_readCord_b37
      rw [zk_bd (pf0 I (by omega))]
      (try simp (disch := omega) only [↓zk_lt, ↓zk_nl, ↓zk_eq, ↓zk_ne, ↓zk_ix, ↓zk_dv, ↓zk_bo, ↓zk_rg, ↓zk_get, ↓zk_set, Option.bind_some])
    have mod : fn_Md_readCord w f len 0 mo (tE f len q) (tS f len q) y3 (mk (tK f len q)) got n = (fn_Md_takesCord w f len 0 mo b1 b2 b3 b4 got n (st (cl - 1)) 0).bind fun q91 => jk_bo q91.1 (some (q91.1, q91.2.1, q91.2.2.1, q91.2.2.2.1, q91.2.2.2.2.1, q91.2.2.2.2.2.1, q91.2.2.2.2.2.2.1, q91.2.2.2.2.2.2.2.1, q91.2.2.2.2.2.2.2.2.1, q91.2.2.2.2.2.2.2.2.2)) := by
      unfold fn_Md_readCord fn_Md_readCord_b41
      rw [zk_bd T2]
      (try simp (disch := omega) only [↓zk_lt, ↓zk_nl, ↓zk_eq, ↓zk_ne, ↓zk_ix, ↓zk_dv, ↓zk_bo, ↓zk_rg, ↓zk_get, ↓zk_set, Option.bind_some])
      rw [hw1, zk_bd (sm_ht I M (c := cl - 1) (by omega) (by omega))]
      (try simp (disch := omega) only [↓zk_lt, ↓zk_nl, ↓zk_eq, ↓zk_ne, ↓zk_ix, ↓zk_dv, ↓zk_bo, ↓zk_rg, ↓zk_get, ↓zk_set, Option.bind_some])
      rw [zk_bd hmay]
      (try simp (disch := omega) only [↓zk_lt, ↓zk_nl, ↓zk_eq, ↓zk_ne, ↓zk_ix, ↓zk_dv, ↓zk_bo, ↓zk_rg, ↓zk_get, ↓zk_set, Option.bind_some])
      rw [zk_bd T3]
      (try simp (disch := omega) only [↓zk_lt, ↓zk_nl, ↓zk_eq, ↓zk_ne, ↓zk_ix, ↓zk_dv, ↓zk_bo, ↓zk_rg, ↓zk_get, ↓zk_set, Option.bind_some])
      rw [zk_bd k1]
      (try simp (disch := omega) only [↓zk_lt, ↓zk_nl, ↓zk_eq, ↓zk_ne, ↓zk_ix, ↓zk_dv, ↓zk_bo, ↓zk_rg, ↓zk_get, ↓zk_set, Option.bind_some])
      rw [zk_bd (sm_first I M (c := cl - 1) (by omega) (by omega))]
    rcases rest H hq1 hl1 (k0 := tK f len q) (s0 := tS f len q) (o := o) (mo := mo) (got := got) (n := n) P1 C' N a1 a3 (at_top I a1 h0) with ⟨k', s', q', st', dp', tp', va', nb', w', x1, x2, x3, x4, got', n', r1, r2, r3, r4, r5, r6, r7⟩ | ⟨k', s', e', c, off, w', x1, x2, x3, x4, got', n', hc, r1, r2⟩
    · left
      refine ⟨k', s', q', st', dp', tp', va', nb', w', x1, x2, x3, x4, got', n', comp.trans r1, ?_, r3, r4, r5, by omega, r7⟩
      rw [mod, zk_bd r2]
      (try simp (disch := omega) only [↓zk_lt, ↓zk_nl, ↓zk_eq, ↓zk_ne, ↓zk_ix, ↓zk_dv, ↓zk_bo, ↓zk_rg, ↓zk_get, ↓zk_set, Option.bind_some])
    · right
      refine ⟨k', s', e', c, off, w', x1, x2, x3, x4, got', n', hc, comp.trans r1, ?_⟩
      rw [mod, zk_bd r2]
      (try simp (disch := omega) only [↓zk_lt, ↓zk_nl, ↓zk_eq, ↓zk_ne, ↓zk_ix, ↓zk_dv, ↓zk_bo, ↓zk_rg, ↓zk_get, ↓zk_set, Option.bind_some])
theorem c_pend (H : pB len f1 f) (hq : 0 ≤ q) (hl : q ≤ len) (P : pTk f len q y1 y2 y3 y4) (C : pC tn cl sz st dp tp va nb w) (N : pN tn nm w) (h2 : tK f len q = 2)
    (T1 : fn_Text_isWord f1 (tK f len q) (tS f len q) (tE f len q) [116, 111, 112] = some 0) (T2 : fn_Md_isWord f y1 y2 y4 [116, 111, 112] = some 0) (T3 : fn_Md_isWord f y1 y2 y4 [115, 117, 98] = some 0) (T4 : fn_Text_isWord f1 (tK f len q) (tS f len q) (tE f len q) [112, 101, 110, 100, 97, 110, 116] = some 1) :
    cOk f f1 len q cl sz tn st dp tp va nb w nm y1 y2 y3 y4 o mo got n ∨ cNo f f1 len q cl sz tn st dp tp va nb w nm y1 y2 y3 y4 mo o got n := by
  have hb := H.1
  have C' := C
  obtain ⟨⟨g, I, M⟩, G⟩ := C
  have hcl := I.1.1
  have hsz := I.1.2.1
  have hw1 := M.1
  have hw2 := M.2.1
  obtain ⟨rfl, rfl, rfl, hvl⟩ := P
  have E0 := tE_r (f := f) hq hl
  have S0 := (tS_r (f := f) hq hl).1
  have h22 := tK_2 hq hl h2
  have hmay := sm_mayAdd C'
  have hcf : fn_Setup_checkFirstWord f1 (tK f len q) (tS f len q) (tE f len q) 0 o cl sz st dp = fn_Setup_checkFirstWord_b34 (tS f len q) 0 o cl sz st dp 0 := by
    unfold fn_Setup_checkFirstWord
    rw [zk_bd T1]
    (try simp (disch := omega) only [↓zk_lt, ↓zk_nl, ↓zk_eq, ↓zk_ne, ↓zk_ix, ↓zk_dv, ↓zk_bo, ↓zk_rg, ↓zk_get, ↓zk_set, Option.bind_some])
    rw [zk_bd T4]
    (try simp (disch := omega) only [↓zk_lt, ↓zk_nl, ↓zk_eq, ↓zk_ne, ↓zk_ix, ↓zk_dv, ↓zk_bo, ↓zk_rg, ↓zk_get, ↓zk_set, Option.bind_some])
  have bad : ∀ c, 1 ≤ c ∧ c ≤ 7 → fn_Setup_checkFirstWord_b34 (tS f len q) 0 o cl sz st dp 0 = some (c, tS f len q) → fn_Setup_readCord f1 len (tK f len q) (tS f len q) (tE f len q) 0 o tn nm cl sz st dp tp va nb = some (tK f len q, tS f len q, tE f len q, c, tS f len q, sz, st, dp, tp, va, nb) := fun c hc h => by
    obtain ⟨p, p1, p2⟩ := pf C' (v := 1) (by omega) (fun _ => by omega)
    unfold fn_Setup_readCord
    rw [zk_bd (hcf.trans h), zk_bd T1]
    (try simp (disch := omega) only [↓zk_lt, ↓zk_nl, ↓zk_eq, ↓zk_ne, ↓zk_ix, ↓zk_dv, ↓zk_bo, ↓zk_rg, ↓zk_get, ↓zk_set, Option.bind_some])
    rw [zk_bd T4]
    (try simp (disch := omega) only [↓zk_lt, ↓zk_nl, ↓zk_eq, ↓zk_ne, ↓zk_ix, ↓zk_dv, ↓zk_bo, ↓zk_rg, ↓zk_get, ↓zk_set, Option.bind_some])
    exact x_b37 hc p1 p2
  rcases cfw C' (o := o) (s := tS f len q) (v := 0) (Or.inl rfl) with ⟨a, e⟩ | ⟨⟨a1, a2⟩, ⟨a3, e⟩ | ⟨a3, e⟩⟩
  · right
    refine ⟨tK f len q, tS f len q, tE f len q, 5, tS f len q, w, tE f len q, tS f len q, y3, mk (tK f len q), got, n, by omega, bad 5 (by omega) e, ?_⟩
    unfold fn_Md_readCord
    rw [zk_bd T2]
    have a : cl = 0 := by omega
    (try simp (disch := omega) only [↓zk_lt, ↓zk_nl, ↓zk_eq, ↓zk_ne, ↓zk_ix, ↓zk_dv, ↓zk_bo, ↓zk_rg, ↓zk_get, ↓zk_set, Option.bind_some])
    rw [zk_bd m_fail0]
    (try simp (disch := omega) only [↓zk_lt, ↓zk_nl, ↓zk_eq, ↓zk_ne, ↓zk_ix, ↓zk_dv, ↓zk_bo, ↓zk_rg, ↓zk_get, ↓zk_set, Option.bind_some])
  · right
    refine ⟨tK f len q, tS f len q, tE f len q, 6, tS f len q, w, tE f len q, tS f len q, y3, mk (tK f len q), got, n, by omega, bad 6 (by omega) e, ?_⟩
    unfold fn_Md_readCord fn_Md_readCord_b41
    rw [zk_bd T2]
    rw [if_neg (by omega)] at hmay
    (try simp (disch := omega) only [↓zk_lt, ↓zk_nl, ↓zk_eq, ↓zk_ne, ↓zk_ix, ↓zk_dv, ↓zk_bo, ↓zk_rg, ↓zk_get, ↓zk_set, Option.bind_some])
    rw [zk_bd hmay]
    (try simp (disch := omega) only [↓zk_lt, ↓zk_nl, ↓zk_eq, ↓zk_ne, ↓zk_ix, ↓zk_dv, ↓zk_bo, ↓zk_rg, ↓zk_get, ↓zk_set, Option.bind_some])
    rw [zk_bd m_fail0]
    (try simp (disch := omega) only [↓zk_lt, ↓zk_nl, ↓zk_eq, ↓zk_ne, ↓zk_ix, ↓zk_dv, ↓zk_bo, ↓zk_rg, ↓zk_get, ↓zk_set, Option.bind_some])
  · have hq1 : 0 ≤ tE f len q := by omega
    have hl1 : tE f len q ≤ len := by omega
    rw [if_pos a3] at hmay
    obtain ⟨b1, b2, b3, b4, k1, P1⟩ := m_next H hq1 hl1 (tS f len q) y3 (mk (tK f len q))
    have comp : fn_Setup_readCord f1 len (tK f len q) (tS f len q) (tE f len q) 0 o tn nm cl sz st dp tp va nb = fn_Setup_readCord_b56 f1 len (tK f len q) (tS f len q) (tE f len q) 0 o tn nm cl sz st dp tp va nb 1 sz := by
      unfold fn_Setup_readCord
      rw [zk_bd (hcf.trans e), zk_bd T1]
      (try simp (disch := omega) only [↓zk_lt, ↓zk_nl, ↓zk_eq, ↓zk_ne, ↓zk_ix, ↓zk_dv, ↓zk_bo, ↓zk_rg, ↓zk_get, ↓zk_set, Option.bind_some])
      rw [zk_bd T4]
      (try simp (disch := omega) only [↓zk_lt, ↓zk_nl, ↓zk_eq, ↓zk_ne, ↓zk_ix, ↓zk_dv, ↓zk_bo, ↓zk_rg, ↓zk_get, ↓zk_set, Option.bind_some])
      unfold fn_Setup_readCord_b37
      rw [zk_bd (pf1 I (by omega))]
      (try simp (disch := omega) only [↓zk_lt, ↓zk_nl, ↓zk_eq, ↓zk_ne, ↓zk_ix, ↓zk_dv, ↓zk_bo, ↓zk_rg, ↓zk_get, ↓zk_set, Option.bind_some])
    have mod : fn_Md_readCord w f len 0 mo (tE f len q) (tS f len q) y3 (mk (tK f len q)) got n = (fn_Md_takesCord w f len 0 mo b1 b2 b3 b4 got n sz 1).bind fun q91 => jk_bo q91.1 (some (q91.1, q91.2.1, q91.2.2.1, q91.2.2.2.1, q91.2.2.2.2.1, q91.2.2.2.2.2.1, q91.2.2.2.2.2.2.1, q91.2.2.2.2.2.2.2.1, q91.2.2.2.2.2.2.2.2.1, q91.2.2.2.2.2.2.2.2.2)) := by
      unfold fn_Md_readCord fn_Md_readCord_b41
      rw [zk_bd T2]
      (try simp (disch := omega) only [↓zk_lt, ↓zk_nl, ↓zk_eq, ↓zk_ne, ↓zk_ix, ↓zk_dv, ↓zk_bo, ↓zk_rg, ↓zk_get, ↓zk_set, Option.bind_some])
      rw [zk_bd hmay]
      (try simp (disch := omega) only [↓zk_lt, ↓zk_nl, ↓zk_eq, ↓zk_ne, ↓zk_ix, ↓zk_dv, ↓zk_bo, ↓zk_rg, ↓zk_get, ↓zk_set, Option.bind_some])
      rw [zk_bd T3]
      (try simp (disch := omega) only [↓zk_lt, ↓zk_nl, ↓zk_eq, ↓zk_ne, ↓zk_ix, ↓zk_dv, ↓zk_bo, ↓zk_rg, ↓zk_get, ↓zk_set, Option.bind_some])
      rw [zk_bd k1]
      (try simp (disch := omega) only [↓zk_lt, ↓zk_nl, ↓zk_eq, ↓zk_ne, ↓zk_ix, ↓zk_dv, ↓zk_bo, ↓zk_rg, ↓zk_get, ↓zk_set, Option.bind_some])
      rw [hw2]
    rcases rest H hq1 hl1 (k0 := tK f len q) (s0 := tS f len q) (o := o) (mo := mo) (got := got) (n := n) P1 C' N a1 a3 (at_pend I a1) with ⟨k', s', q', st', dp', tp', va', nb', w', x1, x2, x3, x4, got', n', r1, r2, r3, r4, r5, r6, r7⟩ | ⟨k', s', e', c, off, w', x1, x2, x3, x4, got', n', hc, r1, r2⟩
    · left
      refine ⟨k', s', q', st', dp', tp', va', nb', w', x1, x2, x3, x4, got', n', comp.trans r1, ?_, r3, r4, r5, by omega, r7⟩
      rw [mod, zk_bd r2]
      (try simp (disch := omega) only [↓zk_lt, ↓zk_nl, ↓zk_eq, ↓zk_ne, ↓zk_ix, ↓zk_dv, ↓zk_bo, ↓zk_rg, ↓zk_get, ↓zk_set, Option.bind_some])
    · right
      refine ⟨k', s', e', c, off, w', x1, x2, x3, x4, got', n', hc, comp.trans r1, ?_⟩
      rw [mod, zk_bd r2]
      (try simp (disch := omega) only [↓zk_lt, ↓zk_nl, ↓zk_eq, ↓zk_ne, ↓zk_ix, ↓zk_dv, ↓zk_bo, ↓zk_rg, ↓zk_get, ↓zk_set, Option.bind_some])
theorem c_sub (H : pB len f1 f) (hq : 0 ≤ q) (hl : q ≤ len) (P : pTk f len q y1 y2 y3 y4) (C : pC tn cl sz st dp tp va nb w) (N : pN tn nm w) (h2 : tK f len q = 2)
    (T1 : fn_Text_isWord f1 (tK f len q) (tS f len q) (tE f len q) [116, 111, 112] = some 0) (T2 : fn_Md_isWord f y1 y2 y4 [116, 111, 112] = some 0) (T3 : fn_Md_isWord f y1 y2 y4 [115, 117, 98] = some 1) (T4 : fn_Text_isWord f1 (tK f len q) (tS f len q) (tE f len q) [112, 101, 110, 100, 97, 110, 116] = some 0) (T5 : fn_Text_isWord f1 (tK f len q) (tS f len q) (tE f len q) [115, 117, 98] = some 1) :
    cOk f f1 len q cl sz tn st dp tp va nb w nm y1 y2 y3 y4 o mo got n ∨ cNo f f1 len q cl sz tn st dp tp va nb w nm y1 y2 y3 y4 mo o got n := by
  have hb := H.1
  have C' := C
  obtain ⟨⟨g, I, M⟩, G⟩ := C
  have hcl := I.1.1
  have hsz := I.1.2.1
  have hw1 := M.1
  have hw2 := M.2.1
  obtain ⟨rfl, rfl, rfl, hvl⟩ := P
  have E0 := tE_r (f := f) hq hl
  have S0 := (tS_r (f := f) hq hl).1
  have h22 := tK_2 hq hl h2
  have hmay := sm_mayAdd C'
  have hcf : fn_Setup_checkFirstWord f1 (tK f len q) (tS f len q) (tE f len q) 0 o cl sz st dp = fn_Setup_checkFirstWord_b34 (tS f len q) 0 o cl sz st dp 0 := by
    unfold fn_Setup_checkFirstWord
    rw [zk_bd T1]
    (try simp (disch := omega) only [↓zk_lt, ↓zk_nl, ↓zk_eq, ↓zk_ne, ↓zk_ix, ↓zk_dv, ↓zk_bo, ↓zk_rg, ↓zk_get, ↓zk_set, Option.bind_some])
    rw [zk_bd T4]
    (try simp (disch := omega) only [↓zk_lt, ↓zk_nl, ↓zk_eq, ↓zk_ne, ↓zk_ix, ↓zk_dv, ↓zk_bo, ↓zk_rg, ↓zk_get, ↓zk_set, Option.bind_some])
    rw [zk_bd T5]
    (try simp (disch := omega) only [↓zk_lt, ↓zk_nl, ↓zk_eq, ↓zk_ne, ↓zk_ix, ↓zk_dv, ↓zk_bo, ↓zk_rg, ↓zk_get, ↓zk_set, Option.bind_some])
  have bad : ∀ c, 1 ≤ c ∧ c ≤ 7 → fn_Setup_checkFirstWord_b34 (tS f len q) 0 o cl sz st dp 0 = some (c, tS f len q) → fn_Setup_readCord f1 len (tK f len q) (tS f len q) (tE f len q) 0 o tn nm cl sz st dp tp va nb = some (tK f len q, tS f len q, tE f len q, c, tS f len q, sz, st, dp, tp, va, nb) := fun c hc h => by
    obtain ⟨p, p1, p2⟩ := pf C' (v := 0) (by omega) (fun _ => by omega)
    unfold fn_Setup_readCord
    rw [zk_bd (hcf.trans h), zk_bd T1]
    (try simp (disch := omega) only [↓zk_lt, ↓zk_nl, ↓zk_eq, ↓zk_ne, ↓zk_ix, ↓zk_dv, ↓zk_bo, ↓zk_rg, ↓zk_get, ↓zk_set, Option.bind_some])
    rw [zk_bd T4]
    (try simp (disch := omega) only [↓zk_lt, ↓zk_nl, ↓zk_eq, ↓zk_ne, ↓zk_ix, ↓zk_dv, ↓zk_bo, ↓zk_rg, ↓zk_get, ↓zk_set, Option.bind_some])
    rw [zk_bd (x_num hc)]
    exact x_b37 hc p1 p2
  rcases cfw C' (o := o) (s := tS f len q) (v := 0) (Or.inl rfl) with ⟨a, e⟩ | ⟨⟨a1, a2⟩, ⟨a3, e⟩ | ⟨a3, e⟩⟩
  · right
    refine ⟨tK f len q, tS f len q, tE f len q, 5, tS f len q, w, tE f len q, tS f len q, y3, mk (tK f len q), got, n, by omega, bad 5 (by omega) e, ?_⟩
    unfold fn_Md_readCord
    rw [zk_bd T2]
    have a : cl = 0 := by omega
    (try simp (disch := omega) only [↓zk_lt, ↓zk_nl, ↓zk_eq, ↓zk_ne, ↓zk_ix, ↓zk_dv, ↓zk_bo, ↓zk_rg, ↓zk_get, ↓zk_set, Option.bind_some])
    rw [zk_bd m_fail0]
    (try simp (disch := omega) only [↓zk_lt, ↓zk_nl, ↓zk_eq, ↓zk_ne, ↓zk_ix, ↓zk_dv, ↓zk_bo, ↓zk_rg, ↓zk_get, ↓zk_set, Option.bind_some])
  · right
    refine ⟨tK f len q, tS f len q, tE f len q, 6, tS f len q, w, tE f len q, tS f len q, y3, mk (tK f len q), got, n, by omega, bad 6 (by omega) e, ?_⟩
    unfold fn_Md_readCord fn_Md_readCord_b41
    rw [zk_bd T2]
    rw [if_neg (by omega)] at hmay
    (try simp (disch := omega) only [↓zk_lt, ↓zk_nl, ↓zk_eq, ↓zk_ne, ↓zk_ix, ↓zk_dv, ↓zk_bo, ↓zk_rg, ↓zk_get, ↓zk_set, Option.bind_some])
    rw [zk_bd hmay]
    (try simp (disch := omega) only [↓zk_lt, ↓zk_nl, ↓zk_eq, ↓zk_ne, ↓zk_ix, ↓zk_dv, ↓zk_bo, ↓zk_rg, ↓zk_get, ↓zk_set, Option.bind_some])
    rw [zk_bd m_fail0]
    (try simp (disch := omega) only [↓zk_lt, ↓zk_nl, ↓zk_eq, ↓zk_ne, ↓zk_ix, ↓zk_dv, ↓zk_bo, ↓zk_rg, ↓zk_get, ↓zk_set, Option.bind_some])
  · have hq1 : 0 ≤ tE f len q := by omega
    have hl1 : tE f len q ≤ len := by omega
    rw [if_pos a3] at hmay
    have E1 := tE_r (f := f) hq1 hl1
    have S1 := (tS_r (f := f) hq1 hl1).1
    obtain ⟨b1, b2, b3, b4, k1, P1⟩ := m_next H hq1 hl1 (tS f len q) y3 (mk (tK f len q))
    have comp : ∀ {v k s e2 c2 o2 : Int}, fn_Text_readNumber f1 len (tK f len q) (tS f len q) (tE f len q) 0 o 2 3 = some (v, k, s, e2, c2, o2) → fn_Setup_readCord f1 len (tK f len q) (tS f len q) (tE f len q) 0 o tn nm cl sz st dp tp va nb = fn_Setup_readCord_b37 f1 len k s e2 c2 o2 tn nm cl sz st dp tp va nb v := by
      intro v k s e2 c2 o2 h
      unfold fn_Setup_readCord
      rw [zk_bd (hcf.trans e), zk_bd T1]
      (try simp (disch := omega) only [↓zk_lt, ↓zk_nl, ↓zk_eq, ↓zk_ne, ↓zk_ix, ↓zk_dv, ↓zk_bo, ↓zk_rg, ↓zk_get, ↓zk_set, Option.bind_some])
      rw [zk_bd T4]
      (try simp (disch := omega) only [↓zk_lt, ↓zk_nl, ↓zk_eq, ↓zk_ne, ↓zk_ix, ↓zk_dv, ↓zk_bo, ↓zk_rg, ↓zk_get, ↓zk_set, Option.bind_some])
      rw [zk_bd h]
    have mod : fn_Md_readCord w f len 0 mo (tE f len q) (tS f len q) y3 (mk (tK f len q)) got n = (fn_Md_readSub w f len 0 mo (tE f len q) (tS f len q) y3 (mk (tK f len q)) got n).bind fun q91 => jk_bo q91.1 (some (q91.1, q91.2.1, q91.2.2.1, q91.2.2.2.1, q91.2.2.2.2.1, q91.2.2.2.2.2.1, q91.2.2.2.2.2.2.1, q91.2.2.2.2.2.2.2.1, q91.2.2.2.2.2.2.2.2.1, q91.2.2.2.2.2.2.2.2.2)) := by
      unfold fn_Md_readCord fn_Md_readCord_b41
      rw [zk_bd T2]
      (try simp (disch := omega) only [↓zk_lt, ↓zk_nl, ↓zk_eq, ↓zk_ne, ↓zk_ix, ↓zk_dv, ↓zk_bo, ↓zk_rg, ↓zk_get, ↓zk_set, Option.bind_some])
      rw [zk_bd hmay]
      (try simp (disch := omega) only [↓zk_lt, ↓zk_nl, ↓zk_eq, ↓zk_ne, ↓zk_ix, ↓zk_dv, ↓zk_bo, ↓zk_rg, ↓zk_get, ↓zk_set, Option.bind_some])
      rw [zk_bd T3]
      (try simp (disch := omega) only [↓zk_lt, ↓zk_nl, ↓zk_eq, ↓zk_ne, ↓zk_ix, ↓zk_dv, ↓zk_bo, ↓zk_rg, ↓zk_get, ↓zk_set, Option.bind_some])
    rcases num H hq1 hl1 (k0 := tK f len q) (s0 := tS f len q) (o := o) (mo := mo) (got := got) (lo := 2) (hi := 3) (kk := 0) (n := n) P1 (by omega) (by omega) (by omega) with ⟨v, -, -, -, -, hv, hv2, v1, -, v2, -⟩ | ⟨v, c, got', hc, v1, -, v2⟩
    · obtain ⟨rfl, rfl, rfl, hvl1⟩ := P1
      have h33 := tK_3 hq1 hl1 hv2
      have hq2 : 0 ≤ tE f len (tE f len q) := by omega
      have hl2 : tE f len (tE f len q) ≤ len := by omega
      obtain ⟨d1, d2, d3, d4, k2, P2⟩ := m_next H hq2 hl2 (tS f len (tE f len q)) b3 (mk (tK f len (tE f len q)))
      obtain ⟨k, l1, ⟨l2, l3⟩ | ⟨l2, l3, l4⟩⟩ := pf2 I M a1 (v := v) (by omega)
      · right
        subst l2
        refine ⟨tK f len (tE f len q), tS f len (tE f len q), tE f len (tE f len q), 5, tS f len (tE f len q), w, tE f len (tE f len q), tS f len (tE f len q), b3, mk (tK f len (tE f len q)), v, n, by omega, ?_, ?_⟩
        · rw [comp v1]
          unfold fn_Setup_readCord_b37
          rw [zk_bd l3]
          (try simp (disch := omega) only [↓zk_lt, ↓zk_nl, ↓zk_eq, ↓zk_ne, ↓zk_ix, ↓zk_dv, ↓zk_bo, ↓zk_rg, ↓zk_get, ↓zk_set, Option.bind_some])
          rw [zk_bd c_fail0]
          exact x_b56 (by omega)
        · rw [mod]
          unfold fn_Md_readSub
          rw [zk_bd k1]
          (try simp (disch := omega) only [↓zk_lt, ↓zk_nl, ↓zk_eq, ↓zk_ne, ↓zk_ix, ↓zk_dv, ↓zk_bo, ↓zk_rg, ↓zk_get, ↓zk_set, Option.bind_some])
          rw [zk_bd v2]
          (try simp (disch := omega) only [↓zk_lt, ↓zk_nl, ↓zk_eq, ↓zk_ne, ↓zk_ix, ↓zk_dv, ↓zk_bo, ↓zk_rg, ↓zk_get, ↓zk_set, Option.bind_some])
          rw [zk_bd l1]
          (try simp (disch := omega) only [↓zk_lt, ↓zk_nl, ↓zk_eq, ↓zk_ne, ↓zk_ix, ↓zk_dv, ↓zk_bo, ↓zk_rg, ↓zk_get, ↓zk_set, Option.bind_some])
          rw [zk_bd m_fail0]
          (try simp (disch := omega) only [↓zk_lt, ↓zk_nl, ↓zk_eq, ↓zk_ne, ↓zk_ix, ↓zk_dv, ↓zk_bo, ↓zk_rg, ↓zk_get, ↓zk_set, Option.bind_some])
      · obtain ⟨A, hk⟩ := at_sub I a1 l2.1.1 l2.1.2 l3 (d := v) hv
        have hbe := (be_r I hk l2.1.2).1
        have comp2 : fn_Setup_readCord f1 len (tK f len q) (tS f len q) (tE f len q) 0 o tn nm cl sz st dp tp va nb = fn_Setup_readCord_b56 f1 len (tK f len (tE f len q)) (tS f len (tE f len q)) (tE f len (tE f len q)) 0 o tn nm cl sz st dp tp va nb v (be sz dp k) := by
          rw [comp v1]
          unfold fn_Setup_readCord_b37
          rw [zk_bd l4]
          (try simp (disch := omega) only [↓zk_lt, ↓zk_nl, ↓zk_eq, ↓zk_ne, ↓zk_ix, ↓zk_dv, ↓zk_bo, ↓zk_rg, ↓zk_get, ↓zk_set, Option.bind_some])
        have mod2 : fn_Md_readSub w f len 0 mo (tE f len q) (tS f len q) y3 (mk (tK f len q)) got n = (fn_Md_takesCord w f len 0 mo d1 d2 d3 d4 v n (be sz dp k) v).bind fun q91 => jk_bo q91.1 (some (q91.1, q91.2.1, q91.2.2.1, q91.2.2.2.1, q91.2.2.2.2.1, q91.2.2.2.2.2.1, q91.2.2.2.2.2.2.1, q91.2.2.2.2.2.2.2.1, q91.2.2.2.2.2.2.2.2.1, q91.2.2.2.2.2.2.2.2.2)) := by
          unfold fn_Md_readSub
          rw [zk_bd k1]
          (try simp (disch := omega) only [↓zk_lt, ↓zk_nl, ↓zk_eq, ↓zk_ne, ↓zk_ix, ↓zk_dv, ↓zk_bo, ↓zk_rg, ↓zk_get, ↓zk_set, Option.bind_some])
          rw [zk_bd v2]
          (try simp (disch := omega) only [↓zk_lt, ↓zk_nl, ↓zk_eq, ↓zk_ne, ↓zk_ix, ↓zk_dv, ↓zk_bo, ↓zk_rg, ↓zk_get, ↓zk_set, Option.bind_some])
          rw [zk_bd l1]
          (try simp (disch := omega) only [↓zk_lt, ↓zk_nl, ↓zk_eq, ↓zk_ne, ↓zk_ix, ↓zk_dv, ↓zk_bo, ↓zk_rg, ↓zk_get, ↓zk_set, Option.bind_some])
          rw [zk_bd k2]
          (try simp (disch := omega) only [↓zk_lt, ↓zk_nl, ↓zk_eq, ↓zk_ne, ↓zk_ix, ↓zk_dv, ↓zk_bo, ↓zk_rg, ↓zk_get, ↓zk_set, Option.bind_some])
          rw [zk_bd (sm_be I M hk l2.1.2)]
        rcases rest H hq2 hl2 (k0 := tK f len (tE f len q)) (s0 := tS f len (tE f len q)) (o := o) (mo := mo) (got := v) (n := n) P2 C' N a1 a3 A with ⟨k', s', q', st', dp', tp', va', nb', w', x1, x2, x3, x4, got', n', r1, r2, r3, r4, r5, r6, r7⟩ | ⟨k', s', e', c, off, w', x1, x2, x3, x4, got', n', hc, r1, r2⟩
        · left
          refine ⟨k', s', q', st', dp', tp', va', nb', w', x1, x2, x3, x4, got', n', comp2.trans r1, ?_, r3, r4, r5, by omega, r7⟩
          rw [mod, mod2, zk_bd r2]
          (try simp (disch := omega) only [↓zk_lt, ↓zk_nl, ↓zk_eq, ↓zk_ne, ↓zk_ix, ↓zk_dv, ↓zk_bo, ↓zk_rg, ↓zk_get, ↓zk_set, Option.bind_some])
        · right
          refine ⟨k', s', e', c, off, w', x1, x2, x3, x4, got', n', hc, comp2.trans r1, ?_⟩
          rw [mod, mod2, zk_bd r2]
          (try simp (disch := omega) only [↓zk_lt, ↓zk_nl, ↓zk_eq, ↓zk_ne, ↓zk_ix, ↓zk_dv, ↓zk_bo, ↓zk_rg, ↓zk_get, ↓zk_set, Option.bind_some])
    · right
      have hvr := num_v H hq1 hl1 (by omega) (by omega) v1
      obtain ⟨rfl, rfl, rfl, hvl1⟩ := P1
      obtain ⟨p, p1, p2⟩ := pf C' hvr (fun h => by omega)
      refine ⟨tK f len (tE f len q), tS f len (tE f len q), tE f len (tE f len q), c, tS f len (tE f len q), w, tE f len (tE f len q), tS f len (tE f len q), b3, mk (tK f len (tE f len q)), got', n, hc, ?_, ?_⟩
      · rw [comp v1]
        exact x_b37 hc p1 p2
      · rw [mod]
        unfold fn_Md_readSub
        rw [zk_bd k1]
        (try simp (disch := omega) only [↓zk_lt, ↓zk_nl, ↓zk_eq, ↓zk_ne, ↓zk_ix, ↓zk_dv, ↓zk_bo, ↓zk_rg, ↓zk_get, ↓zk_set, Option.bind_some])
        rw [zk_bd v2]
        (try simp (disch := omega) only [↓zk_lt, ↓zk_nl, ↓zk_eq, ↓zk_ne, ↓zk_ix, ↓zk_dv, ↓zk_bo, ↓zk_rg, ↓zk_get, ↓zk_set, Option.bind_some])
theorem c_none (C : pC tn cl sz st dp tp va nb w)
    (T1 : fn_Text_isWord f1 (tK f len q) (tS f len q) (tE f len q) [116, 111, 112] = some 0) (T4 : fn_Text_isWord f1 (tK f len q) (tS f len q) (tE f len q) [112, 101, 110, 100, 97, 110, 116] = some 0) (T5 : fn_Text_isWord f1 (tK f len q) (tS f len q) (tE f len q) [115, 117, 98] = some 0) :
    fn_Setup_readCord f1 len (tK f len q) (tS f len q) (tE f len q) 0 o tn nm cl sz st dp tp va nb = some (tK f len q, tS f len q, tE f len q, 1, tS f len q, sz, st, dp, tp, va, nb) := by
  obtain ⟨p, p1, p2⟩ := pf C (v := 0) (by omega) (fun _ => by omega)
  have hcf : fn_Setup_checkFirstWord f1 (tK f len q) (tS f len q) (tE f len q) 0 o cl sz st dp = some (1, tS f len q) := by
    unfold fn_Setup_checkFirstWord
    rw [zk_bd T1]
    (try simp (disch := omega) only [↓zk_lt, ↓zk_nl, ↓zk_eq, ↓zk_ne, ↓zk_ix, ↓zk_dv, ↓zk_bo, ↓zk_rg, ↓zk_get, ↓zk_set, Option.bind_some])
    rw [zk_bd T4]
    (try simp (disch := omega) only [↓zk_lt, ↓zk_nl, ↓zk_eq, ↓zk_ne, ↓zk_ix, ↓zk_dv, ↓zk_bo, ↓zk_rg, ↓zk_get, ↓zk_set, Option.bind_some])
    rw [zk_bd T5]
    (try simp (disch := omega) only [↓zk_lt, ↓zk_nl, ↓zk_eq, ↓zk_ne, ↓zk_ix, ↓zk_dv, ↓zk_bo, ↓zk_rg, ↓zk_get, ↓zk_set, Option.bind_some])
    rw [zk_bd c_fail0]
    exact x_cfw C (by omega) (Or.inl rfl)
  unfold fn_Setup_readCord
  rw [zk_bd hcf, zk_bd T1]
  (try simp (disch := omega) only [↓zk_lt, ↓zk_nl, ↓zk_eq, ↓zk_ne, ↓zk_ix, ↓zk_dv, ↓zk_bo, ↓zk_rg, ↓zk_get, ↓zk_set, Option.bind_some])
  rw [zk_bd T4]
  (try simp (disch := omega) only [↓zk_lt, ↓zk_nl, ↓zk_eq, ↓zk_ne, ↓zk_ix, ↓zk_dv, ↓zk_bo, ↓zk_rg, ↓zk_get, ↓zk_set, Option.bind_some])
  rw [zk_bd (x_num (by omega))]
  exact x_b37 (c := 1) (by omega) p1 p2
end PT6
