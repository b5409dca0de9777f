/-! the loop over a setup text, and loadCords -/
section PT7
variable {len : Int} {f f1 : Int → Int}
theorem c_ns (H : pB len f1 f) {q k0 s0 : Int} (hq : 0 ≤ q) (hl : q ≤ len) : fn_Text_nextStatement f1 len k0 s0 q 0 = some (if tK f len q = 0 then 0 else 1, tK f len q, tS f len q, tE f len q) := by
  have hb := H.1
  have hk := tK_r (f := f) hq hl
  unfold fn_Text_nextStatement
  rw [zk_bd c_hf0]
  (try simp (disch := omega) only [↓zk_lt, ↓zk_nl, ↓zk_eq, ↓zk_ne, ↓zk_ix, ↓zk_dv, ↓zk_bo, ↓zk_rg, ↓zk_get, ↓zk_set, Option.bind_some])
  rw [zk_bd (c_next H hq hl)]
  by_cases a : tK f len q = 0
  · (try simp (disch := omega) only [↓zk_lt, ↓zk_nl, ↓zk_eq, ↓zk_ne, ↓zk_ix, ↓zk_dv, ↓zk_bo, ↓zk_rg, ↓zk_get, ↓zk_set, Option.bind_some])
    rw [if_pos a]
  · (try simp (disch := omega) only [↓zk_lt, ↓zk_nl, ↓zk_eq, ↓zk_ne, ↓zk_ix, ↓zk_dv, ↓zk_bo, ↓zk_rg, ↓zk_get, ↓zk_set, Option.bind_some])
    rw [if_neg a]
theorem x_loop {c o k s e tn cl sz i : Int} {nm st dp tp va nb : Int → Int} (h : 1 ≤ c ∧ c ≤ 7) (ht : 0 ≤ tn ∧ tn ≤ 8) (hi : 0 ≤ i ∧ i ≤ 700) {n : Nat} (hn : 1 ≤ n) : fn_Setup_parse_b14 n f1 len k s e c o tn nm cl sz st dp tp va nb i = some (k, s, e, c, o, tn, nm, cl, sz, st, dp, tp, va, nb) := by
  obtain ⟨m, rfl⟩ : ∃ m, n = m + 1 := ⟨n - 1, by omega⟩
  rw [fn_Setup_parse_b14]
  (try simp (disch := omega) only [↓zk_lt, ↓zk_nl, ↓zk_eq, ↓zk_ne, ↓zk_ix, ↓zk_dv, ↓zk_bo, ↓zk_rg, ↓zk_get, ↓zk_set, Option.bind_some])
  rw [zk_bd (x_ns h)]
  by_cases a : tn = 0
  · (try simp (disch := omega) only [↓zk_lt, ↓zk_nl, ↓zk_eq, ↓zk_ne, ↓zk_ix, ↓zk_dv, ↓zk_bo, ↓zk_rg, ↓zk_get, ↓zk_set, Option.bind_some])
    rw [zk_bd (c_fail h)]
  · (try simp (disch := omega) only [↓zk_lt, ↓zk_nl, ↓zk_eq, ↓zk_ne, ↓zk_ix, ↓zk_dv, ↓zk_bo, ↓zk_rg, ↓zk_get, ↓zk_set, Option.bind_some])
/-- one statement, on both sides -/
def oStep (f f1 : Int → Int) (len q k0 s0 o tn cl sz : Int) (nm st dp tp va nb w : Int → Int) (y1 y2 y3 y4 got : Int) (nn : Int → Int) (n : Nat) (i : Int) : Prop :=
  (∃ k' s' q' tn' cl' sz' nm' st' dp' tp' va' nb' w' x1 x2 x3 x4 got' n', fn_Setup_parse_b14 (n + 1) f1 len k0 s0 q 0 o tn nm cl sz st dp tp va nb i = fn_Setup_parse_b14 n f1 len k' s' q' 0 o tn' nm' cl' sz' st' dp' tp' va' nb' (i + 1) ∧ fn_Md_readSetupStatement w f len 0 o y1 y2 y3 y4 got nn = some (1, w', 0, o, x1, x2, x3, x4, got', n') ∧ pTk f len q' x1 x2 x3 x4 ∧ pC tn' cl' sz' st' dp' tp' va' nb' w' ∧ pN tn' nm' w' ∧ (q < q' ∧ q' ≤ len)) ∨
  (∃ k' s' e' c off tn' cl' sz' nm' st' dp' tp' va' nb' w' x1 x2 x3 x4 got' n', (1 ≤ c ∧ c ≤ 7) ∧ (0 ≤ tn' ∧ tn' ≤ 8) ∧ fn_Setup_parse_b14 (n + 1) f1 len k0 s0 q 0 o tn nm cl sz st dp tp va nb i = fn_Setup_parse_b14 n f1 len k' s' e' c off tn' nm' cl' sz' st' dp' tp' va' nb' (i + 1) ∧ fn_Md_readSetupStatement w f len 0 o y1 y2 y3 y4 got nn = some (0, w', c, off, x1, x2, x3, x4, got', n') ∧ pDr st' dp')
variable {q k0 s0 o tn cl sz y1 y2 y3 y4 got i : Int} {nm st dp tp va nb w nn : Int → Int} {n : Nat}
theorem o_topic (H : pB len f1 f) (hq : 0 ≤ q) (hl : q ≤ len) (hi : 0 ≤ i ∧ i ≤ 700) (P : pTk f len q y1 y2 y3 y4) (C : pC tn cl sz st dp tp va nb w) (N : pN tn nm w) (h2 : tK f len q = 2)
    (t1 : fn_Text_isWord f1 (tK f len q) (tS f len q) (tE f len q) [116, 111, 112, 105, 99] = some 1) (t2 : fn_Md_isWord f y1 y2 y4 [116, 111, 112, 105, 99] = some 1) : oStep f f1 len q k0 s0 o tn cl sz nm st dp tp va nb w y1 y2 y3 y4 got nn n i := by
  have hft := pC_f C
  have hns := c_ns H hq hl (k0 := k0) (s0 := s0)
  rw [if_neg (by omega)] at hns
  have comp : fn_Setup_parse_b14 (n + 1) f1 len k0 s0 q 0 o tn nm cl sz st dp tp va nb i = (fn_Setup_readTopic f1 len (tK f len q) (tS f len q) (tE f len q) 0 o tn nm).bind fun q39 => fn_Setup_parse_b14 n f1 len q39.1 q39.2.1 q39.2.2.1 q39.2.2.2.1 q39.2.2.2.2.1 q39.2.2.2.2.2.1 q39.2.2.2.2.2.2 cl sz st dp tp va nb (i + 1) := by
    rw [fn_Setup_parse_b14]
    (try simp (disch := omega) only [↓zk_lt, ↓zk_nl, ↓zk_eq, ↓zk_ne, ↓zk_ix, ↓zk_dv, ↓zk_bo, ↓zk_rg, ↓zk_get, ↓zk_set, Option.bind_some])
    rw [zk_bd hns]
    (try simp (disch := omega) only [↓zk_lt, ↓zk_nl, ↓zk_eq, ↓zk_ne, ↓zk_ix, ↓zk_dv, ↓zk_bo, ↓zk_rg, ↓zk_get, ↓zk_set, Option.bind_some])
    rw [zk_bd t1]
    (try simp (disch := omega) only [↓zk_lt, ↓zk_nl, ↓zk_eq, ↓zk_ne, ↓zk_ix, ↓zk_dv, ↓zk_bo, ↓zk_rg, ↓zk_get, ↓zk_set, Option.bind_some])
  have mod : fn_Md_readSetupStatement w f len 0 o y1 y2 y3 y4 got nn = (fn_Md_readTopic w f len 0 o y1 y2 y3 y4).bind fun q10 => jk_bo q10.1 (some (q10.1, q10.2.1, q10.2.2.1, q10.2.2.2.1, q10.2.2.2.2.1, q10.2.2.2.2.2.1, q10.2.2.2.2.2.2.1, q10.2.2.2.2.2.2.2, got, nn)) := by
    unfold fn_Md_readSetupStatement
    rw [zk_bd t2]
    (try simp (disch := omega) only [↓zk_lt, ↓zk_nl, ↓zk_eq, ↓zk_ne, ↓zk_ix, ↓zk_dv, ↓zk_bo, ↓zk_rg, ↓zk_get, ↓zk_set, Option.bind_some])
  unfold oStep
  rw [comp, mod]
  rcases st_topic H hq hl P N hft.2.2 h2 (o := o) (mo := o) with ⟨k', s', q', nm', w', x1, x2, x3, x4, u1, u2, u3, u4, u5, u6, u8⟩ | ⟨k', s', e', c, off, tn', nm', w', x1, x2, x3, x4, hc, htn, u1, u2⟩
  · left
    refine ⟨k', s', q', tn + 1, cl, sz, nm', st, dp, tp, va, nb, w', x1, x2, x3, x4, got, nn, ?_, ?_, u3, pC_tn C u5 u8, u4, u6⟩
    · rw [zk_bd u1]
    · rw [zk_bd u2]
      (try simp (disch := omega) only [↓zk_lt, ↓zk_nl, ↓zk_eq, ↓zk_ne, ↓zk_ix, ↓zk_dv, ↓zk_bo, ↓zk_rg, ↓zk_get, ↓zk_set, Option.bind_some])
  · right
    refine ⟨k', s', e', c, off, tn', cl, sz, nm', st, dp, tp, va, nb, w', x1, x2, x3, x4, got, nn, hc, htn, ?_, ?_, pDr_of C⟩
    · rw [zk_bd u1]
    · rw [zk_bd u2]
      (try simp (disch := omega) only [↓zk_lt, ↓zk_nl, ↓zk_eq, ↓zk_ne, ↓zk_ix, ↓zk_dv, ↓zk_bo, ↓zk_rg, ↓zk_get, ↓zk_set, Option.bind_some])
theorem o_cluster (H : pB len f1 f) (hq : 0 ≤ q) (hl : q ≤ len) (hi : 0 ≤ i ∧ i ≤ 700) (P : pTk f len q y1 y2 y3 y4) (C : pC tn cl sz st dp tp va nb w) (N : pN tn nm w) (h2 : tK f len q = 2)
    (t1 : fn_Text_isWord f1 (tK f len q) (tS f len q) (tE f len q) [116, 111, 112, 105, 99] = some 0) (t2 : fn_Md_isWord f y1 y2 y4 [116, 111, 112, 105, 99] = some 0) (c1 : fn_Text_isWord f1 (tK f len q) (tS f len q) (tE f len q) [99, 108, 117, 115, 116, 101, 114] = some 1) (c2 : fn_Md_isWord f y1 y2 y4 [99, 108, 117, 115, 116, 101, 114] = some 1) : oStep f f1 len q k0 s0 o tn cl sz nm st dp tp va nb w y1 y2 y3 y4 got nn n i := by
  have hft := pC_f C
  have hns := c_ns H hq hl (k0 := k0) (s0 := s0)
  rw [if_neg (by omega)] at hns
  have comp : fn_Setup_parse_b14 (n + 1) f1 len k0 s0 q 0 o tn nm cl sz st dp tp va nb i = (fn_Setup_readCluster f1 len (tK f len q) (tS f len q) (tE f len q) 0 o cl sz st).bind fun q56 => fn_Setup_parse_b14 n f1 len q56.1 q56.2.1 q56.2.2.1 q56.2.2.2.1 q56.2.2.2.2.1 tn nm q56.2.2.2.2.2.1 sz q56.2.2.2.2.2.2 dp tp va nb (i + 1) := by
    rw [fn_Setup_parse_b14]
    (try simp (disch := omega) only [↓zk_lt, ↓zk_nl, ↓zk_eq, ↓zk_ne, ↓zk_ix, ↓zk_dv, ↓zk_bo, ↓zk_rg, ↓zk_get, ↓zk_set, Option.bind_some])
    rw [zk_bd hns]
    (try simp (disch := omega) only [↓zk_lt, ↓zk_nl, ↓zk_eq, ↓zk_ne, ↓zk_ix, ↓zk_dv, ↓zk_bo, ↓zk_rg, ↓zk_get, ↓zk_set, Option.bind_some])
    rw [zk_bd t1]
    (try simp (disch := omega) only [↓zk_lt, ↓zk_nl, ↓zk_eq, ↓zk_ne, ↓zk_ix, ↓zk_dv, ↓zk_bo, ↓zk_rg, ↓zk_get, ↓zk_set, Option.bind_some])
    rw [zk_bd c1]
    (try simp (disch := omega) only [↓zk_lt, ↓zk_nl, ↓zk_eq, ↓zk_ne, ↓zk_ix, ↓zk_dv, ↓zk_bo, ↓zk_rg, ↓zk_get, ↓zk_set, Option.bind_some])
  have mod : fn_Md_readSetupStatement w f len 0 o y1 y2 y3 y4 got nn = (fn_Md_readCluster w f len 0 o y1 y2 y3 y4).bind fun q10 => jk_bo q10.1 (some (q10.1, q10.2.1, q10.2.2.1, q10.2.2.2.1, q10.2.2.2.2.1, q10.2.2.2.2.2.1, q10.2.2.2.2.2.2.1, q10.2.2.2.2.2.2.2, got, nn)) := by
    unfold fn_Md_readSetupStatement
    rw [zk_bd t2]
    (try simp (disch := omega) only [↓zk_lt, ↓zk_nl, ↓zk_eq, ↓zk_ne, ↓zk_ix, ↓zk_dv, ↓zk_bo, ↓zk_rg, ↓zk_get, ↓zk_set, Option.bind_some])
    rw [zk_bd c2]
    (try simp (disch := omega) only [↓zk_lt, ↓zk_nl, ↓zk_eq, ↓zk_ne, ↓zk_ix, ↓zk_dv, ↓zk_bo, ↓zk_rg, ↓zk_get, ↓zk_set, Option.bind_some])
  unfold oStep
  rw [comp, mod]
  rcases st_cluster H hq hl P C h2 (o := o) (mo := o) with ⟨k', s', q', st', w', x1, x2, x3, x4, u1, u2, u3, u4, u5, u6⟩ | ⟨k', s', e', c, off, cl', st', w', x1, x2, x3, x4, hc, hs0, u1, u2⟩
  · left
    refine ⟨k', s', q', tn, cl + 1, sz, nm, st', dp, tp, va, nb, w', x1, x2, x3, x4, got, nn, ?_, ?_, u3, u4, pN_U N hft.2.2.2 u5, u6⟩
    · rw [zk_bd u1]
    · rw [zk_bd u2]
      (try simp (disch := omega) only [↓zk_lt, ↓zk_nl, ↓zk_eq, ↓zk_ne, ↓zk_ix, ↓zk_dv, ↓zk_bo, ↓zk_rg, ↓zk_get, ↓zk_set, Option.bind_some])
  · right
    refine ⟨k', s', e', c, off, tn, cl', sz, nm, st', dp, tp, va, nb, w', x1, x2, x3, x4, got, nn, hc, hft.2.2, ?_, ?_, hs0, (pDr_of C).2⟩
    · rw [zk_bd u1]
    · rw [zk_bd u2]
      (try simp (disch := omega) only [↓zk_lt, ↓zk_nl, ↓zk_eq, ↓zk_ne, ↓zk_ix, ↓zk_dv, ↓zk_bo, ↓zk_rg, ↓zk_get, ↓zk_set, Option.bind_some])
theorem o_comp (H : pB len f1 f) (hq : 0 ≤ q) (hl : q ≤ len) (hi : 0 ≤ i ∧ i ≤ 700) (h2 : ¬ tK f len q = 0) (t1 : fn_Text_isWord f1 (tK f len q) (tS f len q) (tE f len q) [116, 111, 112, 105, 99] = some 0) (c1 : fn_Text_isWord f1 (tK f len q) (tS f len q) (tE f len q) [99, 108, 117, 115, 116, 101, 114] = some 0) :
    fn_Setup_parse_b14 (n + 1) f1 len k0 s0 q 0 o tn nm cl sz st dp tp va nb i = (fn_Setup_readCord f1 len (tK f len q) (tS f len q) (tE f len q) 0 o tn nm cl sz st dp tp va nb).bind fun q65 => fn_Setup_parse_b14 n f1 len q65.1 q65.2.1 q65.2.2.1 q65.2.2.2.1 q65.2.2.2.2.1 tn nm cl q65.2.2.2.2.2.1 q65.2.2.2.2.2.2.1 q65.2.2.2.2.2.2.2.1 q65.2.2.2.2.2.2.2.2.1 q65.2.2.2.2.2.2.2.2.2.1 q65.2.2.2.2.2.2.2.2.2.2 (i + 1) := by
  have hns := c_ns H hq hl (k0 := k0) (s0 := s0)
  rw [if_neg h2] at hns
  rw [fn_Setup_parse_b14]
  (try simp (disch := omega) only [↓zk_lt, ↓zk_nl, ↓zk_eq, ↓zk_ne, ↓zk_ix, ↓zk_dv, ↓zk_bo, ↓zk_rg, ↓zk_get, ↓zk_set, Option.bind_some])
  rw [zk_bd hns]
  (try simp (disch := omega) only [↓zk_lt, ↓zk_nl, ↓zk_eq, ↓zk_ne, ↓zk_ix, ↓zk_dv, ↓zk_bo, ↓zk_rg, ↓zk_get, ↓zk_set, Option.bind_some])
  rw [zk_bd t1]
  (try simp (disch := omega) only [↓zk_lt, ↓zk_nl, ↓zk_eq, ↓zk_ne, ↓zk_ix, ↓zk_dv, ↓zk_bo, ↓zk_rg, ↓zk_get, ↓zk_set, Option.bind_some])
  rw [zk_bd c1]
  (try simp (disch := omega) only [↓zk_lt, ↓zk_nl, ↓zk_eq, ↓zk_ne, ↓zk_ix, ↓zk_dv, ↓zk_bo, ↓zk_rg, ↓zk_get, ↓zk_set, Option.bind_some])
theorem o_ok (H : pB len f1 f) (hq : 0 ≤ q) (hl : q ≤ len) (hi : 0 ≤ i ∧ i ≤ 700) (C : pC tn cl sz st dp tp va nb w) (N : pN tn nm w) (h2 : ¬ tK f len q = 0) (t1 : fn_Text_isWord f1 (tK f len q) (tS f len q) (tE f len q) [116, 111, 112, 105, 99] = some 0) (c1 : fn_Text_isWord f1 (tK f len q) (tS f len q) (tE f len q) [99, 108, 117, 115, 116, 101, 114] = some 0)
    (mod : fn_Md_readSetupStatement w f len 0 o y1 y2 y3 y4 got nn = (fn_Md_readCord w f len 0 o y1 y2 y3 y4 got nn).bind fun q56 => jk_bo q56.1 (some (q56.1, q56.2.1, q56.2.2.1, q56.2.2.2.1, q56.2.2.2.2.1, q56.2.2.2.2.2.1, q56.2.2.2.2.2.2.1, q56.2.2.2.2.2.2.2.1, q56.2.2.2.2.2.2.2.2.1, q56.2.2.2.2.2.2.2.2.2)))
    (h : cOk f f1 len q cl sz tn st dp tp va nb w nm y1 y2 y3 y4 o o got nn ∨ cNo f f1 len q cl sz tn st dp tp va nb w nm y1 y2 y3 y4 o o got nn) : oStep f f1 len q k0 s0 o tn cl sz nm st dp tp va nb w y1 y2 y3 y4 got nn n i := by
  have hft := pC_f C
  unfold oStep
  rw [o_comp H hq hl hi h2 t1 c1, mod]
  rcases h with ⟨k', s', q', st', dp', tp', va', nb', w', x1, x2, x3, x4, got', n', u1, u2, u3, u4, u5, u6⟩ | ⟨k', s', e', c, off, w', x1, x2, x3, x4, got', n', hc, u1, u2⟩
  · left
    refine ⟨k', s', q', tn, cl, sz + 1, nm, st', dp', tp', va', nb', w', x1, x2, x3, x4, got', n', ?_, ?_, u3, u4, pN_U N hft.2.2.2 u5, u6⟩
    · rw [zk_bd u1]
    · rw [zk_bd u2]
      (try simp (disch := omega) only [↓zk_lt, ↓zk_nl, ↓zk_eq, ↓zk_ne, ↓zk_ix, ↓zk_dv, ↓zk_bo, ↓zk_rg, ↓zk_get, ↓zk_set, Option.bind_some])
  · right
    refine ⟨k', s', e', c, off, tn, cl, sz, nm, st, dp, tp, va, nb, w', x1, x2, x3, x4, got', n', hc, hft.2.2, ?_, ?_, pDr_of C⟩
    · rw [zk_bd u1]
    · rw [zk_bd u2]
      (try simp (disch := omega) only [↓zk_lt, ↓zk_nl, ↓zk_eq, ↓zk_ne, ↓zk_ix, ↓zk_dv, ↓zk_bo, ↓zk_rg, ↓zk_get, ↓zk_set, Option.bind_some])
theorem o_none (H : pB len f1 f) (hq : 0 ≤ q) (hl : q ≤ len) (hi : 0 ≤ i ∧ i ≤ 700) (P : pTk f len q y1 y2 y3 y4) (C : pC tn cl sz st dp tp va nb w) (h2 : ¬ tK f len q = 0) (t1 : fn_Text_isWord f1 (tK f len q) (tS f len q) (tE f len q) [116, 111, 112, 105, 99] = some 0) (t2 : fn_Md_isWord f y1 y2 y4 [116, 111, 112, 105, 99] = some 0) (c1 : fn_Text_isWord f1 (tK f len q) (tS f len q) (tE f len q) [99, 108, 117, 115, 116, 101, 114] = some 0) (c2 : fn_Md_isWord f y1 y2 y4 [99, 108, 117, 115, 116, 101, 114] = some 0)
    (a1 : fn_Text_isWord f1 (tK f len q) (tS f len q) (tE f len q) [116, 111, 112] = some 0) (a2 : fn_Md_isWord f y1 y2 y4 [116, 111, 112] = some 0) (b1 : fn_Text_isWord f1 (tK f len q) (tS f len q) (tE f len q) [112, 101, 110, 100, 97, 110, 116] = some 0) (b2 : fn_Md_isWord f y1 y2 y4 [112, 101, 110, 100, 97, 110, 116] = some 0) (d1 : fn_Text_isWord f1 (tK f len q) (tS f len q) (tE f len q) [115, 117, 98] = some 0) (d2 : fn_Md_isWord f y1 y2 y4 [115, 117, 98] = some 0) : oStep f f1 len q k0 s0 o tn cl sz nm st dp tp va nb w y1 y2 y3 y4 got nn n i := by
  have hft := pC_f C
  unfold oStep
  rw [o_comp H hq hl hi h2 t1 c1]
  right
  refine ⟨tK f len q, tS f len q, tE f len q, 1, tS f len q, tn, cl, sz, nm, st, dp, tp, va, nb, w, y1, y2, y3, y4, got, nn, by omega, hft.2.2, ?_, ?_, pDr_of C⟩
  · rw [zk_bd (c_none C a1 b1 d1)]
  · unfold fn_Md_readSetupStatement
    rw [zk_bd t2]
    (try simp (disch := omega) only [↓zk_lt, ↓zk_nl, ↓zk_eq, ↓zk_ne, ↓zk_ix, ↓zk_dv, ↓zk_bo, ↓zk_rg, ↓zk_get, ↓zk_set, Option.bind_some])
    rw [zk_bd c2]
    (try simp (disch := omega) only [↓zk_lt, ↓zk_nl, ↓zk_eq, ↓zk_ne, ↓zk_ix, ↓zk_dv, ↓zk_bo, ↓zk_rg, ↓zk_get, ↓zk_set, Option.bind_some])
    rw [zk_bd a2]
    (try simp (disch := omega) only [↓zk_lt, ↓zk_nl, ↓zk_eq, ↓zk_ne, ↓zk_ix, ↓zk_dv, ↓zk_bo, ↓zk_rg, ↓zk_get, ↓zk_set, Option.bind_some])
    rw [zk_bd b2]
    (try simp (disch := omega) only [↓zk_lt, ↓zk_nl, ↓zk_eq, ↓zk_ne, ↓zk_ix, ↓zk_dv, ↓zk_bo, ↓zk_rg, ↓zk_get, ↓zk_set, Option.bind_some])
    rw [zk_bd d2]
    (try simp (disch := omega) only [↓zk_lt, ↓zk_nl, ↓zk_eq, ↓zk_ne, ↓zk_ix, ↓zk_dv, ↓zk_bo, ↓zk_rg, ↓zk_get, ↓zk_set, Option.bind_some])
    rw [zk_bd m_fail0, P.2.1]
    (try simp (disch := omega) only [↓zk_lt, ↓zk_nl, ↓zk_eq, ↓zk_ne, ↓zk_ix, ↓zk_dv, ↓zk_bo, ↓zk_rg, ↓zk_get, ↓zk_set, Option.bind_some])
theorem o_mod {r1 r2 r3 : Int} (t2 : fn_Md_isWord f y1 y2 y4 [116, 111, 112, 105, 99] = some 0) (c2 : fn_Md_isWord f y1 y2 y4 [99, 108, 117, 115, 116, 101, 114] = some 0) (a2 : fn_Md_isWord f y1 y2 y4 [116, 111, 112] = some r1) (b2 : fn_Md_isWord f y1 y2 y4 [112, 101, 110, 100, 97, 110, 116] = some r2) (d2 : fn_Md_isWord f y1 y2 y4 [115, 117, 98] = some r3) (a3 : r1 = 0 ∨ r1 = 1) (b3 : r2 = 0 ∨ r2 = 1) (h : r1 = 1 ∨ r2 = 1 ∨ r3 = 1) : fn_Md_readSetupStatement w f len 0 o y1 y2 y3 y4 got nn = (fn_Md_readCord w f len 0 o y1 y2 y3 y4 got nn).bind fun q56 => jk_bo q56.1 (some (q56.1, q56.2.1, q56.2.2.1, q56.2.2.2.1, q56.2.2.2.2.1, q56.2.2.2.2.2.1, q56.2.2.2.2.2.2.1, q56.2.2.2.2.2.2.2.1, q56.2.2.2.2.2.2.2.2.1, q56.2.2.2.2.2.2.2.2.2)) := by
  unfold fn_Md_readSetupStatement
  rw [zk_bd t2]
  (try simp (disch := omega) only [↓zk_lt, ↓zk_nl, ↓zk_eq, ↓zk_ne, ↓zk_ix, ↓zk_dv, ↓zk_bo, ↓zk_rg, ↓zk_get, ↓zk_set, Option.bind_some])
  rw [zk_bd c2]
  (try simp (disch := omega) only [↓zk_lt, ↓zk_nl, ↓zk_eq, ↓zk_ne, ↓zk_ix, ↓zk_dv, ↓zk_bo, ↓zk_rg, ↓zk_get, ↓zk_set, Option.bind_some])
  rw [zk_bd a2]
  rcases a3 with rfl | rfl
  · (try simp (disch := omega) only [↓zk_lt, ↓zk_nl, ↓zk_eq, ↓zk_ne, ↓zk_ix, ↓zk_dv, ↓zk_bo, ↓zk_rg, ↓zk_get, ↓zk_set, Option.bind_some])
    rw [zk_bd b2]
    rcases b3 with rfl | rfl
    · have e : r3 = 1 := by omega
      rw [e] at d2
      (try simp (disch := omega) only [↓zk_lt, ↓zk_nl, ↓zk_eq, ↓zk_ne, ↓zk_ix, ↓zk_dv, ↓zk_bo, ↓zk_rg, ↓zk_get, ↓zk_set, Option.bind_some])
      rw [zk_bd d2]
      (try simp (disch := omega) only [↓zk_lt, ↓zk_nl, ↓zk_eq, ↓zk_ne, ↓zk_ix, ↓zk_dv, ↓zk_bo, ↓zk_rg, ↓zk_get, ↓zk_set, Option.bind_some])
    · (try simp (disch := omega) only [↓zk_lt, ↓zk_nl, ↓zk_eq, ↓zk_ne, ↓zk_ix, ↓zk_dv, ↓zk_bo, ↓zk_rg, ↓zk_get, ↓zk_set, Option.bind_some])
  · (try simp (disch := omega) only [↓zk_lt, ↓zk_nl, ↓zk_eq, ↓zk_ne, ↓zk_ix, ↓zk_dv, ↓zk_bo, ↓zk_rg, ↓zk_get, ↓zk_set, Option.bind_some])
theorem o_all (H : pB len f1 f) (hq : 0 ≤ q) (hl : q ≤ len) (hi : 0 ≤ i ∧ i ≤ 700) (P : pTk f len q y1 y2 y3 y4) (C : pC tn cl sz st dp tp va nb w) (N : pN tn nm w) (h2 : ¬ tK f len q = 0) : oStep f f1 len q k0 s0 o tn cl sz nm st dp tp va nb w y1 y2 y3 y4 got nn n i := by
  obtain ⟨rT, t1, t2, t3, t4⟩ := isw H hq hl P [116, 111, 112, 105, 99] (by decide) (by decide) (by decide)
  obtain ⟨rC, c1, c2, c3, c4⟩ := isw H hq hl P [99, 108, 117, 115, 116, 101, 114] (by decide) (by decide) (by decide)
  obtain ⟨r1, a1, a2, a3, a4⟩ := isw H hq hl P [116, 111, 112] (by decide) (by decide) (by decide)
  obtain ⟨r2, b1, b2, b3, b4⟩ := isw H hq hl P [112, 101, 110, 100, 97, 110, 116] (by decide) (by decide) (by decide)
  obtain ⟨r3, d1, d2, d3, d4⟩ := isw H hq hl P [115, 117, 98] (by decide) (by decide) (by decide)
  simp only [List.length_cons, List.length_nil, List.getD_cons_zero] at t4 c4 a4 b4 d4
  rcases t3 with rfl | rfl
  · rcases c3 with rfl | rfl
    · rcases a3 with rfl | rfl
      · rcases b3 with rfl | rfl
        · rcases d3 with rfl | rfl
          · exact o_none H hq hl hi P C h2 t1 t2 c1 c2 a1 a2 b1 b2 d1 d2
          · exact o_ok H hq hl hi C N h2 t1 c1 (o_mod t2 c2 a2 b2 d2 (by omega) (by omega) (by omega)) (c_sub H hq hl P C N (d4 rfl).1 a1 a2 d2 b1 d1)
        · have e3 : r3 = 0 := by
            rcases d3 with h | h
            · exact h
            · have := d4 h; have := b4 rfl; omega
          rw [e3] at d2
          exact o_ok H hq hl hi C N h2 t1 c1 (o_mod t2 c2 a2 b2 d2 (by omega) (by omega) (by omega)) (c_pend H hq hl P C N (b4 rfl).1 a1 a2 d2 b1)
      · have e3 : r3 = 0 := by
          rcases d3 with h | h
          · exact h
          · have := d4 h; have := a4 rfl; omega
        rw [e3] at d2
        exact o_ok H hq hl hi C N h2 t1 c1 (o_mod t2 c2 a2 b2 d2 (by omega) b3 (by omega)) (c_top H hq hl P C N (a4 rfl).1 a1 a2 d2)
    · exact o_cluster H hq hl hi P C N (c4 rfl).1 t1 t2 c1 c2
  · exact o_topic H hq hl hi P C N (t4 rfl).1 t1 t2
end PT7
