/-! the loop over a setup text, and loadCords -/
section PT8
variable {len : Int} {f f1 : Int → Int}
theorem loop (H : pB len f1 f) {o : Int} : ∀ (n : Nat) (q k0 s0 i tn cl sz y1 y2 y3 y4 got : Int) (nm st dp tp va nb w nn : Int → Int), 0 ≤ q → q ≤ len → len - q + 2 ≤ n → 0 ≤ i ∧ i ≤ q → pTk f len q y1 y2 y3 y4 → pC tn cl sz st dp tp va nb w → pN tn nm w →
    (∃ k' s' e' tn' cl' sz' nm' st' dp' tp' va' nb' w' x1 x2 x3 x4 got' n', fn_Setup_parse_b14 n f1 len k0 s0 q 0 o tn nm cl sz st dp tp va nb i = some (k', s', e', 0, o, tn', nm', cl', sz', st', dp', tp', va', nb') ∧ fn_Md_readText_b4 n w f len 0 o y1 y2 y3 y4 got nn = some (1, w', 0, o, x1, x2, x3, x4, got', n') ∧ pC tn' cl' sz' st' dp' tp' va' nb' w' ∧ pN tn' nm' w') ∨
    (∃ k' s' e' c off tn' cl' sz' nm' st' dp' tp' va' nb' w' x1 x2 x3 x4 got' n', (1 ≤ c ∧ c ≤ 7) ∧ fn_Setup_parse_b14 n f1 len k0 s0 q 0 o tn nm cl sz st dp tp va nb i = some (k', s', e', c, off, tn', nm', cl', sz', st', dp', tp', va', nb') ∧ fn_Md_readText_b4 n w f len 0 o y1 y2 y3 y4 got nn = some (0, w', c, off, x1, x2, x3, x4, got', n') ∧ pDr st' dp') := by
  have hb := H.1
  intro n
  induction n with
  | zero => intro q; intros; omega
  | succ n ih =>
    intro q k0 s0 i tn cl sz y1 y2 y3 y4 got nm st dp tp va nb w nn hq hl hn hi P C N
    have hft := pC_f C
    have hk := tK_r (f := f) hq hl
    have hns := c_ns H hq hl (k0 := k0) (s0 := s0)
    have hw0 := N.1
    rw [fn_Md_readText_b4]
    by_cases a : tK f len q = 0
    · rw [if_pos a] at hns
      rw [fn_Setup_parse_b14]
      have e4 : y4 = 0 := by rw [P.2.2.1, a]; rfl
      have e2 : y2 = tS f len q := P.2.1
      by_cases b : tn = 0
      · right
        refine ⟨tK f len q, tS f len q, tE f len q, 7, tS f len q, tn, cl, sz, nm, st, dp, tp, va, nb, w, y1, y2, y3, y4, got, nn, by omega, ?_, ?_, pDr_of C⟩
        · (try simp (disch := omega) only [↓zk_lt, ↓zk_nl, ↓zk_eq, ↓zk_ne, ↓zk_ix, ↓zk_dv, ↓zk_bo, ↓zk_rg, ↓zk_get, ↓zk_set, Option.bind_some])
          rw [zk_bd hns]
          (try simp (disch := omega) only [↓zk_lt, ↓zk_nl, ↓zk_eq, ↓zk_ne, ↓zk_ix, ↓zk_dv, ↓zk_bo, ↓zk_rg, ↓zk_get, ↓zk_set, Option.bind_some])
          rw [zk_bd c_fail0]
        · (try simp (disch := omega) only [↓zk_lt, ↓zk_nl, ↓zk_eq, ↓zk_ne, ↓zk_ix, ↓zk_dv, ↓zk_bo, ↓zk_rg, ↓zk_get, ↓zk_set, Option.bind_some])
          rw [zk_bd m_fail0, e2]
          (try simp (disch := omega) only [↓zk_lt, ↓zk_nl, ↓zk_eq, ↓zk_ne, ↓zk_ix, ↓zk_dv, ↓zk_bo, ↓zk_rg, ↓zk_get, ↓zk_set, Option.bind_some])
      · left
        refine ⟨tK f len q, tS f len q, tE f len q, tn, cl, sz, nm, st, dp, tp, va, nb, w, y1, y2, y3, y4, got, nn, ?_, ?_, C, N⟩
        · (try simp (disch := omega) only [↓zk_lt, ↓zk_nl, ↓zk_eq, ↓zk_ne, ↓zk_ix, ↓zk_dv, ↓zk_bo, ↓zk_rg, ↓zk_get, ↓zk_set, Option.bind_some])
          rw [zk_bd hns]
          (try simp (disch := omega) only [↓zk_lt, ↓zk_nl, ↓zk_eq, ↓zk_ne, ↓zk_ix, ↓zk_dv, ↓zk_bo, ↓zk_rg, ↓zk_get, ↓zk_set, Option.bind_some])
        · (try simp (disch := omega) only [↓zk_lt, ↓zk_nl, ↓zk_eq, ↓zk_ne, ↓zk_ix, ↓zk_dv, ↓zk_bo, ↓zk_rg, ↓zk_get, ↓zk_set, Option.bind_some])
    · have e4 : y4 = tK f len q - 1 := by rw [P.2.2.1]; unfold mk; rw [if_neg a]
      have hS := (tS_r (f := f) hq hl).1
      have hlt : tS f len q < len := by
        by_cases z : tS f len q = len
        · exact absurd (hk.2.1.mpr z) a
        · omega
      rcases o_all H hq hl (by omega) P C N a (o := o) (k0 := k0) (s0 := s0) (got := got) (nn := nn) (n := n) (i := i) with ⟨k', s', q', tn', cl', sz', nm', st', dp', tp', va', nb', w', x1, x2, x3, x4, got', n', u1, u2, u3, u4, u5, u6⟩ | ⟨k', s', e', c, off, tn', cl', sz', nm', st', dp', tp', va', nb', w', x1, x2, x3, x4, got', n', hc, ht, u1, u2, u3⟩
      · have hgo := ih q' k' s' (i + 1) tn' cl' sz' x1 x2 x3 x4 got' nm' st' dp' tp' va' nb' w' n' (by omega) u6.2 (by omega) (by omega) u3 u4 u5
        rw [u1]
        (try simp (disch := omega) only [↓zk_lt, ↓zk_nl, ↓zk_eq, ↓zk_ne, ↓zk_ix, ↓zk_dv, ↓zk_bo, ↓zk_rg, ↓zk_get, ↓zk_set, Option.bind_some])
        rw [zk_bd u2]
        (try simp (disch := omega) only [↓zk_lt, ↓zk_nl, ↓zk_eq, ↓zk_ne, ↓zk_ix, ↓zk_dv, ↓zk_bo, ↓zk_rg, ↓zk_get, ↓zk_set, Option.bind_some])
        exact hgo
      · right
        refine ⟨k', s', e', c, off, tn', cl', sz', nm', st', dp', tp', va', nb', w', x1, x2, x3, x4, got', n', hc, ?_, ?_, u3⟩
        · rw [u1]
          exact x_loop hc ht (by omega) (by omega)
        · (try simp (disch := omega) only [↓zk_lt, ↓zk_nl, ↓zk_eq, ↓zk_ne, ↓zk_ix, ↓zk_dv, ↓zk_bo, ↓zk_rg, ↓zk_get, ↓zk_set, Option.bind_some])
          rw [zk_bd u2]
          (try simp (disch := omega) only [↓zk_lt, ↓zk_nl, ↓zk_eq, ↓zk_ne, ↓zk_ix, ↓zk_dv, ↓zk_bo, ↓zk_rg, ↓zk_get, ↓zk_set, Option.bind_some])
theorem m_beg {w : Int → Int} : ∃ w', fn_Md_begins w = some w' ∧ ∀ j, 0 ≤ j → j < 259 → w' j = 0 := by
  have hF := jk_F_big
  have e : ∀ (n k : Nat) (u : Int → Int) (i : Int), i + k = 259 → 0 ≤ i → (∀ j, 0 ≤ j → j < i → u j = 0) → k < n → ∃ w', fn_Md_begins_b2 n u i = some w' ∧ ∀ j, 0 ≤ j → j < 259 → w' j = 0 := by
    intro n
    induction n with
    | zero => intro k u i _ _ _ h; omega
    | succ n ih =>
      intro k u i hi h0 hu hk
      rw [fn_Md_begins_b2]
      cases k with
      | zero =>
        refine ⟨u, ?_, fun j h1 h2 => hu j h1 (by omega)⟩
        (try simp (disch := omega) only [↓zk_lt, ↓zk_nl, ↓zk_eq, ↓zk_ne, ↓zk_ix, ↓zk_dv, ↓zk_bo, ↓zk_rg, ↓zk_get, ↓zk_set, Option.bind_some])
      | succ k =>
        obtain ⟨w', k1, k2⟩ := ih k (jk_up u i 0) (i + 1) (by omega) (by omega) (fun j h1 h2 => by
          by_cases x : j = i
          · exact up_eq x
          · rw [up_ne x]; exact hu j h1 (by omega)) (by omega)
        refine ⟨w', ?_, k2⟩
        (try simp (disch := omega) only [↓zk_lt, ↓zk_nl, ↓zk_eq, ↓zk_ne, ↓zk_ix, ↓zk_dv, ↓zk_bo, ↓zk_rg, ↓zk_get, ↓zk_set, Option.bind_some])
        exact k1
  unfold fn_Md_begins
  exact e jk_F 259 w 0 (by omega) (by omega) (fun j h1 h2 => by omega) (by omega)
theorem pN_ext {tn : Int} {nm nm' w w' : Int → Int} (N : pN tn nm w) (ht : tn ≤ 8) (h0 : 0 ≤ tn) (e1 : ∀ j, 0 ≤ j → j < 8 → nm' j = nm j) (e2 : ∀ j, 0 ≤ j → j < 59 → w' j = w j) : pN tn nm' w' := by
  refine ⟨by rw [e2 0 (by omega) (by omega)]; exact N.1, fun t h1 h2 => ?_⟩
  obtain ⟨n, a1, a2, a3, a4⟩ := N.2 t h1 h2
  refine ⟨n, a1, ?_, pLet_c a3 (fun i h3 h4 => e2 i (by omega) (by omega)), ?_⟩
  · rw [e2 _ (by omega) (by omega)]; exact a2
  · rw [e1 t h1 (by omega), a4]
    exact (enc_c n _ (fun i h3 h4 => e2 i (by omega) (by omega))).symm
theorem pC_w {tn cl sz : Int} {st dp tp va nb w w' : Int → Int} (C : pC tn cl sz st dp tp va nb w) (e : ∀ j, 0 ≤ j → j < 259 → w' j = w j) : pC tn cl sz st dp tp va nb w' := by
  obtain ⟨⟨g, I, M⟩, G⟩ := C
  have hs := I.1.2.1
  refine ⟨⟨g, I, ⟨by rw [e 1 (by omega) (by omega)]; exact M.1, by rw [e 2 (by omega) (by omega)]; exact M.2.1, fun k h0 h1 => ?_⟩⟩, G⟩
  rw [e _ (by omega) (by omega), e _ (by omega) (by omega), e _ (by omega) (by omega), e _ (by omega) (by omega), e _ (by omega) (by omega)]
  exact M.2.2 k h0 h1
theorem pC_0 {st dp tp va nb w : Int → Int} (D : pDr st dp) (h1 : w 1 = 0) (h2 : w 2 = 0) : pC 0 0 0 st dp tp va nb w :=
  ⟨⟨fun _ => 0, ⟨⟨by omega, by omega, by omega⟩, ⟨D.1, D.1, fun c h0 h1 => by omega⟩, fun k h0 h1 => by omega⟩, ⟨h1, h2, fun k h0 h1 => by omega⟩⟩, D.2⟩
theorem l_ok {tn cl sz dtn dcl dsz k0 s0 e0 c0 o0 hs hS rc ro k' s' e' tn' cl' sz' : Int} {nm st dp tp va nb dnm dst ddp dtp dva dnb nm' st' dp' tp' va' nb' : Int → Int} (u1 : fn_Setup_parse f1 len k0 s0 e0 c0 o0 dtn dnm dcl dsz dst ddp dtp dva dnb = some (k', s', e', 0, -1, tn', nm', cl', sz', st', dp', tp', va', nb')) :
    fn_KR_loadCords f1 len k0 s0 e0 c0 o0 tn nm cl sz st dp tp va nb dtn dnm dcl dsz dst ddp dtp dva dnb hs hS rc ro = some (sz', 0, k', s', e', 0, -1, tn', cpy 8 nm nm', cl', sz', cpy 7 st st', cpy 40 dp dp', cpy 40 tp tp', cpy 40 va va', cpy 40 nb nb', tn', nm', cl', sz', st', dp', tp', va', nb', 0, 0, 0, -1) := by
  unfold fn_KR_loadCords fn_KR_closeText fn_Topics_copyFrom
  rw [zk_bd u1]
  (try simp (disch := omega) only [↓zk_lt, ↓zk_nl, ↓zk_eq, ↓zk_ne, ↓zk_ix, ↓zk_dv, ↓zk_bo, ↓zk_rg, ↓zk_get, ↓zk_set, Option.bind_some])
  unfold fn_Text_clear
  (try simp (disch := omega) only [↓zk_lt, ↓zk_nl, ↓zk_eq, ↓zk_ne, ↓zk_ix, ↓zk_dv, ↓zk_bo, ↓zk_rg, ↓zk_get, ↓zk_set, Option.bind_some])
  rw [zk_bd (sp_cpy (n := 8) (by omega))]
  (try simp (disch := omega) only [↓zk_lt, ↓zk_nl, ↓zk_eq, ↓zk_ne, ↓zk_ix, ↓zk_dv, ↓zk_bo, ↓zk_rg, ↓zk_get, ↓zk_set, Option.bind_some])
  rw [zk_bd sp_ccpy]
  unfold fn_History_clear
  (try simp (disch := omega) only [↓zk_lt, ↓zk_nl, ↓zk_eq, ↓zk_ne, ↓zk_ix, ↓zk_dv, ↓zk_bo, ↓zk_rg, ↓zk_get, ↓zk_set, Option.bind_some])
theorem l_no {tn cl sz dtn dcl dsz k0 s0 e0 c0 o0 hs hS rc ro k' s' e' c off tn' cl' sz' : Int} {nm st dp tp va nb dnm dst ddp dtp dva dnb nm' st' dp' tp' va' nb' : Int → Int} (hc : 1 ≤ c ∧ c ≤ 7) (u1 : fn_Setup_parse f1 len k0 s0 e0 c0 o0 dtn dnm dcl dsz dst ddp dtp dva dnb = some (k', s', e', c, off, tn', nm', cl', sz', st', dp', tp', va', nb')) :
    fn_KR_loadCords f1 len k0 s0 e0 c0 o0 tn nm cl sz st dp tp va nb dtn dnm dcl dsz dst ddp dtp dva dnb hs hS rc ro = some (-1, 0, k', s', e', c, off, tn, nm, cl, sz, st, dp, tp, va, nb, tn', nm', cl', sz', st', dp', tp', va', nb', hs, hS, c, off) := by
  unfold fn_KR_loadCords fn_KR_closeText
  rw [zk_bd u1]
  (try simp (disch := omega) only [↓zk_lt, ↓zk_nl, ↓zk_eq, ↓zk_ne, ↓zk_ix, ↓zk_dv, ↓zk_bo, ↓zk_rg, ↓zk_get, ↓zk_set, Option.bind_some])
  unfold fn_Text_clear
  (try simp (disch := omega) only [↓zk_lt, ↓zk_nl, ↓zk_eq, ↓zk_ne, ↓zk_ix, ↓zk_dv, ↓zk_bo, ↓zk_rg, ↓zk_get, ↓zk_set, Option.bind_some])
theorem l_mok {pm is th le lo er of2 nx bg vl tk got od y1 y2 y3 y4 x1 x2 x3 x4 got' : Int} {w wk nn w' n' : Int → Int} (hst : fn_Md_startsText f len er of2 nx bg vl tk od = some (0, -1, y1, y2, y3, y4, 0)) (u2 : fn_Md_readText w f len 0 (-1) y1 y2 y3 y4 got nn = some (1, w', 0, -1, x1, x2, x3, x4, got', n')) :
    fn_Md_loadCords w wk pm is th f len le lo er of2 nx bg vl tk got nn od = some (w' 2, w', blk w wk 0 0, 0, 0, 0, 0, 0, -1, 0, -1, x1, x2, x3, x4, got', n', 0) := by
  unfold fn_Md_loadCords
  rw [zk_bd (sm_cpy (by omega) (by omega)), zk_bd hst]
  (try simp (disch := omega) only [↓zk_lt, ↓zk_nl, ↓zk_eq, ↓zk_ne, ↓zk_ix, ↓zk_dv, ↓zk_bo, ↓zk_rg, ↓zk_get, ↓zk_set, Option.bind_some])
  rw [zk_bd u2]
  (try simp (disch := omega) only [↓zk_lt, ↓zk_nl, ↓zk_eq, ↓zk_ne, ↓zk_ix, ↓zk_dv, ↓zk_bo, ↓zk_rg, ↓zk_get, ↓zk_set, Option.bind_some])
  unfold fn_Md_endsText
  (try simp (disch := omega) only [↓zk_lt, ↓zk_nl, ↓zk_eq, ↓zk_ne, ↓zk_ix, ↓zk_dv, ↓zk_bo, ↓zk_rg, ↓zk_get, ↓zk_set, Option.bind_some])
theorem l_mno {pm is th le lo er of2 nx bg vl tk got od y1 y2 y3 y4 x1 x2 x3 x4 got' c off : Int} {w wk nn w' n' : Int → Int} (hst : fn_Md_startsText f len er of2 nx bg vl tk od = some (0, -1, y1, y2, y3, y4, 0)) (u2 : fn_Md_readText w f len 0 (-1) y1 y2 y3 y4 got nn = some (0, w', c, off, x1, x2, x3, x4, got', n')) :
    fn_Md_loadCords w wk pm is th f len le lo er of2 nx bg vl tk got nn od = some (-1, blk (blk w wk 0 0) w' 0 0, blk w wk 0 0, pm, is, 0, 0, c, off, c, off, x1, x2, x3, x4, got', n', 0) := by
  unfold fn_Md_loadCords
  rw [zk_bd (sm_cpy (by omega) (by omega)), zk_bd hst]
  (try simp (disch := omega) only [↓zk_lt, ↓zk_nl, ↓zk_eq, ↓zk_ne, ↓zk_ix, ↓zk_dv, ↓zk_bo, ↓zk_rg, ↓zk_get, ↓zk_set, Option.bind_some])
  rw [zk_bd u2]
  (try simp (disch := omega) only [↓zk_lt, ↓zk_nl, ↓zk_eq, ↓zk_ne, ↓zk_ix, ↓zk_dv, ↓zk_bo, ↓zk_rg, ↓zk_get, ↓zk_set, Option.bind_some])
  unfold fn_Md_endsText
  (try simp (disch := omega) only [↓zk_lt, ↓zk_nl, ↓zk_eq, ↓zk_ne, ↓zk_ix, ↓zk_dv, ↓zk_bo, ↓zk_rg, ↓zk_get, ↓zk_set, Option.bind_some])
  rw [zk_bd (sm_cpy (by omega) (by omega))]
theorem l_sp {k0 s0 e0 c0 o0 dtn dcl dsz : Int} {dnm dst ddp dtp dva dnb : Int → Int} : fn_Setup_parse f1 len k0 s0 e0 c0 o0 dtn dnm dcl dsz dst ddp dtp dva dnb = fn_Setup_parse_b14 jk_F f1 len k0 s0 0 0 (-1) 0 dnm 0 0 dst ddp dtp dva dnb 0 := by
  have e1 : fn_Text_begin e0 c0 o0 = some (0, 0, -1) := rfl
  have e2 : fn_Topics_clear dtn = some 0 := rfl
  have e3 : fn_Cords_clear dcl dsz = some (0, 0) := rfl
  unfold fn_Setup_parse
  rw [zk_bd e1, zk_bd e2, zk_bd e3]
theorem l_rt {w w0 : Int → Int} {y1 y2 y3 y4 got : Int} {nn : Int → Int} (b1 : fn_Md_begins w = some w0) : fn_Md_readText w f len 0 (-1) y1 y2 y3 y4 got nn = fn_Md_readText_b4 jk_F w0 f len 0 (-1) y1 y2 y3 y4 got nn := by
  unfold fn_Md_readText
  rw [zk_bd b1]
theorem q_loadCords (H : pB len f1 f) {tn cl sz dtn dcl dsz k0 s0 e0 c0 o0 hs hS rc ro pm is th le lo er of2 nx bg vl tk got od : Int} {nm st dp tp va nb w dnm dst ddp dtp dva dnb wk nn : Int → Int} (C : pC tn cl sz st dp tp va nb w) (N : pN tn nm w) (D : pDr dst ddp) :
    ∃ r k' s' e' c off tn' cl' sz' dtn' dcl' dsz' hs' hS' pm' is' m1 m2 m3 m4 m5 m6 m7 m8 : Int, ∃ nm' st' dp' tp' va' nb' dnm' dst' ddp' dtp' dva' dnb' w' wk' nn' : Int → Int,
      fn_KR_loadCords f1 len k0 s0 e0 c0 o0 tn nm cl sz st dp tp va nb dtn dnm dcl dsz dst ddp dtp dva dnb hs hS rc ro = some (r, 0, k', s', e', c, off, tn', nm', cl', sz', st', dp', tp', va', nb', dtn', dnm', dcl', dsz', dst', ddp', dtp', dva', dnb', hs', hS', c, off) ∧
      fn_Md_loadCords w wk pm is th f len le lo er of2 nx bg vl tk got nn od = some (r, w', wk', pm', is', 0, 0, c, off, m1, m2, m3, m4, m5, m6, m7, nn', m8) ∧
      pC tn' cl' sz' st' dp' tp' va' nb' w' ∧ pN tn' nm' w' ∧ pDr dst' ddp' ∧ (-1 ≤ r ∧ r ≤ 40) ∧
      ((hs' = 0 ∧ hS' = 0 ∧ pm' = 0 ∧ is' = 0) ∨ (hs' = hs ∧ hS' = hS ∧ pm' = pm ∧ is' = is ∧ tn' = tn ∧ ∀ j, 0 ≤ j → j < 259 → w' j = w j)) := by
  have hF := jk_F_big
  have hb := H.1
  obtain ⟨w0, b1, b2⟩ := m_beg (w := w)
  obtain ⟨y1, y2, y3, y4, k1, P⟩ := m_next H (q := 0) (by omega) (by omega) bg vl tk
  have hst : fn_Md_startsText f len er of2 nx bg vl tk od = some (0, -1, y1, y2, y3, y4, 0) := by
    unfold fn_Md_startsText
    rw [zk_bd k1]
  have C0 : pC 0 0 0 dst ddp dtp dva dnb w0 := pC_0 D (b2 1 (by omega) (by omega)) (b2 2 (by omega) (by omega))
  have N0 : pN 0 dnm w0 := ⟨b2 0 (by omega) (by omega), fun t h0 h1 => by omega⟩
  rcases loop H (o := -1) jk_F 0 k0 s0 0 0 0 0 y1 y2 y3 y4 got dnm dst ddp dtp dva dnb w0 nn (by omega) (by omega) (by omega) (by omega) P C0 N0 with ⟨k', s', e', tn', cl', sz', nm', st', dp', tp', va', nb', w', x1, x2, x3, x4, got', n', u1, u2, u3, u4⟩ | ⟨k', s', e', c, off, tn', cl', sz', nm', st', dp', tp', va', nb', w', x1, x2, x3, x4, got', n', hc, u1, u2, u3⟩
  · have hft := pC_f u3
    have hw2 : w' 2 = sz' := u3.1.choose_spec.2.2.1
    refine ⟨sz', k', s', e', 0, -1, tn', cl', sz', tn', cl', sz', 0, 0, 0, 0, 0, -1, x1, x2, x3, x4, got', 0, cpy 8 nm nm', cpy 7 st st', cpy 40 dp dp', cpy 40 tp tp', cpy 40 va va', cpy 40 nb nb', nm', st', dp', tp', va', nb', w', blk w wk 0 0, n', ?_, ?_, pC_cpy u3, pN_ext u4 hft.2.2.2 hft.2.2.1 (fun j h0 h1 => cpy_in h0 h1) (fun j _ _ => rfl), pDr_of u3, by omega, Or.inl ⟨rfl, rfl, rfl, rfl⟩⟩
    · exact l_ok (l_sp.trans u1)
    · rw [l_mok hst ((l_rt b1).trans u2), hw2]
  · have e2 : ∀ j, 0 ≤ j → j < 259 → blk (blk w wk 0 0) w' 0 0 j = w j := fun j h0 h1 => by
      unfold blk
      rw [if_pos (by omega), if_pos (by omega), show (0 : Int) + (0 + (j - 0) - 0) = j by omega]
    have hft := pC_f C
    refine ⟨-1, k', s', e', c, off, tn, cl, sz, tn', cl', sz', hs, hS, pm, is, c, off, x1, x2, x3, x4, got', 0, nm, st, dp, tp, va, nb, nm', st', dp', tp', va', nb', blk (blk w wk 0 0) w' 0 0, blk w wk 0 0, n', ?_, ?_, pC_w C e2, pN_ext N hft.2.2.2 hft.2.2.1 (fun j _ _ => rfl) (fun j h0 h1 => e2 j h0 (by omega)), u3, by omega, Or.inr ⟨rfl, rfl, rfl, rfl, rfl, e2⟩⟩
    · exact l_no hc (l_sp.trans u1)
    · exact l_mno hst ((l_rt b1).trans u2)
end PT8
