/-! runScript -/
section PV2
variable {len : Int} {f f1 : Int → Int}
theorem sloop (H : pB len f1 f) {tn o pm th le lo : Int} {nm w past : Int → Int} (N : pN tn nm w) (ht : 0 ≤ tn ∧ tn ≤ 8) : ∀ (n : Nat) (q k0 s0 i y1 y2 y3 y4 got : Int) (kk k1 k2 k3 nn od nu : Int → Int), 0 ≤ q → q ≤ len → len - q + 2 ≤ n → 0 ≤ i ∧ i ≤ 30 → pTk f len q y1 y2 y3 y4 → pRl tn i kk k1 k2 k3 od nu →
    (∃ i' k' s' e' kk' k1' k2' k3' x1 x2 x3 x4 got' nn' od' nu', fn_Script_parse_b11 n i kk k1 k2 k3 f1 len k0 s0 q 0 o tn nm i = some (i', kk', k1', k2', k3', k', s', e', 0, o) ∧ fn_Md_runScript_b11 n w past pm th f len le lo 0 o y1 y2 y3 y4 got nn od nu i 1 = fn_Md_runScript_b30 w past pm th len le lo 0 o x1 x2 x3 x4 got' nn' od' nu' i' 1 ∧ pRl tn i' kk' k1' k2' k3' od' nu' ∧ (0 ≤ i' ∧ i' ≤ 30)) ∨
    (∃ i' k' s' e' c off kk' k1' k2' k3' x1 x2 x3 x4 got' nn' od' nu' i'', (1 ≤ c ∧ c ≤ 7) ∧ fn_Script_parse_b11 n i kk k1 k2 k3 f1 len k0 s0 q 0 o tn nm i = some (i', kk', k1', k2', k3', k', s', e', c, off) ∧ fn_Md_runScript_b11 n w past pm th f len le lo 0 o y1 y2 y3 y4 got nn od nu i 1 = fn_Md_runScript_b30 w past pm th len le lo c off x1 x2 x3 x4 got' nn' od' nu' i'' 0) := by
  have hb := H.1
  intro n
  induction n with
  | zero => intro q; intros; omega
  | succ n ih =>
    intro q k0 s0 i y1 y2 y3 y4 got kk k1 k2 k3 nn od nu hq hl hn hi P R
    have hk := tK_r (f := f) hq hl
    have hns := c_ns H hq hl (k0 := k0) (s0 := s0)
    by_cases a : tK f len q = 0
    · rw [if_pos a] at hns
      have e4 : y4 = 0 := by rw [P.2.2.1, a]; rfl
      left
      refine ⟨i, tK f len q, tS f len q, tE f len q, kk, k1, k2, k3, y1, y2, y3, y4, got, nn, od, nu, ?_, ?_, R, hi⟩
      · rw [fn_Script_parse_b11]
        (try simp (disch := omega) only [↓zk_lt, ↓zk_nl, ↓zk_eq, ↓zk_ne, ↓zk_ix, ↓zk_dv, ↓zk_bo, ↓zk_rg, ↓zk_get, ↓zk_set, Option.bind_some])
        rw [zk_bd hns]
        (try simp (disch := omega) only [↓zk_lt, ↓zk_nl, ↓zk_eq, ↓zk_ne, ↓zk_ix, ↓zk_dv, ↓zk_bo, ↓zk_rg, ↓zk_get, ↓zk_set, Option.bind_some])
      · rw [fn_Md_runScript_b11, zk_ne (by omega) (by omega) (by omega) (by omega) (by omega), zk_eq (by omega) (by omega) e4]
    · have e4 : y4 = tK f len q - 1 := by rw [P.2.2.1]; unfold mk; rw [if_neg a]
      have hS := (tS_r (f := f) hq hl).1
      have hlt : tS f len q < len := by
        by_cases z : tS f len q = len
        · exact absurd (hk.2.1.mpr z) a
        · omega
      rcases s_step H hq hl hi P N ht a R (o := o) (k0 := k0) (s0 := s0) (got := got) (nn := nn) (n := n) with ⟨k', s', q', kk', k1', k2', k3', x1, x2, x3, x4, got', nn', od', nu', u1, u2, u3, u4, u5, u6⟩ | ⟨k', s', e', c, off, kk', k1', k2', k3', x1, x2, x3, x4, got', nn', od', nu', i', hc, u1, u2⟩
      · have hgo := ih q' k' s' (i + 1) x1 x2 x3 x4 got' kk' k1' k2' k3' nn' od' nu' (by omega) u6.2 (by omega) (by omega) u3 u4
        have em : fn_Md_runScript_b11 (n + 1) w past pm th f len le lo 0 o y1 y2 y3 y4 got nn od nu i 1 = fn_Md_runScript_b11 n w past pm th f len le lo 0 o x1 x2 x3 x4 got' nn' od' nu' (i + 1) 1 := by
          rw [fn_Md_runScript_b11, zk_ne (by omega) (by omega) (by omega) (by omega) (by omega), zk_ne (by omega) (by omega) (by omega) (by omega) (by omega), zk_bd u2]
        rw [u1, em]
        exact hgo
      · obtain ⟨m, rfl⟩ : ∃ m, n = m + 1 := ⟨n - 1, by omega⟩
        right
        refine ⟨i + 1, k', s', e', c, off, kk', k1', k2', k3', x1, x2, x3, x4, got', nn', od', nu', i', hc, ?_, ?_⟩
        · rw [u1]
          exact x_sloop hc (by omega) (by omega)
        · rw [fn_Md_runScript_b11, zk_ne (by omega) (by omega) (by omega) (by omega) (by omega), zk_ne (by omega) (by omega) (by omega) (by omega) (by omega), zk_bd u2, fn_Md_runScript_b11, zk_eq (by omega) (by omega) (by omega)]
theorem eloop {tn Z : Int} {kk k1 k2 k3 od nu : Int → Int} (hZ : 0 ≤ Z ∧ Z ≤ 30) (R : pRl tn Z kk k1 k2 k3 od nu) {il ik is ie ic io hl hs hc hz rc ro pm th im le lo er of2 nx bg vl tk got : Int} {h1 h2 h3 h4 h5 past nn : Int → Int} : ∀ (n k : Nat) (v cl sz : Int) (st dp tp va nb w : Int → Int), v + k = Z → 0 ≤ v → pC tn cl sz st dp tp va nb w → k < n →
    ∃ r cl' sz' st' dp' tp' va' nb' w', fn_KR_runScript_b37 n il ik is ie ic io tn cl sz st dp tp va nb hl hs hc hz h1 h2 h3 h4 h5 Z kk k1 k2 k3 rc ro v = some (r, il, ik, is, ie, ic, io, cl', sz', st', dp', tp', va', nb', hl, hs, hc, hz, h1, h2, h3, h4, h5, Z, kk, k1, k2, k3, rc, ro) ∧ fn_Md_runScript_b46 n w past pm th im le lo er of2 nx bg vl tk got nn od nu Z v = some (r, w', past, pm, th, im, le, lo, er, of2, nx, bg, vl, tk, got, nn, od, nu, Z) ∧ pC tn cl' sz' st' dp' tp' va' nb' w' ∧ pU w w' ∧ (0 ≤ r ∧ r ≤ 30) := by
  intro n
  induction n with
  | zero => intro k v cl sz st dp tp va nb w _ _ _ h; omega
  | succ n ih =>
    intro k v cl sz st dp tp va nb w hv h0 C hk
    rw [fn_KR_runScript_b37, fn_Md_runScript_b46]
    cases k with
    | zero =>
      have ev : v = Z := by omega
      subst ev
      refine ⟨v, cl, sz, st, dp, tp, va, nb, w, ?_, ?_, C, pU_rfl w, hZ⟩
      · (try simp (disch := omega) only [↓zk_lt, ↓zk_nl, ↓zk_eq, ↓zk_ne, ↓zk_ix, ↓zk_dv, ↓zk_bo, ↓zk_rg, ↓zk_get, ↓zk_set, Option.bind_some])
      · (try simp (disch := omega) only [↓zk_lt, ↓zk_nl, ↓zk_eq, ↓zk_ne, ↓zk_ix, ↓zk_dv, ↓zk_bo, ↓zk_rg, ↓zk_get, ↓zk_set, Option.bind_some])
    | succ k =>
      obtain ⟨hK, ⟨p, hp, e1, e2⟩ | ⟨e1, r, cl', sz', st', dp', tp', va', nb', w', e2, e3, e4, e5⟩⟩ := e_all C (v := v) (by omega) (R v h0 (by omega))
      · refine ⟨v, cl, sz, st, dp, tp, va, nb, w, ?_, ?_, C, pU_rfl w, by omega⟩
        · (try simp (disch := omega) only [↓zk_lt, ↓zk_nl, ↓zk_eq, ↓zk_ne, ↓zk_ix, ↓zk_dv, ↓zk_bo, ↓zk_rg, ↓zk_get, ↓zk_set, Option.bind_some])
          rw [zk_bd e1]
          (try simp (disch := omega) only [↓zk_lt, ↓zk_nl, ↓zk_eq, ↓zk_ne, ↓zk_ix, ↓zk_dv, ↓zk_bo, ↓zk_rg, ↓zk_get, ↓zk_set, Option.bind_some])
        · (try simp (disch := omega) only [↓zk_lt, ↓zk_nl, ↓zk_eq, ↓zk_ne, ↓zk_ix, ↓zk_dv, ↓zk_bo, ↓zk_rg, ↓zk_get, ↓zk_set, Option.bind_some])
          rw [zk_bd e2]
          (try simp (disch := omega) only [↓zk_lt, ↓zk_nl, ↓zk_eq, ↓zk_ne, ↓zk_ix, ↓zk_dv, ↓zk_bo, ↓zk_rg, ↓zk_get, ↓zk_set, Option.bind_some])
      · obtain ⟨r2, cl2, sz2, st2, dp2, tp2, va2, nb2, w2, g1, g2, g3, g4, g5⟩ := ih k (v + 1) cl' sz' st' dp' tp' va' nb' w' (by omega) (by omega) e4 (by omega)
        refine ⟨r2, cl2, sz2, st2, dp2, tp2, va2, nb2, w2, ?_, ?_, g3, pU_tr e5 g4, g5⟩
        · (try simp (disch := omega) only [↓zk_lt, ↓zk_nl, ↓zk_eq, ↓zk_ne, ↓zk_ix, ↓zk_dv, ↓zk_bo, ↓zk_rg, ↓zk_get, ↓zk_set, Option.bind_some])
          rw [zk_bd e1]
          (try simp (disch := omega) only [↓zk_lt, ↓zk_nl, ↓zk_eq, ↓zk_ne, ↓zk_ix, ↓zk_dv, ↓zk_bo, ↓zk_rg, ↓zk_get, ↓zk_set, Option.bind_some])
          rw [zk_bd e2]
          exact g1
        · (try simp (disch := omega) only [↓zk_lt, ↓zk_nl, ↓zk_eq, ↓zk_ne, ↓zk_ix, ↓zk_dv, ↓zk_bo, ↓zk_rg, ↓zk_get, ↓zk_set, Option.bind_some])
          rw [zk_bd e3]
          (try simp (disch := omega) only [↓zk_lt, ↓zk_nl, ↓zk_eq, ↓zk_ne, ↓zk_ix, ↓zk_dv, ↓zk_bo, ↓zk_rg, ↓zk_get, ↓zk_set, Option.bind_some])
          exact g2
theorem upF_id {u : Int → Int → Int} {i : Int} : upF u i (u i) = u := by
  funext j
  unfold upF
  by_cases x : j = i
  · rw [if_pos x, x]
  · rw [if_neg x]
theorem ct_0 {off rc ro : Int} : fn_KR_closeText len 0 off rc ro = some (1, 0, 0, off) := by
  unfold fn_KR_closeText fn_Text_clear
  (try simp (disch := omega) only [↓zk_lt, ↓zk_nl, ↓zk_eq, ↓zk_ne, ↓zk_ix, ↓zk_dv, ↓zk_bo, ↓zk_rg, ↓zk_get, ↓zk_set, Option.bind_some])
theorem ct_c {c off rc ro : Int} (h : 1 ≤ c ∧ c ≤ 7) : fn_KR_closeText len c off rc ro = some (0, 0, c, off) := by
  unfold fn_KR_closeText fn_Text_clear
  (try simp (disch := omega) only [↓zk_lt, ↓zk_nl, ↓zk_eq, ↓zk_ne, ↓zk_ix, ↓zk_dv, ↓zk_bo, ↓zk_rg, ↓zk_get, ↓zk_set, Option.bind_some])
theorem r_sp {tn z k0 s0 e0 c0 o0 : Int} {kk k1 k2 k3 nm : Int → Int} : fn_Script_parse z kk k1 k2 k3 f1 len k0 s0 e0 c0 o0 tn nm = fn_Script_parse_b11 jk_F 0 kk k1 k2 k3 f1 len k0 s0 0 0 (-1) tn nm 0 := by
  have e1 : fn_Text_begin e0 c0 o0 = some (0, 0, -1) := rfl
  unfold fn_Script_parse
  rw [zk_bd e1]
theorem r_no {tn cl sz l n hc hz z rc ro k0 s0 e0 c0 o0 z' k' s' e' c off : Int} {nm st dp tp va nb h1 h2 h3 h4 h5 kk k1 k2 k3 kk' k1' k2' k3' : Int → Int} (hcc : 1 ≤ c ∧ c ≤ 7) (u : fn_Script_parse z kk k1 k2 k3 f1 len k0 s0 e0 c0 o0 tn nm = some (z', kk', k1', k2', k3', k', s', e', c, off)) :
    fn_KR_runScript f1 len k0 s0 e0 c0 o0 tn nm cl sz st dp tp va nb l n hc hz h1 h2 h3 h4 h5 z kk k1 k2 k3 rc ro = some (-1, 0, k', s', e', c, off, cl, sz, st, dp, tp, va, nb, l, n, hc, hz, h1, h2, h3, h4, h5, z', kk', k1', k2', k3', c, off) := by
  unfold fn_KR_runScript
  rw [zk_bd u, zk_bd (ct_c hcc), zk_eq (by omega) (by omega) rfl]
theorem r_ok {tn cl sz l n hc hz z rc ro k0 s0 e0 c0 o0 z' k' s' e' off l' n' hc' hz' : Int} {nm st dp tp va nb h1 h2 h3 h4 h5 kk k1 k2 k3 kk' k1' k2' k3' h1' h2' h3' h4' h5' : Int → Int} (u : fn_Script_parse z kk k1 k2 k3 f1 len k0 s0 e0 c0 o0 tn nm = some (z', kk', k1', k2', k3', k', s', e', 0, off)) (hp : fn_History_push l n hc hz h1 h2 h3 h4 h5 cl sz st dp tp va nb = some (l', n', hc', hz', h1', h2', h3', h4', h5')) :
    fn_KR_runScript f1 len k0 s0 e0 c0 o0 tn nm cl sz st dp tp va nb l n hc hz h1 h2 h3 h4 h5 z kk k1 k2 k3 rc ro = fn_KR_runScript_b37 jk_F 0 k' s' e' 0 off tn cl sz st dp tp va nb l' n' hc' hz' h1' h2' h3' h4' h5' z' kk' k1' k2' k3' 0 off 0 := by
  unfold fn_KR_runScript
  rw [zk_bd u, zk_bd ct_0, zk_ne (by omega) (by omega) (by omega) (by omega) (by show ¬ ((1 : Int) = 0); decide), zk_bd hp]
theorem r_mno {z pm th le lo er of2 nx bg vl tk got oo : Int} {w past nn od nu : Int → Int} : fn_Md_runScript_b30 w past pm th oo le lo er of2 nx bg vl tk got nn od nu z 0 = some (-1, w, past, pm, th, 0, er, of2, er, of2, nx, bg, vl, tk, got, nn, od, nu, z) := by
  have e1 : fn_Md_endsText oo le lo er of2 = some (0, er, of2) := rfl
  unfold fn_Md_runScript_b30
  rw [zk_bd e1, zk_eq (by omega) (by omega) rfl]
theorem r_mok {pm pm' th le lo er of2 nx bg vl tk got oo z : Int} {w past past' nn od nu : Int → Int} (h : fn_Md_remembers w past pm = some (past', pm')) : fn_Md_runScript_b30 w past pm th oo le lo er of2 nx bg vl tk got nn od nu z 1 = fn_Md_runScript_b46 jk_F w past' pm' th 0 er of2 er of2 nx bg vl tk got nn od nu z 0 := by
  have e1 : fn_Md_endsText oo le lo er of2 = some (0, er, of2) := rfl
  unfold fn_Md_runScript_b30
  rw [zk_bd e1, zk_ne (by omega) (by omega) (by omega) (by omega) (by omega), zk_bd h]
theorem q_runScript (H : pB len f1 f) {tn cl sz l n z rc ro k0 s0 e0 c0 o0 th le lo er of2 nx bg vl tk got oo : Int} {nm st dp tp va nb w past kk k1 k2 k3 nn od nu HC HZ : Int → Int} {HS HD HT HV HN : Int → Int → Int} (C : pC tn cl sz st dp tp va nb w) (N : pN tn nm w) (Hh : pH tn l n HC HZ HS HD HT HV HN w past) :
    ∃ r k' s' e' c off cl' sz' l' n' hc' hz' z' x1 x2 x3 x4 got' zz e1 e2 : Int, ∃ st' dp' tp' va' nb' h1' h2' h3' h4' h5' kk' k1' k2' k3' w' past' nn' od' nu' : Int → Int,
      fn_KR_runScript f1 len k0 s0 e0 c0 o0 tn nm cl sz st dp tp va nb l n (HC ((l + 1) % 8)) (HZ ((l + 1) % 8)) (HS ((l + 1) % 8)) (HD ((l + 1) % 8)) (HT ((l + 1) % 8)) (HV ((l + 1) % 8)) (HN ((l + 1) % 8)) z kk k1 k2 k3 rc ro = some (r, 0, k', s', e', c, off, cl', sz', st', dp', tp', va', nb', l', n', hc', hz', h1', h2', h3', h4', h5', z', kk', k1', k2', k3', c, off) ∧
      fn_Md_runScript w past n th f len le lo er of2 nx bg vl tk got nn od nu oo = some (r, w', past', n', 0, 0, c, off, e1, e2, x1, x2, x3, x4, got', nn', od', nu', zz) ∧
      pC tn cl' sz' st' dp' tp' va' nb' w' ∧ pU w w' ∧ pH tn l' n' (jk_up HC ((l + 1) % 8) hc') (jk_up HZ ((l + 1) % 8) hz') (upF HS ((l + 1) % 8) h1') (upF HD ((l + 1) % 8) h2') (upF HT ((l + 1) % 8) h3') (upF HV ((l + 1) % 8) h4') (upF HN ((l + 1) % 8) h5') w' past' ∧ (-1 ≤ r ∧ r ≤ 30) := by
  have hF := jk_F_big
  have hb := H.1
  have hft := pC_f C
  obtain ⟨y1, y2, y3, y4, kn, P⟩ := m_next H (q := 0) (by omega) (by omega) bg vl tk
  have hst : fn_Md_startsText f len er of2 nx bg vl tk oo = some (0, -1, y1, y2, y3, y4, 0) := by
    unfold fn_Md_startsText
    rw [zk_bd kn]
  have em : fn_Md_runScript w past n th f len le lo er of2 nx bg vl tk got nn od nu oo = fn_Md_runScript_b11 jk_F w past n 0 f len le lo 0 (-1) y1 y2 y3 y4 got nn od nu 0 1 := by
    unfold fn_Md_runScript
    rw [zk_bd hst]
  rcases sloop H (o := -1) (pm := n) (th := 0) (le := le) (lo := lo) (past := past) N hft.2.2 jk_F 0 k0 s0 0 y1 y2 y3 y4 got kk k1 k2 k3 nn od nu (by omega) (by omega) (by omega) (by omega) P (fun j h0 h1 => by omega) with ⟨i', k', s', e', kk', k1', k2', k3', x1, x2, x3, x4, got', nn', od', nu', u1, u2, u3, u4⟩ | ⟨i', k', s', e', c, off, kk', k1', k2', k3', x1, x2, x3, x4, got', nn', od', nu', i'', hc, u1, u2⟩
  · obtain ⟨n', c1, c2, c3, c4, c5, past', p1, p2, p3⟩ := push_both C Hh
    obtain ⟨r, cl', sz', st', dp', tp', va', nb', w', g1, g2, g3, g4, g5⟩ := eloop u4 u3 (il := 0) (ik := k') (is := s') (ie := e') (ic := 0) (io := -1) (hl := (l + 1) % 8) (hs := n') (hc := cl) (hz := sz) (rc := 0) (ro := -1) (pm := n') (th := 0) (im := 0) (le := 0) (lo := -1) (er := 0) (of2 := -1) (nx := x1) (bg := x2) (vl := x3) (tk := x4) (got := got') (h1 := c1) (h2 := c2) (h3 := c3) (h4 := c4) (h5 := c5) (past := past') (nn := nn') jk_F i'.toNat 0 cl sz st dp tp va nb w (by omega) (by omega) C (by omega)
    refine ⟨r, k', s', e', 0, -1, cl', sz', (l + 1) % 8, n', cl, sz, i', x1, x2, x3, x4, got', i', 0, -1, st', dp', tp', va', nb', c1, c2, c3, c4, c5, kk', k1', k2', k3', w', past', nn', od', nu', ?_, ?_, g3, g4, pH_w p3 g4, by omega⟩
    · rw [r_ok (r_sp.trans u1) p1]
      exact g1
    · rw [em, u2, r_mok p2]
      exact g2
  · refine ⟨-1, k', s', e', c, off, cl, sz, l, n, HC ((l + 1) % 8), HZ ((l + 1) % 8), i', x1, x2, x3, x4, got', i'', c, off, st, dp, tp, va, nb, HS ((l + 1) % 8), HD ((l + 1) % 8), HT ((l + 1) % 8), HV ((l + 1) % 8), HN ((l + 1) % 8), kk', k1', k2', k3', w, past, nn', od', nu', r_no hc (r_sp.trans u1), ?_, C, pU_rfl w, ?_, by omega⟩
    · rw [em, u2, r_mno]
    · rw [up_id, up_id, upF_id, upF_id, upF_id, upF_id, upF_id]
      exact Hh
end PV2
