/-! the rest of a cord's statement: topic, value, nibbled places, semicolon -/
section PT4
variable {len q cl sz tn : Int} {f f1 st dp tp va nb w g nm : Int → Int}
theorem x_b92 {c o k s e v3 v4 v5 v6 s0 : Int} (h : 1 ≤ c ∧ c ≤ 7) : fn_Setup_readCord_b92 f1 len k s e c o cl sz st dp tp va nb v3 v4 v5 v6 s0 = some (k, s, e, c, o, sz, st, dp, tp, va, nb) := by
  unfold fn_Setup_readCord_b92
  rw [zk_bd (x_semi h)]
  (try simp (disch := omega) only [↓zk_lt, ↓zk_nl, ↓zk_eq, ↓zk_ne, ↓zk_ix, ↓zk_dv, ↓zk_bo, ↓zk_rg, ↓zk_get, ↓zk_set, Option.bind_some])
  rw [zk_bd (c_hf h)]
  (try simp (disch := omega) only [↓zk_lt, ↓zk_nl, ↓zk_eq, ↓zk_ne, ↓zk_ix, ↓zk_dv, ↓zk_bo, ↓zk_rg, ↓zk_get, ↓zk_set, Option.bind_some])
theorem x_b56 {c o k s e z v3 v4 : Int} (h : 1 ≤ c ∧ c ≤ 7) : fn_Setup_readCord_b56 f1 len k s e c o z nm cl sz st dp tp va nb v3 v4 = some (k, s, e, c, o, sz, st, dp, tp, va, nb) := by
  unfold fn_Setup_readCord_b56
  rw [zk_bd (x_top h)]
  (try simp (disch := omega) only [↓zk_lt, ↓zk_nl, ↓zk_eq, ↓zk_ne, ↓zk_ix, ↓zk_dv, ↓zk_bo, ↓zk_rg, ↓zk_get, ↓zk_set, Option.bind_some])
  rw [zk_bd (x_num h)]
  (try simp (disch := omega) only [↓zk_lt, ↓zk_nl, ↓zk_eq, ↓zk_ne, ↓zk_ix, ↓zk_dv, ↓zk_bo, ↓zk_rg, ↓zk_get, ↓zk_set, Option.bind_some])
  rw [zk_bd (x_tw h)]
  (try simp (disch := omega) only [↓zk_lt, ↓zk_nl, ↓zk_eq, ↓zk_ne, ↓zk_ix, ↓zk_dv, ↓zk_bo, ↓zk_rg, ↓zk_get, ↓zk_set, Option.bind_some])
  exact x_b92 h
theorem x_b37 {c o k s e z v3 p : Int} (h : 1 ≤ c ∧ c ≤ 7) (hp : fn_Setup_placeFor cl sz st dp v3 = some p) (hp2 : -1 ≤ p ∧ p ≤ 1000) : fn_Setup_readCord_b37 f1 len k s e c o z nm cl sz st dp tp va nb v3 = some (k, s, e, c, o, sz, st, dp, tp, va, nb) := by
  unfold fn_Setup_readCord_b37
  rw [zk_bd hp]
  by_cases x : p = -1
  · (try simp (disch := omega) only [↓zk_lt, ↓zk_nl, ↓zk_eq, ↓zk_ne, ↓zk_ix, ↓zk_dv, ↓zk_bo, ↓zk_rg, ↓zk_get, ↓zk_set, Option.bind_some])
    rw [zk_bd (c_fail h)]
    exact x_b56 h
  · (try simp (disch := omega) only [↓zk_lt, ↓zk_nl, ↓zk_eq, ↓zk_ne, ↓zk_ix, ↓zk_dv, ↓zk_bo, ↓zk_rg, ↓zk_get, ↓zk_set, Option.bind_some])
    exact x_b56 h
theorem b92_both (H : pB len f1 f) (hq : 0 ≤ q) (hl : q ≤ len) {y1 y2 y3 y4 k0 s0 o mo a d t v p r z : Int} {st' dp' tp' va1 nb1 va2 nb2 : Int → Int} (P : pTk f len q y1 y2 y3 y4) (C1 : fn_Cords_insert cl sz st dp tp va nb a (cl - 1) d t v = some (a, z, st', dp', tp', va1, nb1)) (C2 : fn_Cords_loseKnots va1 nb1 a p = some (r, va2, nb2)) :
    (∃ x1 x2 x3 x4, tS f len q < len ∧ fn_Setup_readCord_b92 f1 len k0 s0 q 0 o cl sz st dp tp va nb d a t v p = some (tK f len q, tS f len q, tE f len q, 0, o, z, st', dp', tp', va2, nb2) ∧ fn_Md_takesSemicolon f len 0 mo y1 y2 y3 y4 = some (1, 0, mo, x1, x2, x3, x4) ∧ pTk f len (tE f len q) x1 x2 x3 x4) ∨
    (fn_Setup_readCord_b92 f1 len k0 s0 q 0 o cl sz st dp tp va nb d a t v p = some (tK f len q, tS f len q, tE f len q, 1, tS f len q, sz, st, dp, tp, va, nb) ∧ fn_Md_takesSemicolon f len 0 mo y1 y2 y3 y4 = some (0, 1, tS f len q, y1, y2, y3, y4)) := by
  unfold fn_Setup_readCord_b92
  rcases semi H hq hl (k0 := k0) (s0 := s0) (o := o) (mo := mo) P with ⟨x1, x2, x3, x4, s1, s2, s3, s4⟩ | ⟨s2, s3⟩
  · refine Or.inl ⟨x1, x2, x3, x4, s1, ?_, s3, s4⟩
    rw [zk_bd s2]
    (try simp (disch := omega) only [↓zk_lt, ↓zk_nl, ↓zk_eq, ↓zk_ne, ↓zk_ix, ↓zk_dv, ↓zk_bo, ↓zk_rg, ↓zk_get, ↓zk_set, Option.bind_some])
    rw [zk_bd c_hf0]
    (try simp (disch := omega) only [↓zk_lt, ↓zk_nl, ↓zk_eq, ↓zk_ne, ↓zk_ix, ↓zk_dv, ↓zk_bo, ↓zk_rg, ↓zk_get, ↓zk_set, Option.bind_some])
    rw [zk_bd C1]
    (try simp (disch := omega) only [↓zk_lt, ↓zk_nl, ↓zk_eq, ↓zk_ne, ↓zk_ix, ↓zk_dv, ↓zk_bo, ↓zk_rg, ↓zk_get, ↓zk_set, Option.bind_some])
    rw [zk_bd C2]
  · refine Or.inr ⟨?_, s3⟩
    rw [zk_bd s2]
    (try simp (disch := omega) only [↓zk_lt, ↓zk_nl, ↓zk_eq, ↓zk_ne, ↓zk_ix, ↓zk_dv, ↓zk_bo, ↓zk_rg, ↓zk_get, ↓zk_set, Option.bind_some])
    rw [zk_bd (c_hf (by omega))]
    (try simp (disch := omega) only [↓zk_lt, ↓zk_nl, ↓zk_eq, ↓zk_ne, ↓zk_ix, ↓zk_dv, ↓zk_bo, ↓zk_rg, ↓zk_get, ↓zk_set, Option.bind_some])
theorem tw (H : pB len f1 f) (hq : 0 ≤ q) (hl : q ≤ len) {y1 y2 y3 y4 k0 s0 : Int} (P : pTk f len q y1 y2 y3 y4) (l : List Int) (hw : ∀ i : Nat, i < l.length → 0 ≤ l.getD i 0 ∧ l.getD i 0 ≤ 255) (hw2 : l.length < 100) (hw3 : 0 < l.length) : ∃ r, (r = 0 ∨ r = 1) ∧ fn_Text_takesWord f1 len k0 s0 q 0 l = some (r, tK f len q, tS f len q, if r = 1 then tE f len q else tS f len q) ∧ fn_Md_isWord f y1 y2 y4 l = some r := by
  obtain ⟨r, r1, r2, r3, r4⟩ := isw H hq hl P l hw hw2 hw3
  refine ⟨r, r3, ?_, r2⟩
  unfold fn_Text_takesWord
  rw [zk_bd c_hf0]
  (try simp (disch := omega) only [↓zk_lt, ↓zk_nl, ↓zk_eq, ↓zk_ne, ↓zk_ix, ↓zk_dv, ↓zk_bo, ↓zk_rg, ↓zk_get, ↓zk_set, Option.bind_some])
  rw [zk_bd (c_next H hq hl)]
  (try simp (disch := omega) only [↓zk_lt, ↓zk_nl, ↓zk_eq, ↓zk_ne, ↓zk_ix, ↓zk_dv, ↓zk_bo, ↓zk_rg, ↓zk_get, ↓zk_set, Option.bind_some])
  rw [zk_bd r1]
  rcases r3 with rfl | rfl
  · (try simp (disch := omega) only [↓zk_lt, ↓zk_nl, ↓zk_eq, ↓zk_ne, ↓zk_ix, ↓zk_dv, ↓zk_bo, ↓zk_rg, ↓zk_get, ↓zk_set, Option.bind_some])
    rw [if_neg (by omega)]
  · (try simp (disch := omega) only [↓zk_lt, ↓zk_nl, ↓zk_eq, ↓zk_ne, ↓zk_ix, ↓zk_dv, ↓zk_bo, ↓zk_rg, ↓zk_get, ↓zk_set, Option.bind_some])
    rw [if_pos trivial]
theorem rest (H : pB len f1 f) (hq : 0 ≤ q) (hl : q ≤ len) {y1 y2 y3 y4 k0 s0 o mo a d got : Int} {n : Int → Int} (P : pTk f len q y1 y2 y3 y4) (C : pC tn cl sz st dp tp va nb w) (N : pN tn nm w) (h0 : 1 ≤ cl) (hs : sz < 40) (A : pAt cl sz st dp a d) :
    (∃ k' s' q' st' dp' tp' va' nb' w' x1 x2 x3 x4 got' n', fn_Setup_readCord_b56 f1 len k0 s0 q 0 o tn nm cl sz st dp tp va nb d a = some (k', s', q', 0, o, sz + 1, st', dp', tp', va', nb') ∧ fn_Md_takesCord w f len 0 mo y1 y2 y3 y4 got n a d = some (1, w', 0, mo, x1, x2, x3, x4, got', n') ∧ pTk f len q' x1 x2 x3 x4 ∧ pC tn cl (sz + 1) st' dp' tp' va' nb' w' ∧ pU w w' ∧ (q < q' ∧ q' ≤ len)) ∨
    (∃ k' s' e' c off w' x1 x2 x3 x4 got' n', (1 ≤ c ∧ c ≤ 7) ∧ fn_Setup_readCord_b56 f1 len k0 s0 q 0 o tn nm cl sz st dp tp va nb d a = some (k', s', e', c, off, sz, st, dp, tp, va, nb) ∧ fn_Md_takesCord w f len 0 mo y1 y2 y3 y4 got n a d = some (0, w', c, off, x1, x2, x3, x4, got', n')) := by
  have hF := jk_F_big
  have hb := H.1
  have hht := (pC_f C).2.2
  have hw1 : w 1 = cl := C.1.choose_spec.2.1
  have E0 := tE_r (f := f) hq hl
  have S0 := (tS_r (f := f) hq hl).1
  unfold fn_Setup_readCord_b56 fn_Md_takesCord
  rcases topic H hq hl (k0 := k0) (s0 := s0) (o := o) (mo := mo) (kk := 1) (n := n) P N hht (by omega) with ⟨t, b1, b2, b3, b4, ht, ht2, t1, t2, t3⟩ | ⟨t, c, n', hc, ht, t1, t2⟩
  · obtain ⟨l1, l2, -⟩ := tK_2 hq hl ht2
    have hq1 : 0 ≤ tE f len q := by omega
    have hl1 : tE f len q ≤ len := by omega
    have E1 := tE_r (f := f) hq1 hl1
    have S1 := (tS_r (f := f) hq1 hl1).1
    rcases num H hq1 hl1 (k0 := tK f len q) (s0 := tS f len q) (o := o) (mo := mo) (got := got) (lo := 0) (hi := 9999) (kk := 2) (n := jk_up n 1 t) t3 (by omega) (by omega) (by omega) with ⟨v, e1, e2, e3, e4, hv, hv2, v1, v2, -, v3⟩ | ⟨v, c, got', hc, v1, v2, -⟩
    · have hq2 : 0 ≤ tE f len (tE f len q) := by omega
      have hl2 : tE f len (tE f len q) ≤ len := by omega
      have E2 := tE_r (f := f) hq2 hl2
      have S2 := (tS_r (f := f) hq2 hl2).1
      obtain ⟨ei1, ei2, ei3, ei4, ei5⟩ := ins_both C h0 hs A ht hv
      have n1 : jk_up (jk_up n 1 t) 2 v 1 = t := by rw [up_ne (by omega), up_eq rfl]
      have n2 : jk_up (jk_up n 1 t) 2 v 2 = v := up_eq rfl
      have hn0 : ins nb a 0 sz a = 0 := by unfold ins; rw [if_neg (by omega), if_pos rfl]
      obtain ⟨r, r1, r2, r3⟩ := tw H hq2 hl2 (k0 := tK f len (tE f len q)) (s0 := tS f len (tE f len q)) v3 [110, 105, 98, 98, 108, 101, 100] (by decide) (by decide) (by decide)
      rcases r1 with rfl | rfl
      · rw [if_neg (by omega)] at r2
        have hq3 : 0 ≤ tS f len (tE f len (tE f len q)) := by omega
        have hl3 : tS f len (tE f len (tE f len q)) ≤ len := by omega
        have hlo := lose0 ei3 ei5.1 ei5.2 hn0
        rcases b92_both H hq3 hl3 (k0 := tK f len (tE f len (tE f len q))) (s0 := tS f len (tE f len (tE f len q))) (o := o) (mo := mo) (pTk_i hq2 hl2 v3) ei1 hlo with ⟨x1, x2, x3, x4, z1, z2, z3, z4⟩ | ⟨z2, z3⟩
        · left
          have E3 := tE_r (f := f) hq3 hl3
          have S3 := (tS_r (f := f) hq3 hl3).1
          refine ⟨tK f len (tS f len (tE f len (tE f len q))), tS f len (tS f len (tE f len (tE f len q))), tE f len (tS f len (tE f len (tE f len q))), rsz st (cl - 1) cl 1, ins dp a d sz, ins tp a t sz, ins va a v sz, ins nb a 0 sz, wins w a (cl - 1) d t v sz, x1, x2, x3, x4, v, jk_up (jk_up n 1 t) 2 v, ?_, ?_, z4, ei3, ei4, by omega, by omega⟩
          · rw [zk_bd t1]
            (try simp (disch := omega) only [↓zk_lt, ↓zk_nl, ↓zk_eq, ↓zk_ne, ↓zk_ix, ↓zk_dv, ↓zk_bo, ↓zk_rg, ↓zk_get, ↓zk_set, Option.bind_some])
            rw [zk_bd v1]
            (try simp (disch := omega) only [↓zk_lt, ↓zk_nl, ↓zk_eq, ↓zk_ne, ↓zk_ix, ↓zk_dv, ↓zk_bo, ↓zk_rg, ↓zk_get, ↓zk_set, Option.bind_some])
            rw [zk_bd r2]
            (try simp (disch := omega) only [↓zk_lt, ↓zk_nl, ↓zk_eq, ↓zk_ne, ↓zk_ix, ↓zk_dv, ↓zk_bo, ↓zk_rg, ↓zk_get, ↓zk_set, Option.bind_some])
            exact z2
          · rw [zk_bd t2]
            (try simp (disch := omega) only [↓zk_lt, ↓zk_nl, ↓zk_eq, ↓zk_ne, ↓zk_ix, ↓zk_dv, ↓zk_bo, ↓zk_rg, ↓zk_get, ↓zk_set, Option.bind_some])
            rw [zk_bd v2]
            (try simp (disch := omega) only [↓zk_lt, ↓zk_nl, ↓zk_eq, ↓zk_ne, ↓zk_ix, ↓zk_dv, ↓zk_bo, ↓zk_rg, ↓zk_get, ↓zk_set, Option.bind_some])
            rw [n1, n2, hw1, zk_bd ei2, zk_bd r3]
            (try simp (disch := omega) only [↓zk_lt, ↓zk_nl, ↓zk_eq, ↓zk_ne, ↓zk_ix, ↓zk_dv, ↓zk_bo, ↓zk_rg, ↓zk_get, ↓zk_set, Option.bind_some])
            rw [zk_bd z3]
            (try simp (disch := omega) only [↓zk_lt, ↓zk_nl, ↓zk_eq, ↓zk_ne, ↓zk_ix, ↓zk_dv, ↓zk_bo, ↓zk_rg, ↓zk_get, ↓zk_set, Option.bind_some])
        · right
          refine ⟨tK f len (tS f len (tE f len (tE f len q))), tS f len (tS f len (tE f len (tE f len q))), tE f len (tS f len (tE f len (tE f len q))), 1, tS f len (tS f len (tE f len (tE f len q))), wins w a (cl - 1) d t v sz, e1, e2, e3, e4, v, jk_up (jk_up n 1 t) 2 v, by omega, ?_, ?_⟩
          · rw [zk_bd t1]
            (try simp (disch := omega) only [↓zk_lt, ↓zk_nl, ↓zk_eq, ↓zk_ne, ↓zk_ix, ↓zk_dv, ↓zk_bo, ↓zk_rg, ↓zk_get, ↓zk_set, Option.bind_some])
            rw [zk_bd v1]
            (try simp (disch := omega) only [↓zk_lt, ↓zk_nl, ↓zk_eq, ↓zk_ne, ↓zk_ix, ↓zk_dv, ↓zk_bo, ↓zk_rg, ↓zk_get, ↓zk_set, Option.bind_some])
            rw [zk_bd r2]
            (try simp (disch := omega) only [↓zk_lt, ↓zk_nl, ↓zk_eq, ↓zk_ne, ↓zk_ix, ↓zk_dv, ↓zk_bo, ↓zk_rg, ↓zk_get, ↓zk_set, Option.bind_some])
            exact z2
          · rw [zk_bd t2]
            (try simp (disch := omega) only [↓zk_lt, ↓zk_nl, ↓zk_eq, ↓zk_ne, ↓zk_ix, ↓zk_dv, ↓zk_bo, ↓zk_rg, ↓zk_get, ↓zk_set, Option.bind_some])
            rw [zk_bd v2]
            (try simp (disch := omega) only [↓zk_lt, ↓zk_nl, ↓zk_eq, ↓zk_ne, ↓zk_ix, ↓zk_dv, ↓zk_bo, ↓zk_rg, ↓zk_get, ↓zk_set, Option.bind_some])
            rw [n1, n2, hw1, zk_bd ei2, zk_bd r3]
            (try simp (disch := omega) only [↓zk_lt, ↓zk_nl, ↓zk_eq, ↓zk_ne, ↓zk_ix, ↓zk_dv, ↓zk_bo, ↓zk_rg, ↓zk_get, ↓zk_set, Option.bind_some])
            rw [zk_bd z3]
            (try simp (disch := omega) only [↓zk_lt, ↓zk_nl, ↓zk_eq, ↓zk_ne, ↓zk_ix, ↓zk_dv, ↓zk_bo, ↓zk_rg, ↓zk_get, ↓zk_set, Option.bind_some])
      · rw [if_pos rfl] at r2
        have hq3 : 0 ≤ tE f len (tE f len (tE f len q)) := by omega
        have hl3 : tE f len (tE f len (tE f len q)) ≤ len := by omega
        have E3 := tE_r (f := f) hq3 hl3
        have S3 := (tS_r (f := f) hq3 hl3).1
        obtain ⟨rfl, rfl, rfl, hvl⟩ := v3
        obtain ⟨d1, d2, d3, d4, k1, P3⟩ := m_next H hq3 hl3 (tS f len (tE f len (tE f len q))) e3 (mk (tK f len (tE f len (tE f len q))))
        rcases num H hq3 hl3 (k0 := tK f len (tE f len (tE f len q))) (s0 := tS f len (tE f len (tE f len q))) (o := o) (mo := mo) (got := v) (lo := 1) (hi := 4) (kk := 0) (n := jk_up (jk_up n 1 t) 2 v) P3 (by omega) (by omega) (by omega) with ⟨p, c1, c2, c3, c4, hp, hp2, p1, p2, -, p3⟩ | ⟨p, c, got', hc, p1, p2, -⟩
        · have hq4 : 0 ≤ tE f len (tE f len (tE f len (tE f len q))) := by omega
          have hl4 : tE f len (tE f len (tE f len (tE f len q))) ≤ len := by omega
          have E4 := tE_r (f := f) hq4 hl4
          have S4 := (tS_r (f := f) hq4 hl4).1
          have n3 : jk_up (jk_up (jk_up n 1 t) 2 v) 0 p 0 = p := up_eq rfl
          obtain ⟨lr, va', nb', w', lo1, lo2, lo3, lo4⟩ := loseN ei3 ei5.1 ei5.2 hp (by rw [hn0]; omega)
          rcases b92_both H hq4 hl4 (k0 := tK f len (tE f len (tE f len (tE f len q)))) (s0 := tS f len (tE f len (tE f len (tE f len q)))) (o := o) (mo := mo) p3 ei1 lo1 with ⟨x1, x2, x3, x4, z1, z2, z3, z4⟩ | ⟨z2, z3⟩
          · left
            refine ⟨tK f len (tE f len (tE f len (tE f len (tE f len q)))), tS f len (tE f len (tE f len (tE f len (tE f len q)))), tE f len (tE f len (tE f len (tE f len (tE f len q)))), rsz st (cl - 1) cl 1, ins dp a d sz, ins tp a t sz, va', nb', w', x1, x2, x3, x4, p, jk_up (jk_up (jk_up n 1 t) 2 v) 0 p, ?_, ?_, z4, lo3, pU_tr ei4 lo4, by omega, by omega⟩
            · rw [zk_bd t1]
              (try simp (disch := omega) only [↓zk_lt, ↓zk_nl, ↓zk_eq, ↓zk_ne, ↓zk_ix, ↓zk_dv, ↓zk_bo, ↓zk_rg, ↓zk_get, ↓zk_set, Option.bind_some])
              rw [zk_bd v1]
              (try simp (disch := omega) only [↓zk_lt, ↓zk_nl, ↓zk_eq, ↓zk_ne, ↓zk_ix, ↓zk_dv, ↓zk_bo, ↓zk_rg, ↓zk_get, ↓zk_set, Option.bind_some])
              rw [zk_bd r2]
              (try simp (disch := omega) only [↓zk_lt, ↓zk_nl, ↓zk_eq, ↓zk_ne, ↓zk_ix, ↓zk_dv, ↓zk_bo, ↓zk_rg, ↓zk_get, ↓zk_set, Option.bind_some])
              rw [zk_bd p1]
              exact z2
            · rw [zk_bd t2]
              (try simp (disch := omega) only [↓zk_lt, ↓zk_nl, ↓zk_eq, ↓zk_ne, ↓zk_ix, ↓zk_dv, ↓zk_bo, ↓zk_rg, ↓zk_get, ↓zk_set, Option.bind_some])
              rw [zk_bd v2]
              (try simp (disch := omega) only [↓zk_lt, ↓zk_nl, ↓zk_eq, ↓zk_ne, ↓zk_ix, ↓zk_dv, ↓zk_bo, ↓zk_rg, ↓zk_get, ↓zk_set, Option.bind_some])
              rw [n1, n2, hw1, zk_bd ei2, zk_bd r3]
              (try simp (disch := omega) only [↓zk_lt, ↓zk_nl, ↓zk_eq, ↓zk_ne, ↓zk_ix, ↓zk_dv, ↓zk_bo, ↓zk_rg, ↓zk_get, ↓zk_set, Option.bind_some])
              rw [zk_bd k1]
              (try simp (disch := omega) only [↓zk_lt, ↓zk_nl, ↓zk_eq, ↓zk_ne, ↓zk_ix, ↓zk_dv, ↓zk_bo, ↓zk_rg, ↓zk_get, ↓zk_set, Option.bind_some])
              rw [zk_bd p2]
              (try simp (disch := omega) only [↓zk_lt, ↓zk_nl, ↓zk_eq, ↓zk_ne, ↓zk_ix, ↓zk_dv, ↓zk_bo, ↓zk_rg, ↓zk_get, ↓zk_set, Option.bind_some])
              rw [n3, zk_bd lo2]
              (try simp (disch := omega) only [↓zk_lt, ↓zk_nl, ↓zk_eq, ↓zk_ne, ↓zk_ix, ↓zk_dv, ↓zk_bo, ↓zk_rg, ↓zk_get, ↓zk_set, Option.bind_some])
              rw [zk_bd z3]
              (try simp (disch := omega) only [↓zk_lt, ↓zk_nl, ↓zk_eq, ↓zk_ne, ↓zk_ix, ↓zk_dv, ↓zk_bo, ↓zk_rg, ↓zk_get, ↓zk_set, Option.bind_some])
          · right
            refine ⟨tK f len (tE f len (tE f len (tE f len (tE f len q)))), tS f len (tE f len (tE f len (tE f len (tE f len q)))), tE f len (tE f len (tE f len (tE f len (tE f len q)))), 1, tS f len (tE f len (tE f len (tE f len (tE f len q)))), w', c1, c2, c3, c4, p, jk_up (jk_up (jk_up n 1 t) 2 v) 0 p, by omega, ?_, ?_⟩
            · rw [zk_bd t1]
              (try simp (disch := omega) only [↓zk_lt, ↓zk_nl, ↓zk_eq, ↓zk_ne, ↓zk_ix, ↓zk_dv, ↓zk_bo, ↓zk_rg, ↓zk_get, ↓zk_set, Option.bind_some])
              rw [zk_bd v1]
              (try simp (disch := omega) only [↓zk_lt, ↓zk_nl, ↓zk_eq, ↓zk_ne, ↓zk_ix, ↓zk_dv, ↓zk_bo, ↓zk_rg, ↓zk_get, ↓zk_set, Option.bind_some])
              rw [zk_bd r2]
              (try simp (disch := omega) only [↓zk_lt, ↓zk_nl, ↓zk_eq, ↓zk_ne, ↓zk_ix, ↓zk_dv, ↓zk_bo, ↓zk_rg, ↓zk_get, ↓zk_set, Option.bind_some])
              rw [zk_bd p1]
              exact z2
            · rw [zk_bd t2]
              (try simp (disch := omega) only [↓zk_lt, ↓zk_nl, ↓zk_eq, ↓zk_ne, ↓zk_ix, ↓zk_dv, ↓zk_bo, ↓zk_rg, ↓zk_get, ↓zk_set, Option.bind_some])
              rw [zk_bd v2]
              (try simp (disch := omega) only [↓zk_lt, ↓zk_nl, ↓zk_eq, ↓zk_ne, ↓zk_ix, ↓zk_dv, ↓zk_bo, ↓zk_rg, ↓zk_get, ↓zk_set, Option.bind_some])
              rw [n1, n2, hw1, zk_bd ei2, zk_bd r3]
              (try simp (disch := omega) only [↓zk_lt, ↓zk_nl, ↓zk_eq, ↓zk_ne, ↓zk_ix, ↓zk_dv, ↓zk_bo, ↓zk_rg, ↓zk_get, ↓zk_set, Option.bind_some])
              rw [zk_bd k1]
              (try simp (disch := omega) only [↓zk_lt, ↓zk_nl, ↓zk_eq, ↓zk_ne, ↓zk_ix, ↓zk_dv, ↓zk_bo, ↓zk_rg, ↓zk_get, ↓zk_set, Option.bind_some])
              rw [zk_bd p2]
              (try simp (disch := omega) only [↓zk_lt, ↓zk_nl, ↓zk_eq, ↓zk_ne, ↓zk_ix, ↓zk_dv, ↓zk_bo, ↓zk_rg, ↓zk_get, ↓zk_set, Option.bind_some])
              rw [n3, zk_bd lo2]
              (try simp (disch := omega) only [↓zk_lt, ↓zk_nl, ↓zk_eq, ↓zk_ne, ↓zk_ix, ↓zk_dv, ↓zk_bo, ↓zk_rg, ↓zk_get, ↓zk_set, Option.bind_some])
              rw [zk_bd z3]
              (try simp (disch := omega) only [↓zk_lt, ↓zk_nl, ↓zk_eq, ↓zk_ne, ↓zk_ix, ↓zk_dv, ↓zk_bo, ↓zk_rg, ↓zk_get, ↓zk_set, Option.bind_some])
        · right
          refine ⟨tK f len (tE f len (tE f len (tE f len q))), tS f len (tE f len (tE f len (tE f len q))), tE f len (tE f len (tE f len (tE f len q))), c, tS f len (tE f len (tE f len (tE f len q))), wins w a (cl - 1) d t v sz, d1, d2, d3, d4, got', jk_up (jk_up n 1 t) 2 v, hc, ?_, ?_⟩
          · rw [zk_bd t1]
            (try simp (disch := omega) only [↓zk_lt, ↓zk_nl, ↓zk_eq, ↓zk_ne, ↓zk_ix, ↓zk_dv, ↓zk_bo, ↓zk_rg, ↓zk_get, ↓zk_set, Option.bind_some])
            rw [zk_bd v1]
            (try simp (disch := omega) only [↓zk_lt, ↓zk_nl, ↓zk_eq, ↓zk_ne, ↓zk_ix, ↓zk_dv, ↓zk_bo, ↓zk_rg, ↓zk_get, ↓zk_set, Option.bind_some])
            rw [zk_bd r2]
            (try simp (disch := omega) only [↓zk_lt, ↓zk_nl, ↓zk_eq, ↓zk_ne, ↓zk_ix, ↓zk_dv, ↓zk_bo, ↓zk_rg, ↓zk_get, ↓zk_set, Option.bind_some])
            rw [zk_bd p1]
            exact x_b92 hc
          · rw [zk_bd t2]
            (try simp (disch := omega) only [↓zk_lt, ↓zk_nl, ↓zk_eq, ↓zk_ne, ↓zk_ix, ↓zk_dv, ↓zk_bo, ↓zk_rg, ↓zk_get, ↓zk_set, Option.bind_some])
            rw [zk_bd v2]
            (try simp (disch := omega) only [↓zk_lt, ↓zk_nl, ↓zk_eq, ↓zk_ne, ↓zk_ix, ↓zk_dv, ↓zk_bo, ↓zk_rg, ↓zk_get, ↓zk_set, Option.bind_some])
            rw [n1, n2, hw1, zk_bd ei2, zk_bd r3]
            (try simp (disch := omega) only [↓zk_lt, ↓zk_nl, ↓zk_eq, ↓zk_ne, ↓zk_ix, ↓zk_dv, ↓zk_bo, ↓zk_rg, ↓zk_get, ↓zk_set, Option.bind_some])
            rw [zk_bd k1]
            (try simp (disch := omega) only [↓zk_lt, ↓zk_nl, ↓zk_eq, ↓zk_ne, ↓zk_ix, ↓zk_dv, ↓zk_bo, ↓zk_rg, ↓zk_get, ↓zk_set, Option.bind_some])
            rw [zk_bd p2]
            (try simp (disch := omega) only [↓zk_lt, ↓zk_nl, ↓zk_eq, ↓zk_ne, ↓zk_ix, ↓zk_dv, ↓zk_bo, ↓zk_rg, ↓zk_get, ↓zk_set, Option.bind_some])
    · right
      refine ⟨tK f len (tE f len q), tS f len (tE f len q), tE f len (tE f len q), c, tS f len (tE f len q), w, b1, b2, b3, b4, got', jk_up n 1 t, hc, ?_, ?_⟩
      · rw [zk_bd t1]
        (try simp (disch := omega) only [↓zk_lt, ↓zk_nl, ↓zk_eq, ↓zk_ne, ↓zk_ix, ↓zk_dv, ↓zk_bo, ↓zk_rg, ↓zk_get, ↓zk_set, Option.bind_some])
        rw [zk_bd v1]
        (try simp (disch := omega) only [↓zk_lt, ↓zk_nl, ↓zk_eq, ↓zk_ne, ↓zk_ix, ↓zk_dv, ↓zk_bo, ↓zk_rg, ↓zk_get, ↓zk_set, Option.bind_some])
        rw [zk_bd (x_tw hc)]
        (try simp (disch := omega) only [↓zk_lt, ↓zk_nl, ↓zk_eq, ↓zk_ne, ↓zk_ix, ↓zk_dv, ↓zk_bo, ↓zk_rg, ↓zk_get, ↓zk_set, Option.bind_some])
        exact x_b92 hc
      · rw [zk_bd t2]
        (try simp (disch := omega) only [↓zk_lt, ↓zk_nl, ↓zk_eq, ↓zk_ne, ↓zk_ix, ↓zk_dv, ↓zk_bo, ↓zk_rg, ↓zk_get, ↓zk_set, Option.bind_some])
        rw [zk_bd v2]
        (try simp (disch := omega) only [↓zk_lt, ↓zk_nl, ↓zk_eq, ↓zk_ne, ↓zk_ix, ↓zk_dv, ↓zk_bo, ↓zk_rg, ↓zk_get, ↓zk_set, Option.bind_some])
  · right
    refine ⟨tK f len (q), tS f len (q), tE f len (q), c, tS f len q, w, y1, y2, y3, y4, got, n', hc, ?_, ?_⟩
    · rw [zk_bd t1]
      (try simp (disch := omega) only [↓zk_lt, ↓zk_nl, ↓zk_eq, ↓zk_ne, ↓zk_ix, ↓zk_dv, ↓zk_bo, ↓zk_rg, ↓zk_get, ↓zk_set, Option.bind_some])
      rw [zk_bd (x_num hc)]
      (try simp (disch := omega) only [↓zk_lt, ↓zk_nl, ↓zk_eq, ↓zk_ne, ↓zk_ix, ↓zk_dv, ↓zk_bo, ↓zk_rg, ↓zk_get, ↓zk_set, Option.bind_some])
      rw [zk_bd (x_tw hc)]
      (try simp (disch := omega) only [↓zk_lt, ↓zk_nl, ↓zk_eq, ↓zk_ne, ↓zk_ix, ↓zk_dv, ↓zk_bo, ↓zk_rg, ↓zk_get, ↓zk_set, Option.bind_some])
      exact x_b92 hc
    · rw [zk_bd t2]
      (try simp (disch := omega) only [↓zk_lt, ↓zk_nl, ↓zk_eq, ↓zk_ne, ↓zk_ix, ↓zk_dv, ↓zk_bo, ↓zk_rg, ↓zk_get, ↓zk_set, Option.bind_some])
end PT4
