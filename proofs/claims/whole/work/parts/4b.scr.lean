/-! a script's statement: its word and its arguments -/
section PU1
variable {len q tn : Int} {f f1 nm w : Int → Int}
theorem zk_i0 {β : Type} {x : Option Int} {r : Int} {a b : Option β} (h : x = some r) (h0 : r = 0) : (x.bind fun q => jk_eqs q 0 a b) = a := by
  rw [zk_bd h]
  exact zk_eq (by omega) (by omega) h0
theorem zk_i1 {β : Type} {x : Option Int} {r : Int} {a b : Option β} (h : x = some r) (h0 : r = 1) : (x.bind fun q => jk_eqs q 0 a b) = b := by
  rw [zk_bd h]
  exact zk_ne (by omega) (by omega) (by omega) (by omega) (by omega)
theorem kind_both (H : pB len f1 f) (hq : 0 ≤ q) (hl : q ≤ len) {y1 y2 y3 y4 : Int} (P : pTk f len q y1 y2 y3 y4) : ∃ K, (-1 ≤ K ∧ K ≤ 8) ∧ fn_Script_kindOf f1 (tK f len q) (tS f len q) (tE f len q) = some K ∧ fn_Md_scriptHere f y1 y2 y4 = some (K + 1) ∧ (0 ≤ K → tK f len q = 2) := by
  obtain ⟨r0, a0, b0, c0, d0⟩ := isw H hq hl P [99, 108, 117, 115, 116, 101, 114] (by decide) (by decide) (by decide)
  obtain ⟨r1, a1, b1, c1, d1⟩ := isw H hq hl P [112, 101, 110, 100, 97, 110, 116] (by decide) (by decide) (by decide)
  obtain ⟨r2, a2, b2, c2, d2⟩ := isw H hq hl P [115, 117, 98] (by decide) (by decide) (by decide)
  obtain ⟨r3, a3, b3, c3, d3⟩ := isw H hq hl P [99, 117, 116] (by decide) (by decide) (by decide)
  obtain ⟨r4, a4, b4, c4, d4⟩ := isw H hq hl P [116, 105, 101] (by decide) (by decide) (by decide)
  obtain ⟨r5, a5, b5, c5, d5⟩ := isw H hq hl P [107, 110, 111, 116] (by decide) (by decide) (by decide)
  obtain ⟨r6, a6, b6, c6, d6⟩ := isw H hq hl P [110, 105, 98, 98, 108, 101] (by decide) (by decide) (by decide)
  obtain ⟨r7, a7, b7, c7, d7⟩ := isw H hq hl P [100, 121, 101] (by decide) (by decide) (by decide)
  obtain ⟨r8, a8, b8, c8, d8⟩ := isw H hq hl P [114, 101, 112, 97, 105, 114] (by decide) (by decide) (by decide)
  unfold fn_Script_kindOf fn_Md_scriptHere
  by_cases z0 : r0 = 1
  · exact ⟨0, ⟨by decide, by decide⟩, zk_i1 a0 z0, zk_i1 b0 z0, fun _ => (d0 z0).1⟩
  · rw [zk_i0 a0 (c0.resolve_right z0), zk_i0 b0 (c0.resolve_right z0)]
    by_cases z1 : r1 = 1
    · exact ⟨1, ⟨by decide, by decide⟩, zk_i1 a1 z1, zk_i1 b1 z1, fun _ => (d1 z1).1⟩
    · rw [zk_i0 a1 (c1.resolve_right z1), zk_i0 b1 (c1.resolve_right z1)]
      by_cases z2 : r2 = 1
      · exact ⟨2, ⟨by decide, by decide⟩, zk_i1 a2 z2, zk_i1 b2 z2, fun _ => (d2 z2).1⟩
      · rw [zk_i0 a2 (c2.resolve_right z2), zk_i0 b2 (c2.resolve_right z2)]
        by_cases z3 : r3 = 1
        · exact ⟨3, ⟨by decide, by decide⟩, zk_i1 a3 z3, zk_i1 b3 z3, fun _ => (d3 z3).1⟩
        · rw [zk_i0 a3 (c3.resolve_right z3), zk_i0 b3 (c3.resolve_right z3)]
          by_cases z4 : r4 = 1
          · exact ⟨4, ⟨by decide, by decide⟩, zk_i1 a4 z4, zk_i1 b4 z4, fun _ => (d4 z4).1⟩
          · rw [zk_i0 a4 (c4.resolve_right z4), zk_i0 b4 (c4.resolve_right z4)]
            by_cases z5 : r5 = 1
            · exact ⟨5, ⟨by decide, by decide⟩, zk_i1 a5 z5, zk_i1 b5 z5, fun _ => (d5 z5).1⟩
            · rw [zk_i0 a5 (c5.resolve_right z5), zk_i0 b5 (c5.resolve_right z5)]
              by_cases z6 : r6 = 1
              · exact ⟨6, ⟨by decide, by decide⟩, zk_i1 a6 z6, zk_i1 b6 z6, fun _ => (d6 z6).1⟩
              · rw [zk_i0 a6 (c6.resolve_right z6), zk_i0 b6 (c6.resolve_right z6)]
                by_cases z7 : r7 = 1
                · exact ⟨7, ⟨by decide, by decide⟩, zk_i1 a7 z7, zk_i1 b7 z7, fun _ => (d7 z7).1⟩
                · rw [zk_i0 a7 (c7.resolve_right z7), zk_i0 b7 (c7.resolve_right z7)]
                  by_cases z8 : r8 = 1
                  · exact ⟨8, ⟨by decide, by decide⟩, zk_i1 a8 z8, zk_i1 b8 z8, fun _ => (d8 z8).1⟩
                  · rw [zk_i0 a8 (c8.resolve_right z8), zk_i0 b8 (c8.resolve_right z8)]
                    exact ⟨-1, ⟨by decide, by decide⟩, rfl, rfl, fun h => absurd h (by decide)⟩
/-- a statement read: its kind and arguments beside the reference's order and numbers -/
def pSt (tn K A B C o x y z : Int) : Prop := (K = 0 ∧ o = 1) ∨ (K = 1 ∧ o = 2 ∧ x = A ∧ (0 ≤ A ∧ A ≤ 5) ∧ y = B ∧ (0 ≤ B ∧ B < tn) ∧ z = C ∧ (0 ≤ C ∧ C ≤ 9999)) ∨ (K = 2 ∧ o = 3 ∧ x = A ∧ (0 ≤ A ∧ A ≤ 39) ∧ y = B ∧ (0 ≤ B ∧ B < tn) ∧ z = C ∧ (0 ≤ C ∧ C ≤ 9999)) ∨ (K = 3 ∧ o = 4 ∧ x = A ∧ (0 ≤ A ∧ A ≤ 39)) ∨ (K = 4 ∧ o = 5 ∧ x = A ∧ (0 ≤ A ∧ A ≤ 5) ∧ y = B ∧ (0 ≤ B ∧ B < tn)) ∨ (K = 5 ∧ o = 6 ∧ x = A ∧ (0 ≤ A ∧ A ≤ 39) ∧ y = B ∧ (0 ≤ B ∧ B ≤ 3) ∧ z = C ∧ (0 ≤ C ∧ C ≤ 9)) ∨ (K = 6 ∧ o = 7 ∧ x = A ∧ (0 ≤ A ∧ A ≤ 39) ∧ y = B ∧ (1 ≤ B ∧ B ≤ 4)) ∨ (K = 7 ∧ o = 8 ∧ x = A ∧ (0 ≤ A ∧ A ≤ 39) ∧ y = B ∧ (0 ≤ B ∧ B < tn)) ∨ (K = 8 ∧ o = 9 ∧ x = A ∧ (0 ≤ A ∧ A ≤ 5))
def aArg (f f1 : Int → Int) (len q tn K : Int) (nm w : Int → Int) (y1 y2 y3 y4 o mo got : Int) (n : Int → Int) : Prop :=
  (∃ A B C ka sa ea kb sb eb kc sc q' x1 x2 x3 x4 got' n', fn_Script_readFirst f1 len (tK f len q) (tS f len q) (tE f len q) 0 o K = some (A, ka, sa, ea, 0, o) ∧ fn_Script_readSecond f1 len ka sa ea 0 o tn nm K = some (B, kb, sb, eb, 0, o) ∧ fn_Script_readThird f1 len kb sb eb 0 o K = some (C, kc, sc, q', 0, o) ∧ fn_Md_takesRest w f len 0 mo y1 y2 y3 y4 got n (K + 1) = some (1, 0, mo, x1, x2, x3, x4, got', n') ∧ pTk f len q' x1 x2 x3 x4 ∧ pSt tn K A B C (K + 1) (n' 0) (n' 1) (n' 2) ∧ (q < q' ∧ q' ≤ len)) ∨
  (∃ A B C ka sa ea ca oa kb sb eb cb ob kc sc ec c off x1 x2 x3 x4 got' n', (1 ≤ c ∧ c ≤ 7) ∧ fn_Script_readFirst f1 len (tK f len q) (tS f len q) (tE f len q) 0 o K = some (A, ka, sa, ea, ca, oa) ∧ fn_Script_readSecond f1 len ka sa ea ca oa tn nm K = some (B, kb, sb, eb, cb, ob) ∧ fn_Script_readThird f1 len kb sb eb cb ob K = some (C, kc, sc, ec, c, off) ∧ fn_Md_takesRest w f len 0 mo y1 y2 y3 y4 got n (K + 1) = some (0, c, off, x1, x2, x3, x4, got', n'))
variable {y1 y2 y3 y4 o mo got : Int} {n : Int → Int}
theorem a_0 (H : pB len f1 f) (hq : 0 ≤ q) (hl : q ≤ len) (P : pTk f len q y1 y2 y3 y4) (N : pN tn nm w) (ht : 0 ≤ tn ∧ tn ≤ 8) (h2 : tK f len q = 2) : aArg f f1 len q tn 0 nm w y1 y2 y3 y4 o mo got n := by
  have hb := H.1
  obtain ⟨rfl, rfl, rfl, hvl⟩ := P
  have E0 := tE_r (f := f) hq hl
  have S0 := (tS_r (f := f) hq hl).1
  have h22 := tK_2 hq hl h2
  have hq0 : 0 ≤ tE f len q := by omega
  have hl0 : tE f len q ≤ len := by omega
  obtain ⟨v0, v1, v2, v3, kn0, P0⟩ := m_next H hq0 hl0 (tS f len q) y3 (mk (tK f len q))
  refine Or.inl ⟨0, 0, 0, tK f len q, tS f len q, tE f len q, tK f len q, tS f len q, tE f len q, tK f len q, tS f len q, tE f len q, v0, v1, v2, v3, got, n, ?_, ?_, ?_, ?_, P0, ?_, by omega, by omega⟩
  · unfold fn_Script_readFirst
    (try simp (disch := omega) only [↓zk_lt, ↓zk_nl, ↓zk_eq, ↓zk_ne, ↓zk_ix, ↓zk_dv, ↓zk_bo, ↓zk_rg, ↓zk_get, ↓zk_set, Option.bind_some])
  · unfold fn_Script_readSecond
    (try simp (disch := omega) only [↓zk_lt, ↓zk_nl, ↓zk_eq, ↓zk_ne, ↓zk_ix, ↓zk_dv, ↓zk_bo, ↓zk_rg, ↓zk_get, ↓zk_set, Option.bind_some])
  · unfold fn_Script_readThird
    (try simp (disch := omega) only [↓zk_lt, ↓zk_nl, ↓zk_eq, ↓zk_ne, ↓zk_ix, ↓zk_dv, ↓zk_bo, ↓zk_rg, ↓zk_get, ↓zk_set, Option.bind_some])
  · unfold fn_Md_takesRest fn_Md_takesCluster fn_Md_takesCordNumber
    rw [zk_bd kn0]
    (try simp (disch := omega) only [↓zk_lt, ↓zk_nl, ↓zk_eq, ↓zk_ne, ↓zk_ix, ↓zk_dv, ↓zk_bo, ↓zk_rg, ↓zk_get, ↓zk_set, Option.bind_some])
  · refine Or.inl ?_
    omega
theorem a_1 (H : pB len f1 f) (hq : 0 ≤ q) (hl : q ≤ len) (P : pTk f len q y1 y2 y3 y4) (N : pN tn nm w) (ht : 0 ≤ tn ∧ tn ≤ 8) (h2 : tK f len q = 2) : aArg f f1 len q tn 1 nm w y1 y2 y3 y4 o mo got n := by
  have hb := H.1
  obtain ⟨rfl, rfl, rfl, hvl⟩ := P
  have E0 := tE_r (f := f) hq hl
  have S0 := (tS_r (f := f) hq hl).1
  have h22 := tK_2 hq hl h2
  have hq0 : 0 ≤ tE f len q := by omega
  have hl0 : tE f len q ≤ len := by omega
  obtain ⟨v0, v1, v2, v3, kn0, P0⟩ := m_next H hq0 hl0 (tS f len q) y3 (mk (tK f len q))
  rcases num H hq0 hl0 (k0 := tK f len q) (s0 := tS f len q) (o := o) (mo := mo) (got := got) (lo := 0) (hi := 5) (kk := 0) (n := n) P0 (by omega) (by omega) (by omega) with ⟨A, e00, e01, e02, e03, hv0, hk0, c0, m0, -, Q0⟩ | ⟨A, cc, got', hc, c0, m0, -⟩
  · have E1 := tE_r (f := f) hq0 hl0
    have S1 := (tS_r (f := f) hq0 hl0).1
    have hq1 : 0 ≤ tE f len (tE f len q) := by omega
    have hl1 : tE f len (tE f len q) ≤ len := by omega
    rcases topic H hq1 hl1 (k0 := tK f len (tE f len q)) (s0 := tS f len (tE f len q)) (o := o) (mo := mo) (kk := 1) (n := (jk_up n 0 A)) Q0 N ht (by omega) with ⟨B, e10, e11, e12, e13, hv1, hk1, c1, m1, Q1⟩ | ⟨B, cc, n', hc, -, c1, m1⟩
    · have E2 := tE_r (f := f) hq1 hl1
      have S2 := (tS_r (f := f) hq1 hl1).1
      have hq2 : 0 ≤ tE f len (tE f len (tE f len q)) := by omega
      have hl2 : tE f len (tE f len (tE f len q)) ≤ len := by omega
      rcases num H hq2 hl2 (k0 := tK f len (tE f len (tE f len q))) (s0 := tS f len (tE f len (tE f len q))) (o := o) (mo := mo) (got := A) (lo := 0) (hi := 9999) (kk := 2) (n := (jk_up (jk_up n 0 A) 1 B)) Q1 (by omega) (by omega) (by omega) with ⟨C, e20, e21, e22, e23, hv2, hk2, c2, m2, -, Q2⟩ | ⟨C, cc, got', hc, c2, m2, -⟩
      · have E3 := tE_r (f := f) hq2 hl2
        have S3 := (tS_r (f := f) hq2 hl2).1
        have hq3 : 0 ≤ tE f len (tE f len (tE f len (tE f len q))) := by omega
        have hl3 : tE f len (tE f len (tE f len (tE f len q))) ≤ len := by omega
        have u0 : (jk_up (jk_up (jk_up n 0 A) 1 B) 2 C) 0 = A := by rw [up_ne (by omega), up_ne (by omega), up_eq rfl]
        have u1 : (jk_up (jk_up (jk_up n 0 A) 1 B) 2 C) 1 = B := by rw [up_ne (by omega), up_eq rfl]
        have u2 : (jk_up (jk_up (jk_up n 0 A) 1 B) 2 C) 2 = C := by rw [up_eq rfl]
        refine Or.inl ⟨A, B, C, tK f len (tE f len q), tS f len (tE f len q), tE f len (tE f len q), tK f len (tE f len (tE f len q)), tS f len (tE f len (tE f len q)), tE f len (tE f len (tE f len q)), tK f len (tE f len (tE f len (tE f len q))), tS f len (tE f len (tE f len (tE f len q))), tE f len (tE f len (tE f len (tE f len q))), e20, e21, e22, e23, C, (jk_up (jk_up (jk_up n 0 A) 1 B) 2 C), ?_, ?_, ?_, ?_, Q2, ?_, by omega, by omega⟩
        · unfold fn_Script_readFirst
          (try simp (disch := omega) only [↓zk_lt, ↓zk_nl, ↓zk_eq, ↓zk_ne, ↓zk_ix, ↓zk_dv, ↓zk_bo, ↓zk_rg, ↓zk_get, ↓zk_set, Option.bind_some])
          rw [zk_bd c0]
        · unfold fn_Script_readSecond
          (try simp (disch := omega) only [↓zk_lt, ↓zk_nl, ↓zk_eq, ↓zk_ne, ↓zk_ix, ↓zk_dv, ↓zk_bo, ↓zk_rg, ↓zk_get, ↓zk_set, Option.bind_some])
          rw [zk_bd c1]
        · unfold fn_Script_readThird
          (try simp (disch := omega) only [↓zk_lt, ↓zk_nl, ↓zk_eq, ↓zk_ne, ↓zk_ix, ↓zk_dv, ↓zk_bo, ↓zk_rg, ↓zk_get, ↓zk_set, Option.bind_some])
          rw [zk_bd c2]
        · unfold fn_Md_takesRest fn_Md_takesCluster fn_Md_takesCordNumber
          rw [zk_bd kn0]
          (try simp (disch := omega) only [↓zk_lt, ↓zk_nl, ↓zk_eq, ↓zk_ne, ↓zk_ix, ↓zk_dv, ↓zk_bo, ↓zk_rg, ↓zk_get, ↓zk_set, Option.bind_some])
          rw [zk_bd m0]
          (try simp (disch := omega) only [↓zk_lt, ↓zk_nl, ↓zk_eq, ↓zk_ne, ↓zk_ix, ↓zk_dv, ↓zk_bo, ↓zk_rg, ↓zk_get, ↓zk_set, Option.bind_some])
          rw [zk_bd m1]
          (try simp (disch := omega) only [↓zk_lt, ↓zk_nl, ↓zk_eq, ↓zk_ne, ↓zk_ix, ↓zk_dv, ↓zk_bo, ↓zk_rg, ↓zk_get, ↓zk_set, Option.bind_some])
          rw [zk_bd m2]
          (try simp (disch := omega) only [↓zk_lt, ↓zk_nl, ↓zk_eq, ↓zk_ne, ↓zk_ix, ↓zk_dv, ↓zk_bo, ↓zk_rg, ↓zk_get, ↓zk_set, Option.bind_some])
        · refine Or.inr (Or.inl ?_)
          rw [u0, u1, u2]
          omega
      · refine Or.inr ⟨A, B, C, tK f len (tE f len q), tS f len (tE f len q), tE f len (tE f len q), 0, o, tK f len (tE f len (tE f len q)), tS f len (tE f len (tE f len q)), tE f len (tE f len (tE f len q)), 0, o, tK f len (tE f len (tE f len (tE f len q))), tS f len (tE f len (tE f len (tE f len q))), tE f len (tE f len (tE f len (tE f len q))), cc, tS f len (tE f len (tE f len (tE f len q))), e10, e11, e12, e13, got', (jk_up (jk_up n 0 A) 1 B), hc, ?_, ?_, ?_, ?_⟩
        · unfold fn_Script_readFirst
          (try simp (disch := omega) only [↓zk_lt, ↓zk_nl, ↓zk_eq, ↓zk_ne, ↓zk_ix, ↓zk_dv, ↓zk_bo, ↓zk_rg, ↓zk_get, ↓zk_set, Option.bind_some])
          rw [zk_bd c0]
        · unfold fn_Script_readSecond
          (try simp (disch := omega) only [↓zk_lt, ↓zk_nl, ↓zk_eq, ↓zk_ne, ↓zk_ix, ↓zk_dv, ↓zk_bo, ↓zk_rg, ↓zk_get, ↓zk_set, Option.bind_some])
          rw [zk_bd c1]
        · unfold fn_Script_readThird
          (try simp (disch := omega) only [↓zk_lt, ↓zk_nl, ↓zk_eq, ↓zk_ne, ↓zk_ix, ↓zk_dv, ↓zk_bo, ↓zk_rg, ↓zk_get, ↓zk_set, Option.bind_some])
          rw [zk_bd c2]
        · unfold fn_Md_takesRest fn_Md_takesCluster fn_Md_takesCordNumber
          rw [zk_bd kn0]
          (try simp (disch := omega) only [↓zk_lt, ↓zk_nl, ↓zk_eq, ↓zk_ne, ↓zk_ix, ↓zk_dv, ↓zk_bo, ↓zk_rg, ↓zk_get, ↓zk_set, Option.bind_some])
          rw [zk_bd m0]
          (try simp (disch := omega) only [↓zk_lt, ↓zk_nl, ↓zk_eq, ↓zk_ne, ↓zk_ix, ↓zk_dv, ↓zk_bo, ↓zk_rg, ↓zk_get, ↓zk_set, Option.bind_some])
          rw [zk_bd m1]
          (try simp (disch := omega) only [↓zk_lt, ↓zk_nl, ↓zk_eq, ↓zk_ne, ↓zk_ix, ↓zk_dv, ↓zk_bo, ↓zk_rg, ↓zk_get, ↓zk_set, Option.bind_some])
          rw [zk_bd m2]
          (try simp (disch := omega) only [↓zk_lt, ↓zk_nl, ↓zk_eq, ↓zk_ne, ↓zk_ix, ↓zk_dv, ↓zk_bo, ↓zk_rg, ↓zk_get, ↓zk_set, Option.bind_some])
    · refine Or.inr ⟨A, B, 0, tK f len (tE f len q), tS f len (tE f len q), tE f len (tE f len q), 0, o, tK f len (tE f len (tE f len q)), tS f len (tE f len (tE f len q)), tE f len (tE f len (tE f len q)), cc, tS f len (tE f len (tE f len q)), tK f len (tE f len (tE f len q)), tS f len (tE f len (tE f len q)), tE f len (tE f len (tE f len q)), cc, tS f len (tE f len (tE f len q)), e00, e01, e02, e03, A, n', hc, ?_, ?_, ?_, ?_⟩
      · unfold fn_Script_readFirst
        (try simp (disch := omega) only [↓zk_lt, ↓zk_nl, ↓zk_eq, ↓zk_ne, ↓zk_ix, ↓zk_dv, ↓zk_bo, ↓zk_rg, ↓zk_get, ↓zk_set, Option.bind_some])
        rw [zk_bd c0]
      · unfold fn_Script_readSecond
        (try simp (disch := omega) only [↓zk_lt, ↓zk_nl, ↓zk_eq, ↓zk_ne, ↓zk_ix, ↓zk_dv, ↓zk_bo, ↓zk_rg, ↓zk_get, ↓zk_set, Option.bind_some])
        rw [zk_bd c1]
      · unfold fn_Script_readThird
        (try simp (disch := omega) only [↓zk_lt, ↓zk_nl, ↓zk_eq, ↓zk_ne, ↓zk_ix, ↓zk_dv, ↓zk_bo, ↓zk_rg, ↓zk_get, ↓zk_set, Option.bind_some])
        rw [zk_bd (x_num hc)]
      · unfold fn_Md_takesRest fn_Md_takesCluster fn_Md_takesCordNumber
        rw [zk_bd kn0]
        (try simp (disch := omega) only [↓zk_lt, ↓zk_nl, ↓zk_eq, ↓zk_ne, ↓zk_ix, ↓zk_dv, ↓zk_bo, ↓zk_rg, ↓zk_get, ↓zk_set, Option.bind_some])
        rw [zk_bd m0]
        (try simp (disch := omega) only [↓zk_lt, ↓zk_nl, ↓zk_eq, ↓zk_ne, ↓zk_ix, ↓zk_dv, ↓zk_bo, ↓zk_rg, ↓zk_get, ↓zk_set, Option.bind_some])
        rw [zk_bd m1]
        (try simp (disch := omega) only [↓zk_lt, ↓zk_nl, ↓zk_eq, ↓zk_ne, ↓zk_ix, ↓zk_dv, ↓zk_bo, ↓zk_rg, ↓zk_get, ↓zk_set, Option.bind_some])
  · refine Or.inr ⟨A, 0, 0, tK f len (tE f len q), tS f len (tE f len q), tE f len (tE f len q), cc, tS f len (tE f len q), tK f len (tE f len q), tS f len (tE f len q), tE f len (tE f len q), cc, tS f len (tE f len q), tK f len (tE f len q), tS f len (tE f len q), tE f len (tE f len q), cc, tS f len (tE f len q), v0, v1, v2, v3, got', n, hc, ?_, ?_, ?_, ?_⟩
    · unfold fn_Script_readFirst
      (try simp (disch := omega) only [↓zk_lt, ↓zk_nl, ↓zk_eq, ↓zk_ne, ↓zk_ix, ↓zk_dv, ↓zk_bo, ↓zk_rg, ↓zk_get, ↓zk_set, Option.bind_some])
      rw [zk_bd c0]
    · unfold fn_Script_readSecond
      (try simp (disch := omega) only [↓zk_lt, ↓zk_nl, ↓zk_eq, ↓zk_ne, ↓zk_ix, ↓zk_dv, ↓zk_bo, ↓zk_rg, ↓zk_get, ↓zk_set, Option.bind_some])
      rw [zk_bd (x_top hc)]
    · unfold fn_Script_readThird
      (try simp (disch := omega) only [↓zk_lt, ↓zk_nl, ↓zk_eq, ↓zk_ne, ↓zk_ix, ↓zk_dv, ↓zk_bo, ↓zk_rg, ↓zk_get, ↓zk_set, Option.bind_some])
      rw [zk_bd (x_num hc)]
    · unfold fn_Md_takesRest fn_Md_takesCluster fn_Md_takesCordNumber
      rw [zk_bd kn0]
      (try simp (disch := omega) only [↓zk_lt, ↓zk_nl, ↓zk_eq, ↓zk_ne, ↓zk_ix, ↓zk_dv, ↓zk_bo, ↓zk_rg, ↓zk_get, ↓zk_set, Option.bind_some])
      rw [zk_bd m0]
      (try simp (disch := omega) only [↓zk_lt, ↓zk_nl, ↓zk_eq, ↓zk_ne, ↓zk_ix, ↓zk_dv, ↓zk_bo, ↓zk_rg, ↓zk_get, ↓zk_set, Option.bind_some])
theorem a_2 (H : pB len f1 f) (hq : 0 ≤ q) (hl : q ≤ len) (P : pTk f len q y1 y2 y3 y4) (N : pN tn nm w) (ht : 0 ≤ tn ∧ tn ≤ 8) (h2 : tK f len q = 2) : aArg f f1 len q tn 2 nm w y1 y2 y3 y4 o mo got n := by
  have hb := H.1
  obtain ⟨rfl, rfl, rfl, hvl⟩ := P
  have E0 := tE_r (f := f) hq hl
  have S0 := (tS_r (f := f) hq hl).1
  have h22 := tK_2 hq hl h2
  have hq0 : 0 ≤ tE f len q := by omega
  have hl0 : tE f len q ≤ len := by omega
  obtain ⟨v0, v1, v2, v3, kn0, P0⟩ := m_next H hq0 hl0 (tS f len q) y3 (mk (tK f len q))
  rcases num H hq0 hl0 (k0 := tK f len q) (s0 := tS f len q) (o := o) (mo := mo) (got := got) (lo := 0) (hi := 39) (kk := 0) (n := n) P0 (by omega) (by omega) (by omega) with ⟨A, e00, e01, e02, e03, hv0, hk0, c0, m0, -, Q0⟩ | ⟨A, cc, got', hc, c0, m0, -⟩
  · have E1 := tE_r (f := f) hq0 hl0
    have S1 := (tS_r (f := f) hq0 hl0).1
    have hq1 : 0 ≤ tE f len (tE f len q) := by omega
    have hl1 : tE f len (tE f len q) ≤ len := by omega
    rcases topic H hq1 hl1 (k0 := tK f len (tE f len q)) (s0 := tS f len (tE f len q)) (o := o) (mo := mo) (kk := 1) (n := (jk_up n 0 A)) Q0 N ht (by omega) with ⟨B, e10, e11, e12, e13, hv1, hk1, c1, m1, Q1⟩ | ⟨B, cc, n', hc, -, c1, m1⟩
    · have E2 := tE_r (f := f) hq1 hl1
      have S2 := (tS_r (f := f) hq1 hl1).1
      have hq2 : 0 ≤ tE f len (tE f len (tE f len q)) := by omega
      have hl2 : tE f len (tE f len (tE f len q)) ≤ len := by omega
      rcases num H hq2 hl2 (k0 := tK f len (tE f len (tE f len q))) (s0 := tS f len (tE f len (tE f len q))) (o := o) (mo := mo) (got := A) (lo := 0) (hi := 9999) (kk := 2) (n := (jk_up (jk_up n 0 A) 1 B)) Q1 (by omega) (by omega) (by omega) with ⟨C, e20, e21, e22, e23, hv2, hk2, c2, m2, -, Q2⟩ | ⟨C, cc, got', hc, c2, m2, -⟩
      · have E3 := tE_r (f := f) hq2 hl2
        have S3 := (tS_r (f := f) hq2 hl2).1
        have hq3 : 0 ≤ tE f len (tE f len (tE f len (tE f len q))) := by omega
        have hl3 : tE f len (tE f len (tE f len (tE f len q))) ≤ len := by omega
        have u0 : (jk_up (jk_up (jk_up n 0 A) 1 B) 2 C) 0 = A := by rw [up_ne (by omega), up_ne (by omega), up_eq rfl]
        have u1 : (jk_up (jk_up (jk_up n 0 A) 1 B) 2 C) 1 = B := by rw [up_ne (by omega), up_eq rfl]
        have u2 : (jk_up (jk_up (jk_up n 0 A) 1 B) 2 C) 2 = C := by rw [up_eq rfl]
        refine Or.inl ⟨A, B, C, tK f len (tE f len q), tS f len (tE f len q), tE f len (tE f len q), tK f len (tE f len (tE f len q)), tS f len (tE f len (tE f len q)), tE f len (tE f len (tE f len q)), tK f len (tE f len (tE f len (tE f len q))), tS f len (tE f len (tE f len (tE f len q))), tE f len (tE f len (tE f len (tE f len q))), e20, e21, e22, e23, C, (jk_up (jk_up (jk_up n 0 A) 1 B) 2 C), ?_, ?_, ?_, ?_, Q2, ?_, by omega, by omega⟩
        · unfold fn_Script_readFirst
          (try simp (disch := omega) only [↓zk_lt, ↓zk_nl, ↓zk_eq, ↓zk_ne, ↓zk_ix, ↓zk_dv, ↓zk_bo, ↓zk_rg, ↓zk_get, ↓zk_set, Option.bind_some])
          rw [zk_bd c0]
        · unfold fn_Script_readSecond
          (try simp (disch := omega) only [↓zk_lt, ↓zk_nl, ↓zk_eq, ↓zk_ne, ↓zk_ix, ↓zk_dv, ↓zk_bo, ↓zk_rg, ↓zk_get, ↓zk_set, Option.bind_some])
          rw [zk_bd c1]
        · unfold fn_Script_readThird
          (try simp (disch := omega) only [↓zk_lt, ↓zk_nl, ↓zk_eq, ↓zk_ne, ↓zk_ix, ↓zk_dv, ↓zk_bo, ↓zk_rg, ↓zk_get, ↓zk_set, Option.bind_some])
          rw [zk_bd c2]
        · unfold fn_Md_takesRest fn_Md_takesCluster fn_Md_takesCordNumber
          rw [zk_bd kn0]
          (try simp (disch := omega) only [↓zk_lt, ↓zk_nl, ↓zk_eq, ↓zk_ne, ↓zk_ix, ↓zk_dv, ↓zk_bo, ↓zk_rg, ↓zk_get, ↓zk_set, Option.bind_some])
          rw [zk_bd m0]
          (try simp (disch := omega) only [↓zk_lt, ↓zk_nl, ↓zk_eq, ↓zk_ne, ↓zk_ix, ↓zk_dv, ↓zk_bo, ↓zk_rg, ↓zk_get, ↓zk_set, Option.bind_some])
          rw [zk_bd m1]
          (try simp (disch := omega) only [↓zk_lt, ↓zk_nl, ↓zk_eq, ↓zk_ne, ↓zk_ix, ↓zk_dv, ↓zk_bo, ↓zk_rg, ↓zk_get, ↓zk_set, Option.bind_some])
          rw [zk_bd m2]
          (try simp (disch := omega) only [↓zk_lt, ↓zk_nl, ↓zk_eq, ↓zk_ne, ↓zk_ix, ↓zk_dv, ↓zk_bo, ↓zk_rg, ↓zk_get, ↓zk_set, Option.bind_some])
        · refine Or.inr (Or.inr (Or.inl ?_))
          rw [u0, u1, u2]
          omega
      · refine Or.inr ⟨A, B, C, tK f len (tE f len q), tS f len (tE f len q), tE f len (tE f len q), 0, o, tK f len (tE f len (tE f len q)), tS f len (tE f len (tE f len q)), tE f len (tE f len (tE f len q)), 0, o, tK f len (tE f len (tE f len (tE f len q))), tS f len (tE f len (tE f len (tE f len q))), tE f len (tE f len (tE f len (tE f len q))), cc, tS f len (tE f len (tE f len (tE f len q))), e10, e11, e12, e13, got', (jk_up (jk_up n 0 A) 1 B), hc, ?_, ?_, ?_, ?_⟩
        · unfold fn_Script_readFirst
          (try simp (disch := omega) only [↓zk_lt, ↓zk_nl, ↓zk_eq, ↓zk_ne, ↓zk_ix, ↓zk_dv, ↓zk_bo, ↓zk_rg, ↓zk_get, ↓zk_set, Option.bind_some])
          rw [zk_bd c0]
        · unfold fn_Script_readSecond
          (try simp (disch := omega) only [↓zk_lt, ↓zk_nl, ↓zk_eq, ↓zk_ne, ↓zk_ix, ↓zk_dv, ↓zk_bo, ↓zk_rg, ↓zk_get, ↓zk_set, Option.bind_some])
          rw [zk_bd c1]
        · unfold fn_Script_readThird
          (try simp (disch := omega) only [↓zk_lt, ↓zk_nl, ↓zk_eq, ↓zk_ne, ↓zk_ix, ↓zk_dv, ↓zk_bo, ↓zk_rg, ↓zk_get, ↓zk_set, Option.bind_some])
          rw [zk_bd c2]
        · unfold fn_Md_takesRest fn_Md_takesCluster fn_Md_takesCordNumber
          rw [zk_bd kn0]
          (try simp (disch := omega) only [↓zk_lt, ↓zk_nl, ↓zk_eq, ↓zk_ne, ↓zk_ix, ↓zk_dv, ↓zk_bo, ↓zk_rg, ↓zk_get, ↓zk_set, Option.bind_some])
          rw [zk_bd m0]
          (try simp (disch := omega) only [↓zk_lt, ↓zk_nl, ↓zk_eq, ↓zk_ne, ↓zk_ix, ↓zk_dv, ↓zk_bo, ↓zk_rg, ↓zk_get, ↓zk_set, Option.bind_some])
          rw [zk_bd m1]
          (try simp (disch := omega) only [↓zk_lt, ↓zk_nl, ↓zk_eq, ↓zk_ne, ↓zk_ix, ↓zk_dv, ↓zk_bo, ↓zk_rg, ↓zk_get, ↓zk_set, Option.bind_some])
          rw [zk_bd m2]
          (try simp (disch := omega) only [↓zk_lt, ↓zk_nl, ↓zk_eq, ↓zk_ne, ↓zk_ix, ↓zk_dv, ↓zk_bo, ↓zk_rg, ↓zk_get, ↓zk_set, Option.bind_some])
    · refine Or.inr ⟨A, B, 0, tK f len (tE f len q), tS f len (tE f len q), tE f len (tE f len q), 0, o, tK f len (tE f len (tE f len q)), tS f len (tE f len (tE f len q)), tE f len (tE f len (tE f len q)), cc, tS f len (tE f len (tE f len q)), tK f len (tE f len (tE f len q)), tS f len (tE f len (tE f len q)), tE f len (tE f len (tE f len q)), cc, tS f len (tE f len (tE f len q)), e00, e01, e02, e03, A, n', hc, ?_, ?_, ?_, ?_⟩
      · unfold fn_Script_readFirst
        (try simp (disch := omega) only [↓zk_lt, ↓zk_nl, ↓zk_eq, ↓zk_ne, ↓zk_ix, ↓zk_dv, ↓zk_bo, ↓zk_rg, ↓zk_get, ↓zk_set, Option.bind_some])
        rw [zk_bd c0]
      · unfold fn_Script_readSecond
        (try simp (disch := omega) only [↓zk_lt, ↓zk_nl, ↓zk_eq, ↓zk_ne, ↓zk_ix, ↓zk_dv, ↓zk_bo, ↓zk_rg, ↓zk_get, ↓zk_set, Option.bind_some])
        rw [zk_bd c1]
      · unfold fn_Script_readThird
        (try simp (disch := omega) only [↓zk_lt, ↓zk_nl, ↓zk_eq, ↓zk_ne, ↓zk_ix, ↓zk_dv, ↓zk_bo, ↓zk_rg, ↓zk_get, ↓zk_set, Option.bind_some])
        rw [zk_bd (x_num hc)]
      · unfold fn_Md_takesRest fn_Md_takesCluster fn_Md_takesCordNumber
        rw [zk_bd kn0]
        (try simp (disch := omega) only [↓zk_lt, ↓zk_nl, ↓zk_eq, ↓zk_ne, ↓zk_ix, ↓zk_dv, ↓zk_bo, ↓zk_rg, ↓zk_get, ↓zk_set, Option.bind_some])
        rw [zk_bd m0]
        (try simp (disch := omega) only [↓zk_lt, ↓zk_nl, ↓zk_eq, ↓zk_ne, ↓zk_ix, ↓zk_dv, ↓zk_bo, ↓zk_rg, ↓zk_get, ↓zk_set, Option.bind_some])
        rw [zk_bd m1]
        (try simp (disch := omega) only [↓zk_lt, ↓zk_nl, ↓zk_eq, ↓zk_ne, ↓zk_ix, ↓zk_dv, ↓zk_bo, ↓zk_rg, ↓zk_get, ↓zk_set, Option.bind_some])
  · refine Or.inr ⟨A, 0, 0, tK f len (tE f len q), tS f len (tE f len q), tE f len (tE f len q), cc, tS f len (tE f len q), tK f len (tE f len q), tS f len (tE f len q), tE f len (tE f len q), cc, tS f len (tE f len q), tK f len (tE f len q), tS f len (tE f len q), tE f len (tE f len q), cc, tS f len (tE f len q), v0, v1, v2, v3, got', n, hc, ?_, ?_, ?_, ?_⟩
    · unfold fn_Script_readFirst
      (try simp (disch := omega) only [↓zk_lt, ↓zk_nl, ↓zk_eq, ↓zk_ne, ↓zk_ix, ↓zk_dv, ↓zk_bo, ↓zk_rg, ↓zk_get, ↓zk_set, Option.bind_some])
      rw [zk_bd c0]
    · unfold fn_Script_readSecond
      (try simp (disch := omega) only [↓zk_lt, ↓zk_nl, ↓zk_eq, ↓zk_ne, ↓zk_ix, ↓zk_dv, ↓zk_bo, ↓zk_rg, ↓zk_get, ↓zk_set, Option.bind_some])
      rw [zk_bd (x_top hc)]
    · unfold fn_Script_readThird
      (try simp (disch := omega) only [↓zk_lt, ↓zk_nl, ↓zk_eq, ↓zk_ne, ↓zk_ix, ↓zk_dv, ↓zk_bo, ↓zk_rg, ↓zk_get, ↓zk_set, Option.bind_some])
      rw [zk_bd (x_num hc)]
    · unfold fn_Md_takesRest fn_Md_takesCluster fn_Md_takesCordNumber
      rw [zk_bd kn0]
      (try simp (disch := omega) only [↓zk_lt, ↓zk_nl, ↓zk_eq, ↓zk_ne, ↓zk_ix, ↓zk_dv, ↓zk_bo, ↓zk_rg, ↓zk_get, ↓zk_set, Option.bind_some])
      rw [zk_bd m0]
      (try simp (disch := omega) only [↓zk_lt, ↓zk_nl, ↓zk_eq, ↓zk_ne, ↓zk_ix, ↓zk_dv, ↓zk_bo, ↓zk_rg, ↓zk_get, ↓zk_set, Option.bind_some])
theorem a_3 (H : pB len f1 f) (hq : 0 ≤ q) (hl : q ≤ len) (P : pTk f len q y1 y2 y3 y4) (N : pN tn nm w) (ht : 0 ≤ tn ∧ tn ≤ 8) (h2 : tK f len q = 2) : aArg f f1 len q tn 3 nm w y1 y2 y3 y4 o mo got n := by
  have hb := H.1
  obtain ⟨rfl, rfl, rfl, hvl⟩ := P
  have E0 := tE_r (f := f) hq hl
  have S0 := (tS_r (f := f) hq hl).1
  have h22 := tK_2 hq hl h2
  have hq0 : 0 ≤ tE f len q := by omega
  have hl0 : tE f len q ≤ len := by omega
  obtain ⟨v0, v1, v2, v3, kn0, P0⟩ := m_next H hq0 hl0 (tS f len q) y3 (mk (tK f len q))
  rcases num H hq0 hl0 (k0 := tK f len q) (s0 := tS f len q) (o := o) (mo := mo) (got := got) (lo := 0) (hi := 39) (kk := 0) (n := n) P0 (by omega) (by omega) (by omega) with ⟨A, e00, e01, e02, e03, hv0, hk0, c0, m0, -, Q0⟩ | ⟨A, cc, got', hc, c0, m0, -⟩
  · have E1 := tE_r (f := f) hq0 hl0
    have S1 := (tS_r (f := f) hq0 hl0).1
    have hq1 : 0 ≤ tE f len (tE f len q) := by omega
    have hl1 : tE f len (tE f len q) ≤ len := by omega
    have u0 : (jk_up n 0 A) 0 = A := by rw [up_eq rfl]
    refine Or.inl ⟨A, 0, 0, tK f len (tE f len q), tS f len (tE f len q), tE f len (tE f len q), tK f len (tE f len q), tS f len (tE f len q), tE f len (tE f len q), tK f len (tE f len q), tS f len (tE f len q), tE f len (tE f len q), e00, e01, e02, e03, A, (jk_up n 0 A), ?_, ?_, ?_, ?_, Q0, ?_, by omega, by omega⟩
    · unfold fn_Script_readFirst
      (try simp (disch := omega) only [↓zk_lt, ↓zk_nl, ↓zk_eq, ↓zk_ne, ↓zk_ix, ↓zk_dv, ↓zk_bo, ↓zk_rg, ↓zk_get, ↓zk_set, Option.bind_some])
      rw [zk_bd c0]
    · unfold fn_Script_readSecond
      (try simp (disch := omega) only [↓zk_lt, ↓zk_nl, ↓zk_eq, ↓zk_ne, ↓zk_ix, ↓zk_dv, ↓zk_bo, ↓zk_rg, ↓zk_get, ↓zk_set, Option.bind_some])
    · unfold fn_Script_readThird
      (try simp (disch := omega) only [↓zk_lt, ↓zk_nl, ↓zk_eq, ↓zk_ne, ↓zk_ix, ↓zk_dv, ↓zk_bo, ↓zk_rg, ↓zk_get, ↓zk_set, Option.bind_some])
    · unfold fn_Md_takesRest fn_Md_takesCluster fn_Md_takesCordNumber
      rw [zk_bd kn0]
      (try simp (disch := omega) only [↓zk_lt, ↓zk_nl, ↓zk_eq, ↓zk_ne, ↓zk_ix, ↓zk_dv, ↓zk_bo, ↓zk_rg, ↓zk_get, ↓zk_set, Option.bind_some])
      rw [zk_bd m0]
      (try simp (disch := omega) only [↓zk_lt, ↓zk_nl, ↓zk_eq, ↓zk_ne, ↓zk_ix, ↓zk_dv, ↓zk_bo, ↓zk_rg, ↓zk_get, ↓zk_set, Option.bind_some])
    · refine Or.inr (Or.inr (Or.inr (Or.inl ?_)))
      rw [u0]
      omega
  · refine Or.inr ⟨A, 0, 0, tK f len (tE f len q), tS f len (tE f len q), tE f len (tE f len q), cc, tS f len (tE f len q), tK f len (tE f len q), tS f len (tE f len q), tE f len (tE f len q), cc, tS f len (tE f len q), tK f len (tE f len q), tS f len (tE f len q), tE f len (tE f len q), cc, tS f len (tE f len q), v0, v1, v2, v3, got', n, hc, ?_, ?_, ?_, ?_⟩
    · unfold fn_Script_readFirst
      (try simp (disch := omega) only [↓zk_lt, ↓zk_nl, ↓zk_eq, ↓zk_ne, ↓zk_ix, ↓zk_dv, ↓zk_bo, ↓zk_rg, ↓zk_get, ↓zk_set, Option.bind_some])
      rw [zk_bd c0]
    · unfold fn_Script_readSecond
      (try simp (disch := omega) only [↓zk_lt, ↓zk_nl, ↓zk_eq, ↓zk_ne, ↓zk_ix, ↓zk_dv, ↓zk_bo, ↓zk_rg, ↓zk_get, ↓zk_set, Option.bind_some])
    · unfold fn_Script_readThird
      (try simp (disch := omega) only [↓zk_lt, ↓zk_nl, ↓zk_eq, ↓zk_ne, ↓zk_ix, ↓zk_dv, ↓zk_bo, ↓zk_rg, ↓zk_get, ↓zk_set, Option.bind_some])
    · unfold fn_Md_takesRest fn_Md_takesCluster fn_Md_takesCordNumber
      rw [zk_bd kn0]
      (try simp (disch := omega) only [↓zk_lt, ↓zk_nl, ↓zk_eq, ↓zk_ne, ↓zk_ix, ↓zk_dv, ↓zk_bo, ↓zk_rg, ↓zk_get, ↓zk_set, Option.bind_some])
      rw [zk_bd m0]
      (try simp (disch := omega) only [↓zk_lt, ↓zk_nl, ↓zk_eq, ↓zk_ne, ↓zk_ix, ↓zk_dv, ↓zk_bo, ↓zk_rg, ↓zk_get, ↓zk_set, Option.bind_some])
theorem a_4 (H : pB len f1 f) (hq : 0 ≤ q) (hl : q ≤ len) (P : pTk f len q y1 y2 y3 y4) (N : pN tn nm w) (ht : 0 ≤ tn ∧ tn ≤ 8) (h2 : tK f len q = 2) : aArg f f1 len q tn 4 nm w y1 y2 y3 y4 o mo got n := by
  have hb := H.1
  obtain ⟨rfl, rfl, rfl, hvl⟩ := P
  have E0 := tE_r (f := f) hq hl
  have S0 := (tS_r (f := f) hq hl).1
  have h22 := tK_2 hq hl h2
  have hq0 : 0 ≤ tE f len q := by omega
  have hl0 : tE f len q ≤ len := by omega
  obtain ⟨v0, v1, v2, v3, kn0, P0⟩ := m_next H hq0 hl0 (tS f len q) y3 (mk (tK f len q))
  rcases num H hq0 hl0 (k0 := tK f len q) (s0 := tS f len q) (o := o) (mo := mo) (got := got) (lo := 0) (hi := 5) (kk := 0) (n := n) P0 (by omega) (by omega) (by omega) with ⟨A, e00, e01, e02, e03, hv0, hk0, c0, m0, -, Q0⟩ | ⟨A, cc, got', hc, c0, m0, -⟩
  · have E1 := tE_r (f := f) hq0 hl0
    have S1 := (tS_r (f := f) hq0 hl0).1
    have hq1 : 0 ≤ tE f len (tE f len q) := by omega
    have hl1 : tE f len (tE f len q) ≤ len := by omega
    rcases topic H hq1 hl1 (k0 := tK f len (tE f len q)) (s0 := tS f len (tE f len q)) (o := o) (mo := mo) (kk := 1) (n := (jk_up n 0 A)) Q0 N ht (by omega) with ⟨B, e10, e11, e12, e13, hv1, hk1, c1, m1, Q1⟩ | ⟨B, cc, n', hc, -, c1, m1⟩
    · have E2 := tE_r (f := f) hq1 hl1
      have S2 := (tS_r (f := f) hq1 hl1).1
      have hq2 : 0 ≤ tE f len (tE f len (tE f len q)) := by omega
      have hl2 : tE f len (tE f len (tE f len q)) ≤ len := by omega
      have u0 : (jk_up (jk_up n 0 A) 1 B) 0 = A := by rw [up_ne (by omega), up_eq rfl]
      have u1 : (jk_up (jk_up n 0 A) 1 B) 1 = B := by rw [up_eq rfl]
      refine Or.inl ⟨A, B, 0, tK f len (tE f len q), tS f len (tE f len q), tE f len (tE f len q), tK f len (tE f len (tE f len q)), tS f len (tE f len (tE f len q)), tE f len (tE f len (tE f len q)), tK f len (tE f len (tE f len q)), tS f len (tE f len (tE f len q)), tE f len (tE f len (tE f len q)), e10, e11, e12, e13, A, (jk_up (jk_up n 0 A) 1 B), ?_, ?_, ?_, ?_, Q1, ?_, by omega, by omega⟩
      · unfold fn_Script_readFirst
        (try simp (disch := omega) only [↓zk_lt, ↓zk_nl, ↓zk_eq, ↓zk_ne, ↓zk_ix, ↓zk_dv, ↓zk_bo, ↓zk_rg, ↓zk_get, ↓zk_set, Option.bind_some])
        rw [zk_bd c0]
      · unfold fn_Script_readSecond
        (try simp (disch := omega) only [↓zk_lt, ↓zk_nl, ↓zk_eq, ↓zk_ne, ↓zk_ix, ↓zk_dv, ↓zk_bo, ↓zk_rg, ↓zk_get, ↓zk_set, Option.bind_some])
        rw [zk_bd c1]
      · unfold fn_Script_readThird
        (try simp (disch := omega) only [↓zk_lt, ↓zk_nl, ↓zk_eq, ↓zk_ne, ↓zk_ix, ↓zk_dv, ↓zk_bo, ↓zk_rg, ↓zk_get, ↓zk_set, Option.bind_some])
      · unfold fn_Md_takesRest fn_Md_takesCluster fn_Md_takesCordNumber
        rw [zk_bd kn0]
        (try simp (disch := omega) only [↓zk_lt, ↓zk_nl, ↓zk_eq, ↓zk_ne, ↓zk_ix, ↓zk_dv, ↓zk_bo, ↓zk_rg, ↓zk_get, ↓zk_set, Option.bind_some])
        rw [zk_bd m0]
        (try simp (disch := omega) only [↓zk_lt, ↓zk_nl, ↓zk_eq, ↓zk_ne, ↓zk_ix, ↓zk_dv, ↓zk_bo, ↓zk_rg, ↓zk_get, ↓zk_set, Option.bind_some])
        rw [zk_bd m1]
        (try simp (disch := omega) only [↓zk_lt, ↓zk_nl, ↓zk_eq, ↓zk_ne, ↓zk_ix, ↓zk_dv, ↓zk_bo, ↓zk_rg, ↓zk_get, ↓zk_set, Option.bind_some])
      · refine Or.inr (Or.inr (Or.inr (Or.inr (Or.inl ?_))))
        rw [u0, u1]
        omega
    · refine Or.inr ⟨A, B, 0, tK f len (tE f len q), tS f len (tE f len q), tE f len (tE f len q), 0, o, tK f len (tE f len (tE f len q)), tS f len (tE f len (tE f len q)), tE f len (tE f len (tE f len q)), cc, tS f len (tE f len (tE f len q)), tK f len (tE f len (tE f len q)), tS f len (tE f len (tE f len q)), tE f len (tE f len (tE f len q)), cc, tS f len (tE f len (tE f len q)), e00, e01, e02, e03, A, n', hc, ?_, ?_, ?_, ?_⟩
      · unfold fn_Script_readFirst
        (try simp (disch := omega) only [↓zk_lt, ↓zk_nl, ↓zk_eq, ↓zk_ne, ↓zk_ix, ↓zk_dv, ↓zk_bo, ↓zk_rg, ↓zk_get, ↓zk_set, Option.bind_some])
        rw [zk_bd c0]
      · unfold fn_Script_readSecond
        (try simp (disch := omega) only [↓zk_lt, ↓zk_nl, ↓zk_eq, ↓zk_ne, ↓zk_ix, ↓zk_dv, ↓zk_bo, ↓zk_rg, ↓zk_get, ↓zk_set, Option.bind_some])
        rw [zk_bd c1]
      · unfold fn_Script_readThird
        (try simp (disch := omega) only [↓zk_lt, ↓zk_nl, ↓zk_eq, ↓zk_ne, ↓zk_ix, ↓zk_dv, ↓zk_bo, ↓zk_rg, ↓zk_get, ↓zk_set, Option.bind_some])
      · unfold fn_Md_takesRest fn_Md_takesCluster fn_Md_takesCordNumber
        rw [zk_bd kn0]
        (try simp (disch := omega) only [↓zk_lt, ↓zk_nl, ↓zk_eq, ↓zk_ne, ↓zk_ix, ↓zk_dv, ↓zk_bo, ↓zk_rg, ↓zk_get, ↓zk_set, Option.bind_some])
        rw [zk_bd m0]
        (try simp (disch := omega) only [↓zk_lt, ↓zk_nl, ↓zk_eq, ↓zk_ne, ↓zk_ix, ↓zk_dv, ↓zk_bo, ↓zk_rg, ↓zk_get, ↓zk_set, Option.bind_some])
        rw [zk_bd m1]
        (try simp (disch := omega) only [↓zk_lt, ↓zk_nl, ↓zk_eq, ↓zk_ne, ↓zk_ix, ↓zk_dv, ↓zk_bo, ↓zk_rg, ↓zk_get, ↓zk_set, Option.bind_some])
  · refine Or.inr ⟨A, 0, 0, tK f len (tE f len q), tS f len (tE f len q), tE f len (tE f len q), cc, tS f len (tE f len q), tK f len (tE f len q), tS f len (tE f len q), tE f len (tE f len q), cc, tS f len (tE f len q), tK f len (tE f len q), tS f len (tE f len q), tE f len (tE f len q), cc, tS f len (tE f len q), v0, v1, v2, v3, got', n, hc, ?_, ?_, ?_, ?_⟩
    · unfold fn_Script_readFirst
      (try simp (disch := omega) only [↓zk_lt, ↓zk_nl, ↓zk_eq, ↓zk_ne, ↓zk_ix, ↓zk_dv, ↓zk_bo, ↓zk_rg, ↓zk_get, ↓zk_set, Option.bind_some])
      rw [zk_bd c0]
    · unfold fn_Script_readSecond
      (try simp (disch := omega) only [↓zk_lt, ↓zk_nl, ↓zk_eq, ↓zk_ne, ↓zk_ix, ↓zk_dv, ↓zk_bo, ↓zk_rg, ↓zk_get, ↓zk_set, Option.bind_some])
      rw [zk_bd (x_top hc)]
    · unfold fn_Script_readThird
      (try simp (disch := omega) only [↓zk_lt, ↓zk_nl, ↓zk_eq, ↓zk_ne, ↓zk_ix, ↓zk_dv, ↓zk_bo, ↓zk_rg, ↓zk_get, ↓zk_set, Option.bind_some])
    · unfold fn_Md_takesRest fn_Md_takesCluster fn_Md_takesCordNumber
      rw [zk_bd kn0]
      (try simp (disch := omega) only [↓zk_lt, ↓zk_nl, ↓zk_eq, ↓zk_ne, ↓zk_ix, ↓zk_dv, ↓zk_bo, ↓zk_rg, ↓zk_get, ↓zk_set, Option.bind_some])
      rw [zk_bd m0]
      (try simp (disch := omega) only [↓zk_lt, ↓zk_nl, ↓zk_eq, ↓zk_ne, ↓zk_ix, ↓zk_dv, ↓zk_bo, ↓zk_rg, ↓zk_get, ↓zk_set, Option.bind_some])
theorem a_5 (H : pB len f1 f) (hq : 0 ≤ q) (hl : q ≤ len) (P : pTk f len q y1 y2 y3 y4) (N : pN tn nm w) (ht : 0 ≤ tn ∧ tn ≤ 8) (h2 : tK f len q = 2) : aArg f f1 len q tn 5 nm w y1 y2 y3 y4 o mo got n := by
  have hb := H.1
  obtain ⟨rfl, rfl, rfl, hvl⟩ := P
  have E0 := tE_r (f := f) hq hl
  have S0 := (tS_r (f := f) hq hl).1
  have h22 := tK_2 hq hl h2
  have hq0 : 0 ≤ tE f len q := by omega
  have hl0 : tE f len q ≤ len := by omega
  obtain ⟨v0, v1, v2, v3, kn0, P0⟩ := m_next H hq0 hl0 (tS f len q) y3 (mk (tK f len q))
  rcases num H hq0 hl0 (k0 := tK f len q) (s0 := tS f len q) (o := o) (mo := mo) (got := got) (lo := 0) (hi := 39) (kk := 0) (n := n) P0 (by omega) (by omega) (by omega) with ⟨A, e00, e01, e02, e03, hv0, hk0, c0, m0, -, Q0⟩ | ⟨A, cc, got', hc, c0, m0, -⟩
  · have E1 := tE_r (f := f) hq0 hl0
    have S1 := (tS_r (f := f) hq0 hl0).1
    have hq1 : 0 ≤ tE f len (tE f len q) := by omega
    have hl1 : tE f len (tE f len q) ≤ len := by omega
    rcases num H hq1 hl1 (k0 := tK f len (tE f len q)) (s0 := tS f len (tE f len q)) (o := o) (mo := mo) (got := A) (lo := 0) (hi := 3) (kk := 1) (n := (jk_up n 0 A)) Q0 (by omega) (by omega) (by omega) with ⟨B, e10, e11, e12, e13, hv1, hk1, c1, m1, -, Q1⟩ | ⟨B, cc, got', hc, c1, m1, -⟩
    · have E2 := tE_r (f := f) hq1 hl1
      have S2 := (tS_r (f := f) hq1 hl1).1
      have hq2 : 0 ≤ tE f len (tE f len (tE f len q)) := by omega
      have hl2 : tE f len (tE f len (tE f len q)) ≤ len := by omega
      rcases num H hq2 hl2 (k0 := tK f len (tE f len (tE f len q))) (s0 := tS f len (tE f len (tE f len q))) (o := o) (mo := mo) (got := B) (lo := 0) (hi := 9) (kk := 2) (n := (jk_up (jk_up n 0 A) 1 B)) Q1 (by omega) (by omega) (by omega) with ⟨C, e20, e21, e22, e23, hv2, hk2, c2, m2, -, Q2⟩ | ⟨C, cc, got', hc, c2, m2, -⟩
      · have E3 := tE_r (f := f) hq2 hl2
        have S3 := (tS_r (f := f) hq2 hl2).1
        have hq3 : 0 ≤ tE f len (tE f len (tE f len (tE f len q))) := by omega
        have hl3 : tE f len (tE f len (tE f len (tE f len q))) ≤ len := by omega
        have u0 : (jk_up (jk_up (jk_up n 0 A) 1 B) 2 C) 0 = A := by rw [up_ne (by omega), up_ne (by omega), up_eq rfl]
        have u1 : (jk_up (jk_up (jk_up n 0 A) 1 B) 2 C) 1 = B := by rw [up_ne (by omega), up_eq rfl]
        have u2 : (jk_up (jk_up (jk_up n 0 A) 1 B) 2 C) 2 = C := by rw [up_eq rfl]
        refine Or.inl ⟨A, B, C, tK f len (tE f len q), tS f len (tE f len q), tE f len (tE f len q), tK f len (tE f len (tE f len q)), tS f len (tE f len (tE f len q)), tE f len (tE f len (tE f len q)), tK f len (tE f len (tE f len (tE f len q))), tS f len (tE f len (tE f len (tE f len q))), tE f len (tE f len (tE f len (tE f len q))), e20, e21, e22, e23, C, (jk_up (jk_up (jk_up n 0 A) 1 B) 2 C), ?_, ?_, ?_, ?_, Q2, ?_, by omega, by omega⟩
        · unfold fn_Script_readFirst
          (try simp (disch := omega) only [↓zk_lt, ↓zk_nl, ↓zk_eq, ↓zk_ne, ↓zk_ix, ↓zk_dv, ↓zk_bo, ↓zk_rg, ↓zk_get, ↓zk_set, Option.bind_some])
          rw [zk_bd c0]
        · unfold fn_Script_readSecond
          (try simp (disch := omega) only [↓zk_lt, ↓zk_nl, ↓zk_eq, ↓zk_ne, ↓zk_ix, ↓zk_dv, ↓zk_bo, ↓zk_rg, ↓zk_get, ↓zk_set, Option.bind_some])
          rw [zk_bd c1]
        · unfold fn_Script_readThird
          (try simp (disch := omega) only [↓zk_lt, ↓zk_nl, ↓zk_eq, ↓zk_ne, ↓zk_ix, ↓zk_dv, ↓zk_bo, ↓zk_rg, ↓zk_get, ↓zk_set, Option.bind_some])
          rw [zk_bd c2]
        · unfold fn_Md_takesRest fn_Md_takesCluster fn_Md_takesCordNumber
          rw [zk_bd kn0]
          (try simp (disch := omega) only [↓zk_lt, ↓zk_nl, ↓zk_eq, ↓zk_ne, ↓zk_ix, ↓zk_dv, ↓zk_bo, ↓zk_rg, ↓zk_get, ↓zk_set, Option.bind_some])
          rw [zk_bd m0]
          (try simp (disch := omega) only [↓zk_lt, ↓zk_nl, ↓zk_eq, ↓zk_ne, ↓zk_ix, ↓zk_dv, ↓zk_bo, ↓zk_rg, ↓zk_get, ↓zk_set, Option.bind_some])
          rw [zk_bd m1]
          (try simp (disch := omega) only [↓zk_lt, ↓zk_nl, ↓zk_eq, ↓zk_ne, ↓zk_ix, ↓zk_dv, ↓zk_bo, ↓zk_rg, ↓zk_get, ↓zk_set, Option.bind_some])
          rw [zk_bd m2]
          (try simp (disch := omega) only [↓zk_lt, ↓zk_nl, ↓zk_eq, ↓zk_ne, ↓zk_ix, ↓zk_dv, ↓zk_bo, ↓zk_rg, ↓zk_get, ↓zk_set, Option.bind_some])
        · refine Or.inr (Or.inr (Or.inr (Or.inr (Or.inr (Or.inl ?_)))))
          rw [u0, u1, u2]
          omega
      · refine Or.inr ⟨A, B, C, tK f len (tE f len q), tS f len (tE f len q), tE f len (tE f len q), 0, o, tK f len (tE f len (tE f len q)), tS f len (tE f len (tE f len q)), tE f len (tE f len (tE f len q)), 0, o, tK f len (tE f len (tE f len (tE f len q))), tS f len (tE f len (tE f len (tE f len q))), tE f len (tE f len (tE f len (tE f len q))), cc, tS f len (tE f len (tE f len (tE f len q))), e10, e11, e12, e13, got', (jk_up (jk_up n 0 A) 1 B), hc, ?_, ?_, ?_, ?_⟩
        · unfold fn_Script_readFirst
          (try simp (disch := omega) only [↓zk_lt, ↓zk_nl, ↓zk_eq, ↓zk_ne, ↓zk_ix, ↓zk_dv, ↓zk_bo, ↓zk_rg, ↓zk_get, ↓zk_set, Option.bind_some])
          rw [zk_bd c0]
        · unfold fn_Script_readSecond
          (try simp (disch := omega) only [↓zk_lt, ↓zk_nl, ↓zk_eq, ↓zk_ne, ↓zk_ix, ↓zk_dv, ↓zk_bo, ↓zk_rg, ↓zk_get, ↓zk_set, Option.bind_some])
          rw [zk_bd c1]
        · unfold fn_Script_readThird
          (try simp (disch := omega) only [↓zk_lt, ↓zk_nl, ↓zk_eq, ↓zk_ne, ↓zk_ix, ↓zk_dv, ↓zk_bo, ↓zk_rg, ↓zk_get, ↓zk_set, Option.bind_some])
          rw [zk_bd c2]
        · unfold fn_Md_takesRest fn_Md_takesCluster fn_Md_takesCordNumber
          rw [zk_bd kn0]
          (try simp (disch := omega) only [↓zk_lt, ↓zk_nl, ↓zk_eq, ↓zk_ne, ↓zk_ix, ↓zk_dv, ↓zk_bo, ↓zk_rg, ↓zk_get, ↓zk_set, Option.bind_some])
          rw [zk_bd m0]
          (try simp (disch := omega) only [↓zk_lt, ↓zk_nl, ↓zk_eq, ↓zk_ne, ↓zk_ix, ↓zk_dv, ↓zk_bo, ↓zk_rg, ↓zk_get, ↓zk_set, Option.bind_some])
          rw [zk_bd m1]
          (try simp (disch := omega) only [↓zk_lt, ↓zk_nl, ↓zk_eq, ↓zk_ne, ↓zk_ix, ↓zk_dv, ↓zk_bo, ↓zk_rg, ↓zk_get, ↓zk_set, Option.bind_some])
          rw [zk_bd m2]
          (try simp (disch := omega) only [↓zk_lt, ↓zk_nl, ↓zk_eq, ↓zk_ne, ↓zk_ix, ↓zk_dv, ↓zk_bo, ↓zk_rg, ↓zk_get, ↓zk_set, Option.bind_some])
    · refine Or.inr ⟨A, B, 0, tK f len (tE f len q), tS f len (tE f len q), tE f len (tE f len q), 0, o, tK f len (tE f len (tE f len q)), tS f len (tE f len (tE f len q)), tE f len (tE f len (tE f len q)), cc, tS f len (tE f len (tE f len q)), tK f len (tE f len (tE f len q)), tS f len (tE f len (tE f len q)), tE f len (tE f len (tE f len q)), cc, tS f len (tE f len (tE f len q)), e00, e01, e02, e03, got', (jk_up n 0 A), hc, ?_, ?_, ?_, ?_⟩
      · unfold fn_Script_readFirst
        (try simp (disch := omega) only [↓zk_lt, ↓zk_nl, ↓zk_eq, ↓zk_ne, ↓zk_ix, ↓zk_dv, ↓zk_bo, ↓zk_rg, ↓zk_get, ↓zk_set, Option.bind_some])
        rw [zk_bd c0]
      · unfold fn_Script_readSecond
        (try simp (disch := omega) only [↓zk_lt, ↓zk_nl, ↓zk_eq, ↓zk_ne, ↓zk_ix, ↓zk_dv, ↓zk_bo, ↓zk_rg, ↓zk_get, ↓zk_set, Option.bind_some])
        rw [zk_bd c1]
      · unfold fn_Script_readThird
        (try simp (disch := omega) only [↓zk_lt, ↓zk_nl, ↓zk_eq, ↓zk_ne, ↓zk_ix, ↓zk_dv, ↓zk_bo, ↓zk_rg, ↓zk_get, ↓zk_set, Option.bind_some])
        rw [zk_bd (x_num hc)]
      · unfold fn_Md_takesRest fn_Md_takesCluster fn_Md_takesCordNumber
        rw [zk_bd kn0]
        (try simp (disch := omega) only [↓zk_lt, ↓zk_nl, ↓zk_eq, ↓zk_ne, ↓zk_ix, ↓zk_dv, ↓zk_bo, ↓zk_rg, ↓zk_get, ↓zk_set, Option.bind_some])
        rw [zk_bd m0]
        (try simp (disch := omega) only [↓zk_lt, ↓zk_nl, ↓zk_eq, ↓zk_ne, ↓zk_ix, ↓zk_dv, ↓zk_bo, ↓zk_rg, ↓zk_get, ↓zk_set, Option.bind_some])
        rw [zk_bd m1]
        (try simp (disch := omega) only [↓zk_lt, ↓zk_nl, ↓zk_eq, ↓zk_ne, ↓zk_ix, ↓zk_dv, ↓zk_bo, ↓zk_rg, ↓zk_get, ↓zk_set, Option.bind_some])
  · refine Or.inr ⟨A, 0, 0, tK f len (tE f len q), tS f len (tE f len q), tE f len (tE f len q), cc, tS f len (tE f len q), tK f len (tE f len q), tS f len (tE f len q), tE f len (tE f len q), cc, tS f len (tE f len q), tK f len (tE f len q), tS f len (tE f len q), tE f len (tE f len q), cc, tS f len (tE f len q), v0, v1, v2, v3, got', n, hc, ?_, ?_, ?_, ?_⟩
    · unfold fn_Script_readFirst
      (try simp (disch := omega) only [↓zk_lt, ↓zk_nl, ↓zk_eq, ↓zk_ne, ↓zk_ix, ↓zk_dv, ↓zk_bo, ↓zk_rg, ↓zk_get, ↓zk_set, Option.bind_some])
      rw [zk_bd c0]
    · unfold fn_Script_readSecond
      (try simp (disch := omega) only [↓zk_lt, ↓zk_nl, ↓zk_eq, ↓zk_ne, ↓zk_ix, ↓zk_dv, ↓zk_bo, ↓zk_rg, ↓zk_get, ↓zk_set, Option.bind_some])
      rw [zk_bd (x_num hc)]
    · unfold fn_Script_readThird
      (try simp (disch := omega) only [↓zk_lt, ↓zk_nl, ↓zk_eq, ↓zk_ne, ↓zk_ix, ↓zk_dv, ↓zk_bo, ↓zk_rg, ↓zk_get, ↓zk_set, Option.bind_some])
      rw [zk_bd (x_num hc)]
    · unfold fn_Md_takesRest fn_Md_takesCluster fn_Md_takesCordNumber
      rw [zk_bd kn0]
      (try simp (disch := omega) only [↓zk_lt, ↓zk_nl, ↓zk_eq, ↓zk_ne, ↓zk_ix, ↓zk_dv, ↓zk_bo, ↓zk_rg, ↓zk_get, ↓zk_set, Option.bind_some])
      rw [zk_bd m0]
      (try simp (disch := omega) only [↓zk_lt, ↓zk_nl, ↓zk_eq, ↓zk_ne, ↓zk_ix, ↓zk_dv, ↓zk_bo, ↓zk_rg, ↓zk_get, ↓zk_set, Option.bind_some])
theorem a_6 (H : pB len f1 f) (hq : 0 ≤ q) (hl : q ≤ len) (P : pTk f len q y1 y2 y3 y4) (N : pN tn nm w) (ht : 0 ≤ tn ∧ tn ≤ 8) (h2 : tK f len q = 2) : aArg f f1 len q tn 6 nm w y1 y2 y3 y4 o mo got n := by
  have hb := H.1
  obtain ⟨rfl, rfl, rfl, hvl⟩ := P
  have E0 := tE_r (f := f) hq hl
  have S0 := (tS_r (f := f) hq hl).1
  have h22 := tK_2 hq hl h2
  have hq0 : 0 ≤ tE f len q := by omega
  have hl0 : tE f len q ≤ len := by omega
  obtain ⟨v0, v1, v2, v3, kn0, P0⟩ := m_next H hq0 hl0 (tS f len q) y3 (mk (tK f len q))
  rcases num H hq0 hl0 (k0 := tK f len q) (s0 := tS f len q) (o := o) (mo := mo) (got := got) (lo := 0) (hi := 39) (kk := 0) (n := n) P0 (by omega) (by omega) (by omega) with ⟨A, e00, e01, e02, e03, hv0, hk0, c0, m0, -, Q0⟩ | ⟨A, cc, got', hc, c0, m0, -⟩
  · have E1 := tE_r (f := f) hq0 hl0
    have S1 := (tS_r (f := f) hq0 hl0).1
    have hq1 : 0 ≤ tE f len (tE f len q) := by omega
    have hl1 : tE f len (tE f len q) ≤ len := by omega
    rcases num H hq1 hl1 (k0 := tK f len (tE f len q)) (s0 := tS f len (tE f len q)) (o := o) (mo := mo) (got := A) (lo := 1) (hi := 4) (kk := 1) (n := (jk_up n 0 A)) Q0 (by omega) (by omega) (by omega) with ⟨B, e10, e11, e12, e13, hv1, hk1, c1, m1, -, Q1⟩ | ⟨B, cc, got', hc, c1, m1, -⟩
    · have E2 := tE_r (f := f) hq1 hl1
      have S2 := (tS_r (f := f) hq1 hl1).1
      have hq2 : 0 ≤ tE f len (tE f len (tE f len q)) := by omega
      have hl2 : tE f len (tE f len (tE f len q)) ≤ len := by omega
      have u0 : (jk_up (jk_up n 0 A) 1 B) 0 = A := by rw [up_ne (by omega), up_eq rfl]
      have u1 : (jk_up (jk_up n 0 A) 1 B) 1 = B := by rw [up_eq rfl]
      refine Or.inl ⟨A, B, 0, tK f len (tE f len q), tS f len (tE f len q), tE f len (tE f len q), tK f len (tE f len (tE f len q)), tS f len (tE f len (tE f len q)), tE f len (tE f len (tE f len q)), tK f len (tE f len (tE f len q)), tS f len (tE f len (tE f len q)), tE f len (tE f len (tE f len q)), e10, e11, e12, e13, B, (jk_up (jk_up n 0 A) 1 B), ?_, ?_, ?_, ?_, Q1, ?_, by omega, by omega⟩
      · unfold fn_Script_readFirst
        (try simp (disch := omega) only [↓zk_lt, ↓zk_nl, ↓zk_eq, ↓zk_ne, ↓zk_ix, ↓zk_dv, ↓zk_bo, ↓zk_rg, ↓zk_get, ↓zk_set, Option.bind_some])
        rw [zk_bd c0]
      · unfold fn_Script_readSecond
        (try simp (disch := omega) only [↓zk_lt, ↓zk_nl, ↓zk_eq, ↓zk_ne, ↓zk_ix, ↓zk_dv, ↓zk_bo, ↓zk_rg, ↓zk_get, ↓zk_set, Option.bind_some])
        rw [zk_bd c1]
      · unfold fn_Script_readThird
        (try simp (disch := omega) only [↓zk_lt, ↓zk_nl, ↓zk_eq, ↓zk_ne, ↓zk_ix, ↓zk_dv, ↓zk_bo, ↓zk_rg, ↓zk_get, ↓zk_set, Option.bind_some])
      · unfold fn_Md_takesRest fn_Md_takesCluster fn_Md_takesCordNumber
        rw [zk_bd kn0]
        (try simp (disch := omega) only [↓zk_lt, ↓zk_nl, ↓zk_eq, ↓zk_ne, ↓zk_ix, ↓zk_dv, ↓zk_bo, ↓zk_rg, ↓zk_get, ↓zk_set, Option.bind_some])
        rw [zk_bd m0]
        (try simp (disch := omega) only [↓zk_lt, ↓zk_nl, ↓zk_eq, ↓zk_ne, ↓zk_ix, ↓zk_dv, ↓zk_bo, ↓zk_rg, ↓zk_get, ↓zk_set, Option.bind_some])
        rw [zk_bd m1]
        (try simp (disch := omega) only [↓zk_lt, ↓zk_nl, ↓zk_eq, ↓zk_ne, ↓zk_ix, ↓zk_dv, ↓zk_bo, ↓zk_rg, ↓zk_get, ↓zk_set, Option.bind_some])
      · refine Or.inr (Or.inr (Or.inr (Or.inr (Or.inr (Or.inr (Or.inl ?_))))))
        rw [u0, u1]
        omega
    · refine Or.inr ⟨A, B, 0, tK f len (tE f len q), tS f len (tE f len q), tE f len (tE f len q), 0, o, tK f len (tE f len (tE f len q)), tS f len (tE f len (tE f len q)), tE f len (tE f len (tE f len q)), cc, tS f len (tE f len (tE f len q)), tK f len (tE f len (tE f len q)), tS f len (tE f len (tE f len q)), tE f len (tE f len (tE f len q)), cc, tS f len (tE f len (tE f len q)), e00, e01, e02, e03, got', (jk_up n 0 A), hc, ?_, ?_, ?_, ?_⟩
      · unfold fn_Script_readFirst
        (try simp (disch := omega) only [↓zk_lt, ↓zk_nl, ↓zk_eq, ↓zk_ne, ↓zk_ix, ↓zk_dv, ↓zk_bo, ↓zk_rg, ↓zk_get, ↓zk_set, Option.bind_some])
        rw [zk_bd c0]
      · unfold fn_Script_readSecond
        (try simp (disch := omega) only [↓zk_lt, ↓zk_nl, ↓zk_eq, ↓zk_ne, ↓zk_ix, ↓zk_dv, ↓zk_bo, ↓zk_rg, ↓zk_get, ↓zk_set, Option.bind_some])
        rw [zk_bd c1]
      · unfold fn_Script_readThird
        (try simp (disch := omega) only [↓zk_lt, ↓zk_nl, ↓zk_eq, ↓zk_ne, ↓zk_ix, ↓zk_dv, ↓zk_bo, ↓zk_rg, ↓zk_get, ↓zk_set, Option.bind_some])
      · unfold fn_Md_takesRest fn_Md_takesCluster fn_Md_takesCordNumber
        rw [zk_bd kn0]
        (try simp (disch := omega) only [↓zk_lt, ↓zk_nl, ↓zk_eq, ↓zk_ne, ↓zk_ix, ↓zk_dv, ↓zk_bo, ↓zk_rg, ↓zk_get, ↓zk_set, Option.bind_some])
        rw [zk_bd m0]
        (try simp (disch := omega) only [↓zk_lt, ↓zk_nl, ↓zk_eq, ↓zk_ne, ↓zk_ix, ↓zk_dv, ↓zk_bo, ↓zk_rg, ↓zk_get, ↓zk_set, Option.bind_some])
        rw [zk_bd m1]
        (try simp (disch := omega) only [↓zk_lt, ↓zk_nl, ↓zk_eq, ↓zk_ne, ↓zk_ix, ↓zk_dv, ↓zk_bo, ↓zk_rg, ↓zk_get, ↓zk_set, Option.bind_some])
  · refine Or.inr ⟨A, 0, 0, tK f len (tE f len q), tS f len (tE f len q), tE f len (tE f len q), cc, tS f len (tE f len q), tK f len (tE f len q), tS f len (tE f len q), tE f len (tE f len q), cc, tS f len (tE f len q), tK f len (tE f len q), tS f len (tE f len q), tE f len (tE f len q), cc, tS f len (tE f len q), v0, v1, v2, v3, got', n, hc, ?_, ?_, ?_, ?_⟩
    · unfold fn_Script_readFirst
      (try simp (disch := omega) only [↓zk_lt, ↓zk_nl, ↓zk_eq, ↓zk_ne, ↓zk_ix, ↓zk_dv, ↓zk_bo, ↓zk_rg, ↓zk_get, ↓zk_set, Option.bind_some])
      rw [zk_bd c0]
    · unfold fn_Script_readSecond
      (try simp (disch := omega) only [↓zk_lt, ↓zk_nl, ↓zk_eq, ↓zk_ne, ↓zk_ix, ↓zk_dv, ↓zk_bo, ↓zk_rg, ↓zk_get, ↓zk_set, Option.bind_some])
      rw [zk_bd (x_num hc)]
    · unfold fn_Script_readThird
      (try simp (disch := omega) only [↓zk_lt, ↓zk_nl, ↓zk_eq, ↓zk_ne, ↓zk_ix, ↓zk_dv, ↓zk_bo, ↓zk_rg, ↓zk_get, ↓zk_set, Option.bind_some])
    · unfold fn_Md_takesRest fn_Md_takesCluster fn_Md_takesCordNumber
      rw [zk_bd kn0]
      (try simp (disch := omega) only [↓zk_lt, ↓zk_nl, ↓zk_eq, ↓zk_ne, ↓zk_ix, ↓zk_dv, ↓zk_bo, ↓zk_rg, ↓zk_get, ↓zk_set, Option.bind_some])
      rw [zk_bd m0]
      (try simp (disch := omega) only [↓zk_lt, ↓zk_nl, ↓zk_eq, ↓zk_ne, ↓zk_ix, ↓zk_dv, ↓zk_bo, ↓zk_rg, ↓zk_get, ↓zk_set, Option.bind_some])
theorem a_7 (H : pB len f1 f) (hq : 0 ≤ q) (hl : q ≤ len) (P : pTk f len q y1 y2 y3 y4) (N : pN tn nm w) (ht : 0 ≤ tn ∧ tn ≤ 8) (h2 : tK f len q = 2) : aArg f f1 len q tn 7 nm w y1 y2 y3 y4 o mo got n := by
  have hb := H.1
  obtain ⟨rfl, rfl, rfl, hvl⟩ := P
  have E0 := tE_r (f := f) hq hl
  have S0 := (tS_r (f := f) hq hl).1
  have h22 := tK_2 hq hl h2
  have hq0 : 0 ≤ tE f len q := by omega
  have hl0 : tE f len q ≤ len := by omega
  obtain ⟨v0, v1, v2, v3, kn0, P0⟩ := m_next H hq0 hl0 (tS f len q) y3 (mk (tK f len q))
  rcases num H hq0 hl0 (k0 := tK f len q) (s0 := tS f len q) (o := o) (mo := mo) (got := got) (lo := 0) (hi := 39) (kk := 0) (n := n) P0 (by omega) (by omega) (by omega) with ⟨A, e00, e01, e02, e03, hv0, hk0, c0, m0, -, Q0⟩ | ⟨A, cc, got', hc, c0, m0, -⟩
  · have E1 := tE_r (f := f) hq0 hl0
    have S1 := (tS_r (f := f) hq0 hl0).1
    have hq1 : 0 ≤ tE f len (tE f len q) := by omega
    have hl1 : tE f len (tE f len q) ≤ len := by omega
    rcases topic H hq1 hl1 (k0 := tK f len (tE f len q)) (s0 := tS f len (tE f len q)) (o := o) (mo := mo) (kk := 1) (n := (jk_up n 0 A)) Q0 N ht (by omega) with ⟨B, e10, e11, e12, e13, hv1, hk1, c1, m1, Q1⟩ | ⟨B, cc, n', hc, -, c1, m1⟩
    · have E2 := tE_r (f := f) hq1 hl1
      have S2 := (tS_r (f := f) hq1 hl1).1
      have hq2 : 0 ≤ tE f len (tE f len (tE f len q)) := by omega
      have hl2 : tE f len (tE f len (tE f len q)) ≤ len := by omega
      have u0 : (jk_up (jk_up n 0 A) 1 B) 0 = A := by rw [up_ne (by omega), up_eq rfl]
      have u1 : (jk_up (jk_up n 0 A) 1 B) 1 = B := by rw [up_eq rfl]
      refine Or.inl ⟨A, B, 0, tK f len (tE f len q), tS f len (tE f len q), tE f len (tE f len q), tK f len (tE f len (tE f len q)), tS f len (tE f len (tE f len q)), tE f len (tE f len (tE f len q)), tK f len (tE f len (tE f len q)), tS f len (tE f len (tE f len q)), tE f len (tE f len (tE f len q)), e10, e11, e12, e13, A, (jk_up (jk_up n 0 A) 1 B), ?_, ?_, ?_, ?_, Q1, ?_, by omega, by omega⟩
      · unfold fn_Script_readFirst
        (try simp (disch := omega) only [↓zk_lt, ↓zk_nl, ↓zk_eq, ↓zk_ne, ↓zk_ix, ↓zk_dv, ↓zk_bo, ↓zk_rg, ↓zk_get, ↓zk_set, Option.bind_some])
        rw [zk_bd c0]
      · unfold fn_Script_readSecond
        (try simp (disch := omega) only [↓zk_lt, ↓zk_nl, ↓zk_eq, ↓zk_ne, ↓zk_ix, ↓zk_dv, ↓zk_bo, ↓zk_rg, ↓zk_get, ↓zk_set, Option.bind_some])
        rw [zk_bd c1]
      · unfold fn_Script_readThird
        (try simp (disch := omega) only [↓zk_lt, ↓zk_nl, ↓zk_eq, ↓zk_ne, ↓zk_ix, ↓zk_dv, ↓zk_bo, ↓zk_rg, ↓zk_get, ↓zk_set, Option.bind_some])
      · unfold fn_Md_takesRest fn_Md_takesCluster fn_Md_takesCordNumber
        rw [zk_bd kn0]
        (try simp (disch := omega) only [↓zk_lt, ↓zk_nl, ↓zk_eq, ↓zk_ne, ↓zk_ix, ↓zk_dv, ↓zk_bo, ↓zk_rg, ↓zk_get, ↓zk_set, Option.bind_some])
        rw [zk_bd m0]
        (try simp (disch := omega) only [↓zk_lt, ↓zk_nl, ↓zk_eq, ↓zk_ne, ↓zk_ix, ↓zk_dv, ↓zk_bo, ↓zk_rg, ↓zk_get, ↓zk_set, Option.bind_some])
        rw [zk_bd m1]
        (try simp (disch := omega) only [↓zk_lt, ↓zk_nl, ↓zk_eq, ↓zk_ne, ↓zk_ix, ↓zk_dv, ↓zk_bo, ↓zk_rg, ↓zk_get, ↓zk_set, Option.bind_some])
      · refine Or.inr (Or.inr (Or.inr (Or.inr (Or.inr (Or.inr (Or.inr (Or.inl ?_)))))))
        rw [u0, u1]
        omega
    · refine Or.inr ⟨A, B, 0, tK f len (tE f len q), tS f len (tE f len q), tE f len (tE f len q), 0, o, tK f len (tE f len (tE f len q)), tS f len (tE f len (tE f len q)), tE f len (tE f len (tE f len q)), cc, tS f len (tE f len (tE f len q)), tK f len (tE f len (tE f len q)), tS f len (tE f len (tE f len q)), tE f len (tE f len (tE f len q)), cc, tS f len (tE f len (tE f len q)), e00, e01, e02, e03, A, n', hc, ?_, ?_, ?_, ?_⟩
      · unfold fn_Script_readFirst
        (try simp (disch := omega) only [↓zk_lt, ↓zk_nl, ↓zk_eq, ↓zk_ne, ↓zk_ix, ↓zk_dv, ↓zk_bo, ↓zk_rg, ↓zk_get, ↓zk_set, Option.bind_some])
        rw [zk_bd c0]
      · unfold fn_Script_readSecond
        (try simp (disch := omega) only [↓zk_lt, ↓zk_nl, ↓zk_eq, ↓zk_ne, ↓zk_ix, ↓zk_dv, ↓zk_bo, ↓zk_rg, ↓zk_get, ↓zk_set, Option.bind_some])
        rw [zk_bd c1]
      · unfold fn_Script_readThird
        (try simp (disch := omega) only [↓zk_lt, ↓zk_nl, ↓zk_eq, ↓zk_ne, ↓zk_ix, ↓zk_dv, ↓zk_bo, ↓zk_rg, ↓zk_get, ↓zk_set, Option.bind_some])
      · unfold fn_Md_takesRest fn_Md_takesCluster fn_Md_takesCordNumber
        rw [zk_bd kn0]
        (try simp (disch := omega) only [↓zk_lt, ↓zk_nl, ↓zk_eq, ↓zk_ne, ↓zk_ix, ↓zk_dv, ↓zk_bo, ↓zk_rg, ↓zk_get, ↓zk_set, Option.bind_some])
        rw [zk_bd m0]
        (try simp (disch := omega) only [↓zk_lt, ↓zk_nl, ↓zk_eq, ↓zk_ne, ↓zk_ix, ↓zk_dv, ↓zk_bo, ↓zk_rg, ↓zk_get, ↓zk_set, Option.bind_some])
        rw [zk_bd m1]
        (try simp (disch := omega) only [↓zk_lt, ↓zk_nl, ↓zk_eq, ↓zk_ne, ↓zk_ix, ↓zk_dv, ↓zk_bo, ↓zk_rg, ↓zk_get, ↓zk_set, Option.bind_some])
  · refine Or.inr ⟨A, 0, 0, tK f len (tE f len q), tS f len (tE f len q), tE f len (tE f len q), cc, tS f len (tE f len q), tK f len (tE f len q), tS f len (tE f len q), tE f len (tE f len q), cc, tS f len (tE f len q), tK f len (tE f len q), tS f len (tE f len q), tE f len (tE f len q), cc, tS f len (tE f len q), v0, v1, v2, v3, got', n, hc, ?_, ?_, ?_, ?_⟩
    · unfold fn_Script_readFirst
      (try simp (disch := omega) only [↓zk_lt, ↓zk_nl, ↓zk_eq, ↓zk_ne, ↓zk_ix, ↓zk_dv, ↓zk_bo, ↓zk_rg, ↓zk_get, ↓zk_set, Option.bind_some])
      rw [zk_bd c0]
    · unfold fn_Script_readSecond
      (try simp (disch := omega) only [↓zk_lt, ↓zk_nl, ↓zk_eq, ↓zk_ne, ↓zk_ix, ↓zk_dv, ↓zk_bo, ↓zk_rg, ↓zk_get, ↓zk_set, Option.bind_some])
      rw [zk_bd (x_top hc)]
    · unfold fn_Script_readThird
      (try simp (disch := omega) only [↓zk_lt, ↓zk_nl, ↓zk_eq, ↓zk_ne, ↓zk_ix, ↓zk_dv, ↓zk_bo, ↓zk_rg, ↓zk_get, ↓zk_set, Option.bind_some])
    · unfold fn_Md_takesRest fn_Md_takesCluster fn_Md_takesCordNumber
      rw [zk_bd kn0]
      (try simp (disch := omega) only [↓zk_lt, ↓zk_nl, ↓zk_eq, ↓zk_ne, ↓zk_ix, ↓zk_dv, ↓zk_bo, ↓zk_rg, ↓zk_get, ↓zk_set, Option.bind_some])
      rw [zk_bd m0]
      (try simp (disch := omega) only [↓zk_lt, ↓zk_nl, ↓zk_eq, ↓zk_ne, ↓zk_ix, ↓zk_dv, ↓zk_bo, ↓zk_rg, ↓zk_get, ↓zk_set, Option.bind_some])
theorem a_8 (H : pB len f1 f) (hq : 0 ≤ q) (hl : q ≤ len) (P : pTk f len q y1 y2 y3 y4) (N : pN tn nm w) (ht : 0 ≤ tn ∧ tn ≤ 8) (h2 : tK f len q = 2) : aArg f f1 len q tn 8 nm w y1 y2 y3 y4 o mo got n := by
  have hb := H.1
  obtain ⟨rfl, rfl, rfl, hvl⟩ := P
  have E0 := tE_r (f := f) hq hl
  have S0 := (tS_r (f := f) hq hl).1
  have h22 := tK_2 hq hl h2
  have hq0 : 0 ≤ tE f len q := by omega
  have hl0 : tE f len q ≤ len := by omega
  obtain ⟨v0, v1, v2, v3, kn0, P0⟩ := m_next H hq0 hl0 (tS f len q) y3 (mk (tK f len q))
  rcases num H hq0 hl0 (k0 := tK f len q) (s0 := tS f len q) (o := o) (mo := mo) (got := got) (lo := 0) (hi := 5) (kk := 0) (n := n) P0 (by omega) (by omega) (by omega) with ⟨A, e00, e01, e02, e03, hv0, hk0, c0, m0, -, Q0⟩ | ⟨A, cc, got', hc, c0, m0, -⟩
  · have E1 := tE_r (f := f) hq0 hl0
    have S1 := (tS_r (f := f) hq0 hl0).1
    have hq1 : 0 ≤ tE f len (tE f len q) := by omega
    have hl1 : tE f len (tE f len q) ≤ len := by omega
    have u0 : (jk_up n 0 A) 0 = A := by rw [up_eq rfl]
    refine Or.inl ⟨A, 0, 0, tK f len (tE f len q), tS f len (tE f len q), tE f len (tE f len q), tK f len (tE f len q), tS f len (tE f len q), tE f len (tE f len q), tK f len (tE f len q), tS f len (tE f len q), tE f len (tE f len q), e00, e01, e02, e03, A, (jk_up n 0 A), ?_, ?_, ?_, ?_, Q0, ?_, by omega, by omega⟩
    · unfold fn_Script_readFirst
      (try simp (disch := omega) only [↓zk_lt, ↓zk_nl, ↓zk_eq, ↓zk_ne, ↓zk_ix, ↓zk_dv, ↓zk_bo, ↓zk_rg, ↓zk_get, ↓zk_set, Option.bind_some])
      rw [zk_bd c0]
    · unfold fn_Script_readSecond
      (try simp (disch := omega) only [↓zk_lt, ↓zk_nl, ↓zk_eq, ↓zk_ne, ↓zk_ix, ↓zk_dv, ↓zk_bo, ↓zk_rg, ↓zk_get, ↓zk_set, Option.bind_some])
    · unfold fn_Script_readThird
      (try simp (disch := omega) only [↓zk_lt, ↓zk_nl, ↓zk_eq, ↓zk_ne, ↓zk_ix, ↓zk_dv, ↓zk_bo, ↓zk_rg, ↓zk_get, ↓zk_set, Option.bind_some])
    · unfold fn_Md_takesRest fn_Md_takesCluster fn_Md_takesCordNumber
      rw [zk_bd kn0]
      (try simp (disch := omega) only [↓zk_lt, ↓zk_nl, ↓zk_eq, ↓zk_ne, ↓zk_ix, ↓zk_dv, ↓zk_bo, ↓zk_rg, ↓zk_get, ↓zk_set, Option.bind_some])
      rw [zk_bd m0]
      (try simp (disch := omega) only [↓zk_lt, ↓zk_nl, ↓zk_eq, ↓zk_ne, ↓zk_ix, ↓zk_dv, ↓zk_bo, ↓zk_rg, ↓zk_get, ↓zk_set, Option.bind_some])
    · refine Or.inr (Or.inr (Or.inr (Or.inr (Or.inr (Or.inr (Or.inr (Or.inr (?_))))))))
      rw [u0]
      omega
  · refine Or.inr ⟨A, 0, 0, tK f len (tE f len q), tS f len (tE f len q), tE f len (tE f len q), cc, tS f len (tE f len q), tK f len (tE f len q), tS f len (tE f len q), tE f len (tE f len q), cc, tS f len (tE f len q), tK f len (tE f len q), tS f len (tE f len q), tE f len (tE f len q), cc, tS f len (tE f len q), v0, v1, v2, v3, got', n, hc, ?_, ?_, ?_, ?_⟩
    · unfold fn_Script_readFirst
      (try simp (disch := omega) only [↓zk_lt, ↓zk_nl, ↓zk_eq, ↓zk_ne, ↓zk_ix, ↓zk_dv, ↓zk_bo, ↓zk_rg, ↓zk_get, ↓zk_set, Option.bind_some])
      rw [zk_bd c0]
    · unfold fn_Script_readSecond
      (try simp (disch := omega) only [↓zk_lt, ↓zk_nl, ↓zk_eq, ↓zk_ne, ↓zk_ix, ↓zk_dv, ↓zk_bo, ↓zk_rg, ↓zk_get, ↓zk_set, Option.bind_some])
    · unfold fn_Script_readThird
      (try simp (disch := omega) only [↓zk_lt, ↓zk_nl, ↓zk_eq, ↓zk_ne, ↓zk_ix, ↓zk_dv, ↓zk_bo, ↓zk_rg, ↓zk_get, ↓zk_set, Option.bind_some])
    · unfold fn_Md_takesRest fn_Md_takesCluster fn_Md_takesCordNumber
      rw [zk_bd kn0]
      (try simp (disch := omega) only [↓zk_lt, ↓zk_nl, ↓zk_eq, ↓zk_ne, ↓zk_ix, ↓zk_dv, ↓zk_bo, ↓zk_rg, ↓zk_get, ↓zk_set, Option.bind_some])
      rw [zk_bd m0]
      (try simp (disch := omega) only [↓zk_lt, ↓zk_nl, ↓zk_eq, ↓zk_ne, ↓zk_ix, ↓zk_dv, ↓zk_bo, ↓zk_rg, ↓zk_get, ↓zk_set, Option.bind_some])
end PU1
