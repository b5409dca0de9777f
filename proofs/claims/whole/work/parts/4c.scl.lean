/-! script statements read, one after another -/
section PU2
variable {len q tn : Int} {f f1 nm w : Int → Int}
theorem a_all {K : Int} (hK : 0 ≤ K ∧ K ≤ 8) (H : pB len f1 f) (hq : 0 ≤ q) (hl : q ≤ len) {y1 y2 y3 y4 o mo got : Int} {n : Int → Int} (P : pTk f len q y1 y2 y3 y4) (N : pN tn nm w) (ht : 0 ≤ tn ∧ tn ≤ 8) (h2 : tK f len q = 2) : aArg f f1 len q tn K nm w y1 y2 y3 y4 o mo got n := by
  have : K = 0 ∨ K = 1 ∨ K = 2 ∨ K = 3 ∨ K = 4 ∨ K = 5 ∨ K = 6 ∨ K = 7 ∨ K = 8 := by omega
  rcases this with rfl | rfl | rfl | rfl | rfl | rfl | rfl | rfl | rfl
  · exact a_0 H hq hl P N ht h2
  · exact a_1 H hq hl P N ht h2
  · exact a_2 H hq hl P N ht h2
  · exact a_3 H hq hl P N ht h2
  · exact a_4 H hq hl P N ht h2
  · exact a_5 H hq hl P N ht h2
  · exact a_6 H hq hl P N ht h2
  · exact a_7 H hq hl P N ht h2
  · exact a_8 H hq hl P N ht h2
theorem x_fst {c o k s e K : Int} (h : 1 ≤ c ∧ c ≤ 7) (hK : -1 ≤ K ∧ K ≤ 8) : fn_Script_readFirst f1 len k s e c o K = some (0, k, s, e, c, o) := by
  unfold fn_Script_readFirst
  by_cases a : K = 0
  · (try simp (disch := omega) only [↓zk_lt, ↓zk_nl, ↓zk_eq, ↓zk_ne, ↓zk_ix, ↓zk_dv, ↓zk_bo, ↓zk_rg, ↓zk_get, ↓zk_set, Option.bind_some])
  · by_cases b : K = 1
    · (try simp (disch := omega) only [↓zk_lt, ↓zk_nl, ↓zk_eq, ↓zk_ne, ↓zk_ix, ↓zk_dv, ↓zk_bo, ↓zk_rg, ↓zk_get, ↓zk_set, Option.bind_some])
      rw [zk_bd (x_num h)]
    · by_cases d : K = 4
      · (try simp (disch := omega) only [↓zk_lt, ↓zk_nl, ↓zk_eq, ↓zk_ne, ↓zk_ix, ↓zk_dv, ↓zk_bo, ↓zk_rg, ↓zk_get, ↓zk_set, Option.bind_some])
        rw [zk_bd (x_num h)]
      · by_cases g : K = 8
        · (try simp (disch := omega) only [↓zk_lt, ↓zk_nl, ↓zk_eq, ↓zk_ne, ↓zk_ix, ↓zk_dv, ↓zk_bo, ↓zk_rg, ↓zk_get, ↓zk_set, Option.bind_some])
          rw [zk_bd (x_num h)]
        · (try simp (disch := omega) only [↓zk_lt, ↓zk_nl, ↓zk_eq, ↓zk_ne, ↓zk_ix, ↓zk_dv, ↓zk_bo, ↓zk_rg, ↓zk_get, ↓zk_set, Option.bind_some])
          rw [zk_bd (x_num h)]
theorem x_snd {c o k s e K : Int} (h : 1 ≤ c ∧ c ≤ 7) (hK : -1 ≤ K ∧ K ≤ 8) : fn_Script_readSecond f1 len k s e c o tn nm K = some (0, k, s, e, c, o) := by
  unfold fn_Script_readSecond
  have : K = -1 ∨ K = 0 ∨ K = 1 ∨ K = 2 ∨ K = 3 ∨ K = 4 ∨ K = 5 ∨ K = 6 ∨ K = 7 ∨ K = 8 := by omega
  rcases this with rfl | rfl | rfl | rfl | rfl | rfl | rfl | rfl | rfl | rfl
  · (try simp (disch := omega) only [↓zk_lt, ↓zk_nl, ↓zk_eq, ↓zk_ne, ↓zk_ix, ↓zk_dv, ↓zk_bo, ↓zk_rg, ↓zk_get, ↓zk_set, Option.bind_some])
  · (try simp (disch := omega) only [↓zk_lt, ↓zk_nl, ↓zk_eq, ↓zk_ne, ↓zk_ix, ↓zk_dv, ↓zk_bo, ↓zk_rg, ↓zk_get, ↓zk_set, Option.bind_some])
  · (try simp (disch := omega) only [↓zk_lt, ↓zk_nl, ↓zk_eq, ↓zk_ne, ↓zk_ix, ↓zk_dv, ↓zk_bo, ↓zk_rg, ↓zk_get, ↓zk_set, Option.bind_some])
    rw [zk_bd (x_top h)]
  · (try simp (disch := omega) only [↓zk_lt, ↓zk_nl, ↓zk_eq, ↓zk_ne, ↓zk_ix, ↓zk_dv, ↓zk_bo, ↓zk_rg, ↓zk_get, ↓zk_set, Option.bind_some])
    rw [zk_bd (x_top h)]
  · (try simp (disch := omega) only [↓zk_lt, ↓zk_nl, ↓zk_eq, ↓zk_ne, ↓zk_ix, ↓zk_dv, ↓zk_bo, ↓zk_rg, ↓zk_get, ↓zk_set, Option.bind_some])
  · (try simp (disch := omega) only [↓zk_lt, ↓zk_nl, ↓zk_eq, ↓zk_ne, ↓zk_ix, ↓zk_dv, ↓zk_bo, ↓zk_rg, ↓zk_get, ↓zk_set, Option.bind_some])
    rw [zk_bd (x_top h)]
  · (try simp (disch := omega) only [↓zk_lt, ↓zk_nl, ↓zk_eq, ↓zk_ne, ↓zk_ix, ↓zk_dv, ↓zk_bo, ↓zk_rg, ↓zk_get, ↓zk_set, Option.bind_some])
    rw [zk_bd (x_num h)]
  · (try simp (disch := omega) only [↓zk_lt, ↓zk_nl, ↓zk_eq, ↓zk_ne, ↓zk_ix, ↓zk_dv, ↓zk_bo, ↓zk_rg, ↓zk_get, ↓zk_set, Option.bind_some])
    rw [zk_bd (x_num h)]
  · (try simp (disch := omega) only [↓zk_lt, ↓zk_nl, ↓zk_eq, ↓zk_ne, ↓zk_ix, ↓zk_dv, ↓zk_bo, ↓zk_rg, ↓zk_get, ↓zk_set, Option.bind_some])
    rw [zk_bd (x_top h)]
  · (try simp (disch := omega) only [↓zk_lt, ↓zk_nl, ↓zk_eq, ↓zk_ne, ↓zk_ix, ↓zk_dv, ↓zk_bo, ↓zk_rg, ↓zk_get, ↓zk_set, Option.bind_some])
theorem x_thd {c o k s e K : Int} (h : 1 ≤ c ∧ c ≤ 7) (hK : -1 ≤ K ∧ K ≤ 8) : fn_Script_readThird f1 len k s e c o K = some (0, k, s, e, c, o) := by
  unfold fn_Script_readThird
  by_cases a : K = 1
  · (try simp (disch := omega) only [↓zk_lt, ↓zk_nl, ↓zk_eq, ↓zk_ne, ↓zk_ix, ↓zk_dv, ↓zk_bo, ↓zk_rg, ↓zk_get, ↓zk_set, Option.bind_some])
    rw [zk_bd (x_num h)]
  · by_cases b : K = 2
    · (try simp (disch := omega) only [↓zk_lt, ↓zk_nl, ↓zk_eq, ↓zk_ne, ↓zk_ix, ↓zk_dv, ↓zk_bo, ↓zk_rg, ↓zk_get, ↓zk_set, Option.bind_some])
      rw [zk_bd (x_num h)]
    · by_cases d : K = 5
      · (try simp (disch := omega) only [↓zk_lt, ↓zk_nl, ↓zk_eq, ↓zk_ne, ↓zk_ix, ↓zk_dv, ↓zk_bo, ↓zk_rg, ↓zk_get, ↓zk_set, Option.bind_some])
        rw [zk_bd (x_num h)]
      · (try simp (disch := omega) only [↓zk_lt, ↓zk_nl, ↓zk_eq, ↓zk_ne, ↓zk_ix, ↓zk_dv, ↓zk_bo, ↓zk_rg, ↓zk_get, ↓zk_set, Option.bind_some])
theorem set_any (u : Int → Int) (i v : Int) (hi : 0 ≤ i ∧ i ≤ 30) : ∃ u', fn_Row_set 30 u i v = some u' := by
  unfold fn_Row_set
  by_cases a : i < 30
  · refine ⟨jk_up u i v, ?_⟩
    (try simp (disch := omega) only [↓zk_lt, ↓zk_nl, ↓zk_eq, ↓zk_ne, ↓zk_ix, ↓zk_dv, ↓zk_bo, ↓zk_rg, ↓zk_get, ↓zk_set, Option.bind_some])
  · refine ⟨u, ?_⟩
    (try simp (disch := omega) only [↓zk_lt, ↓zk_nl, ↓zk_eq, ↓zk_ne, ↓zk_ix, ↓zk_dv, ↓zk_bo, ↓zk_rg, ↓zk_get, ↓zk_set, Option.bind_some])
theorem set_in {u : Int → Int} {i v : Int} (hi : 0 ≤ i ∧ i < 30) : fn_Row_set 30 u i v = some (jk_up u i v) := by
  unfold fn_Row_set
  (try simp (disch := omega) only [↓zk_lt, ↓zk_nl, ↓zk_eq, ↓zk_ne, ↓zk_ix, ↓zk_dv, ↓zk_bo, ↓zk_rg, ↓zk_get, ↓zk_set, Option.bind_some])
/-! the reference keeps three numbers -/
theorem b53 {i e o x1 x2 x3 x4 got y e' o' z1 z2 z3 z4 : Int} {nn od nu : Int → Int} (hi : 0 ≤ i ∧ i ≤ 29) (hsem : fn_Md_takesSemicolon f len e o x1 x2 x3 x4 = some (y, e', o', z1, z2, z3, z4)) (hy : 0 ≤ y ∧ y ≤ 1) : ∃ nu' : Int → Int, (∀ j, nu' j = if 3 * i ≤ j ∧ j < 3 * i + 3 then nn (j - 3 * i) else nu j) ∧ fn_Md_readScriptStatement_b53 jk_F f len e o x1 x2 x3 x4 got nn od nu i 0 = some (y, e', o', z1, z2, z3, z4, got, nn, od, nu', i + 1) := by
  have hF := jk_F_big
  have ee : ∀ (n k : Nat) (u : Int → Int) (v : Int), v + k = 3 → 0 ≤ v → (∀ j, u j = if 3 * i ≤ j ∧ j < 3 * i + v then nn (j - 3 * i) else nu j) → k < n → ∃ nu' : Int → Int, (∀ j, nu' j = if 3 * i ≤ j ∧ j < 3 * i + 3 then nn (j - 3 * i) else nu j) ∧ fn_Md_readScriptStatement_b53 n f len e o x1 x2 x3 x4 got nn od u i v = some (y, e', o', z1, z2, z3, z4, got, nn, od, nu', i + 1) := by
    intro n
    induction n with
    | zero => intro k u v _ _ _ h; omega
    | succ n ih =>
      intro k u v hv h0 hu hk
      rw [fn_Md_readScriptStatement_b53]
      cases k with
      | zero =>
        have ev : v = 3 := by omega
        subst ev
        refine ⟨u, hu, ?_⟩
        (try simp (disch := omega) only [↓zk_lt, ↓zk_nl, ↓zk_eq, ↓zk_ne, ↓zk_ix, ↓zk_dv, ↓zk_bo, ↓zk_rg, ↓zk_get, ↓zk_set, Option.bind_some])
        rw [zk_bd hsem]
        (try simp (disch := omega) only [↓zk_lt, ↓zk_nl, ↓zk_eq, ↓zk_ne, ↓zk_ix, ↓zk_dv, ↓zk_bo, ↓zk_rg, ↓zk_get, ↓zk_set, Option.bind_some])
      | succ k =>
        obtain ⟨U, k1, k2⟩ := ih k (jk_up u (3 * i + v) (nn v)) (v + 1) (by omega) (by omega) (fun j => by
          by_cases z : j = 3 * i + v
          · rw [up_eq z, if_pos (by omega), show j - 3 * i = v by omega]
          · rw [up_ne z, hu j]
            by_cases z2 : 3 * i ≤ j ∧ j < 3 * i + v
            · rw [if_pos z2, if_pos (by omega)]
            · rw [if_neg z2, if_neg (by omega)]) (by omega)
        refine ⟨U, k1, ?_⟩
        (try simp (disch := omega) only [↓zk_lt, ↓zk_nl, ↓zk_eq, ↓zk_ne, ↓zk_ix, ↓zk_dv, ↓zk_bo, ↓zk_rg, ↓zk_get, ↓zk_set, Option.bind_some])
        exact k2
  exact ee jk_F 3 nu 0 (by omega) (by omega) (fun j => by rw [if_neg (by omega)]) (by omega)
def pRl (tn i : Int) (kk k1 k2 k3 od nu : Int → Int) : Prop := ∀ j, 0 ≤ j → j < i → pSt tn (kk j) (k1 j) (k2 j) (k3 j) (od j) (nu (3 * j)) (nu (3 * j + 1)) (nu (3 * j + 2))
theorem pRl_s {i K A B C : Int} {kk k1 k2 k3 od nu nu' nn : Int → Int} (R : pRl tn i kk k1 k2 k3 od nu) (h : pSt tn K A B C (K + 1) (nn 0) (nn 1) (nn 2)) (hnu : ∀ j, nu' j = if 3 * i ≤ j ∧ j < 3 * i + 3 then nn (j - 3 * i) else nu j) : pRl tn (i + 1) (jk_up kk i K) (jk_up k1 i A) (jk_up k2 i B) (jk_up k3 i C) (jk_up od i (K + 1)) nu' := by
  intro j h0 h1
  by_cases x : j = i
  · rw [up_eq x, up_eq x, up_eq x, up_eq x, up_eq x, hnu, hnu, hnu, if_pos (by omega), if_pos (by omega), if_pos (by omega), show 3 * j - 3 * i = 0 by omega, show 3 * j + 1 - 3 * i = 1 by omega, show 3 * j + 2 - 3 * i = 2 by omega]
    exact h
  · rw [up_ne x, up_ne x, up_ne x, up_ne x, up_ne x, hnu, hnu, hnu, if_neg (by omega), if_neg (by omega), if_neg (by omega)]
    exact R j h0 (by omega)
theorem p_step (H : pB len f1 f) (hq : 0 ≤ q) (hl : q ≤ len) (h0 : ¬ tK f len q = 0) {i k0 s0 o K A B C c0 o0 ka sa ea ca oa kb sb eb cb ob kc sc ec cc oc kd sd ed cd od : Int} {kk k1 k2 k3 kk' k1' k2' k3' : Int → Int} (hi : 0 ≤ i ∧ i ≤ 30) {n : Nat}
    (hk : fn_Script_readKind i f1 (tK f len q) (tS f len q) (tE f len q) 0 o = some (K, c0, o0)) (h1 : fn_Script_readFirst f1 len (tK f len q) (tS f len q) (tE f len q) c0 o0 K = some (A, ka, sa, ea, ca, oa)) (h2 : fn_Script_readSecond f1 len ka sa ea ca oa tn nm K = some (B, kb, sb, eb, cb, ob)) (h3 : fn_Script_readThird f1 len kb sb eb cb ob K = some (C, kc, sc, ec, cc, oc)) (h4 : fn_Text_readSemicolon f1 len kc sc ec cc oc = some (kd, sd, ed, cd, od))
    (S1 : fn_Row_set 30 kk i K = some kk') (S2 : fn_Row_set 30 k1 i A = some k1') (S3 : fn_Row_set 30 k2 i B = some k2') (S4 : fn_Row_set 30 k3 i C = some k3') :
    fn_Script_parse_b11 (n + 1) i kk k1 k2 k3 f1 len k0 s0 q 0 o tn nm i = fn_Script_parse_b11 n (i + 1) kk' k1' k2' k3' f1 len kd sd ed cd od tn nm (i + 1) := by
  have hns := c_ns H hq hl (k0 := k0) (s0 := s0)
  rw [if_neg h0] at hns
  rw [fn_Script_parse_b11, zk_nl (by omega) (by omega) (by omega) (by omega) (by omega), zk_bd hns, zk_ne (by omega) (by omega) (by omega) (by omega) (by omega), zk_bd hk, zk_bd S1, zk_bd h1, zk_bd S2, zk_bd h2, zk_bd S3, zk_bd h3, zk_bd S4, zk_bd h4]
theorem x_sloop {c o k s e i z : Int} {kk k1 k2 k3 : Int → Int} (h : 1 ≤ c ∧ c ≤ 7) (hi : 0 ≤ i ∧ i ≤ 31) {n : Nat} (hn : 1 ≤ n) : fn_Script_parse_b11 n z kk k1 k2 k3 f1 len k s e c o tn nm i = some (z, kk, k1, k2, k3, k, s, e, c, o) := by
  obtain ⟨m, rfl⟩ : ∃ m, n = m + 1 := ⟨n - 1, by omega⟩
  rw [fn_Script_parse_b11]
  by_cases a : 30 < i
  · (try simp (disch := omega) only [↓zk_lt, ↓zk_nl, ↓zk_eq, ↓zk_ne, ↓zk_ix, ↓zk_dv, ↓zk_bo, ↓zk_rg, ↓zk_get, ↓zk_set, Option.bind_some])
  · (try simp (disch := omega) only [↓zk_lt, ↓zk_nl, ↓zk_eq, ↓zk_ne, ↓zk_ix, ↓zk_dv, ↓zk_bo, ↓zk_rg, ↓zk_get, ↓zk_set, Option.bind_some])
    rw [zk_bd (x_ns h)]
    (try simp (disch := omega) only [↓zk_lt, ↓zk_nl, ↓zk_eq, ↓zk_ne, ↓zk_ix, ↓zk_dv, ↓zk_bo, ↓zk_rg, ↓zk_get, ↓zk_set, Option.bind_some])
/-- one statement of a script, on both sides -/
def sStep (f f1 : Int → Int) (len q k0 s0 o tn i : Int) (kk k1 k2 k3 nm w : Int → Int) (y1 y2 y3 y4 got : Int) (nn od nu : Int → Int) (n : Nat) : Prop :=
  (∃ k' s' q' kk' k1' k2' k3' x1 x2 x3 x4 got' nn' od' nu', fn_Script_parse_b11 (n + 1) i kk k1 k2 k3 f1 len k0 s0 q 0 o tn nm i = fn_Script_parse_b11 n (i + 1) kk' k1' k2' k3' f1 len k' s' q' 0 o tn nm (i + 1) ∧ fn_Md_readScriptStatement w f len 0 o y1 y2 y3 y4 got nn od nu i = some (1, 0, o, x1, x2, x3, x4, got', nn', od', nu', i + 1) ∧ pTk f len q' x1 x2 x3 x4 ∧ pRl tn (i + 1) kk' k1' k2' k3' od' nu' ∧ i < 30 ∧ (q < q' ∧ q' ≤ len)) ∨
  (∃ k' s' e' c off kk' k1' k2' k3' x1 x2 x3 x4 got' nn' od' nu' i', (1 ≤ c ∧ c ≤ 7) ∧ fn_Script_parse_b11 (n + 1) i kk k1 k2 k3 f1 len k0 s0 q 0 o tn nm i = fn_Script_parse_b11 n (i + 1) kk' k1' k2' k3' f1 len k' s' e' c off tn nm (i + 1) ∧ fn_Md_readScriptStatement w f len 0 o y1 y2 y3 y4 got nn od nu i = some (0, c, off, x1, x2, x3, x4, got', nn', od', nu', i'))
theorem s_step (H : pB len f1 f) (hq : 0 ≤ q) (hl : q ≤ len) {i k0 s0 o y1 y2 y3 y4 got : Int} {kk k1 k2 k3 nn od nu : Int → Int} {n : Nat} (hi : 0 ≤ i ∧ i ≤ 30) (P : pTk f len q y1 y2 y3 y4) (N : pN tn nm w) (ht : 0 ≤ tn ∧ tn ≤ 8) (h0 : ¬ tK f len q = 0) (R : pRl tn i kk k1 k2 k3 od nu) : sStep f f1 len q k0 s0 o tn i kk k1 k2 k3 nm w y1 y2 y3 y4 got nn od nu n := by
  have hb := H.1
  obtain ⟨K, hK, e1, e2, e3⟩ := kind_both H hq hl P
  have E0 := tE_r (f := f) hq hl
  have S0 := (tS_r (f := f) hq hl).1
  have bad : ∀ c, 1 ≤ c ∧ c ≤ 7 → fn_Script_readKind i f1 (tK f len q) (tS f len q) (tE f len q) 0 o = some (K, c, tS f len q) → ∃ kk' k1' k2' k3', fn_Script_parse_b11 (n + 1) i kk k1 k2 k3 f1 len k0 s0 q 0 o tn nm i = fn_Script_parse_b11 n (i + 1) kk' k1' k2' k3' f1 len (tK f len q) (tS f len q) (tE f len q) c (tS f len q) tn nm (i + 1) := fun c hc h => by
    obtain ⟨u1, s1⟩ := set_any kk i K hi
    obtain ⟨u2, s2⟩ := set_any k1 i 0 hi
    obtain ⟨u3, s3⟩ := set_any k2 i 0 hi
    obtain ⟨u4, s4⟩ := set_any k3 i 0 hi
    exact ⟨u1, u2, u3, u4, p_step H hq hl h0 hi h (x_fst hc hK) (x_snd hc hK) (x_thd hc hK) (x_semi hc) s1 s2 s3 s4⟩
  by_cases a : K = -1
  · right
    subst a
    have hk : fn_Script_readKind i f1 (tK f len q) (tS f len q) (tE f len q) 0 o = some (-1, 1, tS f len q) := by
      unfold fn_Script_readKind fn_Script_readKind_b15
      rw [zk_bd e1]
      (try simp (disch := omega) only [↓zk_lt, ↓zk_nl, ↓zk_eq, ↓zk_ne, ↓zk_ix, ↓zk_dv, ↓zk_bo, ↓zk_rg, ↓zk_get, ↓zk_set, Option.bind_some])
      rw [zk_bd c_fail0]
      by_cases b : i < 30
      · (try simp (disch := omega) only [↓zk_lt, ↓zk_nl, ↓zk_eq, ↓zk_ne, ↓zk_ix, ↓zk_dv, ↓zk_bo, ↓zk_rg, ↓zk_get, ↓zk_set, Option.bind_some])
      · (try simp (disch := omega) only [↓zk_lt, ↓zk_nl, ↓zk_eq, ↓zk_ne, ↓zk_ix, ↓zk_dv, ↓zk_bo, ↓zk_rg, ↓zk_get, ↓zk_set, Option.bind_some])
        rw [zk_bd (c_fail (by omega))]
    obtain ⟨u1, u2, u3, u4, h⟩ := bad 1 (by omega) hk
    refine ⟨tK f len q, tS f len q, tE f len q, 1, tS f len q, u1, u2, u3, u4, y1, y2, y3, y4, got, nn, od, nu, i, by omega, h, ?_⟩
    unfold fn_Md_readScriptStatement
    rw [zk_bd e2]
    (try simp (disch := omega) only [↓zk_lt, ↓zk_nl, ↓zk_eq, ↓zk_ne, ↓zk_ix, ↓zk_dv, ↓zk_bo, ↓zk_rg, ↓zk_get, ↓zk_set, Option.bind_some])
    rw [zk_bd m_fail0, P.2.1]
    (try simp (disch := omega) only [↓zk_lt, ↓zk_nl, ↓zk_eq, ↓zk_ne, ↓zk_ix, ↓zk_dv, ↓zk_bo, ↓zk_rg, ↓zk_get, ↓zk_set, Option.bind_some])
  · by_cases b : i = 30
    · right
      have hk : fn_Script_readKind i f1 (tK f len q) (tS f len q) (tE f len q) 0 o = some (K, 6, tS f len q) := by
        unfold fn_Script_readKind fn_Script_readKind_b15
        rw [zk_bd e1]
        (try simp (disch := omega) only [↓zk_lt, ↓zk_nl, ↓zk_eq, ↓zk_ne, ↓zk_ix, ↓zk_dv, ↓zk_bo, ↓zk_rg, ↓zk_get, ↓zk_set, Option.bind_some])
        rw [zk_bd c_fail0]
      obtain ⟨u1, u2, u3, u4, h⟩ := bad 6 (by omega) hk
      refine ⟨tK f len q, tS f len q, tE f len q, 6, tS f len q, u1, u2, u3, u4, y1, y2, y3, y4, got, nn, od, nu, i, by omega, h, ?_⟩
      unfold fn_Md_readScriptStatement
      rw [zk_bd e2]
      (try simp (disch := omega) only [↓zk_lt, ↓zk_nl, ↓zk_eq, ↓zk_ne, ↓zk_ix, ↓zk_dv, ↓zk_bo, ↓zk_rg, ↓zk_get, ↓zk_set, Option.bind_some])
      rw [zk_bd m_fail0, P.2.1]
      (try simp (disch := omega) only [↓zk_lt, ↓zk_nl, ↓zk_eq, ↓zk_ne, ↓zk_ix, ↓zk_dv, ↓zk_bo, ↓zk_rg, ↓zk_get, ↓zk_set, Option.bind_some])
    · have hk : fn_Script_readKind i f1 (tK f len q) (tS f len q) (tE f len q) 0 o = some (K, 0, o) := by
        unfold fn_Script_readKind fn_Script_readKind_b15
        rw [zk_bd e1]
        (try simp (disch := omega) only [↓zk_lt, ↓zk_nl, ↓zk_eq, ↓zk_ne, ↓zk_ix, ↓zk_dv, ↓zk_bo, ↓zk_rg, ↓zk_get, ↓zk_set, Option.bind_some])
      have mod : fn_Md_readScriptStatement w f len 0 o y1 y2 y3 y4 got nn od nu i = (fn_Md_takesRest w f len 0 o y1 y2 y3 y4 got nn (K + 1)).bind fun q33 => jk_eqs q33.1 0 (some (0, q33.2.1, q33.2.2.1, q33.2.2.2.1, q33.2.2.2.2.1, q33.2.2.2.2.2.1, q33.2.2.2.2.2.2.1, q33.2.2.2.2.2.2.2.1, q33.2.2.2.2.2.2.2.2, od, nu, i)) (fn_Md_readScriptStatement_b53 jk_F f len q33.2.1 q33.2.2.1 q33.2.2.2.1 q33.2.2.2.2.1 q33.2.2.2.2.2.1 q33.2.2.2.2.2.2.1 q33.2.2.2.2.2.2.2.1 q33.2.2.2.2.2.2.2.2 (jk_up od i (K + 1)) nu i 0) := by
        unfold fn_Md_readScriptStatement
        rw [zk_bd e2]
        (try simp (disch := omega) only [↓zk_lt, ↓zk_nl, ↓zk_eq, ↓zk_ne, ↓zk_ix, ↓zk_dv, ↓zk_bo, ↓zk_rg, ↓zk_get, ↓zk_set, Option.bind_some])
      rcases a_all (o := o) (mo := o) (got := got) (n := nn) ⟨by omega, hK.2⟩ H hq hl P N ht (e3 (by omega)) with ⟨A, B, C, ka, sa, ea, kb, sb, eb, kc, sc, q', x1, x2, x3, x4, got', n', g1, g2, g3, g4, g5, g6, g7⟩ | ⟨A, B, C, ka, sa, ea, ca, oa, kb, sb, eb, cb, ob, kc, sc, ec, c, off, x1, x2, x3, x4, got', n', hc, g1, g2, g3, g4⟩
      · have hq' : 0 ≤ q' := by omega
        have E1 := tE_r (f := f) hq' g7.2
        have S1 := (tS_r (f := f) hq' g7.2).1
        rcases semi H hq' g7.2 (k0 := kc) (s0 := sc) (o := o) (mo := o) g5 with ⟨z1, z2, z3, z4, t1, t2, t3, t4⟩ | ⟨t2, t3⟩
        · left
          obtain ⟨nu', v1, v2⟩ := b53 (i := i) (got := got') (nn := n') (od := jk_up od i (K + 1)) (nu := nu) (by omega) t3 (by omega)
          refine ⟨tK f len q', tS f len q', tE f len q', jk_up kk i K, jk_up k1 i A, jk_up k2 i B, jk_up k3 i C, z1, z2, z3, z4, got', n', jk_up od i (K + 1), nu', p_step H hq hl h0 hi hk g1 g2 g3 t2 (set_in (by omega)) (set_in (by omega)) (set_in (by omega)) (set_in (by omega)), ?_, t4, pRl_s R g6 v1, by omega, by omega, by omega⟩
          rw [mod, zk_bd g4, zk_ne (by omega) (by omega) (by omega) (by omega) (by omega)]
          exact v2
        · right
          obtain ⟨nu', v1, v2⟩ := b53 (i := i) (got := got') (nn := n') (od := jk_up od i (K + 1)) (nu := nu) (by omega) t3 (by omega)
          refine ⟨tK f len q', tS f len q', tE f len q', 1, tS f len q', jk_up kk i K, jk_up k1 i A, jk_up k2 i B, jk_up k3 i C, x1, x2, x3, x4, got', n', jk_up od i (K + 1), nu', i + 1, by omega, p_step H hq hl h0 hi hk g1 g2 g3 t2 (set_in (by omega)) (set_in (by omega)) (set_in (by omega)) (set_in (by omega)), ?_⟩
          rw [mod, zk_bd g4, zk_ne (by omega) (by omega) (by omega) (by omega) (by omega)]
          exact v2
      · right
        refine ⟨kc, sc, ec, c, off, jk_up kk i K, jk_up k1 i A, jk_up k2 i B, jk_up k3 i C, x1, x2, x3, x4, got', n', od, nu, i, hc, p_step H hq hl h0 hi hk g1 g2 g3 (x_semi hc) (set_in (by omega)) (set_in (by omega)) (set_in (by omega)) (set_in (by omega)), ?_⟩
        rw [mod, zk_bd g4]
        (try simp (disch := omega) only [↓zk_lt, ↓zk_nl, ↓zk_eq, ↓zk_ne, ↓zk_ix, ↓zk_dv, ↓zk_bo, ↓zk_rg, ↓zk_get, ↓zk_set, Option.bind_some])
end PU2
