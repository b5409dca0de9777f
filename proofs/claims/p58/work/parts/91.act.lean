/-! a change as a call; changes of one cord's cells -/
section AC
variable {cl sz tn : Int} {st dp tp va nb g : Int → Int}
theorem push_y {l n c2 z2 : Int} {e1 e2 e3 e4 e5 : Int → Int} (hl : 0 ≤ l ∧ l < 8) (hn : 0 ≤ n ∧ n ≤ 8) : ∃ (n' : Int) (d1 d2 d3 d4 d5 : Int → Int), fn_History_push l n c2 z2 e1 e2 e3 e4 e5 cl sz st dp tp va nb = some ((l + 1) % 8, n', cl, sz, d1, d2, d3, d4, d5) ∧ 0 ≤ n' ∧ n' ≤ 8 := by
  by_cases e : n = 8
  · refine ⟨8, cpy 7 e1 st, cpy 40 e2 dp, cpy 40 e3 tp, cpy 40 e4 va, cpy 40 e5 nb, ?_, by omega, by omega⟩
    unfold fn_History_push
    (try simp (disch := omega) only [↓zk_lt, ↓zk_nl, ↓zk_eq, ↓zk_ne, ↓zk_ix, ↓zk_dv, ↓zk_bo, ↓zk_rg, ↓zk_get, ↓zk_set, Option.bind_some])
    rw [zk_bd sp_ccpy]
  · refine ⟨n + 1, cpy 7 e1 st, cpy 40 e2 dp, cpy 40 e3 tp, cpy 40 e4 va, cpy 40 e5 nb, ?_, by omega, by omega⟩
    unfold fn_History_push
    (try simp (disch := omega) only [↓zk_lt, ↓zk_nl, ↓zk_eq, ↓zk_ne, ↓zk_ix, ↓zk_dv, ↓zk_bo, ↓zk_rg, ↓zk_get, ↓zk_set, Option.bind_some])
    rw [zk_bd sp_ccpy]
theorem act_of {σ : jk_LS} {k A B C r c1 z1 : Int} {s1 d1 t1 v1 n1 : Int → Int} (h10 : σ.S 10 = 2) (h18 : 0 ≤ σ.S 18 ∧ σ.S 18 < 8) (h19 : 0 ≤ σ.S 19 ∧ σ.S 19 ≤ 8) (h0 : fn_KR_problemOf 2 (σ.S 11) (σ.S 12) (σ.T 3) (σ.T 4) (σ.T 6) (σ.T 7) k A B C = some 0) (hp : fn_KR_perform (σ.S 11) (σ.S 12) (σ.T 3) (σ.T 4) (σ.T 5) (σ.T 6) (σ.T 7) k A B C = some (r, c1, z1, s1, d1, t1, v1, n1)) :
    ∃ z, fn_KR_change (σ.S 10) (σ.S 11) (σ.S 12) (σ.T 3) (σ.T 4) (σ.T 5) (σ.T 6) (σ.T 7) (σ.S 18) (σ.S 19) (σ.HC ((σ.S 18 + 1) % 8)) (σ.HZ ((σ.S 18 + 1) % 8)) (σ.HS ((σ.S 18 + 1) % 8)) (σ.HD ((σ.S 18 + 1) % 8)) (σ.HT ((σ.S 18 + 1) % 8)) (σ.HV ((σ.S 18 + 1) % 8)) (σ.HN ((σ.S 18 + 1) % 8)) k A B C = some (.inr z) ∧ z.1 = r ∧ ∀ (S' : jl_S) (K' : jl_K) (P' : Nat → Prop) (cs' : List Nat), (∃ g', jC (jK_all S' K' 0 cs') S' cs'.length c1 z1 s1 d1 t1 v1 n1 g') → (∀ j, 0 ≤ j → j < 40 → jk_R (d1 j)) → jT S' K' cs' → (∀ x, P' x ↔ x ∈ jl_lo (jK_all S' K' 0 cs')) → jN (js_addCluster σ z) S' K' P' cs' := by
  obtain ⟨n', e1, e2, e3, e4, e5, hpush, hn'⟩ := push_y (cl := σ.S 11) (sz := σ.S 12) (st := σ.T 3) (dp := σ.T 4) (tp := σ.T 5) (va := σ.T 6) (nb := σ.T 7) (c2 := σ.HC ((σ.S 18 + 1) % 8)) (z2 := σ.HZ ((σ.S 18 + 1) % 8)) (e1 := σ.HS ((σ.S 18 + 1) % 8)) (e2 := σ.HD ((σ.S 18 + 1) % 8)) (e3 := σ.HT ((σ.S 18 + 1) % 8)) (e4 := σ.HV ((σ.S 18 + 1) % 8)) (e5 := σ.HN ((σ.S 18 + 1) % 8)) h18 h19
  have h18' : 0 ≤ (σ.S 18 + 1) % 8 ∧ (σ.S 18 + 1) % 8 < 8 := by omega
  refine ⟨(r, c1, z1, s1, d1, t1, v1, n1, (σ.S 18 + 1) % 8, n', σ.S 11, σ.S 12, e1, e2, e3, e4, e5), ?_, rfl, fun S' K' P' cs' hC hG hT hP => ⟨hC, ⟨h10, h18', hn'⟩, hG, hT, hP⟩⟩
  rw [h10]
  unfold fn_KR_change
  rw [zk_bd h0]
  (try simp (disch := omega) only [↓zk_lt, ↓zk_nl, ↓zk_eq, ↓zk_ne, ↓zk_ix, ↓zk_dv, ↓zk_bo, ↓zk_rg, ↓zk_get, ↓zk_set, Option.bind_some])
  rw [zk_bd hpush, zk_bd hp]
theorem f_0 (I : pI cl sz tn st dp tp va nb g) (hc : cl < 6) (A B C : Int) : fn_KR_perform cl sz st dp tp va nb 0 A B C = some (cl, cl + 1, sz, jk_up st (cl + 1) sz, dp, tp, va, nb) := by
  have hcl := I.1.1
  have hsz := I.1.2.1
  unfold fn_KR_perform fn_Cords_openCluster
  (try simp (disch := omega) only [↓zk_lt, ↓zk_nl, ↓zk_eq, ↓zk_ne, ↓zk_ix, ↓zk_dv, ↓zk_bo, ↓zk_rg, ↓zk_get, ↓zk_set, Option.bind_some])
  simp
theorem f_5 (I : pI cl sz tn st dp tp va nb g) {k y x : Int} (h0 : 0 ≤ k) (h1 : k < sz) (hy : 0 ≤ y ∧ y ≤ 3) (hx : 0 ≤ x ∧ x ≤ 9) (hn : nb k ≤ y) : fn_KR_perform cl sz st dp tp va nb 5 k y x = some (va k / pw y % 10, cl, sz, st, dp, tp, jk_up va k (va k + (x - va k / pw y % 10) * pw y), nb) := by
  have hcl := I.1.1
  have hsz := I.1.2.1
  obtain ⟨-, -, -, hv, hb, hd, -⟩ := I.2.2 k h0 h1
  have hp := pw_pos (x := y) hy.1 (by omega)
  have hs := setk hv hx hy ⟨hb.1, hn⟩ hd
  have hr : 0 ≤ va k / pw y % 10 ∧ va k / pw y % 10 < 10 := by omega
  unfold fn_KR_perform fn_Cords_knot
  (try simp (disch := omega) only [↓zk_lt, ↓zk_nl, ↓zk_eq, ↓zk_ne, ↓zk_ix, ↓zk_dv, ↓zk_bo, ↓zk_rg, ↓zk_get, ↓zk_set, Option.bind_some])
  rw [zk_bd (sp_at hy.1 (by omega) hv.1 (by omega)), zk_bd (sp_power hy.1 (by omega))]
  (try simp (disch := omega) only [↓zk_lt, ↓zk_nl, ↓zk_eq, ↓zk_ne, ↓zk_ix, ↓zk_dv, ↓zk_bo, ↓zk_rg, ↓zk_get, ↓zk_set, Option.bind_some])
theorem f_6 (I : pI cl sz tn st dp tp va nb g) {k y : Int} (h0 : 0 ≤ k) (h1 : k < sz) (hy : 1 ≤ y ∧ y ≤ 4) (C : Int) : fn_KR_perform cl sz st dp tp va nb 6 k y C = some (pks (va k) - pks (va k / pw y * pw y), cl, sz, st, dp, tp, jk_up va k (va k / pw y * pw y), jk_up nb k y) := by
  have hcl := I.1.1
  have hsz := I.1.2.1
  obtain ⟨-, -, -, hv, hb, hd, -⟩ := I.2.2 k h0 h1
  have hp := pw_pos (x := y) (by omega) hy.2
  have hdm := pw_dm (v := va k) (d := y) (by omega) hy.2 hv.1
  have hl : pks (va k / pw y * pw y) ≤ pks (va k) := pks_le hv.1 (by omega) hy.2
  have hr1 := pks_r (va k)
  have hr2 := pks_r (va k / pw y * pw y)
  unfold fn_KR_perform fn_Cords_loseKnots
  (try simp (disch := omega) only [↓zk_lt, ↓zk_nl, ↓zk_eq, ↓zk_ne, ↓zk_ix, ↓zk_dv, ↓zk_bo, ↓zk_rg, ↓zk_get, ↓zk_set, Option.bind_some])
  rw [zk_bd (sp_ksum hv.1 (by omega)), zk_bd (sp_lose (by omega) hy.2 hv.1 (by omega))]
  (try simp (disch := omega) only [↓zk_lt, ↓zk_nl, ↓zk_eq, ↓zk_ne, ↓zk_ix, ↓zk_dv, ↓zk_bo, ↓zk_rg, ↓zk_get, ↓zk_set, Option.bind_some])
  rw [up_eq rfl, zk_bd (sp_ksum hdm.1 (by omega))]
  rfl
theorem f_7 (I : pI cl sz tn st dp tp va nb g) {k t : Int} (h0 : 0 ≤ k) (h1 : k < sz) (C : Int) : fn_KR_perform cl sz st dp tp va nb 7 k t C = some (tp k, cl, sz, st, dp, jk_up tp k t, va, nb) := by
  have hsz := I.1.2.1
  have htn := I.1.2.2
  obtain ⟨-, -, htp, -⟩ := I.2.2 k h0 h1
  unfold fn_KR_perform fn_Row_replace
  (try simp (disch := omega) only [↓zk_lt, ↓zk_nl, ↓zk_eq, ↓zk_ne, ↓zk_ix, ↓zk_dv, ↓zk_bo, ↓zk_rg, ↓zk_get, ↓zk_set, Option.bind_some])
theorem f_8 (I : pI cl sz tn st dp tp va nb g) {c : Int} (hc : 0 ≤ c) (hc2 : c < cl) (h : kob st dp va nb c = 0) (B C : Int) : fn_KR_perform cl sz st dp tp va nb 8 c B C = some (kg st dp va nb c, cl, sz, st, dp, tp, jk_up va (ko st nb c) (kg st dp va nb c), jk_up nb (ko st nb c) 0) := by
  have hcl := I.1.1
  have hsz := I.1.2.1
  obtain ⟨h1, h2, h3⟩ := kob_0 I hc hc2 h
  obtain ⟨-, -, a3, a4, a5⟩ := ko_r I hc hc2 h2
  have hon : fn_Cords_onlyNibbled st nb c = some (ko st nb c) := sp_on I hc hc2
  unfold fn_KR_perform fn_Cords_mend
  (try simp (disch := omega) only [↓zk_lt, ↓zk_nl, ↓zk_eq, ↓zk_ne, ↓zk_ix, ↓zk_dv, ↓zk_bo, ↓zk_rg, ↓zk_get, ↓zk_set, Option.bind_some])
  rw [zk_bd (sp_kg I hc hc2 h1 h2), zk_bd hon]
  (try simp (disch := omega) only [↓zk_lt, ↓zk_nl, ↓zk_eq, ↓zk_ne, ↓zk_ix, ↓zk_dv, ↓zk_bo, ↓zk_rg, ↓zk_get, ↓zk_set, Option.bind_some])
end AC
/-! digits -/
section DI
variable {f : Int → Int} {b : Int}
theorem kv_4 (F : Int → Int) : jl_kv F 4 0 = 10 * (10 * (10 * (10 * 0 + F 3) + F 2) + F 1) + F 0 := rfl
theorem kv_up {p : Nat} (hp : p < 4) (h : ¬ (p : Int) < b) (v : Int) : jl_kv (fun i => if i < b then 0 else jk_up f (p : Int) v i) 4 0 = jl_kv (fun i => if i < b then 0 else f i) 4 0 + (v - f (p : Int)) * pw (p : Int) := by
  rw [kv_4, kv_4]
  rcases (show p = 0 ∨ p = 1 ∨ p = 2 ∨ p = 3 by omega) with rfl | rfl | rfl | rfl
  · rw [show ((0 : Nat) : Int) = 0 from rfl] at *
    rw [show pw 0 = 1 from rfl, up_ne (i := 0) (j := 3) (by decide), up_ne (i := 0) (j := 2) (by decide), up_ne (i := 0) (j := 1) (by decide), up_eq (i := 0) (j := 0) rfl, if_neg h, if_neg h]
    omega
  · rw [show ((1 : Nat) : Int) = 1 from rfl] at *
    rw [show pw 1 = 10 from rfl, up_ne (i := 1) (j := 3) (by decide), up_ne (i := 1) (j := 2) (by decide), up_ne (i := 1) (j := 0) (by decide), up_eq (i := 1) (j := 1) rfl, if_neg h, if_neg h]
    omega
  · rw [show ((2 : Nat) : Int) = 2 from rfl] at *
    rw [show pw 2 = 100 from rfl, up_ne (i := 2) (j := 3) (by decide), up_ne (i := 2) (j := 1) (by decide), up_ne (i := 2) (j := 0) (by decide), up_eq (i := 2) (j := 2) rfl, if_neg h, if_neg h]
    omega
  · rw [show ((3 : Nat) : Int) = 3 from rfl] at *
    rw [show pw 3 = 1000 from rfl, up_ne (i := 3) (j := 2) (by decide), up_ne (i := 3) (j := 1) (by decide), up_ne (i := 3) (j := 0) (by decide), up_eq (i := 3) (j := 3) rfl, if_neg h, if_neg h]
    omega
theorem kv_dgs {v : Int} (hv : 0 ≤ v ∧ v ≤ 9999) : jl_kv (fun i => if i < 0 then 0 else jl_dgs f v i) 4 0 = v := by
  rw [kv_4]
  rw [if_neg (by decide), if_neg (by decide), if_neg (by decide), if_neg (by decide), show jl_dgs f v 0 = v % 10 from rfl, show jl_dgs f v 1 = v / 10 % 10 from rfl, show jl_dgs f v 2 = v / 10 / 10 % 10 from rfl, show jl_dgs f v 3 = v / 10 / 10 / 10 % 10 from rfl]
  omega
theorem dgs_r {v : Int} (hv : 0 ≤ v) {i : Int} (h0 : 0 ≤ i) (h4 : i < 4) : 0 ≤ jl_dgs f v i ∧ jl_dgs f v i ≤ 9 := by
  rcases (show i = 0 ∨ i = 1 ∨ i = 2 ∨ i = 3 by omega) with rfl | rfl | rfl | rfl
  · rw [show jl_dgs f v 0 = v % 10 from rfl]; omega
  · rw [show jl_dgs f v 1 = v / 10 % 10 from rfl]; omega
  · rw [show jl_dgs f v 2 = v / 10 / 10 % 10 from rfl]; omega
  · rw [show jl_dgs f v 3 = v / 10 / 10 / 10 % 10 from rfl]; omega
theorem pks_dg {d0 d1 d2 d3 : Int} (h0 : 0 ≤ d0 ∧ d0 ≤ 9) (h1 : 0 ≤ d1 ∧ d1 ≤ 9) (h2 : 0 ≤ d2 ∧ d2 ≤ 9) (h3 : 0 ≤ d3 ∧ d3 ≤ 9) : pks (10 * (10 * (10 * (10 * 0 + d3) + d2) + d1) + d0) = d0 + d1 + d2 + d3 := by
  unfold pks
  omega
/-- the places lost are the sum of the digits there -/
theorem lost_F {a : Nat} (ha : b = (a : Int)) : ∀ (n i : Nat), a + n = i → i ≤ 4 → jw_lost f a i = (if (0 : Int) < b ∨ (i : Int) ≤ 0 then 0 else f 0) + (if (1 : Int) < b ∨ (i : Int) ≤ 1 then 0 else f 1) + (if (2 : Int) < b ∨ (i : Int) ≤ 2 then 0 else f 2) + (if (3 : Int) < b ∨ (i : Int) ≤ 3 then 0 else f 3) := by
  intro n
  induction n with
  | zero =>
    intro i hi h4
    obtain rfl : a = i := by omega
    rw [jw_lost_0, if_pos (by omega), if_pos (by omega), if_pos (by omega), if_pos (by omega)]
    rfl
  | succ n ih =>
    intro i hi h4
    obtain ⟨i, rfl⟩ : ∃ i', i = i' + 1 := ⟨i - 1, by omega⟩
    rw [jw_lost_s (by omega), ih i (by omega) (by omega)]
    rcases (show i = 0 ∨ i = 1 ∨ i = 2 ∨ i = 3 by omega) with rfl | rfl | rfl | rfl
    · rw [if_pos (by omega), if_pos (by omega), if_pos (by omega), if_pos (by omega), if_neg (by omega), if_pos (by omega), if_pos (by omega), if_pos (by omega)]
      show (0 : Int) + 0 + 0 + 0 + f 0 = _
      omega
    · rw [if_pos (c := (1 : Int) < b ∨ ((1 : Nat) : Int) ≤ 1) (by omega), if_pos (c := (2 : Int) < b ∨ ((1 : Nat) : Int) ≤ 2) (by omega), if_pos (c := (3 : Int) < b ∨ ((1 : Nat) : Int) ≤ 3) (by omega), if_neg (c := (1 : Int) < b ∨ ((1 + 1 : Nat) : Int) ≤ 1) (by omega), if_pos (c := (2 : Int) < b ∨ ((1 + 1 : Nat) : Int) ≤ 2) (by omega), if_pos (c := (3 : Int) < b ∨ ((1 + 1 : Nat) : Int) ≤ 3) (by omega)]
      show _ + (0 : Int) + 0 + 0 + f 1 = _
      by_cases h : (0 : Int) < b
      · rw [if_pos (Or.inl h), if_pos (Or.inl h)]; omega
      · rw [if_neg (by omega), if_neg (by omega)]; omega
    · rw [if_pos (c := (2 : Int) < b ∨ ((2 : Nat) : Int) ≤ 2) (by omega), if_pos (c := (3 : Int) < b ∨ ((2 : Nat) : Int) ≤ 3) (by omega), if_neg (c := (2 : Int) < b ∨ ((2 + 1 : Nat) : Int) ≤ 2) (by omega), if_pos (c := (3 : Int) < b ∨ ((2 + 1 : Nat) : Int) ≤ 3) (by omega)]
      show _ + (0 : Int) + 0 + f 2 = _
      by_cases h : (0 : Int) < b
      · by_cases h' : (1 : Int) < b
        · rw [if_pos (Or.inl h), if_pos (Or.inl h), if_pos (Or.inl h'), if_pos (Or.inl h')]; omega
        · rw [if_pos (Or.inl h), if_pos (Or.inl h), if_neg (by omega), if_neg (by omega)]; omega
      · rw [if_neg (by omega), if_neg (by omega), if_neg (by omega), if_neg (by omega)]; omega
    · rw [if_pos (c := (3 : Int) < b ∨ ((3 : Nat) : Int) ≤ 3) (by omega), if_neg (c := (3 : Int) < b ∨ ((3 + 1 : Nat) : Int) ≤ 3) (by omega)]
      show _ + (0 : Int) + f 3 = _
      by_cases h : (0 : Int) < b
      · by_cases h' : (1 : Int) < b
        · by_cases h2 : (2 : Int) < b
          · rw [if_pos (Or.inl h), if_pos (Or.inl h), if_pos (Or.inl h'), if_pos (Or.inl h'), if_pos (Or.inl h2), if_pos (Or.inl h2)]; omega
          · rw [if_pos (Or.inl h), if_pos (Or.inl h), if_pos (Or.inl h'), if_pos (Or.inl h'), if_neg (by omega), if_neg (by omega)]; omega
        · rw [if_pos (Or.inl h), if_pos (Or.inl h), if_neg (by omega), if_neg (by omega), if_neg (by omega), if_neg (by omega)]; omega
      · rw [if_neg (by omega), if_neg (by omega), if_neg (by omega), if_neg (by omega), if_neg (by omega), if_neg (by omega)]; omega
theorem kv_lose (hd : ∀ i : Int, 0 ≤ i → i < 4 → 0 ≤ f i ∧ f i ≤ 9) (hb : 0 ≤ b) {p : Nat} (hp : 1 ≤ p ∧ p ≤ 4) (h : ¬ (p : Int) < b) : jl_kv (fun i => if i < b then 0 else f i) 4 0 / pw (p : Int) * pw (p : Int) = jl_kv (fun i => if i < (p : Int) then 0 else jw_lose f b.toNat p i) 4 0 ∧ pks (jl_kv (fun i => if i < b then 0 else f i) 4 0) - pks (jl_kv (fun i => if i < b then 0 else f i) 4 0 / pw (p : Int) * pw (p : Int)) = jw_lost f b.toNat p := by
  obtain ⟨a, ha⟩ := Int.eq_ofNat_of_zero_le hb
  have hF : ∀ i : Int, 0 ≤ i → i < 4 → 0 ≤ (if i < b then 0 else f i) ∧ (if i < b then 0 else f i) ≤ 9 := fun i h0 h4 => by
    split
    · omega
    · exact hd i h0 h4
  have f0 := hF 0 (by omega) (by omega)
  have f1 := hF 1 (by omega) (by omega)
  have f2 := hF 2 (by omega) (by omega)
  have f3 := hF 3 (by omega) (by omega)
  have d1 := hd 1 (by omega) (by omega)
  have d2 := hd 2 (by omega) (by omega)
  have d3 := hd 3 (by omega) (by omega)
  have hl := lost_F (f := f) (b := b) (a := a) ha (p - a) p (by omega) hp.2
  have z : (0 : Int) ≤ 0 ∧ (0 : Int) ≤ 9 := by omega
  rw [show b.toNat = a by omega, hl, kv_4, kv_4]
  have hlo : ∀ i : Int, (p : Int) ≤ i → jw_lose f a p i = f i := fun i hi => by unfold jw_lose; rw [if_neg (by omega)]
  rcases (show p = 1 ∨ p = 2 ∨ p = 3 ∨ p = 4 by omega) with rfl | rfl | rfl | rfl
  · rw [show ((1 : Nat) : Int) = 1 from rfl] at *
    rw [show pw 1 = 10 from rfl, if_pos (c := (0 : Int) < 1) (by decide), if_neg (c := (1 : Int) < 1) (by decide), if_neg (c := (2 : Int) < 1) (by decide), if_neg (c := (3 : Int) < 1) (by decide), hlo 1 (by omega), hlo 2 (by omega), hlo 3 (by omega)]
    rw [if_neg (c := (1 : Int) < b) (by omega), if_neg (c := (2 : Int) < b) (by omega), if_neg (c := (3 : Int) < b) (by omega)]
    have e : (10 * (10 * (10 * (10 * 0 + f 3) + f 2) + f 1) + (if (0 : Int) < b then 0 else f 0)) / 10 * 10 = 10 * (10 * (10 * (10 * 0 + f 3) + f 2) + f 1) + 0 := by omega
    refine ⟨e, ?_⟩
    rw [e, pks_dg f0 d1 d2 d3, pks_dg z d1 d2 d3]
    rw [if_pos (c := (1 : Int) < b ∨ (1 : Int) ≤ 1) (by omega), if_pos (c := (2 : Int) < b ∨ (1 : Int) ≤ 2) (by omega), if_pos (c := (3 : Int) < b ∨ (1 : Int) ≤ 3) (by omega)]
    by_cases h0 : (0 : Int) < b
    · rw [if_pos h0, if_pos (Or.inl h0)]; omega
    · rw [if_neg h0, if_neg (by omega)]; omega
  · rw [show ((2 : Nat) : Int) = 2 from rfl] at *
    rw [show pw 2 = 100 from rfl, if_pos (c := (0 : Int) < 2) (by decide), if_pos (c := (1 : Int) < 2) (by decide), if_neg (c := (2 : Int) < 2) (by decide), if_neg (c := (3 : Int) < 2) (by decide), hlo 2 (by omega), hlo 3 (by omega)]
    rw [if_neg (c := (2 : Int) < b) (by omega), if_neg (c := (3 : Int) < b) (by omega)]
    have e : (10 * (10 * (10 * (10 * 0 + f 3) + f 2) + (if (1 : Int) < b then 0 else f 1)) + (if (0 : Int) < b then 0 else f 0)) / 100 * 100 = 10 * (10 * (10 * (10 * 0 + f 3) + f 2) + 0) + 0 := by omega
    refine ⟨e, ?_⟩
    rw [e, pks_dg f0 f1 d2 d3, pks_dg z z d2 d3]
    rw [if_pos (c := (2 : Int) < b ∨ (2 : Int) ≤ 2) (by omega), if_pos (c := (3 : Int) < b ∨ (2 : Int) ≤ 3) (by omega)]
    by_cases h0 : (0 : Int) < b <;> by_cases h1 : (1 : Int) < b
    · rw [if_pos h0, if_pos h1, if_pos (Or.inl h0), if_pos (Or.inl h1)]; omega
    · rw [if_pos h0, if_neg h1, if_pos (Or.inl h0), if_neg (by omega)]; omega
    · omega
    · rw [if_neg h0, if_neg h1, if_neg (by omega), if_neg (by omega)]; omega
  · rw [show ((3 : Nat) : Int) = 3 from rfl] at *
    rw [show pw 3 = 1000 from rfl, if_pos (c := (0 : Int) < 3) (by decide), if_pos (c := (1 : Int) < 3) (by decide), if_pos (c := (2 : Int) < 3) (by decide), if_neg (c := (3 : Int) < 3) (by decide), hlo 3 (by omega)]
    rw [if_neg (c := (3 : Int) < b) (by omega)]
    have e : (10 * (10 * (10 * (10 * 0 + f 3) + (if (2 : Int) < b then 0 else f 2)) + (if (1 : Int) < b then 0 else f 1)) + (if (0 : Int) < b then 0 else f 0)) / 1000 * 1000 = 10 * (10 * (10 * (10 * 0 + f 3) + 0) + 0) + 0 := by omega
    refine ⟨e, ?_⟩
    rw [e, pks_dg f0 f1 f2 d3, pks_dg z z z d3]
    rw [if_pos (c := (3 : Int) < b ∨ (3 : Int) ≤ 3) (by omega)]
    have g0 : (if (0 : Int) < b then 0 else f 0) = (if (0 : Int) < b ∨ (3 : Int) ≤ 0 then 0 else f 0) := by
      by_cases h0 : (0 : Int) < b
      · rw [if_pos h0, if_pos (Or.inl h0)]
      · rw [if_neg h0, if_neg (by omega)]
    have g1 : (if (1 : Int) < b then 0 else f 1) = (if (1 : Int) < b ∨ (3 : Int) ≤ 1 then 0 else f 1) := by
      by_cases h0 : (1 : Int) < b
      · rw [if_pos h0, if_pos (Or.inl h0)]
      · rw [if_neg h0, if_neg (by omega)]
    have g2 : (if (2 : Int) < b then 0 else f 2) = (if (2 : Int) < b ∨ (3 : Int) ≤ 2 then 0 else f 2) := by
      by_cases h0 : (2 : Int) < b
      · rw [if_pos h0, if_pos (Or.inl h0)]
      · rw [if_neg h0, if_neg (by omega)]
    rw [g0, g1, g2]
    omega
  · rw [show ((4 : Nat) : Int) = 4 from rfl] at *
    rw [show pw 4 = 10000 from rfl, if_pos (c := (0 : Int) < 4) (by decide), if_pos (c := (1 : Int) < 4) (by decide), if_pos (c := (2 : Int) < 4) (by decide), if_pos (c := (3 : Int) < 4) (by decide)]
    have e : (10 * (10 * (10 * (10 * 0 + (if (3 : Int) < b then 0 else f 3)) + (if (2 : Int) < b then 0 else f 2)) + (if (1 : Int) < b then 0 else f 1)) + (if (0 : Int) < b then 0 else f 0)) / 10000 * 10000 = 10 * (10 * (10 * (10 * 0 + 0) + 0) + 0) + 0 := by omega
    refine ⟨e, ?_⟩
    rw [e, pks_dg f0 f1 f2 f3, pks_dg z z z z]
    have g0 : (if (0 : Int) < b then 0 else f 0) = (if (0 : Int) < b ∨ (4 : Int) ≤ 0 then 0 else f 0) := by
      by_cases h0 : (0 : Int) < b
      · rw [if_pos h0, if_pos (Or.inl h0)]
      · rw [if_neg h0, if_neg (by omega)]
    have g1 : (if (1 : Int) < b then 0 else f 1) = (if (1 : Int) < b ∨ (4 : Int) ≤ 1 then 0 else f 1) := by
      by_cases h0 : (1 : Int) < b
      · rw [if_pos h0, if_pos (Or.inl h0)]
      · rw [if_neg h0, if_neg (by omega)]
    have g2 : (if (2 : Int) < b then 0 else f 2) = (if (2 : Int) < b ∨ (4 : Int) ≤ 2 then 0 else f 2) := by
      by_cases h0 : (2 : Int) < b
      · rw [if_pos h0, if_pos (Or.inl h0)]
      · rw [if_neg h0, if_neg (by omega)]
    have g3 : (if (3 : Int) < b then 0 else f 3) = (if (3 : Int) < b ∨ (4 : Int) ≤ 3 then 0 else f 3) := by
      by_cases h0 : (3 : Int) < b
      · rw [if_pos h0, if_pos (Or.inl h0)]
      · rw [if_neg h0, if_neg (by omega)]
    rw [g0, g1, g2, g3]
    omega
end DI
