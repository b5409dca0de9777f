/-! the built text loaded -/
section LD
variable {S : jl_S} {K : jl_K} {P : Nat → Prop} {cs : List Nat} {tx : List Int}
theorem fd_0 {nm : Int → Int} {v : Int} : fn_Topics_find 0 nm v = some (-1) := by
  have hF := jk_F_big
  have e : ∀ n : Nat, 0 < n → fn_Topics_find_b2 n 0 nm v 0 = some (-1) := by
    intro n hn
    obtain ⟨n, rfl⟩ : ∃ n', n = n' + 1 := ⟨n - 1, by omega⟩
    rw [fn_Topics_find_b2]
    (try simp (disch := omega) only [↓zk_lt, ↓zk_nl, ↓zk_eq, ↓zk_ne, ↓zk_ix, ↓zk_dv, ↓zk_bo, ↓zk_rg, ↓zk_get, ↓zk_set, Option.bind_some])
  unfold fn_Topics_find
  exact e jk_F (by omega)
theorem fd_n {nm : Int → Int} (h0 : nm 0 = 1) : fn_Topics_find 1 nm 2 = some (-1) := by
  have hF := jk_F_big
  have e : ∀ n : Nat, 1 < n → fn_Topics_find_b2 n 1 nm 2 0 = some (-1) := by
    intro n hn
    obtain ⟨n, rfl⟩ : ∃ n', n = n' + 1 + 1 := ⟨n - 2, by omega⟩
    rw [fn_Topics_find_b2]
    (try simp (disch := omega) only [↓zk_lt, ↓zk_nl, ↓zk_eq, ↓zk_ne, ↓zk_ix, ↓zk_dv, ↓zk_bo, ↓zk_rg, ↓zk_get, ↓zk_set, Option.bind_some])
    rw [fn_Topics_find_b2]
    (try simp (disch := omega) only [↓zk_lt, ↓zk_nl, ↓zk_eq, ↓zk_ne, ↓zk_ix, ↓zk_dv, ↓zk_bo, ↓zk_rg, ↓zk_get, ↓zk_set, Option.bind_some])
  unfold fn_Topics_find
  exact e jk_F (by omega)
theorem jb_0_N {K : jl_K} : jBd (jk_txt 14) S K (fun _ => False) [] := by
  refine ⟨Or.inl ⟨rfl, fun _ h => h⟩, fun f len nm0 st0 dp0 tp0 va0 nb0 k0 s0 H hl hat h0 hd0 => ?_⟩
  have hl : (16 : Int) ≤ len := hl
  have hat : tk_at f 0 ([116, 111, 112, 105, 99, 32, 97 + ((0 : Nat) : Int), 59] ++ [116, 111, 112, 105, 99, 32, 97 + ((1 : Nat) : Int), 59]) := hat
  obtain ⟨ha, hb⟩ := tk_app hat
  have hb : tk_at f 8 [116, 111, 112, 105, 99, 32, 97 + ((1 : Nat) : Int), 59] := hb
  have hn0 : jk_up nm0 0 1 0 = 1 := up_eq rfl
  refine ⟨2, 4, 15, jk_up (jk_up nm0 0 1) 1 2, st0, dp0, tp0, va0, nb0, fun _ => 0, by decide, ?_, up_eq rfl, ⟨⟨⟨by decide, (show (0 : Int) ≤ 0 ∧ (0 : Int) ≤ 40 by decide), by decide⟩, ⟨h0, h0, fun c h1 h2 => absurd (show c < 0 from h2) (by omega)⟩, fun k h1 h2 => absurd (show k < 0 from h2) (by omega)⟩, rfl, rfl, fun k p hp => by cases hp⟩, hd0, fun n => ?_⟩
  · rw [up_ne (by decide)]
    exact hn0
  · have e1 := s_topic (n := n + 1) (cl := 0) (sz := 0) (st := st0) (dp := dp0) (tp := tp0) (va := va0) (nb := nb0) (k0 := k0) (s0 := s0) (i := 0) H (Or.inl rfl) (t := 0) (by decide) (nm := nm0) fd_0 ha (by decide) (by omega) (by decide)
    have e2 := s_topic (n := n) (cl := 0) (sz := 0) (st := st0) (dp := dp0) (tp := tp0) (va := va0) (nb := nb0) (k0 := 4) (s0 := 0 + 7) (i := 0 + 1) H (Or.inr rfl) (t := 1) (by decide) (nm := jk_up nm0 0 1) (fd_n hn0) hb (by decide) (by omega) (by decide)
    exact e1.trans e2
theorem pI_ext {cl sz tn : Int} {st dp tp va nb g st' dp' tp' va' nb' : Int → Int} (I : pI cl sz tn st dp tp va nb g) (e1 : ∀ j, 0 ≤ j → j < 7 → st' j = st j) (e2 : ∀ j, 0 ≤ j → j < 40 → dp' j = dp j) (e3 : ∀ j, 0 ≤ j → j < 40 → tp' j = tp j) (e4 : ∀ j, 0 ≤ j → j < 40 → va' j = va j) (e5 : ∀ j, 0 ≤ j → j < 40 → nb' j = nb j) : pI cl sz tn st' dp' tp' va' nb' g := by
  have hcl := I.1.1
  have hsz := I.1.2.1
  refine ⟨I.1, ⟨?_, ?_, fun c h0 h1 => ?_⟩, fun k h0 h1 => ?_⟩
  · rw [e1 0 (by omega) (by omega)]; exact I.2.1.1
  · rw [e1 cl (by omega) (by omega)]; exact I.2.1.2.1
  · rw [e1 c (by omega) (by omega), e1 (c + 1) (by omega) (by omega)]; exact I.2.1.2.2 c h0 h1
  · obtain ⟨⟨a1, a2, a3, a4⟩, a5, a6, a7, a8, a9, b1, b2⟩ := I.2.2 k h0 h1
    rw [e1 (g k) (by omega) (by omega), e1 (g k + 1) (by omega) (by omega), e2 k (by omega) (by omega), e3 k (by omega) (by omega), e4 k (by omega) (by omega), e5 k (by omega) (by omega)]
    refine ⟨⟨a1, a2, a3, a4⟩, a5, a6, a7, a8, a9, b1, fun h => ?_⟩
    have hs := pI_st I (c := g k) a1 (by omega)
    rw [e2 (k - 1) (by omega) (by omega)]
    exact b2 h
theorem C_cpy {L : List (Nat × Nat × Nat)} {n : Nat} {cl sz : Int} {st dp tp va nb g a1 a2 a3 a4 a5 : Int → Int} (hC : jC L S n cl sz st dp tp va nb g) : jC L S n cl sz (cpy 7 a1 st) (cpy 40 a2 dp) (cpy 40 a3 tp) (cpy 40 a4 va) (cpy 40 a5 nb) g := by
  obtain ⟨I, hcl, hsz, hcol⟩ := hC
  have hs40 := I.1.2.1
  refine ⟨pI_ext I (fun _ h0 h1 => cpy_in h0 h1) (fun _ h0 h1 => cpy_in h0 h1) (fun _ h0 h1 => cpy_in h0 h1) (fun _ h0 h1 => cpy_in h0 h1) (fun _ h0 h1 => cpy_in h0 h1), hcl, hsz, fun k p hp => ?_⟩
  have hk := (List.getElem?_eq_some_iff.mp hp).1
  rw [cpy_in (by omega) (by omega), cpy_in (by omega) (by omega), cpy_in (by omega) (by omega), cpy_in (by omega) (by omega)]
  exact hcol k p hp
theorem ld_N (h : jBd tx S K P cs) (hcs : 0 < cs.length) (hlen : tx.length ≤ 520) (hby : ∀ i : Nat, i < tx.length → 0 ≤ tx.getD i 0 ∧ tx.getD i 0 < 128) {σ : jk_LS} (h18 : σ.S 18 = 0) (h9 : σ.T 9 = fun _ => 0) (h10 : σ.T 10 = fun _ => 0) : ∀ T0 : Int → Int, (∀ i : Nat, i < tx.length → T0 i = tx.getD i 0) → ∃ q, jf_loadCords (jw_in σ T0 (tx.length : Int)) = some q ∧ q.1 = ((jK_all S K 0 cs).length : Int) ∧ jN (js_loadCords (jw_in σ T0 (tx.length : Int)) q) S K P cs := by
  intro T0 hT0
  have hF := jk_F_big
  obtain ⟨σ0, hN⟩ := h.1.resolve_left (fun z => by rw [z.1, List.length_nil] at hcs; omega)
  have H : pB (tx.length : Int) T0 T0 := ⟨by omega, fun i h0 h1 => ⟨rfl, by
    have h2 := hT0 i.toNat (by omega)
    have h3 := hby i.toNat (by omega)
    rw [show (i.toNat : Int) = i by omega] at h2
    omega⟩⟩
  have hat : tk_at T0 0 tx := fun i hi => by rw [Int.zero_add]; exact hT0 i hi
  obtain ⟨N, k, s, nm, st, dp, tp, va, nb, g, e1, e2, e3, hC, hG, e6⟩ := h.2 T0 (tx.length : Int) (σ.T 8) (σ.T 9) (σ.T 10) (σ.T 11) (σ.T 12) (σ.T 13) (σ.S 4) (σ.S 5) H (by omega) hat (by rw [h9]) (fun j _ _ => by rw [h10]; exact (show jk_R 0 from ⟨by decide, by decide⟩))
  have h7 := e6 (jk_F - N - 1 + 1)
  rw [show jk_F - N - 1 + 1 + N = jk_F by omega, s_end H (by omega)] at h7
  have u1 : fn_Setup_parse T0 (tx.length : Int) (σ.S 4) (σ.S 5) (σ.S 6) (σ.S 7) (σ.S 8) (σ.S 13) (σ.T 8) (σ.S 14) (σ.S 15) (σ.T 9) (σ.T 10) (σ.T 11) (σ.T 12) (σ.T 13) = some (0, (tx.length : Int), (tx.length : Int), 0, -1, 2, nm, (cs.length : Int), ((jK_all S K 0 cs).length : Int), st, dp, tp, va, nb) := l_sp.trans h7
  have hl := l_ok (tn := σ.S 10) (nm := σ.T 2) (cl := σ.S 11) (sz := σ.S 12) (st := σ.T 3) (dp := σ.T 4) (tp := σ.T 5) (va := σ.T 6) (nb := σ.T 7) (hs := σ.S 19) (hS := σ.S 0) (rc := σ.S 1) (ro := σ.S 2) u1
  exact ⟨_, hl, rfl, ⟨g, C_cpy hC⟩, ⟨rfl, (show 0 ≤ σ.S 18 ∧ σ.S 18 < 8 by omega), (show (0 : Int) ≤ 0 ∧ (0 : Int) ≤ 8 by decide)⟩, fun j h0 h1 => (show jk_R (cpy 40 (σ.T 4) dp j) by rw [cpy_in h0 h1]; exact hG j h0 h1), hN.2.2.2.1, hN.2.2.2.2⟩
end LD
