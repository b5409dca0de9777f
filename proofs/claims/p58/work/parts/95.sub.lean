/-! a subsidiary cord more -/
section SB2
variable {S S' : jl_S} {K : jl_K} {P : Nat → Prop} {cs : List Nat} {x y : Nat}
theorem hgt_add (hc : ∀ a, P a → ∀ b ∈ jS_ch S a, P b) (hx : jS_ch S' x = jS_ch S x ++ [y]) (hy : jS_ch S' y = []) (he : ∀ a, P a → a ≠ x → jS_ch S' a = jS_ch S a) : ∀ (D a k : Nat), P a → jS_hgt S D a → (∀ p ∈ jS_fl S D a k, p.1 = x → p.2 + 2 ≤ D + k) → jS_hgt S' D a := by
  intro D
  induction D with
  | zero => exact fun _ _ _ h _ => h
  | succ D ih =>
    intro a k ha h hp b hb
    have hrec : ∀ b ∈ jS_ch S a, jS_hgt S' D b := fun b hb => ih b (k + 1) (hc a ha b hb) (h b hb) (fun p hp2 hpx => by
      have := hp p (List.mem_cons_of_mem _ (List.mem_flatMap.mpr ⟨b, hb, hp2⟩)) hpx
      omega)
    by_cases e : a = x
    · have h2 := hp (a, k) (List.mem_cons_self ..) e
      have h2 : k + 2 ≤ D + 1 + k := h2
      rw [e, hx] at hb
      rcases List.mem_append.mp hb with hb | hb
      · exact hrec b (by rw [e]; exact hb)
      · rw [List.mem_singleton.mp hb]
        obtain ⟨D, rfl⟩ : ∃ D', D = D' + 1 := ⟨D - 1, by omega⟩
        intro c hc2
        rw [hy] at hc2
        exact absurd hc2 List.not_mem_nil
    · rw [he a ha e] at hb
      exact hrec b hb
/-- a listed cord has one place -/
theorem lo_un {L : List (Nat × Nat × Nat)} (hn : (jl_lo L).Nodup) {p q : Nat × Nat × Nat} (hp : p ∈ L) (hq : q ∈ L) (h : p.1 = q.1) : p = q := by
  obtain ⟨i, hi⟩ := List.getElem?_of_mem hp
  obtain ⟨k, hk⟩ := List.getElem?_of_mem hq
  have := lo_inj hn hi hk h
  rw [this, hk] at hi
  exact (Option.some.inj hi).symm
theorem dep_lt {p : Nat × Nat × Nat} (hp : p ∈ jK_all S K 0 cs) : p.2.1 < 4 := by
  obtain ⟨cu, _, h, -, -⟩ := all_mem cs 0 p hp
  exact cl_dep _ h
end SB2
theorem jO_addSub_N : jO_addSub jN := by
  intro σ S K P cs h k x d c hk hd0 hd3 hlen tp va htp hva y kn b hPy hyc
  have hPl := h.pl
  have hKP := h.kp
  obtain ⟨⟨g, hC⟩, ⟨h10, h18, h19⟩, hG, hT, hP⟩ := h
  have hyL : y ∉ jl_lo (jK_all S K 0 cs) := fun z => hPy ((hP y).mpr z)
  have hxL : x ∈ jl_lo (jK_all S K 0 cs) := lo_k hk
  have hxy : x ≠ y := fun e => hyL (e ▸ hxL)
  have I := hC.1
  have hsz := hC.2.2.1
  have h40 := I.1.2.1
  have hkl : k < (jK_all S K 0 cs).length := (List.getElem?_eq_some_iff.mp hk).1
  have k0 : (0 : Int) ≤ (k : Int) := by omega
  have k1 : (k : Int) < σ.S 12 := by omega
  have hd4 : d < 4 := dep_lt (List.mem_of_getElem? hk)
  obtain ⟨c1, c2, -, -, -⟩ := hC.2.2.2 k _ hk
  have c1 : g (k : Int) = (c : Int) := c1
  have c2 : σ.T 4 (k : Int) = (d : Int) := c2
  have hcc := hT.cl
  obtain ⟨S2, hS2⟩ : ∃ S2, S2 = jS_c (jS_n S y kn b (jl_dgs (fun _ => 0) (va : Int)) (tp : Int)) x (jS_ch S x ++ [y]) := ⟨_, rfl⟩
  rw [← hS2]
  have hchx : jS_ch S2 x = jS_ch S x ++ [y] := by rw [hS2]; exact if_pos rfl
  have hchy : jS_ch S2 y = [] := by
    rw [hS2]
    exact (if_neg (fun z => hxy z.symm)).trans nS_x
  have hcho : ∀ a, a ∈ jl_lo (jK_all S K 0 cs) → a ≠ x → jS_ch S2 a = jS_ch S a := fun a ha hax => by
    rw [hS2]
    exact (if_neg hax).trans (nS_ch (fun z => hyL (z ▸ ha)))
  have hJG : jG S (jS_fl S2) x (fun a => a ∈ jl_lo (jK_all S K 0 cs)) := ⟨hcc, fun D a k ha hax => by
    show (a, k) :: (jS_ch S2 a).flatMap _ = _
    rw [hcho a ha hax]⟩
  have hKP' : ∀ cu ∈ cs, (∀ b ∈ jK_pd K cu, b ∈ jl_lo (jK_all S K 0 cs) ∧ jS_hgt S 3 b) ∧ ∀ t, jK_tp K cu = some t → t ∈ jl_lo (jK_all S K 0 cs) ∧ jS_hgt S 3 t := fun cu hc => ⟨fun b hb => ⟨pd_in hc hb, (hT.2.2.2.2.1 cu hc).1 b hb⟩, fun t ht => ⟨tp_in hc ht, (hT.2.2.2.2.1 cu hc).2 t ht⟩⟩
  obtain ⟨D', pre, post, g1, g2, g3, g4, g5⟩ := Ga_at (S' := S2) (K' := K) hJG cs 0 k d c hKP' hT.2.2.2.1 (fun cu _ => by
    unfold jK_cl jGc jK_tl jGt
    cases jK_tp K cu <;> rfl) hT.1 hk
  have hD' := g1.2 (by omega)
  obtain ⟨D2, pre2, post2, a1, a2, a3, a4, a5, a6, -, -, a9⟩ := all_at cs 0 k x d c hT.2.2.2.1 hk
  have hbe := be_blk hC hT.2.2.2.1 hk a1 a2 a3 a6 a9
  have hlen2 : jS_fl S D2 x d = jS_fl S D' x d := (fl_up D2 3 x d (a4 hT.2.2.2.2.1) a5).symm.trans (fl_up D' 3 x d g5 (by omega))
  rw [hlen2] at hbe
  obtain ⟨E, rfl⟩ : ∃ E, D' = E + 2 := ⟨D' - 2, by omega⟩
  have hblk : jS_fl S2 (E + 2) x d = jS_fl S (E + 2) x d ++ [(y, d + 1)] := by
    have hn := hT.1
    rw [g2, lo_app, lo_app, lo_mp] at hn
    have hn2 := (List.nodup_append.mp (List.nodup_append.mp hn).2.1).1
    have hn2 : (((x, d) :: (jS_ch S x).flatMap (fun b => jS_fl S (E + 1) b (d + 1))).map (fun p => p.1)).Nodup := hn2
    rw [List.map_cons, List.nodup_cons] at hn2
    show (x, d) :: (jS_ch S2 x).flatMap (fun b => jS_fl S2 (E + 1) b (d + 1)) = ((x, d) :: (jS_ch S x).flatMap (fun b => jS_fl S (E + 1) b (d + 1))) ++ [(y, d + 1)]
    rw [hchx, List.flatMap_append, Gf_no hJG (jS_ch S x) (fun b hb => ⟨hcc x hxL b hb, g5 b hb⟩) hn2.1]
    rw [show ([y].flatMap fun b => jS_fl S2 (E + 1) b (d + 1)) = [(y, d + 1)] by
      show ((y, d + 1) :: (jS_ch S2 y).flatMap _) ++ [] = _
      rw [hchy]
      rfl]
    rfl
  rw [hblk, List.map_append, ← List.append_assoc, ← List.append_assoc, List.append_assoc (pre ++ _)] at g4
  rw [← List.append_assoc] at g2
  generalize hA : pre ++ (jS_fl S (E + 2) x d).map (fun p => (p.1, p.2, c)) = A at g2 g4
  have g4 : jK_all S2 K 0 cs = A ++ (y, d + 1, c) :: post := g4
  have hAl : (A.length : Int) = (k : Int) + ((jS_fl S (E + 2) x d).length : Int) := by
    rw [← hA, List.length_append, List.length_map, g3]
    omega
  rw [← hAl] at hbe
  obtain ⟨w, H⟩ := pC_of I hG
  have hpb := pb_2 H (k := (k : Int)) (t := (tp : Int)) (v := (va : Int)) ⟨by omega, by omega⟩ ⟨by omega, by omega⟩ ⟨by omega, by omega⟩
  rw [if_pos ⟨⟨k0, k1⟩, ⟨by omega, by omega⟩⟩, if_pos ⟨by omega, by omega⟩, if_pos ⟨by omega, by omega⟩] at hpb
  obtain ⟨hf, hI⟩ := f_2 I k0 k1 (t := (tp : Int)) (v := (va : Int)) (by omega) ⟨by omega, by omega⟩ ⟨by omega, by omega⟩ (by omega)
  obtain ⟨z, hz, hr, hN⟩ := act_of h10 h18 h19 hpb hf
  have hyA : y ∉ jl_lo (A ++ post) := by rw [← g2]; exact hyL
  have hL : ∀ z, z ∈ jl_lo (A ++ (y, d + 1, c) :: post) ↔ z ∈ jl_lo (jK_all S K 0 cs) ∨ z = y := fun z => by rw [g2]; exact lo_mi
  refine ⟨z, A.length, ?_, by rw [hr, hbe], ?_, ?_, ?_⟩
  · unfold jf_addSubsidiary fn_KR_addSubsidiary
    exact cx_id.trans hz
  · rw [g4]; exact (lo_new hyA).1
  · rw [g4]; exact (lo_new hyA).2
  · refine hN _ _ _ _ ⟨ins g (be (σ.S 12) (σ.T 4) (k : Int)) (g (k : Int)) (σ.S 12), ?_⟩ (pG_ins hG (by omega) ⟨by omega, by omega⟩) ?_ (fun z => by rw [g4, hL, hP])
    · rw [g4]
      rw [g2] at hC
      refine C_ins hC (fun p hp => ?_) hI hbe c1 (by omega) ?_ ?_ ?_
      · rw [hS2]
        exact nS_v (kk := kn) (b := b) (fun e => hyL (by rw [g2]; exact lo_m.mpr ⟨p.2.1, p.2.2, by rw [← e]; exact hp⟩))
      · rw [hS2]; exact (if_pos rfl).symm
      · rw [hS2]
        refine Eq.symm ?_
        show jS_kv (jS_n S y kn b (jl_dgs (fun _ => 0) (va : Int)) (tp : Int)) y = _
        rw [n_kv_s, kv_dgs ⟨by omega, by omega⟩]
      · rw [hS2]; exact if_pos rfl
    · obtain ⟨t1, t2, t3, t4, t5, t6, t7⟩ := id hT
      unfold jT
      rw [g4]
      have htx : ∀ u ∈ cs, ∀ t, jK_tp K u = some t → t ≠ x := fun u hu t ht e => by
        obtain ⟨j, hj⟩ := List.getElem?_of_mem hu
        have h1 : (t, 0) ∈ jK_cl S K u := List.mem_append_left _ (by unfold jK_tl; rw [ht]; exact List.mem_cons_self ..)
        have h2 := lo_un t1 (all_in hj h1) (List.mem_of_getElem? hk) e
        have h3 := congrArg (fun p : Nat × Nat × Nat => p.2.1) h2
        exact hd0 h3.symm
      refine ⟨lo_nd (by rw [← g2]; exact t1) hyA, t2, t3, fun u hu t ht => ?_, fun u hu => ⟨fun v hv => ?_, fun t ht => ?_⟩, fun v hv => ?_, nS_d (kk := kn) (b := b) (f := jl_dgs (fun _ => 0) (va : Int)) (t := (tp : Int)) hT hL (fun i h0 h4 => dgs_r (by omega) h0 h4) (by rw [hS2]; rfl)⟩
      · rw [hcho t (tp_in hu ht) (htx u hu t ht)]
        exact t4 u hu t ht
      · refine hgt_add (P := fun a => a ∈ jl_lo (jK_all S K 0 cs)) hcc hchx hchy hcho 3 v 1 (pd_in hu hv) ((t5 u hu).1 v hv) (fun p hp hpx => ?_)
        obtain ⟨j, hj⟩ := List.getElem?_of_mem hu
        have h1 : p ∈ jK_cl S K u := List.mem_append_right _ (List.mem_flatMap.mpr ⟨v, hv, hp⟩)
        have h2 := lo_un t1 (all_in hj h1) (List.mem_of_getElem? hk) hpx
        have h3 : p.2 = d := congrArg (fun p : Nat × Nat × Nat => p.2.1) h2
        omega
      · intro b2 hb2
        rw [hcho t (tp_in hu ht) (htx u hu t ht), t4 u hu t ht] at hb2
        exact absurd hb2 List.not_mem_nil
      · rcases (hL v).mp hv with hv | hv
        · exact t6 v hv
        · rw [hv]; exact hyc
