/-! the reader: what it lists -/
theorem jl_Cd.fr {cI cO : ClassId} {z0 : Nat} {ow ow' : Nat → Nat} {M M' : jm_M} {S : jl_S} {a : Nat} {T : Nat → Prop} (h : jl_Cd cI cO z0 ow M S a) (hF : jl_FrP ow M ow' M' T) (n0 : ¬ T (8 * a)) (n1 : ¬ T (8 * a + 1)) (n2 : ¬ T (8 * a + 2)) : jl_Cd cI cO z0 ow' M' S a := by
  obtain ⟨h1, h2, h3, h4, h5⟩ := h
  exact ⟨(hF _ _ h1).2.2 (by rw [h2]; exact n0), (hF _ _ h1).1.trans h2, (hF _ _ h3).2.2 (by rw [h4]; exact n1), (hF _ _ h3).1.trans h4, h5.fr hF n2⟩
theorem jl_W.fr {cI cO : ClassId} {z0 : Nat} {ow ow' : Nat → Nat} {M M' : jm_M} {S : jl_S} {P T : Nat → Prop} (h : jl_W cI cO z0 ow M S P) (hF : jl_FrP ow M ow' M' T) (hT : ∀ z, T z → 3 ≤ z % 8) : jl_W cI cO z0 ow' M' S P :=
  fun x hx => ⟨(h x hx).1.fr hF (fun z => by have := hT _ z; omega) (fun z => by have := hT _ z; omega) (fun z => by have := hT _ z; omega), (h x hx).2⟩
theorem jl_Cu.fr {cO : ClassId} {z0 : Nat} {ow ow' : Nat → Nat} {M M' : jm_M} {K : jl_K} {c : Nat} {T : Nat → Prop} (h : jl_Cu cO z0 ow M K c) (hF : jl_FrP ow M ow' M' T) (n0 : ¬ T (8 * c)) (n2 : ¬ T (8 * c + 2)) : jl_Cu cO z0 ow' M' K c := by
  obtain ⟨h1, h2, h5⟩ := h
  exact ⟨(hF _ _ h1).2.2 (by rw [h2]; exact n0), (hF _ _ h1).1.trans h2, h5.fr hF n2⟩
def jl_Rd (cO : ClassId) (z0 : Nat) (ow : Nat → Nat) (M : jm_M) (r rc ro rd ri : Nat) (cs os ds is : List Nat) : Prop :=
  M r = some (.inr (13, [.ref rc, .ref ro, .ref rd, .ref ri])) ∧ ow r = 8 * r ∧ jl_AL cO z0 ow M (8 * r + 2) rc cs ∧ jl_AL cO z0 ow M (8 * r + 3) ro os ∧ jl_AL cO z0 ow M (8 * r + 4) rd ds ∧ jl_AL cO z0 ow M (8 * r + 5) ri is
theorem jl_Rd.mono {cO : ClassId} {z0 : Nat} {ow : Nat → Nat} {M M' : jm_M} {r rc ro rd ri : Nat} {cs os ds is : List Nat} (h : jl_Rd cO z0 ow M r rc ro rd ri cs os ds is) (hl : jm_le M M') : jl_Rd cO z0 ow M' r rc ro rd ri cs os ds is :=
  ⟨hl _ _ h.1, h.2.1, h.2.2.1.mono hl, h.2.2.2.1.mono hl, h.2.2.2.2.1.mono hl, h.2.2.2.2.2.mono hl⟩
theorem jl_Rd.fr {cO : ClassId} {z0 : Nat} {ow ow' : Nat → Nat} {M M' : jm_M} {r rc ro rd ri : Nat} {cs os ds is : List Nat} {T : Nat → Prop} (h : jl_Rd cO z0 ow M r rc ro rd ri cs os ds is) (hF : jl_FrP ow M ow' M' T) (hT : ∀ j, j < 6 → ¬ T (8 * r + j)) : jl_Rd cO z0 ow' M' r rc ro rd ri cs os ds is := by
  obtain ⟨h1, h2, h3, h4, h5, h6⟩ := h
  exact ⟨(hF _ _ h1).2.2 (by rw [h2]; exact hT 0 (by omega)), (hF _ _ h1).1.trans h2, h3.fr hF (hT 2 (by omega)), h4.fr hF (hT 3 (by omega)), h5.fr hF (hT 4 (by omega)), h6.fr hF (hT 5 (by omega))⟩
theorem jl_Rd.ord {cO : ClassId} {z0 : Nat} {ow ow' : Nat → Nat} {M M' : jm_M} {r rc ro rd ri : Nat} {cs os os' ds is : List Nat} (h : jl_Rd cO z0 ow M r rc ro rd ri cs os ds is) (hF : jl_Fr ow M ow' M' (8 * r + 3)) (hn : jl_AL cO z0 ow' M' (8 * r + 3) ro os') : jl_Rd cO z0 ow' M' r rc ro rd ri cs os' ds is := by
  obtain ⟨h1, h2, h3, h4, h5, h6⟩ := h
  exact ⟨(hF _ _ h1).2.2 (by rw [h2]; dsimp only; omega), (hF _ _ h1).1.trans h2, h3.fr hF (by omega), hn, h5.fr hF (by omega), h6.fr hF (by omega)⟩
theorem jl_Rd.dep {cO : ClassId} {z0 : Nat} {ow ow' : Nat → Nat} {M M' : jm_M} {r rc ro rd ri : Nat} {cs os ds ds' is : List Nat} (h : jl_Rd cO z0 ow M r rc ro rd ri cs os ds is) (hF : jl_Fr ow M ow' M' (8 * r + 4)) (hn : jl_AL cO z0 ow' M' (8 * r + 4) rd ds') : jl_Rd cO z0 ow' M' r rc ro rd ri cs os ds' is := by
  obtain ⟨h1, h2, h3, h4, h5, h6⟩ := h
  exact ⟨(hF _ _ h1).2.2 (by rw [h2]; dsimp only; omega), (hF _ _ h1).1.trans h2, h3.fr hF (by omega), h4.fr hF (by omega), hn, h6.fr hF (by omega)⟩
theorem jl_Rd.inn {cO : ClassId} {z0 : Nat} {ow ow' : Nat → Nat} {M M' : jm_M} {r rc ro rd ri : Nat} {cs os ds is is' : List Nat} (h : jl_Rd cO z0 ow M r rc ro rd ri cs os ds is) (hF : jl_Fr ow M ow' M' (8 * r + 5)) (hn : jl_AL cO z0 ow' M' (8 * r + 5) ri is') : jl_Rd cO z0 ow' M' r rc ro rd ri cs os ds is' := by
  obtain ⟨h1, h2, h3, h4, h5, h6⟩ := h
  exact ⟨(hF _ _ h1).2.2 (by rw [h2]; dsimp only; omega), (hF _ _ h1).1.trans h2, h3.fr hF (by omega), h4.fr hF (by omega), h5.fr hF (by omega), hn⟩
/-- a new cell of a tag of one's own -/
theorem jl_FrP.new {ow : Nat → Nat} {M M' : jm_M} {T : Nat → Prop} {q t : Nat} {e : va_E} (hM : M' = jm_up M q e) (hq : M q = none) : jl_FrP ow M (fun b => if b = q then t else ow b) M' T := by
  subst hM
  exact jl_FrP.mk (jl_dom.up rfl) (fun b eb hb => ⟨if_neg (jm_nen hb hq), fun _ => by rw [jm_up_n (jm_nen hb hq)]; exact hb⟩)
/-- a write at a cell that wasn't there at first -/
theorem jl_FrP.putnew {ow ow' : Nat → Nat} {M M1 M2 : jm_M} {T : Nat → Prop} {q : Nat} {e : va_E} (h : jl_FrP ow M ow' M1 T) (hM : M2 = jm_up M1 q e) (hq : M q = none) : jl_FrP ow M ow' M2 T := by
  subst hM
  intro b eb hb
  obtain ⟨h1, ⟨e', h2⟩, h3⟩ := h b eb hb
  have hne := jm_nen hb hq
  exact ⟨h1, ⟨e', by rw [jm_up_n hne]; exact h2⟩, fun hn => by rw [jm_up_n hne]; exact h3 hn⟩
/-- the listing of a cord and all below it: cells and depths -/
def jS_fl (S : jl_S) : Nat → Nat → Nat → List (Nat × Nat)
  | 0, _, _ => []
  | d + 1, a, k => (a, k) :: (jS_ch S a).flatMap (fun b => jS_fl S d b (k + 1))
def jl_T3 (r : Nat) : Nat → Prop := fun z => z = 8 * r + 3 ∨ z = 8 * r + 4 ∨ z = 8 * r + 5
theorem jl_T3m {r z : Nat} (h : jl_T3 r z) : 3 ≤ z % 8 := by
  rcases h with h | h | h <;> omega
theorem jS_fl_len {S : jl_S} : ∀ (d a k : Nat), (jS_fl S d a k).length = jS_siz S d a := by
  intro d
  induction d with
  | zero => intro a k; rfl
  | succ d ih =>
    intro a k
    rw [jS_fl, jS_siz, List.length_cons, List.length_flatMap, Nat.add_comm]
    congr 1
    congr 1
    exact List.map_congr_left (fun b _ => ih b (k + 1))
theorem jS_fl_P {S : jl_S} {P : Nat → Prop} (hP : ∀ x, P x → ∀ b ∈ jS_ch S x, P b) : ∀ (d a k : Nat), P a → ∀ p ∈ jS_fl S d a k, P p.1 := by
  intro d
  induction d with
  | zero => intro a k _ p hp; cases hp
  | succ d ih =>
    intro a k ha p hp
    rw [jS_fl] at hp
    rcases List.mem_cons.mp hp with rfl | hp
    · exact ha
    · obtain ⟨b, hb, hp⟩ := List.mem_flatMap.mp hp
      exact ih b (k + 1) (hP a ha b hb) p hp
section RD1
variable (l : Launch) (D : va_G) {Z : (Nat → Prop) → State → Heap → Prop} {sq iad : Nat → Nat} {z0 zi mi : Nat} (cI cR cO cB : ClassId)
theorem jl_memo {P : Nat → Prop} {c : Nat} {os : List Nat} {fl : List (Nat × Nat)} (hc : P c) (hos : ∀ y ∈ os, P y) (hfl : ∀ p ∈ fl, P p.1) : ∀ y ∈ os ++ (c :: fl.map (·.1)), P y := by
  intro y hy
  rcases List.mem_append.mp hy with h | h
  · exact hos y h
  rcases List.mem_cons.mp h with rfl | h
  · exact hc
  · obtain ⟨p, hp, rfl⟩ := List.mem_map.mp h
    exact hfl p hp
theorem jl_memi {iad : Nat → Nat} {k : Nat} {ds : List Nat} {fl : List (Nat × Nat)} (hds : ∀ y ∈ ds, ∃ z, z < 256 ∧ y = iad z) (hk : k < 100) (hfl : ∀ p ∈ fl, p.2 < 100) : ∀ y ∈ ds ++ (iad (k + 128) :: fl.map (fun p => iad (p.2 + 128))), ∃ z, z < 256 ∧ y = iad z := by
  intro y hy
  rcases List.mem_append.mp hy with h | h
  · exact hds y h
  rcases List.mem_cons.mp h with rfl | h
  · exact ⟨_, by omega, rfl⟩
  · obtain ⟨p, hp, rfl⟩ := List.mem_map.mp h
    exact ⟨_, by have := hfl p hp; omega, rfl⟩
theorem jl_memj {iad : Nat → Nat} {j : Nat} {is : List Nat} {fl : List (Nat × Nat)} (his : ∀ y ∈ is, ∃ z, z < 256 ∧ y = iad z) (hj : j < 100) : ∀ y ∈ is ++ (iad (j + 128) :: fl.map (fun _ => iad (j + 128))), ∃ z, z < 256 ∧ y = iad z := by
  intro y hy
  rcases List.mem_append.mp hy with h | h
  · exact his y h
  rcases List.mem_cons.mp h with rfl | h
  · exact ⟨_, by omega, rfl⟩
  · obtain ⟨p, hp, rfl⟩ := List.mem_map.mp h
    exact ⟨_, by omega, rfl⟩
theorem jS_fl_d {S : jl_S} : ∀ (d a k : Nat), ∀ p ∈ jS_fl S d a k, p.2 < k + d := by
  intro d
  induction d with
  | zero => intro a k p hp; cases hp
  | succ d ih =>
    intro a k p hp
    rw [jS_fl] at hp
    rcases List.mem_cons.mp hp with rfl | hp
    · show k < k + (d + 1); omega
    · obtain ⟨b, hb, hp⟩ := List.mem_flatMap.mp hp
      have := ih b (k + 1) p hp
      omega
theorem jl_fld {S : jl_S} {pre : List Nat} {d k : Nat} {p : Nat × Nat} (hp : p ∈ pre.flatMap (fun b => jS_fl S d b (k + 1))) (h : k + 1 + d ≤ 100) : p.2 < 100 := by
  obtain ⟨b, hb, hp⟩ := List.mem_flatMap.mp hp
  have := jS_fl_d d b (k + 1) p hp
  omega
set_option maxHeartbeats 2000000 in
theorem ct_Rd_lists (hZ : jl_ZK Z sq iad z0 zi mi) {S : jl_S} {P : Nat → Prop} {r rc ro rd ri : Nat} {cs : List Nat} : ∀ (d : Nat) {ow : Nat → Nat} {M : jm_M} {c k j : Nat} {os ds is : List Nat}, jl_W cI cO z0 ow M S P → P c → jS_hgt S d c → jl_Rd cO z0 ow M r rc ro rd ri cs os ds is → k + d ≤ 90 → j < 90 → os.length + jS_siz S d c ≤ 41 → ds.length = os.length → is.length = os.length → (∀ y ∈ os, P y) → (∀ y ∈ ds, ∃ z, z < 256 ∧ y = iad z) → (∀ y ∈ is, ∃ z, z < 256 ∧ y = iad z) → jm_Met l D jk_cl (jl_ty cI cR cO cB) Z mn_Rd_lists (.code mn_Rd_lists mb_Rd_lists 6 none :: jk_WA) (jk_rx (12 + d) (4 * jS_siz S d c) (184 * jS_siz S d c) (300 + d * 25)) [.ref r, .ref c, jk_V ((k : Int)), jk_V ((j : Int))] M (fun v M' => v = none ∧ ∃ ow', jl_Rd cO z0 ow' M' r rc ro rd ri cs (os ++ (jS_fl S d c k).map (·.1)) (ds ++ (jS_fl S d c k).map (fun p => iad (p.2 + 128))) (is ++ (jS_fl S d c k).map (fun _ => iad (j + 128))) ∧ jl_FrP ow M ow' M' (jl_T3 r)) (4 * jS_siz S d c) (184 * jS_siz S d c) := by
  intro d
  induction d with
  | zero => intro ow M c k j os ds is _ _ h; exact absurd h id
  | succ d ih =>
    intro ow M c k j os ds is hW hc hh hR hk hj hlen hdl hil hos hds his
    have hcd := (hW c hc).1
    have hln := hlen
    rw [jS_siz] at hln
    refine jm_body (by decide +kernel) (fun p ev s m args below meth cod w hw hz hin C => ?_) (Nat.le_of_ble_eq_true rfl)
    refine jk_aload_n C rd_Rd_lists_0 (k := 0) rfl ?_
    refine jm_get C hw in_Rd (ci := 13) rfl 1 (Nat.le_of_ble_eq_true rfl) lk_Rd_16 hR.1 rfl rd_Rd_lists_1 ?_
    refine jk_aload_n C rd_Rd_lists_4 (k := 1) rfl ?_
    obtain ⟨mc1, e1, _, _, hc1, -⟩ := id hR.2.2.2.1
    refine jm_callF C (x := ⟨"java/util/List", "add", "(Ljava/lang/Object;)Z"⟩) (q := ("java/util/ArrayList", tb_AL, 3)) (ci := 14) hZ.1.1 hz hw (ct_AL_add l D cI cR cO cB hZ hR.2.2.2.1 (x := c) (Or.inl ⟨_, hcd.1⟩) (by omega) (fun y hy => Or.inl ⟨_, (hW y (hos y hy)).1.1⟩)) (ff_AL_add hZ.1 hz) (fg_AL_add lk_Rd_25) cw_AL_add nf_AL_add ⟨by dsimp only [jk_rx]; omega, by dsimp only [jk_rx]; omega⟩ rfl hc1 rfl (st := []) rfl (Nat.le_of_ble_eq_true rfl) rd_Rd_lists_5 ⟨by dsimp only [jk_rx]; rw [jS_siz]; omega, by dsimp only [jk_rx]; rw [jS_siz]; omega⟩ (fun v w1 hp2 => ?_)
    obtain ⟨rfl, ow1, a1, f1⟩ := hp2
    have hR1 := hR.ord f1 a1
    have hW1 := hW.fr f1 (fun z (hz : z = _) => by omega)
    refine jk_pop C rd_Rd_lists_10 rfl ?_
    refine jk_aload_n C rd_Rd_lists_11 (k := 0) rfl ?_
    refine jm_get C (rfl : jm_lk w1 = _) in_Rd (ci := 13) rfl 2 (Nat.le_of_ble_eq_true rfl) lk_Rd_19 hR1.1 rfl rd_Rd_lists_12 ?_
    refine jk_iload_n C rd_Rd_lists_15 (k := 2) rfl ?_
    refine jm_callS C hZ.1.1 hz (rfl : jm_lk w1 = _) (ct_JInt_valueOf l D cI cR cO cB hZ (M := jm_lk w1) (n := k) (by omega)) lk_Rd_31 xw_JInt_valueOf iw_JInt cw_JInt_valueOf na_JInt_valueOf ⟨by dsimp only [jk_rx]; omega, by dsimp only [jk_rx]; omega⟩ rfl (st := [.ref rd]) rfl (Nat.le_of_ble_eq_true rfl) rd_Rd_lists_16 ⟨by dsimp only [jk_rx]; rw [jS_siz]; omega, by dsimp only [jk_rx]; rw [jS_siz]; omega⟩ (fun v w3 hp4 => ?_)
    obtain ⟨rfl, hv1⟩ := hp4
    obtain ⟨mc2, e2, _, _, hc2, -⟩ := id hR1.2.2.2.2.1
    refine jm_callF C (x := ⟨"java/util/List", "add", "(Ljava/lang/Object;)Z"⟩) (q := ("java/util/ArrayList", tb_AL, 3)) (ci := 14) hZ.1.1 hz hv1 (ct_AL_add l D cI cR cO cB hZ hR1.2.2.2.2.1 (x := iad (k + 128)) (Or.inr (Or.inr ⟨_, by omega, rfl⟩)) (by omega) (fun y hy => Or.inr (Or.inr (hds y hy)))) (ff_AL_add hZ.1 hz) (fg_AL_add lk_Rd_25) cw_AL_add nf_AL_add ⟨by dsimp only [jk_rx]; omega, by dsimp only [jk_rx]; omega⟩ rfl hc2 rfl (st := []) rfl (Nat.le_of_ble_eq_true rfl) rd_Rd_lists_19 ⟨by dsimp only [jk_rx]; rw [jS_siz]; omega, by dsimp only [jk_rx]; rw [jS_siz]; omega⟩ (fun v w5 hp6 => ?_)
    obtain ⟨rfl, ow2, a2, f2⟩ := hp6
    have hR2 := hR1.dep f2 a2
    have hW2 := hW1.fr f2 (fun z (hz : z = _) => by omega)
    refine jk_pop C rd_Rd_lists_24 rfl ?_
    refine jk_aload_n C rd_Rd_lists_25 (k := 0) rfl ?_
    refine jm_get C (rfl : jm_lk w5 = _) in_Rd (ci := 13) rfl 3 (Nat.le_of_ble_eq_true rfl) lk_Rd_22 hR2.1 rfl rd_Rd_lists_26 ?_
    refine jk_iload_n C rd_Rd_lists_29 (k := 3) rfl ?_
    refine jm_callS C hZ.1.1 hz (rfl : jm_lk w5 = _) (ct_JInt_valueOf l D cI cR cO cB hZ (M := jm_lk w5) (n := j) (by omega)) lk_Rd_31 xw_JInt_valueOf iw_JInt cw_JInt_valueOf na_JInt_valueOf ⟨by dsimp only [jk_rx]; omega, by dsimp only [jk_rx]; omega⟩ rfl (st := [.ref ri]) rfl (Nat.le_of_ble_eq_true rfl) rd_Rd_lists_30 ⟨by dsimp only [jk_rx]; rw [jS_siz]; omega, by dsimp only [jk_rx]; rw [jS_siz]; omega⟩ (fun v w7 hp8 => ?_)
    obtain ⟨rfl, hv2⟩ := hp8
    obtain ⟨mc3, e3, _, _, hc3, -⟩ := id hR2.2.2.2.2.2
    refine jm_callF C (x := ⟨"java/util/List", "add", "(Ljava/lang/Object;)Z"⟩) (q := ("java/util/ArrayList", tb_AL, 3)) (ci := 14) hZ.1.1 hz hv2 (ct_AL_add l D cI cR cO cB hZ hR2.2.2.2.2.2 (x := iad (j + 128)) (Or.inr (Or.inr ⟨_, by omega, rfl⟩)) (by omega) (fun y hy => Or.inr (Or.inr (his y hy)))) (ff_AL_add hZ.1 hz) (fg_AL_add lk_Rd_25) cw_AL_add nf_AL_add ⟨by dsimp only [jk_rx]; omega, by dsimp only [jk_rx]; omega⟩ rfl hc3 rfl (st := []) rfl (Nat.le_of_ble_eq_true rfl) rd_Rd_lists_33 ⟨by dsimp only [jk_rx]; rw [jS_siz]; omega, by dsimp only [jk_rx]; rw [jS_siz]; omega⟩ (fun v w9 hp10 => ?_)
    obtain ⟨rfl, ow3, a3, f3⟩ := hp10
    have hR3 := hR2.inn f3 a3
    have hW3 := hW2.fr f3 (fun z (hz : z = _) => by omega)
    have F3 : jl_FrP ow M ow3 (jm_lk w9) (jl_T3 r) := ((f1.wide (fun z hz => Or.inl hz)).trans (f2.wide (fun z hz => Or.inr (Or.inl hz)))).trans (f3.wide (fun z hz => Or.inr (Or.inr hz)))
    obtain ⟨M3, hM3⟩ : ∃ M3, M3 = jm_lk w9 := ⟨_, rfl⟩
    rw [← hM3] at hR3 hW3 F3
    have hcd3 := (hW3 c hc).1
    obtain ⟨mc, e, cap, g, l1, l2, l3, l4, l5, l6⟩ := hcd3.2.2.2.2
    refine jk_pop C rd_Rd_lists_38 rfl ?_
    refine jk_aload_n C rd_Rd_lists_39 (k := 1) rfl ?_
    refine jm_getN C hM3.symm in_Cd (ci := 11) rfl 3 (Nat.le_of_ble_eq_true rfl) (jk_nw hZ.1 hz lk_Rd_37) hcd3.1 rfl rd_Rd_lists_40 ?_
    refine jm_callF C (x := ⟨"java/util/List", "iterator", "()Ljava/util/Iterator;"⟩) (q := ("java/util/ArrayList", tb_AL, 3)) (ci := 14) hZ.1.1 hz hM3.symm (ct_AL_iterator l D cI cR cO cB hZ l1) (ff_AL_iterator hZ.1 hz) (fg_AL_iterator lk_Rd_42) cw_AL_iterator nf_AL_iterator ⟨by dsimp only [jk_rx]; omega, by dsimp only [jk_rx]; omega⟩ rfl l1 rfl (st := []) rfl (Nat.le_of_ble_eq_true rfl) rd_Rd_lists_43 ⟨by dsimp only [jk_rx]; rw [jS_siz]; omega, by dsimp only [jk_rx]; rw [jS_siz]; omega⟩ (fun v w11 hp12 => ?_)
    obtain ⟨q, rfl, hqn, hW9⟩ := hp12
    refine jr_astore C rd_Rd_lists_48 (Nat.le_of_ble_eq_true rfl) rfl ?_
    have F4 := jl_FrP.new (ow := ow3) (t := 7) (T := fun _ => False) hW9 hqn
    have hqM : M q = none := by
      cases hm : M q with
      | none => rfl
      | some eq => obtain ⟨-, ⟨e9, h9⟩, -⟩ := F3 q eq hm; rw [hqn] at h9; cases h9
    have hR4 := hR3.fr F4 (fun _ _ z => z)
    have hW4 := hW3.fr F4 (fun _ z => absurd z id)
    have F5 : jl_FrP ow M (fun b => if b = q then 7 else ow3 b) (jm_lk w11) (jl_T3 r) := F3.trans (F4.wide (fun _ z => absurd z id))
    have ht2 : ¬ jl_T3 r (8 * c + 2) := fun z => by rcases z with z | z | z <;> omega
    have ht7 : ¬ jl_T3 r 7 := fun z => by rcases z with z | z | z <;> omega
    obtain ⟨hl1, -, hl1b⟩ := F4 _ _ l1
    refine jk_lv [0, 1, 3, 4] rfl ?_
    have key : ∀ (Q0 : State → Prop) (suf pre : List Nat) (rr : Value) (owi : Nat → Nat) (Mi : jm_M) (ws : va_W) (c0 c1 : Nat), jS_ch S c = pre ++ suf → jm_lk ws = Mi → jl_Rd cO z0 owi Mi r rc ro rd ri cs (os ++ (c :: (pre.flatMap (fun b => jS_fl S d b (k + 1))).map (·.1))) (ds ++ (iad (k + 128) :: (pre.flatMap (fun b => jS_fl S d b (k + 1))).map (fun p => iad (p.2 + 128)))) (is ++ (iad (j + 128) :: (pre.flatMap (fun b => jS_fl S d b (k + 1))).map (fun _ => iad (j + 128)))) → jl_W cI cO z0 owi Mi S P → jl_FrP ow M owi Mi (jl_T3 r) → owi q = 7 → Mi q = some (.inr (15, [jk_V (pre.length : Int), rr, jk_V mc, .ref (jS_bl S c)])) → Mi (jS_bl S c) = some (.inr (14, [jk_V mc, .ref e, jk_V ((jS_ch S c).length : Int)])) → (∀ x, suf.head? = some x → Mi e = some (jm_Q cO cap g)) → owi (jS_bl S c) = 8 * c + 2 → (suf ≠ [] → owi e = 8 * c + 2) → c0 + 4 * (suf.map (fun b => jS_siz S d b)).sum ≤ 4 * jS_siz S (d + 1) c → c1 + 184 * (suf.map (fun b => jS_siz S d b)).sum ≤ 184 * jS_siz S (d + 1) c → (∀ (owi : Nat → Nat) (Mi : jm_M) (ws : va_W) (c0 c1 : Nat), jm_lk ws = Mi → jl_Rd cO z0 owi Mi r rc ro rd ri cs (os ++ (c :: ((jS_ch S c).flatMap (fun b => jS_fl S d b (k + 1))).map (·.1))) (ds ++ (iad (k + 128) :: ((jS_ch S c).flatMap (fun b => jS_fl S d b (k + 1))).map (fun p => iad (p.2 + 128)))) (is ++ (iad (j + 128) :: ((jS_ch S c).flatMap (fun b => jS_fl S d b (k + 1))).map (fun _ => iad (j + 128)))) → jl_FrP ow M owi Mi (jl_T3 r) → c0 ≤ 4 * jS_siz S (d + 1) c → c1 ≤ 184 * jS_siz S (d + 1) c → jk_J p l ev (jk_rx (12 + (d + 1)) (4 * jS_siz S (d + 1) c) (184 * jS_siz S (d + 1) c) (300 + (d + 1) * 25)) s m args below meth cod c0 c1 Q0 D jk_cl (va_A w s.heap.size) 6 ws [(4, .ref q), (0, .ref r), (2, jk_V ((k : Int))), (3, jk_V ((j : Int)))] 85 []) → jk_J p l ev (jk_rx (12 + (d + 1)) (4 * jS_siz S (d + 1) c) (184 * jS_siz S (d + 1) c) (300 + (d + 1) * 25)) s m args below meth cod c0 c1 Q0 D jk_cl (va_A w s.heap.size) 6 ws [(4, .ref q), (0, .ref r), (2, jk_V ((k : Int))), (3, jk_V ((j : Int)))] 50 [] := by
      intro Q0 suf
      induction suf with
      | nil =>
        intro pre rr owi Mi ws c0 c1 hxs hws hRi hWi hFi hoq hq hb he hob hoe hc0 hc1 hex
        have hlen2 := congrArg List.length hxs
        rw [List.append_nil] at hlen2
        refine jk_aload C rd_Rd_lists_50 (k := 0) rfl ?_
        refine jm_callF C (x := ⟨"java/util/Iterator", "hasNext", "()Z"⟩) (q := ("java/util/ArrayList$Itr", tb_It, 4)) (ci := 15) hZ.1.1 hz hws (ct_It_hasNext l D cI cR cO cB hZ hq hb ⟨by omega, by omega⟩ ⟨by omega, by omega⟩) (ff_It_hasNext hZ.1 hz) (fg_It_hasNext lk_Rd_46) cw_It_hasNext nf_It_hasNext ⟨by dsimp only [jk_rx]; omega, by dsimp only [jk_rx]; omega⟩ rfl hq rfl (st := []) rfl (Nat.le_of_ble_eq_true rfl) rd_Rd_lists_52 ⟨by dsimp only [jk_rx]; omega, by dsimp only [jk_rx]; omega⟩ (fun v w101 hp102 => ?_)
        obtain ⟨rfl, hk1⟩ := hp102
        rw [if_pos (by omega : (pre.length : Int) = ((jS_ch S c).length : Int))]
        refine jr_if_eq C rd_Rd_lists_57 (tgt := 85) rfl ⟨by omega, by omega⟩ (fun _ => ?_) (fun hc => absurd rfl hc)
        rw [List.append_nil] at hxs
        rw [← hxs] at hRi
        rw [List.map_nil] at hc0 hc1
        change c0 + 4 * 0 ≤ _ at hc0
        change c1 + 184 * 0 ≤ _ at hc1
        exact hex owi Mi _ _ _ hk1 hRi hFi (by omega) (by omega)
      | cons x suf ihs =>
        intro pre rr owi Mi ws c0 c1 hxs hws hRi hWi hFi hoq hq hb he hob hoe hc0 hc1 hex
        have hlen2 := congrArg List.length hxs
        rw [List.map_cons, List.sum_cons] at hc0 hc1
        rw [List.length_append, List.length_cons] at hlen2
        have hxm : x ∈ jS_ch S c := by rw [hxs]; exact List.mem_append_right _ List.mem_cons_self
        have hPx := (hW c hc).2.2 x hxm
        have hx1 := (hWi x hPx).1.1
        have l7 := he x rfl
        refine jk_aload C rd_Rd_lists_50 (k := 0) rfl ?_
        refine jm_callF C (x := ⟨"java/util/Iterator", "hasNext", "()Z"⟩) (q := ("java/util/ArrayList$Itr", tb_It, 4)) (ci := 15) hZ.1.1 hz hws (ct_It_hasNext l D cI cR cO cB hZ hq hb ⟨by omega, by omega⟩ ⟨by omega, by omega⟩) (ff_It_hasNext hZ.1 hz) (fg_It_hasNext lk_Rd_46) cw_It_hasNext nf_It_hasNext ⟨by dsimp only [jk_rx]; omega, by dsimp only [jk_rx]; omega⟩ rfl hq rfl (st := []) rfl (Nat.le_of_ble_eq_true rfl) rd_Rd_lists_52 ⟨by dsimp only [jk_rx]; omega, by dsimp only [jk_rx]; omega⟩ (fun v w101 hp102 => ?_)
        obtain ⟨rfl, hk1⟩ := hp102
        rw [if_neg (by omega : ¬ (pre.length : Int) = ((jS_ch S c).length : Int))]
        refine jr_if_eq C rd_Rd_lists_57 (tgt := 85) rfl ⟨by omega, by omega⟩ (fun hc => absurd hc (by omega)) (fun _ => ?_)
        refine jk_aload C rd_Rd_lists_60 (k := 0) rfl ?_
        refine jm_callF C (x := ⟨"java/util/Iterator", "next", "()Ljava/lang/Object;"⟩) (q := ("java/util/ArrayList$Itr", tb_It, 4)) (ci := 15) hZ.1.1 hz hk1 (ct_It_next l D cI cR cO cB hZ hq hb l7 (by omega) l4 l5 (x := x) (by rw [l6 _ (by omega), hxs, List.getElem?_append_right (Nat.le_refl _), Nat.sub_self]; rfl)) (ff_It_next hZ.1 hz) (fg_It_next lk_Rd_52) cw_It_next nf_It_next ⟨by dsimp only [jk_rx]; omega, by dsimp only [jk_rx]; omega⟩ rfl hq rfl (st := []) rfl (Nat.le_of_ble_eq_true rfl) rd_Rd_lists_62 ⟨by dsimp only [jk_rx]; omega, by dsimp only [jk_rx]; omega⟩ (fun v w103 hp104 => ?_)
        obtain ⟨rfl, hk2⟩ := hp104
        obtain ⟨M5, hM5⟩ : ∃ M5 : jm_M, M5 = jm_up Mi q (.inr (15, [jk_V ((pre.length : Int) + 1), jk_V (pre.length : Int), jk_V mc, .ref (jS_bl S c)])) := ⟨_, rfl⟩
        rw [← hM5] at hk2
        have G5 := jl_Fr.put (t := 7) hM5 hoq
        have hR5 := hRi.fr G5 (fun jj hj z => by omega)
        have hW5 := hWi.fr G5 (fun z hz => by omega)
        have F5i := hFi.putnew hM5 hqM
        have hx5 := jm_keep hM5 hx1 (jm_nek hx1 hq rfl)
        refine jr_castS C hk2 hx5 (ci := 11) rfl lk_Rd_38 rd_Rd_lists_67 ?_
        refine jr_astore C rd_Rd_lists_70 (Nat.le_of_ble_eq_true rfl) rfl ?_
        refine jk_aload_n C rd_Rd_lists_72 (k := 2) rfl ?_
        refine jk_aload C rd_Rd_lists_73 (k := 0) rfl ?_
        refine jk_iload_n C rd_Rd_lists_75 (k := 3) rfl ?_
        refine jk_iconst C rd_Rd_lists_76 ?_
        refine jk_iadd C rd_Rd_lists_77 ?_
        refine jk_iload_n C rd_Rd_lists_78 (k := 4) rfl ?_
        have hln2 : (jS_fl S d x (k + 1)).length + (pre.flatMap (fun b => jS_fl S d b (k + 1))).length ≤ ((jS_ch S c).map (fun b => jS_siz S d b)).sum := by
          rw [hxs, List.map_append, List.sum_append, List.map_cons, List.sum_cons, jS_fl_len, List.length_flatMap, List.map_congr_left (fun b _ => jS_fl_len d b (k + 1))]; omega
        rw [jS_fl_len] at hln2
        refine jm_callV C hZ.1.1 hz hk2 (ih hW5 hPx (hh x hxm) hR5 (k := k + 1) (j := j) (by omega) hj (by rw [List.length_append, List.length_cons, List.length_map]; omega) (by rw [List.length_append, List.length_append, List.length_cons, List.length_cons, List.length_map, List.length_map, hdl]) (by rw [List.length_append, List.length_append, List.length_cons, List.length_cons, List.length_map, List.length_map, hil]) (jl_memo hc hos (fun p hp => by obtain ⟨y, hy, hp⟩ := List.mem_flatMap.mp hp; exact jS_fl_P (fun x hx => (hW x hx).2.2) d y (k + 1) ((hW c hc).2.2 y (by rw [hxs]; exact List.mem_append_left _ hy)) p hp)) (jl_memi hds (by omega) (fun p hp => jl_fld hp (by omega))) (jl_memj his (by omega))) lk_Rd_56 xw_Rd_lists sw_Rd_lists iw_Rd cw_Rd_lists na_Rd_lists ⟨by dsimp only [jk_rx]; omega, by dsimp only [jk_rx]; omega⟩ rfl hR5.1 rfl rfl (st := []) rfl (Nat.le_of_ble_eq_true rfl) rd_Rd_lists_79 ⟨by dsimp only [jk_rx]; omega, by dsimp only [jk_rx]; omega⟩ (fun v w105 hp106 => ?_)
        obtain ⟨rfl, ow6, hR6, F6⟩ := hp106
        have hW6 := hW5.fr F6 (fun z hz => jl_T3m hz)
        refine jk_goto C rd_Rd_lists_82 (tgt := 50) rfl ?_
        refine jk_lv [1, 2, 3, 4] rfl ?_
        have h5b := jm_keep hM5 hb (jm_nek hb hq rfl)
        have h5e := jm_keep hM5 l7 (jm_nek l7 hq rfl)
        have hoe := hoe (List.cons_ne_nil _ _)
        refine ihs (pre ++ [x]) _ ow6 _ _ _ _ (by rw [hxs, List.append_assoc]; rfl) rfl ?_ hW6 (F5i.trans F6) ((F6 _ _ (jm_this hM5)).1.trans hoq) (by rw [List.length_append]; exact (F6 _ _ (jm_this hM5)).2.2 (by rw [hoq]; exact ht7)) ((F6 _ _ h5b).2.2 (by rw [hob]; exact ht2)) (fun _ _ => (F6 _ _ h5e).2.2 (by rw [hoe]; exact ht2)) ((F6 _ _ h5b).1.trans hob) (fun _ => (F6 _ _ h5e).1.trans hoe) (by omega) (by omega) hex
        rw [List.flatMap_append]
        simpa only [List.map_append, List.append_assoc, List.cons_append, List.flatMap_cons, List.flatMap_nil, List.append_nil] using hR6
    refine key _ (jS_ch S c) [] _ _ _ _ _ _ rfl rfl ?_ hW4 F5 (if_pos rfl) (by rw [hW9]; exact jm_up_s) (hl1b id) (fun x hx => ?_) (hl1.trans l2) (fun hne => ?_) (by rw [jS_siz]; omega) (by rw [jS_siz]; omega) (fun owi Mi ws c0 c1 hws hRi hFi hc0 hc1 => ?_)
    · simpa only [List.flatMap_nil, List.map_nil] using hR4
    · rcases l3 with ⟨z, -⟩ | ⟨-, z, -⟩
      · have h8 := List.length_eq_zero_iff.mp (by omega : (jS_ch S c).length = 0)
        rw [h8] at hx; cases hx
      · exact (F4 _ _ z).2.2 id
    · rcases l3 with ⟨z, -⟩ | ⟨-, z, z2⟩
      · exact absurd (List.length_eq_zero_iff.mp (by omega)) hne
      · exact (F4 _ _ z).1.trans z2
    · refine jm_ret_v C hws ⟨rfl, owi, ?_, hFi⟩ hc0 hc1 rd_Rd_lists_85
      rw [jS_fl]
      exact hRi
end RD1
