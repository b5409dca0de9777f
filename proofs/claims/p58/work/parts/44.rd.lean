/-! the reader: all cords listed -/
def jK_tl (S : jl_S) (K : jl_K) (c : Nat) : List (Nat × Nat) := match jK_tp K c with
  | none => []
  | some t => jS_fl S 3 t 0
def jK_cl (S : jl_S) (K : jl_K) (c : Nat) : List (Nat × Nat) := jK_tl S K c ++ (jK_pd K c).flatMap (fun b => jS_fl S 3 b 1)
/-- all cords: cell, depth, cluster -/
def jK_all (S : jl_S) (K : jl_K) : Nat → List Nat → List (Nat × Nat × Nat)
  | _, [] => []
  | k, c :: cs => (jK_cl S K c).map (fun p => (p.1, p.2, k)) ++ jK_all S K (k + 1) cs
theorem jK_all_app {S : jl_S} {K : jl_K} : ∀ (a b : List Nat) (k : Nat), jK_all S K k (a ++ b) = jK_all S K k a ++ jK_all S K (k + a.length) b := by
  intro a
  induction a with
  | nil => intro b k; rfl
  | cons x a ih =>
    intro b k
    rw [List.cons_append, jK_all, jK_all, ih, List.append_assoc, List.length_cons, show k + (a.length + 1) = k + 1 + a.length by omega]
theorem jK_all_len {S : jl_S} {K : jl_K} : ∀ (a : List Nat) (k : Nat), (jK_all S K k a).length = (a.map (fun c => (jK_cl S K c).length)).sum := by
  intro a
  induction a with
  | nil => intro k; rfl
  | cons x a ih => intro k; rw [jK_all, List.length_append, List.length_map, ih, List.map_cons, List.sum_cons]
def jl_lo (L : List (Nat × Nat × Nat)) : List Nat := L.map (fun p => p.1)
def jl_ld (iad : Nat → Nat) (L : List (Nat × Nat × Nat)) : List Nat := L.map (fun p => iad (p.2.1 + 128))
def jl_li (iad : Nat → Nat) (L : List (Nat × Nat × Nat)) : List Nat := L.map (fun p => iad (p.2.2 + 128))
theorem jl_lo_app (L : List (Nat × Nat × Nat)) (fl : List (Nat × Nat)) (k : Nat) : jl_lo L ++ fl.map (·.1) = jl_lo (L ++ fl.map (fun p => (p.1, p.2, k))) := by
  simp only [jl_lo, List.map_append, List.map_map]
  rfl
theorem jl_ld_app (iad : Nat → Nat) (L : List (Nat × Nat × Nat)) (fl : List (Nat × Nat)) (k : Nat) : jl_ld iad L ++ fl.map (fun p => iad (p.2 + 128)) = jl_ld iad (L ++ fl.map (fun p => (p.1, p.2, k))) := by
  simp only [jl_ld, List.map_append, List.map_map]
  rfl
theorem jl_li_app (iad : Nat → Nat) (L : List (Nat × Nat × Nat)) (fl : List (Nat × Nat)) (k : Nat) : jl_li iad L ++ fl.map (fun _ => iad (k + 128)) = jl_li iad (L ++ fl.map (fun p => (p.1, p.2, k))) := by
  simp only [jl_li, List.map_append, List.map_map]
  rfl
/-- what is said of a listing: its cords are of P, its numbers are small -/
def jl_Lok (P : Nat → Prop) (L : List (Nat × Nat × Nat)) : Prop := ∀ p ∈ L, P p.1 ∧ p.2.1 < 100 ∧ p.2.2 < 100
theorem jl_Lok.app {P : Nat → Prop} {L : List (Nat × Nat × Nat)} {fl : List (Nat × Nat)} {k : Nat} (h : jl_Lok P L) (hf : ∀ p ∈ fl, P p.1 ∧ p.2 < 100) (hk : k < 100) : jl_Lok P (L ++ fl.map (fun p => (p.1, p.2, k))) := by
  intro p hp
  rcases List.mem_append.mp hp with hp | hp
  · exact h p hp
  · obtain ⟨y, hy, rfl⟩ := List.mem_map.mp hp
    exact ⟨(hf y hy).1, (hf y hy).2, hk⟩
theorem jl_Lok.o {P : Nat → Prop} {L : List (Nat × Nat × Nat)} (h : jl_Lok P L) : ∀ y ∈ jl_lo L, P y := by
  intro y hy
  obtain ⟨p, hp, rfl⟩ := List.mem_map.mp hy
  exact (h p hp).1
theorem jl_Lok.d {P : Nat → Prop} {iad : Nat → Nat} {L : List (Nat × Nat × Nat)} (h : jl_Lok P L) : ∀ y ∈ jl_ld iad L, ∃ z, z < 256 ∧ y = iad z := by
  intro y hy
  obtain ⟨p, hp, rfl⟩ := List.mem_map.mp hy
  exact ⟨_, by have := (h p hp).2.1; omega, rfl⟩
theorem jl_Lok.i {P : Nat → Prop} {iad : Nat → Nat} {L : List (Nat × Nat × Nat)} (h : jl_Lok P L) : ∀ y ∈ jl_li iad L, ∃ z, z < 256 ∧ y = iad z := by
  intro y hy
  obtain ⟨p, hp, rfl⟩ := List.mem_map.mp hy
  exact ⟨_, by have := (h p hp).2.2; omega, rfl⟩
theorem jl_lo_len (L : List (Nat × Nat × Nat)) : (jl_lo L).length = L.length := List.length_map _
theorem jl_ld_len (iad : Nat → Nat) (L : List (Nat × Nat × Nat)) : (jl_ld iad L).length = L.length := List.length_map _
theorem jl_li_len (iad : Nat → Nat) (L : List (Nat × Nat × Nat)) : (jl_li iad L).length = L.length := List.length_map _
/-- the clusters of a reader, whole in the world -/
def jl_CS (cO : ClassId) (z0 : Nat) (ow : Nat → Nat) (M : jm_M) (S : jl_S) (K : jl_K) (P : Nat → Prop) (cs : List Nat) : Prop := ∀ c ∈ cs, jl_Cu cO z0 ow M K c ∧ jl_KP S K P c
theorem jl_CS.mono {cO : ClassId} {z0 : Nat} {ow : Nat → Nat} {M M' : jm_M} {S : jl_S} {K : jl_K} {P : Nat → Prop} {cs : List Nat} (h : jl_CS cO z0 ow M S K P cs) (hl : jm_le M M') : jl_CS cO z0 ow M' S K P cs := fun c hc => ⟨(h c hc).1.mono hl, (h c hc).2⟩
theorem jl_CS.fr {cO : ClassId} {z0 : Nat} {ow ow' : Nat → Nat} {M M' : jm_M} {S : jl_S} {K : jl_K} {P T : Nat → Prop} {cs : List Nat} (h : jl_CS cO z0 ow M S K P cs) (hF : jl_FrP ow M ow' M' T) (hT : ∀ z, T z → 3 ≤ z % 8) : jl_CS cO z0 ow' M' S K P cs :=
  fun c hc => ⟨(h c hc).1.fr hF (fun z => by have := hT _ z; omega) (fun z => by have := hT _ z; omega), (h c hc).2⟩
theorem jK_cl_P {S : jl_S} {K : jl_K} {P : Nat → Prop} {c : Nat} (hP : ∀ x, P x → ∀ b ∈ jS_ch S x, P b) (hK : jl_KP S K P c) : ∀ p ∈ jK_cl S K c, P p.1 ∧ p.2 < 100 := by
  intro p hp
  rcases List.mem_append.mp hp with hp | hp
  · unfold jK_tl at hp
    cases ht : jK_tp K c with
    | none => rw [ht] at hp; cases hp
    | some t =>
      rw [ht] at hp
      exact ⟨jS_fl_P hP 3 t 0 (hK.2 t ht).1 p hp, by have := jS_fl_d 3 t 0 p hp; omega⟩
  · obtain ⟨b, hb, hp⟩ := List.mem_flatMap.mp hp
    exact ⟨jS_fl_P hP 3 b 1 (hK.1 b hb).1 p hp, by have := jS_fl_d 3 b 1 p hp; omega⟩
section RD2
variable (l : Launch) (D : va_G) {Z : (Nat → Prop) → State → Heap → Prop} {sq iad : Nat → Nat} {z0 zi mi : Nat} (cI cR cO cB : ClassId)
set_option maxHeartbeats 4000000 in
theorem ct_Rd_listsAll (hZ : jl_ZK Z sq iad z0 zi mi) {S : jl_S} {K : jl_K} {P : Nat → Prop} {ow : Nat → Nat} {M : jm_M} {r rc ro rd ri : Nat} {cs os ds is : List Nat} (hW : jl_W cI cO z0 ow M S P) (hR : jl_Rd cO z0 ow M r rc ro rd ri cs os ds is) (hC : jl_CS cO z0 ow M S K P cs) (hN : (jK_all S K 0 cs).length ≤ 40) (hcs : cs.length ≤ 10) : jm_Met l D jk_cl (jl_ty cI cR cO cB) Z mn_Rd_listsAll (.code mn_Rd_listsAll mb_Rd_listsAll 4 none :: jk_WA) (jk_rx 17 (4 * (jK_all S K 0 cs).length + cs.length) (184 * (jK_all S K 0 cs).length + 4 * cs.length) 400) [.ref r] M (fun v M' => v = none ∧ ∃ ow', jl_Rd cO z0 ow' M' r rc ro rd ri cs (jl_lo (jK_all S K 0 cs)) (jl_ld iad (jK_all S K 0 cs)) (jl_li iad (jK_all S K 0 cs)) ∧ jl_FrP ow M ow' M' (jl_T3 r) ∧ jl_Lok P (jK_all S K 0 cs)) (4 * (jK_all S K 0 cs).length + cs.length) (184 * (jK_all S K 0 cs).length + 4 * cs.length) := by
  refine jm_body (by decide +kernel) (fun p ev s m args below meth cod w hw hz hin C => ?_) (Nat.le_of_ble_eq_true rfl)
  refine jk_aload_n C rd_Rd_listsAll_0 (k := 0) rfl ?_
  refine jm_get C hw in_Rd (ci := 13) rfl 1 (Nat.le_of_ble_eq_true rfl) lk_Rd_16 hR.1 rfl rd_Rd_listsAll_1 ?_
  obtain ⟨mc1, e1, _, _, hc1, -⟩ := id hR.2.2.2.1
  refine jm_callF C (x := ⟨"java/util/List", "clear", "()V"⟩) (q := ("java/util/ArrayList", tb_AL, 3)) (ci := 14) hZ.1.1 hz hw (ct_AL_clear l D cI cR cO cB hZ hR.2.2.2.1) (ff_AL_clear hZ.1 hz) (fg_AL_clear lk_Rd_60) cw_AL_clear nf_AL_clear ⟨by dsimp only [jk_rx]; omega, by dsimp only [jk_rx]; omega⟩ rfl hc1 rfl (st := []) rfl (Nat.le_of_ble_eq_true rfl) rd_Rd_listsAll_4 ⟨by dsimp only [jk_rx]; omega, by dsimp only [jk_rx]; omega⟩ (fun v w1 hp2 => ?_)
  obtain ⟨rfl, a1, f1⟩ := hp2
  have hR1 := hR.ord f1 a1
  have hW1 := hW.fr f1 (fun z (hz : z = _) => by omega)
  have hC1 := hC.fr f1 (fun z (hz : z = _) => by omega)
  refine jk_aload_n C rd_Rd_listsAll_9 (k := 0) rfl ?_
  refine jm_get C (rfl : jm_lk w1 = _) in_Rd (ci := 13) rfl 2 (Nat.le_of_ble_eq_true rfl) lk_Rd_19 hR1.1 rfl rd_Rd_listsAll_10 ?_
  obtain ⟨mc2, e2, _, _, hc2, -⟩ := id hR1.2.2.2.2.1
  refine jm_callF C (x := ⟨"java/util/List", "clear", "()V"⟩) (q := ("java/util/ArrayList", tb_AL, 3)) (ci := 14) hZ.1.1 hz (rfl : jm_lk w1 = _) (ct_AL_clear l D cI cR cO cB hZ hR1.2.2.2.2.1) (ff_AL_clear hZ.1 hz) (fg_AL_clear lk_Rd_60) cw_AL_clear nf_AL_clear ⟨by dsimp only [jk_rx]; omega, by dsimp only [jk_rx]; omega⟩ rfl hc2 rfl (st := []) rfl (Nat.le_of_ble_eq_true rfl) rd_Rd_listsAll_13 ⟨by dsimp only [jk_rx]; omega, by dsimp only [jk_rx]; omega⟩ (fun v w3 hp4 => ?_)
  obtain ⟨rfl, a2, f2⟩ := hp4
  have hR2 := hR1.dep f2 a2
  have hW2 := hW1.fr f2 (fun z (hz : z = _) => by omega)
  have hC2 := hC1.fr f2 (fun z (hz : z = _) => by omega)
  refine jk_aload_n C rd_Rd_listsAll_18 (k := 0) rfl ?_
  refine jm_get C (rfl : jm_lk w3 = _) in_Rd (ci := 13) rfl 3 (Nat.le_of_ble_eq_true rfl) lk_Rd_22 hR2.1 rfl rd_Rd_listsAll_19 ?_
  obtain ⟨mc3, e3, _, _, hc3, -⟩ := id hR2.2.2.2.2.2
  refine jm_callF C (x := ⟨"java/util/List", "clear", "()V"⟩) (q := ("java/util/ArrayList", tb_AL, 3)) (ci := 14) hZ.1.1 hz (rfl : jm_lk w3 = _) (ct_AL_clear l D cI cR cO cB hZ hR2.2.2.2.2.2) (ff_AL_clear hZ.1 hz) (fg_AL_clear lk_Rd_60) cw_AL_clear nf_AL_clear ⟨by dsimp only [jk_rx]; omega, by dsimp only [jk_rx]; omega⟩ rfl hc3 rfl (st := []) rfl (Nat.le_of_ble_eq_true rfl) rd_Rd_listsAll_22 ⟨by dsimp only [jk_rx]; omega, by dsimp only [jk_rx]; omega⟩ (fun v w5 hp6 => ?_)
  obtain ⟨rfl, a3, f3⟩ := hp6
  have hR3 := hR2.inn f3 a3
  have hW3 := hW2.fr f3 (fun z (hz : z = _) => by omega)
  have hC3 := hC2.fr f3 (fun z (hz : z = _) => by omega)
  refine jk_iconst C rd_Rd_listsAll_27 ?_
  refine jk_istore_n C rd_Rd_listsAll_28 (Nat.le_of_ble_eq_true rfl) rfl ?_
  have F3 : jl_FrP ow M ow (jm_lk w5) (jl_T3 r) := ((f1.wide (fun z hz => Or.inl hz)).trans (f2.wide (fun z hz => Or.inr (Or.inl hz)))).trans (f3.wide (fun z hz => Or.inr (Or.inr hz)))
  have hP : ∀ x, P x → ∀ b ∈ jS_ch S x, P b := fun x hx => (hW x hx).2.2
  have key : ∀ (Q0 : State → Prop) (suf pre : List Nat) (owi : Nat → Nat) (Mi : jm_M) (ws : va_W) (c0 c1 : Nat), cs = pre ++ suf → jm_lk ws = Mi → jl_Rd cO z0 owi Mi r rc ro rd ri cs (jl_lo (jK_all S K 0 pre)) (jl_ld iad (jK_all S K 0 pre)) (jl_li iad (jK_all S K 0 pre)) → jl_W cI cO z0 owi Mi S P → jl_CS cO z0 owi Mi S K P cs → jl_FrP ow M owi Mi (jl_T3 r) → jl_Lok P (jK_all S K 0 pre) → c0 + 4 * (suf.map (fun c => (jK_cl S K c).length)).sum + suf.length ≤ 4 * (jK_all S K 0 cs).length + cs.length → c1 + 184 * (suf.map (fun c => (jK_cl S K c).length)).sum + 4 * suf.length ≤ 184 * (jK_all S K 0 cs).length + 4 * cs.length → (∀ (owi : Nat → Nat) (Mi : jm_M) (ws : va_W) (c0 c1 : Nat) (lvx : List (Nat × Value)), jm_lk ws = Mi → jl_Rd cO z0 owi Mi r rc ro rd ri cs (jl_lo (jK_all S K 0 cs)) (jl_ld iad (jK_all S K 0 cs)) (jl_li iad (jK_all S K 0 cs)) → jl_FrP ow M owi Mi (jl_T3 r) → jl_Lok P (jK_all S K 0 cs) → c0 ≤ 4 * (jK_all S K 0 cs).length + cs.length → c1 ≤ 184 * (jK_all S K 0 cs).length + 4 * cs.length → jk_J p l ev (jk_rx 17 (4 * (jK_all S K 0 cs).length + cs.length) (184 * (jK_all S K 0 cs).length + 4 * cs.length) 400) s m args below meth cod c0 c1 Q0 D jk_cl (va_A w s.heap.size) 4 ws lvx 140 []) → jk_J p l ev (jk_rx 17 (4 * (jK_all S K 0 cs).length + cs.length) (184 * (jK_all S K 0 cs).length + 4 * cs.length) 400) s m args below meth cod c0 c1 Q0 D jk_cl (va_A w s.heap.size) 4 ws [(1, jk_V ((pre.length : Int))), (0, .ref r)] 29 [] := by
    intro Q0 suf
    induction suf with
    | nil =>
      intro pre owi Mi ws c0 c1 hxs hws hRi hWi hCi hFi hLi hc0 hc1 hex
      have hlen2 := congrArg List.length hxs
      rw [List.append_nil] at hlen2
      obtain ⟨mcs, es, _, _, hcc, -⟩ := id hRi.2.2.1
      refine jk_iload_n C rd_Rd_listsAll_29 (k := 0) rfl ?_
      refine jk_aload_n C rd_Rd_listsAll_30 (k := 1) rfl ?_
      refine jm_get C hws in_Rd (ci := 13) rfl 0 (Nat.le_of_ble_eq_true rfl) lk_Rd_10 hRi.1 rfl rd_Rd_listsAll_31 ?_
      refine jm_callF C (x := ⟨"java/util/List", "size", "()I"⟩) (q := ("java/util/ArrayList", tb_AL, 3)) (ci := 14) hZ.1.1 hz hws (ct_AL_size l D cI cR cO cB hZ hRi.2.2.1) (ff_AL_size hZ.1 hz) (fg_AL_size lk_Rd_63) cw_AL_size nf_AL_size ⟨by dsimp only [jk_rx]; omega, by dsimp only [jk_rx]; omega⟩ rfl hcc rfl (st := [jk_V ((pre.length : Int))]) rfl (Nat.le_of_ble_eq_true rfl) rd_Rd_listsAll_34 ⟨by dsimp only [jk_rx]; omega, by dsimp only [jk_rx]; omega⟩ (fun v w101 hp102 => ?_)
      obtain ⟨rfl, hk1⟩ := hp102
      refine jr_icmp_ge C rd_Rd_listsAll_39 (tgt := 140) rfl ⟨by omega, by omega⟩ ⟨by omega, by omega⟩ (fun _ => ?_) (fun hc => absurd hc (by omega))
      rw [List.append_nil] at hxs
      rw [← hxs] at hRi hLi
      rw [List.map_nil] at hc0 hc1
      change c0 + 4 * 0 + 0 ≤ _ at hc0
      change c1 + 184 * 0 + 4 * 0 ≤ _ at hc1
      exact hex owi Mi _ _ _ _ hk1 hRi hFi hLi (by omega) (by omega)
    | cons cu suf ihs =>
      intro pre owi Mi ws c0 c1 hxs hws hRi hWi hCi hFi hLi hc0 hc1 hex
      have hlen2 := congrArg List.length hxs
      rw [List.map_cons, List.sum_cons, List.length_cons] at hc0 hc1
      rw [List.length_append, List.length_cons] at hlen2
      have hcm : cu ∈ cs := by rw [hxs]; exact List.mem_append_right _ List.mem_cons_self
      have hg : cs[pre.length]? = some cu := by rw [hxs, List.getElem?_append_right (Nat.le_refl _), Nat.sub_self]; rfl
      have hKP := (hCi cu hcm).2
      have hN2 : (jK_all S K 0 pre).length + (jK_cl S K cu).length ≤ 40 := by
        have h9 := congrArg List.length (congrArg (jK_all S K 0) hxs)
        rw [jK_all_app, List.length_append, jK_all, List.length_append, List.length_map] at h9; omega
      obtain ⟨mcs, es, _, _, hcc, -⟩ := id hRi.2.2.1
      refine jk_iload_n C rd_Rd_listsAll_29 (k := 0) rfl ?_
      refine jk_aload_n C rd_Rd_listsAll_30 (k := 1) rfl ?_
      refine jm_get C hws in_Rd (ci := 13) rfl 0 (Nat.le_of_ble_eq_true rfl) lk_Rd_10 hRi.1 rfl rd_Rd_listsAll_31 ?_
      refine jm_callF C (x := ⟨"java/util/List", "size", "()I"⟩) (q := ("java/util/ArrayList", tb_AL, 3)) (ci := 14) hZ.1.1 hz hws (ct_AL_size l D cI cR cO cB hZ hRi.2.2.1) (ff_AL_size hZ.1 hz) (fg_AL_size lk_Rd_63) cw_AL_size nf_AL_size ⟨by dsimp only [jk_rx]; omega, by dsimp only [jk_rx]; omega⟩ rfl hcc rfl (st := [jk_V ((pre.length : Int))]) rfl (Nat.le_of_ble_eq_true rfl) rd_Rd_listsAll_34 ⟨by dsimp only [jk_rx]; omega, by dsimp only [jk_rx]; omega⟩ (fun v w101 hp102 => ?_)
      obtain ⟨rfl, hk1⟩ := hp102
      refine jr_icmp_ge C rd_Rd_listsAll_39 (tgt := 140) rfl ⟨by omega, by omega⟩ ⟨by omega, by omega⟩ (fun hc => absurd (by omega) hc) (fun _ => ?_)
      have tail83 : ∀ (owb : Nat → Nat) (Mb : jm_M) (ws : va_W) (c0 c1 : Nat), jm_lk ws = Mb → jl_Rd cO z0 owb Mb r rc ro rd ri cs (jl_lo (jK_all S K 0 pre ++ (jK_tl S K cu).map (fun p => (p.1, p.2, pre.length)))) (jl_ld iad (jK_all S K 0 pre ++ (jK_tl S K cu).map (fun p => (p.1, p.2, pre.length)))) (jl_li iad (jK_all S K 0 pre ++ (jK_tl S K cu).map (fun p => (p.1, p.2, pre.length)))) → jl_W cI cO z0 owb Mb S P → jl_CS cO z0 owb Mb S K P cs → jl_FrP ow M owb Mb (jl_T3 r) → c0 + 4 * ((jK_pd K cu).map (fun b => jS_siz S 3 b)).sum + 1 + 4 * (suf.map (fun c => (jK_cl S K c).length)).sum + suf.length ≤ 4 * (jK_all S K 0 cs).length + cs.length → c1 + 184 * ((jK_pd K cu).map (fun b => jS_siz S 3 b)).sum + 4 + 184 * (suf.map (fun c => (jK_cl S K c).length)).sum + 4 * suf.length ≤ 184 * (jK_all S K 0 cs).length + 4 * cs.length → jk_J p l ev (jk_rx 17 (4 * (jK_all S K 0 cs).length + cs.length) (184 * (jK_all S K 0 cs).length + 4 * cs.length) 400) s m args below meth cod c0 c1 Q0 D jk_cl (va_A w s.heap.size) 4 ws [(1, jk_V ((pre.length : Int))), (0, .ref r)] 83 [] := by
        intro owb Mb ws c0 c1 hws hRb hWb hCb hFb hc0 hc1
        have hLT : jl_Lok P (jK_all S K 0 pre ++ (jK_tl S K cu).map (fun p => (p.1, p.2, pre.length))) := hLi.app (fun p hp => jK_cl_P hP hKP p (List.mem_append_left _ hp)) (by omega)
        obtain ⟨mcs, es, _, _, hcc, -⟩ := id hRb.2.2.1
        refine jk_aload_n C rd_Rd_listsAll_83 (k := 1) rfl ?_
        refine jm_get C hws in_Rd (ci := 13) rfl 0 (Nat.le_of_ble_eq_true rfl) lk_Rd_10 hRb.1 rfl rd_Rd_listsAll_84 ?_
        refine jk_iload_n C rd_Rd_listsAll_87 (k := 0) rfl ?_
        refine jm_callF C (x := ⟨"java/util/List", "get", "(I)Ljava/lang/Object;"⟩) (q := ("java/util/ArrayList", tb_AL, 3)) (ci := 14) hZ.1.1 hz hws (ct_AL_get l D cI cR cO cB hZ hRb.2.2.1 hg) (ff_AL_get hZ.1 hz) (fg_AL_get lk_Rd_67) cw_AL_get nf_AL_get ⟨by dsimp only [jk_rx]; omega, by dsimp only [jk_rx]; omega⟩ rfl hcc rfl (st := []) rfl (Nat.le_of_ble_eq_true rfl) rd_Rd_listsAll_88 ⟨by dsimp only [jk_rx]; omega, by dsimp only [jk_rx]; omega⟩ (fun v w201 hp202 => ?_)
        obtain ⟨rfl, hk3⟩ := hp202
        have hCu := (hCb cu hcm).1
        refine jr_castS C hk3 hCu.1 (ci := 12) rfl lk_Rd_71 rd_Rd_listsAll_93 ?_
        refine jm_getN C hk3 in_Cu (ci := 12) rfl 1 (Nat.le_of_ble_eq_true rfl) (jk_nw hZ.1 hz lk_Rd_77) hCu.1 rfl rd_Rd_listsAll_96 ?_
        obtain ⟨mc, e, cap, g, l1, l2, l3, l4, l5, l6⟩ := hCu.2.2
        refine jm_callF C (x := ⟨"java/util/List", "iterator", "()Ljava/util/Iterator;"⟩) (q := ("java/util/ArrayList", tb_AL, 3)) (ci := 14) hZ.1.1 hz hk3 (ct_AL_iterator l D cI cR cO cB hZ l1) (ff_AL_iterator hZ.1 hz) (fg_AL_iterator lk_Rd_42) cw_AL_iterator nf_AL_iterator ⟨by dsimp only [jk_rx]; omega, by dsimp only [jk_rx]; omega⟩ rfl l1 rfl (st := []) rfl (Nat.le_of_ble_eq_true rfl) rd_Rd_listsAll_99 ⟨by dsimp only [jk_rx]; omega, by dsimp only [jk_rx]; omega⟩ (fun v w203 hp204 => ?_)
        obtain ⟨q, rfl, hqn, hW9⟩ := hp204
        refine jr_astore_n C rd_Rd_listsAll_104 (Nat.le_of_ble_eq_true rfl) rfl ?_
        have F4 := jl_FrP.new (ow := owb) (t := 7) (T := fun _ => False) hW9 hqn
        have hR4 := hRb.fr F4 (fun _ _ z => z)
        have hW4 := hWb.fr F4 (fun _ z => absurd z id)
        have hC4 := hCb.fr F4 (fun _ z => absurd z id)
        have hqM : M q = none := by
          cases hm : M q with
          | none => rfl
          | some eq => obtain ⟨-, ⟨e9, h9⟩, -⟩ := hFb q eq hm; rw [hqn] at h9; cases h9
        have F5 : jl_FrP ow M (fun b => if b = q then 7 else owb b) (jm_lk w203) (jl_T3 r) := hFb.trans (F4.wide (fun _ z => absurd z id))
        have ht2 : ¬ jl_T3 r (8 * cu + 2) := fun z => by rcases z with z | z | z <;> omega
        have ht7 : ¬ jl_T3 r 7 := fun z => by rcases z with z | z | z <;> omega
        obtain ⟨hl1, -, hl1b⟩ := F4 _ _ l1
        refine jk_lv [0, 1, 2] rfl ?_
        have keyin : ∀ (su pr : List Nat) (rr : Value) (owi : Nat → Nat) (Mi : jm_M) (ws : va_W) (c0 c1 : Nat), jK_pd K cu = pr ++ su → jm_lk ws = Mi → jl_Rd cO z0 owi Mi r rc ro rd ri cs (jl_lo ((jK_all S K 0 pre ++ (jK_tl S K cu).map (fun p => (p.1, p.2, pre.length))) ++ (pr.flatMap (fun b => jS_fl S 3 b 1)).map (fun p => (p.1, p.2, pre.length)))) (jl_ld iad ((jK_all S K 0 pre ++ (jK_tl S K cu).map (fun p => (p.1, p.2, pre.length))) ++ (pr.flatMap (fun b => jS_fl S 3 b 1)).map (fun p => (p.1, p.2, pre.length)))) (jl_li iad ((jK_all S K 0 pre ++ (jK_tl S K cu).map (fun p => (p.1, p.2, pre.length))) ++ (pr.flatMap (fun b => jS_fl S 3 b 1)).map (fun p => (p.1, p.2, pre.length)))) → jl_W cI cO z0 owi Mi S P → jl_CS cO z0 owi Mi S K P cs → jl_FrP ow M owi Mi (jl_T3 r) → owi q = 7 → Mi q = some (.inr (15, [jk_V (pr.length : Int), rr, jk_V mc, .ref (jK_pl K cu)])) → Mi (jK_pl K cu) = some (.inr (14, [jk_V mc, .ref e, jk_V ((jK_pd K cu).length : Int)])) → (su ≠ [] → Mi e = some (jm_Q cO cap g)) → owi (jK_pl K cu) = 8 * cu + 2 → (su ≠ [] → owi e = 8 * cu + 2) → c0 + 4 * (su.map (fun b => jS_siz S 3 b)).sum + 4 * (suf.map (fun c => (jK_cl S K c).length)).sum + suf.length ≤ 4 * (jK_all S K 0 cs).length + cs.length → c1 + 184 * (su.map (fun b => jS_siz S 3 b)).sum + 184 * (suf.map (fun c => (jK_cl S K c).length)).sum + 4 * suf.length ≤ 184 * (jK_all S K 0 cs).length + 4 * cs.length → jk_J p l ev (jk_rx 17 (4 * (jK_all S K 0 cs).length + cs.length) (184 * (jK_all S K 0 cs).length + 4 * cs.length) 400) s m args below meth cod c0 c1 Q0 D jk_cl (va_A w s.heap.size) 4 ws [(2, .ref q), (1, jk_V ((pre.length : Int))), (0, .ref r)] 105 [] := by
          intro su
          induction su with
          | nil =>
            intro pr rr owi Mi ws c0 c1 hys hws hRi hWi hCi hFi hoq hq hb he hob hoe hc0 hc1
            have hlen3 := congrArg List.length hys
            rw [List.append_nil] at hlen3
            refine jk_aload_n C rd_Rd_listsAll_105 (k := 0) rfl ?_
            refine jm_callF C (x := ⟨"java/util/Iterator", "hasNext", "()Z"⟩) (q := ("java/util/ArrayList$Itr", tb_It, 4)) (ci := 15) hZ.1.1 hz hws (ct_It_hasNext l D cI cR cO cB hZ hq hb ⟨by omega, by omega⟩ ⟨by omega, by omega⟩) (ff_It_hasNext hZ.1 hz) (fg_It_hasNext lk_Rd_46) cw_It_hasNext nf_It_hasNext ⟨by dsimp only [jk_rx]; omega, by dsimp only [jk_rx]; omega⟩ rfl hq rfl (st := []) rfl (Nat.le_of_ble_eq_true rfl) rd_Rd_listsAll_106 ⟨by dsimp only [jk_rx]; omega, by dsimp only [jk_rx]; omega⟩ (fun v w301 hp302 => ?_)
            obtain ⟨rfl, hk1⟩ := hp302
            rw [if_pos (by omega : (pr.length : Int) = ((jK_pd K cu).length : Int))]
            refine jr_if_eq C rd_Rd_listsAll_111 (tgt := 134) rfl ⟨by omega, by omega⟩ (fun _ => ?_) (fun hc => absurd rfl hc)
            refine jk_iinc C rd_Rd_listsAll_134 (k := 1) rfl (Nat.le_of_ble_eq_true rfl) rfl ?_
            refine jk_goto C rd_Rd_listsAll_137 (tgt := 29) rfl ?_
            rw [List.append_nil] at hys
            rw [← hys] at hRi
            rw [List.map_nil, List.sum_nil] at hc0 hc1
            have eA : ((jK_all S K 0 pre ++ (jK_tl S K cu).map (fun p => (p.1, p.2, pre.length))) ++ ((jK_pd K cu).flatMap (fun b => jS_fl S 3 b 1)).map (fun p => (p.1, p.2, pre.length))) = jK_all S K 0 (pre ++ [cu]) := by
              rw [jK_all_app, jK_all, jK_all, List.append_nil, Nat.zero_add, jK_cl, List.map_append, List.append_assoc]
            rw [eA] at hRi
            refine jk_lv [0, 2] rfl ?_
            refine ihs (pre ++ [cu]) owi Mi _ _ _ (by rw [hxs, List.append_assoc]; rfl) hk1 hRi hWi hCi hFi (by rw [← eA]; exact hLT.app (fun p hp => jK_cl_P hP hKP p (List.mem_append_right _ hp)) (by omega)) (by omega) (by omega) hex |> fun z => ?_
            rw [List.length_append] at z
            exact z
          | cons x su ihi =>
            intro pr rr owi Mi ws c0 c1 hys hws hRi hWi hCi hFi hoq hq hb he hob hoe hc0 hc1
            have hlen3 := congrArg List.length hys
            rw [List.map_cons, List.sum_cons] at hc0 hc1
            rw [List.length_append, List.length_cons] at hlen3
            have hxm : x ∈ jK_pd K cu := by rw [hys]; exact List.mem_append_right _ List.mem_cons_self
            have hPx := hKP.1 x hxm
            have hx1 := (hWi x hPx.1).1.1
            have l7 := he (List.cons_ne_nil _ _)
            have hoe := hoe (List.cons_ne_nil _ _)
            refine jk_aload_n C rd_Rd_listsAll_105 (k := 0) rfl ?_
            refine jm_callF C (x := ⟨"java/util/Iterator", "hasNext", "()Z"⟩) (q := ("java/util/ArrayList$Itr", tb_It, 4)) (ci := 15) hZ.1.1 hz hws (ct_It_hasNext l D cI cR cO cB hZ hq hb ⟨by omega, by omega⟩ ⟨by omega, by omega⟩) (ff_It_hasNext hZ.1 hz) (fg_It_hasNext lk_Rd_46) cw_It_hasNext nf_It_hasNext ⟨by dsimp only [jk_rx]; omega, by dsimp only [jk_rx]; omega⟩ rfl hq rfl (st := []) rfl (Nat.le_of_ble_eq_true rfl) rd_Rd_listsAll_106 ⟨by dsimp only [jk_rx]; omega, by dsimp only [jk_rx]; omega⟩ (fun v w301 hp302 => ?_)
            obtain ⟨rfl, hk1⟩ := hp302
            rw [if_neg (by omega : ¬ (pr.length : Int) = ((jK_pd K cu).length : Int))]
            refine jr_if_eq C rd_Rd_listsAll_111 (tgt := 134) rfl ⟨by omega, by omega⟩ (fun hc => absurd hc (by omega)) (fun _ => ?_)
            refine jk_aload_n C rd_Rd_listsAll_114 (k := 0) rfl ?_
            refine jm_callF C (x := ⟨"java/util/Iterator", "next", "()Ljava/lang/Object;"⟩) (q := ("java/util/ArrayList$Itr", tb_It, 4)) (ci := 15) hZ.1.1 hz hk1 (ct_It_next l D cI cR cO cB hZ hq hb l7 (by omega) l4 l5 (x := x) (by rw [l6 _ (by omega), hys, List.getElem?_append_right (Nat.le_refl _), Nat.sub_self]; rfl)) (ff_It_next hZ.1 hz) (fg_It_next lk_Rd_52) cw_It_next nf_It_next ⟨by dsimp only [jk_rx]; omega, by dsimp only [jk_rx]; omega⟩ rfl hq rfl (st := []) rfl (Nat.le_of_ble_eq_true rfl) rd_Rd_listsAll_115 ⟨by dsimp only [jk_rx]; omega, by dsimp only [jk_rx]; omega⟩ (fun v w303 hp304 => ?_)
            obtain ⟨rfl, hk2⟩ := hp304
            obtain ⟨M5, hM5⟩ : ∃ M5 : jm_M, M5 = jm_up Mi q (.inr (15, [jk_V ((pr.length : Int) + 1), jk_V (pr.length : Int), jk_V mc, .ref (jK_pl K cu)])) := ⟨_, rfl⟩
            rw [← hM5] at hk2
            have G5 := jl_Fr.put (t := 7) hM5 hoq
            have hR5 := hRi.fr G5 (fun jj hj z => by omega)
            have hW5 := hWi.fr G5 (fun z hz => by omega)
            have hC5 := hCi.fr G5 (fun z hz => by omega)
            have F5i := hFi.putnew hM5 hqM
            have hx5 := jm_keep hM5 hx1 (jm_nek hx1 hq rfl)
            refine jr_castS C hk2 hx5 (ci := 11) rfl lk_Rd_38 rd_Rd_listsAll_120 ?_
            refine jr_astore_n C rd_Rd_listsAll_123 (Nat.le_of_ble_eq_true rfl) rfl ?_
            refine jk_aload_n C rd_Rd_listsAll_124 (k := 3) rfl ?_
            refine jk_aload_n C rd_Rd_listsAll_125 (k := 0) rfl ?_
            refine jk_iconst C rd_Rd_listsAll_126 ?_
            refine jk_iload_n C rd_Rd_listsAll_127 (k := 2) rfl ?_
            have hLi2 : jl_Lok P ((jK_all S K 0 pre ++ (jK_tl S K cu).map (fun p => (p.1, p.2, pre.length))) ++ (pr.flatMap (fun b => jS_fl S 3 b 1)).map (fun p => (p.1, p.2, pre.length))) := hLT.app (fun p hp => jK_cl_P hP hKP p (List.mem_append_right _ (by rw [hys, List.flatMap_append]; exact List.mem_append_left _ hp))) (by omega)
            have hln2 : (jK_tl S K cu).length + (pr.flatMap (fun b => jS_fl S 3 b 1)).length + jS_siz S 3 x ≤ (jK_cl S K cu).length := by
              rw [jK_cl, List.length_append, hys, List.flatMap_append, List.flatMap_cons, List.length_append, List.length_append, jS_fl_len]; omega
            have hlL : ((jK_all S K 0 pre ++ (jK_tl S K cu).map (fun p => (p.1, p.2, pre.length))) ++ (pr.flatMap (fun b => jS_fl S 3 b 1)).map (fun p => (p.1, p.2, pre.length))).length = (jK_all S K 0 pre).length + (jK_tl S K cu).length + (pr.flatMap (fun b => jS_fl S 3 b 1)).length := by rw [List.length_append, List.length_append, List.length_map, List.length_map]
            refine jm_callV C hZ.1.1 hz hk2 (ct_Rd_lists l D cI cR cO cB hZ 3 hW5 hPx.1 hPx.2 hR5 (k := 1) (j := pre.length) (by omega) (by omega) (by rw [jl_lo_len, hlL]; omega) (by rw [jl_lo_len, jl_ld_len]) (by rw [jl_lo_len, jl_li_len]) hLi2.o hLi2.d hLi2.i) lk_Rd_56 xw_Rd_lists sw_Rd_lists iw_Rd cw_Rd_lists na_Rd_lists ⟨by dsimp only [jk_rx]; omega, by dsimp only [jk_rx]; omega⟩ rfl hR5.1 rfl rfl (st := []) rfl (Nat.le_of_ble_eq_true rfl) rd_Rd_listsAll_128 ⟨by dsimp only [jk_rx]; omega, by dsimp only [jk_rx]; omega⟩ (fun v w305 hp306 => ?_)
            obtain ⟨rfl, ow6, hR6, F6⟩ := hp306
            have hW6 := hW5.fr F6 (fun z hz => jl_T3m hz)
            have hC6 := hC5.fr F6 (fun z hz => jl_T3m hz)
            refine jk_goto C rd_Rd_listsAll_131 (tgt := 105) rfl ?_
            refine jk_lv [1, 2, 3] rfl ?_
            have h5b := jm_keep hM5 hb (jm_nek hb hq rfl)
            have h5e := jm_keep hM5 l7 (jm_nek l7 hq rfl)
            refine ihi (pr ++ [x]) _ ow6 _ _ _ _ (by rw [hys, List.append_assoc]; rfl) rfl ?_ hW6 hC6 (F5i.trans F6) ((F6 _ _ (jm_this hM5)).1.trans hoq) (by rw [List.length_append]; exact (F6 _ _ (jm_this hM5)).2.2 (by rw [hoq]; exact ht7)) ((F6 _ _ h5b).2.2 (by rw [hob]; exact ht2)) (fun _ => (F6 _ _ h5e).2.2 (by rw [hoe]; exact ht2)) ((F6 _ _ h5b).1.trans hob) (fun _ => (F6 _ _ h5e).1.trans hoe) (by omega) (by omega)
            rw [jl_lo_app _ _ pre.length, jl_ld_app _ _ _ pre.length, jl_li_app] at hR6
            rw [List.flatMap_append, List.map_append, ← List.append_assoc]
            simpa only [List.flatMap_cons, List.flatMap_nil, List.append_nil] using hR6
        refine keyin (jK_pd K cu) [] _ _ _ _ _ _ rfl rfl ?_ hW4 hC4 F5 (if_pos rfl) (by rw [hW9]; exact jm_up_s) (hl1b id) (fun hne => ?_) (hl1.trans l2) (fun hne => ?_) (by omega) (by omega)
        · simpa only [List.flatMap_nil, List.map_nil, List.append_nil] using hR4
        · rcases l3 with ⟨z, -⟩ | ⟨-, z, -⟩
          · exact absurd (List.length_eq_zero_iff.mp (by omega)) hne
          · exact (F4 _ _ z).2.2 id
        · rcases l3 with ⟨z, -⟩ | ⟨-, z, z2⟩
          · exact absurd (List.length_eq_zero_iff.mp (by omega)) hne
          · exact (F4 _ _ z).1.trans z2
      have hcl : (jK_cl S K cu).length = (jK_tl S K cu).length + ((jK_pd K cu).map (fun b => jS_siz S 3 b)).sum := by
        rw [jK_cl, List.length_append, List.length_flatMap, List.map_congr_left (fun b _ => jS_fl_len 3 b 1)]
      refine jk_aload_n C rd_Rd_listsAll_42 (k := 1) rfl ?_
      refine jm_get C hk1 in_Rd (ci := 13) rfl 0 (Nat.le_of_ble_eq_true rfl) lk_Rd_10 hRi.1 rfl rd_Rd_listsAll_43 ?_
      refine jk_iload_n C rd_Rd_listsAll_46 (k := 0) rfl ?_
      refine jm_callF C (x := ⟨"java/util/List", "get", "(I)Ljava/lang/Object;"⟩) (q := ("java/util/ArrayList", tb_AL, 3)) (ci := 14) hZ.1.1 hz hk1 (ct_AL_get l D cI cR cO cB hZ hRi.2.2.1 hg) (ff_AL_get hZ.1 hz) (fg_AL_get lk_Rd_67) cw_AL_get nf_AL_get ⟨by dsimp only [jk_rx]; omega, by dsimp only [jk_rx]; omega⟩ rfl hcc rfl (st := []) rfl (Nat.le_of_ble_eq_true rfl) rd_Rd_listsAll_47 ⟨by dsimp only [jk_rx]; omega, by dsimp only [jk_rx]; omega⟩ (fun v w103 hp104 => ?_)
      obtain ⟨rfl, hk3⟩ := hp104
      have hCu := (hCi cu hcm).1
      refine jr_castS C hk3 hCu.1 (ci := 12) rfl lk_Rd_71 rd_Rd_listsAll_52 ?_
      have h1c := hCu.1
      cases ht : jK_tp K cu with
      | none =>
        rw [ht] at h1c
        refine jm_getN C hk3 in_Cu (ci := 12) rfl 0 (Nat.le_of_ble_eq_true rfl) (jk_nw hZ.1 hz lk_Rd_73) h1c rfl rd_Rd_listsAll_55 ?_
        refine jr_ifnullN C rd_Rd_listsAll_58 (tgt := 83) rfl ?_
        have htl : jK_tl S K cu = [] := by unfold jK_tl; rw [ht]
        rw [htl] at hcl
        change _ = 0 + _ at hcl
        refine tail83 owi Mi _ _ _ hk3 ?_ hWi hCi hFi (by omega) (by omega)
        rw [htl, List.map_nil, List.append_nil]
        exact hRi
      | some t =>
        rw [ht] at h1c
        refine jm_getN C hk3 in_Cu (ci := 12) rfl 0 (Nat.le_of_ble_eq_true rfl) (jk_nw hZ.1 hz lk_Rd_73) h1c rfl rd_Rd_listsAll_55 ?_
        refine jr_ifnull C rd_Rd_listsAll_58 ?_
        refine jk_aload_n C rd_Rd_listsAll_61 (k := 1) rfl ?_
        refine jk_aload_n C rd_Rd_listsAll_62 (k := 1) rfl ?_
        refine jm_get C hk3 in_Rd (ci := 13) rfl 0 (Nat.le_of_ble_eq_true rfl) lk_Rd_10 hRi.1 rfl rd_Rd_listsAll_63 ?_
        refine jk_iload_n C rd_Rd_listsAll_66 (k := 0) rfl ?_
        refine jm_callF C (x := ⟨"java/util/List", "get", "(I)Ljava/lang/Object;"⟩) (q := ("java/util/ArrayList", tb_AL, 3)) (ci := 14) hZ.1.1 hz hk3 (ct_AL_get l D cI cR cO cB hZ hRi.2.2.1 hg) (ff_AL_get hZ.1 hz) (fg_AL_get lk_Rd_67) cw_AL_get nf_AL_get ⟨by dsimp only [jk_rx]; omega, by dsimp only [jk_rx]; omega⟩ rfl hcc rfl (st := [.ref r]) rfl (Nat.le_of_ble_eq_true rfl) rd_Rd_listsAll_67 ⟨by dsimp only [jk_rx]; omega, by dsimp only [jk_rx]; omega⟩ (fun v w105 hp106 => ?_)
        obtain ⟨rfl, hk4⟩ := hp106
        refine jr_castS C hk4 hCu.1 (ci := 12) rfl lk_Rd_71 rd_Rd_listsAll_72 ?_
        refine jm_getN C hk4 in_Cu (ci := 12) rfl 0 (Nat.le_of_ble_eq_true rfl) (jk_nw hZ.1 hz lk_Rd_73) h1c rfl rd_Rd_listsAll_75 ?_
        refine jk_iconst C rd_Rd_listsAll_78 ?_
        refine jk_iload_n C rd_Rd_listsAll_79 (k := 0) rfl ?_
        have htl : jK_tl S K cu = jS_fl S 3 t 0 := by unfold jK_tl; rw [ht]
        have hPt := hKP.2 t ht
        rw [htl, jS_fl_len] at hcl
        refine jm_callV C hZ.1.1 hz hk4 (ct_Rd_lists l D cI cR cO cB hZ 3 hWi hPt.1 hPt.2 hRi (k := 0) (j := pre.length) (by omega) (by omega) (by rw [jl_lo_len]; omega) (by rw [jl_lo_len, jl_ld_len]) (by rw [jl_lo_len, jl_li_len]) hLi.o hLi.d hLi.i) lk_Rd_56 xw_Rd_lists sw_Rd_lists iw_Rd cw_Rd_lists na_Rd_lists ⟨by dsimp only [jk_rx]; omega, by dsimp only [jk_rx]; omega⟩ rfl hRi.1 rfl rfl (st := []) rfl (Nat.le_of_ble_eq_true rfl) rd_Rd_listsAll_80 ⟨by dsimp only [jk_rx]; omega, by dsimp only [jk_rx]; omega⟩ (fun v w107 hp108 => ?_)
        obtain ⟨rfl, ow6, hR6, F6⟩ := hp108
        refine tail83 ow6 _ _ _ _ rfl ?_ (hWi.fr F6 (fun z hz => jl_T3m hz)) (hCi.fr F6 (fun z hz => jl_T3m hz)) (hFi.trans F6) (by omega) (by omega)
        rw [jl_lo_app _ _ pre.length, jl_ld_app _ _ _ pre.length, jl_li_app] at hR6
        rw [htl]
        exact hR6
  refine key _ cs [] ow _ _ _ _ rfl rfl hR3 hW3 hC3 F3 (fun p hp => by cases hp) (by rw [← jK_all_len cs 0]; omega) (by rw [← jK_all_len cs 0]; omega) (fun owi Mi ws c0 c1 lvx hws hRi hFi hLi hc0 hc1 => ?_)
  exact jm_ret_v C hws ⟨rfl, owi, hRi, hFi, hLi⟩ hc0 hc1 rd_Rd_listsAll_140
end RD2
