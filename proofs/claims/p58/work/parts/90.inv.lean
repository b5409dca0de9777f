/-! what is kept from act to act: trees, columns, the ring of the past -/
/-- the trees alone -/
def jT (S : jl_S) (K : jl_K) (cs : List Nat) : Prop := (jl_lo (jK_all S K 0 cs)).Nodup ∧ cs.Nodup ∧ 0 < cs.length ∧ (∀ cu ∈ cs, ∀ t, jK_tp K cu = some t → jS_ch S t = []) ∧ (∀ cu ∈ cs, (∀ b ∈ jK_pd K cu, jS_hgt S 3 b) ∧ ∀ t, jK_tp K cu = some t → jS_hgt S 3 t) ∧ (∀ x ∈ jl_lo (jK_all S K 0 cs), x ∉ cs) ∧ jV_d S (fun x => x ∈ jl_lo (jK_all S K 0 cs))
def jN (σ : jk_LS) (S : jl_S) (K : jl_K) (P : Nat → Prop) (cs : List Nat) : Prop := (∃ g, jC (jK_all S K 0 cs) S cs.length (σ.S 11) (σ.S 12) (σ.T 3) (σ.T 4) (σ.T 5) (σ.T 6) (σ.T 7) g) ∧ (σ.S 10 = 2 ∧ (0 ≤ σ.S 18 ∧ σ.S 18 < 8) ∧ (0 ≤ σ.S 19 ∧ σ.S 19 ≤ 8)) ∧ (∀ j, 0 ≤ j → j < 40 → jk_R (σ.T 4 j)) ∧ jT S K cs ∧ ∀ x, P x ↔ x ∈ jl_lo (jK_all S K 0 cs)
section IV
variable {S S' : jl_S} {K K' : jl_K} {P : Nat → Prop} {cs : List Nat}
theorem fm_cg {α β : Type} {f h : α → List β} : ∀ l : List α, (∀ b ∈ l, f b = h b) → l.flatMap f = l.flatMap h := by
  intro l
  induction l with
  | nil => exact fun _ => rfl
  | cons b l ih => intro hl; rw [List.flatMap_cons, List.flatMap_cons, hl b (List.mem_cons_self ..), ih (fun c hc => hl c (List.mem_cons_of_mem _ hc))]
theorem lo_m {L : List (Nat × Nat × Nat)} {x : Nat} : x ∈ jl_lo L ↔ ∃ d c : Nat, (x, d, c) ∈ L := by
  unfold jl_lo
  rw [List.mem_map]
  exact ⟨fun ⟨⟨a, d, c⟩, h1, h2⟩ => ⟨d, c, by rw [← h2]; exact h1⟩, fun ⟨d, c, h⟩ => ⟨_, h, rfl⟩⟩
theorem lo_at {L : List (Nat × Nat × Nat)} {x : Nat} (h : x ∈ jl_lo L) : ∃ k d c : Nat, L[k]? = some (x, d, c) := by
  obtain ⟨d, c, h⟩ := lo_m.mp h
  obtain ⟨k, hk⟩ := List.getElem?_of_mem h
  exact ⟨k, d, c, hk⟩
theorem lo_k {L : List (Nat × Nat × Nat)} {k : Nat} {p : Nat × Nat × Nat} (h : L[k]? = some p) : p.1 ∈ jl_lo L := lo_m.mpr ⟨p.2.1, p.2.2, List.mem_of_getElem? h⟩
theorem lo_app {A B : List (Nat × Nat × Nat)} : jl_lo (A ++ B) = jl_lo A ++ jl_lo B := List.map_append
/-- a cluster's cords are listed -/
theorem all_in {j cu : Nat} {p : Nat × Nat} (hj : cs[j]? = some cu) (hp : p ∈ jK_cl S K cu) : (p.1, p.2, j) ∈ jK_all S K 0 cs := by
  obtain ⟨pre, post, h1, -, -⟩ := all_split (S := S) (K := K) cs 0 j cu hj
  rw [Nat.zero_add] at h1
  rw [h1]
  exact List.mem_append_right _ (List.mem_append_left _ (List.mem_map.mpr ⟨p, hp, rfl⟩))
theorem pd_in {cu b : Nat} (hc : cu ∈ cs) (hb : b ∈ jK_pd K cu) : b ∈ jl_lo (jK_all S K 0 cs) := by
  obtain ⟨j, hj⟩ := List.getElem?_of_mem hc
  have h : (b, 1) ∈ jK_cl S K cu := List.mem_append_right _ (List.mem_flatMap.mpr ⟨b, hb, List.mem_cons_self ..⟩)
  exact lo_m.mpr ⟨1, j, all_in hj h⟩
theorem tp_in {cu t : Nat} (hc : cu ∈ cs) (ht : jK_tp K cu = some t) : t ∈ jl_lo (jK_all S K 0 cs) := by
  obtain ⟨j, hj⟩ := List.getElem?_of_mem hc
  have h : (t, 0) ∈ jK_cl S K cu := List.mem_append_left _ (by unfold jK_tl; rw [ht]; exact List.mem_cons_self ..)
  exact lo_m.mpr ⟨0, j, all_in hj h⟩
/-- what hangs below a listed cord is listed -/
theorem lo_cl (ht : ∀ cu ∈ cs, ∀ t, jK_tp K cu = some t → jS_ch S t = []) (hh : ∀ cu ∈ cs, (∀ b ∈ jK_pd K cu, jS_hgt S 3 b) ∧ ∀ t, jK_tp K cu = some t → jS_hgt S 3 t) {x : Nat} (hx : x ∈ jl_lo (jK_all S K 0 cs)) {b : Nat} (hb : b ∈ jS_ch S x) : b ∈ jl_lo (jK_all S K 0 cs) := by
  obtain ⟨k, d, c, hk⟩ := lo_at hx
  obtain ⟨D', pre, post, h1, -, -, h4, -, -, -, -, h9⟩ := all_at cs 0 k x d c ht hk
  have hg := h4 hh
  obtain ⟨E, rfl⟩ : ∃ E, D' = E + 1 := ⟨D' - 1, by omega⟩
  have hgb : jS_hgt S E b := hg b hb
  obtain ⟨F, rfl⟩ : ∃ F, E = F + 1 := ⟨E - 1, by
    cases E with
    | zero => exact absurd hgb id
    | succ E => omega⟩
  rw [h1]
  refine lo_m.mpr ⟨d + 1, c, List.mem_append_right _ (List.mem_append_left _ (List.mem_map.mpr ⟨(b, d + 1), ?_, rfl⟩))⟩
  exact List.mem_cons_of_mem _ (List.mem_flatMap.mpr ⟨b, hb, List.mem_cons_self ..⟩)
theorem jT.cl (T : jT S K cs) : ∀ x ∈ jl_lo (jK_all S K 0 cs), ∀ b ∈ jS_ch S x, b ∈ jl_lo (jK_all S K 0 cs) := fun _ hx _ hb => lo_cl T.2.2.2.1 T.2.2.2.2.1 hx hb
theorem jN.kp {σ : jk_LS} (h : jN σ S K P cs) : ∀ cu ∈ cs, jl_KP S K P cu := fun cu hc => ⟨fun b hb => ⟨(h.2.2.2.2 b).mpr (pd_in hc hb), (h.2.2.2.1.2.2.2.2.1 cu hc).1 b hb⟩, fun t ht => ⟨(h.2.2.2.2 t).mpr (tp_in hc ht), (h.2.2.2.1.2.2.2.2.1 cu hc).2 t ht⟩⟩
theorem jN.pl {σ : jk_LS} (h : jN σ S K P cs) : ∀ p ∈ jK_all S K 0 cs, P p.1 := fun p hp => (h.2.2.2.2 p.1).mpr (lo_m.mpr ⟨p.2.1, p.2.2, hp⟩)
theorem jN.vd {σ : jk_LS} (h : jN σ S K P cs) : jV_d S P := fun x hx => h.2.2.2.1.2.2.2.2.2.2 x ((h.2.2.2.2 x).mp hx)
theorem jO_base_N : jO_base jN := fun σ S K P cs h => by
  obtain ⟨g, hC⟩ := h.1
  exact jB_of hC h.2.2.2.1.1 h.2.2.2.1.2.2.2.1 h.kp h.2.2.2.1.2.2.1 h.pl h.vd
/-- the listing where what hangs below the cords is the same -/
theorem fl_P (hc : ∀ a, P a → ∀ b ∈ jS_ch S a, P b) (he : ∀ a, P a → jS_ch S' a = jS_ch S a) : ∀ (D a k : Nat), P a → jS_fl S' D a k = jS_fl S D a k := by
  intro D
  induction D with
  | zero => exact fun _ _ _ => rfl
  | succ D ih =>
    intro a k ha
    show (a, k) :: (jS_ch S' a).flatMap (fun b => jS_fl S' D b (k + 1)) = (a, k) :: (jS_ch S a).flatMap (fun b => jS_fl S D b (k + 1))
    rw [he a ha, fm_cg _ (fun b hb => ih b (k + 1) (hc a ha b hb))]
theorem hgt_P (hc : ∀ a, P a → ∀ b ∈ jS_ch S a, P b) (he : ∀ a, P a → jS_ch S' a = jS_ch S a) : ∀ (D a : Nat), P a → jS_hgt S D a → jS_hgt S' D a := by
  intro D
  induction D with
  | zero => exact fun _ _ h => h
  | succ D ih =>
    intro a ha h b hb
    rw [he a ha] at hb
    exact ih b (hc a ha b hb) (h b hb)
theorem cl_P (hc : ∀ a, P a → ∀ b ∈ jS_ch S a, P b) (he : ∀ a, P a → jS_ch S' a = jS_ch S a) {cu : Nat} (h1 : ∀ b ∈ jK_pd K cu, P b) (h2 : ∀ t, jK_tp K cu = some t → P t) : jK_cl S' K cu = jK_cl S K cu := by
  have e1 : jK_tl S' K cu = jK_tl S K cu := by
    unfold jK_tl
    cases h : jK_tp K cu with
    | none => rfl
    | some t => exact fl_P hc he 3 t 0 (h2 t h)
  show jK_tl S' K cu ++ _ = jK_tl S K cu ++ _
  rw [e1, fm_cg _ (fun b hb => fl_P hc he 3 b 1 (h1 b hb))]
theorem all_cg : ∀ (cs : List Nat) (c0 : Nat), (∀ cu ∈ cs, jK_cl S' K' cu = jK_cl S K cu) → jK_all S' K' c0 cs = jK_all S K c0 cs := by
  intro cs
  induction cs with
  | nil => exact fun _ _ => rfl
  | cons u cs ih =>
    intro c0 h
    rw [jK_all, jK_all, h u (List.mem_cons_self ..), ih (c0 + 1) (fun v hv => h v (List.mem_cons_of_mem _ hv))]
/-- one cluster's listing changed -/
theorem all_up : ∀ (cs : List Nat) (c0 j cu : Nat), cs.Nodup → cs[j]? = some cu → (∀ v ∈ cs, v ≠ cu → jK_cl S' K' v = jK_cl S K v) → ∃ pre post, jK_all S K c0 cs = pre ++ ((jK_cl S K cu).map (fun p => (p.1, p.2, c0 + j)) ++ post) ∧ jK_all S' K' c0 cs = pre ++ ((jK_cl S' K' cu).map (fun p => (p.1, p.2, c0 + j)) ++ post) ∧ (∀ p ∈ pre, p.2.2 < c0 + j) ∧ ∀ p ∈ post, c0 + j < p.2.2 := by
  intro cs
  induction cs with
  | nil => intro c0 j cu _ h; rw [List.getElem?_nil] at h; cases h
  | cons u cs ih =>
    intro c0 j cu hnd h hv
    obtain ⟨n1, n2⟩ := List.nodup_cons.mp hnd
    have hd : ∀ (S : jl_S) (K : jl_K), jK_all S K c0 (u :: cs) = (jK_cl S K u).map (fun p => (p.1, p.2, c0)) ++ jK_all S K (c0 + 1) cs := fun _ _ => rfl
    cases j with
    | zero =>
      cases Option.some.inj h
      refine ⟨[], jK_all S K (c0 + 1) cs, hd S K, ?_, fun p hp => absurd hp List.not_mem_nil, fun p hp => ?_⟩
      · rw [hd S' K', all_cg cs (c0 + 1) (fun v hm => hv v (List.mem_cons_of_mem _ hm) (fun z => n1 (z ▸ hm)))]
        rfl
      · obtain ⟨_, _, _, h1, _⟩ := all_mem cs (c0 + 1) p hp
        omega
    | succ j =>
      rw [List.getElem?_cons_succ] at h
      have hm : cu ∈ cs := List.mem_of_getElem? h
      obtain ⟨pre, post, h1, h2, h3, h4⟩ := ih (c0 + 1) j cu n2 h (fun v hv2 => hv v (List.mem_cons_of_mem _ hv2))
      rw [show c0 + 1 + j = c0 + (j + 1) by omega] at h1 h2 h3 h4
      refine ⟨(jK_cl S K u).map (fun p => (p.1, p.2, c0)) ++ pre, post, by rw [hd, h1, List.append_assoc], ?_, fun p hp => ?_, h4⟩
      · rw [hd, h2, List.append_assoc, hv u (List.mem_cons_self ..) (fun z => n1 (z ▸ hm))]
      · rcases List.mem_append.mp hp with hp | hp
        · obtain ⟨q, _, rfl⟩ := List.mem_map.mp hp
          show c0 < _
          omega
        · exact h3 p hp
end IV
/-! the columns under an insertion, a removal, a cell's change -/
section CC
variable {S S' : jl_S} {n : Nat} {cl sz : Int} {st dp tp va nb g : Int → Int}
theorem ins_l {f : Int → Int} {a v s i : Int} (h : i < a) : ins f a v s i = f i := if_pos h
theorem ins_e {f : Int → Int} {a v s i : Int} (h : i = a) : ins f a v s i = v := by unfold ins; rw [if_neg (by omega), if_pos h]
theorem ins_g {f : Int → Int} {a v s i : Int} (h : a < i) (h2 : i ≤ s) : ins f a v s i = f (i - 1) := by unfold ins; rw [if_neg (by omega), if_neg (by omega), if_pos h2]
theorem rem_l {f : Int → Int} {a b s i : Int} (h : i < a) : rem f a b s i = f i := by unfold rem; rw [if_neg (by omega)]
theorem rem_g {f : Int → Int} {a b s i : Int} (h : a ≤ i) (h2 : i < s - (b - a)) : rem f a b s i = f (i + (b - a)) := by unfold rem; rw [if_pos ⟨h, h2⟩]
theorem C_ins {A B : List (Nat × Nat × Nat)} (hC : jC (A ++ B) S n cl sz st dp tp va nb g) {y d c : Nat} {st' : Int → Int} {dv tv vv gv a : Int} (hS : ∀ p ∈ A ++ B, jS_tp S' p.1 = jS_tp S p.1 ∧ jS_kv S' p.1 = jS_kv S p.1 ∧ jS_nb S' p.1 = jS_nb S p.1) (I : pI cl (sz + 1) 2 st' (ins dp a dv sz) (ins tp a tv sz) (ins va a vv sz) (ins nb a 0 sz) (ins g a gv sz)) (ha : a = (A.length : Int)) (h1 : gv = (c : Int)) (h2 : dv = (d : Int)) (h3 : tv = jS_tp S' y) (h4 : vv = jS_kv S' y) (h5 : jS_nb S' y = 0) : jC (A ++ (y, d, c) :: B) S' n cl (sz + 1) st' (ins dp a dv sz) (ins tp a tv sz) (ins va a vv sz) (ins nb a 0 sz) (ins g a gv sz) := by
  obtain ⟨I0, hcl, hsz, hcol⟩ := hC
  rw [List.length_append] at hsz
  refine ⟨I, hcl, by rw [List.length_append, List.length_cons]; omega, fun i p hi => ?_⟩
  have hil := (List.getElem?_eq_some_iff.mp hi).1
  rw [List.length_append, List.length_cons] at hil
  rcases Nat.lt_trichotomy i A.length with h | h | h
  · rw [List.getElem?_append_left h] at hi
    have hi2 : (A ++ B)[i]? = some p := by rw [List.getElem?_append_left h]; exact hi
    obtain ⟨c1, c2, c3, c4, c5⟩ := hcol i p hi2
    obtain ⟨s1, s2, s3⟩ := hS p (List.mem_of_getElem? hi2)
    rw [ins_l (by omega), ins_l (by omega), ins_l (by omega), ins_l (by omega), ins_l (by omega), s1, s2, s3]
    exact ⟨c1, c2, c3, c4, c5⟩
  · rw [List.getElem?_append_right (by omega), h, Nat.sub_self] at hi
    cases Option.some.inj hi
    rw [ins_e (by omega), ins_e (by omega), ins_e (by omega), ins_e (by omega), ins_e (by omega)]
    exact ⟨h1, h2, h3, h4, h5.symm⟩
  · rw [List.getElem?_append_right (by omega), show i - A.length = (i - A.length - 1) + 1 by omega, List.getElem?_cons_succ] at hi
    have hi2 : (A ++ B)[i - 1]? = some p := by rw [List.getElem?_append_right (by omega), show i - 1 - A.length = i - A.length - 1 by omega]; exact hi
    obtain ⟨c1, c2, c3, c4, c5⟩ := hcol (i - 1) p hi2
    obtain ⟨s1, s2, s3⟩ := hS p (List.mem_of_getElem? hi2)
    rw [show ((i - 1 : Nat) : Int) = (i : Int) - 1 by omega] at c1 c2 c3 c4 c5
    rw [ins_g (by omega) (by omega), ins_g (by omega) (by omega), ins_g (by omega) (by omega), ins_g (by omega) (by omega), ins_g (by omega) (by omega), s1, s2, s3]
    exact ⟨c1, c2, c3, c4, c5⟩
theorem C_rem {A B E : List (Nat × Nat × Nat)} (hC : jC (A ++ (B ++ E)) S n cl sz st dp tp va nb g) {st' : Int → Int} {a b : Int} (hS : ∀ p ∈ A ++ E, jS_tp S' p.1 = jS_tp S p.1 ∧ jS_kv S' p.1 = jS_kv S p.1 ∧ jS_nb S' p.1 = jS_nb S p.1) (ha : a = (A.length : Int)) (hb : b = (A.length : Int) + (B.length : Int)) (I : pI cl (sz - (b - a)) 2 st' (rem dp a b sz) (rem tp a b sz) (rem va a b sz) (rem nb a b sz) (rem g a b sz)) : jC (A ++ E) S' n cl (sz - (b - a)) st' (rem dp a b sz) (rem tp a b sz) (rem va a b sz) (rem nb a b sz) (rem g a b sz) := by
  obtain ⟨I0, hcl, hsz, hcol⟩ := hC
  rw [List.length_append, List.length_append] at hsz
  refine ⟨I, hcl, by rw [List.length_append]; omega, fun i p hi => ?_⟩
  have hil := (List.getElem?_eq_some_iff.mp hi).1
  rw [List.length_append] at hil
  obtain ⟨s1, s2, s3⟩ := hS p (List.mem_of_getElem? hi)
  rcases Nat.lt_or_ge i A.length with h | h
  · have hi2 : (A ++ (B ++ E))[i]? = some p := by
      rw [List.getElem?_append_left h] at hi ⊢
      exact hi
    obtain ⟨c1, c2, c3, c4, c5⟩ := hcol i p hi2
    rw [rem_l (by omega), rem_l (by omega), rem_l (by omega), rem_l (by omega), rem_l (by omega), s1, s2, s3]
    exact ⟨c1, c2, c3, c4, c5⟩
  · have hi2 : (A ++ (B ++ E))[i + B.length]? = some p := by
      rw [List.getElem?_append_right h] at hi
      rw [List.getElem?_append_right (by omega), List.getElem?_append_right (by omega), show i + B.length - A.length - B.length = i - A.length by omega]
      exact hi
    obtain ⟨c1, c2, c3, c4, c5⟩ := hcol (i + B.length) p hi2
    rw [show ((i + B.length : Nat) : Int) = (i : Int) + (b - a) by omega] at c1 c2 c3 c4 c5
    rw [rem_g (by omega) (by omega), rem_g (by omega) (by omega), rem_g (by omega) (by omega), rem_g (by omega) (by omega), rem_g (by omega) (by omega), s1, s2, s3]
    exact ⟨c1, c2, c3, c4, c5⟩
theorem w_kv_s {x : Nat} {f : Int → Int} {t b : Int} : jS_kv (jS_w S x f t b) x = jl_kv (fun i => if i < b then 0 else f i) 4 0 := by
  unfold jS_kv
  rw [show jS_nb (jS_w S x f t b) x = b from if_pos rfl, show jS_dg (jS_w S x f t b) x = f from if_pos rfl]
theorem w_kv_o {x y : Nat} {f : Int → Int} {t b : Int} (h : y ≠ x) : jS_kv (jS_w S x f t b) y = jS_kv S y := by
  unfold jS_kv
  rw [show jS_nb (jS_w S x f t b) y = jS_nb S y from if_neg h, show jS_dg (jS_w S x f t b) y = jS_dg S y from if_neg h]
theorem n_kv_s {x k bl : Nat} {f : Int → Int} {t : Int} : jS_kv (jS_n S x k bl f t) x = jl_kv (fun i => if i < 0 then 0 else f i) 4 0 := by
  unfold jS_kv
  rw [show jS_nb (jS_n S x k bl f t) x = 0 from if_pos rfl, show jS_dg (jS_n S x k bl f t) x = f from if_pos rfl]
theorem n_kv_o {x y k bl : Nat} {f : Int → Int} {t : Int} (h : y ≠ x) : jS_kv (jS_n S x k bl f t) y = jS_kv S y := by
  unfold jS_kv
  rw [show jS_nb (jS_n S x k bl f t) y = jS_nb S y from if_neg h, show jS_dg (jS_n S x k bl f t) y = jS_dg S y from if_neg h]
theorem C_w {L : List (Nat × Nat × Nat)} (hC : jC L S n cl sz st dp tp va nb g) (hnd : (jl_lo L).Nodup) {k x d c : Nat} (hk : L[k]? = some (x, d, c)) {f tp' va' nb' : Int → Int} {tx nx : Int} (I : pI cl sz 2 st dp tp' va' nb' g) (e1 : tp' (k : Int) = tx) (e2 : va' (k : Int) = jl_kv (fun i => if i < nx then 0 else f i) 4 0) (e3 : nb' (k : Int) = nx) (o : ∀ j : Int, ¬ j = (k : Int) → tp' j = tp j ∧ va' j = va j ∧ nb' j = nb j) : jC L (jS_w S x f tx nx) n cl sz st dp tp' va' nb' g := by
  obtain ⟨I0, hcl, hsz, hcol⟩ := hC
  refine ⟨I, hcl, hsz, fun i p hi => ?_⟩
  obtain ⟨c1, c2, c3, c4, c5⟩ := hcol i p hi
  by_cases h : i = k
  · subst h
    cases Option.some.inj (hk.symm.trans hi)
    exact ⟨c1, c2, e1.trans (if_pos rfl).symm, e2.trans w_kv_s.symm, e3.trans (if_pos rfl).symm⟩
  · have hne : p.1 ≠ x := fun z => h (lo_inj hnd hi hk z)
    obtain ⟨o1, o2, o3⟩ := o (i : Int) (by omega)
    refine ⟨c1, c2, (o1.trans c3).trans (if_neg hne).symm, ?_, (o3.trans c5).trans (if_neg hne).symm⟩
    rw [o2, c4, w_kv_o hne]
theorem pC_of (I : pI cl sz 2 st dp tp va nb g) (G : ∀ j, 0 ≤ j → j < 40 → jk_R (dp j)) : ∃ w, pC 2 cl sz st dp tp va nb w := by
  refine ⟨fun i => if i = 1 then cl else if i = 2 then sz else if (i - 59) % 5 = 0 then g ((i - 59) / 5) else if (i - 59) % 5 = 1 then dp ((i - 59) / 5) else if (i - 59) % 5 = 2 then tp ((i - 59) / 5) else if (i - 59) % 5 = 3 then va ((i - 59) / 5) else nb ((i - 59) / 5), ⟨g, I, rfl, rfl, fun k h0 h1 => ?_⟩, G⟩
  dsimp only
  refine ⟨?_, ?_, ?_, ?_, ?_⟩
  · rw [if_neg (by omega), if_neg (by omega), if_pos (by omega), show (59 + 5 * k + 0 - 59) / 5 = k by omega]
  · rw [if_neg (by omega), if_neg (by omega), if_neg (by omega), if_pos (by omega), show (59 + 5 * k + 1 - 59) / 5 = k by omega]
  · rw [if_neg (by omega), if_neg (by omega), if_neg (by omega), if_neg (by omega), if_pos (by omega), show (59 + 5 * k + 2 - 59) / 5 = k by omega]
  · rw [if_neg (by omega), if_neg (by omega), if_neg (by omega), if_neg (by omega), if_neg (by omega), if_pos (by omega), show (59 + 5 * k + 3 - 59) / 5 = k by omega]
  · rw [if_neg (by omega), if_neg (by omega), if_neg (by omega), if_neg (by omega), if_neg (by omega), if_neg (by omega), show (59 + 5 * k + 4 - 59) / 5 = k by omega]
end CC
