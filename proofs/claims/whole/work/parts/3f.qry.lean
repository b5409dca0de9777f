/-! the answers: system and reference beside each other -/
/-- the same answer: an exception of the k-th kind of the list where the reference's note is k, else the same number and no note -/
def ag (ls : List Nat) (a : Nat ⊕ Int) (b t : Int) : Prop := match a with
  | .inl k => ∃ j : Nat, ls[j]? = some k ∧ t = (j : Int) + 1
  | .inr v => t = 0 ∧ v = b ∧ jk_R b
theorem sm_fails0 {t c : Int} : fn_Md_fails t 0 c = some (0, t) := by
  unfold fn_Md_fails
  (try simp (disch := omega) only [↓zk_lt, ↓zk_nl, ↓zk_eq, ↓zk_ne, ↓zk_ix, ↓zk_dv, ↓zk_bo, ↓zk_rg, ↓zk_get, ↓zk_set, Option.bind_some])
theorem sm_fails1 {t c : Int} : fn_Md_fails t 1 c = some (1, c) := by
  unfold fn_Md_fails
  (try simp (disch := omega) only [↓zk_lt, ↓zk_nl, ↓zk_eq, ↓zk_ne, ↓zk_ix, ↓zk_dv, ↓zk_bo, ↓zk_rg, ↓zk_get, ↓zk_set, Option.bind_some])
section P6
variable {cl sz tn : Int} {st dp tp va nb g w : Int → Int}
theorem sm_isCord (I : pI cl sz tn st dp tp va nb g) (M : pM cl sz dp tp va nb g w) {x : Int} (hx : jk_R x) : fn_Md_isCord w x = some (if 0 ≤ x ∧ x < sz then 1 else 0) := by
  have hsz := I.1.2.1
  have hw2 := M.2.1
  unfold fn_Md_isCord
  (try simp (disch := omega) only [↓zk_lt, ↓zk_nl, ↓zk_eq, ↓zk_ne, ↓zk_ix, ↓zk_dv, ↓zk_bo, ↓zk_rg, ↓zk_get, ↓zk_set, Option.bind_some])
  rw [zk_bd (sm_inR hx ⟨by omega, by omega⟩ ⟨by omega, by omega⟩)]
  by_cases h : 0 ≤ x ∧ x < sz
  · rw [if_pos (by omega), if_pos h]; (try simp (disch := omega) only [↓zk_lt, ↓zk_nl, ↓zk_eq, ↓zk_ne, ↓zk_ix, ↓zk_dv, ↓zk_bo, ↓zk_rg, ↓zk_get, ↓zk_set, Option.bind_some])
  · rw [if_neg (by omega), if_neg h]; (try simp (disch := omega) only [↓zk_lt, ↓zk_nl, ↓zk_eq, ↓zk_ne, ↓zk_ix, ↓zk_dv, ↓zk_bo, ↓zk_rg, ↓zk_get, ↓zk_set, Option.bind_some])
theorem sm_isCl (I : pI cl sz tn st dp tp va nb g) (M : pM cl sz dp tp va nb g w) {x : Int} (hx : jk_R x) : fn_Md_isCluster w x = some (if 0 ≤ x ∧ x < cl then 1 else 0) := by
  have hcl := I.1.1
  have hw1 := M.1
  unfold fn_Md_isCluster
  (try simp (disch := omega) only [↓zk_lt, ↓zk_nl, ↓zk_eq, ↓zk_ne, ↓zk_ix, ↓zk_dv, ↓zk_bo, ↓zk_rg, ↓zk_get, ↓zk_set, Option.bind_some])
  rw [zk_bd (sm_inR hx ⟨by omega, by omega⟩ ⟨by omega, by omega⟩)]
  by_cases h : 0 ≤ x ∧ x < cl
  · rw [if_pos (by omega), if_pos h]; (try simp (disch := omega) only [↓zk_lt, ↓zk_nl, ↓zk_eq, ↓zk_ne, ↓zk_ix, ↓zk_dv, ↓zk_bo, ↓zk_rg, ↓zk_get, ↓zk_set, Option.bind_some])
  · rw [if_neg (by omega), if_neg h]; (try simp (disch := omega) only [↓zk_lt, ↓zk_nl, ↓zk_eq, ↓zk_ne, ↓zk_ix, ↓zk_dv, ↓zk_bo, ↓zk_rg, ↓zk_get, ↓zk_set, Option.bind_some])
theorem sm_isTo (ht : 0 ≤ tn ∧ tn ≤ 8) (hw0 : w 0 = tn) {x : Int} (hx : jk_R x) : fn_Md_isTopic w x = some (if 0 ≤ x ∧ x < tn then 1 else 0) := by
  unfold fn_Md_isTopic
  (try simp (disch := omega) only [↓zk_lt, ↓zk_nl, ↓zk_eq, ↓zk_ne, ↓zk_ix, ↓zk_dv, ↓zk_bo, ↓zk_rg, ↓zk_get, ↓zk_set, Option.bind_some])
  rw [zk_bd (sm_inR hx ⟨by omega, by omega⟩ ⟨by omega, by omega⟩)]
  by_cases h : 0 ≤ x ∧ x < tn
  · rw [if_pos (by omega), if_pos h]; (try simp (disch := omega) only [↓zk_lt, ↓zk_nl, ↓zk_eq, ↓zk_ne, ↓zk_ix, ↓zk_dv, ↓zk_bo, ↓zk_rg, ↓zk_get, ↓zk_set, Option.bind_some])
  · rw [if_neg (by omega), if_neg h]; (try simp (disch := omega) only [↓zk_lt, ↓zk_nl, ↓zk_eq, ↓zk_ne, ↓zk_ix, ↓zk_dv, ↓zk_bo, ↓zk_rg, ↓zk_get, ↓zk_set, Option.bind_some])
theorem sp_hasT {x : Int} (hs : 0 ≤ tn ∧ tn ≤ 8) (hx : jk_R x) : fn_Topics_has tn x = some (if 0 ≤ x ∧ x < tn then 1 else 0) := by
  have h := hx.1
  have h' := hx.2
  unfold fn_Topics_has
  by_cases h0 : 0 ≤ x
  · by_cases h1 : x < tn
    · (try simp (disch := omega) only [↓zk_lt, ↓zk_nl, ↓zk_eq, ↓zk_ne, ↓zk_ix, ↓zk_dv, ↓zk_bo, ↓zk_rg, ↓zk_get, ↓zk_set, Option.bind_some]); rw [if_pos ⟨h0, h1⟩]
    · (try simp (disch := omega) only [↓zk_lt, ↓zk_nl, ↓zk_eq, ↓zk_ne, ↓zk_ix, ↓zk_dv, ↓zk_bo, ↓zk_rg, ↓zk_get, ↓zk_set, Option.bind_some]); rw [if_neg (by omega)]
  · (try simp (disch := omega) only [↓zk_lt, ↓zk_nl, ↓zk_eq, ↓zk_ne, ↓zk_ix, ↓zk_dv, ↓zk_bo, ↓zk_rg, ↓zk_get, ↓zk_set, Option.bind_some]); rw [if_neg (by omega)]
theorem sm_noCord (I : pI cl sz tn st dp tp va nb g) (M : pM cl sz dp tp va nb g w) {x t : Int} (hx : jk_R x) : fn_Md_noCord w t x = some (if 0 ≤ x ∧ x < sz then (0, t) else (1, 1)) := by
  unfold fn_Md_noCord
  rw [zk_bd (sm_isCord I M hx)]
  by_cases h : 0 ≤ x ∧ x < sz
  · rw [if_pos h, if_pos h]; (try simp (disch := omega) only [↓zk_lt, ↓zk_nl, ↓zk_eq, ↓zk_ne, ↓zk_ix, ↓zk_dv, ↓zk_bo, ↓zk_rg, ↓zk_get, ↓zk_set, Option.bind_some]); rw [zk_bd sm_fails0]; (try simp (disch := omega) only [↓zk_lt, ↓zk_nl, ↓zk_eq, ↓zk_ne, ↓zk_ix, ↓zk_dv, ↓zk_bo, ↓zk_rg, ↓zk_get, ↓zk_set, Option.bind_some])
  · rw [if_neg h, if_neg h]; (try simp (disch := omega) only [↓zk_lt, ↓zk_nl, ↓zk_eq, ↓zk_ne, ↓zk_ix, ↓zk_dv, ↓zk_bo, ↓zk_rg, ↓zk_get, ↓zk_set, Option.bind_some]); rw [zk_bd sm_fails1]; (try simp (disch := omega) only [↓zk_lt, ↓zk_nl, ↓zk_eq, ↓zk_ne, ↓zk_ix, ↓zk_dv, ↓zk_bo, ↓zk_rg, ↓zk_get, ↓zk_set, Option.bind_some])
theorem sm_noCluster (I : pI cl sz tn st dp tp va nb g) (M : pM cl sz dp tp va nb g w) {x t : Int} (hx : jk_R x) : fn_Md_noCluster w t x = some (if 0 ≤ x ∧ x < cl then (0, t) else (1, 1)) := by
  unfold fn_Md_noCluster
  rw [zk_bd (sm_isCl I M hx)]
  by_cases h : 0 ≤ x ∧ x < cl
  · rw [if_pos h, if_pos h]; (try simp (disch := omega) only [↓zk_lt, ↓zk_nl, ↓zk_eq, ↓zk_ne, ↓zk_ix, ↓zk_dv, ↓zk_bo, ↓zk_rg, ↓zk_get, ↓zk_set, Option.bind_some]); rw [zk_bd sm_fails0]; (try simp (disch := omega) only [↓zk_lt, ↓zk_nl, ↓zk_eq, ↓zk_ne, ↓zk_ix, ↓zk_dv, ↓zk_bo, ↓zk_rg, ↓zk_get, ↓zk_set, Option.bind_some])
  · rw [if_neg h, if_neg h]; (try simp (disch := omega) only [↓zk_lt, ↓zk_nl, ↓zk_eq, ↓zk_ne, ↓zk_ix, ↓zk_dv, ↓zk_bo, ↓zk_rg, ↓zk_get, ↓zk_set, Option.bind_some]); rw [zk_bd sm_fails1]; (try simp (disch := omega) only [↓zk_lt, ↓zk_nl, ↓zk_eq, ↓zk_ne, ↓zk_ix, ↓zk_dv, ↓zk_bo, ↓zk_rg, ↓zk_get, ↓zk_set, Option.bind_some])
theorem sm_noTopic (ht : 0 ≤ tn ∧ tn ≤ 8) (hw0 : w 0 = tn) {x t : Int} (hx : jk_R x) : fn_Md_noTopic w t x = some (if 0 ≤ x ∧ x < tn then (0, t) else (1, 1)) := by
  unfold fn_Md_noTopic
  rw [zk_bd (sm_isTo ht hw0 hx)]
  by_cases h : 0 ≤ x ∧ x < tn
  · rw [if_pos h, if_pos h]; (try simp (disch := omega) only [↓zk_lt, ↓zk_nl, ↓zk_eq, ↓zk_ne, ↓zk_ix, ↓zk_dv, ↓zk_bo, ↓zk_rg, ↓zk_get, ↓zk_set, Option.bind_some]); rw [zk_bd sm_fails0]; (try simp (disch := omega) only [↓zk_lt, ↓zk_nl, ↓zk_eq, ↓zk_ne, ↓zk_ix, ↓zk_dv, ↓zk_bo, ↓zk_rg, ↓zk_get, ↓zk_set, Option.bind_some])
  · rw [if_neg h, if_neg h]; (try simp (disch := omega) only [↓zk_lt, ↓zk_nl, ↓zk_eq, ↓zk_ne, ↓zk_ix, ↓zk_dv, ↓zk_bo, ↓zk_rg, ↓zk_get, ↓zk_set, Option.bind_some]); rw [zk_bd sm_fails1]; (try simp (disch := omega) only [↓zk_lt, ↓zk_nl, ↓zk_eq, ↓zk_ne, ↓zk_ix, ↓zk_dv, ↓zk_bo, ↓zk_rg, ↓zk_get, ↓zk_set, Option.bind_some])
theorem sp_reqCord (hs : 0 ≤ sz ∧ sz ≤ 40) {x : Int} (hx : jk_R x) : fn_KR_requireCord sz x = some (if 0 ≤ x ∧ x < sz then .inr () else .inl 1) := by
  unfold fn_KR_requireCord
  rw [zk_bd (sp_has hs hx)]
  by_cases h : 0 ≤ x ∧ x < sz
  · rw [if_pos h, if_pos h]; (try simp (disch := omega) only [↓zk_lt, ↓zk_nl, ↓zk_eq, ↓zk_ne, ↓zk_ix, ↓zk_dv, ↓zk_bo, ↓zk_rg, ↓zk_get, ↓zk_set, Option.bind_some])
  · rw [if_neg h, if_neg h]; (try simp (disch := omega) only [↓zk_lt, ↓zk_nl, ↓zk_eq, ↓zk_ne, ↓zk_ix, ↓zk_dv, ↓zk_bo, ↓zk_rg, ↓zk_get, ↓zk_set, Option.bind_some])
theorem sp_reqCluster (hs : 0 ≤ cl ∧ cl ≤ 6) {x : Int} (hx : jk_R x) : fn_KR_requireCluster cl x = some (if 0 ≤ x ∧ x < cl then .inr () else .inl 1) := by
  unfold fn_KR_requireCluster
  rw [zk_bd (sp_hasC hs hx)]
  by_cases h : 0 ≤ x ∧ x < cl
  · rw [if_pos h, if_pos h]; (try simp (disch := omega) only [↓zk_lt, ↓zk_nl, ↓zk_eq, ↓zk_ne, ↓zk_ix, ↓zk_dv, ↓zk_bo, ↓zk_rg, ↓zk_get, ↓zk_set, Option.bind_some])
  · rw [if_neg h, if_neg h]; (try simp (disch := omega) only [↓zk_lt, ↓zk_nl, ↓zk_eq, ↓zk_ne, ↓zk_ix, ↓zk_dv, ↓zk_bo, ↓zk_rg, ↓zk_get, ↓zk_set, Option.bind_some])
theorem sp_reqTopic (hs : 0 ≤ tn ∧ tn ≤ 8) {x : Int} (hx : jk_R x) : fn_KR_requireTopic tn x = some (if 0 ≤ x ∧ x < tn then .inr () else .inl 1) := by
  unfold fn_KR_requireTopic
  rw [zk_bd (sp_hasT hs hx)]
  by_cases h : 0 ≤ x ∧ x < tn
  · rw [if_pos h, if_pos h]; (try simp (disch := omega) only [↓zk_lt, ↓zk_nl, ↓zk_eq, ↓zk_ne, ↓zk_ix, ↓zk_dv, ↓zk_bo, ↓zk_rg, ↓zk_get, ↓zk_set, Option.bind_some])
  · rw [if_neg h, if_neg h]; (try simp (disch := omega) only [↓zk_lt, ↓zk_nl, ↓zk_eq, ↓zk_ne, ↓zk_ix, ↓zk_dv, ↓zk_bo, ↓zk_rg, ↓zk_get, ↓zk_set, Option.bind_some])
theorem qc (I : pI cl sz tn st dp tp va nb g) (M : pM cl sz dp tp va nb g w) {x : Int} (hx : jk_R x) {F : Option (Nat ⊕ Int)} (G : Int → Option (Int × Int)) {ls : List Nat} (hk : ls[0]? = some 1) (hin : 0 ≤ x → x < sz → ∃ a b t, F = some a ∧ G 0 = some (b, t) ∧ ag ls a b t) :
    ∃ a b t, ((fn_KR_requireCord sz x).bind fun q2 => jk_cx q2 fun _ => F) = some a ∧ ((fn_Md_noCord w 0 x).bind fun q7 => jk_eqs q7.1 0 (G q7.2) (some (0, q7.2))) = some (b, t) ∧ ag ls a b t := by
  rw [zk_bd (sp_reqCord I.1.2.1 hx), zk_bd (sm_noCord I M hx)]
  by_cases h : 0 ≤ x ∧ x < sz
  · rw [if_pos h, if_pos h]
    obtain ⟨a, b, t, h1, h2, h3⟩ := hin h.1 h.2
    refine ⟨a, b, t, h1, ?_, h3⟩
    (try simp (disch := omega) only [↓zk_lt, ↓zk_nl, ↓zk_eq, ↓zk_ne, ↓zk_ix, ↓zk_dv, ↓zk_bo, ↓zk_rg, ↓zk_get, ↓zk_set, Option.bind_some])
    exact h2
  · rw [if_neg h, if_neg h]
    refine ⟨.inl 1, 0, 1, rfl, ?_, 0, hk, rfl⟩
    (try simp (disch := omega) only [↓zk_lt, ↓zk_nl, ↓zk_eq, ↓zk_ne, ↓zk_ix, ↓zk_dv, ↓zk_bo, ↓zk_rg, ↓zk_get, ↓zk_set, Option.bind_some])
theorem ql (I : pI cl sz tn st dp tp va nb g) (M : pM cl sz dp tp va nb g w) {x : Int} (hx : jk_R x) {F : Option (Nat ⊕ Int)} (G : Int → Option (Int × Int)) {ls : List Nat} (hk : ls[0]? = some 1) (hin : 0 ≤ x → x < cl → ∃ a b t, F = some a ∧ G 0 = some (b, t) ∧ ag ls a b t) :
    ∃ a b t, ((fn_KR_requireCluster cl x).bind fun q2 => jk_cx q2 fun _ => F) = some a ∧ ((fn_Md_noCluster w 0 x).bind fun q7 => jk_eqs q7.1 0 (G q7.2) (some (0, q7.2))) = some (b, t) ∧ ag ls a b t := by
  rw [zk_bd (sp_reqCluster I.1.1 hx), zk_bd (sm_noCluster I M hx)]
  by_cases h : 0 ≤ x ∧ x < cl
  · rw [if_pos h, if_pos h]
    obtain ⟨a, b, t, h1, h2, h3⟩ := hin h.1 h.2
    refine ⟨a, b, t, h1, ?_, h3⟩
    (try simp (disch := omega) only [↓zk_lt, ↓zk_nl, ↓zk_eq, ↓zk_ne, ↓zk_ix, ↓zk_dv, ↓zk_bo, ↓zk_rg, ↓zk_get, ↓zk_set, Option.bind_some])
    exact h2
  · rw [if_neg h, if_neg h]
    refine ⟨.inl 1, 0, 1, rfl, ?_, 0, hk, rfl⟩
    (try simp (disch := omega) only [↓zk_lt, ↓zk_nl, ↓zk_eq, ↓zk_ne, ↓zk_ix, ↓zk_dv, ↓zk_bo, ↓zk_rg, ↓zk_get, ↓zk_set, Option.bind_some])
theorem qt (ht : 0 ≤ tn ∧ tn ≤ 8) (hw0 : w 0 = tn) {x : Int} (hx : jk_R x) {F : Option (Nat ⊕ Int)} (G : Int → Option (Int × Int)) {ls : List Nat} (hk : ls[0]? = some 1) (hin : 0 ≤ x → x < tn → ∃ a b t, F = some a ∧ G 0 = some (b, t) ∧ ag ls a b t) :
    ∃ a b t, ((fn_KR_requireTopic tn x).bind fun q2 => jk_cx q2 fun _ => F) = some a ∧ ((fn_Md_noTopic w 0 x).bind fun q7 => jk_eqs q7.1 0 (G q7.2) (some (0, q7.2))) = some (b, t) ∧ ag ls a b t := by
  rw [zk_bd (sp_reqTopic ht hx), zk_bd (sm_noTopic ht hw0 hx)]
  by_cases h : 0 ≤ x ∧ x < tn
  · rw [if_pos h, if_pos h]
    obtain ⟨a, b, t, h1, h2, h3⟩ := hin h.1 h.2
    refine ⟨a, b, t, h1, ?_, h3⟩
    (try simp (disch := omega) only [↓zk_lt, ↓zk_nl, ↓zk_eq, ↓zk_ne, ↓zk_ix, ↓zk_dv, ↓zk_bo, ↓zk_rg, ↓zk_get, ↓zk_set, Option.bind_some])
    exact h2
  · rw [if_neg h, if_neg h]
    refine ⟨.inl 1, 0, 1, rfl, ?_, 0, hk, rfl⟩
    (try simp (disch := omega) only [↓zk_lt, ↓zk_nl, ↓zk_eq, ↓zk_ne, ↓zk_ix, ↓zk_dv, ↓zk_bo, ↓zk_rg, ↓zk_get, ↓zk_set, Option.bind_some])
theorem sm_knots (I : pI cl sz tn st dp tp va nb g) (M : pM cl sz dp tp va nb g w) {k y : Int} (h0 : 0 ≤ k) (h1 : k < sz) (hy0 : 0 ≤ y) (hy : y ≤ 4) : fn_Md_knots w k y = some (va k / pw y % 10) := by
  have hv := (I.2.2 k h0 h1).2.2.2.1
  have hp := pw_pos hy0 hy
  have hd := pw_div hy0 hy hv.1
  unfold fn_Md_knots
  rw [zk_bd (M3 I M h0 h1), zk_bd (sm_power hy0 hy)]
  (try simp (disch := omega) only [↓zk_lt, ↓zk_nl, ↓zk_eq, ↓zk_ne, ↓zk_ix, ↓zk_dv, ↓zk_bo, ↓zk_rg, ↓zk_get, ↓zk_set, Option.bind_some])
theorem sm_cw_b (I : pI cl sz tn st dp tp va nb g) (M : pM cl sz dp tp va nb g w) {d : Int} (hd : jk_R d) : ∀ (n k : Nat) (s i : Int), i + k = sz → 0 ≤ i → 0 ≤ s → s ≤ 1000 - (k : Int) → k < n → fn_Md_cordsWith_b4 n w d s i = some (s + pCt (fun j => decide (tp j = d)) i k) := by
  have hsz := I.1.2.1
  have htn := I.1.2.2
  have hw2 := M.2.1
  have hd1 := hd.1
  have hd2 := hd.2
  intro n
  induction n with
  | zero => intro k s i _ _ _ _ h; omega
  | succ n ih =>
    intro k s i hi h2 hs hs2 hk
    rw [fn_Md_cordsWith_b4]
    cases k with
    | zero => (try simp (disch := omega) only [↓zk_lt, ↓zk_nl, ↓zk_eq, ↓zk_ne, ↓zk_ix, ↓zk_dv, ↓zk_bo, ↓zk_rg, ↓zk_get, ↓zk_set, Option.bind_some]); simp [pCt]
    | succ k =>
      have hv := (I.2.2 i (by omega) (by omega)).2.2.1
      (try simp (disch := omega) only [↓zk_lt, ↓zk_nl, ↓zk_eq, ↓zk_ne, ↓zk_ix, ↓zk_dv, ↓zk_bo, ↓zk_rg, ↓zk_get, ↓zk_set, Option.bind_some])
      rw [zk_bd (M2 I M (k := i) (by omega) (by omega))]
      simp only [pCt]
      by_cases e : tp i = d
      · (try simp (disch := omega) only [↓zk_lt, ↓zk_nl, ↓zk_eq, ↓zk_ne, ↓zk_ix, ↓zk_dv, ↓zk_bo, ↓zk_rg, ↓zk_get, ↓zk_set, Option.bind_some])
        rw [zk_bd sm_one1, ih k _ _ (by omega) (by omega) (by omega) (by omega) (by omega)]
        simp only [e, decide_true, if_true]
        congr 1
        omega
      · (try simp (disch := omega) only [↓zk_lt, ↓zk_nl, ↓zk_eq, ↓zk_ne, ↓zk_ix, ↓zk_dv, ↓zk_bo, ↓zk_rg, ↓zk_get, ↓zk_set, Option.bind_some])
        rw [zk_bd sm_one0, ih k _ _ (by omega) (by omega) (by omega) (by omega) (by omega)]
        simp [e]
theorem sm_cw (I : pI cl sz tn st dp tp va nb g) (M : pM cl sz dp tp va nb g w) {d : Int} (hd : jk_R d) : fn_Md_cordsWith w d = some (pCt (fun j => decide (tp j = d)) 0 sz.toNat) := by
  have hF := jk_F_big
  have hsz := I.1.2.1
  unfold fn_Md_cordsWith
  rw [sm_cw_b I M hd jk_F sz.toNat 0 0 (by omega) (by omega) (by omega) (by omega) (by omega)]
  simp
theorem sp_sot_b (I : pI cl sz tn st dp tp va nb g) {d : Int} (hd : jk_R d) : ∀ (n k : Nat) (s i : Int), i + k = sz → 0 ≤ i → 0 ≤ s → s ≤ 1000000 - 10000 * (k : Int) → k < n → fn_KR_sumOfTopic_b9 n sz dp tp va d s i = some (.inr (s + pSm (fun j => if tp j = d ∧ 0 < dp j then va j else 0) i k)) := by
  have hsz := I.1.2.1
  have htn := I.1.2.2
  have hd1 := hd.1
  have hd2 := hd.2
  intro n
  induction n with
  | zero => intro k s i _ _ _ _ h; omega
  | succ n ih =>
    intro k s i hi h2 hs hs2 hk
    rw [fn_KR_sumOfTopic_b9]
    cases k with
    | zero => (try simp (disch := omega) only [↓zk_lt, ↓zk_nl, ↓zk_eq, ↓zk_ne, ↓zk_ix, ↓zk_dv, ↓zk_bo, ↓zk_rg, ↓zk_get, ↓zk_set, Option.bind_some]); simp [pSm]
    | succ k =>
      obtain ⟨-, c1, c2, c3, -⟩ := I.2.2 i (by omega) (by omega)
      simp only [pSm]
      by_cases e : tp i = d
      · by_cases e2 : 0 < dp i
        · (try simp (disch := omega) only [↓zk_lt, ↓zk_nl, ↓zk_eq, ↓zk_ne, ↓zk_ix, ↓zk_dv, ↓zk_bo, ↓zk_rg, ↓zk_get, ↓zk_set, Option.bind_some])
          rw [ih k _ _ (by omega) (by omega) (by omega) (by omega) (by omega), if_pos ⟨e, e2⟩]
          congr 2
          omega
        · (try simp (disch := omega) only [↓zk_lt, ↓zk_nl, ↓zk_eq, ↓zk_ne, ↓zk_ix, ↓zk_dv, ↓zk_bo, ↓zk_rg, ↓zk_get, ↓zk_set, Option.bind_some])
          rw [ih k _ _ (by omega) (by omega) (by omega) (by omega) (by omega), if_neg (fun z => e2 z.2)]
          congr 2
          omega
      · (try simp (disch := omega) only [↓zk_lt, ↓zk_nl, ↓zk_eq, ↓zk_ne, ↓zk_ix, ↓zk_dv, ↓zk_bo, ↓zk_rg, ↓zk_get, ↓zk_set, Option.bind_some])
        rw [ih k _ _ (by omega) (by omega) (by omega) (by omega) (by omega), if_neg (fun z => e z.1)]
        congr 2
        omega
theorem sm_sot_b (I : pI cl sz tn st dp tp va nb g) (M : pM cl sz dp tp va nb g w) {d : Int} (hd : jk_R d) : ∀ (n k : Nat) (s i : Int), i + k = sz → 0 ≤ i → 0 ≤ s → s ≤ 1000000 - 10000 * (k : Int) → k < n → fn_Md_sumOfTopic_b19 n w 0 d s i = some (s + pSm (fun j => if tp j = d ∧ 0 < dp j then va j else 0) i k, 0) := by
  have hsz := I.1.2.1
  have htn := I.1.2.2
  have hw2 := M.2.1
  have hd1 := hd.1
  have hd2 := hd.2
  intro n
  induction n with
  | zero => intro k s i _ _ _ _ h; omega
  | succ n ih =>
    intro k s i hi h2 hs hs2 hk
    rw [fn_Md_sumOfTopic_b19]
    cases k with
    | zero => (try simp (disch := omega) only [↓zk_lt, ↓zk_nl, ↓zk_eq, ↓zk_ne, ↓zk_ix, ↓zk_dv, ↓zk_bo, ↓zk_rg, ↓zk_get, ↓zk_set, Option.bind_some]); simp [pSm]
    | succ k =>
      obtain ⟨-, c1, c2, c3, -⟩ := I.2.2 i (by omega) (by omega)
      simp only [pSm]
      (try simp (disch := omega) only [↓zk_lt, ↓zk_nl, ↓zk_eq, ↓zk_ne, ↓zk_ix, ↓zk_dv, ↓zk_bo, ↓zk_rg, ↓zk_get, ↓zk_set, Option.bind_some])
      rw [zk_bd (M2 I M (k := i) (by omega) (by omega))]
      by_cases e : tp i = d
      · (try simp (disch := omega) only [↓zk_lt, ↓zk_nl, ↓zk_eq, ↓zk_ne, ↓zk_ix, ↓zk_dv, ↓zk_bo, ↓zk_rg, ↓zk_get, ↓zk_set, Option.bind_some])
        rw [zk_bd (M1 I M (k := i) (by omega) (by omega))]
        by_cases e2 : 0 < dp i
        · (try simp (disch := omega) only [↓zk_lt, ↓zk_nl, ↓zk_eq, ↓zk_ne, ↓zk_ix, ↓zk_dv, ↓zk_bo, ↓zk_rg, ↓zk_get, ↓zk_set, Option.bind_some])
          rw [zk_bd (M3 I M (k := i) (by omega) (by omega)), ih k _ _ (by omega) (by omega) (by omega) (by omega) (by omega), if_pos ⟨e, e2⟩]
          congr 2
          omega
        · (try simp (disch := omega) only [↓zk_lt, ↓zk_nl, ↓zk_eq, ↓zk_ne, ↓zk_ix, ↓zk_dv, ↓zk_bo, ↓zk_rg, ↓zk_get, ↓zk_set, Option.bind_some])
          rw [ih k _ _ (by omega) (by omega) (by omega) (by omega) (by omega), if_neg (fun z => e2 z.2)]
          congr 2
          omega
      · (try simp (disch := omega) only [↓zk_lt, ↓zk_nl, ↓zk_eq, ↓zk_ne, ↓zk_ix, ↓zk_dv, ↓zk_bo, ↓zk_rg, ↓zk_get, ↓zk_set, Option.bind_some])
        rw [ih k _ _ (by omega) (by omega) (by omega) (by omega) (by omega), if_neg (fun z => e z.1)]
        congr 2
        omega
theorem q_isComplete (I : pI cl sz tn st dp tp va nb g) (M : pM cl sz dp tp va nb g w) {th x : Int} (hx : jk_R x) : ∃ a b t, fn_KR_isComplete sz dp nb x = some a ∧ fn_Md_isComplete w th x = some (b, t) ∧ ag [1] a b t ∧ (b = 0 ∨ b = 1) := by
  have hsz := I.1.2.1
  unfold fn_KR_isComplete fn_Md_isComplete
  rw [zk_bd (sp_reqCord hsz hx), zk_bd (sm_noCord I M hx)]
  by_cases h : 0 ≤ x ∧ x < sz
  · obtain ⟨h0, h1⟩ := h
    obtain ⟨⟨b1, b2⟩, -⟩ := be_r I h0 h1
    have hnib := sp_nib (nb := nb) (a := x) (b := be sz dp x) (by omega) (by omega) (by omega) (fun j h2 h3 => (I.2.2 j (by omega) (by omega)).2.2.2.2.1)
    have hn := pCt_r (p := fun j => decide (0 < nb j)) (be sz dp x - x).toNat x
    rw [if_pos ⟨h0, h1⟩, if_pos ⟨h0, h1⟩]
    simp only [jk_cx]
    rw [zk_bd (sp_be I h0 h1), zk_bd hnib]
    (try simp (disch := omega) only [↓zk_lt, ↓zk_nl, ↓zk_eq, ↓zk_ne, ↓zk_ix, ↓zk_dv, ↓zk_bo, ↓zk_rg, ↓zk_get, ↓zk_set, Option.bind_some])
    rw [zk_bd (sm_whole I M h0 h1)]
    by_cases e : pCt (fun j => decide (0 < nb j)) x (be sz dp x - x).toNat = 0
    · rw [if_pos e]
      refine ⟨.inr 1, 1, 0, ?_, ?_, ⟨rfl, rfl, by omega, by omega⟩, Or.inr rfl⟩
      · (try simp (disch := omega) only [↓zk_lt, ↓zk_nl, ↓zk_eq, ↓zk_ne, ↓zk_ix, ↓zk_dv, ↓zk_bo, ↓zk_rg, ↓zk_get, ↓zk_set, Option.bind_some])
      · (try simp (disch := omega) only [↓zk_lt, ↓zk_nl, ↓zk_eq, ↓zk_ne, ↓zk_ix, ↓zk_dv, ↓zk_bo, ↓zk_rg, ↓zk_get, ↓zk_set, Option.bind_some])
    · rw [if_neg e]
      refine ⟨.inr 0, 0, 0, ?_, ?_, ⟨rfl, rfl, by omega, by omega⟩, Or.inl rfl⟩
      · (try simp (disch := omega) only [↓zk_lt, ↓zk_nl, ↓zk_eq, ↓zk_ne, ↓zk_ix, ↓zk_dv, ↓zk_bo, ↓zk_rg, ↓zk_get, ↓zk_set, Option.bind_some])
      · (try simp (disch := omega) only [↓zk_lt, ↓zk_nl, ↓zk_eq, ↓zk_ne, ↓zk_ix, ↓zk_dv, ↓zk_bo, ↓zk_rg, ↓zk_get, ↓zk_set, Option.bind_some])
  · rw [if_neg h, if_neg h]
    refine ⟨.inl 1, 0, 1, rfl, ?_, ⟨0, rfl, rfl⟩, Or.inl rfl⟩
    (try simp (disch := omega) only [↓zk_lt, ↓zk_nl, ↓zk_eq, ↓zk_ne, ↓zk_ix, ↓zk_dv, ↓zk_bo, ↓zk_rg, ↓zk_get, ↓zk_set, Option.bind_some])
theorem q_clusterOf (I : pI cl sz tn st dp tp va nb g) (M : pM cl sz dp tp va nb g w) (hw0 : w 0 = tn) {th x : Int} (hx : jk_R x) : ∃ a b t, fn_KR_clusterOf cl sz st x = some a ∧ fn_Md_clusterOf w th x = some (b, t) ∧ ag [1] a b t := by
  have hcl := I.1.1
  have hsz := I.1.2.1
  have htn := I.1.2.2
  unfold fn_KR_clusterOf fn_Md_clusterOf
  refine qc I M (x := x) hx (fun t => (fn_Md_of w x 0).bind fun q20 => some (q20, t)) rfl (fun h0 h1 => ?_)
  obtain ⟨⟨a1, a2, a3, a4⟩, hd, htp, hv, hb, hvd, -, -⟩ := I.2.2 x h0 h1
  refine ⟨.inr (g x), g x, 0, ?_, ?_, rfl, rfl, by omega, by omega⟩
  · rw [zk_bd (sp_ca I h0 h1)]
  · rw [zk_bd (M0 I M h0 h1)]
theorem q_depthOf (I : pI cl sz tn st dp tp va nb g) (M : pM cl sz dp tp va nb g w) (hw0 : w 0 = tn) {th x : Int} (hx : jk_R x) : ∃ a b t, fn_KR_depthOf sz dp x = some a ∧ fn_Md_depthOf w th x = some (b, t) ∧ ag [1] a b t := by
  have hcl := I.1.1
  have hsz := I.1.2.1
  have htn := I.1.2.2
  unfold fn_KR_depthOf fn_Md_depthOf
  refine qc I M (x := x) hx (fun t => (fn_Md_of w x 1).bind fun q20 => some (q20, t)) rfl (fun h0 h1 => ?_)
  obtain ⟨⟨a1, a2, a3, a4⟩, hd, htp, hv, hb, hvd, -, -⟩ := I.2.2 x h0 h1
  refine ⟨.inr (dp x), dp x, 0, ?_, ?_, rfl, rfl, by omega, by omega⟩
  · (try simp (disch := omega) only [↓zk_lt, ↓zk_nl, ↓zk_eq, ↓zk_ne, ↓zk_ix, ↓zk_dv, ↓zk_bo, ↓zk_rg, ↓zk_get, ↓zk_set, Option.bind_some])
  · rw [zk_bd (M1 I M h0 h1)]
theorem q_topicOf (I : pI cl sz tn st dp tp va nb g) (M : pM cl sz dp tp va nb g w) (hw0 : w 0 = tn) {th x : Int} (hx : jk_R x) : ∃ a b t, fn_KR_topicOf sz tp x = some a ∧ fn_Md_topicOf w th x = some (b, t) ∧ ag [1] a b t := by
  have hcl := I.1.1
  have hsz := I.1.2.1
  have htn := I.1.2.2
  unfold fn_KR_topicOf fn_Md_topicOf
  refine qc I M (x := x) hx (fun t => (fn_Md_of w x 2).bind fun q20 => some (q20, t)) rfl (fun h0 h1 => ?_)
  obtain ⟨⟨a1, a2, a3, a4⟩, hd, htp, hv, hb, hvd, -, -⟩ := I.2.2 x h0 h1
  refine ⟨.inr (tp x), tp x, 0, ?_, ?_, rfl, rfl, by omega, by omega⟩
  · (try simp (disch := omega) only [↓zk_lt, ↓zk_nl, ↓zk_eq, ↓zk_ne, ↓zk_ix, ↓zk_dv, ↓zk_bo, ↓zk_rg, ↓zk_get, ↓zk_set, Option.bind_some])
  · rw [zk_bd (M2 I M h0 h1)]
theorem q_nibbledPlaces (I : pI cl sz tn st dp tp va nb g) (M : pM cl sz dp tp va nb g w) (hw0 : w 0 = tn) {th x : Int} (hx : jk_R x) : ∃ a b t, fn_KR_nibbledPlaces sz nb x = some a ∧ fn_Md_nibbledPlaces w th x = some (b, t) ∧ ag [1] a b t := by
  have hcl := I.1.1
  have hsz := I.1.2.1
  have htn := I.1.2.2
  unfold fn_KR_nibbledPlaces fn_Md_nibbledPlaces
  refine qc I M (x := x) hx (fun t => (fn_Md_of w x 4).bind fun q20 => some (q20, t)) rfl (fun h0 h1 => ?_)
  obtain ⟨⟨a1, a2, a3, a4⟩, hd, htp, hv, hb, hvd, -, -⟩ := I.2.2 x h0 h1
  refine ⟨.inr (nb x), nb x, 0, ?_, ?_, rfl, rfl, by omega, by omega⟩
  · (try simp (disch := omega) only [↓zk_lt, ↓zk_nl, ↓zk_eq, ↓zk_ne, ↓zk_ix, ↓zk_dv, ↓zk_bo, ↓zk_rg, ↓zk_get, ↓zk_set, Option.bind_some])
  · rw [zk_bd (M4 I M h0 h1)]
theorem q_knownValue (I : pI cl sz tn st dp tp va nb g) (M : pM cl sz dp tp va nb g w) (hw0 : w 0 = tn) {th x : Int} (hx : jk_R x) : ∃ a b t, fn_KR_knownValue sz va x = some a ∧ fn_Md_knownValue w th x = some (b, t) ∧ ag [1] a b t := by
  have hcl := I.1.1
  have hsz := I.1.2.1
  have htn := I.1.2.2
  unfold fn_KR_knownValue fn_Md_knownValue
  refine qc I M (x := x) hx (fun t => (fn_Md_of w x 3).bind fun q20 => some (q20, t)) rfl (fun h0 h1 => ?_)
  obtain ⟨⟨a1, a2, a3, a4⟩, hd, htp, hv, hb, hvd, -, -⟩ := I.2.2 x h0 h1
  refine ⟨.inr (va x), va x, 0, ?_, ?_, rfl, rfl, by omega, by omega⟩
  · (try simp (disch := omega) only [↓zk_lt, ↓zk_nl, ↓zk_eq, ↓zk_ne, ↓zk_ix, ↓zk_dv, ↓zk_bo, ↓zk_rg, ↓zk_get, ↓zk_set, Option.bind_some])
  · rw [zk_bd (M3 I M h0 h1)]
theorem q_parentOf (I : pI cl sz tn st dp tp va nb g) (M : pM cl sz dp tp va nb g w) (hw0 : w 0 = tn) {th x : Int} (hx : jk_R x) : ∃ a b t, fn_KR_parentOf sz dp x = some a ∧ fn_Md_parentOf w th x = some (b, t) ∧ ag [1] a b t := by
  have hcl := I.1.1
  have hsz := I.1.2.1
  have htn := I.1.2.2
  unfold fn_KR_parentOf fn_Md_parentOf
  refine qc I M (x := x) hx (fun t => (fn_Md_parent w x).bind fun q19 => some (q19, t)) rfl (fun h0 h1 => ?_)
  obtain ⟨r, h2, h3, h4⟩ := par_both I M h0 h1
  refine ⟨.inr r, r, 0, ?_, ?_, rfl, rfl, h4⟩
  · rw [zk_bd h2]
  · rw [zk_bd h3]
theorem q_subsidiariesOf (I : pI cl sz tn st dp tp va nb g) (M : pM cl sz dp tp va nb g w) (hw0 : w 0 = tn) {th x : Int} (hx : jk_R x) : ∃ a b t, fn_KR_subsidiariesOf sz dp x = some a ∧ fn_Md_subsidiariesOf w th x = some (b, t) ∧ ag [1] a b t := by
  have hcl := I.1.1
  have hsz := I.1.2.1
  have htn := I.1.2.2
  unfold fn_KR_subsidiariesOf fn_Md_subsidiariesOf
  refine qc I M (x := x) hx (fun t => (fn_Md_subsidiaries w x).bind fun q19 => some (q19, t)) rfl (fun h0 h1 => ?_)
  obtain ⟨⟨a1, a2, a3, a4⟩, hd, htp, hv, hb, hvd, -, -⟩ := I.2.2 x h0 h1
  obtain ⟨⟨b1, b2⟩, -⟩ := be_r I h0 h1
  have hr := pCt_r (p := fun j => decide (dp j = dp x + 1)) (be sz dp x - (x + 1)).toNat (x + 1)
  refine ⟨.inr (pCt (fun j => decide (dp j = dp x + 1)) (x + 1) (be sz dp x - (x + 1)).toNat), pCt (fun j => decide (dp j = dp x + 1)) (x + 1) (be sz dp x - (x + 1)).toNat, 0, ?_, ?_, rfl, rfl, ?_⟩
  · rw [zk_bd (sp_be I h0 h1)]
    (try simp (disch := omega) only [↓zk_lt, ↓zk_nl, ↓zk_eq, ↓zk_ne, ↓zk_ix, ↓zk_dv, ↓zk_bo, ↓zk_rg, ↓zk_get, ↓zk_set, Option.bind_some])
    rw [zk_bd (sp_cad (by omega) (by omega) (by omega) (by omega) (fun j h2 h3 => (I.2.2 j (by omega) (by omega)).2.1))]
  · rw [zk_bd (sm_subs I M h0 h1)]
  · constructor <;> omega
theorem q_lowestTotal (I : pI cl sz tn st dp tp va nb g) (M : pM cl sz dp tp va nb g w) (hw0 : w 0 = tn) {th x : Int} (hx : jk_R x) : ∃ a b t, fn_KR_lowestTotal sz dp va x = some a ∧ fn_Md_lowestTotal w th x = some (b, t) ∧ ag [1] a b t := by
  have hcl := I.1.1
  have hsz := I.1.2.1
  have htn := I.1.2.2
  unfold fn_KR_lowestTotal fn_Md_lowestTotal
  refine qc I M (x := x) hx (fun t => (fn_Md_lowest w x).bind fun q19 => some (q19, t)) rfl (fun h0 h1 => ?_)
  obtain ⟨⟨a1, a2, a3, a4⟩, hd, htp, hv, hb, hvd, -, -⟩ := I.2.2 x h0 h1
  obtain ⟨⟨b1, b2⟩, -⟩ := be_r I h0 h1
  have hr := pSm_r (f := va) (B := 9999) (be sz dp x - x).toNat x (fun j h2 h3 => (I.2.2 j (by omega) (by omega)).2.2.2.1)
  refine ⟨.inr (pSm va x (be sz dp x - x).toNat), pSm va x (be sz dp x - x).toNat, 0, ?_, ?_, rfl, rfl, ?_⟩
  · rw [zk_bd (sp_be I h0 h1), zk_bd (sp_low (by omega) (by omega) (by omega) (fun j h2 h3 => (I.2.2 j (by omega) (by omega)).2.2.2.1))]
  · rw [zk_bd (sm_low I M h0 h1)]
  · constructor <;> omega
theorem q_highestTotal (I : pI cl sz tn st dp tp va nb g) (M : pM cl sz dp tp va nb g w) (hw0 : w 0 = tn) {th x : Int} (hx : jk_R x) : ∃ a b t, fn_KR_highestTotal sz dp va nb x = some a ∧ fn_Md_highestTotal w th x = some (b, t) ∧ ag [1] a b t := by
  have hcl := I.1.1
  have hsz := I.1.2.1
  have htn := I.1.2.2
  unfold fn_KR_highestTotal fn_Md_highestTotal
  refine qc I M (x := x) hx (fun t => (fn_Md_highest w x).bind fun q19 => some (q19, t)) rfl (fun h0 h1 => ?_)
  obtain ⟨⟨a1, a2, a3, a4⟩, hd, htp, hv, hb, hvd, -, -⟩ := I.2.2 x h0 h1
  obtain ⟨⟨b1, b2⟩, -⟩ := be_r I h0 h1
  have hr := pSm_r (f := fun j => va j + pw (nb j) - 1) (B := 20000) (be sz dp x - x).toNat x (fun j h2 h3 => by
    obtain ⟨-, -, -, c1, c2, -⟩ := I.2.2 j (by omega) (by omega)
    have := pw_pos c2.1 c2.2
    constructor <;> omega)
  refine ⟨.inr (pSm (fun j => va j + pw (nb j) - 1) x (be sz dp x - x).toNat), pSm (fun j => va j + pw (nb j) - 1) x (be sz dp x - x).toNat, 0, ?_, ?_, rfl, rfl, ?_⟩
  · rw [zk_bd (sp_be I h0 h1), zk_bd (sp_high (by omega) (by omega) (by omega) (fun j h2 h3 => ⟨(I.2.2 j (by omega) (by omega)).2.2.2.1, (I.2.2 j (by omega) (by omega)).2.2.2.2.1⟩))]
  · rw [zk_bd (sm_high I M h0 h1)]
  · constructor <;> omega
theorem q_totalOf (I : pI cl sz tn st dp tp va nb g) (M : pM cl sz dp tp va nb g w) (hw0 : w 0 = tn) {th x : Int} (hx : jk_R x) : ∃ a b t, fn_KR_totalOf sz dp va nb x = some a ∧ fn_Md_totalOf w th x = some (b, t) ∧ ag [1, 4] a b t := by
  have hcl := I.1.1
  have hsz := I.1.2.1
  have htn := I.1.2.2
  unfold fn_KR_totalOf fn_Md_totalOf
  refine qc I M (x := x) hx (fun t => (fn_Md_isWhole w x).bind fun q16 => jk_eqs q16 0 ((fn_Md_fails t 1 2).bind fun q28 => jk_eqs q28.1 0 ((fn_Md_lowest w x).bind fun q38 => some (q38, q28.2)) (some (0, q28.2))) ((fn_Md_fails t 0 2).bind fun q28 => jk_eqs q28.1 0 ((fn_Md_lowest w x).bind fun q38 => some (q38, q28.2)) (some (0, q28.2)))) rfl (fun h0 h1 => ?_)
  obtain ⟨⟨a1, a2, a3, a4⟩, hd, htp, hv, hb, hvd, -, -⟩ := I.2.2 x h0 h1
  obtain ⟨⟨b1, b2⟩, -⟩ := be_r I h0 h1
  have hr := pSm_r (f := va) (B := 9999) (be sz dp x - x).toNat x (fun j h2 h3 => (I.2.2 j (by omega) (by omega)).2.2.2.1)
  have hn := pCt_r (p := fun j => decide (0 < nb j)) (be sz dp x - x).toNat x
  have hnib := sp_nib (nb := nb) (a := x) (b := be sz dp x) (by omega) (by omega) (by omega) (fun j h2 h3 => (I.2.2 j (by omega) (by omega)).2.2.2.2.1)
  rw [zk_bd (sp_be I h0 h1), zk_bd hnib, zk_bd (sm_whole I M h0 h1)]
  by_cases e : pCt (fun j => decide (0 < nb j)) x (be sz dp x - x).toNat = 0
  · rw [if_pos e]
    refine ⟨.inr (pSm va x (be sz dp x - x).toNat), pSm va x (be sz dp x - x).toNat, 0, ?_, ?_, rfl, rfl, by omega, by omega⟩
    · (try simp (disch := omega) only [↓zk_lt, ↓zk_nl, ↓zk_eq, ↓zk_ne, ↓zk_ix, ↓zk_dv, ↓zk_bo, ↓zk_rg, ↓zk_get, ↓zk_set, Option.bind_some])
      rw [zk_bd (sp_low (by omega) (by omega) (by omega) (fun j h2 h3 => (I.2.2 j (by omega) (by omega)).2.2.2.1))]
    · (try simp (disch := omega) only [↓zk_lt, ↓zk_nl, ↓zk_eq, ↓zk_ne, ↓zk_ix, ↓zk_dv, ↓zk_bo, ↓zk_rg, ↓zk_get, ↓zk_set, Option.bind_some])
      rw [zk_bd sm_fails0]
      (try simp (disch := omega) only [↓zk_lt, ↓zk_nl, ↓zk_eq, ↓zk_ne, ↓zk_ix, ↓zk_dv, ↓zk_bo, ↓zk_rg, ↓zk_get, ↓zk_set, Option.bind_some])
      rw [zk_bd (sm_low I M h0 h1)]
  · rw [if_neg e]
    refine ⟨.inl 4, 0, 2, ?_, ?_, 1, rfl, rfl⟩
    · (try simp (disch := omega) only [↓zk_lt, ↓zk_nl, ↓zk_eq, ↓zk_ne, ↓zk_ix, ↓zk_dv, ↓zk_bo, ↓zk_rg, ↓zk_get, ↓zk_set, Option.bind_some])
    · (try simp (disch := omega) only [↓zk_lt, ↓zk_nl, ↓zk_eq, ↓zk_ne, ↓zk_ix, ↓zk_dv, ↓zk_bo, ↓zk_rg, ↓zk_get, ↓zk_set, Option.bind_some])
      rw [zk_bd sm_fails1]
      (try simp (disch := omega) only [↓zk_lt, ↓zk_nl, ↓zk_eq, ↓zk_ne, ↓zk_ix, ↓zk_dv, ↓zk_bo, ↓zk_rg, ↓zk_get, ↓zk_set, Option.bind_some])
theorem q_pendantsIn (I : pI cl sz tn st dp tp va nb g) (M : pM cl sz dp tp va nb g w) (hw0 : w 0 = tn) {th x : Int} (hx : jk_R x) : ∃ a b t, fn_KR_pendantsIn cl st dp x = some a ∧ fn_Md_pendantsIn w th x = some (b, t) ∧ ag [1] a b t := by
  have hcl := I.1.1
  have hsz := I.1.2.1
  have htn := I.1.2.2
  unfold fn_KR_pendantsIn fn_Md_pendantsIn
  refine ql I M (x := x) hx (fun t => (fn_Md_pendants w x).bind fun q19 => some (q19, t)) rfl (fun h0 h1 => ?_)
  have s1 := pI_st I (c := x) h0 (by omega)
  have s2 := pI_st I (c := x + 1) (by omega) (by omega)
  have hm := I.2.1.2.2 x h0 h1
  have hr := pCt_r (p := fun j => decide (dp j = 1)) (st (x + 1) - st x).toNat (st x)
  refine ⟨.inr (pCt (fun j => decide (dp j = 1)) (st x) (st (x + 1) - st x).toNat), pCt (fun j => decide (dp j = 1)) (st x) (st (x + 1) - st x).toNat, 0, ?_, ?_, rfl, rfl, ?_⟩
  · rw [zk_bd (sp_start I h0 (by omega)), zk_bd (sp_end I h0 h1), zk_bd (sp_cad (by omega) (by omega) (by omega) (by omega) (fun j h2 h3 => (I.2.2 j (by omega) (by omega)).2.1))]
  · rw [zk_bd (sm_pen I M h0 h1)]
  · constructor <;> omega
theorem q_cordsIn (I : pI cl sz tn st dp tp va nb g) (M : pM cl sz dp tp va nb g w) (hw0 : w 0 = tn) {th x : Int} (hx : jk_R x) : ∃ a b t, fn_KR_cordsIn cl st x = some a ∧ fn_Md_cordsIn w th x = some (b, t) ∧ ag [1] a b t := by
  have hcl := I.1.1
  have hsz := I.1.2.1
  have htn := I.1.2.2
  unfold fn_KR_cordsIn fn_Md_cordsIn
  refine ql I M (x := x) hx (fun t => (fn_Md_end w x).bind fun q19 => (fn_Md_first w x).bind fun q24 => some (q19 - q24, t)) rfl (fun h0 h1 => ?_)
  have s1 := pI_st I (c := x) h0 (by omega)
  have s2 := pI_st I (c := x + 1) (by omega) (by omega)
  refine ⟨.inr (st (x + 1) - st x), st (x + 1) - st x, 0, ?_, ?_, rfl, rfl, by omega, by omega⟩
  · rw [zk_bd (sp_end I h0 h1), zk_bd (sp_start I h0 (by omega))]
  · rw [zk_bd (sm_end I M h0 h1), zk_bd (sm_first I M h0 (by omega))]
theorem q_topOf (I : pI cl sz tn st dp tp va nb g) (M : pM cl sz dp tp va nb g w) (hw0 : w 0 = tn) {th x : Int} (hx : jk_R x) : ∃ a b t, fn_KR_topOf cl st dp x = some a ∧ fn_Md_topOf w th x = some (b, t) ∧ ag [1] a b t := by
  have hcl := I.1.1
  have hsz := I.1.2.1
  have htn := I.1.2.2
  unfold fn_KR_topOf fn_Md_topOf
  refine ql I M (x := x) hx (fun t => (fn_Md_hasTop w x).bind fun q19 => jk_eqs q19 0 (some ((-1), t)) ((fn_Md_first w x).bind fun q27 => some (q27, t))) rfl (fun h0 h1 => ?_)
  have s1 := pI_st I (c := x) h0 (by omega)
  rw [zk_bd (sp_ht I h0 h1), zk_bd (sm_ht I M h0 h1)]
  rcases ht_r (st := st) (dp := dp) x with e | e <;> rw [e]
  · refine ⟨.inr (-1), -1, 0, ?_, ?_, rfl, rfl, by omega, by omega⟩
    · (try simp (disch := omega) only [↓zk_lt, ↓zk_nl, ↓zk_eq, ↓zk_ne, ↓zk_ix, ↓zk_dv, ↓zk_bo, ↓zk_rg, ↓zk_get, ↓zk_set, Option.bind_some])
    · (try simp (disch := omega) only [↓zk_lt, ↓zk_nl, ↓zk_eq, ↓zk_ne, ↓zk_ix, ↓zk_dv, ↓zk_bo, ↓zk_rg, ↓zk_get, ↓zk_set, Option.bind_some])
  · refine ⟨.inr (st x), st x, 0, ?_, ?_, rfl, rfl, by omega, by omega⟩
    · (try simp (disch := omega) only [↓zk_lt, ↓zk_nl, ↓zk_eq, ↓zk_ne, ↓zk_ix, ↓zk_dv, ↓zk_bo, ↓zk_rg, ↓zk_get, ↓zk_set, Option.bind_some])
      rw [zk_bd (sp_start I h0 (by omega))]
    · (try simp (disch := omega) only [↓zk_lt, ↓zk_nl, ↓zk_eq, ↓zk_ne, ↓zk_ix, ↓zk_dv, ↓zk_bo, ↓zk_rg, ↓zk_get, ↓zk_set, Option.bind_some])
      rw [zk_bd (sm_first I M h0 (by omega))]
theorem q_firstPendant (I : pI cl sz tn st dp tp va nb g) (M : pM cl sz dp tp va nb g w) (hw0 : w 0 = tn) {th x : Int} (hx : jk_R x) : ∃ a b t, fn_KR_firstPendant cl st dp x = some a ∧ fn_Md_firstPendant w th x = some (b, t) ∧ ag [1] a b t := by
  have hcl := I.1.1
  have hsz := I.1.2.1
  have htn := I.1.2.2
  unfold fn_KR_firstPendant fn_Md_firstPendant
  refine ql I M (x := x) hx (fun t => (fn_Md_pendants w x).bind fun q19 => jk_lts 0 q19 ((fn_Md_pendantsFrom w x).bind fun q27 => some (q27, t)) (some ((-1), t))) rfl (fun h0 h1 => ?_)
  have s1 := pI_st I (c := x) h0 (by omega)
  have s2 := pI_st I (c := x + 1) (by omega) (by omega)
  have hm := I.2.1.2.2 x h0 h1
  have hl := ht_le I h0 h1
  have hh := ht_r (st := st) (dp := dp) x
  have hr := pCt_r (p := fun j => decide (dp j = 1)) (st (x + 1) - st x).toNat (st x)
  rw [zk_bd (sp_ps I h0 h1), zk_bd (sp_end I h0 h1), zk_bd (sm_pen I M h0 h1)]
  by_cases e : st x + ht st dp x < st (x + 1)
  · have hpos : 0 < pCt (fun j => decide (dp j = 1)) (st x) (st (x + 1) - st x).toNat := by
      by_cases z : pCt (fun j => decide (dp j = 1)) (st x) (st (x + 1) - st x).toNat = 0
      · have h2 := pCt_0 _ _ z (st x + ht st dp x) (by omega) (by omega)
        have h3 := of_decide_eq_false h2
        have hg := pI_g I (c := x) (k := st x + ht st dp x) h0 h1 (by omega) (by omega)
        obtain ⟨-, c1, -, -, -, -, c2, c3⟩ := I.2.2 (st x + ht st dp x) (by omega) (by omega)
        rw [hg] at c2 c3
        rcases hh with y | y
        · rw [y] at h3 c1 c2 c3
          simp only [Int.add_zero] at h3 c1 c2 c3
          have := c2 trivial
          have e9 : st x < st (x + 1) := by omega
          have h4 : ¬ dp (st x) = 0 := fun q => by
            unfold ht at y
            rw [if_pos ⟨e9, q⟩] at y
            omega
          omega
        · have h5 := ht_1 y
          rw [y] at h3 c1 c2 c3
          have h6 := c3 (by omega)
          rw [show st x + 1 - 1 = st x by omega] at h6
          omega
      · omega
    refine ⟨.inr (st x + ht st dp x), st x + ht st dp x, 0, ?_, ?_, rfl, rfl, by omega, by omega⟩
    · (try simp (disch := omega) only [↓zk_lt, ↓zk_nl, ↓zk_eq, ↓zk_ne, ↓zk_ix, ↓zk_dv, ↓zk_bo, ↓zk_rg, ↓zk_get, ↓zk_set, Option.bind_some])
    · (try simp (disch := omega) only [↓zk_lt, ↓zk_nl, ↓zk_eq, ↓zk_ne, ↓zk_ix, ↓zk_dv, ↓zk_bo, ↓zk_rg, ↓zk_get, ↓zk_set, Option.bind_some])
      rw [zk_bd (sm_pf I M h0 h1)]
  · have hz : pCt (fun j => decide (dp j = 1)) (st x) (st (x + 1) - st x).toNat = 0 := by
      refine pCt_z _ _ (fun j h2 h3 => ?_)
      rcases hh with y | y
      · omega
      · have h5 := ht_1 y
        rw [show j = st x by omega, h5.2]
        rfl
    refine ⟨.inr (-1), -1, 0, ?_, ?_, rfl, rfl, by omega, by omega⟩
    · (try simp (disch := omega) only [↓zk_lt, ↓zk_nl, ↓zk_eq, ↓zk_ne, ↓zk_ix, ↓zk_dv, ↓zk_bo, ↓zk_rg, ↓zk_get, ↓zk_set, Option.bind_some])
    · (try simp (disch := omega) only [↓zk_lt, ↓zk_nl, ↓zk_eq, ↓zk_ne, ↓zk_ix, ↓zk_dv, ↓zk_bo, ↓zk_rg, ↓zk_get, ↓zk_set, Option.bind_some])
theorem q_stateOf (I : pI cl sz tn st dp tp va nb g) (M : pM cl sz dp tp va nb g w) (hw0 : w 0 = tn) {th x : Int} (hx : jk_R x) : ∃ a b t, fn_KR_stateOf cl st dp va nb x = some a ∧ fn_Md_stateOf w th x = some (b, t) ∧ ag [1] a b t := by
  have hcl := I.1.1
  have hsz := I.1.2.1
  have htn := I.1.2.2
  unfold fn_KR_stateOf fn_Md_stateOf
  refine ql I M (x := x) hx (fun t => (fn_Md_state w x).bind fun q19 => some (q19, t)) rfl (fun h0 h1 => ?_)
  have hr := kst_r (st := st) (dp := dp) (va := va) (nb := nb) (c := x)
  refine ⟨.inr (kst st dp va nb x), kst st dp va nb x, 0, ?_, ?_, rfl, rfl, by omega, by omega⟩
  · rw [zk_bd (sp_state I h0 h1)]
  · rw [zk_bd (sm_state I M h0 h1)]
theorem q_guessObstacle (I : pI cl sz tn st dp tp va nb g) (M : pM cl sz dp tp va nb g w) (hw0 : w 0 = tn) {th x : Int} (hx : jk_R x) : ∃ a b t, fn_KR_guessObstacle cl st dp va nb x = some a ∧ fn_Md_guessObstacle w th x = some (b, t) ∧ ag [1] a b t := by
  have hcl := I.1.1
  have hsz := I.1.2.1
  have htn := I.1.2.2
  unfold fn_KR_guessObstacle fn_Md_guessObstacle
  refine ql I M (x := x) hx (fun t => (fn_Md_guessReason w x).bind fun q19 => some (q19, t)) rfl (fun h0 h1 => ?_)
  have hr := kob_r (st := st) (dp := dp) (va := va) (nb := nb) (c := x)
  refine ⟨.inr (kob st dp va nb x), kob st dp va nb x, 0, ?_, ?_, rfl, rfl, by omega, by omega⟩
  · rw [zk_bd (sp_ob I h0 h1)]
  · rw [zk_bd (sm_ob I M h0 h1)]
theorem q_nibbledCord (I : pI cl sz tn st dp tp va nb g) (M : pM cl sz dp tp va nb g w) (hw0 : w 0 = tn) {th x : Int} (hx : jk_R x) : ∃ a b t, fn_KR_nibbledCord cl st nb x = some a ∧ fn_Md_nibbledCord w th x = some (b, t) ∧ ag [1] a b t := by
  have hcl := I.1.1
  have hsz := I.1.2.1
  have htn := I.1.2.2
  unfold fn_KR_nibbledCord fn_Md_nibbledCord
  refine ql I M (x := x) hx (fun t => (fn_Md_onlyNibbled w x).bind fun q19 => some (q19, t)) rfl (fun h0 h1 => ?_)
  have hr := ko_R I h0 h1
  refine ⟨.inr (ko st nb x), ko st nb x, 0, ?_, ?_, rfl, rfl, by omega, by omega⟩
  · rw [zk_bd (sp_on I h0 h1)]; rfl
  · rw [zk_bd (sm_on I M h0 h1)]; rfl
theorem q_sumOf (I : pI cl sz tn st dp tp va nb g) (M : pM cl sz dp tp va nb g w) (hw0 : w 0 = tn) {th x : Int} (hx : jk_R x) : ∃ a b t, fn_KR_sumOf cl st dp va nb x = some a ∧ fn_Md_sumOf w th x = some (b, t) ∧ ag [1, 4] a b t := by
  have hcl := I.1.1
  have hsz := I.1.2.1
  have htn := I.1.2.2
  unfold fn_KR_sumOf fn_Md_sumOf
  refine ql I M (x := x) hx (fun t => (fn_Md_pendantsFrom w x).bind fun q17 => (fn_Md_end w x).bind fun q22 => (fn_Md_isWholeFrom w q17 q22).bind fun q25 => jk_eqs q25 0 ((fn_Md_fails t 1 2).bind fun q37 => jk_eqs q37.1 0 ((fn_Md_knownSum w x).bind fun q47 => some (q47, q37.2)) (some (0, q37.2))) ((fn_Md_fails t 0 2).bind fun q37 => jk_eqs q37.1 0 ((fn_Md_knownSum w x).bind fun q47 => some (q47, q37.2)) (some (0, q37.2)))) rfl (fun h0 h1 => ?_)
  have s1 := pI_st I (c := x) h0 (by omega)
  have s2 := pI_st I (c := x + 1) (by omega) (by omega)
  have hl := ht_le I h0 h1
  have hh := ht_r (st := st) (dp := dp) x
  have hk := ks_r I h0 h1
  have hn := pCt_r (p := fun j => decide (0 < nb j)) (st (x + 1) - (st x + ht st dp x)).toNat (st x + ht st dp x)
  have hnib := sp_nib (nb := nb) (a := st x + ht st dp x) (b := st (x + 1)) (by omega) (by omega) (by omega) (fun j h2 h3 => (I.2.2 j (by omega) (by omega)).2.2.2.2.1)
  have hsum : fn_Cords_sum st dp va x = some (ks st dp va x) := sp_sum I h0 h1
  have hks : fn_Md_knownSum w x = some (ks st dp va x) := sm_ks I M h0 h1
  unfold fn_Cords_hasKnownSum
  rw [zk_bd (sp_ps I h0 h1), zk_bd (sp_end I h0 h1), zk_bd hnib, zk_bd (sm_pf I M h0 h1), zk_bd (sm_end I M h0 h1), zk_bd (sm_wf I M (by omega) (by omega) (by omega))]
  by_cases e : pCt (fun j => decide (0 < nb j)) (st x + ht st dp x) (st (x + 1) - (st x + ht st dp x)).toNat = 0
  · rw [if_pos e]
    refine ⟨.inr (ks st dp va x), ks st dp va x, 0, ?_, ?_, rfl, rfl, by omega, by omega⟩
    · (try simp (disch := omega) only [↓zk_lt, ↓zk_nl, ↓zk_eq, ↓zk_ne, ↓zk_ix, ↓zk_dv, ↓zk_bo, ↓zk_rg, ↓zk_get, ↓zk_set, Option.bind_some])
      rw [zk_bd hsum]
    · (try simp (disch := omega) only [↓zk_lt, ↓zk_nl, ↓zk_eq, ↓zk_ne, ↓zk_ix, ↓zk_dv, ↓zk_bo, ↓zk_rg, ↓zk_get, ↓zk_set, Option.bind_some])
      rw [zk_bd sm_fails0]
      (try simp (disch := omega) only [↓zk_lt, ↓zk_nl, ↓zk_eq, ↓zk_ne, ↓zk_ix, ↓zk_dv, ↓zk_bo, ↓zk_rg, ↓zk_get, ↓zk_set, Option.bind_some])
      rw [zk_bd hks]
  · rw [if_neg e]
    refine ⟨.inl 4, 0, 2, ?_, ?_, 1, rfl, rfl⟩
    · (try simp (disch := omega) only [↓zk_lt, ↓zk_nl, ↓zk_eq, ↓zk_ne, ↓zk_ix, ↓zk_dv, ↓zk_bo, ↓zk_rg, ↓zk_get, ↓zk_set, Option.bind_some])
    · (try simp (disch := omega) only [↓zk_lt, ↓zk_nl, ↓zk_eq, ↓zk_ne, ↓zk_ix, ↓zk_dv, ↓zk_bo, ↓zk_rg, ↓zk_get, ↓zk_set, Option.bind_some])
      rw [zk_bd sm_fails1]
      (try simp (disch := omega) only [↓zk_lt, ↓zk_nl, ↓zk_eq, ↓zk_ne, ↓zk_ix, ↓zk_dv, ↓zk_bo, ↓zk_rg, ↓zk_get, ↓zk_set, Option.bind_some])
theorem q_guessIn (I : pI cl sz tn st dp tp va nb g) (M : pM cl sz dp tp va nb g w) (hw0 : w 0 = tn) {th x : Int} (hx : jk_R x) : ∃ a b t, fn_KR_guessIn cl st dp va nb x = some a ∧ fn_Md_guessIn w th x = some (b, t) ∧ ag [1, 4] a b t := by
  have hcl := I.1.1
  have hsz := I.1.2.1
  have htn := I.1.2.2
  unfold fn_KR_guessIn fn_Md_guessIn
  refine ql I M (x := x) hx (fun t => (fn_Md_guessReason w x).bind fun q16 => jk_eqs q16 0 ((fn_Md_fails t 0 2).bind fun q28 => jk_eqs q28.1 0 ((fn_Md_guess w x).bind fun q38 => some (q38, q28.2)) (some (0, q28.2))) ((fn_Md_fails t 1 2).bind fun q28 => jk_eqs q28.1 0 ((fn_Md_guess w x).bind fun q38 => some (q38, q28.2)) (some (0, q28.2)))) rfl (fun h0 h1 => ?_)
  have hr := kob_r (st := st) (dp := dp) (va := va) (nb := nb) (c := x)
  rw [zk_bd (sp_ob I h0 h1), zk_bd (sm_ob I M h0 h1)]
  by_cases e : kob st dp va nb x = 0
  · obtain ⟨h2, h3, h4⟩ := kob_0 I h0 h1 e
    refine ⟨.inr (kg st dp va nb x), kg st dp va nb x, 0, ?_, ?_, rfl, rfl, by omega, by omega⟩
    · (try simp (disch := omega) only [↓zk_lt, ↓zk_nl, ↓zk_eq, ↓zk_ne, ↓zk_ix, ↓zk_dv, ↓zk_bo, ↓zk_rg, ↓zk_get, ↓zk_set, Option.bind_some])
      rw [zk_bd (sp_kg I h0 h1 h2 h3)]
    · (try simp (disch := omega) only [↓zk_lt, ↓zk_nl, ↓zk_eq, ↓zk_ne, ↓zk_ix, ↓zk_dv, ↓zk_bo, ↓zk_rg, ↓zk_get, ↓zk_set, Option.bind_some])
      rw [zk_bd sm_fails0]
      (try simp (disch := omega) only [↓zk_lt, ↓zk_nl, ↓zk_eq, ↓zk_ne, ↓zk_ix, ↓zk_dv, ↓zk_bo, ↓zk_rg, ↓zk_get, ↓zk_set, Option.bind_some])
      rw [zk_bd (sm_kg I M h0 h1 h2 h3)]
  · refine ⟨.inl 4, 0, 2, ?_, ?_, 1, rfl, rfl⟩
    · (try simp (disch := omega) only [↓zk_lt, ↓zk_nl, ↓zk_eq, ↓zk_ne, ↓zk_ix, ↓zk_dv, ↓zk_bo, ↓zk_rg, ↓zk_get, ↓zk_set, Option.bind_some])
    · (try simp (disch := omega) only [↓zk_lt, ↓zk_nl, ↓zk_eq, ↓zk_ne, ↓zk_ix, ↓zk_dv, ↓zk_bo, ↓zk_rg, ↓zk_get, ↓zk_set, Option.bind_some])
      rw [zk_bd sm_fails1]
      (try simp (disch := omega) only [↓zk_lt, ↓zk_nl, ↓zk_eq, ↓zk_ne, ↓zk_ix, ↓zk_dv, ↓zk_bo, ↓zk_rg, ↓zk_get, ↓zk_set, Option.bind_some])
theorem q_cordsOfTopic (I : pI cl sz tn st dp tp va nb g) (M : pM cl sz dp tp va nb g w) (hw0 : w 0 = tn) {th x : Int} (hx : jk_R x) : ∃ a b t, fn_KR_cordsOfTopic tn sz tp x = some a ∧ fn_Md_cordsOfTopic w th x = some (b, t) ∧ ag [1] a b t := by
  have hcl := I.1.1
  have hsz := I.1.2.1
  have htn := I.1.2.2
  unfold fn_KR_cordsOfTopic fn_Md_cordsOfTopic
  refine qt I.1.2.2 hw0 (x := x) hx (fun t => (fn_Md_cordsWith w x).bind fun q19 => some (q19, t)) rfl (fun h0 h1 => ?_)
  have hr := pCt_r (p := fun j => decide (tp j = x)) sz.toNat 0
  refine ⟨.inr (pCt (fun j => decide (tp j = x)) 0 sz.toNat), pCt (fun j => decide (tp j = x)) 0 sz.toNat, 0, ?_, ?_, rfl, rfl, by omega, by omega⟩
  · rw [zk_bd (sp_cot (by omega) (by omega) hx (fun j h2 h3 => ⟨(I.2.2 j h2 h3).2.2.1.1, by have := (I.2.2 j h2 h3).2.2.1.2; omega⟩))]
  · rw [zk_bd (sm_cw I M hx)]
theorem q_sumOfTopic (I : pI cl sz tn st dp tp va nb g) (M : pM cl sz dp tp va nb g w) (hw0 : w 0 = tn) {th x : Int} (hx : jk_R x) : ∃ a b t, fn_KR_sumOfTopic tn sz dp tp va x = some a ∧ fn_Md_sumOfTopic w th x = some (b, t) ∧ ag [1] a b t := by
  have hcl := I.1.1
  have hsz := I.1.2.1
  have htn := I.1.2.2
  unfold fn_KR_sumOfTopic fn_Md_sumOfTopic
  refine qt I.1.2.2 hw0 (x := x) hx (fun t => fn_Md_sumOfTopic_b19 jk_F w t x 0 0) rfl (fun h0 h1 => ?_)
  have hF := jk_F_big
  have hr := pSm_r (f := fun j => if tp j = x ∧ 0 < dp j then va j else 0) (B := 9999) sz.toNat 0 (fun j h2 h3 => by
    have := (I.2.2 j (by omega) (by omega)).2.2.2.1
    show 0 ≤ (if tp j = x ∧ 0 < dp j then va j else 0) ∧ (if tp j = x ∧ 0 < dp j then va j else 0) ≤ 9999
    split <;> omega)
  refine ⟨.inr (0 + pSm (fun j => if tp j = x ∧ 0 < dp j then va j else 0) 0 sz.toNat), 0 + pSm (fun j => if tp j = x ∧ 0 < dp j then va j else 0) 0 sz.toNat, 0, ?_, ?_, rfl, rfl, by omega, by omega⟩
  · exact sp_sot_b I hx jk_F sz.toNat 0 0 (by omega) (by omega) (by omega) (by omega) (by omega)
  · exact sm_sot_b I M hx jk_F sz.toNat 0 0 (by omega) (by omega) (by omega) (by omega) (by omega)
theorem q_knotsAt (I : pI cl sz tn st dp tp va nb g) (M : pM cl sz dp tp va nb g w) (hw0 : w 0 = tn) {th x y : Int} (hx : jk_R x) (hy : jk_R y) : ∃ a b t, fn_KR_knotsAt sz va nb x y = some a ∧ fn_Md_knotsAt w th x y = some (b, t) ∧ ag [1, 2] a b t := by
  have hcl := I.1.1
  have hsz := I.1.2.1
  have htn := I.1.2.2
  unfold fn_KR_knotsAt fn_Md_knotsAt
  refine qc I M (x := x) hx (fun t => (fn_Md_inRange y 0 3).bind fun q17 => jk_eqs q17 0 (fn_Md_knotsAt_b28 w t x y 1) (fn_Md_knotsAt_b28 w t x y 0)) rfl (fun h0 h1 => ?_)
  obtain ⟨⟨a1, a2, a3, a4⟩, hd, htp, hv, hb, hvd, -, -⟩ := I.2.2 x h0 h1
  have hy1 := hy.1
  have hy2 := hy.2
  unfold fn_KR_isPlace fn_Md_knotsAt_b28
  rw [zk_bd (sm_inR hy ⟨by omega, by omega⟩ ⟨by omega, by omega⟩)]
  by_cases e : 0 ≤ y ∧ y ≤ 3
  · have hp := pw_pos (x := y) e.1 (by omega)
    have hd1 := pw_div (v := va x) (d := y) e.1 (by omega) hv.1
    rw [if_pos e]
    by_cases e2 : y < nb x
    · refine ⟨.inr (-1), -1, 0, ?_, ?_, rfl, rfl, by omega, by omega⟩
      · (try simp (disch := omega) only [↓zk_lt, ↓zk_nl, ↓zk_eq, ↓zk_ne, ↓zk_ix, ↓zk_dv, ↓zk_bo, ↓zk_rg, ↓zk_get, ↓zk_set, Option.bind_some])
      · (try simp (disch := omega) only [↓zk_lt, ↓zk_nl, ↓zk_eq, ↓zk_ne, ↓zk_ix, ↓zk_dv, ↓zk_bo, ↓zk_rg, ↓zk_get, ↓zk_set, Option.bind_some])
        rw [zk_bd sm_fails0]
        (try simp (disch := omega) only [↓zk_lt, ↓zk_nl, ↓zk_eq, ↓zk_ne, ↓zk_ix, ↓zk_dv, ↓zk_bo, ↓zk_rg, ↓zk_get, ↓zk_set, Option.bind_some])
        rw [zk_bd (M4 I M h0 h1)]
        (try simp (disch := omega) only [↓zk_lt, ↓zk_nl, ↓zk_eq, ↓zk_ne, ↓zk_ix, ↓zk_dv, ↓zk_bo, ↓zk_rg, ↓zk_get, ↓zk_set, Option.bind_some])
    · refine ⟨.inr (va x / pw y % 10), va x / pw y % 10, 0, ?_, ?_, rfl, rfl, by omega, by omega⟩
      · (try simp (disch := omega) only [↓zk_lt, ↓zk_nl, ↓zk_eq, ↓zk_ne, ↓zk_ix, ↓zk_dv, ↓zk_bo, ↓zk_rg, ↓zk_get, ↓zk_set, Option.bind_some])
        rw [zk_bd (sp_at e.1 (by omega) hv.1 (by omega))]
      · (try simp (disch := omega) only [↓zk_lt, ↓zk_nl, ↓zk_eq, ↓zk_ne, ↓zk_ix, ↓zk_dv, ↓zk_bo, ↓zk_rg, ↓zk_get, ↓zk_set, Option.bind_some])
        rw [zk_bd sm_fails0]
        (try simp (disch := omega) only [↓zk_lt, ↓zk_nl, ↓zk_eq, ↓zk_ne, ↓zk_ix, ↓zk_dv, ↓zk_bo, ↓zk_rg, ↓zk_get, ↓zk_set, Option.bind_some])
        rw [zk_bd (M4 I M h0 h1)]
        (try simp (disch := omega) only [↓zk_lt, ↓zk_nl, ↓zk_eq, ↓zk_ne, ↓zk_ix, ↓zk_dv, ↓zk_bo, ↓zk_rg, ↓zk_get, ↓zk_set, Option.bind_some])
        rw [zk_bd (sm_knots I M h0 h1 e.1 (by omega))]
  · rw [if_neg e]
    refine ⟨.inl 2, 0, 2, ?_, ?_, 1, rfl, rfl⟩
    · by_cases e0 : 0 ≤ y
      · (try simp (disch := omega) only [↓zk_lt, ↓zk_nl, ↓zk_eq, ↓zk_ne, ↓zk_ix, ↓zk_dv, ↓zk_bo, ↓zk_rg, ↓zk_get, ↓zk_set, Option.bind_some])
      · (try simp (disch := omega) only [↓zk_lt, ↓zk_nl, ↓zk_eq, ↓zk_ne, ↓zk_ix, ↓zk_dv, ↓zk_bo, ↓zk_rg, ↓zk_get, ↓zk_set, Option.bind_some])
    · (try simp (disch := omega) only [↓zk_lt, ↓zk_nl, ↓zk_eq, ↓zk_ne, ↓zk_ix, ↓zk_dv, ↓zk_bo, ↓zk_rg, ↓zk_get, ↓zk_set, Option.bind_some])
      rw [zk_bd sm_fails1]
      (try simp (disch := omega) only [↓zk_lt, ↓zk_nl, ↓zk_eq, ↓zk_ne, ↓zk_ix, ↓zk_dv, ↓zk_bo, ↓zk_rg, ↓zk_get, ↓zk_set, Option.bind_some])
end P6
