/-! the changes: what each makes, on both sides -/
def pC (tn cl sz : Int) (st dp tp va nb w : Int → Int) : Prop := (∃ g, pI cl sz tn st dp tp va nb g ∧ pM cl sz dp tp va nb g w) ∧ ∀ j, 0 ≤ j → j < 40 → jk_R (dp j)
def pP (tn cl sz : Int) (st dp tp va nb w : Int → Int) (K A B C : Int) (md : Option (Int × (Int → Int))) : Prop :=
  ∃ (r cl' sz' : Int) (st' dp' tp' va' nb' w' : Int → Int), fn_KR_perform cl sz st dp tp va nb K A B C = some (r, cl', sz', st', dp', tp', va', nb') ∧ md = some (r, w') ∧ pC tn cl' sz' st' dp' tp' va' nb' w' ∧ pU w w' ∧ 0 ≤ r ∧ r < 1000000
section PA
variable {cl sz tn : Int} {st dp tp va nb w : Int → Int}
theorem pG_ins {a d : Int} (h : ∀ j, 0 ≤ j → j < 40 → jk_R (dp j)) (ha : 0 ≤ a) (hd : jk_R d) : ∀ j, 0 ≤ j → j < 40 → jk_R (ins dp a d sz j) := by
  intro j h0 h1
  unfold ins
  by_cases x : j < a
  · rw [if_pos x]; exact h j h0 h1
  · rw [if_neg x]
    by_cases y : j = a
    · rw [if_pos y]; exact hd
    · rw [if_neg y]
      by_cases z : j ≤ sz
      · rw [if_pos z]; exact h _ (by omega) (by omega)
      · rw [if_neg z]; exact h j h0 h1
theorem pG_rem {a b : Int} (h : ∀ j, 0 ≤ j → j < 40 → jk_R (dp j)) (hab : a < b) (hs : sz ≤ 40) : ∀ j, 0 ≤ j → j < 40 → jk_R (rem dp a b sz j) := by
  intro j h0 h1
  unfold rem
  by_cases x : a ≤ j ∧ j < sz - (b - a)
  · rw [if_pos x]; exact h _ (by omega) (by omega)
  · rw [if_neg x]; exact h j h0 h1
theorem p_0 (H : pC tn cl sz st dp tp va nb w) (hc : cl < 6) (A B C : Int) : pP tn cl sz st dp tp va nb w 0 A B C (fn_Md_addsCluster w) := by
  obtain ⟨⟨g, I, M⟩, G⟩ := H
  have hcl := I.1.1
  have hsz := I.1.2.1
  have hw1 := M.1
  refine ⟨cl, cl + 1, sz, jk_up st (cl + 1) sz, dp, tp, va, nb, jk_up w 1 (cl + 1), ?_, ?_, ⟨⟨g, pI_cl I hc, (pM_cl M).1⟩, G⟩, (pM_cl M).2, by omega, by omega⟩
  · unfold fn_KR_perform fn_Cords_openCluster
    (try simp (disch := omega) only [↓zk_lt, ↓zk_nl, ↓zk_eq, ↓zk_ne, ↓zk_ix, ↓zk_dv, ↓zk_bo, ↓zk_rg, ↓zk_get, ↓zk_set, Option.bind_some])
    simp
  · unfold fn_Md_addsCluster
    (try simp (disch := omega) only [↓zk_lt, ↓zk_nl, ↓zk_eq, ↓zk_ne, ↓zk_ix, ↓zk_dv, ↓zk_bo, ↓zk_rg, ↓zk_get, ↓zk_set, Option.bind_some])
    rw [up_eq rfl, hw1]
    simp
theorem p_1 (H : pC tn cl sz st dp tp va nb w) {c t v : Int} (hc : 0 ≤ c) (hc2 : c < cl) (ht : 0 ≤ t ∧ t < tn) (hv : 0 ≤ v ∧ v ≤ 9999) (hs : sz < 40) : pP tn cl sz st dp tp va nb w 1 c t v (fn_Md_adds w c t v) := by
  obtain ⟨⟨g, I, M⟩, G⟩ := H
  have hcl := I.1.1
  have hsz := I.1.2.1
  have s1 := pI_st I (c := c) hc (by omega)
  have s2 := pI_st I (c := c + 1) (by omega) (by omega)
  have hm := I.2.1.2.2 c hc hc2
  have hM := pM_ins (a := st (c + 1)) (c := c) (d := 1) (t := t) (v := v) M hsz.1 (by omega) (by omega)
  refine ⟨st (c + 1), cl, sz + 1, rsz st c cl 1, ins dp (st (c + 1)) 1 sz, ins tp (st (c + 1)) t sz, ins va (st (c + 1)) v sz, ins nb (st (c + 1)) 0 sz, wins w (st (c + 1)) c 1 t v sz, ?_, ?_, ⟨⟨ins g (st (c + 1)) c sz, ?_, hM.1⟩, pG_ins G (by omega) ⟨by omega, by omega⟩⟩, hM.2, by omega, by omega⟩
  · unfold fn_KR_perform
    (try simp (disch := omega) only [↓zk_lt, ↓zk_nl, ↓zk_eq, ↓zk_ne, ↓zk_ix, ↓zk_dv, ↓zk_bo, ↓zk_rg, ↓zk_get, ↓zk_set, Option.bind_some])
    rw [zk_bd (sp_end I hc hc2), zk_bd (sp_cins I hs (by omega) (by omega) hc (by omega))]
  · unfold fn_Md_adds
    rw [zk_bd (sm_end I M hc hc2), zk_bd (sm_ins hsz.1 hs (by omega) (by omega) M.2.1)]
  · refine pI_ins I hs hc hc2 hm (by omega) (by omega) ht hv (fun _ => by omega) (fun h => ⟨by omega, ?_⟩) (fun h => by omega)
    have := (I.2.2 (st (c + 1) - 1) (by omega) (by omega)).2.1
    omega
theorem p_2 (H : pC tn cl sz st dp tp va nb w) {k t v : Int} (h0 : 0 ≤ k) (h1 : k < sz) (hd : 1 ≤ dp k ∧ dp k < 3) (ht : 0 ≤ t ∧ t < tn) (hv : 0 ≤ v ∧ v ≤ 9999) (hs : sz < 40) : pP tn cl sz st dp tp va nb w 2 k t v (fn_Md_subs w k t v) := by
  obtain ⟨⟨g, I, M⟩, G⟩ := H
  have hcl := I.1.1
  have hsz := I.1.2.1
  obtain ⟨⟨g1, g2, g3, g4⟩, gd, -, -, -, -, gs1, gs2⟩ := I.2.2 k h0 h1
  obtain ⟨⟨b1, b2⟩, b3, b4⟩ := be_r I h0 h1
  have hle := be_le I h0 h1
  have s2 := pI_st I (c := g k + 1) (by omega) (by omega)
  have hM := pM_ins (a := be sz dp k) (c := g k) (d := dp k + 1) (t := t) (v := v) M hsz.1 (by omega) (by omega)
  refine ⟨be sz dp k, cl, sz + 1, rsz st (g k) cl 1, ins dp (be sz dp k) (dp k + 1) sz, ins tp (be sz dp k) t sz, ins va (be sz dp k) v sz, ins nb (be sz dp k) 0 sz, wins w (be sz dp k) (g k) (dp k + 1) t v sz, ?_, ?_, ⟨⟨ins g (be sz dp k) (g k) sz, ?_, hM.1⟩, pG_ins G (by omega) ⟨by omega, by omega⟩⟩, hM.2, by omega, by omega⟩
  · unfold fn_KR_perform
    (try simp (disch := omega) only [↓zk_lt, ↓zk_nl, ↓zk_eq, ↓zk_ne, ↓zk_ix, ↓zk_dv, ↓zk_bo, ↓zk_rg, ↓zk_get, ↓zk_set, Option.bind_some])
    rw [zk_bd (sp_be I h0 h1), zk_bd (sp_ca I h0 h1)]
    (try simp (disch := omega) only [↓zk_lt, ↓zk_nl, ↓zk_eq, ↓zk_ne, ↓zk_ix, ↓zk_dv, ↓zk_bo, ↓zk_rg, ↓zk_get, ↓zk_set, Option.bind_some])
    rw [zk_bd (sp_cins I hs (by omega) (by omega) (by omega) (by omega))]
  · unfold fn_Md_subs
    rw [zk_bd (sm_be I M h0 h1), zk_bd (M0 I M h0 h1), zk_bd (M1 I M h0 h1), zk_bd (sm_ins hsz.1 hs (by omega) (by omega) M.2.1)]
  · refine pI_ins I hs g1 g2 (by omega) hle (by omega) ht hv (fun h => by omega) (fun h => ⟨by omega, ?_⟩) (fun h => ?_)
    · by_cases x : be sz dp k - 1 = k
      · rw [x]; omega
      · have := b3 (be sz dp k - 1) (by omega) (by omega)
        omega
    · have hg := pI_g I (c := g k) (k := be sz dp k) g1 g2 (by omega) h
      obtain ⟨-, -, -, -, -, -, -, c2⟩ := I.2.2 (be sz dp k) (by omega) (by omega)
      have := c2 (by rw [hg]; omega)
      have := b4 (by omega) (by omega)
      omega
theorem p_3 (H : pC tn cl sz st dp tp va nb w) {k : Int} (h0 : 0 ≤ k) (h1 : k < sz) (B C : Int) : pP tn cl sz st dp tp va nb w 3 k B C (fn_Md_cuts w k) := by
  obtain ⟨⟨g, I, M⟩, G⟩ := H
  have hcl := I.1.1
  have hsz := I.1.2.1
  obtain ⟨⟨g1, g2, g3, g4⟩, gd, -, -, -, -, gs1, gs2⟩ := I.2.2 k h0 h1
  obtain ⟨⟨b1, b2⟩, b3, b4⟩ := be_r I h0 h1
  have hle := be_le I h0 h1
  have s2 := pI_st I (c := g k + 1) (by omega) (by omega)
  have hM := pM_rem (a := k) (b := be sz dp k) M h0 b1 b2
  refine ⟨be sz dp k - k, cl, sz - (be sz dp k - k), rsz st (g k) cl (-(be sz dp k - k)), rem dp k (be sz dp k) sz, rem tp k (be sz dp k) sz, rem va k (be sz dp k) sz, rem nb k (be sz dp k) sz, wrem w k (be sz dp k) sz, ?_, ?_, ⟨⟨rem g k (be sz dp k) sz, ?_, hM.1⟩, pG_rem G b1 hsz.2⟩, hM.2, by omega, by omega⟩
  · unfold fn_KR_perform fn_Cords_remove
    (try simp (disch := omega) only [↓zk_lt, ↓zk_nl, ↓zk_eq, ↓zk_ne, ↓zk_ix, ↓zk_dv, ↓zk_bo, ↓zk_rg, ↓zk_get, ↓zk_set, Option.bind_some])
    rw [zk_bd (sp_be I h0 h1), zk_bd (sp_ca I h0 h1), zk_bd (sp_rem h0 b1 b2 hsz.2), zk_bd (sp_rem h0 b1 b2 hsz.2), zk_bd (sp_rem h0 b1 b2 hsz.2), zk_bd (sp_rem h0 b1 b2 hsz.2), zk_bd (sp_rsz g1 (by omega) hcl.2)]
    rw [show k - be sz dp k = -(be sz dp k - k) by omega, show sz + -(be sz dp k - k) = sz - (be sz dp k - k) by omega]
    rfl
  · unfold fn_Md_cuts
    rw [zk_bd (sm_be I M h0 h1), zk_bd (sm_rem hsz.2 h0 b1 b2 M.2.1)]
  · refine pI_rem I h0 b1 hle h1 (fun h => ?_) (fun h => ?_)
    · by_cases x : dp k = 0
      · right
        have e : be sz dp k = k + 1 := by unfold be; rw [if_pos x]
        have hg := pI_g I (c := g k) (k := be sz dp k) g1 g2 (by omega) h
        obtain ⟨-, -, -, -, -, -, -, c2⟩ := I.2.2 (be sz dp k) (by omega) (by omega)
        have := c2 (by rw [hg]; omega)
        rw [e, show k + 1 - 1 = k by omega] at this
        rw [e]
        omega
      · left
        exact b4 (by omega) (by have := pI_st I (c := g k + 1) (by omega) (by omega); omega)
    · by_cases x : dp k = 0
      · right
        by_cases y : st (g k) < k
        · have := gs2 y; omega
        · omega
      · left
        exact b4 (by omega) (by have := pI_st I (c := g k + 1) (by omega) (by omega); omega)
theorem p_4 (H : pC tn cl sz st dp tp va nb w) {c t : Int} (hc : 0 ≤ c) (hc2 : c < cl) (htt : 0 ≤ t ∧ t < tn) (h1 : ht st dp c = 0) (h2 : st c < st (c + 1)) (hk : ks st dp va c ≤ 9999) (hs : sz < 40) (C : Int) : pP tn cl sz st dp tp va nb w 4 c t C (fn_Md_ties w c t) := by
  obtain ⟨⟨g, I, M⟩, G⟩ := H
  have hcl := I.1.1
  have hsz := I.1.2.1
  have s1 := pI_st I (c := c) hc (by omega)
  have s2 := pI_st I (c := c + 1) (by omega) (by omega)
  have hkr := ks_r I hc hc2
  have hsum : fn_Cords_sum st dp va c = some (ks st dp va c) := sp_sum I hc hc2
  have hks : fn_Md_knownSum w c = some (ks st dp va c) := sm_ks I M hc hc2
  have hM := pM_ins (a := st c) (c := c) (d := 0) (t := t) (v := ks st dp va c) M hsz.1 (by omega) (by omega)
  refine ⟨ks st dp va c, cl, sz + 1, rsz st c cl 1, ins dp (st c) 0 sz, ins tp (st c) t sz, ins va (st c) (ks st dp va c) sz, ins nb (st c) 0 sz, wins w (st c) c 0 t (ks st dp va c) sz, ?_, ?_, ⟨⟨ins g (st c) c sz, ?_, hM.1⟩, pG_ins G (by omega) ⟨by omega, by omega⟩⟩, hM.2, by omega, by omega⟩
  · unfold fn_KR_perform fn_Cords_tie
    (try simp (disch := omega) only [↓zk_lt, ↓zk_nl, ↓zk_eq, ↓zk_ne, ↓zk_ix, ↓zk_dv, ↓zk_bo, ↓zk_rg, ↓zk_get, ↓zk_set, Option.bind_some])
    rw [zk_bd hsum, zk_bd (sp_start I hc (by omega)), zk_bd (sp_cins I hs (by omega) (by omega) hc (by omega))]
    rfl
  · unfold fn_Md_ties
    rw [zk_bd hks, zk_bd (sm_first I M hc (by omega)), zk_bd (sm_ins hsz.1 hs (by omega) (by omega) M.2.1)]
  · refine pI_ins I hs hc hc2 (by omega) (by omega) (by omega) htt ⟨hkr.1, hk⟩ (fun h => by omega) (fun h => by omega) (fun h => ?_)
    have hg := pI_g I (c := c) (k := st c) hc hc2 (by omega) h2
    obtain ⟨-, c1, -, -, -, -, c2, -⟩ := I.2.2 (st c) (by omega) (by omega)
    have := c2 (by rw [hg])
    have h4 : ¬ dp (st c) = 0 := fun q => by
      unfold ht at h1
      rw [if_pos ⟨h2, q⟩] at h1
      omega
    omega
theorem setk {v x y n : Int} (hv : 0 ≤ v ∧ v ≤ 9999) (hx : 0 ≤ x ∧ x ≤ 9) (hy : 0 ≤ y ∧ y ≤ 3) (hn : 0 ≤ n ∧ n ≤ y) (hd : v / pw n * pw n = v) : (0 ≤ v + (x - v / pw y % 10) * pw y ∧ v + (x - v / pw y % 10) * pw y ≤ 9999) ∧ (v + (x - v / pw y % 10) * pw y) / pw n * pw n = v + (x - v / pw y % 10) * pw y := by
  rcases pw_c hy.1 (by omega) with ⟨a, h⟩ | ⟨a, h⟩ | ⟨a, h⟩ | ⟨a, h⟩ | ⟨a, h⟩ <;> rcases pw_c hn.1 (by omega) with ⟨b, h'⟩ | ⟨b, h'⟩ | ⟨b, h'⟩ | ⟨b, h'⟩ | ⟨b, h'⟩ <;> rw [h'] at hd <;> rw [h, h'] <;> omega
theorem p_5 (H : pC tn cl sz st dp tp va nb w) {k y x : Int} (h0 : 0 ≤ k) (h1 : k < sz) (hy : 0 ≤ y ∧ y ≤ 3) (hx : 0 ≤ x ∧ x ≤ 9) (hn : nb k ≤ y) : pP tn cl sz st dp tp va nb w 5 k y x (fn_Md_sets w k y x) := by
  obtain ⟨⟨g, I, M⟩, G⟩ := H
  have hcl := I.1.1
  have hsz := I.1.2.1
  obtain ⟨-, -, -, hv, hb, hd, -⟩ := I.2.2 k h0 h1
  have hp := pw_pos (x := y) hy.1 (by omega)
  have hs := setk hv hx hy ⟨hb.1, hn⟩ hd
  have hM := pM_up M (k := k) (y := 3) (v := va k + (x - va k / pw y % 10) * pw y) h0 (by omega) (by omega) (dp' := dp) (tp' := tp) (va' := jk_up va k (va k + (x - va k / pw y % 10) * pw y)) (nb' := nb) (by omega) (by rw [if_neg (by omega)]) (by rw [if_neg (by omega)]) (by rw [if_pos rfl]) (by rw [if_neg (by omega)])
  have hr : 0 ≤ va k / pw y % 10 ∧ va k / pw y % 10 < 10 := by omega
  refine ⟨va k / pw y % 10, cl, sz, st, dp, tp, jk_up va k (va k + (x - va k / pw y % 10) * pw y), nb, jk_up w (59 + 5 * k + 3) (va k + (x - va k / pw y % 10) * pw y), ?_, ?_, ⟨⟨g, pI_v I h0 h1 hs.1 hs.2, hM.1⟩, G⟩, hM.2, by omega, by omega⟩
  · unfold fn_KR_perform fn_Cords_knot
    (try simp (disch := omega) only [↓zk_lt, ↓zk_nl, ↓zk_eq, ↓zk_ne, ↓zk_ix, ↓zk_dv, ↓zk_bo, ↓zk_rg, ↓zk_get, ↓zk_set, Option.bind_some])
    rw [zk_bd (sp_at hy.1 (by omega) hv.1 (by omega)), zk_bd (sp_power hy.1 (by omega))]
    (try simp (disch := omega) only [↓zk_lt, ↓zk_nl, ↓zk_eq, ↓zk_ne, ↓zk_ix, ↓zk_dv, ↓zk_bo, ↓zk_rg, ↓zk_get, ↓zk_set, Option.bind_some])
  · unfold fn_Md_sets
    rw [zk_bd (sm_knots I M h0 h1 hy.1 (by omega)), zk_bd (M3 I M h0 h1), zk_bd (sm_power hy.1 (by omega)), zk_bd (sm_puts h0 (by omega) (by omega) (by omega))]
theorem lose_dm {v p : Int} (h0 : 0 ≤ p) (h4 : p ≤ 4) : v / pw p * pw p / pw p * pw p = v / pw p * pw p := by
  have hp := pw_pos h0 h4
  rw [Int.mul_ediv_cancel _ (by omega)]
theorem pks_le {v y : Int} (hv : 0 ≤ v) (hy : 0 ≤ y) (hy4 : y ≤ 4) : pks (v / pw y * pw y) ≤ pks v := by
  unfold pks
  rcases pw_c hy hy4 with ⟨a, h⟩ | ⟨a, h⟩ | ⟨a, h⟩ | ⟨a, h⟩ | ⟨a, h⟩ <;> rw [h]
  · have e0 : v / 1 * 1 = v := by omega
    rw [e0]; omega
  · have e1 : v / 10 * 10 % 10 = 0 := by omega
    have e2 : v / 10 * 10 / 10 = v / 10 := by omega
    have e3 : v / 10 * 10 / 100 = v / 100 := by omega
    have e4 : v / 10 * 10 / 1000 = v / 1000 := by omega
    rw [e1, e2, e3, e4]; omega
  · have e1 : v / 100 * 100 % 10 = 0 := by omega
    have e2 : v / 100 * 100 / 10 % 10 = 0 := by omega
    have e3 : v / 100 * 100 / 100 = v / 100 := by omega
    have e4 : v / 100 * 100 / 1000 = v / 1000 := by omega
    rw [e1, e2, e3, e4]; omega
  · have e1 : v / 1000 * 1000 % 10 = 0 := by omega
    have e2 : v / 1000 * 1000 / 10 % 10 = 0 := by omega
    have e3 : v / 1000 * 1000 / 100 % 10 = 0 := by omega
    have e4 : v / 1000 * 1000 / 1000 = v / 1000 := by omega
    rw [e1, e2, e3, e4]; omega
  · have e1 : v / 10000 * 10000 % 10 = 0 := by omega
    have e2 : v / 10000 * 10000 / 10 % 10 = 0 := by omega
    have e3 : v / 10000 * 10000 / 100 % 10 = 0 := by omega
    have e4 : v / 10000 * 10000 / 1000 % 10 = 0 := by omega
    rw [e1, e2, e3, e4]; omega
theorem p_6 (H : pC tn cl sz st dp tp va nb w) {k y : Int} (h0 : 0 ≤ k) (h1 : k < sz) (hy : 1 ≤ y ∧ y ≤ 4) (hn : nb k ≤ y) (C : Int) : pP tn cl sz st dp tp va nb w 6 k y C (fn_Md_loses w k y) := by
  obtain ⟨⟨g, I, M⟩, G⟩ := H
  have hcl := I.1.1
  have hsz := I.1.2.1
  obtain ⟨-, -, -, hv, hb, hd, -⟩ := I.2.2 k h0 h1
  have hp := pw_pos (x := y) (by omega) hy.2
  have hdm := pw_dm (v := va k) (d := y) (by omega) hy.2 hv.1
  have hl : pks (va k / pw y * pw y) ≤ pks (va k) := pks_le hv.1 (by omega) hy.2
  have hr1 := pks_r (va k)
  have hr2 := pks_r (va k / pw y * pw y)
  have hM1 := pM_up M (k := k) (y := 3) (v := va k / pw y * pw y) h0 (by omega) (by omega) (dp' := dp) (tp' := tp) (va' := jk_up va k (va k / pw y * pw y)) (nb' := nb) (by omega) (by rw [if_neg (by omega)]) (by rw [if_neg (by omega)]) (by rw [if_pos rfl]) (by rw [if_neg (by omega)])
  have hM2 := pM_up hM1.1 (k := k) (y := 4) (v := y) h0 (by omega) (by omega) (dp' := dp) (tp' := tp) (va' := jk_up va k (va k / pw y * pw y)) (nb' := jk_up nb k y) (by omega) (by rw [if_neg (by omega)]) (by rw [if_neg (by omega)]) (by rw [if_neg (by omega)]) (by rw [if_pos rfl])
  have hI := pI_vn I (k := k) (v := va k / pw y * pw y) (b := y) (by omega) (by omega) (lose_dm (by omega) hy.2)
  have hko := sm_kof_b hI hM2.1 h0 h1
  rw [up_eq rfl] at hko
  refine ⟨pks (va k) - pks (va k / pw y * pw y), cl, sz, st, dp, tp, jk_up va k (va k / pw y * pw y), jk_up nb k y, jk_up (jk_up w (59 + 5 * k + 3) (va k / pw y * pw y)) (59 + 5 * k + 4) y, ?_, ?_, ⟨⟨g, hI, hM2.1⟩, G⟩, pU_tr hM1.2 hM2.2, by omega, by omega⟩
  · unfold fn_KR_perform fn_Cords_loseKnots
    (try simp (disch := omega) only [↓zk_lt, ↓zk_nl, ↓zk_eq, ↓zk_ne, ↓zk_ix, ↓zk_dv, ↓zk_bo, ↓zk_rg, ↓zk_get, ↓zk_set, Option.bind_some])
    rw [zk_bd (sp_ksum hv.1 (by omega)), zk_bd (sp_lose (by omega) hy.2 hv.1 (by omega))]
    (try simp (disch := omega) only [↓zk_lt, ↓zk_nl, ↓zk_eq, ↓zk_ne, ↓zk_ix, ↓zk_dv, ↓zk_bo, ↓zk_rg, ↓zk_get, ↓zk_set, Option.bind_some])
    rw [up_eq rfl, zk_bd (sp_ksum hdm.1 (by omega))]
    rfl
  · unfold fn_Md_loses
    rw [zk_bd (sm_kof_b I M h0 h1), zk_bd (sm_power (by omega) hy.2), zk_bd (M3 I M h0 h1)]
    (try simp (disch := omega) only [↓zk_lt, ↓zk_nl, ↓zk_eq, ↓zk_ne, ↓zk_ix, ↓zk_dv, ↓zk_bo, ↓zk_rg, ↓zk_get, ↓zk_set, Option.bind_some])
    rw [zk_bd (sm_puts h0 (by omega) (by omega) (by omega)), zk_bd (sm_puts h0 (by omega) (by omega) (by omega)), zk_bd hko]
theorem p_7 (H : pC tn cl sz st dp tp va nb w) {k t : Int} (h0 : 0 ≤ k) (h1 : k < sz) (ht : 0 ≤ t ∧ t < tn) (C : Int) : pP tn cl sz st dp tp va nb w 7 k t C (fn_Md_dyes w k t) := by
  obtain ⟨⟨g, I, M⟩, G⟩ := H
  have hsz := I.1.2.1
  have htn := I.1.2.2
  obtain ⟨-, -, htp, -⟩ := I.2.2 k h0 h1
  have hM := pM_up M (k := k) (y := 2) (v := t) h0 (by omega) (by omega) (dp' := dp) (tp' := jk_up tp k t) (va' := va) (nb' := nb) (by omega) (by rw [if_neg (by omega)]) (by rw [if_pos rfl]) (by rw [if_neg (by omega)]) (by rw [if_neg (by omega)])
  refine ⟨tp k, cl, sz, st, dp, jk_up tp k t, va, nb, jk_up w (59 + 5 * k + 2) t, ?_, ?_, ⟨⟨g, pI_tp I ht, hM.1⟩, G⟩, hM.2, by omega, by omega⟩
  · unfold fn_KR_perform fn_Row_replace
    (try simp (disch := omega) only [↓zk_lt, ↓zk_nl, ↓zk_eq, ↓zk_ne, ↓zk_ix, ↓zk_dv, ↓zk_bo, ↓zk_rg, ↓zk_get, ↓zk_set, Option.bind_some])
  · unfold fn_Md_dyes
    rw [zk_bd (M2 I M h0 h1), zk_bd (sm_puts h0 (by omega) (by omega) (by omega))]
theorem p_8 (H : pC tn cl sz st dp tp va nb w) {c : Int} (hc : 0 ≤ c) (hc2 : c < cl) (h : kob st dp va nb c = 0) (B C : Int) : pP tn cl sz st dp tp va nb w 8 c B C (fn_Md_repairs w c) := by
  obtain ⟨⟨g, I, M⟩, G⟩ := H
  have hcl := I.1.1
  have hsz := I.1.2.1
  obtain ⟨h1, h2, h3⟩ := kob_0 I hc hc2 h
  obtain ⟨-, -, a3, a4, a5⟩ := ko_r I hc hc2 h2
  have hon : fn_Cords_onlyNibbled st nb c = some (ko st nb c) := sp_on I hc hc2
  have hon2 : fn_Md_onlyNibbled w c = some (ko st nb c) := sm_on I M hc hc2
  have hM1 := pM_up M (k := ko st nb c) (y := 3) (v := kg st dp va nb c) a4 (by omega) (by omega) (dp' := dp) (tp' := tp) (va' := jk_up va (ko st nb c) (kg st dp va nb c)) (nb' := nb) (by omega) (by rw [if_neg (by omega)]) (by rw [if_neg (by omega)]) (by rw [if_pos rfl]) (by rw [if_neg (by omega)])
  have hM2 := pM_up hM1.1 (k := ko st nb c) (y := 4) (v := 0) a4 (by omega) (by omega) (dp' := dp) (tp' := tp) (va' := jk_up va (ko st nb c) (kg st dp va nb c)) (nb' := jk_up nb (ko st nb c) 0) (by omega) (by rw [if_neg (by omega)]) (by rw [if_neg (by omega)]) (by rw [if_neg (by omega)]) (by rw [if_pos rfl])
  refine ⟨kg st dp va nb c, cl, sz, st, dp, tp, jk_up va (ko st nb c) (kg st dp va nb c), jk_up nb (ko st nb c) 0, jk_up (jk_up w (59 + 5 * ko st nb c + 3) (kg st dp va nb c)) (59 + 5 * ko st nb c + 4) 0, ?_, ?_, ⟨⟨g, pI_vn I h3 (by omega) (by simp [pw]), hM2.1⟩, G⟩, pU_tr hM1.2 hM2.2, by omega, by omega⟩
  · unfold fn_KR_perform fn_Cords_mend
    (try simp (disch := omega) only [↓zk_lt, ↓zk_nl, ↓zk_eq, ↓zk_ne, ↓zk_ix, ↓zk_dv, ↓zk_bo, ↓zk_rg, ↓zk_get, ↓zk_set, Option.bind_some])
    rw [zk_bd (sp_kg I hc hc2 h1 h2), zk_bd hon]
    (try simp (disch := omega) only [↓zk_lt, ↓zk_nl, ↓zk_eq, ↓zk_ne, ↓zk_ix, ↓zk_dv, ↓zk_bo, ↓zk_rg, ↓zk_get, ↓zk_set, Option.bind_some])
  · unfold fn_Md_repairs
    rw [zk_bd (sm_kg I M hc hc2 h1 h2), zk_bd hon2, zk_bd (sm_puts a4 (by omega) (by omega) (by omega)), zk_bd (sm_puts a4 (by omega) (by omega) (by omega))]
end PA
