/-! the changes as calls -/
def pD (ls : List Nat) (tn l n : Int) (HC HZ : Int → Int) (HS HD HT HV HN : Int → Int → Int) (w past : Int → Int) (qa : Nat ⊕ (Int × Int × Int × (Int → Int) × (Int → Int) × (Int → Int) × (Int → Int) × (Int → Int) × Int × Int × Int × Int × (Int → Int) × (Int → Int) × (Int → Int) × (Int → Int) × (Int → Int))) (b : Int) (w' past' : Int → Int) (pm' t : Int) : Prop := match qa with
  | .inl k => (∃ j : Nat, ls[j]? = some k ∧ t = (j : Int) + 1) ∧ w' = w ∧ past' = past ∧ pm' = n
  | .inr (r, c1, z1, s1, d1, t1, v1, n1, l', n', c2, z2, s2, d2, t2, v2, n2) => t = 0 ∧ r = b ∧ jk_R b ∧ pC tn c1 z1 s1 d1 t1 v1 n1 w' ∧ pU w w' ∧ l' = (l + 1) % 8 ∧ pm' = n' ∧ pH tn l' n' (jk_up HC l' c2) (jk_up HZ l' z2) (upF HS l' s2) (upF HD l' d2) (upF HT l' t2) (upF HV l' v2) (upF HN l' n2) w' past'
theorem cx_id {X : Option (Nat ⊕ (Int × Int × Int × (Int → Int) × (Int → Int) × (Int → Int) × (Int → Int) × (Int → Int) × Int × Int × Int × Int × (Int → Int) × (Int → Int) × (Int → Int) × (Int → Int) × (Int → Int)))} : (X.bind fun q5 => jk_cx q5 fun z => some (.inr (z.1, z.2.1, z.2.2.1, z.2.2.2.1, z.2.2.2.2.1, z.2.2.2.2.2.1, z.2.2.2.2.2.2.1, z.2.2.2.2.2.2.2.1, z.2.2.2.2.2.2.2.2.1, z.2.2.2.2.2.2.2.2.2.1, z.2.2.2.2.2.2.2.2.2.2.1, z.2.2.2.2.2.2.2.2.2.2.2.1, z.2.2.2.2.2.2.2.2.2.2.2.2.1, z.2.2.2.2.2.2.2.2.2.2.2.2.2.1, z.2.2.2.2.2.2.2.2.2.2.2.2.2.2.1, z.2.2.2.2.2.2.2.2.2.2.2.2.2.2.2.1, z.2.2.2.2.2.2.2.2.2.2.2.2.2.2.2.2))) = X := by
  cases X with
  | none => rfl
  | some x => cases x <;> rfl
section PD1
variable {tn cl sz l n : Int} {HC HZ : Int → Int} {HS HD HT HV HN : Int → Int → Int} {st dp tp va nb w past : Int → Int}
theorem chg_ok (H : pC tn cl sz st dp tp va nb w) (Hh : pH tn l n HC HZ HS HD HT HV HN w past) {K A B C : Int} {md : Option (Int × (Int → Int))} (P : pP tn cl sz st dp tp va nb w K A B C md) (h0 : fn_KR_problemOf tn cl sz st dp va nb K A B C = some 0) (ls : List Nat) :
    ∃ qa past' pm' b w', fn_KR_change tn cl sz st dp tp va nb l n (HC ((l + 1) % 8)) (HZ ((l + 1) % 8)) (HS ((l + 1) % 8)) (HD ((l + 1) % 8)) (HT ((l + 1) % 8)) (HV ((l + 1) % 8)) (HN ((l + 1) % 8)) K A B C = some qa ∧ fn_Md_remembers w past n = some (past', pm') ∧ md = some (b, w') ∧ pD ls tn l n HC HZ HS HD HT HV HN w past qa b w' past' pm' 0 := by
  obtain ⟨r, c1, z1, s1, d1, t1, v1, n1, w', p1, p2, p3, p4, p5, p6⟩ := P
  obtain ⟨n', e1, e2, e3, e4, e5, past', h1, h2, h3⟩ := push_both H Hh
  refine ⟨.inr (r, c1, z1, s1, d1, t1, v1, n1, (l + 1) % 8, n', cl, sz, e1, e2, e3, e4, e5), past', n', r, w', ?_, h2, p2, rfl, rfl, ⟨by omega, by omega⟩, p3, p4, rfl, rfl, pH_w h3 p4⟩
  unfold fn_KR_change
  rw [zk_bd h0]
  (try simp (disch := omega) only [↓zk_lt, ↓zk_nl, ↓zk_eq, ↓zk_ne, ↓zk_ix, ↓zk_dv, ↓zk_bo, ↓zk_rg, ↓zk_get, ↓zk_set, Option.bind_some])
  rw [zk_bd h1, zk_bd p1]
theorem chg_no {K A B C p : Int} (h : fn_KR_problemOf tn cl sz st dp va nb K A B C = some p) (hp : p = 1 ∨ p = 2 ∨ p = 3) : fn_KR_change tn cl sz st dp tp va nb l n (HC ((l + 1) % 8)) (HZ ((l + 1) % 8)) (HS ((l + 1) % 8)) (HD ((l + 1) % 8)) (HT ((l + 1) % 8)) (HV ((l + 1) % 8)) (HN ((l + 1) % 8)) K A B C = some (.inl p.toNat) := by
  unfold fn_KR_change
  rw [zk_bd h]
  rcases hp with rfl | rfl | rfl
  · (try simp (disch := omega) only [↓zk_lt, ↓zk_nl, ↓zk_eq, ↓zk_ne, ↓zk_ix, ↓zk_dv, ↓zk_bo, ↓zk_rg, ↓zk_get, ↓zk_set, Option.bind_some]); rfl
  · (try simp (disch := omega) only [↓zk_lt, ↓zk_nl, ↓zk_eq, ↓zk_ne, ↓zk_ix, ↓zk_dv, ↓zk_bo, ↓zk_rg, ↓zk_get, ↓zk_set, Option.bind_some]); rfl
  · (try simp (disch := omega) only [↓zk_lt, ↓zk_nl, ↓zk_eq, ↓zk_ne, ↓zk_ix, ↓zk_dv, ↓zk_bo, ↓zk_rg, ↓zk_get, ↓zk_set, Option.bind_some]); rfl
theorem sm_noValue {t v : Int} (hv : jk_R v) : fn_Md_noValue t v = some (if 0 ≤ v ∧ v ≤ 9999 then (0, t) else (1, 2)) := by
  unfold fn_Md_noValue
  rw [zk_bd (sm_inR hv ⟨by omega, by omega⟩ ⟨by omega, by omega⟩)]
  by_cases h : 0 ≤ v ∧ v ≤ 9999
  · rw [if_pos h, if_pos h]; (try simp (disch := omega) only [↓zk_lt, ↓zk_nl, ↓zk_eq, ↓zk_ne, ↓zk_ix, ↓zk_dv, ↓zk_bo, ↓zk_rg, ↓zk_get, ↓zk_set, Option.bind_some]); rw [zk_bd sm_fails0]; (try simp (disch := omega) only [↓zk_lt, ↓zk_nl, ↓zk_eq, ↓zk_ne, ↓zk_ix, ↓zk_dv, ↓zk_bo, ↓zk_rg, ↓zk_get, ↓zk_set, Option.bind_some])
  · rw [if_neg h, if_neg h]; (try simp (disch := omega) only [↓zk_lt, ↓zk_nl, ↓zk_eq, ↓zk_ne, ↓zk_ix, ↓zk_dv, ↓zk_bo, ↓zk_rg, ↓zk_get, ↓zk_set, Option.bind_some]); rw [zk_bd sm_fails1]; (try simp (disch := omega) only [↓zk_lt, ↓zk_nl, ↓zk_eq, ↓zk_ne, ↓zk_ix, ↓zk_dv, ↓zk_bo, ↓zk_rg, ↓zk_get, ↓zk_set, Option.bind_some])

theorem sm_maySub (H : pC tn cl sz st dp tp va nb w) {k : Int} (h0 : 0 ≤ k) (h1 : k < sz) : ∃ y, fn_Md_maySub w k = some y ∧ ((y = 1 ∧ ((1 ≤ dp k ∧ dp k < 3) ∧ sz < 40)) ∨ (y = 0 ∧ ¬ ((1 ≤ dp k ∧ dp k < 3) ∧ sz < 40))) := by
  have hma := sm_mayAdd H
  obtain ⟨⟨g, I, M⟩, G⟩ := H
  have hd := (I.2.2 k h0 h1).2.1
  unfold fn_Md_maySub
  rw [zk_bd (M1 I M h0 h1), zk_bd (sm_inR ⟨by omega, by omega⟩ ⟨by omega, by omega⟩ ⟨by omega, by omega⟩)]
  by_cases e : 1 ≤ dp k ∧ dp k ≤ 2
  · rw [if_pos e]
    (try simp (disch := omega) only [↓zk_lt, ↓zk_nl, ↓zk_eq, ↓zk_ne, ↓zk_ix, ↓zk_dv, ↓zk_bo, ↓zk_rg, ↓zk_get, ↓zk_set, Option.bind_some])
    rw [zk_bd hma]
    by_cases f : sz < 40
    · rw [if_pos f]
      exact ⟨1, by (try simp (disch := omega) only [↓zk_lt, ↓zk_nl, ↓zk_eq, ↓zk_ne, ↓zk_ix, ↓zk_dv, ↓zk_bo, ↓zk_rg, ↓zk_get, ↓zk_set, Option.bind_some]), Or.inl ⟨rfl, by omega, f⟩⟩
    · rw [if_neg f]
      exact ⟨0, by (try simp (disch := omega) only [↓zk_lt, ↓zk_nl, ↓zk_eq, ↓zk_ne, ↓zk_ix, ↓zk_dv, ↓zk_bo, ↓zk_rg, ↓zk_get, ↓zk_set, Option.bind_some]), Or.inr ⟨rfl, fun z => f z.2⟩⟩
  · rw [if_neg e]
    exact ⟨0, by (try simp (disch := omega) only [↓zk_lt, ↓zk_nl, ↓zk_eq, ↓zk_ne, ↓zk_ix, ↓zk_dv, ↓zk_bo, ↓zk_rg, ↓zk_get, ↓zk_set, Option.bind_some]), Or.inr ⟨rfl, fun z => by omega⟩⟩

theorem q_addCluster (H : pC tn cl sz st dp tp va nb w) (Hh : pH tn l n HC HZ HS HD HT HV HN w past) (hw0 : w 0 = tn) {th : Int} :
    ∃ qa b w' past' pm' tt, fn_KR_addCluster tn cl sz st dp tp va nb l n (HC ((l + 1) % 8)) (HZ ((l + 1) % 8)) (HS ((l + 1) % 8)) (HD ((l + 1) % 8)) (HT ((l + 1) % 8)) (HV ((l + 1) % 8)) (HN ((l + 1) % 8)) = some qa ∧ fn_Md_addCluster w past n th = some (b, w', past', pm', tt) ∧ pD [3] tn l n HC HZ HS HD HT HV HN w past qa b w' past' pm' tt := by
  have hf := pC_f H
  have HH := H
  obtain ⟨⟨g, I, M⟩, G⟩ := HH
  have hk : fn_KR_addCluster tn cl sz st dp tp va nb l n (HC ((l + 1) % 8)) (HZ ((l + 1) % 8)) (HS ((l + 1) % 8)) (HD ((l + 1) % 8)) (HT ((l + 1) % 8)) (HV ((l + 1) % 8)) (HN ((l + 1) % 8)) = fn_KR_change tn cl sz st dp tp va nb l n (HC ((l + 1) % 8)) (HZ ((l + 1) % 8)) (HS ((l + 1) % 8)) (HD ((l + 1) % 8)) (HT ((l + 1) % 8)) (HV ((l + 1) % 8)) (HN ((l + 1) % 8)) 0 0 0 0 := by unfold fn_KR_addCluster; exact cx_id
  rw [hk]
  unfold fn_Md_addCluster
  have hw1 := M.1
  have hp := pb_0 H 0 0 0
  (try simp (disch := omega) only [↓zk_lt, ↓zk_nl, ↓zk_eq, ↓zk_ne, ↓zk_ix, ↓zk_dv, ↓zk_bo, ↓zk_rg, ↓zk_get, ↓zk_set, Option.bind_some])
  by_cases e : cl < 6
  · rw [if_pos e] at hp
    obtain ⟨qa, past', pm', b, w', k1, k2, k3, k4⟩ := chg_ok H Hh (p_0 H e 0 0 0) hp [3]
    refine ⟨qa, b, w', past', pm', 0, k1, ?_, k4⟩
    (try simp (disch := omega) only [↓zk_lt, ↓zk_nl, ↓zk_eq, ↓zk_ne, ↓zk_ix, ↓zk_dv, ↓zk_bo, ↓zk_rg, ↓zk_get, ↓zk_set, Option.bind_some])
    rw [zk_bd sm_fails0]
    (try simp (disch := omega) only [↓zk_lt, ↓zk_nl, ↓zk_eq, ↓zk_ne, ↓zk_ix, ↓zk_dv, ↓zk_bo, ↓zk_rg, ↓zk_get, ↓zk_set, Option.bind_some])
    rw [zk_bd k2, zk_bd k3]
  · rw [if_neg e] at hp
    refine ⟨_, 0, w, past, n, 1, chg_no hp (by omega), ?_, ⟨0, rfl, rfl⟩, rfl, rfl, rfl⟩
    (try simp (disch := omega) only [↓zk_lt, ↓zk_nl, ↓zk_eq, ↓zk_ne, ↓zk_ix, ↓zk_dv, ↓zk_bo, ↓zk_rg, ↓zk_get, ↓zk_set, Option.bind_some])
    rw [zk_bd sm_fails1]
    (try simp (disch := omega) only [↓zk_lt, ↓zk_nl, ↓zk_eq, ↓zk_ne, ↓zk_ix, ↓zk_dv, ↓zk_bo, ↓zk_rg, ↓zk_get, ↓zk_set, Option.bind_some])

theorem q_addPendant (H : pC tn cl sz st dp tp va nb w) (Hh : pH tn l n HC HZ HS HD HT HV HN w past) (hw0 : w 0 = tn) {th : Int} {c : Int} (hc : jk_R c) {t : Int} (ht : jk_R t) {v : Int} (hv : jk_R v) :
    ∃ qa b w' past' pm' tt, fn_KR_addPendant tn cl sz st dp tp va nb l n (HC ((l + 1) % 8)) (HZ ((l + 1) % 8)) (HS ((l + 1) % 8)) (HD ((l + 1) % 8)) (HT ((l + 1) % 8)) (HV ((l + 1) % 8)) (HN ((l + 1) % 8)) c t v = some qa ∧ fn_Md_addPendant w past n th c t v = some (b, w', past', pm', tt) ∧ pD [1, 2, 3] tn l n HC HZ HS HD HT HV HN w past qa b w' past' pm' tt := by
  have hf := pC_f H
  have HH := H
  obtain ⟨⟨g, I, M⟩, G⟩ := HH
  have hk : fn_KR_addPendant tn cl sz st dp tp va nb l n (HC ((l + 1) % 8)) (HZ ((l + 1) % 8)) (HS ((l + 1) % 8)) (HD ((l + 1) % 8)) (HT ((l + 1) % 8)) (HV ((l + 1) % 8)) (HN ((l + 1) % 8)) c t v = fn_KR_change tn cl sz st dp tp va nb l n (HC ((l + 1) % 8)) (HZ ((l + 1) % 8)) (HS ((l + 1) % 8)) (HD ((l + 1) % 8)) (HT ((l + 1) % 8)) (HV ((l + 1) % 8)) (HN ((l + 1) % 8)) 1 c t v := by unfold fn_KR_addPendant; exact cx_id
  rw [hk]
  unfold fn_Md_addPendant
  have hp := pb_1 H hc ht hv
  rw [zk_bd (sm_noCluster I M hc)]
  by_cases a : 0 ≤ c ∧ c < cl
  · rw [if_pos a]
    (try simp (disch := omega) only [↓zk_lt, ↓zk_nl, ↓zk_eq, ↓zk_ne, ↓zk_ix, ↓zk_dv, ↓zk_bo, ↓zk_rg, ↓zk_get, ↓zk_set, Option.bind_some])
    rw [zk_bd (sm_noTopic hf.2.2 hw0 ht)]
    by_cases d : 0 ≤ t ∧ t < tn
    · rw [if_pos d]
      (try simp (disch := omega) only [↓zk_lt, ↓zk_nl, ↓zk_eq, ↓zk_ne, ↓zk_ix, ↓zk_dv, ↓zk_bo, ↓zk_rg, ↓zk_get, ↓zk_set, Option.bind_some])
      rw [if_pos (show (0 ≤ c ∧ c < cl) ∧ (0 ≤ t ∧ t < tn) from ⟨a, d⟩)] at hp
      rw [zk_bd (sm_noValue hv)]
      by_cases e : 0 ≤ v ∧ v ≤ 9999
      · rw [if_pos e]
        (try simp (disch := omega) only [↓zk_lt, ↓zk_nl, ↓zk_eq, ↓zk_ne, ↓zk_ix, ↓zk_dv, ↓zk_bo, ↓zk_rg, ↓zk_get, ↓zk_set, Option.bind_some])
        rw [if_pos e] at hp
        rw [zk_bd (sm_mayAdd H)]
        unfold fn_Md_addPendant_b42
        by_cases f : sz < 40
        · rw [if_pos f] at hp
          rw [if_pos f]
          obtain ⟨qa, past', pm', b, w', k1, k2, k3, k4⟩ := chg_ok H Hh (p_1 H a.1 a.2 d e f) hp [1, 2, 3]
          refine ⟨qa, b, w', past', pm', 0, k1, ?_, k4⟩
          (try simp (disch := omega) only [↓zk_lt, ↓zk_nl, ↓zk_eq, ↓zk_ne, ↓zk_ix, ↓zk_dv, ↓zk_bo, ↓zk_rg, ↓zk_get, ↓zk_set, Option.bind_some])
          rw [zk_bd sm_fails0]
          (try simp (disch := omega) only [↓zk_lt, ↓zk_nl, ↓zk_eq, ↓zk_ne, ↓zk_ix, ↓zk_dv, ↓zk_bo, ↓zk_rg, ↓zk_get, ↓zk_set, Option.bind_some])
          rw [zk_bd k2, zk_bd k3]
        · rw [if_neg f] at hp
          rw [if_neg f]
          refine ⟨_, 0, w, past, n, 3, chg_no hp (by omega), ?_, ⟨2, rfl, rfl⟩, rfl, rfl, rfl⟩
          (try simp (disch := omega) only [↓zk_lt, ↓zk_nl, ↓zk_eq, ↓zk_ne, ↓zk_ix, ↓zk_dv, ↓zk_bo, ↓zk_rg, ↓zk_get, ↓zk_set, Option.bind_some])
          rw [zk_bd sm_fails1]
          (try simp (disch := omega) only [↓zk_lt, ↓zk_nl, ↓zk_eq, ↓zk_ne, ↓zk_ix, ↓zk_dv, ↓zk_bo, ↓zk_rg, ↓zk_get, ↓zk_set, Option.bind_some])
      · rw [if_neg e]
        (try simp (disch := omega) only [↓zk_lt, ↓zk_nl, ↓zk_eq, ↓zk_ne, ↓zk_ix, ↓zk_dv, ↓zk_bo, ↓zk_rg, ↓zk_get, ↓zk_set, Option.bind_some])
        rw [if_neg e] at hp
        refine ⟨_, 0, w, past, n, 2, chg_no hp (by omega), ?_, ⟨1, rfl, rfl⟩, rfl, rfl, rfl⟩
        rfl
    · rw [if_neg d]
      (try simp (disch := omega) only [↓zk_lt, ↓zk_nl, ↓zk_eq, ↓zk_ne, ↓zk_ix, ↓zk_dv, ↓zk_bo, ↓zk_rg, ↓zk_get, ↓zk_set, Option.bind_some])
      rw [if_neg (show ¬ ((0 ≤ c ∧ c < cl) ∧ (0 ≤ t ∧ t < tn)) from fun z => d z.2)] at hp
      refine ⟨_, 0, w, past, n, 1, chg_no hp (by omega), ?_, ⟨0, rfl, rfl⟩, rfl, rfl, rfl⟩
      rfl
  · rw [if_neg a]
    (try simp (disch := omega) only [↓zk_lt, ↓zk_nl, ↓zk_eq, ↓zk_ne, ↓zk_ix, ↓zk_dv, ↓zk_bo, ↓zk_rg, ↓zk_get, ↓zk_set, Option.bind_some])
    rw [if_neg (show ¬ ((0 ≤ c ∧ c < cl) ∧ (0 ≤ t ∧ t < tn)) from fun z => a z.1)] at hp
    refine ⟨_, 0, w, past, n, 1, chg_no hp (by omega), ?_, ⟨0, rfl, rfl⟩, rfl, rfl, rfl⟩
    rfl

theorem q_addSubsidiary (H : pC tn cl sz st dp tp va nb w) (Hh : pH tn l n HC HZ HS HD HT HV HN w past) (hw0 : w 0 = tn) {th : Int} {c : Int} (hc : jk_R c) {t : Int} (ht : jk_R t) {v : Int} (hv : jk_R v) :
    ∃ qa b w' past' pm' tt, fn_KR_addSubsidiary tn cl sz st dp tp va nb l n (HC ((l + 1) % 8)) (HZ ((l + 1) % 8)) (HS ((l + 1) % 8)) (HD ((l + 1) % 8)) (HT ((l + 1) % 8)) (HV ((l + 1) % 8)) (HN ((l + 1) % 8)) c t v = some qa ∧ fn_Md_addSubsidiary w past n th c t v = some (b, w', past', pm', tt) ∧ pD [1, 2, 3] tn l n HC HZ HS HD HT HV HN w past qa b w' past' pm' tt := by
  have hf := pC_f H
  have HH := H
  obtain ⟨⟨g, I, M⟩, G⟩ := HH
  have hk : fn_KR_addSubsidiary tn cl sz st dp tp va nb l n (HC ((l + 1) % 8)) (HZ ((l + 1) % 8)) (HS ((l + 1) % 8)) (HD ((l + 1) % 8)) (HT ((l + 1) % 8)) (HV ((l + 1) % 8)) (HN ((l + 1) % 8)) c t v = fn_KR_change tn cl sz st dp tp va nb l n (HC ((l + 1) % 8)) (HZ ((l + 1) % 8)) (HS ((l + 1) % 8)) (HD ((l + 1) % 8)) (HT ((l + 1) % 8)) (HV ((l + 1) % 8)) (HN ((l + 1) % 8)) 2 c t v := by unfold fn_KR_addSubsidiary; exact cx_id
  rw [hk]
  unfold fn_Md_addSubsidiary
  have hp := pb_2 H hc ht hv
  rw [zk_bd (sm_noCord I M hc)]
  by_cases a : 0 ≤ c ∧ c < sz
  · rw [if_pos a]
    (try simp (disch := omega) only [↓zk_lt, ↓zk_nl, ↓zk_eq, ↓zk_ne, ↓zk_ix, ↓zk_dv, ↓zk_bo, ↓zk_rg, ↓zk_get, ↓zk_set, Option.bind_some])
    rw [zk_bd (sm_noTopic hf.2.2 hw0 ht)]
    by_cases d : 0 ≤ t ∧ t < tn
    · rw [if_pos d]
      (try simp (disch := omega) only [↓zk_lt, ↓zk_nl, ↓zk_eq, ↓zk_ne, ↓zk_ix, ↓zk_dv, ↓zk_bo, ↓zk_rg, ↓zk_get, ↓zk_set, Option.bind_some])
      rw [if_pos (show (0 ≤ c ∧ c < sz) ∧ (0 ≤ t ∧ t < tn) from ⟨a, d⟩)] at hp
      rw [zk_bd (sm_noValue hv)]
      by_cases e : 0 ≤ v ∧ v ≤ 9999
      · rw [if_pos e]
        (try simp (disch := omega) only [↓zk_lt, ↓zk_nl, ↓zk_eq, ↓zk_ne, ↓zk_ix, ↓zk_dv, ↓zk_bo, ↓zk_rg, ↓zk_get, ↓zk_set, Option.bind_some])
        rw [if_pos e] at hp
        obtain ⟨y, hy1, hy2⟩ := sm_maySub H a.1 a.2
        rw [zk_bd hy1]
        unfold fn_Md_addSubsidiary_b43
        rcases hy2 with ⟨rfl, f⟩ | ⟨rfl, f⟩
        · rw [if_pos f] at hp
          obtain ⟨qa, past', pm', b, w', k1, k2, k3, k4⟩ := chg_ok H Hh (p_2 H a.1 a.2 f.1 d e f.2) hp [1, 2, 3]
          refine ⟨qa, b, w', past', pm', 0, k1, ?_, k4⟩
          (try simp (disch := omega) only [↓zk_lt, ↓zk_nl, ↓zk_eq, ↓zk_ne, ↓zk_ix, ↓zk_dv, ↓zk_bo, ↓zk_rg, ↓zk_get, ↓zk_set, Option.bind_some])
          rw [zk_bd sm_fails0]
          (try simp (disch := omega) only [↓zk_lt, ↓zk_nl, ↓zk_eq, ↓zk_ne, ↓zk_ix, ↓zk_dv, ↓zk_bo, ↓zk_rg, ↓zk_get, ↓zk_set, Option.bind_some])
          rw [zk_bd k2, zk_bd k3]
        · rw [if_neg f] at hp
          refine ⟨_, 0, w, past, n, 3, chg_no hp (by omega), ?_, ⟨2, rfl, rfl⟩, rfl, rfl, rfl⟩
          (try simp (disch := omega) only [↓zk_lt, ↓zk_nl, ↓zk_eq, ↓zk_ne, ↓zk_ix, ↓zk_dv, ↓zk_bo, ↓zk_rg, ↓zk_get, ↓zk_set, Option.bind_some])
          rw [zk_bd sm_fails1]
          (try simp (disch := omega) only [↓zk_lt, ↓zk_nl, ↓zk_eq, ↓zk_ne, ↓zk_ix, ↓zk_dv, ↓zk_bo, ↓zk_rg, ↓zk_get, ↓zk_set, Option.bind_some])
      · rw [if_neg e]
        (try simp (disch := omega) only [↓zk_lt, ↓zk_nl, ↓zk_eq, ↓zk_ne, ↓zk_ix, ↓zk_dv, ↓zk_bo, ↓zk_rg, ↓zk_get, ↓zk_set, Option.bind_some])
        rw [if_neg e] at hp
        refine ⟨_, 0, w, past, n, 2, chg_no hp (by omega), ?_, ⟨1, rfl, rfl⟩, rfl, rfl, rfl⟩
        rfl
    · rw [if_neg d]
      (try simp (disch := omega) only [↓zk_lt, ↓zk_nl, ↓zk_eq, ↓zk_ne, ↓zk_ix, ↓zk_dv, ↓zk_bo, ↓zk_rg, ↓zk_get, ↓zk_set, Option.bind_some])
      rw [if_neg (show ¬ ((0 ≤ c ∧ c < sz) ∧ (0 ≤ t ∧ t < tn)) from fun z => d z.2)] at hp
      refine ⟨_, 0, w, past, n, 1, chg_no hp (by omega), ?_, ⟨0, rfl, rfl⟩, rfl, rfl, rfl⟩
      rfl
  · rw [if_neg a]
    (try simp (disch := omega) only [↓zk_lt, ↓zk_nl, ↓zk_eq, ↓zk_ne, ↓zk_ix, ↓zk_dv, ↓zk_bo, ↓zk_rg, ↓zk_get, ↓zk_set, Option.bind_some])
    rw [if_neg (show ¬ ((0 ≤ c ∧ c < sz) ∧ (0 ≤ t ∧ t < tn)) from fun z => a z.1)] at hp
    refine ⟨_, 0, w, past, n, 1, chg_no hp (by omega), ?_, ⟨0, rfl, rfl⟩, rfl, rfl, rfl⟩
    rfl

theorem q_cut (H : pC tn cl sz st dp tp va nb w) (Hh : pH tn l n HC HZ HS HD HT HV HN w past) (hw0 : w 0 = tn) {th : Int} {c : Int} (hc : jk_R c) :
    ∃ qa b w' past' pm' tt, fn_KR_cut tn cl sz st dp tp va nb l n (HC ((l + 1) % 8)) (HZ ((l + 1) % 8)) (HS ((l + 1) % 8)) (HD ((l + 1) % 8)) (HT ((l + 1) % 8)) (HV ((l + 1) % 8)) (HN ((l + 1) % 8)) c = some qa ∧ fn_Md_cut w past n th c = some (b, w', past', pm', tt) ∧ pD [1] tn l n HC HZ HS HD HT HV HN w past qa b w' past' pm' tt := by
  have hf := pC_f H
  have HH := H
  obtain ⟨⟨g, I, M⟩, G⟩ := HH
  have hk : fn_KR_cut tn cl sz st dp tp va nb l n (HC ((l + 1) % 8)) (HZ ((l + 1) % 8)) (HS ((l + 1) % 8)) (HD ((l + 1) % 8)) (HT ((l + 1) % 8)) (HV ((l + 1) % 8)) (HN ((l + 1) % 8)) c = fn_KR_change tn cl sz st dp tp va nb l n (HC ((l + 1) % 8)) (HZ ((l + 1) % 8)) (HS ((l + 1) % 8)) (HD ((l + 1) % 8)) (HT ((l + 1) % 8)) (HV ((l + 1) % 8)) (HN ((l + 1) % 8)) 3 c 0 0 := by unfold fn_KR_cut; exact cx_id
  rw [hk]
  unfold fn_Md_cut
  have hp := pb_3 H hc 0 0
  rw [zk_bd (sm_noCord I M hc)]
  by_cases a : 0 ≤ c ∧ c < sz
  · rw [if_pos a] at hp
    rw [if_pos a]
    (try simp (disch := omega) only [↓zk_lt, ↓zk_nl, ↓zk_eq, ↓zk_ne, ↓zk_ix, ↓zk_dv, ↓zk_bo, ↓zk_rg, ↓zk_get, ↓zk_set, Option.bind_some])
    obtain ⟨qa, past', pm', b, w', k1, k2, k3, k4⟩ := chg_ok H Hh (p_3 H a.1 a.2 0 0) hp [1]
    refine ⟨qa, b, w', past', pm', 0, k1, ?_, k4⟩
    rw [zk_bd k2, zk_bd k3]
  · rw [if_neg a] at hp
    rw [if_neg a]
    (try simp (disch := omega) only [↓zk_lt, ↓zk_nl, ↓zk_eq, ↓zk_ne, ↓zk_ix, ↓zk_dv, ↓zk_bo, ↓zk_rg, ↓zk_get, ↓zk_set, Option.bind_some])
    refine ⟨_, 0, w, past, n, 1, chg_no hp (by omega), ?_, ⟨0, rfl, rfl⟩, rfl, rfl, rfl⟩
    rfl

theorem q_tieTop (H : pC tn cl sz st dp tp va nb w) (Hh : pH tn l n HC HZ HS HD HT HV HN w past) (hw0 : w 0 = tn) {th : Int} {c : Int} (hc : jk_R c) {t : Int} (ht : jk_R t) :
    ∃ qa b w' past' pm' tt, fn_KR_tieTop tn cl sz st dp tp va nb l n (HC ((l + 1) % 8)) (HZ ((l + 1) % 8)) (HS ((l + 1) % 8)) (HD ((l + 1) % 8)) (HT ((l + 1) % 8)) (HV ((l + 1) % 8)) (HN ((l + 1) % 8)) c t = some qa ∧ fn_Md_tieTop w past n th c t = some (b, w', past', pm', tt) ∧ pD [1, 3] tn l n HC HZ HS HD HT HV HN w past qa b w' past' pm' tt := by
  have hf := pC_f H
  have HH := H
  obtain ⟨⟨g, I, M⟩, G⟩ := HH
  have hk : fn_KR_tieTop tn cl sz st dp tp va nb l n (HC ((l + 1) % 8)) (HZ ((l + 1) % 8)) (HS ((l + 1) % 8)) (HD ((l + 1) % 8)) (HT ((l + 1) % 8)) (HV ((l + 1) % 8)) (HN ((l + 1) % 8)) c t = fn_KR_change tn cl sz st dp tp va nb l n (HC ((l + 1) % 8)) (HZ ((l + 1) % 8)) (HS ((l + 1) % 8)) (HD ((l + 1) % 8)) (HT ((l + 1) % 8)) (HV ((l + 1) % 8)) (HN ((l + 1) % 8)) 4 c t 0 := by unfold fn_KR_tieTop; exact cx_id
  rw [hk]
  unfold fn_Md_tieTop
  obtain ⟨p, hp, hpc⟩ := pb_4 H hc ht 0
  rw [zk_bd (sm_noCluster I M hc)]
  by_cases a : 0 ≤ c ∧ c < cl
  · rw [if_pos a]
    (try simp (disch := omega) only [↓zk_lt, ↓zk_nl, ↓zk_eq, ↓zk_ne, ↓zk_ix, ↓zk_dv, ↓zk_bo, ↓zk_rg, ↓zk_get, ↓zk_set, Option.bind_some])
    rw [zk_bd (sm_noTopic hf.2.2 hw0 ht)]
    by_cases d : 0 ≤ t ∧ t < tn
    · rw [if_pos d]
      (try simp (disch := omega) only [↓zk_lt, ↓zk_nl, ↓zk_eq, ↓zk_ne, ↓zk_ix, ↓zk_dv, ↓zk_bo, ↓zk_rg, ↓zk_get, ↓zk_set, Option.bind_some])
      obtain ⟨y, hy1, hy2⟩ := sm_mayTie H a.1 a.2
      rw [zk_bd hy1]
      unfold fn_Md_tieTop_b35
      rcases hpc with ⟨-, z⟩ | ⟨-, ⟨rfl, z⟩ | ⟨rfl, z⟩⟩
      · exact absurd ⟨a, d⟩ z
      · rcases hy2 with ⟨rfl, -⟩ | ⟨-, f⟩
        · have u := z
          unfold ktie at u
          obtain ⟨qa, past', pm', b, w', k1, k2, k3, k4⟩ := chg_ok H Hh (p_4 H a.1 a.2 d u.1 u.2.1 u.2.2.2.2 u.2.2.1 0) hp [1, 3]
          refine ⟨qa, b, w', past', pm', 0, k1, ?_, k4⟩
          (try simp (disch := omega) only [↓zk_lt, ↓zk_nl, ↓zk_eq, ↓zk_ne, ↓zk_ix, ↓zk_dv, ↓zk_bo, ↓zk_rg, ↓zk_get, ↓zk_set, Option.bind_some])
          rw [zk_bd sm_fails0]
          (try simp (disch := omega) only [↓zk_lt, ↓zk_nl, ↓zk_eq, ↓zk_ne, ↓zk_ix, ↓zk_dv, ↓zk_bo, ↓zk_rg, ↓zk_get, ↓zk_set, Option.bind_some])
          rw [zk_bd k2, zk_bd k3]
        · exact absurd z f
      · rcases hy2 with ⟨-, f⟩ | ⟨rfl, -⟩
        · exact absurd f z
        · (try simp (disch := omega) only [↓zk_lt, ↓zk_nl, ↓zk_eq, ↓zk_ne, ↓zk_ix, ↓zk_dv, ↓zk_bo, ↓zk_rg, ↓zk_get, ↓zk_set, Option.bind_some])
          refine ⟨_, 0, w, past, n, 2, chg_no hp (by omega), ?_, ⟨1, rfl, rfl⟩, rfl, rfl, rfl⟩
          rw [zk_bd sm_fails1]
          (try simp (disch := omega) only [↓zk_lt, ↓zk_nl, ↓zk_eq, ↓zk_ne, ↓zk_ix, ↓zk_dv, ↓zk_bo, ↓zk_rg, ↓zk_get, ↓zk_set, Option.bind_some])
    · rw [if_neg d]
      (try simp (disch := omega) only [↓zk_lt, ↓zk_nl, ↓zk_eq, ↓zk_ne, ↓zk_ix, ↓zk_dv, ↓zk_bo, ↓zk_rg, ↓zk_get, ↓zk_set, Option.bind_some])
      rcases hpc with ⟨rfl, z⟩ | ⟨z, -⟩
      · refine ⟨_, 0, w, past, n, 1, chg_no hp (by omega), ?_, ⟨0, rfl, rfl⟩, rfl, rfl, rfl⟩
        rfl
      · exact absurd z.2 d
  · rw [if_neg a]
    (try simp (disch := omega) only [↓zk_lt, ↓zk_nl, ↓zk_eq, ↓zk_ne, ↓zk_ix, ↓zk_dv, ↓zk_bo, ↓zk_rg, ↓zk_get, ↓zk_set, Option.bind_some])
    rcases hpc with ⟨rfl, z⟩ | ⟨z, -⟩
    · refine ⟨_, 0, w, past, n, 1, chg_no hp (by omega), ?_, ⟨0, rfl, rfl⟩, rfl, rfl, rfl⟩
      rfl
    · exact absurd z.1 a

theorem q_setKnots (H : pC tn cl sz st dp tp va nb w) (Hh : pH tn l n HC HZ HS HD HT HV HN w past) (hw0 : w 0 = tn) {th : Int} {c : Int} (hc : jk_R c) {y : Int} (hy : jk_R y) {x : Int} (hx : jk_R x) :
    ∃ qa b w' past' pm' tt, fn_KR_setKnots tn cl sz st dp tp va nb l n (HC ((l + 1) % 8)) (HZ ((l + 1) % 8)) (HS ((l + 1) % 8)) (HD ((l + 1) % 8)) (HT ((l + 1) % 8)) (HV ((l + 1) % 8)) (HN ((l + 1) % 8)) c y x = some qa ∧ fn_Md_setKnots w past n th c y x = some (b, w', past', pm', tt) ∧ pD [1, 2, 3] tn l n HC HZ HS HD HT HV HN w past qa b w' past' pm' tt := by
  have hf := pC_f H
  have HH := H
  obtain ⟨⟨g, I, M⟩, G⟩ := HH
  have hk : fn_KR_setKnots tn cl sz st dp tp va nb l n (HC ((l + 1) % 8)) (HZ ((l + 1) % 8)) (HS ((l + 1) % 8)) (HD ((l + 1) % 8)) (HT ((l + 1) % 8)) (HV ((l + 1) % 8)) (HN ((l + 1) % 8)) c y x = fn_KR_change tn cl sz st dp tp va nb l n (HC ((l + 1) % 8)) (HZ ((l + 1) % 8)) (HS ((l + 1) % 8)) (HD ((l + 1) % 8)) (HT ((l + 1) % 8)) (HV ((l + 1) % 8)) (HN ((l + 1) % 8)) 5 c y x := by unfold fn_KR_setKnots; exact cx_id
  rw [hk]
  unfold fn_Md_setKnots
  have hp := pb_5 H hc hy hx
  rw [zk_bd (sm_noCord I M hc)]
  by_cases a : 0 ≤ c ∧ c < sz
  · have hb := (I.2.2 c a.1 a.2).2.2.2.2.1
    rw [if_pos a] at hp
    rw [if_pos a]
    (try simp (disch := omega) only [↓zk_lt, ↓zk_nl, ↓zk_eq, ↓zk_ne, ↓zk_ix, ↓zk_dv, ↓zk_bo, ↓zk_rg, ↓zk_get, ↓zk_set, Option.bind_some])
    rw [zk_bd (sm_inR hy ⟨by omega, by omega⟩ ⟨by omega, by omega⟩)]
    unfold fn_Md_setKnots_b38 fn_Md_setKnots_b61
    by_cases d : 0 ≤ y ∧ y ≤ 3
    · rw [if_pos d]
      (try simp (disch := omega) only [↓zk_lt, ↓zk_nl, ↓zk_eq, ↓zk_ne, ↓zk_ix, ↓zk_dv, ↓zk_bo, ↓zk_rg, ↓zk_get, ↓zk_set, Option.bind_some])
      rw [zk_bd (sm_inR hx ⟨by omega, by omega⟩ ⟨by omega, by omega⟩)]
      by_cases e : 0 ≤ x ∧ x ≤ 9
      · rw [if_pos (show (0 ≤ y ∧ y ≤ 3) ∧ (0 ≤ x ∧ x ≤ 9) from ⟨d, e⟩)] at hp
        rw [if_pos e]
        (try simp (disch := omega) only [↓zk_lt, ↓zk_nl, ↓zk_eq, ↓zk_ne, ↓zk_ix, ↓zk_dv, ↓zk_bo, ↓zk_rg, ↓zk_get, ↓zk_set, Option.bind_some])
        rw [zk_bd sm_fails0]
        (try simp (disch := omega) only [↓zk_lt, ↓zk_nl, ↓zk_eq, ↓zk_ne, ↓zk_ix, ↓zk_dv, ↓zk_bo, ↓zk_rg, ↓zk_get, ↓zk_set, Option.bind_some])
        rw [zk_bd (M4 I M a.1 a.2)]
        by_cases f : nb c ≤ y
        · rw [if_pos f] at hp
          obtain ⟨qa, past', pm', b, w', k1, k2, k3, k4⟩ := chg_ok H Hh (p_5 H a.1 a.2 d e f) hp [1, 2, 3]
          refine ⟨qa, b, w', past', pm', 0, k1, ?_, k4⟩
          (try simp (disch := omega) only [↓zk_lt, ↓zk_nl, ↓zk_eq, ↓zk_ne, ↓zk_ix, ↓zk_dv, ↓zk_bo, ↓zk_rg, ↓zk_get, ↓zk_set, Option.bind_some])
          rw [zk_bd sm_fails0]
          (try simp (disch := omega) only [↓zk_lt, ↓zk_nl, ↓zk_eq, ↓zk_ne, ↓zk_ix, ↓zk_dv, ↓zk_bo, ↓zk_rg, ↓zk_get, ↓zk_set, Option.bind_some])
          rw [zk_bd k2, zk_bd k3]
        · rw [if_neg f] at hp
          refine ⟨_, 0, w, past, n, 3, chg_no hp (by omega), ?_, ⟨2, rfl, rfl⟩, rfl, rfl, rfl⟩
          (try simp (disch := omega) only [↓zk_lt, ↓zk_nl, ↓zk_eq, ↓zk_ne, ↓zk_ix, ↓zk_dv, ↓zk_bo, ↓zk_rg, ↓zk_get, ↓zk_set, Option.bind_some])
          rw [zk_bd sm_fails1]
          (try simp (disch := omega) only [↓zk_lt, ↓zk_nl, ↓zk_eq, ↓zk_ne, ↓zk_ix, ↓zk_dv, ↓zk_bo, ↓zk_rg, ↓zk_get, ↓zk_set, Option.bind_some])
      · rw [if_neg (show ¬ ((0 ≤ y ∧ y ≤ 3) ∧ (0 ≤ x ∧ x ≤ 9)) from fun z => e z.2)] at hp
        rw [if_neg e]
        (try simp (disch := omega) only [↓zk_lt, ↓zk_nl, ↓zk_eq, ↓zk_ne, ↓zk_ix, ↓zk_dv, ↓zk_bo, ↓zk_rg, ↓zk_get, ↓zk_set, Option.bind_some])
        refine ⟨_, 0, w, past, n, 2, chg_no hp (by omega), ?_, ⟨1, rfl, rfl⟩, rfl, rfl, rfl⟩
        rw [zk_bd sm_fails1]
        (try simp (disch := omega) only [↓zk_lt, ↓zk_nl, ↓zk_eq, ↓zk_ne, ↓zk_ix, ↓zk_dv, ↓zk_bo, ↓zk_rg, ↓zk_get, ↓zk_set, Option.bind_some])
    · rw [if_neg (show ¬ ((0 ≤ y ∧ y ≤ 3) ∧ (0 ≤ x ∧ x ≤ 9)) from fun z => d z.1)] at hp
      rw [if_neg d]
      (try simp (disch := omega) only [↓zk_lt, ↓zk_nl, ↓zk_eq, ↓zk_ne, ↓zk_ix, ↓zk_dv, ↓zk_bo, ↓zk_rg, ↓zk_get, ↓zk_set, Option.bind_some])
      refine ⟨_, 0, w, past, n, 2, chg_no hp (by omega), ?_, ⟨1, rfl, rfl⟩, rfl, rfl, rfl⟩
      rw [zk_bd sm_fails1]
      (try simp (disch := omega) only [↓zk_lt, ↓zk_nl, ↓zk_eq, ↓zk_ne, ↓zk_ix, ↓zk_dv, ↓zk_bo, ↓zk_rg, ↓zk_get, ↓zk_set, Option.bind_some])
  · rw [if_neg a] at hp
    rw [if_neg a]
    (try simp (disch := omega) only [↓zk_lt, ↓zk_nl, ↓zk_eq, ↓zk_ne, ↓zk_ix, ↓zk_dv, ↓zk_bo, ↓zk_rg, ↓zk_get, ↓zk_set, Option.bind_some])
    refine ⟨_, 0, w, past, n, 1, chg_no hp (by omega), ?_, ⟨0, rfl, rfl⟩, rfl, rfl, rfl⟩
    rfl

theorem q_nibble (H : pC tn cl sz st dp tp va nb w) (Hh : pH tn l n HC HZ HS HD HT HV HN w past) (hw0 : w 0 = tn) {th : Int} {c : Int} (hc : jk_R c) {y : Int} (hy : jk_R y) :
    ∃ qa b w' past' pm' tt, fn_KR_nibble tn cl sz st dp tp va nb l n (HC ((l + 1) % 8)) (HZ ((l + 1) % 8)) (HS ((l + 1) % 8)) (HD ((l + 1) % 8)) (HT ((l + 1) % 8)) (HV ((l + 1) % 8)) (HN ((l + 1) % 8)) c y = some qa ∧ fn_Md_nibble w past n th c y = some (b, w', past', pm', tt) ∧ pD [1, 2, 3] tn l n HC HZ HS HD HT HV HN w past qa b w' past' pm' tt := by
  have hf := pC_f H
  have HH := H
  obtain ⟨⟨g, I, M⟩, G⟩ := HH
  have hk : fn_KR_nibble tn cl sz st dp tp va nb l n (HC ((l + 1) % 8)) (HZ ((l + 1) % 8)) (HS ((l + 1) % 8)) (HD ((l + 1) % 8)) (HT ((l + 1) % 8)) (HV ((l + 1) % 8)) (HN ((l + 1) % 8)) c y = fn_KR_change tn cl sz st dp tp va nb l n (HC ((l + 1) % 8)) (HZ ((l + 1) % 8)) (HS ((l + 1) % 8)) (HD ((l + 1) % 8)) (HT ((l + 1) % 8)) (HV ((l + 1) % 8)) (HN ((l + 1) % 8)) 6 c y 0 := by unfold fn_KR_nibble; exact cx_id
  rw [hk]
  unfold fn_Md_nibble
  have hp := pb_6 H hc hy 0
  rw [zk_bd (sm_noCord I M hc)]
  by_cases a : 0 ≤ c ∧ c < sz
  · have hb := (I.2.2 c a.1 a.2).2.2.2.2.1
    rw [if_pos a] at hp
    rw [if_pos a]
    (try simp (disch := omega) only [↓zk_lt, ↓zk_nl, ↓zk_eq, ↓zk_ne, ↓zk_ix, ↓zk_dv, ↓zk_bo, ↓zk_rg, ↓zk_get, ↓zk_set, Option.bind_some])
    rw [zk_bd (sm_inR hy ⟨by omega, by omega⟩ ⟨by omega, by omega⟩)]
    unfold fn_Md_nibble_b28 fn_Md_nibble_b51
    by_cases d : 1 ≤ y ∧ y ≤ 4
    · rw [if_pos d] at hp
      rw [if_pos d]
      (try simp (disch := omega) only [↓zk_lt, ↓zk_nl, ↓zk_eq, ↓zk_ne, ↓zk_ix, ↓zk_dv, ↓zk_bo, ↓zk_rg, ↓zk_get, ↓zk_set, Option.bind_some])
      rw [zk_bd sm_fails0]
      (try simp (disch := omega) only [↓zk_lt, ↓zk_nl, ↓zk_eq, ↓zk_ne, ↓zk_ix, ↓zk_dv, ↓zk_bo, ↓zk_rg, ↓zk_get, ↓zk_set, Option.bind_some])
      rw [zk_bd (M4 I M a.1 a.2)]
      by_cases f : nb c ≤ y
      · rw [if_pos f] at hp
        obtain ⟨qa, past', pm', b, w', k1, k2, k3, k4⟩ := chg_ok H Hh (p_6 H a.1 a.2 d f 0) hp [1, 2, 3]
        refine ⟨qa, b, w', past', pm', 0, k1, ?_, k4⟩
        (try simp (disch := omega) only [↓zk_lt, ↓zk_nl, ↓zk_eq, ↓zk_ne, ↓zk_ix, ↓zk_dv, ↓zk_bo, ↓zk_rg, ↓zk_get, ↓zk_set, Option.bind_some])
        rw [zk_bd sm_fails0]
        (try simp (disch := omega) only [↓zk_lt, ↓zk_nl, ↓zk_eq, ↓zk_ne, ↓zk_ix, ↓zk_dv, ↓zk_bo, ↓zk_rg, ↓zk_get, ↓zk_set, Option.bind_some])
        rw [zk_bd k2, zk_bd k3]
      · rw [if_neg f] at hp
        refine ⟨_, 0, w, past, n, 3, chg_no hp (by omega), ?_, ⟨2, rfl, rfl⟩, rfl, rfl, rfl⟩
        (try simp (disch := omega) only [↓zk_lt, ↓zk_nl, ↓zk_eq, ↓zk_ne, ↓zk_ix, ↓zk_dv, ↓zk_bo, ↓zk_rg, ↓zk_get, ↓zk_set, Option.bind_some])
        rw [zk_bd sm_fails1]
        (try simp (disch := omega) only [↓zk_lt, ↓zk_nl, ↓zk_eq, ↓zk_ne, ↓zk_ix, ↓zk_dv, ↓zk_bo, ↓zk_rg, ↓zk_get, ↓zk_set, Option.bind_some])
    · rw [if_neg d] at hp
      rw [if_neg d]
      (try simp (disch := omega) only [↓zk_lt, ↓zk_nl, ↓zk_eq, ↓zk_ne, ↓zk_ix, ↓zk_dv, ↓zk_bo, ↓zk_rg, ↓zk_get, ↓zk_set, Option.bind_some])
      refine ⟨_, 0, w, past, n, 2, chg_no hp (by omega), ?_, ⟨1, rfl, rfl⟩, rfl, rfl, rfl⟩
      rw [zk_bd sm_fails1]
      (try simp (disch := omega) only [↓zk_lt, ↓zk_nl, ↓zk_eq, ↓zk_ne, ↓zk_ix, ↓zk_dv, ↓zk_bo, ↓zk_rg, ↓zk_get, ↓zk_set, Option.bind_some])
  · rw [if_neg a] at hp
    rw [if_neg a]
    (try simp (disch := omega) only [↓zk_lt, ↓zk_nl, ↓zk_eq, ↓zk_ne, ↓zk_ix, ↓zk_dv, ↓zk_bo, ↓zk_rg, ↓zk_get, ↓zk_set, Option.bind_some])
    refine ⟨_, 0, w, past, n, 1, chg_no hp (by omega), ?_, ⟨0, rfl, rfl⟩, rfl, rfl, rfl⟩
    rfl

theorem q_dye (H : pC tn cl sz st dp tp va nb w) (Hh : pH tn l n HC HZ HS HD HT HV HN w past) (hw0 : w 0 = tn) {th : Int} {c : Int} (hc : jk_R c) {t : Int} (ht : jk_R t) :
    ∃ qa b w' past' pm' tt, fn_KR_dye tn cl sz st dp tp va nb l n (HC ((l + 1) % 8)) (HZ ((l + 1) % 8)) (HS ((l + 1) % 8)) (HD ((l + 1) % 8)) (HT ((l + 1) % 8)) (HV ((l + 1) % 8)) (HN ((l + 1) % 8)) c t = some qa ∧ fn_Md_dye w past n th c t = some (b, w', past', pm', tt) ∧ pD [1] tn l n HC HZ HS HD HT HV HN w past qa b w' past' pm' tt := by
  have hf := pC_f H
  have HH := H
  obtain ⟨⟨g, I, M⟩, G⟩ := HH
  have hk : fn_KR_dye tn cl sz st dp tp va nb l n (HC ((l + 1) % 8)) (HZ ((l + 1) % 8)) (HS ((l + 1) % 8)) (HD ((l + 1) % 8)) (HT ((l + 1) % 8)) (HV ((l + 1) % 8)) (HN ((l + 1) % 8)) c t = fn_KR_change tn cl sz st dp tp va nb l n (HC ((l + 1) % 8)) (HZ ((l + 1) % 8)) (HS ((l + 1) % 8)) (HD ((l + 1) % 8)) (HT ((l + 1) % 8)) (HV ((l + 1) % 8)) (HN ((l + 1) % 8)) 7 c t 0 := by unfold fn_KR_dye; exact cx_id
  rw [hk]
  unfold fn_Md_dye
  have hp := pb_7 H hc ht 0
  rw [zk_bd (sm_noCord I M hc)]
  by_cases a : 0 ≤ c ∧ c < sz
  · rw [if_pos a]
    (try simp (disch := omega) only [↓zk_lt, ↓zk_nl, ↓zk_eq, ↓zk_ne, ↓zk_ix, ↓zk_dv, ↓zk_bo, ↓zk_rg, ↓zk_get, ↓zk_set, Option.bind_some])
    rw [zk_bd (sm_noTopic hf.2.2 hw0 ht)]
    by_cases d : 0 ≤ t ∧ t < tn
    · rw [if_pos d]
      (try simp (disch := omega) only [↓zk_lt, ↓zk_nl, ↓zk_eq, ↓zk_ne, ↓zk_ix, ↓zk_dv, ↓zk_bo, ↓zk_rg, ↓zk_get, ↓zk_set, Option.bind_some])
      rw [if_pos (show (0 ≤ c ∧ c < sz) ∧ (0 ≤ t ∧ t < tn) from ⟨a, d⟩)] at hp
      obtain ⟨qa, past', pm', b, w', k1, k2, k3, k4⟩ := chg_ok H Hh (p_7 H a.1 a.2 d 0) hp [1]
      refine ⟨qa, b, w', past', pm', 0, k1, ?_, k4⟩
      rw [zk_bd k2, zk_bd k3]
    · rw [if_neg d]
      (try simp (disch := omega) only [↓zk_lt, ↓zk_nl, ↓zk_eq, ↓zk_ne, ↓zk_ix, ↓zk_dv, ↓zk_bo, ↓zk_rg, ↓zk_get, ↓zk_set, Option.bind_some])
      rw [if_neg (show ¬ ((0 ≤ c ∧ c < sz) ∧ (0 ≤ t ∧ t < tn)) from fun z => d z.2)] at hp
      refine ⟨_, 0, w, past, n, 1, chg_no hp (by omega), ?_, ⟨0, rfl, rfl⟩, rfl, rfl, rfl⟩
      rfl
  · rw [if_neg a]
    (try simp (disch := omega) only [↓zk_lt, ↓zk_nl, ↓zk_eq, ↓zk_ne, ↓zk_ix, ↓zk_dv, ↓zk_bo, ↓zk_rg, ↓zk_get, ↓zk_set, Option.bind_some])
    rw [if_neg (show ¬ ((0 ≤ c ∧ c < sz) ∧ (0 ≤ t ∧ t < tn)) from fun z => a z.1)] at hp
    refine ⟨_, 0, w, past, n, 1, chg_no hp (by omega), ?_, ⟨0, rfl, rfl⟩, rfl, rfl, rfl⟩
    rfl

theorem q_repair (H : pC tn cl sz st dp tp va nb w) (Hh : pH tn l n HC HZ HS HD HT HV HN w past) (hw0 : w 0 = tn) {th : Int} {c : Int} (hc : jk_R c) :
    ∃ qa b w' past' pm' tt, fn_KR_repair tn cl sz st dp tp va nb l n (HC ((l + 1) % 8)) (HZ ((l + 1) % 8)) (HS ((l + 1) % 8)) (HD ((l + 1) % 8)) (HT ((l + 1) % 8)) (HV ((l + 1) % 8)) (HN ((l + 1) % 8)) c = some qa ∧ fn_Md_repair w past n th c = some (b, w', past', pm', tt) ∧ pD [1, 3] tn l n HC HZ HS HD HT HV HN w past qa b w' past' pm' tt := by
  have hf := pC_f H
  have HH := H
  obtain ⟨⟨g, I, M⟩, G⟩ := HH
  have hk : fn_KR_repair tn cl sz st dp tp va nb l n (HC ((l + 1) % 8)) (HZ ((l + 1) % 8)) (HS ((l + 1) % 8)) (HD ((l + 1) % 8)) (HT ((l + 1) % 8)) (HV ((l + 1) % 8)) (HN ((l + 1) % 8)) c = fn_KR_change tn cl sz st dp tp va nb l n (HC ((l + 1) % 8)) (HZ ((l + 1) % 8)) (HS ((l + 1) % 8)) (HD ((l + 1) % 8)) (HT ((l + 1) % 8)) (HV ((l + 1) % 8)) (HN ((l + 1) % 8)) 8 c 0 0 := by unfold fn_KR_repair; exact cx_id
  rw [hk]
  unfold fn_Md_repair
  have hp := pb_8 H hc 0 0
  have hr := kob_r (st := st) (dp := dp) (va := va) (nb := nb) (c := c)
  rw [zk_bd (sm_noCluster I M hc)]
  by_cases a : 0 ≤ c ∧ c < cl
  · rw [if_pos a] at hp
    rw [if_pos a]
    (try simp (disch := omega) only [↓zk_lt, ↓zk_nl, ↓zk_eq, ↓zk_ne, ↓zk_ix, ↓zk_dv, ↓zk_bo, ↓zk_rg, ↓zk_get, ↓zk_set, Option.bind_some])
    rw [zk_bd (sm_ob I M a.1 a.2)]
    unfold fn_Md_repair_b27
    by_cases f : kob st dp va nb c = 0
    · rw [if_pos f] at hp
      obtain ⟨qa, past', pm', b, w', k1, k2, k3, k4⟩ := chg_ok H Hh (p_8 H a.1 a.2 f 0 0) hp [1, 3]
      refine ⟨qa, b, w', past', pm', 0, k1, ?_, k4⟩
      (try simp (disch := omega) only [↓zk_lt, ↓zk_nl, ↓zk_eq, ↓zk_ne, ↓zk_ix, ↓zk_dv, ↓zk_bo, ↓zk_rg, ↓zk_get, ↓zk_set, Option.bind_some])
      rw [zk_bd sm_fails0]
      (try simp (disch := omega) only [↓zk_lt, ↓zk_nl, ↓zk_eq, ↓zk_ne, ↓zk_ix, ↓zk_dv, ↓zk_bo, ↓zk_rg, ↓zk_get, ↓zk_set, Option.bind_some])
      rw [zk_bd k2, zk_bd k3]
    · rw [if_neg f] at hp
      refine ⟨_, 0, w, past, n, 2, chg_no hp (by omega), ?_, ⟨1, rfl, rfl⟩, rfl, rfl, rfl⟩
      (try simp (disch := omega) only [↓zk_lt, ↓zk_nl, ↓zk_eq, ↓zk_ne, ↓zk_ix, ↓zk_dv, ↓zk_bo, ↓zk_rg, ↓zk_get, ↓zk_set, Option.bind_some])
      rw [zk_bd sm_fails1]
      (try simp (disch := omega) only [↓zk_lt, ↓zk_nl, ↓zk_eq, ↓zk_ne, ↓zk_ix, ↓zk_dv, ↓zk_bo, ↓zk_rg, ↓zk_get, ↓zk_set, Option.bind_some])
  · rw [if_neg a] at hp
    rw [if_neg a]
    (try simp (disch := omega) only [↓zk_lt, ↓zk_nl, ↓zk_eq, ↓zk_ne, ↓zk_ix, ↓zk_dv, ↓zk_bo, ↓zk_rg, ↓zk_get, ↓zk_set, Option.bind_some])
    refine ⟨_, 0, w, past, n, 1, chg_no hp (by omega), ?_, ⟨0, rfl, rfl⟩, rfl, rfl, rfl⟩
    rfl

theorem q_undo (H : pC tn cl sz st dp tp va nb w) (Hh : pH tn l n HC HZ HS HD HT HV HN w past) {th : Int} :
    (n = 0 ∧ fn_KR_undo cl sz st dp tp va nb l n (HC l) (HZ l) (HS l) (HD l) (HT l) (HV l) (HN l) = some (.inl 4) ∧ fn_Md_undo w past n th = some (0, w, n, 1)) ∨
    (∃ c1 z1 s1 d1 t1 v1 n1 w', fn_KR_undo cl sz st dp tp va nb l n (HC l) (HZ l) (HS l) (HD l) (HT l) (HV l) (HN l) = some (.inr (n - 1, c1, z1, s1, d1, t1, v1, n1, (l + 8 - 1) % 8, n - 1)) ∧ fn_Md_undo w past n th = some (n - 1, w', n - 1, 0) ∧ jk_R (n - 1) ∧
      pC tn c1 z1 s1 d1 t1 v1 n1 w' ∧ pU w w' ∧ pH tn ((l + 8 - 1) % 8) (n - 1) HC HZ HS HD HT HV HN w' past) := by
  obtain ⟨hl, hn, hh⟩ := Hh
  unfold fn_KR_undo fn_Md_undo fn_Md_undo_b18
  by_cases e : n = 0
  · left
    refine ⟨e, ?_, ?_⟩
    · (try simp (disch := omega) only [↓zk_lt, ↓zk_nl, ↓zk_eq, ↓zk_ne, ↓zk_ix, ↓zk_dv, ↓zk_bo, ↓zk_rg, ↓zk_get, ↓zk_set, Option.bind_some])
    · (try simp (disch := omega) only [↓zk_lt, ↓zk_nl, ↓zk_eq, ↓zk_ne, ↓zk_ix, ↓zk_dv, ↓zk_bo, ↓zk_rg, ↓zk_get, ↓zk_set, Option.bind_some])
      rw [zk_bd sm_fails1]
      (try simp (disch := omega) only [↓zk_lt, ↓zk_nl, ↓zk_eq, ↓zk_ne, ↓zk_ix, ↓zk_dv, ↓zk_bo, ↓zk_rg, ↓zk_get, ↓zk_set, Option.bind_some])
  · right
    have e0 : hsl l 0 = l := by unfold hsl; omega
    obtain ⟨a1, a2⟩ := hh 0 (by omega) (by omega)
    rw [e0] at a1
    have hC := pC_cpy (a1 := st) (a2 := dp) (a3 := tp) (a4 := va) (a5 := nb) a1
    have e2 : ∀ x, 0 ≤ x → x < 259 → blk past w (259 * (n - 1)) 0 x = past (259 * (n - 1 - 0) + x) := fun x h5 h6 => by
      unfold blk
      rw [if_pos (by omega)]
      congr 1
      omega
    have hu : pU w (blk past w (259 * (n - 1)) 0) := ⟨(e2 0 (by omega) (by omega)).trans a2.1, fun i h1 h2 => (e2 i (by omega) (by omega)).trans (a2.2 i h1 h2)⟩
    refine ⟨_, _, _, _, _, _, _, _, ?_, ?_, ⟨by omega, by omega⟩, pC_ext hC (fun _ _ _ => rfl) (fun _ _ _ => rfl) (fun _ _ _ => rfl) (fun _ _ _ => rfl) (fun _ _ _ => rfl) e2, hu, by omega, by omega, fun i h1 h2 => ?_⟩
    · unfold fn_History_pop
      (try simp (disch := omega) only [↓zk_lt, ↓zk_nl, ↓zk_eq, ↓zk_ne, ↓zk_ix, ↓zk_dv, ↓zk_bo, ↓zk_rg, ↓zk_get, ↓zk_set, Option.bind_some])
      rw [zk_bd sp_ccpy]
      unfold fn_History_pop_b35
      (try simp (disch := omega) only [↓zk_lt, ↓zk_nl, ↓zk_eq, ↓zk_ne, ↓zk_ix, ↓zk_dv, ↓zk_bo, ↓zk_rg, ↓zk_get, ↓zk_set, Option.bind_some])
    · (try simp (disch := omega) only [↓zk_lt, ↓zk_nl, ↓zk_eq, ↓zk_ne, ↓zk_ix, ↓zk_dv, ↓zk_bo, ↓zk_rg, ↓zk_get, ↓zk_set, Option.bind_some])
      rw [zk_bd sm_fails0]
      (try simp (disch := omega) only [↓zk_lt, ↓zk_nl, ↓zk_eq, ↓zk_ne, ↓zk_ix, ↓zk_dv, ↓zk_bo, ↓zk_rg, ↓zk_get, ↓zk_set, Option.bind_some])
      rw [zk_bd (sm_cpy (by omega) (by omega))]
    · have e3 : hsl ((l + 8 - 1) % 8) i = hsl l (i + 1) := by unfold hsl; omega
      obtain ⟨b1, b2⟩ := hh (i + 1) (by omega) (by omega)
      rw [e3, show n - 1 - 1 - i = n - 1 - (i + 1) by omega]
      exact ⟨b1, pU_sw hu b2⟩
theorem q_saveState (H : pC tn cl sz st dp tp va nb w) {c1 z1 h0 : Int} {a1 a2 a3 a4 a5 sv : Int → Int} {is th : Int} : ∃ s1 d1 t1 v1 n1 sv', fn_KR_saveState cl sz st dp tp va nb c1 z1 a1 a2 a3 a4 a5 h0 = some (sz, cl, sz, s1, d1, t1, v1, n1, 1) ∧ fn_Md_saveState w sv is th = some (sz, sv', 1, 0) ∧ pC tn cl sz s1 d1 t1 v1 n1 sv' ∧ pU w sv' := by
  have HH := H
  obtain ⟨⟨g, I, M⟩, G⟩ := HH
  have hw2 := M.2.1
  have e2 : ∀ x, 0 ≤ x → x < 259 → blk w sv 0 0 x = w x := fun x h5 h6 => by
    unfold blk
    rw [if_pos (by omega)]
    congr 1
    omega
  refine ⟨_, _, _, _, _, blk w sv 0 0, ?_, ?_, pC_ext (pC_cpy (a1 := a1) (a2 := a2) (a3 := a3) (a4 := a4) (a5 := a5) H) (fun _ _ _ => rfl) (fun _ _ _ => rfl) (fun _ _ _ => rfl) (fun _ _ _ => rfl) (fun _ _ _ => rfl) e2, e2 0 (by omega) (by omega), fun i h1 h2 => e2 i (by omega) (by omega)⟩
  · unfold fn_KR_saveState
    rw [zk_bd sp_ccpy]
  · unfold fn_Md_saveState
    rw [zk_bd (sm_cpy (by omega) (by omega))]
    (try simp (disch := omega) only [↓zk_lt, ↓zk_nl, ↓zk_eq, ↓zk_ne, ↓zk_ix, ↓zk_dv, ↓zk_bo, ↓zk_rg, ↓zk_get, ↓zk_set, Option.bind_some])
    rw [hw2]
theorem q_restoreState {c1 z1 : Int} {a1 a2 a3 a4 a5 sv : Int → Int} {hS n0 m0 th : Int} (hb : hS = 0 ∨ (hS = 1 ∧ pC tn c1 z1 a1 a2 a3 a4 a5 sv ∧ pU w sv)) :
    (hS = 0 ∧ fn_KR_restoreState cl sz st dp tp va nb c1 z1 a1 a2 a3 a4 a5 n0 hS = some (.inl 4) ∧ fn_Md_restoreState w sv m0 hS th = some (0, w, m0, 1)) ∨
    (hS = 1 ∧ ∃ s1 d1 t1 v1 n1 w', fn_KR_restoreState cl sz st dp tp va nb c1 z1 a1 a2 a3 a4 a5 n0 hS = some (.inr (z1, c1, z1, s1, d1, t1, v1, n1, 0)) ∧ fn_Md_restoreState w sv m0 hS th = some (z1, w', 0, 0) ∧ jk_R z1 ∧ pC tn c1 z1 s1 d1 t1 v1 n1 w' ∧ pU w w' ∧ pU w' sv) := by
  unfold fn_KR_restoreState fn_Md_restoreState fn_Md_restoreState_b18
  rcases hb with rfl | ⟨rfl, H, hu⟩
  · left
    refine ⟨rfl, ?_, ?_⟩
    · (try simp (disch := omega) only [↓zk_lt, ↓zk_nl, ↓zk_eq, ↓zk_ne, ↓zk_ix, ↓zk_dv, ↓zk_bo, ↓zk_rg, ↓zk_get, ↓zk_set, Option.bind_some])
    · (try simp (disch := omega) only [↓zk_lt, ↓zk_nl, ↓zk_eq, ↓zk_ne, ↓zk_ix, ↓zk_dv, ↓zk_bo, ↓zk_rg, ↓zk_get, ↓zk_set, Option.bind_some])
      rw [zk_bd sm_fails1]
      (try simp (disch := omega) only [↓zk_lt, ↓zk_nl, ↓zk_eq, ↓zk_ne, ↓zk_ix, ↓zk_dv, ↓zk_bo, ↓zk_rg, ↓zk_get, ↓zk_set, Option.bind_some])
  · right
    have HH := H
    obtain ⟨⟨g, I, M⟩, G⟩ := HH
    have hz := I.1.2.1
    have hw2 := M.2.1
    have e2 : ∀ x, 0 ≤ x → x < 259 → blk sv w 0 0 x = sv x := fun x h5 h6 => by
      unfold blk
      rw [if_pos (by omega)]
      congr 1
      omega
    refine ⟨rfl, _, _, _, _, _, blk sv w 0 0, ?_, ?_, ⟨by omega, by omega⟩, pC_ext (pC_cpy (a1 := st) (a2 := dp) (a3 := tp) (a4 := va) (a5 := nb) H) (fun _ _ _ => rfl) (fun _ _ _ => rfl) (fun _ _ _ => rfl) (fun _ _ _ => rfl) (fun _ _ _ => rfl) e2, ?_, ?_⟩
    · (try simp (disch := omega) only [↓zk_lt, ↓zk_nl, ↓zk_eq, ↓zk_ne, ↓zk_ix, ↓zk_dv, ↓zk_bo, ↓zk_rg, ↓zk_get, ↓zk_set, Option.bind_some])
      rw [zk_bd sp_ccpy]
      unfold fn_History_clear
      rfl
    · (try simp (disch := omega) only [↓zk_lt, ↓zk_nl, ↓zk_eq, ↓zk_ne, ↓zk_ix, ↓zk_dv, ↓zk_bo, ↓zk_rg, ↓zk_get, ↓zk_set, Option.bind_some])
      rw [zk_bd sm_fails0]
      (try simp (disch := omega) only [↓zk_lt, ↓zk_nl, ↓zk_eq, ↓zk_ne, ↓zk_ix, ↓zk_dv, ↓zk_bo, ↓zk_rg, ↓zk_get, ↓zk_set, Option.bind_some])
      rw [zk_bd (sm_cpy (by omega) (by omega))]
      (try simp (disch := omega) only [↓zk_lt, ↓zk_nl, ↓zk_eq, ↓zk_ne, ↓zk_ix, ↓zk_dv, ↓zk_bo, ↓zk_rg, ↓zk_get, ↓zk_set, Option.bind_some])
      rw [e2 2 (by omega) (by omega), hw2]
    · exact ⟨(e2 0 (by omega) (by omega)).trans hu.1, fun i h1 h2 => (e2 i (by omega) (by omega)).trans (hu.2 i h1 h2)⟩
    · exact ⟨(e2 0 (by omega) (by omega)).symm, fun i h1 h2 => (e2 i (by omega) (by omega)).symm⟩

end PD1
