/-! what stands against a change -/
section PC1
variable {tn cl sz l n : Int} {HC HZ : Int → Int} {HS HD HT HV HN : Int → Int → Int} {st dp tp va nb w past : Int → Int}
theorem pC_f (H : pC tn cl sz st dp tp va nb w) : (0 ≤ cl ∧ cl ≤ 6) ∧ (0 ≤ sz ∧ sz ≤ 40) ∧ (0 ≤ tn ∧ tn ≤ 8) := by
  obtain ⟨⟨g, I, M⟩, G⟩ := H
  exact I.1
theorem pb_0 (H : pC tn cl sz st dp tp va nb w) (A B C : Int) : fn_KR_problemOf tn cl sz st dp va nb 0 A B C = some (if cl < 6 then 0 else 3) := by
  have := pC_f H
  unfold fn_KR_problemOf
  by_cases e : cl < 6
  · rw [if_pos e]; (try simp (disch := omega) only [↓zk_lt, ↓zk_nl, ↓zk_eq, ↓zk_ne, ↓zk_ix, ↓zk_dv, ↓zk_bo, ↓zk_rg, ↓zk_get, ↓zk_set, Option.bind_some])
  · rw [if_neg e]; (try simp (disch := omega) only [↓zk_lt, ↓zk_nl, ↓zk_eq, ↓zk_ne, ↓zk_ix, ↓zk_dv, ↓zk_bo, ↓zk_rg, ↓zk_get, ↓zk_set, Option.bind_some])
theorem pb_new (H : pC tn cl sz st dp tp va nb w) {a p t v : Int} (ha : a = 0 ∨ a = 1) (hp : p = 0 ∨ p = 1) (ht : jk_R t) (hv : jk_R v) : fn_KR_newCordProblem tn sz a p t v = some (if a = 1 ∧ (0 ≤ t ∧ t < tn) then (if 0 ≤ v ∧ v ≤ 9999 then (if p = 1 ∧ sz < 40 then 0 else 3) else 2) else 1) := by
  have hf := pC_f H
  unfold fn_KR_newCordProblem
  rcases ha with rfl | rfl
  · (try simp (disch := omega) only [↓zk_lt, ↓zk_nl, ↓zk_eq, ↓zk_ne, ↓zk_ix, ↓zk_dv, ↓zk_bo, ↓zk_rg, ↓zk_get, ↓zk_set, Option.bind_some]); rw [if_neg (by omega)]
  · (try simp (disch := omega) only [↓zk_lt, ↓zk_nl, ↓zk_eq, ↓zk_ne, ↓zk_ix, ↓zk_dv, ↓zk_bo, ↓zk_rg, ↓zk_get, ↓zk_set, Option.bind_some])
    rw [zk_bd (sp_hasT hf.2.2 ht)]
    by_cases e : 0 ≤ t ∧ t < tn
    · rw [if_pos e]
      (try simp (disch := omega) only [↓zk_lt, ↓zk_nl, ↓zk_eq, ↓zk_ne, ↓zk_ix, ↓zk_dv, ↓zk_bo, ↓zk_rg, ↓zk_get, ↓zk_set, Option.bind_some])
      rw [zk_bd (sp_val hv), if_pos (show True ∧ 0 ≤ t ∧ t < tn from ⟨trivial, e⟩)]
      by_cases e2 : 0 ≤ v ∧ v ≤ 9999
      · rw [if_pos e2, if_pos e2]
        (try simp (disch := omega) only [↓zk_lt, ↓zk_nl, ↓zk_eq, ↓zk_ne, ↓zk_ix, ↓zk_dv, ↓zk_bo, ↓zk_rg, ↓zk_get, ↓zk_set, Option.bind_some])
        rcases hp with rfl | rfl
        · (try simp (disch := omega) only [↓zk_lt, ↓zk_nl, ↓zk_eq, ↓zk_ne, ↓zk_ix, ↓zk_dv, ↓zk_bo, ↓zk_rg, ↓zk_get, ↓zk_set, Option.bind_some]); rw [if_neg (by omega)]
        · by_cases e3 : sz < 40
          · (try simp (disch := omega) only [↓zk_lt, ↓zk_nl, ↓zk_eq, ↓zk_ne, ↓zk_ix, ↓zk_dv, ↓zk_bo, ↓zk_rg, ↓zk_get, ↓zk_set, Option.bind_some]); first | done | rw [if_pos (by omega)] | simp [e3]
          · (try simp (disch := omega) only [↓zk_lt, ↓zk_nl, ↓zk_eq, ↓zk_ne, ↓zk_ix, ↓zk_dv, ↓zk_bo, ↓zk_rg, ↓zk_get, ↓zk_set, Option.bind_some]); first | done | rw [if_neg (by omega)] | simp [e3]
      · rw [if_neg e2, if_neg e2]
        (try simp (disch := omega) only [↓zk_lt, ↓zk_nl, ↓zk_eq, ↓zk_ne, ↓zk_ix, ↓zk_dv, ↓zk_bo, ↓zk_rg, ↓zk_get, ↓zk_set, Option.bind_some])
    · rw [if_neg e]
      (try simp (disch := omega) only [↓zk_lt, ↓zk_nl, ↓zk_eq, ↓zk_ne, ↓zk_ix, ↓zk_dv, ↓zk_bo, ↓zk_rg, ↓zk_get, ↓zk_set, Option.bind_some])
      rw [if_neg (by omega)]
theorem pb_1 (H : pC tn cl sz st dp tp va nb w) {c t v : Int} (hc : jk_R c) (ht : jk_R t) (hv : jk_R v) : fn_KR_problemOf tn cl sz st dp va nb 1 c t v = some (if (0 ≤ c ∧ c < cl) ∧ (0 ≤ t ∧ t < tn) then (if 0 ≤ v ∧ v ≤ 9999 then (if sz < 40 then 0 else 3) else 2) else 1) := by
  have hf := pC_f H
  unfold fn_KR_problemOf
  (try simp (disch := omega) only [↓zk_lt, ↓zk_nl, ↓zk_eq, ↓zk_ne, ↓zk_ix, ↓zk_dv, ↓zk_bo, ↓zk_rg, ↓zk_get, ↓zk_set, Option.bind_some])
  rw [zk_bd (sp_hasC hf.1 hc), zk_bd (pb_new H (by split <;> simp) (Or.inr rfl) ht hv)]
  congr 1
  by_cases e : 0 ≤ c ∧ c < cl
  · rw [if_pos e]; simp [e]
  · rw [if_neg e]; simp [e]
theorem sp_getR {k : Int} {f : Int → Int} (hk : jk_R k) : fn_Row_get 40 f k = some (if 0 ≤ k ∧ k < 40 then f k else 0) := by
  have h1 := hk.1
  have h2 := hk.2
  unfold fn_Row_get
  by_cases e : 0 ≤ k
  · by_cases e2 : k < 40
    · (try simp (disch := omega) only [↓zk_lt, ↓zk_nl, ↓zk_eq, ↓zk_ne, ↓zk_ix, ↓zk_dv, ↓zk_bo, ↓zk_rg, ↓zk_get, ↓zk_set, Option.bind_some]); rw [if_pos ⟨e, e2⟩]
    · (try simp (disch := omega) only [↓zk_lt, ↓zk_nl, ↓zk_eq, ↓zk_ne, ↓zk_ix, ↓zk_dv, ↓zk_bo, ↓zk_rg, ↓zk_get, ↓zk_set, Option.bind_some]); rw [if_neg (by omega)]
  · (try simp (disch := omega) only [↓zk_lt, ↓zk_nl, ↓zk_eq, ↓zk_ne, ↓zk_ix, ↓zk_dv, ↓zk_bo, ↓zk_rg, ↓zk_get, ↓zk_set, Option.bind_some]); rw [if_neg (by omega)]
theorem sp_chm (H : pC tn cl sz st dp tp va nb w) {k : Int} (hk : jk_R k) : ∃ a, fn_Cords_canHoldMore dp k = some a ∧ (a = 0 ∨ a = 1) ∧ (0 ≤ k ∧ k < sz → (a = 1 ↔ (1 ≤ dp k ∧ dp k < 3))) := by
  have hf := pC_f H
  unfold fn_Cords_canHoldMore
  rw [zk_bd (sp_getR hk)]
  have hR : jk_R (if 0 ≤ k ∧ k < 40 then dp k else 0) := by
    split
    · exact H.2 k (by omega) (by omega)
    · exact ⟨by omega, by omega⟩
  have h1 := hR.1
  have h2 := hR.2
  by_cases e : (if 0 ≤ k ∧ k < 40 then dp k else 0) < 1
  · refine ⟨0, by (try simp (disch := omega) only [↓zk_lt, ↓zk_nl, ↓zk_eq, ↓zk_ne, ↓zk_ix, ↓zk_dv, ↓zk_bo, ↓zk_rg, ↓zk_get, ↓zk_set, Option.bind_some]), Or.inl rfl, fun h => ⟨fun z => by omega, fun z => ?_⟩⟩
    rw [if_pos (by omega)] at e
    omega
  · by_cases e2 : (if 0 ≤ k ∧ k < 40 then dp k else 0) < 3
    · refine ⟨1, ?_, Or.inr rfl, fun h => ⟨fun _ => ?_, fun _ => rfl⟩⟩
      · (try simp (disch := omega) only [↓zk_lt, ↓zk_nl, ↓zk_eq, ↓zk_ne, ↓zk_ix, ↓zk_dv, ↓zk_bo, ↓zk_rg, ↓zk_get, ↓zk_set, Option.bind_some])
      · rw [if_pos (by omega)] at e e2
        omega
    · refine ⟨0, ?_, Or.inl rfl, fun h => ⟨fun z => by omega, fun z => ?_⟩⟩
      · (try simp (disch := omega) only [↓zk_lt, ↓zk_nl, ↓zk_eq, ↓zk_ne, ↓zk_ix, ↓zk_dv, ↓zk_bo, ↓zk_rg, ↓zk_get, ↓zk_set, Option.bind_some])
      · rw [if_pos (by omega)] at e2
        omega
theorem pb_2 (H : pC tn cl sz st dp tp va nb w) {k t v : Int} (hk : jk_R k) (ht : jk_R t) (hv : jk_R v) : fn_KR_problemOf tn cl sz st dp va nb 2 k t v = some (if (0 ≤ k ∧ k < sz) ∧ (0 ≤ t ∧ t < tn) then (if 0 ≤ v ∧ v ≤ 9999 then (if (1 ≤ dp k ∧ dp k < 3) ∧ sz < 40 then 0 else 3) else 2) else 1) := by
  have hf := pC_f H
  obtain ⟨a, ha, ha2, ha3⟩ := sp_chm H hk
  unfold fn_KR_problemOf
  (try simp (disch := omega) only [↓zk_lt, ↓zk_nl, ↓zk_eq, ↓zk_ne, ↓zk_ix, ↓zk_dv, ↓zk_bo, ↓zk_rg, ↓zk_get, ↓zk_set, Option.bind_some])
  rw [zk_bd (sp_has hf.2.1 hk), zk_bd ha, zk_bd (pb_new H (by split <;> simp) ha2 ht hv)]
  congr 1
  by_cases e : 0 ≤ k ∧ k < sz
  · rw [if_pos e]
    have h := ha3 e
    simp only [e, h, true_and, and_self]
  · rw [if_neg e]; simp [e]
theorem pb_3 (H : pC tn cl sz st dp tp va nb w) {k : Int} (hk : jk_R k) (B C : Int) : fn_KR_problemOf tn cl sz st dp va nb 3 k B C = some (if 0 ≤ k ∧ k < sz then 0 else 1) := by
  have hf := pC_f H
  unfold fn_KR_problemOf
  (try simp (disch := omega) only [↓zk_lt, ↓zk_nl, ↓zk_eq, ↓zk_ne, ↓zk_ix, ↓zk_dv, ↓zk_bo, ↓zk_rg, ↓zk_get, ↓zk_set, Option.bind_some])
  rw [zk_bd (sp_has hf.2.1 hk)]
  by_cases e : 0 ≤ k ∧ k < sz
  · rw [if_pos e, if_pos e]; (try simp (disch := omega) only [↓zk_lt, ↓zk_nl, ↓zk_eq, ↓zk_ne, ↓zk_ix, ↓zk_dv, ↓zk_bo, ↓zk_rg, ↓zk_get, ↓zk_set, Option.bind_some])
  · rw [if_neg e, if_neg e]; (try simp (disch := omega) only [↓zk_lt, ↓zk_nl, ↓zk_eq, ↓zk_ne, ↓zk_ix, ↓zk_dv, ↓zk_bo, ↓zk_rg, ↓zk_get, ↓zk_set, Option.bind_some])
/-- no pendant of the cluster is nibbled -/
def kw (st dp nb : Int → Int) (c : Int) : Prop := pCt (fun j => decide (0 < nb j)) (st c + ht st dp c) (st (c + 1) - (st c + ht st dp c)).toNat = 0
theorem sp_hks (H : pC tn cl sz st dp tp va nb w) {c : Int} (h0 : 0 ≤ c) (h1 : c < cl) : ∃ a, fn_Cords_hasKnownSum st dp nb c = some a ∧ ((a = 1 ∧ kw st dp nb c) ∨ (a = 0 ∧ ¬ kw st dp nb c)) := by
  obtain ⟨⟨g, I, M⟩, G⟩ := H
  have hsz := I.1.2.1
  have s1 := pI_st I (c := c) h0 (by omega)
  have s2 := pI_st I (c := c + 1) (by omega) (by omega)
  have hl := ht_le I h0 h1
  have hh := ht_r (st := st) (dp := dp) c
  have hn := pCt_r (p := fun j => decide (0 < nb j)) (st (c + 1) - (st c + ht st dp c)).toNat (st c + ht st dp c)
  have hnib := sp_nib (nb := nb) (a := st c + ht st dp c) (b := st (c + 1)) (by omega) (by omega) (by omega) (fun j h2 h3 => (I.2.2 j (by omega) (by omega)).2.2.2.2.1)
  unfold fn_Cords_hasKnownSum
  rw [zk_bd (sp_ps I h0 h1), zk_bd (sp_end I h0 h1), zk_bd hnib]
  by_cases e : pCt (fun j => decide (0 < nb j)) (st c + ht st dp c) (st (c + 1) - (st c + ht st dp c)).toNat = 0
  · exact ⟨1, by (try simp (disch := omega) only [↓zk_lt, ↓zk_nl, ↓zk_eq, ↓zk_ne, ↓zk_ix, ↓zk_dv, ↓zk_bo, ↓zk_rg, ↓zk_get, ↓zk_set, Option.bind_some]), Or.inl ⟨rfl, e⟩⟩
  · exact ⟨0, by (try simp (disch := omega) only [↓zk_lt, ↓zk_nl, ↓zk_eq, ↓zk_ne, ↓zk_ix, ↓zk_dv, ↓zk_bo, ↓zk_rg, ↓zk_get, ↓zk_set, Option.bind_some]), Or.inr ⟨rfl, e⟩⟩
/-- a top cord may be tied -/
def ktie (sz : Int) (st dp va nb : Int → Int) (c : Int) : Prop := ht st dp c = 0 ∧ st c < st (c + 1) ∧ sz < 40 ∧ kw st dp nb c ∧ ks st dp va c ≤ 9999
theorem pb_4t (H : pC tn cl sz st dp tp va nb w) {c t : Int} (hc : jk_R c) (htt : jk_R t) : ∃ p, fn_KR_tieProblem tn cl sz st dp va nb c t = some p ∧ ((p = 1 ∧ ¬ ((0 ≤ c ∧ c < cl) ∧ (0 ≤ t ∧ t < tn))) ∨ (((0 ≤ c ∧ c < cl) ∧ (0 ≤ t ∧ t < tn)) ∧ ((p = 0 ∧ ktie sz st dp va nb c) ∨ (p = 3 ∧ ¬ ktie sz st dp va nb c)))) := by
  have hf := pC_f H
  have HH := H
  obtain ⟨⟨g, I, M⟩, G⟩ := HH
  unfold fn_KR_tieProblem
  rw [zk_bd (sp_hasC hf.1 hc)]
  by_cases e : 0 ≤ c ∧ c < cl
  · rw [if_pos e]
    have h0 := e.1
    have h1 := e.2
    have s1 := pI_st I (c := c) h0 (by omega)
    have s2 := pI_st I (c := c + 1) (by omega) (by omega)
    have hm := I.2.1.2.2 c h0 h1
    have hh := ht_r (st := st) (dp := dp) c
    have hkr := ks_r I h0 h1
    have hsum : fn_Cords_sum st dp va c = some (ks st dp va c) := sp_sum I h0 h1
    obtain ⟨a, ha, ha2⟩ := sp_hks H h0 h1
    (try simp (disch := omega) only [↓zk_lt, ↓zk_nl, ↓zk_eq, ↓zk_ne, ↓zk_ix, ↓zk_dv, ↓zk_bo, ↓zk_rg, ↓zk_get, ↓zk_set, Option.bind_some])
    rw [zk_bd (sp_hasT hf.2.2 htt)]
    by_cases e2 : 0 ≤ t ∧ t < tn
    · rw [if_pos e2]
      (try simp (disch := omega) only [↓zk_lt, ↓zk_nl, ↓zk_eq, ↓zk_ne, ↓zk_ix, ↓zk_dv, ↓zk_bo, ↓zk_rg, ↓zk_get, ↓zk_set, Option.bind_some])
      rw [zk_bd (sp_ht I h0 h1)]
      unfold ktie
      by_cases e3 : ht st dp c = 0
      · (try simp (disch := omega) only [↓zk_lt, ↓zk_nl, ↓zk_eq, ↓zk_ne, ↓zk_ix, ↓zk_dv, ↓zk_bo, ↓zk_rg, ↓zk_get, ↓zk_set, Option.bind_some])
        rw [zk_bd (sp_start I h0 (by omega)), zk_bd (sp_end I h0 h1)]
        by_cases e4 : st c = st (c + 1)
        · exact ⟨3, by (try simp (disch := omega) only [↓zk_lt, ↓zk_nl, ↓zk_eq, ↓zk_ne, ↓zk_ix, ↓zk_dv, ↓zk_bo, ↓zk_rg, ↓zk_get, ↓zk_set, Option.bind_some]), Or.inr ⟨⟨e, e2⟩, Or.inr ⟨rfl, fun z => by omega⟩⟩⟩
        · by_cases e5 : sz < 40
          · (try simp (disch := omega) only [↓zk_lt, ↓zk_nl, ↓zk_eq, ↓zk_ne, ↓zk_ix, ↓zk_dv, ↓zk_bo, ↓zk_rg, ↓zk_get, ↓zk_set, Option.bind_some])
            rw [zk_bd ha]
            rcases ha2 with ⟨rfl, k⟩ | ⟨rfl, k⟩
            · (try simp (disch := omega) only [↓zk_lt, ↓zk_nl, ↓zk_eq, ↓zk_ne, ↓zk_ix, ↓zk_dv, ↓zk_bo, ↓zk_rg, ↓zk_get, ↓zk_set, Option.bind_some])
              rw [zk_bd hsum, zk_bd (sp_val ⟨by omega, by omega⟩)]
              by_cases e6 : ks st dp va c ≤ 9999
              · rw [if_pos ⟨hkr.1, e6⟩]
                exact ⟨0, by (try simp (disch := omega) only [↓zk_lt, ↓zk_nl, ↓zk_eq, ↓zk_ne, ↓zk_ix, ↓zk_dv, ↓zk_bo, ↓zk_rg, ↓zk_get, ↓zk_set, Option.bind_some]), Or.inr ⟨⟨e, e2⟩, Or.inl ⟨rfl, e3, by omega, e5, k, e6⟩⟩⟩
              · rw [if_neg (fun z => e6 z.2)]
                exact ⟨3, by (try simp (disch := omega) only [↓zk_lt, ↓zk_nl, ↓zk_eq, ↓zk_ne, ↓zk_ix, ↓zk_dv, ↓zk_bo, ↓zk_rg, ↓zk_get, ↓zk_set, Option.bind_some]), Or.inr ⟨⟨e, e2⟩, Or.inr ⟨rfl, fun z => e6 z.2.2.2.2⟩⟩⟩
            · exact ⟨3, by (try simp (disch := omega) only [↓zk_lt, ↓zk_nl, ↓zk_eq, ↓zk_ne, ↓zk_ix, ↓zk_dv, ↓zk_bo, ↓zk_rg, ↓zk_get, ↓zk_set, Option.bind_some]), Or.inr ⟨⟨e, e2⟩, Or.inr ⟨rfl, fun z => k z.2.2.2.1⟩⟩⟩
          · exact ⟨3, by (try simp (disch := omega) only [↓zk_lt, ↓zk_nl, ↓zk_eq, ↓zk_ne, ↓zk_ix, ↓zk_dv, ↓zk_bo, ↓zk_rg, ↓zk_get, ↓zk_set, Option.bind_some]), Or.inr ⟨⟨e, e2⟩, Or.inr ⟨rfl, fun z => e5 z.2.2.1⟩⟩⟩
      · exact ⟨3, by (try simp (disch := omega) only [↓zk_lt, ↓zk_nl, ↓zk_eq, ↓zk_ne, ↓zk_ix, ↓zk_dv, ↓zk_bo, ↓zk_rg, ↓zk_get, ↓zk_set, Option.bind_some]), Or.inr ⟨⟨e, e2⟩, Or.inr ⟨rfl, fun z => e3 z.1⟩⟩⟩
    · rw [if_neg e2]
      exact ⟨1, by (try simp (disch := omega) only [↓zk_lt, ↓zk_nl, ↓zk_eq, ↓zk_ne, ↓zk_ix, ↓zk_dv, ↓zk_bo, ↓zk_rg, ↓zk_get, ↓zk_set, Option.bind_some]), Or.inl ⟨rfl, fun z => e2 z.2⟩⟩
  · rw [if_neg e]
    exact ⟨1, by (try simp (disch := omega) only [↓zk_lt, ↓zk_nl, ↓zk_eq, ↓zk_ne, ↓zk_ix, ↓zk_dv, ↓zk_bo, ↓zk_rg, ↓zk_get, ↓zk_set, Option.bind_some]), Or.inl ⟨rfl, fun z => e z.1⟩⟩
theorem pb_4 (H : pC tn cl sz st dp tp va nb w) {c t : Int} (hc : jk_R c) (htt : jk_R t) (C : Int) : ∃ p, fn_KR_problemOf tn cl sz st dp va nb 4 c t C = some p ∧ ((p = 1 ∧ ¬ ((0 ≤ c ∧ c < cl) ∧ (0 ≤ t ∧ t < tn))) ∨ (((0 ≤ c ∧ c < cl) ∧ (0 ≤ t ∧ t < tn)) ∧ ((p = 0 ∧ ktie sz st dp va nb c) ∨ (p = 3 ∧ ¬ ktie sz st dp va nb c)))) := by
  obtain ⟨p, h1, h2⟩ := pb_4t H hc htt
  refine ⟨p, ?_, h2⟩
  unfold fn_KR_problemOf
  (try simp (disch := omega) only [↓zk_lt, ↓zk_nl, ↓zk_eq, ↓zk_ne, ↓zk_ix, ↓zk_dv, ↓zk_bo, ↓zk_rg, ↓zk_get, ↓zk_set, Option.bind_some])
  rw [zk_bd h1]
theorem pb_5 (H : pC tn cl sz st dp tp va nb w) {k y x : Int} (hk : jk_R k) (hy : jk_R y) (hx : jk_R x) : fn_KR_problemOf tn cl sz st dp va nb 5 k y x = some (if 0 ≤ k ∧ k < sz then (if (0 ≤ y ∧ y ≤ 3) ∧ (0 ≤ x ∧ x ≤ 9) then (if nb k ≤ y then 0 else 3) else 2) else 1) := by
  have hf := pC_f H
  have y1 := hy.1
  have y2 := hy.2
  have x1 := hx.1
  have x2 := hx.2
  unfold fn_KR_problemOf fn_KR_knotsProblem
  (try simp (disch := omega) only [↓zk_lt, ↓zk_nl, ↓zk_eq, ↓zk_ne, ↓zk_ix, ↓zk_dv, ↓zk_bo, ↓zk_rg, ↓zk_get, ↓zk_set, Option.bind_some])
  rw [zk_bd (sp_has hf.2.1 hk)]
  by_cases e : 0 ≤ k ∧ k < sz
  · obtain ⟨⟨g, I, M⟩, G⟩ := H
    have hb := (I.2.2 k e.1 e.2).2.2.2.2.1
    rw [if_pos e, if_pos e]
    unfold fn_KR_isPlace
    (try simp (disch := omega) only [↓zk_lt, ↓zk_nl, ↓zk_eq, ↓zk_ne, ↓zk_ix, ↓zk_dv, ↓zk_bo, ↓zk_rg, ↓zk_get, ↓zk_set, Option.bind_some])
    by_cases a : 0 ≤ y
    · by_cases b : y < 4
      · (try simp (disch := omega) only [↓zk_lt, ↓zk_nl, ↓zk_eq, ↓zk_ne, ↓zk_ix, ↓zk_dv, ↓zk_bo, ↓zk_rg, ↓zk_get, ↓zk_set, Option.bind_some])
        by_cases c : 0 ≤ x
        · by_cases d : x ≤ 9
          · (try simp (disch := omega) only [↓zk_lt, ↓zk_nl, ↓zk_eq, ↓zk_ne, ↓zk_ix, ↓zk_dv, ↓zk_bo, ↓zk_rg, ↓zk_get, ↓zk_set, Option.bind_some])
            rw [if_pos (by omega)]
            by_cases f : nb k ≤ y
            · (try simp (disch := omega) only [↓zk_lt, ↓zk_nl, ↓zk_eq, ↓zk_ne, ↓zk_ix, ↓zk_dv, ↓zk_bo, ↓zk_rg, ↓zk_get, ↓zk_set, Option.bind_some]); rw [if_pos f]
            · (try simp (disch := omega) only [↓zk_lt, ↓zk_nl, ↓zk_eq, ↓zk_ne, ↓zk_ix, ↓zk_dv, ↓zk_bo, ↓zk_rg, ↓zk_get, ↓zk_set, Option.bind_some]); rw [if_neg f]
          · (try simp (disch := omega) only [↓zk_lt, ↓zk_nl, ↓zk_eq, ↓zk_ne, ↓zk_ix, ↓zk_dv, ↓zk_bo, ↓zk_rg, ↓zk_get, ↓zk_set, Option.bind_some]); rw [if_neg (by omega)]
        · (try simp (disch := omega) only [↓zk_lt, ↓zk_nl, ↓zk_eq, ↓zk_ne, ↓zk_ix, ↓zk_dv, ↓zk_bo, ↓zk_rg, ↓zk_get, ↓zk_set, Option.bind_some]); rw [if_neg (by omega)]
      · (try simp (disch := omega) only [↓zk_lt, ↓zk_nl, ↓zk_eq, ↓zk_ne, ↓zk_ix, ↓zk_dv, ↓zk_bo, ↓zk_rg, ↓zk_get, ↓zk_set, Option.bind_some]); rw [if_neg (by omega)]
    · (try simp (disch := omega) only [↓zk_lt, ↓zk_nl, ↓zk_eq, ↓zk_ne, ↓zk_ix, ↓zk_dv, ↓zk_bo, ↓zk_rg, ↓zk_get, ↓zk_set, Option.bind_some]); rw [if_neg (by omega)]
  · rw [if_neg e, if_neg e]
    (try simp (disch := omega) only [↓zk_lt, ↓zk_nl, ↓zk_eq, ↓zk_ne, ↓zk_ix, ↓zk_dv, ↓zk_bo, ↓zk_rg, ↓zk_get, ↓zk_set, Option.bind_some])
theorem pb_6 (H : pC tn cl sz st dp tp va nb w) {k y : Int} (hk : jk_R k) (hy : jk_R y) (C : Int) : fn_KR_problemOf tn cl sz st dp va nb 6 k y C = some (if 0 ≤ k ∧ k < sz then (if 1 ≤ y ∧ y ≤ 4 then (if nb k ≤ y then 0 else 3) else 2) else 1) := by
  have hf := pC_f H
  have y1 := hy.1
  have y2 := hy.2
  unfold fn_KR_problemOf fn_KR_nibbleProblem
  (try simp (disch := omega) only [↓zk_lt, ↓zk_nl, ↓zk_eq, ↓zk_ne, ↓zk_ix, ↓zk_dv, ↓zk_bo, ↓zk_rg, ↓zk_get, ↓zk_set, Option.bind_some])
  rw [zk_bd (sp_has hf.2.1 hk)]
  by_cases e : 0 ≤ k ∧ k < sz
  · obtain ⟨⟨g, I, M⟩, G⟩ := H
    have hb := (I.2.2 k e.1 e.2).2.2.2.2.1
    rw [if_pos e, if_pos e]
    by_cases a : 1 ≤ y
    · by_cases b : y ≤ 4
      · (try simp (disch := omega) only [↓zk_lt, ↓zk_nl, ↓zk_eq, ↓zk_ne, ↓zk_ix, ↓zk_dv, ↓zk_bo, ↓zk_rg, ↓zk_get, ↓zk_set, Option.bind_some])
        rw [if_pos (by omega)]
        by_cases f : nb k ≤ y
        · (try simp (disch := omega) only [↓zk_lt, ↓zk_nl, ↓zk_eq, ↓zk_ne, ↓zk_ix, ↓zk_dv, ↓zk_bo, ↓zk_rg, ↓zk_get, ↓zk_set, Option.bind_some]); rw [if_pos f]
        · (try simp (disch := omega) only [↓zk_lt, ↓zk_nl, ↓zk_eq, ↓zk_ne, ↓zk_ix, ↓zk_dv, ↓zk_bo, ↓zk_rg, ↓zk_get, ↓zk_set, Option.bind_some]); rw [if_neg f]
      · (try simp (disch := omega) only [↓zk_lt, ↓zk_nl, ↓zk_eq, ↓zk_ne, ↓zk_ix, ↓zk_dv, ↓zk_bo, ↓zk_rg, ↓zk_get, ↓zk_set, Option.bind_some]); rw [if_neg (by omega)]
    · (try simp (disch := omega) only [↓zk_lt, ↓zk_nl, ↓zk_eq, ↓zk_ne, ↓zk_ix, ↓zk_dv, ↓zk_bo, ↓zk_rg, ↓zk_get, ↓zk_set, Option.bind_some]); rw [if_neg (by omega)]
  · rw [if_neg e, if_neg e]
    (try simp (disch := omega) only [↓zk_lt, ↓zk_nl, ↓zk_eq, ↓zk_ne, ↓zk_ix, ↓zk_dv, ↓zk_bo, ↓zk_rg, ↓zk_get, ↓zk_set, Option.bind_some])
theorem pb_7 (H : pC tn cl sz st dp tp va nb w) {k t : Int} (hk : jk_R k) (ht : jk_R t) (C : Int) : fn_KR_problemOf tn cl sz st dp va nb 7 k t C = some (if (0 ≤ k ∧ k < sz) ∧ (0 ≤ t ∧ t < tn) then 0 else 1) := by
  have hf := pC_f H
  unfold fn_KR_problemOf
  (try simp (disch := omega) only [↓zk_lt, ↓zk_nl, ↓zk_eq, ↓zk_ne, ↓zk_ix, ↓zk_dv, ↓zk_bo, ↓zk_rg, ↓zk_get, ↓zk_set, Option.bind_some])
  rw [zk_bd (sp_has hf.2.1 hk)]
  by_cases e : 0 ≤ k ∧ k < sz
  · rw [if_pos e]
    (try simp (disch := omega) only [↓zk_lt, ↓zk_nl, ↓zk_eq, ↓zk_ne, ↓zk_ix, ↓zk_dv, ↓zk_bo, ↓zk_rg, ↓zk_get, ↓zk_set, Option.bind_some])
    rw [zk_bd (sp_hasT hf.2.2 ht)]
    by_cases e2 : 0 ≤ t ∧ t < tn
    · rw [if_pos e2, if_pos ⟨e, e2⟩]; (try simp (disch := omega) only [↓zk_lt, ↓zk_nl, ↓zk_eq, ↓zk_ne, ↓zk_ix, ↓zk_dv, ↓zk_bo, ↓zk_rg, ↓zk_get, ↓zk_set, Option.bind_some])
    · rw [if_neg e2, if_neg (fun z => e2 z.2)]; (try simp (disch := omega) only [↓zk_lt, ↓zk_nl, ↓zk_eq, ↓zk_ne, ↓zk_ix, ↓zk_dv, ↓zk_bo, ↓zk_rg, ↓zk_get, ↓zk_set, Option.bind_some])
  · rw [if_neg e, if_neg (fun z => e z.1)]
    (try simp (disch := omega) only [↓zk_lt, ↓zk_nl, ↓zk_eq, ↓zk_ne, ↓zk_ix, ↓zk_dv, ↓zk_bo, ↓zk_rg, ↓zk_get, ↓zk_set, Option.bind_some])
theorem pb_8 (H : pC tn cl sz st dp tp va nb w) {c : Int} (hc : jk_R c) (B C : Int) : fn_KR_problemOf tn cl sz st dp va nb 8 c B C = some (if 0 ≤ c ∧ c < cl then (if kob st dp va nb c = 0 then 0 else 3) else 1) := by
  have hf := pC_f H
  obtain ⟨⟨g, I, M⟩, G⟩ := H
  have hr := kob_r (st := st) (dp := dp) (va := va) (nb := nb) (c := c)
  unfold fn_KR_problemOf
  (try simp (disch := omega) only [↓zk_lt, ↓zk_nl, ↓zk_eq, ↓zk_ne, ↓zk_ix, ↓zk_dv, ↓zk_bo, ↓zk_rg, ↓zk_get, ↓zk_set, Option.bind_some])
  rw [zk_bd (sp_hasC hf.1 hc)]
  by_cases e : 0 ≤ c ∧ c < cl
  · rw [if_pos e, if_pos e]
    (try simp (disch := omega) only [↓zk_lt, ↓zk_nl, ↓zk_eq, ↓zk_ne, ↓zk_ix, ↓zk_dv, ↓zk_bo, ↓zk_rg, ↓zk_get, ↓zk_set, Option.bind_some])
    rw [zk_bd (sp_ob I e.1 e.2)]
    by_cases e2 : kob st dp va nb c = 0
    · rw [if_pos e2]; (try simp (disch := omega) only [↓zk_lt, ↓zk_nl, ↓zk_eq, ↓zk_ne, ↓zk_ix, ↓zk_dv, ↓zk_bo, ↓zk_rg, ↓zk_get, ↓zk_set, Option.bind_some])
    · rw [if_neg e2]; (try simp (disch := omega) only [↓zk_lt, ↓zk_nl, ↓zk_eq, ↓zk_ne, ↓zk_ix, ↓zk_dv, ↓zk_bo, ↓zk_rg, ↓zk_get, ↓zk_set, Option.bind_some])
  · rw [if_neg e, if_neg e]
    (try simp (disch := omega) only [↓zk_lt, ↓zk_nl, ↓zk_eq, ↓zk_ne, ↓zk_ix, ↓zk_dv, ↓zk_bo, ↓zk_rg, ↓zk_get, ↓zk_set, Option.bind_some])
end PC1

/-! the changes as calls -/
def pD (ls : List Nat) (tn l n : Int) (HC HZ : Int → Int) (HS HD HT HV HN : Int → Int → Int) (w past : Int → Int) (qa : Nat ⊕ (Int × Int × Int × (Int → Int) × (Int → Int) × (Int → Int) × (Int → Int) × (Int → Int) × Int × Int × Int × Int × (Int → Int) × (Int → Int) × (Int → Int) × (Int → Int) × (Int → Int))) (b : Int) (w' past' : Int → Int) (pm' t : Int) : Prop := match qa with
  | .inl k => (∃ j : Nat, ls[j]? = some k ∧ t = (j : Int) + 1) ∧ w' = w ∧ past' = past ∧ pm' = n
  | .inr (r, c1, z1, s1, d1, t1, v1, n1, l', n', c2, z2, s2, d2, t2, v2, n2) => t = 0 ∧ r = b ∧ jk_R b ∧ pC tn c1 z1 s1 d1 t1 v1 n1 w' ∧ pU w w' ∧ l' = (l + 1) % 8 ∧ pm' = n' ∧ pH tn l' n' (jk_up HC l' c2) (jk_up HZ l' z2) (upF HS l' s2) (upF HD l' d2) (upF HT l' t2) (upF HV l' v2) (upF HN l' n2) w' past'
theorem cx_id {X : Option (Nat ⊕ (Int × Int × Int × (Int → Int) × (Int → Int) × (Int → Int) × (Int → Int) × (Int → Int) × Int × Int × Int × Int × (Int → Int) × (Int → Int) × (Int → Int) × (Int → Int) × (Int → Int)))} : (X.bind fun q5 => jk_cx q5 fun z => some (.inr (z.1, z.2.1, z.2.2.1, z.2.2.2.1, z.2.2.2.2.1, z.2.2.2.2.2.1, z.2.2.2.2.2.2.1, z.2.2.2.2.2.2.2.1, z.2.2.2.2.2.2.2.2.1, z.2.2.2.2.2.2.2.2.2.1, z.2.2.2.2.2.2.2.2.2.2.1, z.2.2.2.2.2.2.2.2.2.2.2.1, z.2.2.2.2.2.2.2.2.2.2.2.2.1, z.2.2.2.2.2.2.2.2.2.2.2.2.2.1, z.2.2.2.2.2.2.2.2.2.2.2.2.2.2.1, z.2.2.2.2.2.2.2.2.2.2.2.2.2.2.2.1, z.2.2.2.2.2.2.2.2.2.2.2.2.2.2.2.2))) = X := by
  cases X with
  | none => rfl
  | some x => cases x <;> rfl
section PD1
variable {tn cl sz l n : Int} {HC HZ : Int → Int} {HS HD HT HV HN : Int → Int → Int} {st dp tp va nb w past : Int → Int}
theorem chg_no {K A B C p : Int} (h : fn_KR_problemOf tn cl sz st dp va nb K A B C = some p) (hp : p = 1 ∨ p = 2 ∨ p = 3) : fn_KR_change tn cl sz st dp tp va nb l n (HC ((l + 1) % 8)) (HZ ((l + 1) % 8)) (HS ((l + 1) % 8)) (HD ((l + 1) % 8)) (HT ((l + 1) % 8)) (HV ((l + 1) % 8)) (HN ((l + 1) % 8)) K A B C = some (.inl p.toNat) := by
  unfold fn_KR_change
  rw [zk_bd h]
  rcases hp with rfl | rfl | rfl
  · (try simp (disch := omega) only [↓zk_lt, ↓zk_nl, ↓zk_eq, ↓zk_ne, ↓zk_ix, ↓zk_dv, ↓zk_bo, ↓zk_rg, ↓zk_get, ↓zk_set, Option.bind_some]); rfl
  · (try simp (disch := omega) only [↓zk_lt, ↓zk_nl, ↓zk_eq, ↓zk_ne, ↓zk_ix, ↓zk_dv, ↓zk_bo, ↓zk_rg, ↓zk_get, ↓zk_set, Option.bind_some]); rfl
  · (try simp (disch := omega) only [↓zk_lt, ↓zk_nl, ↓zk_eq, ↓zk_ne, ↓zk_ix, ↓zk_dv, ↓zk_bo, ↓zk_rg, ↓zk_get, ↓zk_set, Option.bind_some]); rfl
end PD1

/-! the checks of consistency: all hold -/
theorem pSm_up {f : Int → Int} {k v : Int} : ∀ (m : Nat) (i : Int), pSm (jk_up f k v) i m = if i ≤ k ∧ k < i + m then pSm f i m - f k + v else pSm f i m := by
  intro m
  induction m with
  | zero => intro i; rw [if_neg (by omega)]; rfl
  | succ m ih =>
    intro i
    simp only [pSm]
    rw [ih (i + 1)]
    by_cases e : i = k
    · rw [up_eq e, if_neg (by omega), if_pos (by omega), e]; omega
    · rw [up_ne e]
      by_cases h : i + 1 ≤ k ∧ k < i + 1 + m
      · rw [if_pos h, if_pos (by omega)]; omega
      · rw [if_neg h, if_neg (by omega)]
theorem pCt_up {f : Int → Int} {k : Int} (hk : 0 < f k) : ∀ (m : Nat) (i : Int), pCt (fun j => decide (0 < jk_up f k 0 j)) i m = if i ≤ k ∧ k < i + m then pCt (fun j => decide (0 < f j)) i m - 1 else pCt (fun j => decide (0 < f j)) i m := by
  intro m
  induction m with
  | zero => intro i; rw [if_neg (by omega)]; rfl
  | succ m ih =>
    intro i
    simp only [pCt]
    rw [ih (i + 1)]
    by_cases e : i = k
    · have d1 : decide (0 < jk_up f k 0 i) = false := decide_eq_false (by rw [up_eq e]; omega)
      have d2 : decide (0 < f i) = true := decide_eq_true (by rw [e]; exact hk)
      rw [if_neg (show ¬ decide (0 < jk_up f k 0 i) = true by rw [d1]; simp), if_neg (show ¬ (i + 1 ≤ k ∧ k < i + 1 + (m : Int)) by omega), if_pos (show i ≤ k ∧ k < i + ((m + 1 : Nat) : Int) by omega), if_pos d2]
      omega
    · have d1 : decide (0 < jk_up f k 0 i) = decide (0 < f i) := decide_eq_decide.mpr (by rw [up_ne e])
      simp only [d1]
      by_cases h : i + 1 ≤ k ∧ k < i + 1 + (m : Int)
      · rw [if_pos h, if_pos (show i ≤ k ∧ k < i + ((m + 1 : Nat) : Int) by omega)]; omega
      · rw [if_neg h, if_neg (show ¬ (i ≤ k ∧ k < i + ((m + 1 : Nat) : Int)) by omega)]
theorem lh {va nb : Int → Int} : ∀ (m : Nat) (i : Int), (∀ j, i ≤ j → j < i + m → 0 ≤ nb j ∧ nb j ≤ 4) → (pCt (fun j => decide (0 < nb j)) i m = 0 → pSm (fun j => va j + pw (nb j) - 1) i m = pSm va i m) ∧ (¬ pCt (fun j => decide (0 < nb j)) i m = 0 → pSm va i m < pSm (fun j => va j + pw (nb j) - 1) i m) := by
  intro m
  induction m with
  | zero => intro i _; exact ⟨fun _ => rfl, fun h => absurd rfl h⟩
  | succ m ih =>
    intro i h
    have hi := h i (by omega) (by omega)
    have h1 := ih (i + 1) (fun j h3 h4 => h j (by omega) (by omega))
    have hr := pCt_r (p := fun j => decide (0 < nb j)) m (i + 1)
    simp only [pSm, pCt]
    have hp := pw_c hi.1 hi.2
    by_cases e : 0 < nb i
    · simp only [e, decide_true, if_true]
      refine ⟨fun z => by omega, fun _ => ?_⟩
      by_cases z : pCt (fun j => decide (0 < nb j)) (i + 1) m = 0
      · have := h1.1 z; omega
      · have := h1.2 z; omega
    · simp only [e, decide_false]
      refine ⟨fun z => ?_, fun z => ?_⟩
      · have := h1.1 (by simpa using z); omega
      · have := h1.2 (by simpa using z); omega
section PE
variable {cl sz tn : Int} {st dp tp va nb g w : Int → Int}
def pT (sz : Int) (dp va : Int → Int) (k : Int) : Int := pSm va k (be sz dp k - k).toNat
/-- a row of branches: each ends where the next of its depth begins -/
def pRow (sz : Int) (dp : Int → Int) (D a e : Int) : Prop := ((a < e → dp a = D) ∧ 0 ≤ a ∧ a ≤ e ∧ e ≤ sz) ∧ ∀ i, a ≤ i → i < e → dp i = D → (i < be sz dp i ∧ be sz dp i ≤ e) ∧ (be sz dp i < e → dp (be sz dp i) = D) ∧ ∀ j, i < j → j < be sz dp i → ¬ dp j = D
theorem row_below (I : pI cl sz tn st dp tp va nb g) {k : Int} (h0 : 0 ≤ k) (h1 : k < sz) : pRow sz dp (dp k + 1) (k + 1) (be sz dp k) := by
  obtain ⟨⟨b1, b2⟩, b3, b4⟩ := be_r I h0 h1
  refine ⟨⟨fun h => ?_, by omega, by omega, b2⟩, fun i h2 h3 h4 => ?_⟩
  · have h5 := b3 (k + 1) (by omega) h
    have hg := be_g I h0 h1 (j := k + 1) (by omega) h
    obtain ⟨⟨a1, a2, a3, a4⟩, -⟩ := I.2.2 k h0 h1
    obtain ⟨-, -, -, -, -, -, c1, c2⟩ := I.2.2 (k + 1) (by omega) (by omega)
    rw [hg] at c2
    have := c2 (by omega)
    rw [show k + 1 - 1 = k by omega] at this
    omega
  · obtain ⟨⟨d1, d2⟩, d3, d4⟩ := be_r I (k := i) (by omega) (by omega)
    have hle : be sz dp i ≤ be sz dp k := by
      by_cases x : be sz dp i ≤ be sz dp k
      · exact x
      · have h6 := d3 (be sz dp k) (by omega) (by omega)
        have h7 := b3 i (by omega) h3
        have := b4 h7.2 (by omega)
        omega
    refine ⟨⟨d1, hle⟩, fun h => ?_, fun j h5 h6 => ?_⟩
    · have h7 := b3 (be sz dp i) (by omega) h
      have h8 := b3 i (by omega) h3
      have := d4 (by omega) (by omega)
      omega
    · have := d3 j h5 h6
      omega
theorem row_pend (I : pI cl sz tn st dp tp va nb g) {c : Int} (h0 : 0 ≤ c) (h1 : c < cl) : pRow sz dp 1 (st c + ht st dp c) (st (c + 1)) := by
  have s1 := pI_st I (c := c) h0 (by omega)
  have s2 := pI_st I (c := c + 1) (by omega) (by omega)
  have hl := ht_le I h0 h1
  have hh := ht_r (st := st) (dp := dp) c
  have hin : ∀ i, st c < i → i < st (c + 1) → 1 ≤ dp i ∧ dp i ≤ dp (i - 1) + 1 := fun i h2 h3 => by
    have hg := pI_g I (c := c) (k := i) h0 h1 (by omega) h3
    obtain ⟨-, -, -, -, -, -, -, c2⟩ := I.2.2 i (by omega) (by omega)
    exact c2 (by rw [hg]; exact h2)
  refine ⟨⟨fun h => ?_, by omega, by omega, by omega⟩, fun i h2 h3 h4 => ?_⟩
  · rcases hh with y | y
    · rw [y] at h ⊢
      rw [Int.add_zero] at h ⊢
      have hg := pI_g I (c := c) (k := st c) h0 h1 (by omega) h
      obtain ⟨-, c0, -, -, -, -, c1, -⟩ := I.2.2 (st c) (by omega) (by omega)
      have := c1 (by rw [hg])
      have h4 : ¬ dp (st c) = 0 := fun q => by
        unfold ht at y
        rw [if_pos ⟨h, q⟩] at y
        omega
      omega
    · have h5 := ht_1 y
      rw [y] at h ⊢
      have := hin (st c + 1) (by omega) h
      rw [show st c + 1 - 1 = st c by omega] at this
      omega
  · obtain ⟨⟨d1, d2⟩, d3, d4⟩ := be_r I (k := i) (by omega) (by omega)
    have hg := pI_g I (c := c) (k := i) h0 h1 (by omega) h3
    have hle := be_le I (k := i) (by omega) (by omega)
    rw [hg] at hle
    refine ⟨⟨d1, hle⟩, fun h => ?_, fun j h5 h6 => ?_⟩
    · have h7 := hin (be sz dp i) (by omega) h
      have := d4 (by omega) (by omega)
      omega
    · have := d3 j h5 h6
      omega
theorem row_add {D a e s0 c : Int} (R : pRow sz dp D a e) (h0 : a ≤ c) (h1 : c < e) (h2 : dp c = D) : s0 + pSm va a (c - a).toNat + pT sz dp va c = s0 + pSm va a (be sz dp c - a).toNat := by
  obtain ⟨⟨b1, b2⟩, -⟩ := R.2 c h0 h1 h2
  unfold pT
  rw [show (be sz dp c - a).toNat = (c - a).toNat + (be sz dp c - c).toNat by omega, pSm_add, show a + ((c - a).toNat : Int) = c by omega]
  omega
theorem sp_tbr_b (I : pI cl sz tn st dp tp va nb g) {d a e s0 : Int} (hd : -1 ≤ d ∧ d ≤ 3) (R : pRow sz dp (d + 1) a e) {rc : Int → (Int → Int) → (Int → Int) → Int → Int → Option Int} (hrc : ∀ i, a ≤ i → i < e → dp i = d + 1 → rc sz dp va i (d + 1) = some (pT sz dp va i)) :
    ∀ (n m : Nat) (s i c : Int), i + m = e → a ≤ i → i ≤ c → c ≤ e → (∀ j, i ≤ j → j < c → ¬ dp j = d + 1) → (c < e → dp c = d + 1) → s = s0 + pSm va a (c - a).toNat → m < n → fn_Check_totalByRecursion_b28 rc n sz dp va d s e i = some (s0 + pSm va a (e - a).toNat) := by
  have hsz := I.1.2.1
  have hR := R.1
  intro n
  induction n with
  | zero => intro m s i c _ _ _ _ _ _ _ h; omega
  | succ n ih =>
    intro m s i c hi h0 h1 h2 h3 h4 hs hm
    rw [fn_Check_totalByRecursion_b28]
    cases m with
    | zero =>
      (try simp (disch := omega) only [↓zk_lt, ↓zk_nl, ↓zk_eq, ↓zk_ne, ↓zk_ix, ↓zk_dv, ↓zk_bo, ↓zk_rg, ↓zk_get, ↓zk_set, Option.bind_some])
      rw [hs, show c = e by omega]
    | succ m =>
      have hdi := (I.2.2 i (by omega) (by omega)).2.1
      (try simp (disch := omega) only [↓zk_lt, ↓zk_nl, ↓zk_eq, ↓zk_ne, ↓zk_ix, ↓zk_dv, ↓zk_bo, ↓zk_rg, ↓zk_get, ↓zk_set, Option.bind_some])
      by_cases x : i < c
      · have := h3 i (by omega) x
        (try simp (disch := omega) only [↓zk_lt, ↓zk_nl, ↓zk_eq, ↓zk_ne, ↓zk_ix, ↓zk_dv, ↓zk_bo, ↓zk_rg, ↓zk_get, ↓zk_set, Option.bind_some])
        exact ih m s (i + 1) c (by omega) (by omega) (by omega) h2 (fun j h5 h6 => h3 j (by omega) h6) h4 hs (by omega)
      · have hic : i = c := by omega
        subst hic
        have hD := h4 (by omega)
        obtain ⟨⟨b1, b2⟩, b3, b4⟩ := R.2 i h0 (by omega) hD
        (try simp (disch := omega) only [↓zk_lt, ↓zk_nl, ↓zk_eq, ↓zk_ne, ↓zk_ix, ↓zk_dv, ↓zk_bo, ↓zk_rg, ↓zk_get, ↓zk_set, Option.bind_some])
        rw [zk_bd (hrc i h0 (by omega) hD)]
        exact ih m _ (i + 1) (be sz dp i) (by omega) (by omega) (by omega) b2 (fun j h5 h6 => b4 j (by omega) h6) b3 (by rw [hs]; exact row_add R h0 (by omega) hD) (by omega)
theorem pT_deep (I : pI cl sz tn st dp tp va nb g) {k : Int} (h0 : 0 ≤ k) (h1 : k < sz) (h : 3 ≤ dp k) : pT sz dp va k = va k := by
  obtain ⟨⟨b1, b2⟩, b3, b4⟩ := be_r I h0 h1
  have e : be sz dp k = k + 1 := by
    by_cases x : be sz dp k = k + 1
    · exact x
    · have h2 := b3 (k + 1) (by omega) (by omega)
      have := (I.2.2 (k + 1) (by omega) (by omega)).2.1
      omega
  unfold pT
  rw [e, show (k + 1 - k).toNat = 1 by omega]
  simp [pSm]
theorem pT_row {k : Int} (h : k < be sz dp k) : pT sz dp va k = va k + pSm va (k + 1) (be sz dp k - (k + 1)).toNat := by
  unfold pT
  rw [show (be sz dp k - k).toNat = (be sz dp k - (k + 1)).toNat + 1 by omega]
  rfl
theorem sp_tbr (I : pI cl sz tn st dp tp va nb g) : ∀ (f : Nat) (k : Int), 0 ≤ k → k < sz → 3 - dp k < f → fn_Check_totalByRecursion f sz dp va k (dp k) = some (pT sz dp va k) := by
  have hF := jk_F_big
  have hsz := I.1.2.1
  intro f
  induction f with
  | zero => intro k h0 h1 h; have := (I.2.2 k h0 h1).2.1; omega
  | succ f ih =>
    intro k h0 h1 h
    have hd := (I.2.2 k h0 h1).2.1
    obtain ⟨⟨b1, b2⟩, b3, b4⟩ := be_r I h0 h1
    rw [fn_Check_totalByRecursion]
    (try simp (disch := omega) only [↓zk_lt, ↓zk_nl, ↓zk_eq, ↓zk_ne, ↓zk_ix, ↓zk_dv, ↓zk_bo, ↓zk_rg, ↓zk_get, ↓zk_set, Option.bind_some])
    by_cases x : dp k < 3
    · (try simp (disch := omega) only [↓zk_lt, ↓zk_nl, ↓zk_eq, ↓zk_ne, ↓zk_ix, ↓zk_dv, ↓zk_bo, ↓zk_rg, ↓zk_get, ↓zk_set, Option.bind_some])
      rw [zk_bd (sp_be I h0 h1)]
      have R := row_below I h0 h1
      rw [sp_tbr_b I (s0 := va k) (a := k + 1) (e := be sz dp k) (d := dp k) (by omega) R (fun i h2 h3 h4 => by
        have := ih i (by omega) (by omega) (by omega)
        rw [h4] at this
        exact this) jk_F (be sz dp k - (k + 1)).toNat (va k) (k + 1) (k + 1) (by omega) (by omega) (by omega) (by omega) (fun j h2 h3 => by omega) R.1.1 (by simp [pSm]) (by omega)]
      rw [pT_row b1]
    · (try simp (disch := omega) only [↓zk_lt, ↓zk_nl, ↓zk_eq, ↓zk_ne, ↓zk_ix, ↓zk_dv, ↓zk_bo, ↓zk_rg, ↓zk_get, ↓zk_set, Option.bind_some])
      rw [pT_deep I h0 h1 (by omega)]
theorem sp_sbr_b (I : pI cl sz tn st dp tp va nb g) {a e : Int} (R : pRow sz dp 1 a e) :
    ∀ (n m : Nat) (s i c : Int), i + m = e → a ≤ i → i ≤ c → c ≤ e → (∀ j, i ≤ j → j < c → ¬ dp j = 1) → (c < e → dp c = 1) → s = 0 + pSm va a (c - a).toNat → m < n → fn_Check_sumByRecursion_b15 n sz dp va s e i = some (0 + pSm va a (e - a).toNat) := by
  have hsz := I.1.2.1
  have hR := R.1
  intro n
  induction n with
  | zero => intro m s i c _ _ _ _ _ _ _ h; omega
  | succ n ih =>
    intro m s i c hi h0 h1 h2 h3 h4 hs hm
    rw [fn_Check_sumByRecursion_b15]
    cases m with
    | zero =>
      (try simp (disch := omega) only [↓zk_lt, ↓zk_nl, ↓zk_eq, ↓zk_ne, ↓zk_ix, ↓zk_dv, ↓zk_bo, ↓zk_rg, ↓zk_get, ↓zk_set, Option.bind_some])
      rw [hs, show c = e by omega]
    | succ m =>
      have hdi := (I.2.2 i (by omega) (by omega)).2.1
      (try simp (disch := omega) only [↓zk_lt, ↓zk_nl, ↓zk_eq, ↓zk_ne, ↓zk_ix, ↓zk_dv, ↓zk_bo, ↓zk_rg, ↓zk_get, ↓zk_set, Option.bind_some])
      by_cases x : i < c
      · have := h3 i (by omega) x
        (try simp (disch := omega) only [↓zk_lt, ↓zk_nl, ↓zk_eq, ↓zk_ne, ↓zk_ix, ↓zk_dv, ↓zk_bo, ↓zk_rg, ↓zk_get, ↓zk_set, Option.bind_some])
        exact ih m s (i + 1) c (by omega) (by omega) (by omega) h2 (fun j h5 h6 => h3 j (by omega) h6) h4 hs (by omega)
      · have hic : i = c := by omega
        subst hic
        have hD := h4 (by omega)
        obtain ⟨⟨b1, b2⟩, b3, b4⟩ := R.2 i h0 (by omega) hD
        have ht := sp_tbr I 8 i (by omega) (by omega) (by omega)
        rw [hD] at ht
        (try simp (disch := omega) only [↓zk_lt, ↓zk_nl, ↓zk_eq, ↓zk_ne, ↓zk_ix, ↓zk_dv, ↓zk_bo, ↓zk_rg, ↓zk_get, ↓zk_set, Option.bind_some])
        rw [zk_bd ht]
        exact ih m _ (i + 1) (be sz dp i) (by omega) (by omega) (by omega) b2 (fun j h5 h6 => b4 j (by omega) h6) b3 (by rw [hs]; exact row_add R h0 (by omega) hD) (by omega)
theorem sp_sbr (I : pI cl sz tn st dp tp va nb g) {c : Int} (h0 : 0 ≤ c) (h1 : c < cl) : fn_Check_sumByRecursion sz st dp va c = some (ks st dp va c) := by
  have hF := jk_F_big
  have hsz := I.1.2.1
  have s1 := pI_st I (c := c) h0 (by omega)
  have s2 := pI_st I (c := c + 1) (by omega) (by omega)
  have hl := ht_le I h0 h1
  have hh := ht_r (st := st) (dp := dp) c
  have R := row_pend I h0 h1
  have key := fun n (hn : 100 < n) => sp_sbr_b I R n (st (c + 1) - (st c + ht st dp c)).toNat 0 (st c + ht st dp c) (st c + ht st dp c) (by omega) (by omega) (by omega) (by omega) (fun j h2 h3 => by omega) R.1.1 (by simp [pSm]) (by omega)
  unfold fn_Check_sumByRecursion
  rw [zk_bd (sp_end I h0 h1), zk_bd (sp_start I h0 (by omega))]
  have fin : some (0 + pSm va (st c + ht st dp c) (st (c + 1) - (st c + ht st dp c)).toNat) = some (ks st dp va c) := by unfold ks; simp
  rcases hh with y | y
  · have k := key jk_F (by omega)
    rw [y, Int.add_zero] at k
    rw [y, Int.add_zero] at fin
    rw [k, fin]
  · have h5 := ht_1 y
    have k := key 99999 (by omega)
    rw [show jk_F = 99999 + 1 from rfl, fn_Check_sumByRecursion_b15]
    (try simp (disch := omega) only [↓zk_lt, ↓zk_nl, ↓zk_eq, ↓zk_ne, ↓zk_ix, ↓zk_dv, ↓zk_bo, ↓zk_rg, ↓zk_get, ↓zk_set, Option.bind_some])
    rw [y] at k fin
    rw [k, fin]
/-! the reference's sums -/
end PE

section PF
variable {cl sz tn : Int} {st dp tp va nb g w : Int → Int}
theorem sp_sw (I : pI cl sz tn st dp tp va nb g) {k : Int} (h0 : 0 ≤ k) (h1 : k < sz) : fn_Check_standsWell cl st dp k = some 1 := by
  have hcl := I.1.1
  have hsz := I.1.2.1
  obtain ⟨⟨a1, a2, a3, a4⟩, hd, -, -, -, -, c1, c2⟩ := I.2.2 k h0 h1
  have s1 := pI_st I (c := g k) a1 (by omega)
  have s2 := pI_st I (c := g k + 1) (by omega) (by omega)
  unfold fn_Check_standsWell
  rw [zk_bd (sp_ca I h0 h1), zk_bd (sp_start I a1 (by omega)), zk_bd (sp_end I a1 a2)]
  (try simp (disch := omega) only [↓zk_lt, ↓zk_nl, ↓zk_eq, ↓zk_ne, ↓zk_ix, ↓zk_dv, ↓zk_bo, ↓zk_rg, ↓zk_get, ↓zk_set, Option.bind_some])
  rw [zk_bd (sp_start I a1 (by omega))]
  by_cases x : k = st (g k)
  · have := c1 x.symm
    by_cases y : dp k = 0
    · (try simp (disch := omega) only [↓zk_lt, ↓zk_nl, ↓zk_eq, ↓zk_ne, ↓zk_ix, ↓zk_dv, ↓zk_bo, ↓zk_rg, ↓zk_get, ↓zk_set, Option.bind_some])
    · (try simp (disch := omega) only [↓zk_lt, ↓zk_nl, ↓zk_eq, ↓zk_ne, ↓zk_ix, ↓zk_dv, ↓zk_bo, ↓zk_rg, ↓zk_get, ↓zk_set, Option.bind_some])
  · have hlt := c2 (by omega)
    have hp := (I.2.2 (k - 1) (by omega) (by omega)).2.1
    (try simp (disch := omega) only [↓zk_lt, ↓zk_nl, ↓zk_eq, ↓zk_ne, ↓zk_ix, ↓zk_dv, ↓zk_bo, ↓zk_rg, ↓zk_get, ↓zk_set, Option.bind_some])
theorem sp_order (I : pI cl sz tn st dp tp va nb g) : fn_Check_order cl sz st dp = some 1 := by
  have hF := jk_F_big
  have hcl := I.1.1
  have hsz := I.1.2.1
  have e2 : ∀ (n k : Nat) (i : Int), i + k = sz → 0 ≤ i → k < n → fn_Check_order_b34 n cl sz st dp sz i = some 1 := by
    intro n
    induction n with
    | zero => intro k i _ _ h; omega
    | succ n ih =>
      intro k i hi h0 hk
      rw [fn_Check_order_b34]
      cases k with
      | zero => (try simp (disch := omega) only [↓zk_lt, ↓zk_nl, ↓zk_eq, ↓zk_ne, ↓zk_ix, ↓zk_dv, ↓zk_bo, ↓zk_rg, ↓zk_get, ↓zk_set, Option.bind_some])
      | succ k =>
        (try simp (disch := omega) only [↓zk_lt, ↓zk_nl, ↓zk_eq, ↓zk_ne, ↓zk_ix, ↓zk_dv, ↓zk_bo, ↓zk_rg, ↓zk_get, ↓zk_set, Option.bind_some])
        rw [zk_bd (sp_sw I (k := i) (by omega) (by omega))]
        (try simp (disch := omega) only [↓zk_lt, ↓zk_nl, ↓zk_eq, ↓zk_ne, ↓zk_ix, ↓zk_dv, ↓zk_bo, ↓zk_rg, ↓zk_get, ↓zk_set, Option.bind_some])
        exact ih k _ (by omega) (by omega) (by omega)
  have e1 : ∀ (n k : Nat) (i : Int), i + k = cl → 0 ≤ i → k < n → fn_Check_order_b4 n cl sz st dp (st i) i = some 1 := by
    intro n
    induction n with
    | zero => intro k i _ _ h; omega
    | succ n ih =>
      intro k i hi h0 hk
      rw [fn_Check_order_b4]
      cases k with
      | zero =>
        (try simp (disch := omega) only [↓zk_lt, ↓zk_nl, ↓zk_eq, ↓zk_ne, ↓zk_ix, ↓zk_dv, ↓zk_bo, ↓zk_rg, ↓zk_get, ↓zk_set, Option.bind_some])
        rw [show i = cl by omega, I.2.1.2.1]
        exact e2 jk_F sz.toNat 0 (by omega) (by omega) (by omega)
      | succ k =>
        (try simp (disch := omega) only [↓zk_lt, ↓zk_nl, ↓zk_eq, ↓zk_ne, ↓zk_ix, ↓zk_dv, ↓zk_bo, ↓zk_rg, ↓zk_get, ↓zk_set, Option.bind_some])
        rw [zk_bd (sp_end I (c := i) (by omega) (by omega)), zk_bd (sp_start I (c := i) (by omega) (by omega)), show st i + (st (i + 1) - st i) = st (i + 1) by omega]
        exact ih k _ (by omega) (by omega) (by omega)
  unfold fn_Check_order
  have := e1 jk_F cl.toNat 0 (by omega) (by omega) (by omega)
  rw [I.2.1.1] at this
  exact this
theorem sp_branches (I : pI cl sz tn st dp tp va nb g) : fn_Check_branches sz dp va nb = some 1 := by
  have hF := jk_F_big
  have hsz := I.1.2.1
  have e1 : ∀ (n k : Nat) (i : Int), i + k = sz → 0 ≤ i → k < n → fn_Check_branches_b2 n sz dp va nb i = some 1 := by
    intro n
    induction n with
    | zero => intro k i _ _ h; omega
    | succ n ih =>
      intro k i hi h0 hk
      rw [fn_Check_branches_b2]
      cases k with
      | zero => (try simp (disch := omega) only [↓zk_lt, ↓zk_nl, ↓zk_eq, ↓zk_ne, ↓zk_ix, ↓zk_dv, ↓zk_bo, ↓zk_rg, ↓zk_get, ↓zk_set, Option.bind_some])
      | succ k =>
        have h1 : i < sz := by omega
        have hd := (I.2.2 i h0 h1).2.1
        obtain ⟨⟨b1, b2⟩, -⟩ := be_r I h0 h1
        have hl := pSm_r (f := va) (B := 9999) (be sz dp i - i).toNat i (fun j h2 h3 => (I.2.2 j (by omega) (by omega)).2.2.2.1)
        have hh := pSm_r (f := fun j => va j + pw (nb j) - 1) (B := 20000) (be sz dp i - i).toNat i (fun j h2 h3 => by
          obtain ⟨-, -, -, c1, c2, -⟩ := I.2.2 j (by omega) (by omega)
          have := pw_pos c2.1 c2.2
          constructor <;> omega)
        have hn := pCt_r (p := fun j => decide (0 < nb j)) (be sz dp i - i).toNat i
        have hlh := lh (va := va) (nb := nb) (be sz dp i - i).toNat i (fun j h2 h3 => (I.2.2 j (by omega) (by omega)).2.2.2.2.1)
        have t := sp_tbr I 8 i h0 h1 (by omega)
        have et : pT sz dp va i = pSm va i (be sz dp i - i).toNat := rfl
        rw [et] at t
        (try simp (disch := omega) only [↓zk_lt, ↓zk_nl, ↓zk_eq, ↓zk_ne, ↓zk_ix, ↓zk_dv, ↓zk_bo, ↓zk_rg, ↓zk_get, ↓zk_set, Option.bind_some])
        rw [zk_bd (sp_be I h0 h1), zk_bd (sp_low (by omega) (by omega) (by omega) (fun j h2 h3 => (I.2.2 j (by omega) (by omega)).2.2.2.1)), zk_bd (sp_nib (by omega) (by omega) (by omega) (fun j h2 h3 => (I.2.2 j (by omega) (by omega)).2.2.2.2.1)), zk_bd (sp_high (by omega) (by omega) (by omega) (fun j h2 h3 => ⟨(I.2.2 j (by omega) (by omega)).2.2.2.1, (I.2.2 j (by omega) (by omega)).2.2.2.2.1⟩))]
        by_cases x : pCt (fun j => decide (0 < nb j)) i (be sz dp i - i).toNat = 0
        · have := hlh.1 x
          (try simp (disch := omega) only [↓zk_lt, ↓zk_nl, ↓zk_eq, ↓zk_ne, ↓zk_ix, ↓zk_dv, ↓zk_bo, ↓zk_rg, ↓zk_get, ↓zk_set, Option.bind_some])
          rw [zk_bd t]
          (try simp (disch := omega) only [↓zk_lt, ↓zk_nl, ↓zk_eq, ↓zk_ne, ↓zk_ix, ↓zk_dv, ↓zk_bo, ↓zk_rg, ↓zk_get, ↓zk_set, Option.bind_some])
          exact ih k _ (by omega) (by omega) (by omega)
        · have := hlh.2 x
          (try simp (disch := omega) only [↓zk_lt, ↓zk_nl, ↓zk_eq, ↓zk_ne, ↓zk_ix, ↓zk_dv, ↓zk_bo, ↓zk_rg, ↓zk_get, ↓zk_set, Option.bind_some])
          rw [zk_bd (sp_high (by omega) (by omega) (by omega) (fun j h2 h3 => ⟨(I.2.2 j (by omega) (by omega)).2.2.2.1, (I.2.2 j (by omega) (by omega)).2.2.2.2.1⟩))]
          (try simp (disch := omega) only [↓zk_lt, ↓zk_nl, ↓zk_eq, ↓zk_ne, ↓zk_ix, ↓zk_dv, ↓zk_bo, ↓zk_rg, ↓zk_get, ↓zk_set, Option.bind_some])
          rw [zk_bd t]
          (try simp (disch := omega) only [↓zk_lt, ↓zk_nl, ↓zk_eq, ↓zk_ne, ↓zk_ix, ↓zk_dv, ↓zk_bo, ↓zk_rg, ↓zk_get, ↓zk_set, Option.bind_some])
          exact ih k _ (by omega) (by omega) (by omega)
  unfold fn_Check_branches
  exact e1 jk_F sz.toNat 0 (by omega) (by omega) (by omega)
theorem sp_sums (H : pC tn cl sz st dp tp va nb w) : fn_Check_sums cl sz st dp va nb = some 1 := by
  have hF := jk_F_big
  have HH := H
  obtain ⟨⟨g, I, M⟩, G⟩ := HH
  have hcl := I.1.1
  have e1 : ∀ (n k : Nat) (i : Int), i + k = cl → 0 ≤ i → k < n → fn_Check_sums_b2 n cl sz st dp va nb i = some 1 := by
    intro n
    induction n with
    | zero => intro k i _ _ h; omega
    | succ n ih =>
      intro k i hi h0 hk
      rw [fn_Check_sums_b2]
      cases k with
      | zero => (try simp (disch := omega) only [↓zk_lt, ↓zk_nl, ↓zk_eq, ↓zk_ne, ↓zk_ix, ↓zk_dv, ↓zk_bo, ↓zk_rg, ↓zk_get, ↓zk_set, Option.bind_some])
      | succ k =>
        have h1 : i < cl := by omega
        have hkr := ks_r I h0 h1
        obtain ⟨a, ha, ha2⟩ := sp_hks H h0 h1
        have hsum : fn_Cords_sum st dp va i = some (ks st dp va i) := sp_sum I h0 h1
        (try simp (disch := omega) only [↓zk_lt, ↓zk_nl, ↓zk_eq, ↓zk_ne, ↓zk_ix, ↓zk_dv, ↓zk_bo, ↓zk_rg, ↓zk_get, ↓zk_set, Option.bind_some])
        rw [zk_bd ha]
        rcases ha2 with ⟨rfl, -⟩ | ⟨rfl, -⟩
        · (try simp (disch := omega) only [↓zk_lt, ↓zk_nl, ↓zk_eq, ↓zk_ne, ↓zk_ix, ↓zk_dv, ↓zk_bo, ↓zk_rg, ↓zk_get, ↓zk_set, Option.bind_some])
          rw [zk_bd hsum, zk_bd (sp_sbr I h0 h1)]
          (try simp (disch := omega) only [↓zk_lt, ↓zk_nl, ↓zk_eq, ↓zk_ne, ↓zk_ix, ↓zk_dv, ↓zk_bo, ↓zk_rg, ↓zk_get, ↓zk_set, Option.bind_some])
          exact ih k _ (by omega) (by omega) (by omega)
        · (try simp (disch := omega) only [↓zk_lt, ↓zk_nl, ↓zk_eq, ↓zk_ne, ↓zk_ix, ↓zk_dv, ↓zk_bo, ↓zk_rg, ↓zk_get, ↓zk_set, Option.bind_some])
          exact ih k _ (by omega) (by omega) (by omega)
  unfold fn_Check_sums
  exact e1 jk_F cl.toNat 0 (by omega) (by omega) (by omega)
/-- a cluster mended matches -/
theorem mend_match (I : pI cl sz tn st dp tp va nb g) {c : Int} (h0 : 0 ≤ c) (h1 : c < cl) (h : kob st dp va nb c = 0) : kst st dp (jk_up va (ko st nb c) (kg st dp va nb c)) (jk_up nb (ko st nb c) 0) c = 2 := by
  obtain ⟨h2, h3, h4⟩ := kob_0 I h0 h1 h
  obtain ⟨⟨a1, a2⟩, a3, a4, a5, a6⟩ := ko_r I h0 h1 h3
  have s1 := pI_st I (c := c) h0 (by omega)
  have s2 := pI_st I (c := c + 1) (by omega) (by omega)
  have hm := I.2.1.2.2 c h0 h1
  have e1 : kn st (jk_up nb (ko st nb c) 0) c = 0 := by
    unfold kn at h3 ⊢
    rw [pCt_up a3, if_pos (by omega), h3]
    rfl
  have e2 : ks st dp (jk_up va (ko st nb c) (kg st dp va nb c)) c = jk_up va (ko st nb c) (kg st dp va nb c) (st c) := by
    have e3 : ks st dp (jk_up va (ko st nb c) (kg st dp va nb c)) c = if st c + 1 ≤ ko st nb c then ks st dp va c - va (ko st nb c) + kg st dp va nb c else ks st dp va c := by
      unfold ks
      rw [pSm_up, h2]
      by_cases x : st c + 1 ≤ ko st nb c
      · rw [if_pos (by omega), if_pos x]
      · rw [if_neg (by omega), if_neg x]
    rw [e3]
    by_cases x : ko st nb c = st c
    · rw [up_eq x.symm, if_neg (by omega)]
      unfold kg
      rw [if_pos x]
    · rw [up_ne (fun z => x z.symm), if_pos (by omega)]
      unfold kg
      rw [if_neg x]
      omega
  unfold kst
  rw [if_neg (by omega), if_neg (by omega), if_pos e2.symm]
/-- what stays of cords that are only lent -/
def pDr (st dp : Int → Int) : Prop := st 0 = 0 ∧ ∀ j, 0 ≤ j → j < 40 → jk_R (dp j)
/-! the reference's checks -/
end PF

/-! the output: what stands in it, as a list -/
def pO (f : Int → Int) (len : Int) (L : List Int) : Prop := len = (L.length : Int) ∧ ∀ (i : Nat) (v : Int), L[i]? = some v → f (i : Int) = v
theorem pO_nil (f : Int → Int) : pO f 0 [] := ⟨rfl, fun i v h => by cases h⟩
theorem pO_put {f : Int → Int} {len x : Int} {L : List Int} (h : pO f len L) : pO (jk_up f len x) (len + 1) (L ++ [x]) := by
  obtain ⟨h1, h2⟩ := h
  refine ⟨by rw [List.length_append, h1]; rfl, fun i v hv => ?_⟩
  rw [List.getElem?_append] at hv
  by_cases e : i < L.length
  · rw [if_pos e] at hv
    rw [up_ne (by omega)]
    exact h2 i v hv
  · rw [if_neg e] at hv
    have e2 : i - L.length = 0 := by
      by_cases z : i - L.length = 0
      · exact z
      · obtain ⟨q, hq⟩ : ∃ q, i - L.length = q + 1 := ⟨i - L.length - 1, by omega⟩
        rw [hq] at hv
        cases hv
    rw [e2] at hv
    rw [up_eq (by omega)]
    exact Option.some.inj hv
def pCl (db d : Int) : List Int := List.replicate (db - d).toNat 41
def pJo (db d : Int) : List Int := if db = 0 then [] else if db < d then [40] else pCl db d ++ [if d = 1 then 43 else 44]
/-- what a place shows -/
def pPl (va nb : Int → Int) (k p : Int) : Int := if p < nb k then 63 else 48 + va k / pw p % 10
section PW
variable {cl sz tn : Int} {st dp tp va nb g w nm : Int → Int}
/-- a cord's own bytes -/
def pCb (tp va nb w : Int → Int) (k : Int) : List Int := [w (3 + 7 * tp k + 1), pPl va nb k 3, pPl va nb k 2, pPl va nb k 1, pPl va nb k 0]
/-- the system's way through the cords -/
def pLin (dp tp va nb w : Int → Int) (i : Int) : Nat → Int → List Int
  | 0, db => pCl db 1
  | m + 1, db => pJo db (dp i) ++ (pCb tp va nb w i ++ ((if dp i = 0 then [61] else []) ++ pLin dp tp va nb w (i + 1) m (dp i)))
theorem pLin_len : ∀ (m : Nat) (i db : Int), (∀ j, i ≤ j → j < i + m → 0 ≤ dp j ∧ dp j ≤ 3) → 0 ≤ db → ((pLin dp tp va nb w i m db).length : Int) ≤ 8 * m + (if db = 0 then 0 else db - 1) := by
  intro m
  induction m with
  | zero =>
    intro i db _ h0
    simp only [pLin, pCl, List.length_replicate]
    split <;> omega
  | succ m ih =>
    intro i db hd h0
    have hi := hd i (by omega) (by omega)
    have h1 := ih (i + 1) (dp i) (fun j h2 h3 => hd j (by omega) (by omega)) hi.1
    have hj : ((pJo db (dp i)).length : Int) ≤ (if db = 0 then 0 else if db < dp i then 1 else db - dp i + 1) := by
      unfold pJo pCl
      by_cases e : db = 0
      · rw [if_pos e, if_pos e]; simp
      · rw [if_neg e, if_neg e]
        by_cases e2 : db < dp i
        · rw [if_pos e2, if_pos e2]; simp
        · rw [if_neg e2, if_neg e2]; simp; omega
    simp only [pLin, List.length_append, pCb, List.length_cons, List.length_nil]
    by_cases z : dp i = 0
    · rw [if_pos z] at h1 ⊢
      rw [z] at hj ⊢
      rw [z] at h1
      simp only [List.length_cons, List.length_nil]
      by_cases e : db = 0
      · rw [if_pos e] at hj ⊢; omega
      · rw [if_neg e] at hj ⊢
        rw [if_neg (by omega)] at hj
        omega
    · rw [if_neg z] at h1 ⊢
      simp only [List.length_nil]
      by_cases e : db = 0
      · rw [if_pos e] at hj ⊢; omega
      · rw [if_neg e] at hj ⊢
        by_cases e2 : db < dp i
        · rw [if_pos e2] at hj; omega
        · rw [if_neg e2] at hj; omega
end PW

/-! the reference's way: cord by cord, each with what hangs below it -/
def pRows (b : Int → Int) (F : Int → List Int) (sep a e : Int) : Nat → Int → List Int
  | 0, _ => []
  | n + 1, i => if i < e then (if a < i then [sep] else []) ++ (F i ++ pRows b F sep a e n (b i)) else []
def pWc (sz : Int) (dp tp va nb w : Int → Int) : Nat → Int → List Int
  | 0, _ => []
  | d + 1, k => pCb tp va nb w k ++ (if be sz dp k = k + 1 then [] else [40] ++ (pRows (be sz dp) (pWc sz dp tp va nb w d) 44 (k + 1) (be sz dp k) 50 (k + 1) ++ [41]))
section PX
variable {cl sz tn : Int} {st dp tp va nb g w nm : Int → Int}
theorem lin_lower {D db i : Int} {m : Nat} (hD : 1 ≤ D) (hdb : D ≤ db) (h : m = 0 ∨ dp i ≤ D) : pLin dp tp va nb w i m db = List.replicate (db - D).toNat 41 ++ pLin dp tp va nb w i m D := by
  cases m with
  | zero =>
    simp only [pLin, pCl]
    rw [List.replicate_append_replicate]
    congr 1
    omega
  | succ m =>
    have h2 : dp i ≤ D := by
      rcases h with h | h
      · cases h
      · exact h
    simp only [pLin]
    have e : pJo db (dp i) = List.replicate (db - D).toNat 41 ++ pJo D (dp i) := by
      unfold pJo pCl
      rw [if_neg (show ¬ db = 0 by omega), if_neg (show ¬ db < dp i by omega), if_neg (show ¬ D = 0 by omega), if_neg (show ¬ D < dp i by omega), ← List.append_assoc, List.replicate_append_replicate]
      congr 2
      omega
    rw [e, List.append_assoc]
theorem lin_cord (I : pI cl sz tn st dp tp va nb g) : ∀ (d : Nat) (k db E : Int), 0 ≤ k → k < sz → 1 ≤ dp k → 3 - dp k < d → be sz dp k ≤ E → E ≤ sz →
    pLin dp tp va nb w k (E - k).toNat db = pJo db (dp k) ++ (pWc sz dp tp va nb w d k ++ pLin dp tp va nb w (be sz dp k) (E - be sz dp k).toNat (dp k)) := by
  have hsz := I.1.2.1
  intro d
  induction d with
  | zero => intro k db E h0 h1 h2 h3; have := (I.2.2 k h0 h1).2.1; omega
  | succ d ih =>
    intro k db E h0 h1 h2 h3 h4 h5
    obtain ⟨⟨b1, b2⟩, b3, b4⟩ := be_r I h0 h1
    have R := row_below I h0 h1
    have e0 : (E - k).toNat = (E - (k + 1)).toNat + 1 := by omega
    rw [e0]
    simp only [pLin, pWc]
    rw [if_neg (by omega : ¬ dp k = 0)]
    by_cases x : be sz dp k = k + 1
    · rw [if_pos x, x]
      simp
    · rw [if_neg x]
      have rows : ∀ (n : Nat) (i : Int), k + 1 ≤ i → i ≤ be sz dp k → (i < be sz dp k → dp i = dp k + 1) → be sz dp k - i < n →
          pLin dp tp va nb w i (E - i).toNat (if i = k + 1 then dp k else dp k + 1) = (if i = k + 1 then [40] else []) ++ (pRows (be sz dp) (pWc sz dp tp va nb w d) 44 (k + 1) (be sz dp k) n i ++ ([41] ++ pLin dp tp va nb w (be sz dp k) (E - be sz dp k).toNat (dp k))) := by
        intro n
        induction n with
        | zero => intro i _ _ _ h; omega
        | succ n ihn =>
          intro i j1 j2 j3 j4
          simp only [pRows]
          by_cases y : i < be sz dp k
          · have hD := j3 y
            obtain ⟨⟨c1, c2⟩, c3, -⟩ := R.2 i j1 y hD
            have hrec := ih i (if i = k + 1 then dp k else dp k + 1) E (by omega) (by omega) (by omega) (by omega) (by omega) h5
            have hn := ihn (be sz dp i) (by omega) c2 c3 (by omega)
            rw [if_neg (by omega : ¬ be sz dp i = k + 1), if_neg (by omega : ¬ be sz dp i = k + 1)] at hn
            rw [hrec, hD, hn, if_pos y]
            by_cases z : i = k + 1
            · rw [if_pos z, if_pos z, if_neg (by omega : ¬ k + 1 < i)]
              have e1 : pJo (dp k) (dp k + 1) = [40] := by
                unfold pJo
                rw [if_neg (by omega), if_pos (by omega)]
              rw [e1]
              simp
            · rw [if_neg z, if_neg z, if_pos (by omega : k + 1 < i)]
              have e1 : pJo (dp k + 1) (dp k + 1) = [44] := by
                unfold pJo pCl
                rw [if_neg (by omega), if_neg (by omega), if_neg (by omega), show (dp k + 1 - (dp k + 1)).toNat = 0 by omega]
                rfl
              rw [e1]
              simp
          · have e1 : i = be sz dp k := by omega
            rw [if_neg y, if_neg (by omega : ¬ i = k + 1), if_neg (by omega : ¬ i = k + 1), e1]
            rw [lin_lower (D := dp k) h2 (by omega) (by
              by_cases q : be sz dp k < sz
              · exact Or.inr (b4 (by omega) q)
              · exact Or.inl (by omega)), show (dp k + 1 - dp k).toNat = 1 by omega]
            simp
      have hr := rows 50 (k + 1) (by omega) (by omega) (fun h => R.1.1 h) (by omega)
      rw [if_pos rfl, if_pos rfl] at hr
      rw [hr]
      simp
theorem lin_pend (I : pI cl sz tn st dp tp va nb g) {c : Int} (h0 : 0 ≤ c) (h1 : c < cl) : ∀ (n : Nat) (i : Int), st c + ht st dp c ≤ i → i ≤ st (c + 1) → (i < st (c + 1) → dp i = 1) → st (c + 1) - i < n →
    pLin dp tp va nb w i (st (c + 1) - i).toNat (if i = st c + ht st dp c then 0 else 1) = pRows (be sz dp) (pWc sz dp tp va nb w 8) 43 (st c + ht st dp c) (st (c + 1)) n i := by
  have hsz := I.1.2.1
  have s1 := pI_st I (c := c) h0 (by omega)
  have s2 := pI_st I (c := c + 1) (by omega) (by omega)
  have hl := ht_le I h0 h1
  have hh := ht_r (st := st) (dp := dp) c
  have R := row_pend I h0 h1
  intro n
  induction n with
  | zero => intro i _ _ _ h; omega
  | succ n ihn =>
    intro i j1 j2 j3 j4
    simp only [pRows]
    by_cases y : i < st (c + 1)
    · have hD := j3 y
      obtain ⟨⟨c1, c2⟩, c3, -⟩ := R.2 i j1 y hD
      have hrec := lin_cord (w := w) I 8 i (if i = st c + ht st dp c then 0 else 1) (st (c + 1)) (by omega) (by omega) (by omega) (by omega) c2 (by omega)
      have hn := ihn (be sz dp i) (by omega) c2 c3 (by omega)
      rw [if_neg (by omega : ¬ be sz dp i = st c + ht st dp c)] at hn
      rw [hrec, hD, hn, if_pos y]
      by_cases z : i = st c + ht st dp c
      · rw [if_pos z, if_neg (by omega : ¬ st c + ht st dp c < i)]
        have e1 : pJo 0 1 = [] := rfl
        rw [e1]
      · rw [if_neg z, if_pos (by omega : st c + ht st dp c < i)]
        have e1 : pJo 1 1 = [43] := rfl
        rw [e1]
    · have e1 : i = st (c + 1) := by omega
      rw [if_neg y, show (st (c + 1) - i).toNat = 0 by omega]
      by_cases z : i = st c + ht st dp c
      · rw [if_pos z]; rfl
      · rw [if_neg z]; rfl
/-- all that a cluster writes -/
def pAll (sz : Int) (st dp tp va nb w : Int → Int) (c : Int) : List Int := (if ht st dp c = 0 then [] else pWc sz dp tp va nb w 8 (st c) ++ [61]) ++ pRows (be sz dp) (pWc sz dp tp va nb w 8) 43 (st c + ht st dp c) (st (c + 1)) 50 (st c + ht st dp c)
theorem lin_all (I : pI cl sz tn st dp tp va nb g) {c : Int} (h0 : 0 ≤ c) (h1 : c < cl) : pLin dp tp va nb w (st c) (st (c + 1) - st c).toNat 0 = pAll sz st dp tp va nb w c := by
  have hsz := I.1.2.1
  have s1 := pI_st I (c := c) h0 (by omega)
  have s2 := pI_st I (c := c + 1) (by omega) (by omega)
  have hl := ht_le I h0 h1
  have R := row_pend I h0 h1
  have hp := lin_pend (w := w) I h0 h1 50 (st c + ht st dp c) (by omega) hl R.1.1 (by have := ht_r (st := st) (dp := dp) c; omega)
  rw [if_pos rfl] at hp
  unfold pAll
  rw [← hp]
  rcases ht_r (st := st) (dp := dp) c with y | y
  · rw [y, if_pos rfl, Int.add_zero]
    rfl
  · have h5 := ht_1 y
    rw [y, if_neg (by omega)]
    have e0 : (st (c + 1) - st c).toNat = (st (c + 1) - (st c + 1)).toNat + 1 := by omega
    rw [e0]
    simp only [pLin, pWc]
    have e1 : be sz dp (st c) = st c + 1 := by unfold be; rw [if_pos h5.2]
    have e2 : pJo 0 (dp (st c)) = [] := rfl
    rw [e1, if_pos rfl, if_pos h5.2, e2, h5.2]
    simp
/-! the reference writes just that -/
end PX

/-! bits -/
theorem zb_t {n : Nat} (h : n < 2147483648) : (nI n).toInt = (n : Int) := jk_toInt (x := (n : Int)) ⟨by omega, by omega⟩
theorem zb_n {x : Int} (h : 0 ≤ x) : jk_I x = nI x.toNat := by
  rw [show x = (x.toNat : Int) by omega]
  rfl
theorem zb_and31 {x : Int} (h0 : 0 ≤ x) (h1 : x < 2147483648) : jk_and x 31 = x % 32 := by
  unfold jk_and
  rw [zb_n h0, pk_andN (by omega) (m := jk_I 31) 5 (by decide +kernel), zb_t (by omega)]
  omega
theorem zb_and255 (x : Int) : 0 ≤ jk_and x 255 ∧ jk_and x 255 ≤ 255 := by
  unfold jk_and
  obtain ⟨j, h1, h2⟩ := pk_andE (jk_I x) (m := jk_I 255) 8 (by decide +kernel)
  rw [h2, zb_t (by omega)]
  omega
theorem zb_shr {x : Int} (h0 : 0 ≤ x) (h1 : x < 2147483648) {y : Int} {k : Nat} (hy : ((jk_I y &&& 31).toBitVec.smod 32).toNat = k) : jk_shr x y = x / ((2 ^ k : Nat) : Int) := by
  unfold jk_shr
  have h : x.toNat / 2 ^ k ≤ x.toNat := Nat.div_le_self _ _
  rw [zb_n h0, pk_shrN (by omega) _ k hy, zb_t (by omega), Int.natCast_ediv, show ((x.toNat : Nat) : Int) = x by omega]
theorem zb_shl5 {x : Int} (h0 : 0 ≤ x) (h1 : x < 33554432) : jk_shl x 5 = x * 32 := by
  unfold jk_shl
  rw [zb_n h0, pk_shlN _ 5 (by decide +kernel) (by omega), zb_t (by omega)]
  omega
theorem zb_or (a b : Nat) : nI a ||| nI b = nI (a ||| b) := by
  apply Int32.toBitVec_inj.mp
  rw [Int32.toBitVec_or]
  show BitVec.ofNat 32 a ||| BitVec.ofNat 32 b = BitVec.ofNat 32 (a ||| b)
  apply BitVec.eq_of_toNat_eq
  rw [BitVec.toNat_or, BitVec.toNat_ofNat, BitVec.toNat_ofNat, BitVec.toNat_ofNat, Nat.or_mod_two_pow]
theorem zb_or5 {x y : Int} (h0 : 0 ≤ x) (h1 : x < 33554432) (h2 : 0 ≤ y) (h3 : y < 32) : jk_or (x * 32) y = x * 32 + y := by
  unfold jk_or
  have e : (x * 32).toNat ||| y.toNat = (x * 32).toNat + y.toNat := by
    have h := Nat.shiftLeft_add_eq_or_of_lt (show y.toNat < 2 ^ 5 by omega) x.toNat
    rw [Nat.shiftLeft_eq] at h
    rw [show (x * 32).toNat = x.toNat * 2 ^ 5 by omega, ← h]
  rw [zb_n (by omega), zb_n h2, zb_or, e, zb_t (by omega)]
  omega
/-! names as numbers: five bits a letter -/
def enc (f : Int → Int) (a : Int) : Nat → Int
  | 0 => 0
  | n + 1 => (f a - 96) + 32 * enc f (a + 1) n
def pLet (f : Int → Int) (a : Int) (n : Nat) : Prop := ∀ i, a ≤ i → i < a + n → 97 ≤ f i ∧ f i ≤ 122
theorem enc_r {f : Int → Int} : ∀ (n : Nat) (a : Int), pLet f a n → 0 ≤ enc f a n ∧ enc f a n < 32 ^ n := by
  intro n
  induction n with
  | zero => intro a _; simp [enc]
  | succ n ih =>
    intro a h
    have h1 := h a (by omega) (by omega)
    have h2 := ih (a + 1) (fun i h3 h4 => h i (by omega) (by omega))
    simp only [enc]
    rw [Int.pow_succ]
    omega
theorem p32 {n : Nat} (h : n ≤ 6) : (32 : Int) ^ n ≤ 1073741824 := by
  have : n = 0 ∨ n = 1 ∨ n = 2 ∨ n = 3 ∨ n = 4 ∨ n = 5 ∨ n = 6 := by omega
  rcases this with rfl | rfl | rfl | rfl | rfl | rfl | rfl <;> decide
/-- the letter at place i of a name's number -/
def dg (v : Int) : Nat → Int
  | 0 => v % 32
  | i + 1 => dg (v / 32) i
theorem dg_enc {f : Int → Int} : ∀ (i n : Nat) (a : Int), pLet f a n → dg (enc f a n) i = if i < n then f (a + i) - 96 else 0 := by
  intro i
  induction i with
  | zero =>
    intro n a h
    cases n with
    | zero => simp [dg, enc]
    | succ n =>
      have h1 := h a (by omega) (by omega)
      simp only [dg, enc]
      rw [if_pos (by omega)]
      simp only [Int.natCast_zero, Int.add_zero]
      omega
  | succ i ih =>
    intro n a h
    cases n with
    | zero =>
      have := ih 0 a (fun j h3 h4 => by omega)
      simpa [dg, enc] using this
    | succ n =>
      have h1 := h a (by omega) (by omega)
      simp only [dg, enc]
      rw [show (f a - 96 + 32 * enc f (a + 1) n) / 32 = enc f (a + 1) n by omega, ih n (a + 1) (fun j h3 h4 => h j (by omega) (by omega)), show a + 1 + (i : Int) = a + ((i + 1 : Nat) : Int) by omega]
      by_cases e : i < n
      · rw [if_pos e, if_pos (by omega)]
      · rw [if_neg e, if_neg (by omega)]
/-- names differ where their numbers do -/
theorem enc_inj {f h : Int → Int} : ∀ (n m : Nat) (a b : Int), pLet f a n → pLet h b m → (enc f a n = enc h b m ↔ n = m ∧ ∀ i : Nat, i < n → f (a + i) = h (b + i)) := by
  intro n
  induction n with
  | zero =>
    intro m a b _ hb
    cases m with
    | zero => exact ⟨fun _ => ⟨rfl, fun i h => by omega⟩, fun _ => rfl⟩
    | succ m =>
      have h1 := hb b (by omega) (by omega)
      have h2 := enc_r m (b + 1) (fun j h3 h4 => hb j (by omega) (by omega))
      simp only [enc]
      exact ⟨fun z => by omega, fun z => by omega⟩
  | succ n ih =>
    intro m a b ha hb
    have h1 := ha a (by omega) (by omega)
    have h2 := enc_r n (a + 1) (fun j h3 h4 => ha j (by omega) (by omega))
    cases m with
    | zero =>
      simp only [enc]
      exact ⟨fun z => by omega, fun z => by omega⟩
    | succ m =>
      have h3 := hb b (by omega) (by omega)
      have h4 := enc_r m (b + 1) (fun j h5 h6 => hb j (by omega) (by omega))
      have h5 := ih m (a + 1) (b + 1) (fun j h7 h8 => ha j (by omega) (by omega)) (fun j h7 h8 => hb j (by omega) (by omega))
      simp only [enc]
      constructor
      · intro z
        obtain ⟨k1, k2⟩ := h5.mp (by omega)
        refine ⟨by omega, fun i hi => ?_⟩
        cases i with
        | zero => simp only [Int.natCast_zero, Int.add_zero]; omega
        | succ i =>
          have := k2 i (by omega)
          rw [show a + ((i + 1 : Nat) : Int) = a + 1 + (i : Int) by omega, show b + ((i + 1 : Nat) : Int) = b + 1 + (i : Int) by omega]
          exact this
      · intro z
        have k1 := z.2 0 (by omega)
        simp only [Int.natCast_zero, Int.add_zero] at k1
        have k2 := h5.mpr ⟨by omega, fun i hi => by
          have := z.2 (i + 1) (by omega)
          rw [show a + ((i + 1 : Nat) : Int) = a + 1 + (i : Int) by omega, show b + ((i + 1 : Nat) : Int) = b + 1 + (i : Int) by omega] at this
          exact this⟩
        omega
/-- the topics, on both sides -/
def pN (tn : Int) (nm w : Int → Int) : Prop := w 0 = tn ∧ ∀ t, 0 ≤ t → t < tn → ∃ n : Nat, (1 ≤ n ∧ n ≤ 6) ∧ w (3 + 7 * t + 0) = (n : Int) ∧ pLet w (3 + 7 * t + 1) n ∧ nm t = enc w (3 + 7 * t + 1) n
theorem pLet_c {f h : Int → Int} {a : Int} {n : Nat} (H : pLet f a n) (e : ∀ i, a ≤ i → i < a + n → h i = f i) : pLet h a n := fun i h0 h1 => by rw [e i h0 h1]; exact H i h0 h1
theorem enc_c {f h : Int → Int} : ∀ (n : Nat) (a : Int), (∀ i, a ≤ i → i < a + n → h i = f i) → enc h a n = enc f a n := by
  intro n
  induction n with
  | zero => intro a _; rfl
  | succ n ih =>
    intro a e
    simp only [enc]
    rw [e a (by omega) (by omega), ih (a + 1) (fun i h0 h1 => e i (by omega) (by omega))]
theorem pN_U {tn : Int} {nm w w' : Int → Int} (h : pN tn nm w) (ht : tn ≤ 8) (hu : pU w w') : pN tn nm w' := by
  refine ⟨hu.1.trans h.1, fun t h0 h1 => ?_⟩
  obtain ⟨n, a, b, c, d⟩ := h.2 t h0 h1
  have e : ∀ i, 3 + 7 * t + 1 ≤ i → i < 3 + 7 * t + 1 + n → w' i = w i := fun i h2 h3 => hu.2 i (by omega) (by omega)
  exact ⟨n, a, (hu.2 _ (by omega) (by omega)).trans b, pLet_c c e, by rw [d, enc_c n _ e]⟩
theorem dg_shr {v : Int} (h0 : 0 ≤ v) (h1 : v < 2147483648) : ∀ i : Nat, i < 6 → jk_and (jk_shr v (5 * (i : Int))) 31 = dg v i := by
  have key : ∀ i : Nat, i < 6 → ((jk_I (5 * (i : Int)) &&& 31).toBitVec.smod 32).toNat = 5 * i := by decide +kernel
  intro i hi
  rw [zb_shr h0 h1 (key i hi)]
  have e : i = 0 ∨ i = 1 ∨ i = 2 ∨ i = 3 ∨ i = 4 ∨ i = 5 := by omega
  rcases e with rfl | rfl | rfl | rfl | rfl | rfl
  · rw [zb_and31 (by simp; omega) (by simp; omega)]; simp only [dg]; simp
  · rw [zb_and31 (by simp; omega) (by simp; omega)]; simp only [dg]; simp
  · rw [zb_and31 (by simp; omega) (by simp; omega)]; simp only [dg]; simp; omega
  · rw [zb_and31 (by simp; omega) (by simp; omega)]; simp only [dg]; simp; omega
  · rw [zb_and31 (by simp; omega) (by simp; omega)]; simp only [dg]; simp; omega
  · rw [zb_and31 (by simp; omega) (by simp; omega)]; simp only [dg]; simp; omega
/-! the input -/
def pB (len : Int) (f1 f2 : Int → Int) : Prop := (0 ≤ len ∧ len ≤ 700) ∧ ∀ i, 0 ≤ i → i < len → f1 i = f2 i ∧ (0 ≤ f2 i ∧ f2 i ≤ 255)
theorem pB_put {len v : Int} {f1 f2 : Int → Int} (h : pB len f1 f2) (hl : len < 700) (hv : 0 ≤ v ∧ v ≤ 255) : pB (len + 1) (jk_up f1 len v) (jk_up f2 len v) := by
  refine ⟨by have := h.1; omega, fun i h0 h1 => ?_⟩
  by_cases e : i = len
  · rw [up_eq e, up_eq e]; exact ⟨rfl, hv⟩
  · rw [up_ne e, up_ne e]; exact h.2 i h0 (by omega)
