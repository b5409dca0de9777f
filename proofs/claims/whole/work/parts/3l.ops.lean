/-! what stands against a change -/
section PC1
variable {tn cl sz l n : Int} {HC HZ : Int → Int} {HS HD HT HV HN : Int → Int → Int} {st dp tp va nb w past : Int → Int}
theorem pC_f (H : pC tn cl sz st dp tp va nb w) : (0 ≤ cl ∧ cl ≤ 6) ∧ (0 ≤ sz ∧ sz ≤ 40) ∧ (0 ≤ tn ∧ tn ≤ 8) := by
  obtain ⟨⟨g, I, M⟩, G⟩ := H
  exact I.1
theorem pb_0 (H : pC tn cl sz st dp tp va nb w) (A B C : Int) : fn_KR_problemOf tn cl sz st dp va nb 0 A B C = some (if cl < 6 then 0 else 3) := by
  have := pC_f H
  unfold fn_KR_problemOf
  by_cases e : cl < 6
  · rw [if_pos e]; (try simp (disch := omega) only [↓zk_lt, ↓zk_nl, ↓zk_eq, ↓zk_ne, ↓zk_ix, ↓zk_dv, ↓zk_bo, ↓zk_rg, ↓zk_get, ↓zk_set, Option.bind_some])
  · rw [if_neg e]; (try simp (disch := omega) only [↓zk_lt, ↓zk_nl, ↓zk_eq, ↓zk_ne, ↓zk_ix, ↓zk_dv, ↓zk_bo, ↓zk_rg, ↓zk_get, ↓zk_set, Option.bind_some])
theorem pb_new (H : pC tn cl sz st dp tp va nb w) {a p t v : Int} (ha : a = 0 ∨ a = 1) (hp : p = 0 ∨ p = 1) (ht : jk_R t) (hv : jk_R v) : fn_KR_newCordProblem tn sz a p t v = some (if a = 1 ∧ (0 ≤ t ∧ t < tn) then (if 0 ≤ v ∧ v ≤ 9999 then (if p = 1 ∧ sz < 40 then 0 else 3) else 2) else 1) := by
  have hf := pC_f H
  unfold fn_KR_newCordProblem
  rcases ha with rfl | rfl
  · (try simp (disch := omega) only [↓zk_lt, ↓zk_nl, ↓zk_eq, ↓zk_ne, ↓zk_ix, ↓zk_dv, ↓zk_bo, ↓zk_rg, ↓zk_get, ↓zk_set, Option.bind_some]); rw [if_neg (by omega)]
  · (try simp (disch := omega) only [↓zk_lt, ↓zk_nl, ↓zk_eq, ↓zk_ne, ↓zk_ix, ↓zk_dv, ↓zk_bo, ↓zk_rg, ↓zk_get, ↓zk_set, Option.bind_some])
    rw [zk_bd (sp_hasT hf.2.2 ht)]
    by_cases e : 0 ≤ t ∧ t < tn
    · rw [if_pos e]
      (try simp (disch := omega) only [↓zk_lt, ↓zk_nl, ↓zk_eq, ↓zk_ne, ↓zk_ix, ↓zk_dv, ↓zk_bo, ↓zk_rg, ↓zk_get, ↓zk_set, Option.bind_some])
      rw [zk_bd (sp_val hv), if_pos (show True ∧ 0 ≤ t ∧ t < tn from ⟨trivial, e⟩)]
      by_cases e2 : 0 ≤ v ∧ v ≤ 9999
      · rw [if_pos e2, if_pos e2]
        (try simp (disch := omega) only [↓zk_lt, ↓zk_nl, ↓zk_eq, ↓zk_ne, ↓zk_ix, ↓zk_dv, ↓zk_bo, ↓zk_rg, ↓zk_get, ↓zk_set, Option.bind_some])
        rcases hp with rfl | rfl
        · (try simp (disch := omega) only [↓zk_lt, ↓zk_nl, ↓zk_eq, ↓zk_ne, ↓zk_ix, ↓zk_dv, ↓zk_bo, ↓zk_rg, ↓zk_get, ↓zk_set, Option.bind_some]); rw [if_neg (by omega)]
        · by_cases e3 : sz < 40
          · (try simp (disch := omega) only [↓zk_lt, ↓zk_nl, ↓zk_eq, ↓zk_ne, ↓zk_ix, ↓zk_dv, ↓zk_bo, ↓zk_rg, ↓zk_get, ↓zk_set, Option.bind_some]); first | done | rw [if_pos (by omega)] | simp [e3]
          · (try simp (disch := omega) only [↓zk_lt, ↓zk_nl, ↓zk_eq, ↓zk_ne, ↓zk_ix, ↓zk_dv, ↓zk_bo, ↓zk_rg, ↓zk_get, ↓zk_set, Option.bind_some]); first | done | rw [if_neg (by omega)] | simp [e3]
      · rw [if_neg e2, if_neg e2]
        (try simp (disch := omega) only [↓zk_lt, ↓zk_nl, ↓zk_eq, ↓zk_ne, ↓zk_ix, ↓zk_dv, ↓zk_bo, ↓zk_rg, ↓zk_get, ↓zk_set, Option.bind_some])
    · rw [if_neg e]
      (try simp (disch := omega) only [↓zk_lt, ↓zk_nl, ↓zk_eq, ↓zk_ne, ↓zk_ix, ↓zk_dv, ↓zk_bo, ↓zk_rg, ↓zk_get, ↓zk_set, Option.bind_some])
      rw [if_neg (by omega)]
theorem pb_1 (H : pC tn cl sz st dp tp va nb w) {c t v : Int} (hc : jk_R c) (ht : jk_R t) (hv : jk_R v) : fn_KR_problemOf tn cl sz st dp va nb 1 c t v = some (if (0 ≤ c ∧ c < cl) ∧ (0 ≤ t ∧ t < tn) then (if 0 ≤ v ∧ v ≤ 9999 then (if sz < 40 then 0 else 3) else 2) else 1) := by
  have hf := pC_f H
  unfold fn_KR_problemOf
  (try simp (disch := omega) only [↓zk_lt, ↓zk_nl, ↓zk_eq, ↓zk_ne, ↓zk_ix, ↓zk_dv, ↓zk_bo, ↓zk_rg, ↓zk_get, ↓zk_set, Option.bind_some])
  rw [zk_bd (sp_hasC hf.1 hc), zk_bd (pb_new H (by split <;> simp) (Or.inr rfl) ht hv)]
  congr 1
  by_cases e : 0 ≤ c ∧ c < cl
  · rw [if_pos e]; simp [e]
  · rw [if_neg e]; simp [e]
theorem sp_getR {k : Int} {f : Int → Int} (hk : jk_R k) : fn_Row_get 40 f k = some (if 0 ≤ k ∧ k < 40 then f k else 0) := by
  have h1 := hk.1
  have h2 := hk.2
  unfold fn_Row_get
  by_cases e : 0 ≤ k
  · by_cases e2 : k < 40
    · (try simp (disch := omega) only [↓zk_lt, ↓zk_nl, ↓zk_eq, ↓zk_ne, ↓zk_ix, ↓zk_dv, ↓zk_bo, ↓zk_rg, ↓zk_get, ↓zk_set, Option.bind_some]); rw [if_pos ⟨e, e2⟩]
    · (try simp (disch := omega) only [↓zk_lt, ↓zk_nl, ↓zk_eq, ↓zk_ne, ↓zk_ix, ↓zk_dv, ↓zk_bo, ↓zk_rg, ↓zk_get, ↓zk_set, Option.bind_some]); rw [if_neg (by omega)]
  · (try simp (disch := omega) only [↓zk_lt, ↓zk_nl, ↓zk_eq, ↓zk_ne, ↓zk_ix, ↓zk_dv, ↓zk_bo, ↓zk_rg, ↓zk_get, ↓zk_set, Option.bind_some]); rw [if_neg (by omega)]
theorem sp_chm (H : pC tn cl sz st dp tp va nb w) {k : Int} (hk : jk_R k) : ∃ a, fn_Cords_canHoldMore dp k = some a ∧ (a = 0 ∨ a = 1) ∧ (0 ≤ k ∧ k < sz → (a = 1 ↔ (1 ≤ dp k ∧ dp k < 3))) := by
  have hf := pC_f H
  unfold fn_Cords_canHoldMore
  rw [zk_bd (sp_getR hk)]
  have hR : jk_R (if 0 ≤ k ∧ k < 40 then dp k else 0) := by
    split
    · exact H.2 k (by omega) (by omega)
    · exact ⟨by omega, by omega⟩
  have h1 := hR.1
  have h2 := hR.2
  by_cases e : (if 0 ≤ k ∧ k < 40 then dp k else 0) < 1
  · refine ⟨0, by (try simp (disch := omega) only [↓zk_lt, ↓zk_nl, ↓zk_eq, ↓zk_ne, ↓zk_ix, ↓zk_dv, ↓zk_bo, ↓zk_rg, ↓zk_get, ↓zk_set, Option.bind_some]), Or.inl rfl, fun h => ⟨fun z => by omega, fun z => ?_⟩⟩
    rw [if_pos (by omega)] at e
    omega
  · by_cases e2 : (if 0 ≤ k ∧ k < 40 then dp k else 0) < 3
    · refine ⟨1, ?_, Or.inr rfl, fun h => ⟨fun _ => ?_, fun _ => rfl⟩⟩
      · (try simp (disch := omega) only [↓zk_lt, ↓zk_nl, ↓zk_eq, ↓zk_ne, ↓zk_ix, ↓zk_dv, ↓zk_bo, ↓zk_rg, ↓zk_get, ↓zk_set, Option.bind_some])
      · rw [if_pos (by omega)] at e e2
        omega
    · refine ⟨0, ?_, Or.inl rfl, fun h => ⟨fun z => by omega, fun z => ?_⟩⟩
      · (try simp (disch := omega) only [↓zk_lt, ↓zk_nl, ↓zk_eq, ↓zk_ne, ↓zk_ix, ↓zk_dv, ↓zk_bo, ↓zk_rg, ↓zk_get, ↓zk_set, Option.bind_some])
      · rw [if_pos (by omega)] at e2
        omega
theorem pb_2 (H : pC tn cl sz st dp tp va nb w) {k t v : Int} (hk : jk_R k) (ht : jk_R t) (hv : jk_R v) : fn_KR_problemOf tn cl sz st dp va nb 2 k t v = some (if (0 ≤ k ∧ k < sz) ∧ (0 ≤ t ∧ t < tn) then (if 0 ≤ v ∧ v ≤ 9999 then (if (1 ≤ dp k ∧ dp k < 3) ∧ sz < 40 then 0 else 3) else 2) else 1) := by
  have hf := pC_f H
  obtain ⟨a, ha, ha2, ha3⟩ := sp_chm H hk
  unfold fn_KR_problemOf
  (try simp (disch := omega) only [↓zk_lt, ↓zk_nl, ↓zk_eq, ↓zk_ne, ↓zk_ix, ↓zk_dv, ↓zk_bo, ↓zk_rg, ↓zk_get, ↓zk_set, Option.bind_some])
  rw [zk_bd (sp_has hf.2.1 hk), zk_bd ha, zk_bd (pb_new H (by split <;> simp) ha2 ht hv)]
  congr 1
  by_cases e : 0 ≤ k ∧ k < sz
  · rw [if_pos e]
    have h := ha3 e
    simp only [e, h, true_and, and_self]
  · rw [if_neg e]; simp [e]
theorem pb_3 (H : pC tn cl sz st dp tp va nb w) {k : Int} (hk : jk_R k) (B C : Int) : fn_KR_problemOf tn cl sz st dp va nb 3 k B C = some (if 0 ≤ k ∧ k < sz then 0 else 1) := by
  have hf := pC_f H
  unfold fn_KR_problemOf
  (try simp (disch := omega) only [↓zk_lt, ↓zk_nl, ↓zk_eq, ↓zk_ne, ↓zk_ix, ↓zk_dv, ↓zk_bo, ↓zk_rg, ↓zk_get, ↓zk_set, Option.bind_some])
  rw [zk_bd (sp_has hf.2.1 hk)]
  by_cases e : 0 ≤ k ∧ k < sz
  · rw [if_pos e, if_pos e]; (try simp (disch := omega) only [↓zk_lt, ↓zk_nl, ↓zk_eq, ↓zk_ne, ↓zk_ix, ↓zk_dv, ↓zk_bo, ↓zk_rg, ↓zk_get, ↓zk_set, Option.bind_some])
  · rw [if_neg e, if_neg e]; (try simp (disch := omega) only [↓zk_lt, ↓zk_nl, ↓zk_eq, ↓zk_ne, ↓zk_ix, ↓zk_dv, ↓zk_bo, ↓zk_rg, ↓zk_get, ↓zk_set, Option.bind_some])
/-- no pendant of the cluster is nibbled -/
def kw (st dp nb : Int → Int) (c : Int) : Prop := pCt (fun j => decide (0 < nb j)) (st c + ht st dp c) (st (c + 1) - (st c + ht st dp c)).toNat = 0
theorem sp_hks (H : pC tn cl sz st dp tp va nb w) {c : Int} (h0 : 0 ≤ c) (h1 : c < cl) : ∃ a, fn_Cords_hasKnownSum st dp nb c = some a ∧ ((a = 1 ∧ kw st dp nb c) ∨ (a = 0 ∧ ¬ kw st dp nb c)) := by
  obtain ⟨⟨g, I, M⟩, G⟩ := H
  have hsz := I.1.2.1
  have s1 := pI_st I (c := c) h0 (by omega)
  have s2 := pI_st I (c := c + 1) (by omega) (by omega)
  have hl := ht_le I h0 h1
  have hh := ht_r (st := st) (dp := dp) c
  have hn := pCt_r (p := fun j => decide (0 < nb j)) (st (c + 1) - (st c + ht st dp c)).toNat (st c + ht st dp c)
  have hnib := sp_nib (nb := nb) (a := st c + ht st dp c) (b := st (c + 1)) (by omega) (by omega) (by omega) (fun j h2 h3 => (I.2.2 j (by omega) (by omega)).2.2.2.2.1)
  unfold fn_Cords_hasKnownSum
  rw [zk_bd (sp_ps I h0 h1), zk_bd (sp_end I h0 h1), zk_bd hnib]
  by_cases e : pCt (fun j => decide (0 < nb j)) (st c + ht st dp c) (st (c + 1) - (st c + ht st dp c)).toNat = 0
  · exact ⟨1, by (try simp (disch := omega) only [↓zk_lt, ↓zk_nl, ↓zk_eq, ↓zk_ne, ↓zk_ix, ↓zk_dv, ↓zk_bo, ↓zk_rg, ↓zk_get, ↓zk_set, Option.bind_some]), Or.inl ⟨rfl, e⟩⟩
  · exact ⟨0, by (try simp (disch := omega) only [↓zk_lt, ↓zk_nl, ↓zk_eq, ↓zk_ne, ↓zk_ix, ↓zk_dv, ↓zk_bo, ↓zk_rg, ↓zk_get, ↓zk_set, Option.bind_some]), Or.inr ⟨rfl, e⟩⟩
/-- a top cord may be tied -/
def ktie (sz : Int) (st dp va nb : Int → Int) (c : Int) : Prop := ht st dp c = 0 ∧ st c < st (c + 1) ∧ sz < 40 ∧ kw st dp nb c ∧ ks st dp va c ≤ 9999
theorem pb_4t (H : pC tn cl sz st dp tp va nb w) {c t : Int} (hc : jk_R c) (htt : jk_R t) : ∃ p, fn_KR_tieProblem tn cl sz st dp va nb c t = some p ∧ ((p = 1 ∧ ¬ ((0 ≤ c ∧ c < cl) ∧ (0 ≤ t ∧ t < tn))) ∨ (((0 ≤ c ∧ c < cl) ∧ (0 ≤ t ∧ t < tn)) ∧ ((p = 0 ∧ ktie sz st dp va nb c) ∨ (p = 3 ∧ ¬ ktie sz st dp va nb c)))) := by
  have hf := pC_f H
  have HH := H
  obtain ⟨⟨g, I, M⟩, G⟩ := HH
  unfold fn_KR_tieProblem
  rw [zk_bd (sp_hasC hf.1 hc)]
  by_cases e : 0 ≤ c ∧ c < cl
  · rw [if_pos e]
    have h0 := e.1
    have h1 := e.2
    have s1 := pI_st I (c := c) h0 (by omega)
    have s2 := pI_st I (c := c + 1) (by omega) (by omega)
    have hm := I.2.1.2.2 c h0 h1
    have hh := ht_r (st := st) (dp := dp) c
    have hkr := ks_r I h0 h1
    have hsum : fn_Cords_sum st dp va c = some (ks st dp va c) := sp_sum I h0 h1
    obtain ⟨a, ha, ha2⟩ := sp_hks H h0 h1
    (try simp (disch := omega) only [↓zk_lt, ↓zk_nl, ↓zk_eq, ↓zk_ne, ↓zk_ix, ↓zk_dv, ↓zk_bo, ↓zk_rg, ↓zk_get, ↓zk_set, Option.bind_some])
    rw [zk_bd (sp_hasT hf.2.2 htt)]
    by_cases e2 : 0 ≤ t ∧ t < tn
    · rw [if_pos e2]
      (try simp (disch := omega) only [↓zk_lt, ↓zk_nl, ↓zk_eq, ↓zk_ne, ↓zk_ix, ↓zk_dv, ↓zk_bo, ↓zk_rg, ↓zk_get, ↓zk_set, Option.bind_some])
      rw [zk_bd (sp_ht I h0 h1)]
      unfold ktie
      by_cases e3 : ht st dp c = 0
      · (try simp (disch := omega) only [↓zk_lt, ↓zk_nl, ↓zk_eq, ↓zk_ne, ↓zk_ix, ↓zk_dv, ↓zk_bo, ↓zk_rg, ↓zk_get, ↓zk_set, Option.bind_some])
        rw [zk_bd (sp_start I h0 (by omega)), zk_bd (sp_end I h0 h1)]
        by_cases e4 : st c = st (c + 1)
        · exact ⟨3, by (try simp (disch := omega) only [↓zk_lt, ↓zk_nl, ↓zk_eq, ↓zk_ne, ↓zk_ix, ↓zk_dv, ↓zk_bo, ↓zk_rg, ↓zk_get, ↓zk_set, Option.bind_some]), Or.inr ⟨⟨e, e2⟩, Or.inr ⟨rfl, fun z => by omega⟩⟩⟩
        · by_cases e5 : sz < 40
          · (try simp (disch := omega) only [↓zk_lt, ↓zk_nl, ↓zk_eq, ↓zk_ne, ↓zk_ix, ↓zk_dv, ↓zk_bo, ↓zk_rg, ↓zk_get, ↓zk_set, Option.bind_some])
            rw [zk_bd ha]
            rcases ha2 with ⟨rfl, k⟩ | ⟨rfl, k⟩
            · (try simp (disch := omega) only [↓zk_lt, ↓zk_nl, ↓zk_eq, ↓zk_ne, ↓zk_ix, ↓zk_dv, ↓zk_bo, ↓zk_rg, ↓zk_get, ↓zk_set, Option.bind_some])
              rw [zk_bd hsum, zk_bd (sp_val ⟨by omega, by omega⟩)]
              by_cases e6 : ks st dp va c ≤ 9999
              · rw [if_pos ⟨hkr.1, e6⟩]
                exact ⟨0, by (try simp (disch := omega) only [↓zk_lt, ↓zk_nl, ↓zk_eq, ↓zk_ne, ↓zk_ix, ↓zk_dv, ↓zk_bo, ↓zk_rg, ↓zk_get, ↓zk_set, Option.bind_some]), Or.inr ⟨⟨e, e2⟩, Or.inl ⟨rfl, e3, by omega, e5, k, e6⟩⟩⟩
              · rw [if_neg (fun z => e6 z.2)]
                exact ⟨3, by (try simp (disch := omega) only [↓zk_lt, ↓zk_nl, ↓zk_eq, ↓zk_ne, ↓zk_ix, ↓zk_dv, ↓zk_bo, ↓zk_rg, ↓zk_get, ↓zk_set, Option.bind_some]), Or.inr ⟨⟨e, e2⟩, Or.inr ⟨rfl, fun z => e6 z.2.2.2.2⟩⟩⟩
            · exact ⟨3, by (try simp (disch := omega) only [↓zk_lt, ↓zk_nl, ↓zk_eq, ↓zk_ne, ↓zk_ix, ↓zk_dv, ↓zk_bo, ↓zk_rg, ↓zk_get, ↓zk_set, Option.bind_some]), Or.inr ⟨⟨e, e2⟩, Or.inr ⟨rfl, fun z => k z.2.2.2.1⟩⟩⟩
          · exact ⟨3, by (try simp (disch := omega) only [↓zk_lt, ↓zk_nl, ↓zk_eq, ↓zk_ne, ↓zk_ix, ↓zk_dv, ↓zk_bo, ↓zk_rg, ↓zk_get, ↓zk_set, Option.bind_some]), Or.inr ⟨⟨e, e2⟩, Or.inr ⟨rfl, fun z => e5 z.2.2.1⟩⟩⟩
      · exact ⟨3, by (try simp (disch := omega) only [↓zk_lt, ↓zk_nl, ↓zk_eq, ↓zk_ne, ↓zk_ix, ↓zk_dv, ↓zk_bo, ↓zk_rg, ↓zk_get, ↓zk_set, Option.bind_some]), Or.inr ⟨⟨e, e2⟩, Or.inr ⟨rfl, fun z => e3 z.1⟩⟩⟩
    · rw [if_neg e2]
      exact ⟨1, by (try simp (disch := omega) only [↓zk_lt, ↓zk_nl, ↓zk_eq, ↓zk_ne, ↓zk_ix, ↓zk_dv, ↓zk_bo, ↓zk_rg, ↓zk_get, ↓zk_set, Option.bind_some]), Or.inl ⟨rfl, fun z => e2 z.2⟩⟩
  · rw [if_neg e]
    exact ⟨1, by (try simp (disch := omega) only [↓zk_lt, ↓zk_nl, ↓zk_eq, ↓zk_ne, ↓zk_ix, ↓zk_dv, ↓zk_bo, ↓zk_rg, ↓zk_get, ↓zk_set, Option.bind_some]), Or.inl ⟨rfl, fun z => e z.1⟩⟩
theorem pb_4 (H : pC tn cl sz st dp tp va nb w) {c t : Int} (hc : jk_R c) (htt : jk_R t) (C : Int) : ∃ p, fn_KR_problemOf tn cl sz st dp va nb 4 c t C = some p ∧ ((p = 1 ∧ ¬ ((0 ≤ c ∧ c < cl) ∧ (0 ≤ t ∧ t < tn))) ∨ (((0 ≤ c ∧ c < cl) ∧ (0 ≤ t ∧ t < tn)) ∧ ((p = 0 ∧ ktie sz st dp va nb c) ∨ (p = 3 ∧ ¬ ktie sz st dp va nb c)))) := by
  obtain ⟨p, h1, h2⟩ := pb_4t H hc htt
  refine ⟨p, ?_, h2⟩
  unfold fn_KR_problemOf
  (try simp (disch := omega) only [↓zk_lt, ↓zk_nl, ↓zk_eq, ↓zk_ne, ↓zk_ix, ↓zk_dv, ↓zk_bo, ↓zk_rg, ↓zk_get, ↓zk_set, Option.bind_some])
  rw [zk_bd h1]
theorem sm_mayAdd (H : pC tn cl sz st dp tp va nb w) : fn_Md_mayAdd w = some (if sz < 40 then 1 else 0) := by
  obtain ⟨⟨g, I, M⟩, G⟩ := H
  have hsz := I.1.2.1
  have hw2 := M.2.1
  unfold fn_Md_mayAdd
  by_cases e : sz < 40
  · (try simp (disch := omega) only [↓zk_lt, ↓zk_nl, ↓zk_eq, ↓zk_ne, ↓zk_ix, ↓zk_dv, ↓zk_bo, ↓zk_rg, ↓zk_get, ↓zk_set, Option.bind_some]); rw [if_pos e]
  · (try simp (disch := omega) only [↓zk_lt, ↓zk_nl, ↓zk_eq, ↓zk_ne, ↓zk_ix, ↓zk_dv, ↓zk_bo, ↓zk_rg, ↓zk_get, ↓zk_set, Option.bind_some]); rw [if_neg e]
theorem sm_mayTie (H : pC tn cl sz st dp tp va nb w) {c : Int} (h0 : 0 ≤ c) (h1 : c < cl) : ∃ a, fn_Md_mayTie w c = some a ∧ ((a = 1 ∧ ktie sz st dp va nb c) ∨ (a = 0 ∧ ¬ ktie sz st dp va nb c)) := by
  have hma := sm_mayAdd H
  have hf := pC_f H
  obtain ⟨⟨g, I, M⟩, G⟩ := H
  have s1 := pI_st I (c := c) h0 (by omega)
  have s2 := pI_st I (c := c + 1) (by omega) (by omega)
  have hm := I.2.1.2.2 c h0 h1
  have hh := ht_r (st := st) (dp := dp) c
  have hkr := ks_r I h0 h1
  have hr := pCt_r (p := fun j => decide (dp j = 1)) (st (c + 1) - st c).toNat (st c)
  have hks : fn_Md_knownSum w c = some (ks st dp va c) := sm_ks I M h0 h1
  unfold fn_Md_mayTie ktie kw
  rw [zk_bd (sm_ht I M h0 h1)]
  by_cases e3 : ht st dp c = 0
  · have hwf := sm_wf I M (a := st c) (b := st (c + 1)) (by omega) (by omega) (by omega)
    (try simp (disch := omega) only [↓zk_lt, ↓zk_nl, ↓zk_eq, ↓zk_ne, ↓zk_ix, ↓zk_dv, ↓zk_bo, ↓zk_rg, ↓zk_get, ↓zk_set, Option.bind_some])
    rw [zk_bd (sm_pen I M h0 h1)]
    by_cases e4 : st c = st (c + 1)
    · have hz : pCt (fun j => decide (dp j = 1)) (st c) (st (c + 1) - st c).toNat = 0 := pCt_z _ _ (fun j h2 h3 => by omega)
      exact ⟨0, by (try simp (disch := omega) only [↓zk_lt, ↓zk_nl, ↓zk_eq, ↓zk_ne, ↓zk_ix, ↓zk_dv, ↓zk_bo, ↓zk_rg, ↓zk_get, ↓zk_set, Option.bind_some]), Or.inr ⟨rfl, fun z => by omega⟩⟩
    · have hpos : ¬ pCt (fun j => decide (dp j = 1)) (st c) (st (c + 1) - st c).toNat = 0 := fun z => by
        have h2 := of_decide_eq_false (pCt_0 _ _ z (st c) (by omega) (by omega))
        have hg := pI_g I (c := c) (k := st c) h0 h1 (by omega) (by omega)
        obtain ⟨-, c1, -, -, -, -, c2, -⟩ := I.2.2 (st c) (by omega) (by omega)
        have := c2 (by rw [hg])
        have h4 : ¬ dp (st c) = 0 := fun q => by
          unfold ht at e3
          rw [if_pos ⟨by omega, q⟩] at e3
          omega
        omega
      (try simp (disch := omega) only [↓zk_lt, ↓zk_nl, ↓zk_eq, ↓zk_ne, ↓zk_ix, ↓zk_dv, ↓zk_bo, ↓zk_rg, ↓zk_get, ↓zk_set, Option.bind_some])
      rw [zk_bd (sm_first I M h0 (by omega)), zk_bd (sm_end I M h0 h1), zk_bd hwf, e3, Int.add_zero]
      by_cases k : pCt (fun j => decide (0 < nb j)) (st c) (st (c + 1) - st c).toNat = 0
      · rw [if_pos k]
        (try simp (disch := omega) only [↓zk_lt, ↓zk_nl, ↓zk_eq, ↓zk_ne, ↓zk_ix, ↓zk_dv, ↓zk_bo, ↓zk_rg, ↓zk_get, ↓zk_set, Option.bind_some])
        rw [zk_bd hks]
        by_cases e6 : ks st dp va c ≤ 9999
        · (try simp (disch := omega) only [↓zk_lt, ↓zk_nl, ↓zk_eq, ↓zk_ne, ↓zk_ix, ↓zk_dv, ↓zk_bo, ↓zk_rg, ↓zk_get, ↓zk_set, Option.bind_some])
          rw [zk_bd hma]
          by_cases e5 : sz < 40
          · rw [if_pos e5]
            exact ⟨1, by (try simp (disch := omega) only [↓zk_lt, ↓zk_nl, ↓zk_eq, ↓zk_ne, ↓zk_ix, ↓zk_dv, ↓zk_bo, ↓zk_rg, ↓zk_get, ↓zk_set, Option.bind_some]), Or.inl ⟨rfl, by first | rfl | trivial, by omega, e5, k, e6⟩⟩
          · rw [if_neg e5]
            exact ⟨0, by (try simp (disch := omega) only [↓zk_lt, ↓zk_nl, ↓zk_eq, ↓zk_ne, ↓zk_ix, ↓zk_dv, ↓zk_bo, ↓zk_rg, ↓zk_get, ↓zk_set, Option.bind_some]), Or.inr ⟨rfl, fun z => e5 z.2.2.1⟩⟩
        · exact ⟨0, by (try simp (disch := omega) only [↓zk_lt, ↓zk_nl, ↓zk_eq, ↓zk_ne, ↓zk_ix, ↓zk_dv, ↓zk_bo, ↓zk_rg, ↓zk_get, ↓zk_set, Option.bind_some]), Or.inr ⟨rfl, fun z => e6 z.2.2.2.2⟩⟩
      · rw [if_neg k]
        exact ⟨0, by (try simp (disch := omega) only [↓zk_lt, ↓zk_nl, ↓zk_eq, ↓zk_ne, ↓zk_ix, ↓zk_dv, ↓zk_bo, ↓zk_rg, ↓zk_get, ↓zk_set, Option.bind_some]), Or.inr ⟨rfl, fun z => k z.2.2.2.1⟩⟩
  · exact ⟨0, by (try simp (disch := omega) only [↓zk_lt, ↓zk_nl, ↓zk_eq, ↓zk_ne, ↓zk_ix, ↓zk_dv, ↓zk_bo, ↓zk_rg, ↓zk_get, ↓zk_set, Option.bind_some]), Or.inr ⟨rfl, fun z => e3 z.1⟩⟩
theorem pb_5 (H : pC tn cl sz st dp tp va nb w) {k y x : Int} (hk : jk_R k) (hy : jk_R y) (hx : jk_R x) : fn_KR_problemOf tn cl sz st dp va nb 5 k y x = some (if 0 ≤ k ∧ k < sz then (if (0 ≤ y ∧ y ≤ 3) ∧ (0 ≤ x ∧ x ≤ 9) then (if nb k ≤ y then 0 else 3) else 2) else 1) := by
  have hf := pC_f H
  have y1 := hy.1
  have y2 := hy.2
  have x1 := hx.1
  have x2 := hx.2
  unfold fn_KR_problemOf fn_KR_knotsProblem
  (try simp (disch := omega) only [↓zk_lt, ↓zk_nl, ↓zk_eq, ↓zk_ne, ↓zk_ix, ↓zk_dv, ↓zk_bo, ↓zk_rg, ↓zk_get, ↓zk_set, Option.bind_some])
  rw [zk_bd (sp_has hf.2.1 hk)]
  by_cases e : 0 ≤ k ∧ k < sz
  · obtain ⟨⟨g, I, M⟩, G⟩ := H
    have hb := (I.2.2 k e.1 e.2).2.2.2.2.1
    rw [if_pos e, if_pos e]
    unfold fn_KR_isPlace
    (try simp (disch := omega) only [↓zk_lt, ↓zk_nl, ↓zk_eq, ↓zk_ne, ↓zk_ix, ↓zk_dv, ↓zk_bo, ↓zk_rg, ↓zk_get, ↓zk_set, Option.bind_some])
    by_cases a : 0 ≤ y
    · by_cases b : y < 4
      · (try simp (disch := omega) only [↓zk_lt, ↓zk_nl, ↓zk_eq, ↓zk_ne, ↓zk_ix, ↓zk_dv, ↓zk_bo, ↓zk_rg, ↓zk_get, ↓zk_set, Option.bind_some])
        by_cases c : 0 ≤ x
        · by_cases d : x ≤ 9
          · (try simp (disch := omega) only [↓zk_lt, ↓zk_nl, ↓zk_eq, ↓zk_ne, ↓zk_ix, ↓zk_dv, ↓zk_bo, ↓zk_rg, ↓zk_get, ↓zk_set, Option.bind_some])
            rw [if_pos (by omega)]
            by_cases f : nb k ≤ y
            · (try simp (disch := omega) only [↓zk_lt, ↓zk_nl, ↓zk_eq, ↓zk_ne, ↓zk_ix, ↓zk_dv, ↓zk_bo, ↓zk_rg, ↓zk_get, ↓zk_set, Option.bind_some]); rw [if_pos f]
            · (try simp (disch := omega) only [↓zk_lt, ↓zk_nl, ↓zk_eq, ↓zk_ne, ↓zk_ix, ↓zk_dv, ↓zk_bo, ↓zk_rg, ↓zk_get, ↓zk_set, Option.bind_some]); rw [if_neg f]
          · (try simp (disch := omega) only [↓zk_lt, ↓zk_nl, ↓zk_eq, ↓zk_ne, ↓zk_ix, ↓zk_dv, ↓zk_bo, ↓zk_rg, ↓zk_get, ↓zk_set, Option.bind_some]); rw [if_neg (by omega)]
        · (try simp (disch := omega) only [↓zk_lt, ↓zk_nl, ↓zk_eq, ↓zk_ne, ↓zk_ix, ↓zk_dv, ↓zk_bo, ↓zk_rg, ↓zk_get, ↓zk_set, Option.bind_some]); rw [if_neg (by omega)]
      · (try simp (disch := omega) only [↓zk_lt, ↓zk_nl, ↓zk_eq, ↓zk_ne, ↓zk_ix, ↓zk_dv, ↓zk_bo, ↓zk_rg, ↓zk_get, ↓zk_set, Option.bind_some]); rw [if_neg (by omega)]
    · (try simp (disch := omega) only [↓zk_lt, ↓zk_nl, ↓zk_eq, ↓zk_ne, ↓zk_ix, ↓zk_dv, ↓zk_bo, ↓zk_rg, ↓zk_get, ↓zk_set, Option.bind_some]); rw [if_neg (by omega)]
  · rw [if_neg e, if_neg e]
    (try simp (disch := omega) only [↓zk_lt, ↓zk_nl, ↓zk_eq, ↓zk_ne, ↓zk_ix, ↓zk_dv, ↓zk_bo, ↓zk_rg, ↓zk_get, ↓zk_set, Option.bind_some])
theorem pb_6 (H : pC tn cl sz st dp tp va nb w) {k y : Int} (hk : jk_R k) (hy : jk_R y) (C : Int) : fn_KR_problemOf tn cl sz st dp va nb 6 k y C = some (if 0 ≤ k ∧ k < sz then (if 1 ≤ y ∧ y ≤ 4 then (if nb k ≤ y then 0 else 3) else 2) else 1) := by
  have hf := pC_f H
  have y1 := hy.1
  have y2 := hy.2
  unfold fn_KR_problemOf fn_KR_nibbleProblem
  (try simp (disch := omega) only [↓zk_lt, ↓zk_nl, ↓zk_eq, ↓zk_ne, ↓zk_ix, ↓zk_dv, ↓zk_bo, ↓zk_rg, ↓zk_get, ↓zk_set, Option.bind_some])
  rw [zk_bd (sp_has hf.2.1 hk)]
  by_cases e : 0 ≤ k ∧ k < sz
  · obtain ⟨⟨g, I, M⟩, G⟩ := H
    have hb := (I.2.2 k e.1 e.2).2.2.2.2.1
    rw [if_pos e, if_pos e]
    by_cases a : 1 ≤ y
    · by_cases b : y ≤ 4
      · (try simp (disch := omega) only [↓zk_lt, ↓zk_nl, ↓zk_eq, ↓zk_ne, ↓zk_ix, ↓zk_dv, ↓zk_bo, ↓zk_rg, ↓zk_get, ↓zk_set, Option.bind_some])
        rw [if_pos (by omega)]
        by_cases f : nb k ≤ y
        · (try simp (disch := omega) only [↓zk_lt, ↓zk_nl, ↓zk_eq, ↓zk_ne, ↓zk_ix, ↓zk_dv, ↓zk_bo, ↓zk_rg, ↓zk_get, ↓zk_set, Option.bind_some]); rw [if_pos f]
        · (try simp (disch := omega) only [↓zk_lt, ↓zk_nl, ↓zk_eq, ↓zk_ne, ↓zk_ix, ↓zk_dv, ↓zk_bo, ↓zk_rg, ↓zk_get, ↓zk_set, Option.bind_some]); rw [if_neg f]
      · (try simp (disch := omega) only [↓zk_lt, ↓zk_nl, ↓zk_eq, ↓zk_ne, ↓zk_ix, ↓zk_dv, ↓zk_bo, ↓zk_rg, ↓zk_get, ↓zk_set, Option.bind_some]); rw [if_neg (by omega)]
    · (try simp (disch := omega) only [↓zk_lt, ↓zk_nl, ↓zk_eq, ↓zk_ne, ↓zk_ix, ↓zk_dv, ↓zk_bo, ↓zk_rg, ↓zk_get, ↓zk_set, Option.bind_some]); rw [if_neg (by omega)]
  · rw [if_neg e, if_neg e]
    (try simp (disch := omega) only [↓zk_lt, ↓zk_nl, ↓zk_eq, ↓zk_ne, ↓zk_ix, ↓zk_dv, ↓zk_bo, ↓zk_rg, ↓zk_get, ↓zk_set, Option.bind_some])
theorem pb_7 (H : pC tn cl sz st dp tp va nb w) {k t : Int} (hk : jk_R k) (ht : jk_R t) (C : Int) : fn_KR_problemOf tn cl sz st dp va nb 7 k t C = some (if (0 ≤ k ∧ k < sz) ∧ (0 ≤ t ∧ t < tn) then 0 else 1) := by
  have hf := pC_f H
  unfold fn_KR_problemOf
  (try simp (disch := omega) only [↓zk_lt, ↓zk_nl, ↓zk_eq, ↓zk_ne, ↓zk_ix, ↓zk_dv, ↓zk_bo, ↓zk_rg, ↓zk_get, ↓zk_set, Option.bind_some])
  rw [zk_bd (sp_has hf.2.1 hk)]
  by_cases e : 0 ≤ k ∧ k < sz
  · rw [if_pos e]
    (try simp (disch := omega) only [↓zk_lt, ↓zk_nl, ↓zk_eq, ↓zk_ne, ↓zk_ix, ↓zk_dv, ↓zk_bo, ↓zk_rg, ↓zk_get, ↓zk_set, Option.bind_some])
    rw [zk_bd (sp_hasT hf.2.2 ht)]
    by_cases e2 : 0 ≤ t ∧ t < tn
    · rw [if_pos e2, if_pos ⟨e, e2⟩]; (try simp (disch := omega) only [↓zk_lt, ↓zk_nl, ↓zk_eq, ↓zk_ne, ↓zk_ix, ↓zk_dv, ↓zk_bo, ↓zk_rg, ↓zk_get, ↓zk_set, Option.bind_some])
    · rw [if_neg e2, if_neg (fun z => e2 z.2)]; (try simp (disch := omega) only [↓zk_lt, ↓zk_nl, ↓zk_eq, ↓zk_ne, ↓zk_ix, ↓zk_dv, ↓zk_bo, ↓zk_rg, ↓zk_get, ↓zk_set, Option.bind_some])
  · rw [if_neg e, if_neg (fun z => e z.1)]
    (try simp (disch := omega) only [↓zk_lt, ↓zk_nl, ↓zk_eq, ↓zk_ne, ↓zk_ix, ↓zk_dv, ↓zk_bo, ↓zk_rg, ↓zk_get, ↓zk_set, Option.bind_some])
theorem pb_8 (H : pC tn cl sz st dp tp va nb w) {c : Int} (hc : jk_R c) (B C : Int) : fn_KR_problemOf tn cl sz st dp va nb 8 c B C = some (if 0 ≤ c ∧ c < cl then (if kob st dp va nb c = 0 then 0 else 3) else 1) := by
  have hf := pC_f H
  obtain ⟨⟨g, I, M⟩, G⟩ := H
  have hr := kob_r (st := st) (dp := dp) (va := va) (nb := nb) (c := c)
  unfold fn_KR_problemOf
  (try simp (disch := omega) only [↓zk_lt, ↓zk_nl, ↓zk_eq, ↓zk_ne, ↓zk_ix, ↓zk_dv, ↓zk_bo, ↓zk_rg, ↓zk_get, ↓zk_set, Option.bind_some])
  rw [zk_bd (sp_hasC hf.1 hc)]
  by_cases e : 0 ≤ c ∧ c < cl
  · rw [if_pos e, if_pos e]
    (try simp (disch := omega) only [↓zk_lt, ↓zk_nl, ↓zk_eq, ↓zk_ne, ↓zk_ix, ↓zk_dv, ↓zk_bo, ↓zk_rg, ↓zk_get, ↓zk_set, Option.bind_some])
    rw [zk_bd (sp_ob I e.1 e.2)]
    by_cases e2 : kob st dp va nb c = 0
    · rw [if_pos e2]; (try simp (disch := omega) only [↓zk_lt, ↓zk_nl, ↓zk_eq, ↓zk_ne, ↓zk_ix, ↓zk_dv, ↓zk_bo, ↓zk_rg, ↓zk_get, ↓zk_set, Option.bind_some])
    · rw [if_neg e2]; (try simp (disch := omega) only [↓zk_lt, ↓zk_nl, ↓zk_eq, ↓zk_ne, ↓zk_ix, ↓zk_dv, ↓zk_bo, ↓zk_rg, ↓zk_get, ↓zk_set, Option.bind_some])
  · rw [if_neg e, if_neg e]
    (try simp (disch := omega) only [↓zk_lt, ↓zk_nl, ↓zk_eq, ↓zk_ne, ↓zk_ix, ↓zk_dv, ↓zk_bo, ↓zk_rg, ↓zk_get, ↓zk_set, Option.bind_some])
end PC1
