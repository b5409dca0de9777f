/-! what the component answers, told by its columns -/
section ANS
variable {cl sz tn : Int} {st dp tp va nb g : Int → Int} {x : Int}
theorem a_req (I : pI cl sz tn st dp tp va nb g) (h0 : 0 ≤ x) (h1 : x < sz) : fn_KR_requireCord sz x = some (.inr ()) := by
  have hsz := I.1.2.1
  rw [sp_reqCord hsz ⟨by omega, by omega⟩, if_pos ⟨h0, h1⟩]
theorem a_reqC (I : pI cl sz tn st dp tp va nb g) (h0 : 0 ≤ x) (h1 : x < cl) : fn_KR_requireCluster cl x = some (.inr ()) := by
  have hcl := I.1.1
  rw [sp_reqCluster hcl ⟨by omega, by omega⟩, if_pos ⟨h0, h1⟩]
theorem a_clusterOf (I : pI cl sz tn st dp tp va nb g) (h0 : 0 ≤ x) (h1 : x < sz) : fn_KR_clusterOf cl sz st x = some (.inr (g x)) := by
  unfold fn_KR_clusterOf
  rw [zk_bd (a_req I h0 h1)]
  simp only [jk_cx]
  rw [zk_bd (sp_ca I h0 h1)]
theorem a_depthOf (I : pI cl sz tn st dp tp va nb g) (h0 : 0 ≤ x) (h1 : x < sz) : fn_KR_depthOf sz dp x = some (.inr (dp x)) := by
  have hsz := I.1.2.1
  unfold fn_KR_depthOf
  rw [zk_bd (a_req I h0 h1)]
  simp only [jk_cx]
  (try simp (disch := omega) only [↓zk_lt, ↓zk_nl, ↓zk_eq, ↓zk_ne, ↓zk_ix, ↓zk_dv, ↓zk_bo, ↓zk_rg, ↓zk_get, ↓zk_set, Option.bind_some])
theorem a_topicOf (I : pI cl sz tn st dp tp va nb g) (h0 : 0 ≤ x) (h1 : x < sz) : fn_KR_topicOf sz tp x = some (.inr (tp x)) := by
  have hsz := I.1.2.1
  unfold fn_KR_topicOf
  rw [zk_bd (a_req I h0 h1)]
  simp only [jk_cx]
  (try simp (disch := omega) only [↓zk_lt, ↓zk_nl, ↓zk_eq, ↓zk_ne, ↓zk_ix, ↓zk_dv, ↓zk_bo, ↓zk_rg, ↓zk_get, ↓zk_set, Option.bind_some])
theorem a_knownValue (I : pI cl sz tn st dp tp va nb g) (h0 : 0 ≤ x) (h1 : x < sz) : fn_KR_knownValue sz va x = some (.inr (va x)) := by
  have hsz := I.1.2.1
  unfold fn_KR_knownValue
  rw [zk_bd (a_req I h0 h1)]
  simp only [jk_cx]
  (try simp (disch := omega) only [↓zk_lt, ↓zk_nl, ↓zk_eq, ↓zk_ne, ↓zk_ix, ↓zk_dv, ↓zk_bo, ↓zk_rg, ↓zk_get, ↓zk_set, Option.bind_some])
theorem a_nibbledPlaces (I : pI cl sz tn st dp tp va nb g) (h0 : 0 ≤ x) (h1 : x < sz) : fn_KR_nibbledPlaces sz nb x = some (.inr (nb x)) := by
  have hsz := I.1.2.1
  unfold fn_KR_nibbledPlaces
  rw [zk_bd (a_req I h0 h1)]
  simp only [jk_cx]
  (try simp (disch := omega) only [↓zk_lt, ↓zk_nl, ↓zk_eq, ↓zk_ne, ↓zk_ix, ↓zk_dv, ↓zk_bo, ↓zk_rg, ↓zk_get, ↓zk_set, Option.bind_some])
theorem a_subsidiariesOf (I : pI cl sz tn st dp tp va nb g) (h0 : 0 ≤ x) (h1 : x < sz) : fn_KR_subsidiariesOf sz dp x = some (.inr (pCt (fun j => decide (dp j = dp x + 1)) (x + 1) (be sz dp x - (x + 1)).toNat)) := by
  have hsz := I.1.2.1
  obtain ⟨⟨b1, b2⟩, -⟩ := be_r I h0 h1
  have hd := (I.2.2 x h0 h1).2.1
  unfold fn_KR_subsidiariesOf
  rw [zk_bd (a_req I h0 h1)]
  simp only [jk_cx]
  rw [zk_bd (sp_be I h0 h1)]
  (try simp (disch := omega) only [↓zk_lt, ↓zk_nl, ↓zk_eq, ↓zk_ne, ↓zk_ix, ↓zk_dv, ↓zk_bo, ↓zk_rg, ↓zk_get, ↓zk_set, Option.bind_some])
  rw [zk_bd (sp_cad (dp := dp) (a := x + 1) (b := be sz dp x) (d := dp x + 1) (by omega) (by omega) (by omega) (by omega) (fun j h2 h3 => (I.2.2 j (by omega) (by omega)).2.1))]
theorem a_lowestTotal (I : pI cl sz tn st dp tp va nb g) (h0 : 0 ≤ x) (h1 : x < sz) : fn_KR_lowestTotal sz dp va x = some (.inr (pSm va x (be sz dp x - x).toNat)) := by
  have hsz := I.1.2.1
  obtain ⟨⟨b1, b2⟩, -⟩ := be_r I h0 h1
  unfold fn_KR_lowestTotal
  rw [zk_bd (a_req I h0 h1)]
  simp only [jk_cx]
  rw [zk_bd (sp_be I h0 h1), zk_bd (sp_low (va := va) (a := x) (b := be sz dp x) h0 (by omega) (by omega) (fun j h2 h3 => (I.2.2 j (by omega) (by omega)).2.2.2.1))]
theorem a_isComplete (I : pI cl sz tn st dp tp va nb g) (h0 : 0 ≤ x) (h1 : x < sz) : fn_KR_isComplete sz dp nb x = some (.inr (if pCt (fun j => decide (0 < nb j)) x (be sz dp x - x).toNat = 0 then 1 else 0)) := by
  have hsz := I.1.2.1
  obtain ⟨⟨b1, b2⟩, -⟩ := be_r I h0 h1
  have hn := pCt_r (p := fun j => decide (0 < nb j)) (be sz dp x - x).toNat x
  unfold fn_KR_isComplete
  rw [zk_bd (a_req I h0 h1)]
  simp only [jk_cx]
  rw [zk_bd (sp_be I h0 h1), zk_bd (sp_nib (nb := nb) (a := x) (b := be sz dp x) h0 (by omega) (by omega) (fun j h2 h3 => (I.2.2 j (by omega) (by omega)).2.2.2.2.1))]
  by_cases e : pCt (fun j => decide (0 < nb j)) x (be sz dp x - x).toNat = 0
  · rw [if_pos e]; (try simp (disch := omega) only [↓zk_lt, ↓zk_nl, ↓zk_eq, ↓zk_ne, ↓zk_ix, ↓zk_dv, ↓zk_bo, ↓zk_rg, ↓zk_get, ↓zk_set, Option.bind_some])
  · rw [if_neg e]; (try simp (disch := omega) only [↓zk_lt, ↓zk_nl, ↓zk_eq, ↓zk_ne, ↓zk_ix, ↓zk_dv, ↓zk_bo, ↓zk_rg, ↓zk_get, ↓zk_set, Option.bind_some])
theorem a_knotsAt (I : pI cl sz tn st dp tp va nb g) (h0 : 0 ≤ x) (h1 : x < sz) {p : Int} (hp0 : 0 ≤ p) (hp4 : p < 4) : fn_KR_knotsAt sz va nb x p = some (.inr (if p < nb x then -1 else va x / pw p % 10)) := by
  have hsz := I.1.2.1
  have hv := (I.2.2 x h0 h1).2.2.2.1
  have hnb := (I.2.2 x h0 h1).2.2.2.2.1
  unfold fn_KR_knotsAt
  rw [zk_bd (a_req I h0 h1)]
  simp only [jk_cx]
  rw [zk_bd (show fn_KR_isPlace p = some 1 by unfold fn_KR_isPlace; (try simp (disch := omega) only [↓zk_lt, ↓zk_nl, ↓zk_eq, ↓zk_ne, ↓zk_ix, ↓zk_dv, ↓zk_bo, ↓zk_rg, ↓zk_get, ↓zk_set, Option.bind_some]))]
  (try simp (disch := omega) only [↓zk_lt, ↓zk_nl, ↓zk_eq, ↓zk_ne, ↓zk_ix, ↓zk_dv, ↓zk_bo, ↓zk_rg, ↓zk_get, ↓zk_set, Option.bind_some])
  by_cases e : p < nb x
  · rw [if_pos e]; (try simp (disch := omega) only [↓zk_lt, ↓zk_nl, ↓zk_eq, ↓zk_ne, ↓zk_ix, ↓zk_dv, ↓zk_bo, ↓zk_rg, ↓zk_get, ↓zk_set, Option.bind_some])
  · rw [if_neg e]; (try simp (disch := omega) only [↓zk_lt, ↓zk_nl, ↓zk_eq, ↓zk_ne, ↓zk_ix, ↓zk_dv, ↓zk_bo, ↓zk_rg, ↓zk_get, ↓zk_set, Option.bind_some])
    rw [zk_bd (sp_at hp0 (by omega) hv.1 (by omega))]
theorem a_stateOf (I : pI cl sz tn st dp tp va nb g) (h0 : 0 ≤ x) (h1 : x < cl) : fn_KR_stateOf cl st dp va nb x = some (.inr (kst st dp va nb x)) := by
  unfold fn_KR_stateOf
  rw [zk_bd (a_reqC I h0 h1)]
  simp only [jk_cx]
  rw [zk_bd (sp_state I h0 h1)]
theorem a_guessObstacle (I : pI cl sz tn st dp tp va nb g) (h0 : 0 ≤ x) (h1 : x < cl) : fn_KR_guessObstacle cl st dp va nb x = some (.inr (kob st dp va nb x)) := by
  unfold fn_KR_guessObstacle
  rw [zk_bd (a_reqC I h0 h1)]
  simp only [jk_cx]
  rw [zk_bd (sp_ob I h0 h1)]
theorem a_pendantsIn (I : pI cl sz tn st dp tp va nb g) (h0 : 0 ≤ x) (h1 : x < cl) : fn_KR_pendantsIn cl st dp x = some (.inr (pCt (fun j => decide (dp j = 1)) (st x) (st (x + 1) - st x).toNat)) := by
  have hcl := I.1.1
  have hsz := I.1.2.1
  have s1 := pI_st I (c := x) h0 (by omega)
  have s2 := pI_st I (c := x + 1) (by omega) (by omega)
  have hm := I.2.1.2.2 x h0 h1
  unfold fn_KR_pendantsIn
  rw [zk_bd (a_reqC I h0 h1)]
  simp only [jk_cx]
  rw [zk_bd (sp_start I h0 (by omega)), zk_bd (sp_end I h0 h1), zk_bd (sp_cad (by omega) (by omega) (by omega) (by omega) (fun j h2 h3 => (I.2.2 j (by omega) (by omega)).2.1))]
theorem a_topOf (I : pI cl sz tn st dp tp va nb g) (h0 : 0 ≤ x) (h1 : x < cl) : fn_KR_topOf cl st dp x = some (.inr (if ht st dp x = 0 then -1 else st x)) := by
  unfold fn_KR_topOf
  rw [zk_bd (a_reqC I h0 h1)]
  simp only [jk_cx]
  rw [zk_bd (sp_ht I h0 h1)]
  rcases ht_r (st := st) (dp := dp) x with e | e <;> rw [e]
  · rw [if_pos rfl]; (try simp (disch := omega) only [↓zk_lt, ↓zk_nl, ↓zk_eq, ↓zk_ne, ↓zk_ix, ↓zk_dv, ↓zk_bo, ↓zk_rg, ↓zk_get, ↓zk_set, Option.bind_some])
  · rw [if_neg (by decide)]; (try simp (disch := omega) only [↓zk_lt, ↓zk_nl, ↓zk_eq, ↓zk_ne, ↓zk_ix, ↓zk_dv, ↓zk_bo, ↓zk_rg, ↓zk_get, ↓zk_set, Option.bind_some])
    rw [zk_bd (sp_start I h0 (by omega))]
theorem a_guessIn (I : pI cl sz tn st dp tp va nb g) (h0 : 0 ≤ x) (h1 : x < cl) (h : kob st dp va nb x = 0) : fn_KR_guessIn cl st dp va nb x = some (.inr (kg st dp va nb x)) := by
  obtain ⟨e1, e2, e3⟩ := kob_0 I h0 h1 h
  unfold fn_KR_guessIn
  rw [zk_bd (a_reqC I h0 h1)]
  simp only [jk_cx]
  rw [zk_bd (sp_ob I h0 h1), h]
  (try simp (disch := omega) only [↓zk_lt, ↓zk_nl, ↓zk_eq, ↓zk_ne, ↓zk_ix, ↓zk_dv, ↓zk_bo, ↓zk_rg, ↓zk_get, ↓zk_set, Option.bind_some])
  rw [zk_bd (sp_kg I h0 h1 e1 e2)]
end ANS
