/-! the output: what stands in it, as a list -/
def pO (f : Int → Int) (len : Int) (L : List Int) : Prop := len = (L.length : Int) ∧ ∀ (i : Nat) (v : Int), L[i]? = some v → f (i : Int) = v
theorem pO_nil (f : Int → Int) : pO f 0 [] := ⟨rfl, fun i v h => by cases h⟩
theorem pO_put {f : Int → Int} {len x : Int} {L : List Int} (h : pO f len L) : pO (jk_up f len x) (len + 1) (L ++ [x]) := by
  obtain ⟨h1, h2⟩ := h
  refine ⟨by rw [List.length_append, h1]; rfl, fun i v hv => ?_⟩
  rw [List.getElem?_append] at hv
  by_cases e : i < L.length
  · rw [if_pos e] at hv
    rw [up_ne (by omega)]
    exact h2 i v hv
  · rw [if_neg e] at hv
    have e2 : i - L.length = 0 := by
      by_cases z : i - L.length = 0
      · exact z
      · obtain ⟨q, hq⟩ : ∃ q, i - L.length = q + 1 := ⟨i - L.length - 1, by omega⟩
        rw [hq] at hv
        cases hv
    rw [e2] at hv
    rw [up_eq (by omega)]
    exact Option.some.inj hv
theorem c_put {f : Int → Int} {len x : Int} {L : List Int} (h : pO f len L) (hl : L.length < 321) : ∃ f', fn_Output_put f len x = some (f', len + 1) ∧ pO f' (len + 1) (L ++ [x]) := by
  have h1 := h.1
  refine ⟨jk_up f len x, ?_, pO_put h⟩
  unfold fn_Output_put
  (try simp (disch := omega) only [↓zk_lt, ↓zk_nl, ↓zk_eq, ↓zk_ne, ↓zk_ix, ↓zk_dv, ↓zk_bo, ↓zk_rg, ↓zk_get, ↓zk_set, Option.bind_some])
theorem m_put {f : Int → Int} {len x : Int} {L : List Int} (h : pO f len L) (hl : L.length < 500) : ∃ f', fn_Md_write f len x = some (f', len + 1) ∧ pO f' (len + 1) (L ++ [x]) := by
  have h1 := h.1
  refine ⟨jk_up f len x, ?_, pO_put h⟩
  unfold fn_Md_write
  (try simp (disch := omega) only [↓zk_lt, ↓zk_nl, ↓zk_eq, ↓zk_ne, ↓zk_ix, ↓zk_dv, ↓zk_bo, ↓zk_rg, ↓zk_get, ↓zk_set, Option.bind_some])
def pCl (db d : Int) : List Int := List.replicate (db - d).toNat 41
theorem c_close {b : Int} (hb : -10 ≤ b ∧ b ≤ 10) : ∀ (n m : Nat) (f : Int → Int) (len i : Int) (L : List Int), pO f len L → (b - i).toNat = m → (-10 ≤ i ∧ i ≤ 10) → L.length + m ≤ 321 → m < n → ∃ f' len', fn_Output_closeTo_b2 n f len b i = some (f', len') ∧ pO f' len' (L ++ List.replicate m 41) := by
  intro n
  induction n with
  | zero => intro m _ _ _ _ _ _ _ _ h; omega
  | succ n ih =>
    intro m f len i L hO hi h0 hl hm
    rw [fn_Output_closeTo_b2]
    cases m with
    | zero => exact ⟨f, len, by (try simp (disch := omega) only [↓zk_lt, ↓zk_nl, ↓zk_eq, ↓zk_ne, ↓zk_ix, ↓zk_dv, ↓zk_bo, ↓zk_rg, ↓zk_get, ↓zk_set, Option.bind_some]), by simpa using hO⟩
    | succ m =>
      obtain ⟨f', h1, h2⟩ := c_put (x := 41) hO (by omega)
      obtain ⟨f2, len2, h3, h4⟩ := ih m f' (len + 1) (i + 1) (L ++ [41]) h2 (by omega) (by omega) (by simp; omega) (by omega)
      refine ⟨f2, len2, ?_, ?_⟩
      · (try simp (disch := omega) only [↓zk_lt, ↓zk_nl, ↓zk_eq, ↓zk_ne, ↓zk_ix, ↓zk_dv, ↓zk_bo, ↓zk_rg, ↓zk_get, ↓zk_set, Option.bind_some])
        rw [zk_bd h1]
        exact h3
      · rw [List.append_assoc] at h4
        simpa [List.replicate_succ] using h4
def pJo (db d : Int) : List Int := if db = 0 then [] else if db < d then [40] else pCl db d ++ [if d = 1 then 43 else 44]
theorem c_joint {f : Int → Int} {len db d : Int} {L : List Int} (hO : pO f len L) (hb : 0 ≤ db ∧ db ≤ 3) (hd : 0 ≤ d ∧ d ≤ 3) (hl : L.length + (pJo db d).length ≤ 321) : ∃ f' len', fn_Output_putJoint f len db d = some (f', len') ∧ pO f' len' (L ++ pJo db d) := by
  have hF := jk_F_big
  unfold fn_Output_putJoint
  unfold pJo pCl at hl ⊢
  by_cases e : db = 0
  · rw [if_pos e] at hl ⊢
    exact ⟨f, len, by (try simp (disch := omega) only [↓zk_lt, ↓zk_nl, ↓zk_eq, ↓zk_ne, ↓zk_ix, ↓zk_dv, ↓zk_bo, ↓zk_rg, ↓zk_get, ↓zk_set, Option.bind_some]), by simpa using hO⟩
  · rw [if_neg e] at hl ⊢
    by_cases e2 : db < d
    · rw [if_pos e2] at hl ⊢
      obtain ⟨f', h1, h2⟩ := c_put (x := 40) hO (by simp at hl; omega)
      refine ⟨f', len + 1, ?_, h2⟩
      (try simp (disch := omega) only [↓zk_lt, ↓zk_nl, ↓zk_eq, ↓zk_ne, ↓zk_ix, ↓zk_dv, ↓zk_bo, ↓zk_rg, ↓zk_get, ↓zk_set, Option.bind_some])
      rw [zk_bd h1]
    · rw [if_neg e2] at hl ⊢
      have hl2 : L.length + (db - d).toNat + 1 ≤ 321 := by
        simp at hl
        omega
      obtain ⟨f1, len1, h1, h2⟩ := c_close (b := db) (by omega) jk_F (db - d).toNat f len d L hO rfl (by omega) (by omega) (by omega)
      have h1' : fn_Output_closeTo f len db d = some (f1, len1) := h1
      have hlen : (L ++ List.replicate (db - d).toNat 41).length < 321 := by simp; omega
      by_cases e3 : d = 1
      · obtain ⟨f2, h3, h4⟩ := c_put (x := 43) h2 hlen
        refine ⟨f2, len1 + 1, ?_, ?_⟩
        · (try simp (disch := omega) only [↓zk_lt, ↓zk_nl, ↓zk_eq, ↓zk_ne, ↓zk_ix, ↓zk_dv, ↓zk_bo, ↓zk_rg, ↓zk_get, ↓zk_set, Option.bind_some])
          rw [zk_bd h1']
          (try simp (disch := omega) only [↓zk_lt, ↓zk_nl, ↓zk_eq, ↓zk_ne, ↓zk_ix, ↓zk_dv, ↓zk_bo, ↓zk_rg, ↓zk_get, ↓zk_set, Option.bind_some])
          rw [zk_bd h3]
        · rw [if_pos e3, ← List.append_assoc]; exact h4
      · obtain ⟨f2, h3, h4⟩ := c_put (x := 44) h2 hlen
        refine ⟨f2, len1 + 1, ?_, ?_⟩
        · (try simp (disch := omega) only [↓zk_lt, ↓zk_nl, ↓zk_eq, ↓zk_ne, ↓zk_ix, ↓zk_dv, ↓zk_bo, ↓zk_rg, ↓zk_get, ↓zk_set, Option.bind_some])
          rw [zk_bd h1']
          (try simp (disch := omega) only [↓zk_lt, ↓zk_nl, ↓zk_eq, ↓zk_ne, ↓zk_ix, ↓zk_dv, ↓zk_bo, ↓zk_rg, ↓zk_get, ↓zk_set, Option.bind_some])
          rw [zk_bd h3]
        · rw [if_neg e3, ← List.append_assoc]; exact h4
/-- what a place shows -/
def pPl (va nb : Int → Int) (k p : Int) : Int := if p < nb k then 63 else 48 + va k / pw p % 10
section PW
variable {cl sz tn : Int} {st dp tp va nb g w nm : Int → Int}
theorem c_place1 {v b : Int} (hv : 0 ≤ v ∧ v ≤ 9999) (hb : 0 ≤ b ∧ b ≤ 4) {n : Nat} {p : Int} (hp : 0 ≤ p ∧ p ≤ 3) {f : Int → Int} {len : Int} {L : List Int} (hO : pO f len L) (hl : L.length < 321) : ∃ f', fn_Output_putPlaces_b2 (n + 1) f len v b p = fn_Output_putPlaces_b2 n f' (len + 1) v b (p + (-1)) ∧ pO f' (len + 1) (L ++ [if p < b then 63 else 48 + v / pw p % 10]) := by
  rw [fn_Output_putPlaces_b2]
  by_cases e : p < b
  · obtain ⟨f', h1, h2⟩ := c_put (x := 63) hO hl
    refine ⟨f', ?_, by rw [if_pos e]; exact h2⟩
    (try simp (disch := omega) only [↓zk_lt, ↓zk_nl, ↓zk_eq, ↓zk_ne, ↓zk_ix, ↓zk_dv, ↓zk_bo, ↓zk_rg, ↓zk_get, ↓zk_set, Option.bind_some])
    rw [zk_bd h1]
  · obtain ⟨f', h1, h2⟩ := c_put (x := 48 + v / pw p % 10) hO hl
    refine ⟨f', ?_, by rw [if_neg e]; exact h2⟩
    (try simp (disch := omega) only [↓zk_lt, ↓zk_nl, ↓zk_eq, ↓zk_ne, ↓zk_ix, ↓zk_dv, ↓zk_bo, ↓zk_rg, ↓zk_get, ↓zk_set, Option.bind_some])
    rw [zk_bd (sp_at hp.1 (by omega) hv.1 (by omega)), zk_bd h1]
theorem c_places (I : pI cl sz tn st dp tp va nb g) {k : Int} (h0 : 0 ≤ k) (h1 : k < sz) {f : Int → Int} {len : Int} {L : List Int} (hO : pO f len L) (hl : L.length + 4 ≤ 321) : ∃ f', fn_Output_putPlaces f len (va k) (nb k) = some (f', len + 1 + 1 + 1 + 1) ∧ pO f' (len + 1 + 1 + 1 + 1) (L ++ [pPl va nb k 3, pPl va nb k 2, pPl va nb k 1, pPl va nb k 0]) := by
  obtain ⟨-, -, -, hv, hb, -⟩ := I.2.2 k h0 h1
  obtain ⟨f1, a1, b1⟩ := c_place1 hv hb (n := 99999) (p := 3) (by omega) hO (by omega)
  obtain ⟨f2, a2, b2⟩ := c_place1 hv hb (n := 99998) (p := 3 + (-1)) (by omega) b1 (by simp; omega)
  obtain ⟨f3, a3, b3⟩ := c_place1 hv hb (n := 99997) (p := 3 + (-1) + (-1)) (by omega) b2 (by simp; omega)
  obtain ⟨f4, a4, b4⟩ := c_place1 hv hb (n := 99996) (p := 3 + (-1) + (-1) + (-1)) (by omega) b3 (by simp; omega)
  refine ⟨f4, ?_, ?_⟩
  · unfold fn_Output_putPlaces
    rw [show jk_F = 99999 + 1 from rfl, a1, show (99999 : Nat) = 99998 + 1 from rfl, a2, show (99998 : Nat) = 99997 + 1 from rfl, a3, show (99997 : Nat) = 99996 + 1 from rfl, a4, show (99996 : Nat) = 99995 + 1 from rfl, fn_Output_putPlaces_b2]
    (try simp (disch := omega) only [↓zk_lt, ↓zk_nl, ↓zk_eq, ↓zk_ne, ↓zk_ix, ↓zk_dv, ↓zk_bo, ↓zk_rg, ↓zk_get, ↓zk_set, Option.bind_some])
  · simp only [List.append_assoc, List.cons_append, List.nil_append] at b4
    exact b4
/-- a cord's own bytes -/
def pCb (tp va nb w : Int → Int) (k : Int) : List Int := [w (3 + 7 * tp k + 1), pPl va nb k 3, pPl va nb k 2, pPl va nb k 1, pPl va nb k 0]
/-- the system's way through the cords -/
def pLin (dp tp va nb w : Int → Int) (i : Int) : Nat → Int → List Int
  | 0, db => pCl db 1
  | m + 1, db => pJo db (dp i) ++ (pCb tp va nb w i ++ ((if dp i = 0 then [61] else []) ++ pLin dp tp va nb w (i + 1) m (dp i)))
theorem pLin_len : ∀ (m : Nat) (i db : Int), (∀ j, i ≤ j → j < i + m → 0 ≤ dp j ∧ dp j ≤ 3) → 0 ≤ db → ((pLin dp tp va nb w i m db).length : Int) ≤ 8 * m + (if db = 0 then 0 else db - 1) := by
  intro m
  induction m with
  | zero =>
    intro i db _ h0
    simp only [pLin, pCl, List.length_replicate]
    split <;> omega
  | succ m ih =>
    intro i db hd h0
    have hi := hd i (by omega) (by omega)
    have h1 := ih (i + 1) (dp i) (fun j h2 h3 => hd j (by omega) (by omega)) hi.1
    have hj : ((pJo db (dp i)).length : Int) ≤ (if db = 0 then 0 else if db < dp i then 1 else db - dp i + 1) := by
      unfold pJo pCl
      by_cases e : db = 0
      · rw [if_pos e, if_pos e]; simp
      · rw [if_neg e, if_neg e]
        by_cases e2 : db < dp i
        · rw [if_pos e2, if_pos e2]; simp
        · rw [if_neg e2, if_neg e2]; simp; omega
    simp only [pLin, List.length_append, pCb, List.length_cons, List.length_nil]
    by_cases z : dp i = 0
    · rw [if_pos z] at h1 ⊢
      rw [z] at hj ⊢
      rw [z] at h1
      simp only [List.length_cons, List.length_nil]
      by_cases e : db = 0
      · rw [if_pos e] at hj ⊢; omega
      · rw [if_neg e] at hj ⊢
        rw [if_neg (by omega)] at hj
        omega
    · rw [if_neg z] at h1 ⊢
      simp only [List.length_nil]
      by_cases e : db = 0
      · rw [if_pos e] at hj ⊢; omega
      · rw [if_neg e] at hj ⊢
        by_cases e2 : db < dp i
        · rw [if_pos e2] at hj; omega
        · rw [if_neg e2] at hj; omega
theorem c_lin (I : pI cl sz tn st dp tp va nb g) (hL : ∀ t, 0 ≤ t → t < tn → fn_Topics_letter nm t 0 = some (w (3 + 7 * t + 1))) {e : Int} (he : e ≤ sz) : ∀ (n m : Nat) (i db : Int) (f : Int → Int) (len : Int) (L : List Int), pO f len L → i + m = e → 0 ≤ i → 0 ≤ db → db ≤ 3 → L.length + (pLin dp tp va nb w i m db).length ≤ 321 → m < n →
    ∃ f' len', fn_KR_writeCluster_b34 n f len nm dp tp va nb e db i = some (.inr (len', f', len')) ∧ pO f' len' (L ++ pLin dp tp va nb w i m db) := by
  have hF := jk_F_big
  have hsz := I.1.2.1
  intro n
  induction n with
  | zero => intro m _ _ _ _ _ _ _ _ _ _ _ h; omega
  | succ n ih =>
    intro m i db f len L hO hi h0 hb0 hb hl hm
    rw [fn_KR_writeCluster_b34]
    cases m with
    | zero =>
      simp only [pLin, pCl] at hl ⊢
      obtain ⟨f1, len1, h1, h2⟩ := c_close (b := db) (by omega) jk_F (db - 1).toNat f len 1 L hO rfl (by omega) (by simpa using hl) (by omega)
      have h1' : fn_Output_closeTo f len db 1 = some (f1, len1) := h1
      refine ⟨f1, len1, ?_, h2⟩
      (try simp (disch := omega) only [↓zk_lt, ↓zk_nl, ↓zk_eq, ↓zk_ne, ↓zk_ix, ↓zk_dv, ↓zk_bo, ↓zk_rg, ↓zk_get, ↓zk_set, Option.bind_some])
      rw [zk_bd h1']
    | succ m =>
      simp only [pLin, List.length_append, pCb, List.length_cons, List.length_nil] at hl
      obtain ⟨-, hd, ht, -⟩ := I.2.2 i h0 (by omega)
      obtain ⟨f1, len1, h1, h2⟩ := c_joint hO ⟨hb0, hb⟩ hd (by omega)
      obtain ⟨f2, h3, h4⟩ := c_put (x := w (3 + 7 * tp i + 1)) h2 (by simp; omega)
      obtain ⟨f3, h5, h6⟩ := c_places I (k := i) h0 (by omega) h4 (by simp; omega)
      have hO3 : pO f3 (len1 + 1 + 1 + 1 + 1 + 1) (L ++ pJo db (dp i) ++ pCb tp va nb w i) := by
        simp only [List.append_assoc, List.cons_append, List.nil_append] at h6 ⊢
        exact h6
      by_cases z : dp i = 0
      · rw [if_pos z] at hl
        simp only [List.length_cons, List.length_nil] at hl
        obtain ⟨f4, h7, h8⟩ := c_put (x := 61) hO3 (by simp [pCb]; omega)
        obtain ⟨f5, len5, h9, h10⟩ := ih m (i + 1) (dp i) f4 _ _ h8 (by omega) (by omega) (by omega) (by omega) (by simp [pCb]; omega) (by omega)
        refine ⟨f5, len5, ?_, ?_⟩
        · (try simp (disch := omega) only [↓zk_lt, ↓zk_nl, ↓zk_eq, ↓zk_ne, ↓zk_ix, ↓zk_dv, ↓zk_bo, ↓zk_rg, ↓zk_get, ↓zk_set, Option.bind_some])
          rw [zk_bd h1]
          (try simp (disch := omega) only [↓zk_lt, ↓zk_nl, ↓zk_eq, ↓zk_ne, ↓zk_ix, ↓zk_dv, ↓zk_bo, ↓zk_rg, ↓zk_get, ↓zk_set, Option.bind_some])
          rw [zk_bd (hL _ ht.1 ht.2), zk_bd h3]
          (try simp (disch := omega) only [↓zk_lt, ↓zk_nl, ↓zk_eq, ↓zk_ne, ↓zk_ix, ↓zk_dv, ↓zk_bo, ↓zk_rg, ↓zk_get, ↓zk_set, Option.bind_some])
          rw [zk_bd h5]
          (try simp (disch := omega) only [↓zk_lt, ↓zk_nl, ↓zk_eq, ↓zk_ne, ↓zk_ix, ↓zk_dv, ↓zk_bo, ↓zk_rg, ↓zk_get, ↓zk_set, Option.bind_some])
          rw [zk_bd h7]
          exact h9
        · simp only [pLin, z, if_true, List.append_assoc] at h10 ⊢
          exact h10
      · rw [if_neg z] at hl
        simp only [List.length_nil] at hl
        obtain ⟨f5, len5, h9, h10⟩ := ih m (i + 1) (dp i) f3 _ _ hO3 (by omega) (by omega) (by omega) (by omega) (by simp [pCb]; omega) (by omega)
        refine ⟨f5, len5, ?_, ?_⟩
        · (try simp (disch := omega) only [↓zk_lt, ↓zk_nl, ↓zk_eq, ↓zk_ne, ↓zk_ix, ↓zk_dv, ↓zk_bo, ↓zk_rg, ↓zk_get, ↓zk_set, Option.bind_some])
          rw [zk_bd h1]
          (try simp (disch := omega) only [↓zk_lt, ↓zk_nl, ↓zk_eq, ↓zk_ne, ↓zk_ix, ↓zk_dv, ↓zk_bo, ↓zk_rg, ↓zk_get, ↓zk_set, Option.bind_some])
          rw [zk_bd (hL _ ht.1 ht.2), zk_bd h3]
          (try simp (disch := omega) only [↓zk_lt, ↓zk_nl, ↓zk_eq, ↓zk_ne, ↓zk_ix, ↓zk_dv, ↓zk_bo, ↓zk_rg, ↓zk_get, ↓zk_set, Option.bind_some])
          rw [zk_bd h5]
          (try simp (disch := omega) only [↓zk_lt, ↓zk_nl, ↓zk_eq, ↓zk_ne, ↓zk_ix, ↓zk_dv, ↓zk_bo, ↓zk_rg, ↓zk_get, ↓zk_set, Option.bind_some])
          exact h9
        · simp only [pLin, z, if_false, List.append_assoc, List.nil_append] at h10 ⊢
          exact h10
end PW
