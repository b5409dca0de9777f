/-! the two fractions' numbers, on both sides -/
section PW1
variable {tn cl sz : Int} {st dp tp va nb g w : Int → Int}
theorem sm_avg_b (I : pI cl sz tn st dp tp va nb g) (M : pM cl sz dp tp va nb g w) : ∀ (n k : Nat) (s i : Int), i + k = sz → 0 ≤ i → k < n → fn_Md_average_b9 n w s i = some (s + pSm va i k) := by
  have hsz := I.1.2.1
  have hw2 := M.2.1
  intro n
  induction n with
  | zero => intro k s i _ _ h; omega
  | succ n ih =>
    intro k s i hi h0 hk
    rw [fn_Md_average_b9]
    cases k with
    | zero =>
      (try simp (disch := omega) only [↓zk_lt, ↓zk_nl, ↓zk_eq, ↓zk_ne, ↓zk_ix, ↓zk_dv, ↓zk_bo, ↓zk_rg, ↓zk_get, ↓zk_set, Option.bind_some])
      simp [pSm]
    | succ k =>
      (try simp (disch := omega) only [↓zk_lt, ↓zk_nl, ↓zk_eq, ↓zk_ne, ↓zk_ix, ↓zk_dv, ↓zk_bo, ↓zk_rg, ↓zk_get, ↓zk_set, Option.bind_some])
      rw [zk_bd (M3 I M h0 (by omega)), ih k _ _ (by omega) (by omega) (by omega)]
      simp only [pSm]
      rw [Int.add_assoc]
theorem q_average (C : pC tn cl sz st dp tp va nb w) : ∃ q, fn_Cords_lowestSum va 0 sz = some q ∧ fn_Md_average_b9 jk_F w 0 0 = some q ∧ w 2 = sz ∧ (0 ≤ sz ∧ sz ≤ 40) := by
  have hF := jk_F_big
  obtain ⟨⟨g, I, M⟩, G⟩ := C
  have hsz := I.1.2.1
  refine ⟨pSm va 0 sz.toNat, ?_, ?_, M.2.1, hsz⟩
  · have := sp_low (va := va) (a := 0) (b := sz) (by omega) hsz.1 hsz.2 (fun j h0 h1 => (I.2.2 j h0 h1).2.2.2.1)
    rw [show (sz - 0).toNat = sz.toNat by omega] at this
    exact this
  · rw [sm_avg_b I M jk_F sz.toNat 0 0 (by omega) (by omega) (by omega)]
    simp
theorem q_part (C : pC tn cl sz st dp tp va nb w) : ∃ q, fn_Cords_nibbledAmong nb 0 sz = some q ∧ fn_Md_nibbled w = some q ∧ w 2 = sz ∧ (0 ≤ sz ∧ sz ≤ 40) := by
  obtain ⟨⟨g, I, M⟩, G⟩ := C
  exact ⟨_, sp_nibAll I, sm_nibbled I M, M.2.1, I.1.2.1⟩
end PW1
