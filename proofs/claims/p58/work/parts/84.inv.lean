/-! columns that hold the listing -/
/-- the five columns hold the listing L, of n clusters -/
def jC (L : List (Nat × Nat × Nat)) (S : jl_S) (n : Nat) (cl sz : Int) (st dp tp va nb g : Int → Int) : Prop :=
  pI cl sz 2 st dp tp va nb g ∧ cl = (n : Int) ∧ sz = (L.length : Int) ∧ ∀ (k : Nat) (p : Nat × Nat × Nat), L[k]? = some p → g (k : Int) = (p.2.2 : Int) ∧ dp (k : Int) = (p.2.1 : Int) ∧ tp (k : Int) = jS_tp S p.1 ∧ va (k : Int) = jS_kv S p.1 ∧ nb (k : Int) = jS_nb S p.1
section CO
variable {S : jl_S} {K : jl_K} {cs : List Nat} {cl sz : Int} {st dp tp va nb g : Int → Int} {k x d c : Nat}
theorem bel_blk {dp : Int → Int} {d : Int} : ∀ (n m : Nat) (e : Int), n ≤ m → (∀ i : Nat, i < n → d < dp (e + i)) → (n < m → dp (e + n) ≤ d) → bel dp d e m = e + n := by
  intro n
  induction n with
  | zero =>
    intro m e _ _ h2
    cases m with
    | zero => show e = e + ((0 : Nat) : Int); omega
    | succ m =>
      have := h2 (by omega)
      rw [show e + ((0 : Nat) : Int) = e by omega] at this
      show (if d < dp e then bel dp d (e + 1) m else e) = _
      rw [if_neg (by omega)]
      omega
  | succ n ih =>
    intro m e hm h1 h2
    obtain ⟨m, rfl⟩ : ∃ m', m = m' + 1 := ⟨m - 1, by omega⟩
    have h0 := h1 0 (by omega)
    rw [show e + ((0 : Nat) : Int) = e by omega] at h0
    show (if d < dp e then bel dp d (e + 1) m else e) = _
    rw [if_pos h0, ih m (e + 1) (by omega) (fun i hi => by have := h1 (i + 1) (by omega); rw [show e + 1 + (i : Int) = e + ((i + 1 : Nat) : Int) by omega]; exact this) (fun h => by have := h2 (by omega); rw [show e + 1 + (n : Int) = e + ((n + 1 : Nat) : Int) by omega]; exact this)]
    omega
/-- the end of a branch is the end of the block -/
theorem be_blk (hC : jC (jK_all S K 0 cs) S cs.length cl sz st dp tp va nb g) (ht : ∀ cu ∈ cs, ∀ t, jK_tp K cu = some t → jS_ch S t = []) (hk : (jK_all S K 0 cs)[k]? = some (x, d, c)) {D' : Nat} {pre post : List (Nat × Nat × Nat)} (h1 : jK_all S K 0 cs = pre ++ ((jS_fl S D' x d).map (fun p => (p.1, p.2, c)) ++ post)) (h2 : pre.length = k) (h3 : 1 ≤ d → ∀ q, post.head? = some q → q.2.1 ≤ d) (h0 : d = 0 → jS_fl S D' x d = [(x, 0)]) (hD : 0 < D') : be sz dp (k : Int) = (k : Int) + ((jS_fl S D' x d).length : Int) := by
  obtain ⟨-, -, hsz, hcol⟩ := hC
  have hd := (hcol k _ hk).2.1
  have hlen := congrArg List.length h1
  rw [List.length_append, List.length_append, List.length_map] at hlen
  unfold be
  by_cases hz : d = 0
  · rw [if_pos (by rw [hd]; show (d : Int) = 0; omega), h0 hz]
    rfl
  · rw [if_neg (by rw [hd]; show ¬ (d : Int) = 0; omega)]
    obtain ⟨D', rfl⟩ : ∃ E, D' = E + 1 := ⟨D' - 1, by omega⟩
    have hfd : jS_fl S (D' + 1) x d = (x, d) :: (jS_ch S x).flatMap (fun b => jS_fl S D' b (d + 1)) := rfl
    have hget : ∀ i : Nat, ∀ p : Nat × Nat, (jS_fl S (D' + 1) x d)[i]? = some p → dp ((k : Int) + i) = (p.2 : Int) := by
      intro i p hp
      have hi : i < (jS_fl S (D' + 1) x d).length := (List.getElem?_eq_some_iff.mp hp).1
      have hL : (jK_all S K 0 cs)[k + i]? = some (p.1, p.2, c) := by
        rw [h1, List.getElem?_append_right (by omega), List.getElem?_append_left (by rw [List.length_map]; omega), List.getElem?_map, show k + i - pre.length = i by omega, hp]
        rfl
      have := (hcol (k + i) _ hL).2.1
      rw [show ((k : Int) + (i : Int)) = ((k + i : Nat) : Int) by omega]
      exact this
    have hl : (jS_fl S (D' + 1) x d).length = ((jS_ch S x).flatMap (fun b => jS_fl S D' b (d + 1))).length + 1 := by rw [hfd, List.length_cons]
    rw [bel_blk ((jS_ch S x).flatMap (fun b => jS_fl S D' b (d + 1))).length _ _ (by omega) (fun i hi => ?_) (fun hlt => ?_), hl]
    · omega
    · have hp : (jS_fl S (D' + 1) x d)[i + 1]? = some (((jS_ch S x).flatMap (fun b => jS_fl S D' b (d + 1)))[i]'hi) := by rw [hfd, List.getElem?_cons_succ, List.getElem?_eq_getElem hi]
      have h5 := hget (i + 1) _ hp
      obtain ⟨b, _, hb⟩ := List.mem_flatMap.mp (List.getElem_mem hi)
      have h6 := (fl_dep D' b (d + 1) _ hb).1
      rw [show (k : Int) + 1 + (i : Int) = (k : Int) + ((i + 1 : Nat) : Int) by omega, h5, hd]
      show (d : Int) < _
      omega
    · cases post with
      | nil => rw [List.length_nil] at hlen; omega
      | cons q qs =>
        have h7 := h3 (by omega) q rfl
        have hL : (jK_all S K 0 cs)[k + (jS_fl S (D' + 1) x d).length]? = some q := by
          rw [h1, List.getElem?_append_right (by omega), List.getElem?_append_right (by rw [List.length_map]; omega), List.length_map, show k + (jS_fl S (D' + 1) x d).length - pre.length - (jS_fl S (D' + 1) x d).length = 0 by omega]
          rfl
        have h8 := (hcol _ _ hL).2.1
        rw [show (k : Int) + 1 + (((jS_ch S x).flatMap (fun b => jS_fl S D' b (d + 1))).length : Int) = ((k + (jS_fl S (D' + 1) x d).length : Nat) : Int) by omega, h8, hd]
        show (q.2.1 : Int) ≤ (d : Int)
        omega
end CO
