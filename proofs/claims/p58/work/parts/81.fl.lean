/-! the listing of a tree: fuel, blocks -/
section FL
variable {S : jl_S}
theorem hgt_up : ∀ (D E a : Nat), jS_hgt S D a → D ≤ E → jS_hgt S E a := by
  intro D
  induction D with
  | zero => intro E a h; exact absurd h id
  | succ D ih =>
    intro E a h hE
    obtain ⟨E, rfl⟩ : ∃ E', E = E' + 1 := ⟨E - 1, by omega⟩
    exact fun b hb => ih E b (h b hb) (by omega)
theorem fl_up : ∀ (D E a k : Nat), jS_hgt S D a → D ≤ E → jS_fl S E a k = jS_fl S D a k := by
  intro D
  induction D with
  | zero => intro E a k h; exact absurd h id
  | succ D ih =>
    intro E a k h hE
    obtain ⟨E, rfl⟩ : ∃ E', E = E' + 1 := ⟨E - 1, by omega⟩
    show (a, k) :: (jS_ch S a).flatMap (fun b => jS_fl S E b (k + 1)) = (a, k) :: (jS_ch S a).flatMap (fun b => jS_fl S D b (k + 1))
    congr 1
    have key : ∀ l : List Nat, (∀ b ∈ l, jS_hgt S D b) → l.flatMap (fun b => jS_fl S E b (k + 1)) = l.flatMap (fun b => jS_fl S D b (k + 1)) := by
      intro l
      induction l with
      | nil => exact fun _ => rfl
      | cons b l ihl =>
        intro hl
        rw [List.flatMap_cons, List.flatMap_cons, ih E b (k + 1) (hl b (List.mem_cons_self ..)) (by omega), ihl (fun c hc => hl c (List.mem_cons_of_mem _ hc))]
    exact key _ h
/-- depths of a listing: from k on; the first is k, the others are below -/
theorem fl_dep : ∀ (D a k : Nat), ∀ p ∈ jS_fl S D a k, k ≤ p.2 ∧ p.2 < k + D := by
  intro D
  induction D with
  | zero => intro a k p hp; exact absurd hp List.not_mem_nil
  | succ D ih =>
    intro a k p hp
    rcases List.mem_cons.mp (show p ∈ (a, k) :: (jS_ch S a).flatMap (fun b => jS_fl S D b (k + 1)) from hp) with rfl | hp
    · exact ⟨Nat.le_refl _, by show k < k + (D + 1); omega⟩
    · obtain ⟨b, hb, hpb⟩ := List.mem_flatMap.mp hp
      have := ih b (k + 1) p hpb
      omega
/-- an entry of a forest's listing begins the block of its own tree; what follows the block isn't below it -/
theorem fo_at (D k : Nat) (ih : ∀ (a i : Nat) (y e : Nat), (jS_fl S D a k)[i]? = some (y, e) → ∃ (D' : Nat) (pre post : List (Nat × Nat)), D' + e = D + k ∧ jS_fl S D a k = pre ++ (jS_fl S D' y e ++ post) ∧ pre.length = i ∧ (∀ q, post.head? = some q → q.2 ≤ e) ∧ (jS_hgt S D a → jS_hgt S D' y) ∧ k ≤ e ∧ 0 < D') : ∀ (l : List Nat) (i y e : Nat), (l.flatMap (fun b => jS_fl S D b k))[i]? = some (y, e) → ∃ (D' : Nat) (pre post : List (Nat × Nat)), D' + e = D + k ∧ l.flatMap (fun b => jS_fl S D b k) = pre ++ (jS_fl S D' y e ++ post) ∧ pre.length = i ∧ (∀ q, post.head? = some q → q.2 ≤ e) ∧ ((∀ b ∈ l, jS_hgt S D b) → jS_hgt S D' y) ∧ k ≤ e ∧ 0 < D' := by
  intro l
  induction l with
  | nil => intro i y e h; rw [List.flatMap_nil, List.getElem?_nil] at h; cases h
  | cons b l ihl =>
    intro i y e h
    rw [List.flatMap_cons] at h
    rcases Nat.lt_or_ge i (jS_fl S D b k).length with hi | hi
    · rw [List.getElem?_append_left hi] at h
      obtain ⟨D', pre, post, h1, h2, h3, h4, h5, h6⟩ := ih b i y e h
      refine ⟨D', pre, post ++ l.flatMap (fun b => jS_fl S D b k), h1, ?_, h3, fun q hq => ?_, fun hl => h5 (hl b (List.mem_cons_self ..)), h6⟩
      · rw [List.flatMap_cons, h2, List.append_assoc, List.append_assoc]
      · cases post with
        | cons p ps => exact h4 q hq
        | nil =>
          rw [List.nil_append] at hq
          have hm := List.mem_of_mem_head? hq
          obtain ⟨c, hc, hqc⟩ := List.mem_flatMap.mp hm
          have hk : q.2 = k := by
            cases l with
            | nil => exact absurd hm (by rw [List.flatMap_nil]; exact List.not_mem_nil)
            | cons c0 l0 =>
              rw [List.flatMap_cons] at hq
              cases D with
              | zero =>
                have : (jS_fl S 0 b k).length = 0 := rfl
                omega
              | succ D =>
                have hh : (jS_fl S (D + 1) c0 k ++ l0.flatMap (fun b => jS_fl S (D + 1) b k)).head? = some (c0, k) := rfl
                rw [hh] at hq
                rw [← Option.some.inj hq]
          omega
    · rw [List.getElem?_append_right hi] at h
      obtain ⟨D', pre, post, h1, h2, h3, h4, h5, h6⟩ := ihl _ y e h
      refine ⟨D', jS_fl S D b k ++ pre, post, h1, ?_, ?_, h4, fun hl => h5 (fun c hc => hl c (List.mem_cons_of_mem _ hc)), h6⟩
      · rw [List.flatMap_cons, h2, List.append_assoc]
      · rw [List.length_append, h3]
        omega
theorem fl_at : ∀ (D a k i y e : Nat), (jS_fl S D a k)[i]? = some (y, e) → ∃ (D' : Nat) (pre post : List (Nat × Nat)), D' + e = D + k ∧ jS_fl S D a k = pre ++ (jS_fl S D' y e ++ post) ∧ pre.length = i ∧ (∀ q, post.head? = some q → q.2 ≤ e) ∧ (jS_hgt S D a → jS_hgt S D' y) ∧ k ≤ e ∧ 0 < D' := by
  intro D
  induction D with
  | zero => intro a k i y e h; rw [show jS_fl S 0 a k = [] from rfl, List.getElem?_nil] at h; cases h
  | succ D ih =>
    intro a k i y e h
    have hdef : jS_fl S (D + 1) a k = (a, k) :: (jS_ch S a).flatMap (fun b => jS_fl S D b (k + 1)) := rfl
    cases i with
    | zero =>
      rw [hdef] at h
      have e1 : (a, k) = (y, e) := Option.some.inj h
      cases e1
      exact ⟨D + 1, [], [], by omega, by rw [List.nil_append, List.append_nil], rfl, fun q hq => (by cases hq), id, Nat.le_refl _, Nat.succ_pos _⟩
    | succ i =>
      rw [hdef, List.getElem?_cons_succ] at h
      obtain ⟨D', pre, post, h1, h2, h3, h4, h5, h6⟩ := fo_at D (k + 1) (fun a i y e => ih a (k + 1) i y e) _ i y e h
      exact ⟨D', (a, k) :: pre, post, by omega, by rw [hdef, h2, List.cons_append], by rw [List.length_cons, h3], h4, h5, by omega, h6.2⟩
end FL
