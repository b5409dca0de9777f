/-! totals, numbers, nibbled ones: sums over the listing -/
section SU
variable {S : jl_S}
theorem fo_sum {α : Type} (f : α → Int) : ∀ (l : List α) (s : Int), l.foldl (fun s b => s + f b) s = s + (l.map f).sum := by
  intro l
  induction l with
  | nil => intro s; rw [List.foldl_nil, List.map_nil, List.sum_nil, Int.add_zero]
  | cons b l ih => intro s; rw [List.foldl_cons, ih, List.map_cons, List.sum_cons, Int.add_assoc]
theorem fm_sum {α β : Type} (f : α → List β) (g : β → Int) : ∀ l : List α, ((l.flatMap f).map g).sum = (l.map (fun b => ((f b).map g).sum)).sum := by
  intro l
  induction l with
  | nil => rfl
  | cons b l ih => rw [List.flatMap_cons, List.map_append, List.sum_append, ih, List.map_cons, List.sum_cons]
theorem tot_fl : ∀ (D a k : Nat), jS_tot S D a = ((jS_fl S D a k).map (fun p => jS_kv S p.1)).sum := by
  intro D
  induction D with
  | zero => intro a k; rfl
  | succ D ih =>
    intro a k
    rw [jS_tot, jS_fl, fo_sum, List.map_cons, List.sum_cons, fm_sum]
    congr 2
    exact List.map_congr_left (fun b _ => ih b (k + 1))
theorem nib_fl : ∀ (D a k : Nat), jS_nib S D a = ((jS_fl S D a k).map (fun p => if 0 < jS_nb S p.1 then (1 : Int) else 0)).sum := by
  intro D
  induction D with
  | zero => intro a k; rfl
  | succ D ih =>
    intro a k
    rw [jS_nib, jS_fl, fo_sum, List.map_cons, List.sum_cons, fm_sum]
    congr 2
    exact List.map_congr_left (fun b _ => ih b (k + 1))
theorem many_fl : ∀ (D a k : Nat), jS_many S D a = ((jS_fl S D a k).length : Int) := by
  intro D
  induction D with
  | zero => intro a k; rfl
  | succ D ih =>
    intro a k
    rw [jS_many, jS_fl, fo_sum, List.length_cons, List.length_flatMap]
    rw [show ((jS_ch S a).map (fun b => jS_many S D b)) = (jS_ch S a).map (fun b => ((jS_fl S D b (k + 1)).length : Int)) from List.map_congr_left (fun b _ => ih b (k + 1))]
    have key : ∀ l : List Nat, (l.map (fun b => ((jS_fl S D b (k + 1)).length : Int))).sum = ((l.map (fun b => (jS_fl S D b (k + 1)).length)).sum : Nat) := by
      intro l
      induction l with
      | nil => rfl
      | cons b l ihl => rw [List.map_cons, List.sum_cons, List.map_cons, List.sum_cons, ihl]; omega
    rw [key]
    omega
/-- a column's sum over a block of the listing -/
theorem pSm_blk {f : Int → Int} {L : List (Nat × Nat × Nat)} {h : Nat × Nat × Nat → Int} (hf : ∀ (k : Nat) (p : Nat × Nat × Nat), L[k]? = some p → f (k : Int) = h p) : ∀ (B pre post : List (Nat × Nat × Nat)), L = pre ++ (B ++ post) → pSm f (pre.length : Int) B.length = (B.map h).sum := by
  intro B
  induction B with
  | nil => intro pre post _; rfl
  | cons p B ih =>
    intro pre post hL
    have h1 := hf pre.length p (by rw [hL, List.getElem?_append_right (Nat.le_refl _), Nat.sub_self]; rfl)
    have h2 := ih (pre ++ [p]) post (by rw [hL, List.append_assoc]; rfl)
    rw [List.length_append, List.length_singleton] at h2
    show f (pre.length : Int) + pSm f ((pre.length : Int) + 1) B.length = _
    rw [List.map_cons, List.sum_cons, ← h2, h1]
    congr 2
theorem pCt_blk {q : Int → Bool} {L : List (Nat × Nat × Nat)} {h : Nat × Nat × Nat → Bool} (hf : ∀ (k : Nat) (p : Nat × Nat × Nat), L[k]? = some p → q (k : Int) = h p) : ∀ (B pre post : List (Nat × Nat × Nat)), L = pre ++ (B ++ post) → pCt q (pre.length : Int) B.length = (B.map (fun p => if h p = true then (1 : Int) else 0)).sum := by
  intro B
  induction B with
  | nil => intro pre post _; rfl
  | cons p B ih =>
    intro pre post hL
    have h1 := hf pre.length p (by rw [hL, List.getElem?_append_right (Nat.le_refl _), Nat.sub_self]; rfl)
    have h2 := ih (pre ++ [p]) post (by rw [hL, List.append_assoc]; rfl)
    rw [List.length_append, List.length_singleton] at h2
    show (if q (pre.length : Int) = true then 1 else 0) + pCt q ((pre.length : Int) + 1) B.length = _
    rw [List.map_cons, List.sum_cons, ← h2, h1]
    congr 2
end SU
