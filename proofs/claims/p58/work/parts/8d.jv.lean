/-! ranges and sizes -/
section VK
variable {S : jl_S} {K : jl_K} {cs : List Nat} {cl sz : Int} {st dp tp va nb g : Int → Int} {k x d c : Nat}
theorem sum_bd {α : Type} {f : α → Int} {B : Int} : ∀ l : List α, (∀ p ∈ l, 0 ≤ f p ∧ f p ≤ B) → 0 ≤ (l.map f).sum ∧ (l.map f).sum ≤ B * (l.length : Int) := by
  intro l
  induction l with
  | nil => intro _; exact ⟨Int.le_refl 0, by rw [List.map_nil, List.sum_nil, List.length_nil]; omega⟩
  | cons p l ih =>
    intro h
    have h1 := h p (List.mem_cons_self ..)
    have h2 := ih (fun q hq => h q (List.mem_cons_of_mem _ hq))
    rw [List.map_cons, List.sum_cons, List.length_cons, show B * ((l.length + 1 : Nat) : Int) = B * (l.length : Int) + B by rw [Int.natCast_succ, Int.mul_add, Int.mul_one]]
    omega
theorem fo_len {D e : Nat} : ∀ l : List Nat, l.length ≤ (l.flatMap (fun b => jS_fl S (D + 1) b e)).length := by
  intro l
  induction l with
  | nil => exact Nat.le_refl _
  | cons b l ih =>
    rw [List.flatMap_cons, List.length_append, List.length_cons, show jS_fl S (D + 1) b e = (b, e) :: (jS_ch S b).flatMap (fun c => jS_fl S D c (e + 1)) from rfl, List.length_cons]
    omega
theorem jv_k {P : Nat → Prop} (hC : jC (jK_all S K 0 cs) S cs.length cl sz st dp tp va nb g) (ht : ∀ cu ∈ cs, ∀ t, jK_tp K cu = some t → jS_ch S t = []) (hh : ∀ cu ∈ cs, (∀ b ∈ jK_pd K cu, jS_hgt S 3 b) ∧ ∀ t, jK_tp K cu = some t → jS_hgt S 3 t) (hk : (jK_all S K 0 cs)[k]? = some (x, d, c)) (hP : P x) : jV_k S P x := by
  obtain ⟨D', pre, post, h1, h2, h3, h4, h5, h6, -, -, h9⟩ := all_at cs 0 k x d c ht hk
  have hg := h4 hh
  obtain ⟨I, hcl, hsz, hcol⟩ := hC
  have hs40 := I.1.2.1
  obtain ⟨c1, c2, c3, c4, c5⟩ := hcol k _ hk
  have hkl : k < (jK_all S K 0 cs).length := (List.getElem?_eq_some_iff.mp hk).1
  have hrow := I.2.2 (k : Int) (by omega) (by omega)
  have hfl : jS_fl S 3 x d = jS_fl S D' x d := fl_up D' 3 x d hg h5
  have hlen := congrArg List.length h1
  rw [List.length_append, List.length_append, List.length_map] at hlen
  have hlf := jS_fl_len (S := S) 3 x d
  rw [hfl] at hlf
  have hm : ∀ p ∈ jS_fl S D' x d, (p.1, p.2, c) ∈ jK_all S K 0 cs := fun p hp => by
    rw [h1]
    exact List.mem_append_right _ (List.mem_append_left _ (List.mem_map.mpr ⟨p, hp, rfl⟩))
  have hv : ∀ p ∈ jS_fl S D' x d, 0 ≤ jS_kv S p.1 ∧ jS_kv S p.1 ≤ 9999 := fun p hp => by
    obtain ⟨i, hi⟩ := List.getElem?_of_mem (hm p hp)
    have hil := (List.getElem?_eq_some_iff.mp hi).1
    have h7 := (I.2.2 (i : Int) (by omega) (by omega)).2.2.2.1
    rw [(hcol i _ hi).2.2.2.1] at h7
    exact h7
  have s1 := sum_bd _ hv
  have s2 := sum_bd (f := fun p : Nat × Nat => if 0 < jS_nb S p.1 then (1 : Int) else 0) (B := 1) (jS_fl S D' x d) (fun p _ => by
    show 0 ≤ (if 0 < jS_nb S p.1 then (1 : Int) else 0) ∧ (if 0 < jS_nb S p.1 then (1 : Int) else 0) ≤ 1
    split <;> omega)
  have e1 := tot_fl (S := S) 3 x d
  have e2 := nib_fl (S := S) 3 x d
  rw [hfl] at e1 e2
  refine ⟨hP, hgt_up D' 3 x hg h5, by omega, ?_, ?_, ?_, ⟨by omega, ⟨by omega, by omega⟩⟩, ?_⟩
  · rw [← c3]
    exact ⟨by omega, by omega⟩
  · rw [← c4]
    exact ⟨by omega, by omega⟩
  · rw [e1]
    exact ⟨by omega, by omega⟩
  · obtain ⟨E, rfl⟩ : ∃ E, D' = E + 1 := ⟨D' - 1, by omega⟩
    have hl : (jS_fl S (E + 1) x d).length = ((jS_ch S x).flatMap (fun b => jS_fl S E b (d + 1))).length + 1 := rfl
    cases E with
    | zero =>
      cases hch : jS_ch S x with
      | nil => exact Nat.zero_le _
      | cons b l => exact absurd (hg b (by rw [hch]; exact List.mem_cons_self ..)) id
    | succ E =>
      have := fo_len (S := S) (D := E) (e := d + 1) (jS_ch S x)
      omega
end VK
