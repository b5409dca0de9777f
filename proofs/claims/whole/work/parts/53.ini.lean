/-! the start: the class's own text read, the model's own calls -/
def ini_l (f : Int → Int) (n : Nat) : List Int := (List.range n).map (fun i => f ((i : Nat) : Int))
theorem ini_at {f : Int → Int} {n : Nat} {L : List Int} (h : ini_l f n = L) {i : Nat} (hi : i < n) : f (i : Int) = L.getD i 0 := by
  subst h
  unfold ini_l
  rw [List.getD_eq_getElem?_getD, List.getElem?_map, List.getElem?_range hi]
  rfl
theorem ini_o {α : Type} {o : Option α} {p : α → Bool} (h : (match o with | some q => p q | none => false) = true) : ∃ q, o = some q ∧ p q = true := by
  cases o with
  | none => cases h
  | some q => exact ⟨q, rfl, h⟩
def ini_px (q : Int × Int × Int × Int × Int × Int × (Int → Int) × Int × Int × (Int → Int) × (Int → Int) × (Int → Int) × (Int → Int) × (Int → Int)) : Bool := decide (q.2.2.2.2.2.1 = 2) && decide (ini_l q.2.2.2.2.2.2.1 2 = [6104109, 409079]) && decide (q.2.2.2.2.2.2.2.1 = 2) && decide (q.2.2.2.2.2.2.2.2.1 = 8) && decide (ini_l q.2.2.2.2.2.2.2.2.2.1 3 = [0, 5, 8]) && decide (ini_l q.2.2.2.2.2.2.2.2.2.2.1 40 = [0, 1, 2, 3, 1, 0, 1, 1, 0, 0, 0, 0, 0, 0, 0, 0, 0, 0, 0, 0, 0, 0, 0, 0, 0, 0, 0, 0, 0, 0, 0, 0, 0, 0, 0, 0, 0, 0, 0, 0]) && decide (ini_l q.2.2.2.2.2.2.2.2.2.2.2.1 8 = [0, 0, 1, 1, 1, 1, 1, 0]) && decide (ini_l q.2.2.2.2.2.2.2.2.2.2.2.2.1 8 = [137, 40, 5, 2, 90, 60, 23, 30]) && decide (ini_l q.2.2.2.2.2.2.2.2.2.2.2.2.2 8 = [0, 0, 0, 0, 0, 0, 0, 1])
def ini_xo : Option (((Int → Int) × Int) × (Int × Int × Int × Int × Int × Int × (Int → Int) × Int × Int × (Int → Int) × (Int → Int) × (Int → Int) × (Int → Int) × (Int → Int))) := (fn_Text_put (fun _ => 0) 0 [116, 111, 112, 105, 99, 32, 109, 97, 105, 122, 101, 59, 116, 111, 112, 105, 99, 32, 119, 111, 111, 108, 59, 99, 108, 117, 115, 116, 101, 114, 59, 116, 111, 112, 32, 109, 97, 105, 122, 101, 32, 49, 51, 55, 59, 112, 101, 110, 100, 97, 110, 116, 32, 109, 97, 105, 122, 101, 32, 52, 48, 59, 115, 117, 98, 32, 50, 32, 119, 111, 111, 108, 32, 53, 59, 115, 117, 98, 32, 51, 32, 119, 111, 111, 108, 32, 50, 59, 112, 101, 110, 100, 97, 110, 116, 32, 119, 111, 111, 108, 32, 57, 48, 59, 99, 108, 117, 115, 116, 101, 114, 59, 116, 111, 112, 32, 119, 111, 111, 108, 32, 54, 48, 59, 112, 101, 110, 100, 97, 110, 116, 32, 119, 111, 111, 108, 32, 50, 51, 59, 112, 101, 110, 100, 97, 110, 116, 32, 109, 97, 105, 122, 101, 32, 51, 48, 32, 110, 105, 98, 98, 108, 101, 100, 32, 49, 59]).bind fun q1 => (fn_Setup_parse q1.1 q1.2 0 0 0 0 (-1) 0 (fun _ => 0) 0 0 (fun _ => 0) (fun _ => 0) (fun _ => 0) (fun _ => 0) (fun _ => 0)).bind fun q2 => some (q1, q2)
theorem ini_xd : (match ini_xo with | some q => ini_px q.2 | none => false) = true := by decide +kernel
set_option maxRecDepth 20000 in
theorem ini_x : ∃ (q1 : (Int → Int) × Int) (q2 : Int × Int × Int × Int × Int × Int × (Int → Int) × Int × Int × (Int → Int) × (Int → Int) × (Int → Int) × (Int → Int) × (Int → Int)), fn_Text_put (fun _ => 0) 0 [116, 111, 112, 105, 99, 32, 109, 97, 105, 122, 101, 59, 116, 111, 112, 105, 99, 32, 119, 111, 111, 108, 59, 99, 108, 117, 115, 116, 101, 114, 59, 116, 111, 112, 32, 109, 97, 105, 122, 101, 32, 49, 51, 55, 59, 112, 101, 110, 100, 97, 110, 116, 32, 109, 97, 105, 122, 101, 32, 52, 48, 59, 115, 117, 98, 32, 50, 32, 119, 111, 111, 108, 32, 53, 59, 115, 117, 98, 32, 51, 32, 119, 111, 111, 108, 32, 50, 59, 112, 101, 110, 100, 97, 110, 116, 32, 119, 111, 111, 108, 32, 57, 48, 59, 99, 108, 117, 115, 116, 101, 114, 59, 116, 111, 112, 32, 119, 111, 111, 108, 32, 54, 48, 59, 112, 101, 110, 100, 97, 110, 116, 32, 119, 111, 111, 108, 32, 50, 51, 59, 112, 101, 110, 100, 97, 110, 116, 32, 109, 97, 105, 122, 101, 32, 51, 48, 32, 110, 105, 98, 98, 108, 101, 100, 32, 49, 59] = some q1 ∧ fn_Setup_parse q1.1 q1.2 0 0 0 0 (-1) 0 (fun _ => 0) 0 0 (fun _ => 0) (fun _ => 0) (fun _ => 0) (fun _ => 0) (fun _ => 0) = some q2 ∧ ini_px q2 = true := by
  obtain ⟨q, h1, h2⟩ := ini_o (o := ini_xo) (p := fun q => ini_px q.2) ini_xd
  obtain ⟨q1, e1, h1⟩ := Option.bind_eq_some_iff.mp h1
  obtain ⟨q2, e2, h1⟩ := Option.bind_eq_some_iff.mp h1
  cases h1
  exact ⟨q1, q2, e1, e2, h2⟩
def ini_mo : Option ((Int → Int) × (Int → Int) × (Int → Int) × (Int × (Int → Int)) × (Int × (Int → Int)) × (Int × (Int → Int)) × (Int × (Int → Int)) × (Int × (Int → Int)) × (Int × (Int → Int)) × (Int × (Int → Int)) × (Int × (Int → Int)) × (Int × (Int → Int))) := (fn_Md_begins (fun _ => 0)).bind fun q_1 => (fn_Md_spells q_1 109 97 105 122 101 5).bind fun q_2 => (fn_Md_spells q_2 119 111 111 108 0 4).bind fun q_3 => (fn_Md_inserts (jk_up q_3 1 2) 0 0 0 0 137).bind fun q_4 => (fn_Md_inserts q_4.2 1 0 1 0 40).bind fun q_5 => (fn_Md_inserts q_5.2 2 0 2 1 5).bind fun q_6 => (fn_Md_inserts q_6.2 3 0 3 1 2).bind fun q_7 => (fn_Md_inserts q_7.2 4 0 1 1 90).bind fun q_8 => (fn_Md_inserts q_8.2 5 1 0 1 60).bind fun q_9 => (fn_Md_inserts q_9.2 6 1 1 1 23).bind fun q_10 => (fn_Md_inserts q_10.2 7 1 1 0 30).bind fun q_11 => (fn_Md_loses q_11.2 7 1).bind fun q_12 => some (q_1, q_2, q_3, q_4, q_5, q_6, q_7, q_8, q_9, q_10, q_11, q_12)
def ini_w : List Int := [2, 2, 8, 5, 109, 97, 105, 122, 101, 0, 4, 119, 111, 111, 108, 0, 0, 0, 0, 0, 0, 0, 0, 0, 0, 0, 0, 0, 0, 0, 0, 0, 0, 0, 0, 0, 0, 0, 0, 0, 0, 0, 0, 0, 0, 0, 0, 0, 0, 0, 0, 0, 0, 0, 0, 0, 0, 0, 0, 0, 0, 0, 137, 0, 0, 1, 0, 40, 0, 0, 2, 1, 5, 0, 0, 3, 1, 2, 0, 0, 1, 1, 90, 0, 1, 0, 1, 60, 0, 1, 1, 1, 23, 0, 1, 1, 0, 30, 1, 0, 0, 0, 0, 0, 0, 0, 0, 0, 0, 0, 0, 0, 0, 0, 0, 0, 0, 0, 0, 0, 0, 0, 0, 0, 0, 0, 0, 0, 0, 0, 0, 0, 0, 0, 0, 0, 0, 0, 0, 0, 0, 0, 0, 0, 0, 0, 0, 0, 0, 0, 0, 0, 0, 0, 0, 0, 0, 0, 0, 0, 0, 0, 0, 0, 0, 0, 0, 0, 0, 0, 0, 0, 0, 0, 0, 0, 0, 0, 0, 0, 0, 0, 0, 0, 0, 0, 0, 0, 0, 0, 0, 0, 0, 0, 0, 0, 0, 0, 0, 0, 0, 0, 0, 0, 0, 0, 0, 0, 0, 0, 0, 0, 0, 0, 0, 0, 0, 0, 0, 0, 0, 0, 0, 0, 0, 0, 0, 0, 0, 0, 0, 0, 0, 0, 0, 0, 0, 0, 0, 0, 0, 0, 0, 0, 0, 0, 0, 0, 0, 0, 0, 0, 0, 0, 0, 0, 0, 0, 0]
def ini_mp (q : Int → Int) : Bool := decide (ini_l q 259 = ini_w)
theorem ini_md : (match ini_mo with | some q => ini_mp q.2.2.2.2.2.2.2.2.2.2.2.2 | none => false) = true := by decide +kernel
set_option maxRecDepth 20000 in
theorem ini_m : ∃ (q_1 : (Int → Int)) (q_2 : (Int → Int)) (q_3 : (Int → Int)) (q_4 : Int × (Int → Int)) (q_5 : Int × (Int → Int)) (q_6 : Int × (Int → Int)) (q_7 : Int × (Int → Int)) (q_8 : Int × (Int → Int)) (q_9 : Int × (Int → Int)) (q_10 : Int × (Int → Int)) (q_11 : Int × (Int → Int)) (q_12 : Int × (Int → Int)), fn_Md_begins (fun _ => 0) = some q_1 ∧ fn_Md_spells q_1 109 97 105 122 101 5 = some q_2 ∧ fn_Md_spells q_2 119 111 111 108 0 4 = some q_3 ∧ fn_Md_inserts (jk_up q_3 1 2) 0 0 0 0 137 = some q_4 ∧ fn_Md_inserts q_4.2 1 0 1 0 40 = some q_5 ∧ fn_Md_inserts q_5.2 2 0 2 1 5 = some q_6 ∧ fn_Md_inserts q_6.2 3 0 3 1 2 = some q_7 ∧ fn_Md_inserts q_7.2 4 0 1 1 90 = some q_8 ∧ fn_Md_inserts q_8.2 5 1 0 1 60 = some q_9 ∧ fn_Md_inserts q_9.2 6 1 1 1 23 = some q_10 ∧ fn_Md_inserts q_10.2 7 1 1 0 30 = some q_11 ∧ fn_Md_loses q_11.2 7 1 = some q_12 ∧ ini_l q_12.2 259 = ini_w := by
  obtain ⟨q, h1, h2⟩ := ini_o (o := ini_mo) (p := fun q => ini_mp q.2.2.2.2.2.2.2.2.2.2.2.2) ini_md
  obtain ⟨q_1, e_1, h1⟩ := Option.bind_eq_some_iff.mp h1
  obtain ⟨q_2, e_2, h1⟩ := Option.bind_eq_some_iff.mp h1
  obtain ⟨q_3, e_3, h1⟩ := Option.bind_eq_some_iff.mp h1
  obtain ⟨q_4, e_4, h1⟩ := Option.bind_eq_some_iff.mp h1
  obtain ⟨q_5, e_5, h1⟩ := Option.bind_eq_some_iff.mp h1
  obtain ⟨q_6, e_6, h1⟩ := Option.bind_eq_some_iff.mp h1
  obtain ⟨q_7, e_7, h1⟩ := Option.bind_eq_some_iff.mp h1
  obtain ⟨q_8, e_8, h1⟩ := Option.bind_eq_some_iff.mp h1
  obtain ⟨q_9, e_9, h1⟩ := Option.bind_eq_some_iff.mp h1
  obtain ⟨q_10, e_10, h1⟩ := Option.bind_eq_some_iff.mp h1
  obtain ⟨q_11, e_11, h1⟩ := Option.bind_eq_some_iff.mp h1
  obtain ⟨q_12, e_12, h1⟩ := Option.bind_eq_some_iff.mp h1
  cases h1
  exact ⟨q_1, q_2, q_3, q_4, q_5, q_6, q_7, q_8, q_9, q_10, q_11, q_12, e_1, e_2, e_3, e_4, e_5, e_6, e_7, e_8, e_9, e_10, e_11, e_12, of_decide_eq_true h2⟩
theorem ini_C {st dp tp va nb w : Int → Int} (hs : ini_l st 3 = [0, 5, 8]) (hd : ini_l dp 40 = [0, 1, 2, 3, 1, 0, 1, 1, 0, 0, 0, 0, 0, 0, 0, 0, 0, 0, 0, 0, 0, 0, 0, 0, 0, 0, 0, 0, 0, 0, 0, 0, 0, 0, 0, 0, 0, 0, 0, 0]) (ht : ini_l tp 8 = [0, 0, 1, 1, 1, 1, 1, 0]) (hv : ini_l va 8 = [137, 40, 5, 2, 90, 60, 23, 30]) (hn : ini_l nb 8 = [0, 0, 0, 0, 0, 0, 0, 1]) (hm : ini_l w 259 = ini_w) : pC 2 2 8 st dp tp va nb w := by
  have s0 : st 0 = 0 := ini_at hs (i := 0) (by decide)
  have s1 : st 1 = 5 := ini_at hs (i := 1) (by decide)
  have s2 : st 2 = 8 := ini_at hs (i := 2) (by decide)
  have d0 : dp 0 = 0 := ini_at hd (i := 0) (by decide)
  have t0 : tp 0 = 0 := ini_at ht (i := 0) (by decide)
  have v0 : va 0 = 137 := ini_at hv (i := 0) (by decide)
  have n0 : nb 0 = 0 := ini_at hn (i := 0) (by decide)
  have d1 : dp 1 = 1 := ini_at hd (i := 1) (by decide)
  have t1 : tp 1 = 0 := ini_at ht (i := 1) (by decide)
  have v1 : va 1 = 40 := ini_at hv (i := 1) (by decide)
  have n1 : nb 1 = 0 := ini_at hn (i := 1) (by decide)
  have d2 : dp 2 = 2 := ini_at hd (i := 2) (by decide)
  have t2 : tp 2 = 1 := ini_at ht (i := 2) (by decide)
  have v2 : va 2 = 5 := ini_at hv (i := 2) (by decide)
  have n2 : nb 2 = 0 := ini_at hn (i := 2) (by decide)
  have d3 : dp 3 = 3 := ini_at hd (i := 3) (by decide)
  have t3 : tp 3 = 1 := ini_at ht (i := 3) (by decide)
  have v3 : va 3 = 2 := ini_at hv (i := 3) (by decide)
  have n3 : nb 3 = 0 := ini_at hn (i := 3) (by decide)
  have d4 : dp 4 = 1 := ini_at hd (i := 4) (by decide)
  have t4 : tp 4 = 1 := ini_at ht (i := 4) (by decide)
  have v4 : va 4 = 90 := ini_at hv (i := 4) (by decide)
  have n4 : nb 4 = 0 := ini_at hn (i := 4) (by decide)
  have d5 : dp 5 = 0 := ini_at hd (i := 5) (by decide)
  have t5 : tp 5 = 1 := ini_at ht (i := 5) (by decide)
  have v5 : va 5 = 60 := ini_at hv (i := 5) (by decide)
  have n5 : nb 5 = 0 := ini_at hn (i := 5) (by decide)
  have d6 : dp 6 = 1 := ini_at hd (i := 6) (by decide)
  have t6 : tp 6 = 1 := ini_at ht (i := 6) (by decide)
  have v6 : va 6 = 23 := ini_at hv (i := 6) (by decide)
  have n6 : nb 6 = 0 := ini_at hn (i := 6) (by decide)
  have d7 : dp 7 = 1 := ini_at hd (i := 7) (by decide)
  have t7 : tp 7 = 0 := ini_at ht (i := 7) (by decide)
  have v7 : va 7 = 30 := ini_at hv (i := 7) (by decide)
  have n7 : nb 7 = 1 := ini_at hn (i := 7) (by decide)
  refine ⟨⟨fun k => if k < 5 then 0 else 1, ⟨⟨⟨by decide, by decide⟩, ⟨by decide, by decide⟩, ⟨by decide, by decide⟩⟩, ⟨s0, s2, fun c h0 h1 => ?_⟩, fun k h0 h1 => ?_⟩, ⟨ini_at hm (i := 1) (by decide), ini_at hm (i := 2) (by decide), fun k h0 h1 => ?_⟩⟩, fun j h0 h1 => ?_⟩
  · rcases (show c = 0 ∨ c = 1 by omega) with rfl | rfl
    · show st 0 ≤ st 1; rw [s0, s1]; decide
    · show st 1 ≤ st 2; rw [s1, s2]; decide
  · rcases (show k = 0 ∨ k = 1 ∨ k = 2 ∨ k = 3 ∨ k = 4 ∨ k = 5 ∨ k = 6 ∨ k = 7 by omega) with rfl | rfl | rfl | rfl | rfl | rfl | rfl | rfl
    · show (0 ≤ (0 : Int) ∧ (0 : Int) < 2 ∧ st 0 ≤ 0 ∧ 0 < st 1) ∧ (0 ≤ dp 0 ∧ dp 0 ≤ 3) ∧ (0 ≤ tp 0 ∧ tp 0 < 2) ∧ (0 ≤ va 0 ∧ va 0 ≤ 9999) ∧ (0 ≤ nb 0 ∧ nb 0 ≤ 4) ∧ va 0 / pw (nb 0) * pw (nb 0) = va 0 ∧ (st 0 = 0 → dp 0 ≤ 1) ∧ (st 0 < 0 → 1 ≤ dp 0 ∧ dp 0 ≤ dp (0 - 1) + 1)
      refine ⟨by rw [s0, s1]; decide, by rw [d0]; decide, by rw [t0]; decide, by rw [v0]; decide, by rw [n0]; decide, by rw [v0, n0]; decide, fun _ => by rw [d0]; decide, fun h => absurd h (by rw [s0]; decide)⟩
    · show (0 ≤ (0 : Int) ∧ (0 : Int) < 2 ∧ st 0 ≤ 1 ∧ 1 < st 1) ∧ (0 ≤ dp 1 ∧ dp 1 ≤ 3) ∧ (0 ≤ tp 1 ∧ tp 1 < 2) ∧ (0 ≤ va 1 ∧ va 1 ≤ 9999) ∧ (0 ≤ nb 1 ∧ nb 1 ≤ 4) ∧ va 1 / pw (nb 1) * pw (nb 1) = va 1 ∧ (st 0 = 1 → dp 1 ≤ 1) ∧ (st 0 < 1 → 1 ≤ dp 1 ∧ dp 1 ≤ dp (1 - 1) + 1)
      rw [show dp (1 - 1) = 0 from d0, s0, s1, d1, t1, v1, n1]; decide
    · show (0 ≤ (0 : Int) ∧ (0 : Int) < 2 ∧ st 0 ≤ 2 ∧ 2 < st 1) ∧ (0 ≤ dp 2 ∧ dp 2 ≤ 3) ∧ (0 ≤ tp 2 ∧ tp 2 < 2) ∧ (0 ≤ va 2 ∧ va 2 ≤ 9999) ∧ (0 ≤ nb 2 ∧ nb 2 ≤ 4) ∧ va 2 / pw (nb 2) * pw (nb 2) = va 2 ∧ (st 0 = 2 → dp 2 ≤ 1) ∧ (st 0 < 2 → 1 ≤ dp 2 ∧ dp 2 ≤ dp (2 - 1) + 1)
      rw [show dp (2 - 1) = 1 from d1, s0, s1, d2, t2, v2, n2]; decide
    · show (0 ≤ (0 : Int) ∧ (0 : Int) < 2 ∧ st 0 ≤ 3 ∧ 3 < st 1) ∧ (0 ≤ dp 3 ∧ dp 3 ≤ 3) ∧ (0 ≤ tp 3 ∧ tp 3 < 2) ∧ (0 ≤ va 3 ∧ va 3 ≤ 9999) ∧ (0 ≤ nb 3 ∧ nb 3 ≤ 4) ∧ va 3 / pw (nb 3) * pw (nb 3) = va 3 ∧ (st 0 = 3 → dp 3 ≤ 1) ∧ (st 0 < 3 → 1 ≤ dp 3 ∧ dp 3 ≤ dp (3 - 1) + 1)
      rw [show dp (3 - 1) = 2 from d2, s0, s1, d3, t3, v3, n3]; decide
    · show (0 ≤ (0 : Int) ∧ (0 : Int) < 2 ∧ st 0 ≤ 4 ∧ 4 < st 1) ∧ (0 ≤ dp 4 ∧ dp 4 ≤ 3) ∧ (0 ≤ tp 4 ∧ tp 4 < 2) ∧ (0 ≤ va 4 ∧ va 4 ≤ 9999) ∧ (0 ≤ nb 4 ∧ nb 4 ≤ 4) ∧ va 4 / pw (nb 4) * pw (nb 4) = va 4 ∧ (st 0 = 4 → dp 4 ≤ 1) ∧ (st 0 < 4 → 1 ≤ dp 4 ∧ dp 4 ≤ dp (4 - 1) + 1)
      rw [show dp (4 - 1) = 3 from d3, s0, s1, d4, t4, v4, n4]; decide
    · show (0 ≤ (1 : Int) ∧ (1 : Int) < 2 ∧ st 1 ≤ 5 ∧ 5 < st 2) ∧ (0 ≤ dp 5 ∧ dp 5 ≤ 3) ∧ (0 ≤ tp 5 ∧ tp 5 < 2) ∧ (0 ≤ va 5 ∧ va 5 ≤ 9999) ∧ (0 ≤ nb 5 ∧ nb 5 ≤ 4) ∧ va 5 / pw (nb 5) * pw (nb 5) = va 5 ∧ (st 1 = 5 → dp 5 ≤ 1) ∧ (st 1 < 5 → 1 ≤ dp 5 ∧ dp 5 ≤ dp (5 - 1) + 1)
      rw [show dp (5 - 1) = 1 from d4, s1, s2, d5, t5, v5, n5]; decide
    · show (0 ≤ (1 : Int) ∧ (1 : Int) < 2 ∧ st 1 ≤ 6 ∧ 6 < st 2) ∧ (0 ≤ dp 6 ∧ dp 6 ≤ 3) ∧ (0 ≤ tp 6 ∧ tp 6 < 2) ∧ (0 ≤ va 6 ∧ va 6 ≤ 9999) ∧ (0 ≤ nb 6 ∧ nb 6 ≤ 4) ∧ va 6 / pw (nb 6) * pw (nb 6) = va 6 ∧ (st 1 = 6 → dp 6 ≤ 1) ∧ (st 1 < 6 → 1 ≤ dp 6 ∧ dp 6 ≤ dp (6 - 1) + 1)
      rw [show dp (6 - 1) = 0 from d5, s1, s2, d6, t6, v6, n6]; decide
    · show (0 ≤ (1 : Int) ∧ (1 : Int) < 2 ∧ st 1 ≤ 7 ∧ 7 < st 2) ∧ (0 ≤ dp 7 ∧ dp 7 ≤ 3) ∧ (0 ≤ tp 7 ∧ tp 7 < 2) ∧ (0 ≤ va 7 ∧ va 7 ≤ 9999) ∧ (0 ≤ nb 7 ∧ nb 7 ≤ 4) ∧ va 7 / pw (nb 7) * pw (nb 7) = va 7 ∧ (st 1 = 7 → dp 7 ≤ 1) ∧ (st 1 < 7 → 1 ≤ dp 7 ∧ dp 7 ≤ dp (7 - 1) + 1)
      rw [show dp (7 - 1) = 1 from d6, s1, s2, d7, t7, v7, n7]; decide
  · rcases (show k = 0 ∨ k = 1 ∨ k = 2 ∨ k = 3 ∨ k = 4 ∨ k = 5 ∨ k = 6 ∨ k = 7 by omega) with rfl | rfl | rfl | rfl | rfl | rfl | rfl | rfl
    · exact ⟨ini_at hm (i := 59) (by decide), (ini_at hm (i := 60) (by decide)).trans d0.symm, (ini_at hm (i := 61) (by decide)).trans t0.symm, (ini_at hm (i := 62) (by decide)).trans v0.symm, (ini_at hm (i := 63) (by decide)).trans n0.symm⟩
    · exact ⟨ini_at hm (i := 64) (by decide), (ini_at hm (i := 65) (by decide)).trans d1.symm, (ini_at hm (i := 66) (by decide)).trans t1.symm, (ini_at hm (i := 67) (by decide)).trans v1.symm, (ini_at hm (i := 68) (by decide)).trans n1.symm⟩
    · exact ⟨ini_at hm (i := 69) (by decide), (ini_at hm (i := 70) (by decide)).trans d2.symm, (ini_at hm (i := 71) (by decide)).trans t2.symm, (ini_at hm (i := 72) (by decide)).trans v2.symm, (ini_at hm (i := 73) (by decide)).trans n2.symm⟩
    · exact ⟨ini_at hm (i := 74) (by decide), (ini_at hm (i := 75) (by decide)).trans d3.symm, (ini_at hm (i := 76) (by decide)).trans t3.symm, (ini_at hm (i := 77) (by decide)).trans v3.symm, (ini_at hm (i := 78) (by decide)).trans n3.symm⟩
    · exact ⟨ini_at hm (i := 79) (by decide), (ini_at hm (i := 80) (by decide)).trans d4.symm, (ini_at hm (i := 81) (by decide)).trans t4.symm, (ini_at hm (i := 82) (by decide)).trans v4.symm, (ini_at hm (i := 83) (by decide)).trans n4.symm⟩
    · exact ⟨ini_at hm (i := 84) (by decide), (ini_at hm (i := 85) (by decide)).trans d5.symm, (ini_at hm (i := 86) (by decide)).trans t5.symm, (ini_at hm (i := 87) (by decide)).trans v5.symm, (ini_at hm (i := 88) (by decide)).trans n5.symm⟩
    · exact ⟨ini_at hm (i := 89) (by decide), (ini_at hm (i := 90) (by decide)).trans d6.symm, (ini_at hm (i := 91) (by decide)).trans t6.symm, (ini_at hm (i := 92) (by decide)).trans v6.symm, (ini_at hm (i := 93) (by decide)).trans n6.symm⟩
    · exact ⟨ini_at hm (i := 94) (by decide), (ini_at hm (i := 95) (by decide)).trans d7.symm, (ini_at hm (i := 96) (by decide)).trans t7.symm, (ini_at hm (i := 97) (by decide)).trans v7.symm, (ini_at hm (i := 98) (by decide)).trans n7.symm⟩
  · have h := ini_at hd (i := j.toNat) (by omega)
    rw [Int.toNat_of_nonneg h0] at h
    rw [h]
    have hj : j.toNat < 40 := by omega
    generalize j.toNat = i at hj
    exact (by decide : ∀ i, i < 40 → jk_R (([0, 1, 2, 3, 1, 0, 1, 1, 0, 0, 0, 0, 0, 0, 0, 0, 0, 0, 0, 0, 0, 0, 0, 0, 0, 0, 0, 0, 0, 0, 0, 0, 0, 0, 0, 0, 0, 0, 0, 0] : List Int).getD i 0)) i hj
theorem ini_N {nm w : Int → Int} (hn : ini_l nm 2 = [6104109, 409079]) (hm : ini_l w 259 = ini_w) : pN 2 nm w := by
  refine ⟨ini_at hm (i := 0) (by decide), fun t h0 h1 => ?_⟩
  rcases (show t = 0 ∨ t = 1 by omega) with rfl | rfl
  · refine ⟨5, by decide, ini_at hm (i := 3) (by decide), fun i h2 h3 => ?_, ?_⟩
    · rcases (show i = 4 ∨ i = 5 ∨ i = 6 ∨ i = 7 ∨ i = 8 by omega) with rfl | rfl | rfl | rfl | rfl
      · rw [show w 4 = 109 from ini_at hm (i := 4) (by decide)]; decide
      · rw [show w 5 = 97 from ini_at hm (i := 5) (by decide)]; decide
      · rw [show w 6 = 105 from ini_at hm (i := 6) (by decide)]; decide
      · rw [show w 7 = 122 from ini_at hm (i := 7) (by decide)]; decide
      · rw [show w 8 = 101 from ini_at hm (i := 8) (by decide)]; decide
    · show nm 0 = (w 4 - 96) + 32 * ((w 5 - 96) + 32 * ((w 6 - 96) + 32 * ((w 7 - 96) + 32 * ((w 8 - 96) + 32 * 0))))
      rw [show nm 0 = 6104109 from ini_at hn (i := 0) (by decide), show w 4 = 109 from ini_at hm (i := 4) (by decide), show w 5 = 97 from ini_at hm (i := 5) (by decide), show w 6 = 105 from ini_at hm (i := 6) (by decide), show w 7 = 122 from ini_at hm (i := 7) (by decide), show w 8 = 101 from ini_at hm (i := 8) (by decide)]; decide
  · refine ⟨4, by decide, ini_at hm (i := 10) (by decide), fun i h2 h3 => ?_, ?_⟩
    · rcases (show i = 11 ∨ i = 12 ∨ i = 13 ∨ i = 14 by omega) with rfl | rfl | rfl | rfl
      · rw [show w 11 = 119 from ini_at hm (i := 11) (by decide)]; decide
      · rw [show w 12 = 111 from ini_at hm (i := 12) (by decide)]; decide
      · rw [show w 13 = 111 from ini_at hm (i := 13) (by decide)]; decide
      · rw [show w 14 = 108 from ini_at hm (i := 14) (by decide)]; decide
    · show nm 1 = (w 11 - 96) + 32 * ((w 12 - 96) + 32 * ((w 13 - 96) + 32 * ((w 14 - 96) + 32 * 0)))
      rw [show nm 1 = 409079 from ini_at hn (i := 1) (by decide), show w 11 = 119 from ini_at hm (i := 11) (by decide), show w 12 = 111 from ini_at hm (i := 12) (by decide), show w 13 = 111 from ini_at hm (i := 13) (by decide), show w 14 = 108 from ini_at hm (i := 14) (by decide)]; decide
