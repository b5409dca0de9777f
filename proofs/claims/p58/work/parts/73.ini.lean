/-! the start: the class's own text read, the model's own calls -/
def ini_l (f : Int → Int) (n : Nat) : List Int := (List.range n).map (fun i => f ((i : Nat) : Int))
theorem ini_at {f : Int → Int} {n : Nat} {L : List Int} (h : ini_l f n = L) {i : Nat} (hi : i < n) : f (i : Int) = L.getD i 0 := by
  subst h
  unfold ini_l
  rw [List.getD_eq_getElem?_getD, List.getElem?_map, List.getElem?_range hi]
  rfl
theorem ini_o {α : Type} {o : Option α} {p : α → Bool} (h : (match o with | some q => p q | none => false) = true) : ∃ q, o = some q ∧ p q = true := by
  cases o with
  | none => cases h
  | some q => exact ⟨q, rfl, h⟩
def ini_px (q : Int × Int × Int × Int × Int × Int × (Int → Int) × Int × Int × (Int → Int) × (Int → Int) × (Int → Int) × (Int → Int) × (Int → Int)) : Bool := decide (q.2.2.2.2.2.1 = 2) && decide (ini_l q.2.2.2.2.2.2.1 2 = [6104109, 409079]) && decide (q.2.2.2.2.2.2.2.1 = 2) && decide (q.2.2.2.2.2.2.2.2.1 = 8) && decide (ini_l q.2.2.2.2.2.2.2.2.2.1 3 = [0, 5, 8]) && decide (ini_l q.2.2.2.2.2.2.2.2.2.2.1 40 = [0, 1, 2, 3, 1, 0, 1, 1, 0, 0, 0, 0, 0, 0, 0, 0, 0, 0, 0, 0, 0, 0, 0, 0, 0, 0, 0, 0, 0, 0, 0, 0, 0, 0, 0, 0, 0, 0, 0, 0]) && decide (ini_l q.2.2.2.2.2.2.2.2.2.2.2.1 8 = [0, 0, 1, 1, 1, 1, 1, 0]) && decide (ini_l q.2.2.2.2.2.2.2.2.2.2.2.2.1 8 = [137, 40, 5, 2, 90, 60, 23, 30]) && decide (ini_l q.2.2.2.2.2.2.2.2.2.2.2.2.2 8 = [0, 0, 0, 0, 0, 0, 0, 1])
def ini_xo : Option (((Int → Int) × Int) × (Int × Int × Int × Int × Int × Int × (Int → Int) × Int × Int × (Int → Int) × (Int → Int) × (Int → Int) × (Int → Int) × (Int → Int))) := (fn_Text_put (fun _ => 0) 0 [116, 111, 112, 105, 99, 32, 109, 97, 105, 122, 101, 59, 116, 111, 112, 105, 99, 32, 119, 111, 111, 108, 59, 99, 108, 117, 115, 116, 101, 114, 59, 116, 111, 112, 32, 109, 97, 105, 122, 101, 32, 49, 51, 55, 59, 112, 101, 110, 100, 97, 110, 116, 32, 109, 97, 105, 122, 101, 32, 52, 48, 59, 115, 117, 98, 32, 50, 32, 119, 111, 111, 108, 32, 53, 59, 115, 117, 98, 32, 51, 32, 119, 111, 111, 108, 32, 50, 59, 112, 101, 110, 100, 97, 110, 116, 32, 119, 111, 111, 108, 32, 57, 48, 59, 99, 108, 117, 115, 116, 101, 114, 59, 116, 111, 112, 32, 119, 111, 111, 108, 32, 54, 48, 59, 112, 101, 110, 100, 97, 110, 116, 32, 119, 111, 111, 108, 32, 50, 51, 59, 112, 101, 110, 100, 97, 110, 116, 32, 109, 97, 105, 122, 101, 32, 51, 48, 32, 110, 105, 98, 98, 108, 101, 100, 32, 49, 59]).bind fun q1 => (fn_Setup_parse q1.1 q1.2 0 0 0 0 (-1) 0 (fun _ => 0) 0 0 (fun _ => 0) (fun _ => 0) (fun _ => 0) (fun _ => 0) (fun _ => 0)).bind fun q2 => some (q1, q2)
theorem ini_xd : (match ini_xo with | some q => ini_px q.2 | none => false) = true := by decide +kernel
set_option maxRecDepth 20000 in
theorem ini_x : ∃ (q1 : (Int → Int) × Int) (q2 : Int × Int × Int × Int × Int × Int × (Int → Int) × Int × Int × (Int → Int) × (Int → Int) × (Int → Int) × (Int → Int) × (Int → Int)), fn_Text_put (fun _ => 0) 0 [116, 111, 112, 105, 99, 32, 109, 97, 105, 122, 101, 59, 116, 111, 112, 105, 99, 32, 119, 111, 111, 108, 59, 99, 108, 117, 115, 116, 101, 114, 59, 116, 111, 112, 32, 109, 97, 105, 122, 101, 32, 49, 51, 55, 59, 112, 101, 110, 100, 97, 110, 116, 32, 109, 97, 105, 122, 101, 32, 52, 48, 59, 115, 117, 98, 32, 50, 32, 119, 111, 111, 108, 32, 53, 59, 115, 117, 98, 32, 51, 32, 119, 111, 111, 108, 32, 50, 59, 112, 101, 110, 100, 97, 110, 116, 32, 119, 111, 111, 108, 32, 57, 48, 59, 99, 108, 117, 115, 116, 101, 114, 59, 116, 111, 112, 32, 119, 111, 111, 108, 32, 54, 48, 59, 112, 101, 110, 100, 97, 110, 116, 32, 119, 111, 111, 108, 32, 50, 51, 59, 112, 101, 110, 100, 97, 110, 116, 32, 109, 97, 105, 122, 101, 32, 51, 48, 32, 110, 105, 98, 98, 108, 101, 100, 32, 49, 59] = some q1 ∧ fn_Setup_parse q1.1 q1.2 0 0 0 0 (-1) 0 (fun _ => 0) 0 0 (fun _ => 0) (fun _ => 0) (fun _ => 0) (fun _ => 0) (fun _ => 0) = some q2 ∧ ini_px q2 = true := by
  obtain ⟨q, h1, h2⟩ := ini_o (o := ini_xo) (p := fun q => ini_px q.2) ini_xd
  obtain ⟨q1, e1, h1⟩ := Option.bind_eq_some_iff.mp h1
  obtain ⟨q2, e2, h1⟩ := Option.bind_eq_some_iff.mp h1
  cases h1
  exact ⟨q1, q2, e1, e2, h2⟩
theorem nw_KR : Jvm.Cond.instantiable "KnotReader" (12 : Nat) ∈ jk_WA := jk_tb 41 (by decide +kernel) (by decide +kernel)
