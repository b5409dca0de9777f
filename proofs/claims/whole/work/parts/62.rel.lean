/-! the class's state beside the model's -/
def Rel (σ : jk_LS) : Prop :=
  (pB (σ.S 3) (σ.T 0) (σ.T 27) ∧ σ.S 24 = σ.S 3) ∧
  (pN (σ.S 10) (σ.T 2) (σ.T 23) ∧ pC (σ.S 10) (σ.S 11) (σ.S 12) (σ.T 3) (σ.T 4) (σ.T 5) (σ.T 6) (σ.T 7) (σ.T 23)) ∧
  (pH (σ.S 10) (σ.S 18) (σ.S 19) σ.HC σ.HZ σ.HS σ.HD σ.HT σ.HV σ.HN (σ.T 23) (σ.T 26) ∧ σ.S 21 = σ.S 19) ∧
  ((σ.S 0 = 0 ∨ (σ.S 0 = 1 ∧ pC (σ.S 10) (σ.S 16) (σ.S 17) (σ.T 14) (σ.T 15) (σ.T 16) (σ.T 17) (σ.T 18) (σ.T 25) ∧ pU (σ.T 23) (σ.T 25))) ∧ σ.S 22 = σ.S 0) ∧
  pDr (σ.T 9) (σ.T 10) ∧
  ((∃ L, pO (σ.T 1) (σ.S 9) L ∧ pO (σ.T 31) (σ.S 9) L ∧ L.length ≤ 321) ∧ σ.S 35 = σ.S 9) ∧
  σ.S 25 = σ.S 1 ∧ σ.S 26 = σ.S 2
theorem oc_ag {ls : List Nat} {a : Nat ⊕ Int} {b t : Int} {W : va_W} (h : ag ls a b t) : jk_oc ls (Sum.map id (fun (z : Int) => ((z : Int), W)) a) W W t b := by
  cases a with
  | inl k =>
    obtain ⟨j, h1, h2⟩ := h
    exact ⟨j, h1, h2, rfl⟩
  | inr v => exact ⟨h.1, h.2.1, rfl⟩
theorem ag_R {ls : List Nat} {a : Nat ⊕ Int} {b t : Int} (h : ag ls a b t) (hl : ls.length ≤ 10) : jk_R t := by
  cases a with
  | inl k =>
    obtain ⟨j, h1, h2⟩ := h
    have := (List.getElem?_eq_some_iff.mp h1).1
    exact ⟨by omega, by omega⟩
  | inr v =>
    have := h.1
    exact ⟨by omega, by omega⟩
theorem tR {ls : List Nat} {j k : Nat} {t : Int} (h1 : ls[j]? = some k) (h2 : t = (j : Int) + 1) (hl : ls.length ≤ 10) : jk_R t := by
  have := (List.getElem?_eq_some_iff.mp h1).1
  exact ⟨by omega, by omega⟩
theorem pB_0 {f1 f2 : Int → Int} : pB 0 f1 f2 := ⟨⟨by decide, by decide⟩, fun i h0 h1 => absurd h1 (by omega)⟩
theorem sv_U {tn c1 z1 hS : Int} {a1 a2 a3 a4 a5 w w' sv : Int → Int} (h : hS = 0 ∨ (hS = 1 ∧ pC tn c1 z1 a1 a2 a3 a4 a5 sv ∧ pU w sv)) (hu : pU w w') : hS = 0 ∨ (hS = 1 ∧ pC tn c1 z1 a1 a2 a3 a4 a5 sv ∧ pU w' sv) :=
  h.elim Or.inl (fun h => Or.inr ⟨h.1, h.2.1, pU_sw hu h.2.2⟩)
