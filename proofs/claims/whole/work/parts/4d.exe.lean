/-! one statement of a script done, on both sides -/
section PV1
variable {cl sz tn : Int} {st dp tp va nb w od nu : Int → Int} {A B C v : Int}
def eStep (tn cl sz : Int) (st dp tp va nb w od nu : Int → Int) (K A B C v : Int) : Prop :=
  (∃ p, (p = 1 ∨ p = 2 ∨ p = 3) ∧ fn_KR_problemOf tn cl sz st dp va nb K A B C = some p ∧ fn_Md_does w od nu v = some (0, w)) ∨
  (fn_KR_problemOf tn cl sz st dp va nb K A B C = some 0 ∧ ∃ r cl' sz' st' dp' tp' va' nb' w', fn_KR_perform cl sz st dp tp va nb K A B C = some (r, cl', sz', st', dp', tp', va', nb') ∧ fn_Md_does w od nu v = some (1, w') ∧ pC tn cl' sz' st' dp' tp' va' nb' w' ∧ pU w w')
theorem e_ok {K : Int} {md : Option (Int × (Int → Int))} (hp : fn_KR_problemOf tn cl sz st dp va nb K A B C = some 0) (P : pP tn cl sz st dp tp va nb w K A B C md) (hd : fn_Md_does w od nu v = md.bind fun q => jk_lts q.1 0 (some (0, q.2)) (some (1, q.2))) : eStep tn cl sz st dp tp va nb w od nu K A B C v := by
  obtain ⟨r, cl', sz', st', dp', tp', va', nb', w', e1, e2, e3, e4, e5, e6⟩ := P
  refine Or.inr ⟨hp, r, cl', sz', st', dp', tp', va', nb', w', e1, ?_, e3, e4⟩
  rw [hd, zk_bd e2]
  (try simp (disch := omega) only [↓zk_lt, ↓zk_nl, ↓zk_eq, ↓zk_ne, ↓zk_ix, ↓zk_dv, ↓zk_bo, ↓zk_rg, ↓zk_get, ↓zk_set, Option.bind_some])
theorem e_0 (H : pC tn cl sz st dp tp va nb w) (hv : 0 ≤ v ∧ v ≤ 29) (ho : od v = 1) : eStep tn cl sz st dp tp va nb w od nu 0 A B C v := by
  have hf := pC_f H
  have HH := H
  obtain ⟨⟨g, I, M⟩, G⟩ := HH
  have hw1 := M.1
  have hp := pb_0 H A B C
  by_cases a : cl < 6
  · rw [if_pos a] at hp
    refine e_ok hp (p_0 H a A B C) ?_
    unfold fn_Md_does
    (try simp (disch := omega) only [↓zk_lt, ↓zk_nl, ↓zk_eq, ↓zk_ne, ↓zk_ix, ↓zk_dv, ↓zk_bo, ↓zk_rg, ↓zk_get, ↓zk_set, Option.bind_some])
  · rw [if_neg a] at hp
    refine Or.inl ⟨3, by omega, hp, ?_⟩
    unfold fn_Md_does
    (try simp (disch := omega) only [↓zk_lt, ↓zk_nl, ↓zk_eq, ↓zk_ne, ↓zk_ix, ↓zk_dv, ↓zk_bo, ↓zk_rg, ↓zk_get, ↓zk_set, Option.bind_some])
theorem e_1 (H : pC tn cl sz st dp tp va nb w) (hv : 0 ≤ v ∧ v ≤ 29) (ho : od v = 2) (hA : nu (3 * v) = A) (hB : nu (3 * v + 1) = B) (hC : nu (3 * v + 2) = C) (h1 : 0 ≤ A ∧ A ≤ 5) (h2 : 0 ≤ B ∧ B < tn) (h3 : 0 ≤ C ∧ C ≤ 9999) : eStep tn cl sz st dp tp va nb w od nu 1 A B C v := by
  have hf := pC_f H
  have HH := H
  obtain ⟨⟨g, I, M⟩, G⟩ := HH
  have hw1 := M.1
  have hp := pb_1 H (c := A) (t := B) (v := C) ⟨by omega, by omega⟩ ⟨by omega, by omega⟩ ⟨by omega, by omega⟩
  have hcl := sm_isCl I M (x := A) ⟨by omega, by omega⟩
  have hma := sm_mayAdd H
  by_cases a : 0 ≤ A ∧ A < cl
  · rw [if_pos ⟨a, h2⟩, if_pos h3] at hp
    rw [if_pos a] at hcl
    by_cases b : sz < 40
    · rw [if_pos b] at hp hma
      refine e_ok hp (p_1 H a.1 a.2 h2 h3 b) ?_
      unfold fn_Md_does
      (try simp (disch := omega) only [↓zk_lt, ↓zk_nl, ↓zk_eq, ↓zk_ne, ↓zk_ix, ↓zk_dv, ↓zk_bo, ↓zk_rg, ↓zk_get, ↓zk_set, Option.bind_some])
      rw [hA, hB, hC, zk_bd hcl]
      (try simp (disch := omega) only [↓zk_lt, ↓zk_nl, ↓zk_eq, ↓zk_ne, ↓zk_ix, ↓zk_dv, ↓zk_bo, ↓zk_rg, ↓zk_get, ↓zk_set, Option.bind_some])
      rw [zk_bd hma]
      (try simp (disch := omega) only [↓zk_lt, ↓zk_nl, ↓zk_eq, ↓zk_ne, ↓zk_ix, ↓zk_dv, ↓zk_bo, ↓zk_rg, ↓zk_get, ↓zk_set, Option.bind_some])
    · rw [if_neg b] at hp hma
      refine Or.inl ⟨3, by omega, hp, ?_⟩
      unfold fn_Md_does
      (try simp (disch := omega) only [↓zk_lt, ↓zk_nl, ↓zk_eq, ↓zk_ne, ↓zk_ix, ↓zk_dv, ↓zk_bo, ↓zk_rg, ↓zk_get, ↓zk_set, Option.bind_some])
      rw [hA, zk_bd hcl]
      (try simp (disch := omega) only [↓zk_lt, ↓zk_nl, ↓zk_eq, ↓zk_ne, ↓zk_ix, ↓zk_dv, ↓zk_bo, ↓zk_rg, ↓zk_get, ↓zk_set, Option.bind_some])
      rw [zk_bd hma]
      (try simp (disch := omega) only [↓zk_lt, ↓zk_nl, ↓zk_eq, ↓zk_ne, ↓zk_ix, ↓zk_dv, ↓zk_bo, ↓zk_rg, ↓zk_get, ↓zk_set, Option.bind_some])
  · rw [if_neg (fun z => a z.1)] at hp
    rw [if_neg a] at hcl
    refine Or.inl ⟨1, by omega, hp, ?_⟩
    unfold fn_Md_does
    (try simp (disch := omega) only [↓zk_lt, ↓zk_nl, ↓zk_eq, ↓zk_ne, ↓zk_ix, ↓zk_dv, ↓zk_bo, ↓zk_rg, ↓zk_get, ↓zk_set, Option.bind_some])
    rw [hA, zk_bd hcl]
    (try simp (disch := omega) only [↓zk_lt, ↓zk_nl, ↓zk_eq, ↓zk_ne, ↓zk_ix, ↓zk_dv, ↓zk_bo, ↓zk_rg, ↓zk_get, ↓zk_set, Option.bind_some])
theorem e_2 (H : pC tn cl sz st dp tp va nb w) (hv : 0 ≤ v ∧ v ≤ 29) (ho : od v = 3) (hA : nu (3 * v) = A) (hB : nu (3 * v + 1) = B) (hC : nu (3 * v + 2) = C) (h1 : 0 ≤ A ∧ A ≤ 39) (h2 : 0 ≤ B ∧ B < tn) (h3 : 0 ≤ C ∧ C ≤ 9999) : eStep tn cl sz st dp tp va nb w od nu 2 A B C v := by
  have hf := pC_f H
  have HH := H
  obtain ⟨⟨g, I, M⟩, G⟩ := HH
  have hw1 := M.1
  have hp := pb_2 H (k := A) (t := B) (v := C) ⟨by omega, by omega⟩ ⟨by omega, by omega⟩ ⟨by omega, by omega⟩
  have hco := sm_isCord I M (x := A) ⟨by omega, by omega⟩
  by_cases a : 0 ≤ A ∧ A < sz
  · rw [if_pos ⟨a, h2⟩, if_pos h3] at hp
    rw [if_pos a] at hco
    obtain ⟨y, hy1, hy2⟩ := sm_maySub H a.1 a.2
    rcases hy2 with ⟨rfl, b⟩ | ⟨rfl, b⟩
    · rw [if_pos b] at hp
      refine e_ok hp (p_2 H a.1 a.2 b.1 h2 h3 b.2) ?_
      unfold fn_Md_does
      (try simp (disch := omega) only [↓zk_lt, ↓zk_nl, ↓zk_eq, ↓zk_ne, ↓zk_ix, ↓zk_dv, ↓zk_bo, ↓zk_rg, ↓zk_get, ↓zk_set, Option.bind_some])
      rw [hA, hB, hC, zk_bd hco]
      (try simp (disch := omega) only [↓zk_lt, ↓zk_nl, ↓zk_eq, ↓zk_ne, ↓zk_ix, ↓zk_dv, ↓zk_bo, ↓zk_rg, ↓zk_get, ↓zk_set, Option.bind_some])
      rw [zk_bd hy1]
      (try simp (disch := omega) only [↓zk_lt, ↓zk_nl, ↓zk_eq, ↓zk_ne, ↓zk_ix, ↓zk_dv, ↓zk_bo, ↓zk_rg, ↓zk_get, ↓zk_set, Option.bind_some])
    · rw [if_neg b] at hp
      refine Or.inl ⟨3, by omega, hp, ?_⟩
      unfold fn_Md_does
      (try simp (disch := omega) only [↓zk_lt, ↓zk_nl, ↓zk_eq, ↓zk_ne, ↓zk_ix, ↓zk_dv, ↓zk_bo, ↓zk_rg, ↓zk_get, ↓zk_set, Option.bind_some])
      rw [hA, zk_bd hco]
      (try simp (disch := omega) only [↓zk_lt, ↓zk_nl, ↓zk_eq, ↓zk_ne, ↓zk_ix, ↓zk_dv, ↓zk_bo, ↓zk_rg, ↓zk_get, ↓zk_set, Option.bind_some])
      rw [zk_bd hy1]
      (try simp (disch := omega) only [↓zk_lt, ↓zk_nl, ↓zk_eq, ↓zk_ne, ↓zk_ix, ↓zk_dv, ↓zk_bo, ↓zk_rg, ↓zk_get, ↓zk_set, Option.bind_some])
  · rw [if_neg (fun z => a z.1)] at hp
    rw [if_neg a] at hco
    refine Or.inl ⟨1, by omega, hp, ?_⟩
    unfold fn_Md_does
    (try simp (disch := omega) only [↓zk_lt, ↓zk_nl, ↓zk_eq, ↓zk_ne, ↓zk_ix, ↓zk_dv, ↓zk_bo, ↓zk_rg, ↓zk_get, ↓zk_set, Option.bind_some])
    rw [hA, zk_bd hco]
    (try simp (disch := omega) only [↓zk_lt, ↓zk_nl, ↓zk_eq, ↓zk_ne, ↓zk_ix, ↓zk_dv, ↓zk_bo, ↓zk_rg, ↓zk_get, ↓zk_set, Option.bind_some])
theorem e_3 (H : pC tn cl sz st dp tp va nb w) (hv : 0 ≤ v ∧ v ≤ 29) (ho : od v = 4) (hA : nu (3 * v) = A) (h1 : 0 ≤ A ∧ A ≤ 39) : eStep tn cl sz st dp tp va nb w od nu 3 A B C v := by
  have hf := pC_f H
  have HH := H
  obtain ⟨⟨g, I, M⟩, G⟩ := HH
  have hw1 := M.1
  have hp := pb_3 H (k := A) ⟨by omega, by omega⟩ B C
  have hco := sm_isCord I M (x := A) ⟨by omega, by omega⟩
  by_cases a : 0 ≤ A ∧ A < sz
  · rw [if_pos a] at hp hco
    refine e_ok hp (p_3 H a.1 a.2 B C) ?_
    unfold fn_Md_does
    (try simp (disch := omega) only [↓zk_lt, ↓zk_nl, ↓zk_eq, ↓zk_ne, ↓zk_ix, ↓zk_dv, ↓zk_bo, ↓zk_rg, ↓zk_get, ↓zk_set, Option.bind_some])
    rw [hA, zk_bd hco]
    (try simp (disch := omega) only [↓zk_lt, ↓zk_nl, ↓zk_eq, ↓zk_ne, ↓zk_ix, ↓zk_dv, ↓zk_bo, ↓zk_rg, ↓zk_get, ↓zk_set, Option.bind_some])
  · rw [if_neg a] at hp hco
    refine Or.inl ⟨1, by omega, hp, ?_⟩
    unfold fn_Md_does
    (try simp (disch := omega) only [↓zk_lt, ↓zk_nl, ↓zk_eq, ↓zk_ne, ↓zk_ix, ↓zk_dv, ↓zk_bo, ↓zk_rg, ↓zk_get, ↓zk_set, Option.bind_some])
    rw [hA, zk_bd hco]
    (try simp (disch := omega) only [↓zk_lt, ↓zk_nl, ↓zk_eq, ↓zk_ne, ↓zk_ix, ↓zk_dv, ↓zk_bo, ↓zk_rg, ↓zk_get, ↓zk_set, Option.bind_some])
theorem e_4 (H : pC tn cl sz st dp tp va nb w) (hv : 0 ≤ v ∧ v ≤ 29) (ho : od v = 5) (hA : nu (3 * v) = A) (hB : nu (3 * v + 1) = B) (h1 : 0 ≤ A ∧ A ≤ 5) (h2 : 0 ≤ B ∧ B < tn) : eStep tn cl sz st dp tp va nb w od nu 4 A B C v := by
  have hf := pC_f H
  have HH := H
  obtain ⟨⟨g, I, M⟩, G⟩ := HH
  have hw1 := M.1
  obtain ⟨p, hp, hpc⟩ := pb_4 H (c := A) (t := B) ⟨by omega, by omega⟩ ⟨by omega, by omega⟩ C
  have hcl := sm_isCl I M (x := A) ⟨by omega, by omega⟩
  by_cases a : 0 ≤ A ∧ A < cl
  · rw [if_pos a] at hcl
    obtain ⟨y, hy1, hy2⟩ := sm_mayTie H a.1 a.2
    rcases hpc with ⟨-, z⟩ | ⟨-, ⟨rfl, z⟩ | ⟨rfl, z⟩⟩
    · exact absurd ⟨a, h2⟩ z
    · rcases hy2 with ⟨rfl, -⟩ | ⟨-, f⟩
      · have u := z
        unfold ktie at u
        refine e_ok hp (p_4 H a.1 a.2 h2 u.1 u.2.1 u.2.2.2.2 u.2.2.1 C) ?_
        unfold fn_Md_does
        (try simp (disch := omega) only [↓zk_lt, ↓zk_nl, ↓zk_eq, ↓zk_ne, ↓zk_ix, ↓zk_dv, ↓zk_bo, ↓zk_rg, ↓zk_get, ↓zk_set, Option.bind_some])
        rw [hA, hB, zk_bd hcl]
        (try simp (disch := omega) only [↓zk_lt, ↓zk_nl, ↓zk_eq, ↓zk_ne, ↓zk_ix, ↓zk_dv, ↓zk_bo, ↓zk_rg, ↓zk_get, ↓zk_set, Option.bind_some])
        rw [zk_bd hy1]
        (try simp (disch := omega) only [↓zk_lt, ↓zk_nl, ↓zk_eq, ↓zk_ne, ↓zk_ix, ↓zk_dv, ↓zk_bo, ↓zk_rg, ↓zk_get, ↓zk_set, Option.bind_some])
      · exact absurd z f
    · rcases hy2 with ⟨-, f⟩ | ⟨rfl, -⟩
      · exact absurd f z
      · refine Or.inl ⟨3, by omega, hp, ?_⟩
        unfold fn_Md_does
        (try simp (disch := omega) only [↓zk_lt, ↓zk_nl, ↓zk_eq, ↓zk_ne, ↓zk_ix, ↓zk_dv, ↓zk_bo, ↓zk_rg, ↓zk_get, ↓zk_set, Option.bind_some])
        rw [hA, zk_bd hcl]
        (try simp (disch := omega) only [↓zk_lt, ↓zk_nl, ↓zk_eq, ↓zk_ne, ↓zk_ix, ↓zk_dv, ↓zk_bo, ↓zk_rg, ↓zk_get, ↓zk_set, Option.bind_some])
        rw [zk_bd hy1]
        (try simp (disch := omega) only [↓zk_lt, ↓zk_nl, ↓zk_eq, ↓zk_ne, ↓zk_ix, ↓zk_dv, ↓zk_bo, ↓zk_rg, ↓zk_get, ↓zk_set, Option.bind_some])
  · rw [if_neg a] at hcl
    rcases hpc with ⟨rfl, z⟩ | ⟨z, -⟩
    · refine Or.inl ⟨1, by omega, hp, ?_⟩
      unfold fn_Md_does
      (try simp (disch := omega) only [↓zk_lt, ↓zk_nl, ↓zk_eq, ↓zk_ne, ↓zk_ix, ↓zk_dv, ↓zk_bo, ↓zk_rg, ↓zk_get, ↓zk_set, Option.bind_some])
      rw [hA, zk_bd hcl]
      (try simp (disch := omega) only [↓zk_lt, ↓zk_nl, ↓zk_eq, ↓zk_ne, ↓zk_ix, ↓zk_dv, ↓zk_bo, ↓zk_rg, ↓zk_get, ↓zk_set, Option.bind_some])
    · exact absurd z.1 a
theorem e_5 (H : pC tn cl sz st dp tp va nb w) (hv : 0 ≤ v ∧ v ≤ 29) (ho : od v = 6) (hA : nu (3 * v) = A) (hB : nu (3 * v + 1) = B) (hC : nu (3 * v + 2) = C) (h1 : 0 ≤ A ∧ A ≤ 39) (h2 : 0 ≤ B ∧ B ≤ 3) (h3 : 0 ≤ C ∧ C ≤ 9) : eStep tn cl sz st dp tp va nb w od nu 5 A B C v := by
  have hf := pC_f H
  have HH := H
  obtain ⟨⟨g, I, M⟩, G⟩ := HH
  have hw1 := M.1
  have hp := pb_5 H (k := A) (y := B) (x := C) ⟨by omega, by omega⟩ ⟨by omega, by omega⟩ ⟨by omega, by omega⟩
  have hco := sm_isCord I M (x := A) ⟨by omega, by omega⟩
  by_cases a : 0 ≤ A ∧ A < sz
  · rw [if_pos a, if_pos ⟨h2, h3⟩] at hp
    rw [if_pos a] at hco
    have hnb := (I.2.2 A a.1 a.2).2.2.2.2.1
    have hof := sm_of (w := w) (k := A) (x := 4) a.1 (by omega) (by omega) (by omega)
    rw [(M.2.2 A a.1 a.2).2.2.2.2] at hof
    by_cases b : nb A ≤ B
    · rw [if_pos b] at hp
      refine e_ok hp (p_5 H a.1 a.2 h2 h3 b) ?_
      unfold fn_Md_does
      (try simp (disch := omega) only [↓zk_lt, ↓zk_nl, ↓zk_eq, ↓zk_ne, ↓zk_ix, ↓zk_dv, ↓zk_bo, ↓zk_rg, ↓zk_get, ↓zk_set, Option.bind_some])
      rw [hA, hB, hC, zk_bd hco]
      (try simp (disch := omega) only [↓zk_lt, ↓zk_nl, ↓zk_eq, ↓zk_ne, ↓zk_ix, ↓zk_dv, ↓zk_bo, ↓zk_rg, ↓zk_get, ↓zk_set, Option.bind_some])
      rw [zk_bd hof]
      (try simp (disch := omega) only [↓zk_lt, ↓zk_nl, ↓zk_eq, ↓zk_ne, ↓zk_ix, ↓zk_dv, ↓zk_bo, ↓zk_rg, ↓zk_get, ↓zk_set, Option.bind_some])
    · rw [if_neg b] at hp
      refine Or.inl ⟨3, by omega, hp, ?_⟩
      unfold fn_Md_does
      (try simp (disch := omega) only [↓zk_lt, ↓zk_nl, ↓zk_eq, ↓zk_ne, ↓zk_ix, ↓zk_dv, ↓zk_bo, ↓zk_rg, ↓zk_get, ↓zk_set, Option.bind_some])
      rw [hA, hB, zk_bd hco]
      (try simp (disch := omega) only [↓zk_lt, ↓zk_nl, ↓zk_eq, ↓zk_ne, ↓zk_ix, ↓zk_dv, ↓zk_bo, ↓zk_rg, ↓zk_get, ↓zk_set, Option.bind_some])
      rw [zk_bd hof]
      (try simp (disch := omega) only [↓zk_lt, ↓zk_nl, ↓zk_eq, ↓zk_ne, ↓zk_ix, ↓zk_dv, ↓zk_bo, ↓zk_rg, ↓zk_get, ↓zk_set, Option.bind_some])
  · rw [if_neg a] at hp hco
    refine Or.inl ⟨1, by omega, hp, ?_⟩
    unfold fn_Md_does
    (try simp (disch := omega) only [↓zk_lt, ↓zk_nl, ↓zk_eq, ↓zk_ne, ↓zk_ix, ↓zk_dv, ↓zk_bo, ↓zk_rg, ↓zk_get, ↓zk_set, Option.bind_some])
    rw [hA, zk_bd hco]
    (try simp (disch := omega) only [↓zk_lt, ↓zk_nl, ↓zk_eq, ↓zk_ne, ↓zk_ix, ↓zk_dv, ↓zk_bo, ↓zk_rg, ↓zk_get, ↓zk_set, Option.bind_some])
theorem e_6 (H : pC tn cl sz st dp tp va nb w) (hv : 0 ≤ v ∧ v ≤ 29) (ho : od v = 7) (hA : nu (3 * v) = A) (hB : nu (3 * v + 1) = B) (h1 : 0 ≤ A ∧ A ≤ 39) (h2 : 1 ≤ B ∧ B ≤ 4) : eStep tn cl sz st dp tp va nb w od nu 6 A B C v := by
  have hf := pC_f H
  have HH := H
  obtain ⟨⟨g, I, M⟩, G⟩ := HH
  have hw1 := M.1
  have hp := pb_6 H (k := A) (y := B) ⟨by omega, by omega⟩ ⟨by omega, by omega⟩ C
  have hco := sm_isCord I M (x := A) ⟨by omega, by omega⟩
  by_cases a : 0 ≤ A ∧ A < sz
  · rw [if_pos a, if_pos h2] at hp
    rw [if_pos a] at hco
    have hnb := (I.2.2 A a.1 a.2).2.2.2.2.1
    have hof := sm_of (w := w) (k := A) (x := 4) a.1 (by omega) (by omega) (by omega)
    rw [(M.2.2 A a.1 a.2).2.2.2.2] at hof
    by_cases b : nb A ≤ B
    · rw [if_pos b] at hp
      refine e_ok hp (p_6 H a.1 a.2 h2 b C) ?_
      unfold fn_Md_does
      (try simp (disch := omega) only [↓zk_lt, ↓zk_nl, ↓zk_eq, ↓zk_ne, ↓zk_ix, ↓zk_dv, ↓zk_bo, ↓zk_rg, ↓zk_get, ↓zk_set, Option.bind_some])
      rw [hA, hB, zk_bd hco]
      (try simp (disch := omega) only [↓zk_lt, ↓zk_nl, ↓zk_eq, ↓zk_ne, ↓zk_ix, ↓zk_dv, ↓zk_bo, ↓zk_rg, ↓zk_get, ↓zk_set, Option.bind_some])
      rw [zk_bd hof]
      (try simp (disch := omega) only [↓zk_lt, ↓zk_nl, ↓zk_eq, ↓zk_ne, ↓zk_ix, ↓zk_dv, ↓zk_bo, ↓zk_rg, ↓zk_get, ↓zk_set, Option.bind_some])
    · rw [if_neg b] at hp
      refine Or.inl ⟨3, by omega, hp, ?_⟩
      unfold fn_Md_does
      (try simp (disch := omega) only [↓zk_lt, ↓zk_nl, ↓zk_eq, ↓zk_ne, ↓zk_ix, ↓zk_dv, ↓zk_bo, ↓zk_rg, ↓zk_get, ↓zk_set, Option.bind_some])
      rw [hA, hB, zk_bd hco]
      (try simp (disch := omega) only [↓zk_lt, ↓zk_nl, ↓zk_eq, ↓zk_ne, ↓zk_ix, ↓zk_dv, ↓zk_bo, ↓zk_rg, ↓zk_get, ↓zk_set, Option.bind_some])
      rw [zk_bd hof]
      (try simp (disch := omega) only [↓zk_lt, ↓zk_nl, ↓zk_eq, ↓zk_ne, ↓zk_ix, ↓zk_dv, ↓zk_bo, ↓zk_rg, ↓zk_get, ↓zk_set, Option.bind_some])
  · rw [if_neg a] at hp hco
    refine Or.inl ⟨1, by omega, hp, ?_⟩
    unfold fn_Md_does
    (try simp (disch := omega) only [↓zk_lt, ↓zk_nl, ↓zk_eq, ↓zk_ne, ↓zk_ix, ↓zk_dv, ↓zk_bo, ↓zk_rg, ↓zk_get, ↓zk_set, Option.bind_some])
    rw [hA, zk_bd hco]
    (try simp (disch := omega) only [↓zk_lt, ↓zk_nl, ↓zk_eq, ↓zk_ne, ↓zk_ix, ↓zk_dv, ↓zk_bo, ↓zk_rg, ↓zk_get, ↓zk_set, Option.bind_some])
theorem e_7 (H : pC tn cl sz st dp tp va nb w) (hv : 0 ≤ v ∧ v ≤ 29) (ho : od v = 8) (hA : nu (3 * v) = A) (hB : nu (3 * v + 1) = B) (h1 : 0 ≤ A ∧ A ≤ 39) (h2 : 0 ≤ B ∧ B < tn) : eStep tn cl sz st dp tp va nb w od nu 7 A B C v := by
  have hf := pC_f H
  have HH := H
  obtain ⟨⟨g, I, M⟩, G⟩ := HH
  have hw1 := M.1
  have hp := pb_7 H (k := A) (t := B) ⟨by omega, by omega⟩ ⟨by omega, by omega⟩ C
  have hco := sm_isCord I M (x := A) ⟨by omega, by omega⟩
  by_cases a : 0 ≤ A ∧ A < sz
  · rw [if_pos ⟨a, h2⟩] at hp
    rw [if_pos a] at hco
    refine e_ok hp (p_7 H a.1 a.2 h2 C) ?_
    unfold fn_Md_does
    (try simp (disch := omega) only [↓zk_lt, ↓zk_nl, ↓zk_eq, ↓zk_ne, ↓zk_ix, ↓zk_dv, ↓zk_bo, ↓zk_rg, ↓zk_get, ↓zk_set, Option.bind_some])
    rw [hA, hB, zk_bd hco]
    (try simp (disch := omega) only [↓zk_lt, ↓zk_nl, ↓zk_eq, ↓zk_ne, ↓zk_ix, ↓zk_dv, ↓zk_bo, ↓zk_rg, ↓zk_get, ↓zk_set, Option.bind_some])
  · rw [if_neg (fun z => a z.1)] at hp
    rw [if_neg a] at hco
    refine Or.inl ⟨1, by omega, hp, ?_⟩
    unfold fn_Md_does
    (try simp (disch := omega) only [↓zk_lt, ↓zk_nl, ↓zk_eq, ↓zk_ne, ↓zk_ix, ↓zk_dv, ↓zk_bo, ↓zk_rg, ↓zk_get, ↓zk_set, Option.bind_some])
    rw [hA, zk_bd hco]
    (try simp (disch := omega) only [↓zk_lt, ↓zk_nl, ↓zk_eq, ↓zk_ne, ↓zk_ix, ↓zk_dv, ↓zk_bo, ↓zk_rg, ↓zk_get, ↓zk_set, Option.bind_some])
theorem e_8 (H : pC tn cl sz st dp tp va nb w) (hv : 0 ≤ v ∧ v ≤ 29) (ho : od v = 9) (hA : nu (3 * v) = A) (h1 : 0 ≤ A ∧ A ≤ 5) : eStep tn cl sz st dp tp va nb w od nu 8 A B C v := by
  have hf := pC_f H
  have HH := H
  obtain ⟨⟨g, I, M⟩, G⟩ := HH
  have hw1 := M.1
  have hp := pb_8 H (c := A) ⟨by omega, by omega⟩ B C
  have hr := kob_r (st := st) (dp := dp) (va := va) (nb := nb) (c := A)
  have hcl := sm_isCl I M (x := A) ⟨by omega, by omega⟩
  by_cases a : 0 ≤ A ∧ A < cl
  · rw [if_pos a] at hp hcl
    by_cases b : kob st dp va nb A = 0
    · rw [if_pos b] at hp
      refine e_ok hp (p_8 H a.1 a.2 b B C) ?_
      unfold fn_Md_does
      (try simp (disch := omega) only [↓zk_lt, ↓zk_nl, ↓zk_eq, ↓zk_ne, ↓zk_ix, ↓zk_dv, ↓zk_bo, ↓zk_rg, ↓zk_get, ↓zk_set, Option.bind_some])
      rw [hA, zk_bd hcl]
      (try simp (disch := omega) only [↓zk_lt, ↓zk_nl, ↓zk_eq, ↓zk_ne, ↓zk_ix, ↓zk_dv, ↓zk_bo, ↓zk_rg, ↓zk_get, ↓zk_set, Option.bind_some])
      rw [zk_bd (sm_ob I M a.1 a.2)]
      (try simp (disch := omega) only [↓zk_lt, ↓zk_nl, ↓zk_eq, ↓zk_ne, ↓zk_ix, ↓zk_dv, ↓zk_bo, ↓zk_rg, ↓zk_get, ↓zk_set, Option.bind_some])
    · rw [if_neg b] at hp
      refine Or.inl ⟨3, by omega, hp, ?_⟩
      unfold fn_Md_does
      (try simp (disch := omega) only [↓zk_lt, ↓zk_nl, ↓zk_eq, ↓zk_ne, ↓zk_ix, ↓zk_dv, ↓zk_bo, ↓zk_rg, ↓zk_get, ↓zk_set, Option.bind_some])
      rw [hA, zk_bd hcl]
      (try simp (disch := omega) only [↓zk_lt, ↓zk_nl, ↓zk_eq, ↓zk_ne, ↓zk_ix, ↓zk_dv, ↓zk_bo, ↓zk_rg, ↓zk_get, ↓zk_set, Option.bind_some])
      rw [zk_bd (sm_ob I M a.1 a.2)]
      (try simp (disch := omega) only [↓zk_lt, ↓zk_nl, ↓zk_eq, ↓zk_ne, ↓zk_ix, ↓zk_dv, ↓zk_bo, ↓zk_rg, ↓zk_get, ↓zk_set, Option.bind_some])
  · rw [if_neg a] at hp hcl
    refine Or.inl ⟨1, by omega, hp, ?_⟩
    unfold fn_Md_does
    (try simp (disch := omega) only [↓zk_lt, ↓zk_nl, ↓zk_eq, ↓zk_ne, ↓zk_ix, ↓zk_dv, ↓zk_bo, ↓zk_rg, ↓zk_get, ↓zk_set, Option.bind_some])
    rw [hA, zk_bd hcl]
    (try simp (disch := omega) only [↓zk_lt, ↓zk_nl, ↓zk_eq, ↓zk_ne, ↓zk_ix, ↓zk_dv, ↓zk_bo, ↓zk_rg, ↓zk_get, ↓zk_set, Option.bind_some])
theorem e_all {K : Int} (H : pC tn cl sz st dp tp va nb w) (hv : 0 ≤ v ∧ v ≤ 29) (S : pSt tn K A B C (od v) (nu (3 * v)) (nu (3 * v + 1)) (nu (3 * v + 2))) : (0 ≤ K ∧ K ≤ 8) ∧ eStep tn cl sz st dp tp va nb w od nu K A B C v := by
  unfold pSt at S
  rcases S with ⟨rfl, h⟩ | ⟨rfl, h, a1, a2, b1, b2, c1, c2⟩ | ⟨rfl, h, a1, a2, b1, b2, c1, c2⟩ | ⟨rfl, h, a1, a2⟩ | ⟨rfl, h, a1, a2, b1, b2⟩ | ⟨rfl, h, a1, a2, b1, b2, c1, c2⟩ | ⟨rfl, h, a1, a2, b1, b2⟩ | ⟨rfl, h, a1, a2, b1, b2⟩ | ⟨rfl, h, a1, a2⟩
  · exact ⟨by omega, e_0 H hv h⟩
  · exact ⟨by omega, e_1 H hv h a1 b1 c1 a2 b2 c2⟩
  · exact ⟨by omega, e_2 H hv h a1 b1 c1 a2 b2 c2⟩
  · exact ⟨by omega, e_3 H hv h a1 a2⟩
  · exact ⟨by omega, e_4 H hv h a1 b1 a2 b2⟩
  · exact ⟨by omega, e_5 H hv h a1 b1 c1 a2 b2 c2⟩
  · exact ⟨by omega, e_6 H hv h a1 b1 a2 b2⟩
  · exact ⟨by omega, e_7 H hv h a1 b1 a2 b2⟩
  · exact ⟨by omega, e_8 H hv h a1 a2⟩
end PV1
