theorem jk_R1 : jk_R 1 := ⟨by decide, by decide⟩

set_option maxHeartbeats 4000000 in
set_option maxRecDepth 20000 in
theorem oc_41 {p : Program} {l : Launch} {e : Env} {s : State} {m : MethodId} {args : Array Value} {below : List Frame} {meth : Method} {c : Code} {cells slots : Nat} {Q : State → Prop} {D : va_G} {A : Nat → Prop} {ret : Option FieldType} {Z : (Nat → Prop) → State → Heap → Prop} {sq : Nat → Nat} {cI cR cL : ClassId} {g : Nat → Option Nat} {ad am : Nat → Nat} {b o L : Nat} {xs : Nat → Int32} {i : Int} (C : jk_C p s m args meth c mb_Law_law "KnotReaderLaw" 9 jk_WA D jk_cl (jk_t3 cI cR cL) A ret) (hZ : jk_ZK Z sq) (hz : Z A s s.heap) (hcs : cells + 20 ≤ room_1.cells ∧ slots + 120 ≤ room_1.slots) (hX : va_X b L xs s s.heap) (hbl : b < s.heap.size) (hbA : ¬ A b) (hL : L ≤ 3072) (hi : 0 ≤ i ∧ i + 6 ≤ (L : Int)) (hl : l.stackTraces = false) (hNC : ∀ (A : Nat → Prop) (U : State) (H : Heap), Z A U H → ∀ x ∈ jk_ncs, va_Nc (jk_exc x.1) (jk_exc x.2) U) (hg : ∀ j, j < 8 → g j = some (ad (48 + 11 * j))) {σ : jk_LS} {f : Nat → Int64} (hR : Rel σ) (kk : ∀ (σ' : jk_LS) (f' : Nat → Int64), Rel σ' → jk_J p l e room_1 s m args below meth c (cells + 20) (slots + 120) Q D jk_cl A 9 (LW cI cR g ad am σ' ++ [(o, .inl (cL, 1, .inr (.inl f')))]) [(0, .ref b), (1, .ref (ad 0)), (2, .ref (am 0)), (3, .ref o), (4, jk_V i)] 2784 []) : jk_J p l e room_1 s m args below meth c (cells) (slots) Q D jk_cl A 9 (LW cI cR g ad am σ ++ [(o, .inl (cL, 1, .inr (.inl f)))]) [(0, .ref b), (1, .ref (ad 0)), (2, .ref (am 0)), (3, .ref o), (4, jk_V i)] 2002 [] := by
  obtain ⟨⟨hB, h24⟩, ⟨hN, hC⟩, ⟨hH, h21⟩, ⟨hSv, h22⟩, hDr, ⟨hO, h35⟩, h25, h26⟩ := id hR
  have he := hH.1
  obtain ⟨qa, bb, w', past', pm', tt, e1, e2, e3⟩ := q_addCluster (th := σ.S 23) hC hH hN.1 
  cases qa with
  | inl k' =>
    obtain ⟨⟨j, j1, j2⟩, ha, hb, hc⟩ := e3
    subst ha; subst hb; subst hc
    have hM := cl_KR_addCluster l D Z sq hZ hl cI cR g ad am σ hg ((σ.S 18 + 1) % 8) (by omega) rfl (.inl k') e1
    have ho : jk_oc [3] (.inl k') (LW cI cR g ad am σ) (LW cI cR g ad am σ) tt bb := ⟨j, j1, j2, rfl⟩
    exact lc_41 C hZ hz hcs hX hbl hbA hL hi (tR j1 j2 (by decide)) (jk_oz0 ho f) (wr_addCluster l D Z sq hZ hNC cI cR cL LW_len LW_x o f (.inl k') hM ho rfl) (cl_Md_addCluster l D Z sq hZ cI cR g ad am _  (bb, σ.T 23, σ.T 26, σ.S 19, tt) (show fn_Md_addCluster (σ.T 23) (σ.T 26) (σ.S 21) (σ.S 23) = some _ from by rw [h21]; exact e2)) (cl_Md_thrown l D Z sq hZ cI cR g ad am _ tt rfl) (kk _ _ ⟨⟨hB, h24⟩, ⟨hN, hC⟩, ⟨hH, rfl⟩, ⟨hSv, h22⟩, hDr, ⟨hO, h35⟩, h25, h26⟩)
  | inr z =>
    obtain ⟨r, c1, z1, s1, d1, t1, v1, n1, l', n', c2, z2, s2, d2, t2, v2, n2⟩ := z
    obtain ⟨ht, hrb, e4, e5, e6, hl', hpm, e7⟩ := e3
    subst ht; subst hrb; subst hl'; subst hpm
    have hM := cl_KR_addCluster l D Z sq hZ hl cI cR g ad am σ hg ((σ.S 18 + 1) % 8) (by omega) rfl (.inr (r, c1, z1, s1, d1, t1, v1, n1, (σ.S 18 + 1) % 8, pm', c2, z2, s2, d2, t2, v2, n2)) e1
    have hA := wr_addCluster l D Z sq hZ hNC cI cR cL LW_len LW_x o f _ hM (t := 0) (b := r) ⟨rfl, rfl, rfl⟩ rfl
    exact lc_41 C hZ hz hcs hX hbl hbA hL hi jk_R0 (by exact fun _ => rfl) hA (cl_Md_addCluster l D Z sq hZ cI cR g ad am _  (r, w', past', pm', 0) (show fn_Md_addCluster (σ.T 23) (σ.T 26) (σ.S 21) (σ.S 23) = some _ from by rw [h21]; exact e2)) (cl_Md_thrown l D Z sq hZ cI cR g ad am _ 0 rfl) (kk _ _ ⟨⟨hB, h24⟩, ⟨pN_U hN (pC_f hC).2.2.2 e6, e5⟩, ⟨e7, rfl⟩, ⟨sv_U hSv e6, h22⟩, hDr, ⟨hO, h35⟩, h25, h26⟩)

set_option maxHeartbeats 4000000 in
set_option maxRecDepth 20000 in
theorem oc_42 {p : Program} {l : Launch} {e : Env} {s : State} {m : MethodId} {args : Array Value} {below : List Frame} {meth : Method} {c : Code} {cells slots : Nat} {Q : State → Prop} {D : va_G} {A : Nat → Prop} {ret : Option FieldType} {Z : (Nat → Prop) → State → Heap → Prop} {sq : Nat → Nat} {cI cR cL : ClassId} {g : Nat → Option Nat} {ad am : Nat → Nat} {b o L : Nat} {xs : Nat → Int32} {i : Int} (C : jk_C p s m args meth c mb_Law_law "KnotReaderLaw" 9 jk_WA D jk_cl (jk_t3 cI cR cL) A ret) (hZ : jk_ZK Z sq) (hz : Z A s s.heap) (hcs : cells + 20 ≤ room_1.cells ∧ slots + 120 ≤ room_1.slots) (hX : va_X b L xs s s.heap) (hbl : b < s.heap.size) (hbA : ¬ A b) (hL : L ≤ 3072) (hi : 0 ≤ i ∧ i + 6 ≤ (L : Int)) (hl : l.stackTraces = false) (hNC : ∀ (A : Nat → Prop) (U : State) (H : Heap), Z A U H → ∀ x ∈ jk_ncs, va_Nc (jk_exc x.1) (jk_exc x.2) U) (hg : ∀ j, j < 8 → g j = some (ad (48 + 11 * j))) {σ : jk_LS} {f : Nat → Int64} (hR : Rel σ) (kk : ∀ (σ' : jk_LS) (f' : Nat → Int64), Rel σ' → jk_J p l e room_1 s m args below meth c (cells + 20) (slots + 120) Q D jk_cl A 9 (LW cI cR g ad am σ' ++ [(o, .inl (cL, 1, .inr (.inl f')))]) [(0, .ref b), (1, .ref (ad 0)), (2, .ref (am 0)), (3, .ref o), (4, jk_V i)] 2784 []) : jk_J p l e room_1 s m args below meth c (cells) (slots) Q D jk_cl A 9 (LW cI cR g ad am σ ++ [(o, .inl (cL, 1, .inr (.inl f)))]) [(0, .ref b), (1, .ref (ad 0)), (2, .ref (am 0)), (3, .ref o), (4, jk_V i)] 2046 [] := by
  obtain ⟨⟨hB, h24⟩, ⟨hN, hC⟩, ⟨hH, h21⟩, ⟨hSv, h22⟩, hDr, ⟨hO, h35⟩, h25, h26⟩ := id hR
  have he := hH.1
  obtain ⟨qa, bb, w', past', pm', tt, e1, e2, e3⟩ := q_addPendant (th := σ.S 23) hC hH hN.1 (jk_Rof (xs (i + 1).toNat)) (jk_Rof (xs (i + 2).toNat)) (jk_Rof (xs (i + 3).toNat))
  cases qa with
  | inl k' =>
    obtain ⟨⟨j, j1, j2⟩, ha, hb, hc⟩ := e3
    subst ha; subst hb; subst hc
    have hM := cl_KR_addPendant l D Z sq hZ hl cI cR g ad am σ hg ((σ.S 18 + 1) % 8) (by omega) rfl ((xs (i + 1).toNat).toInt) ((xs (i + 2).toNat).toInt) ((xs (i + 3).toNat).toInt) (.inl k') e1
    have ho : jk_oc [1, 2, 3] (.inl k') (LW cI cR g ad am σ) (LW cI cR g ad am σ) tt bb := ⟨j, j1, j2, rfl⟩
    exact lc_42 C hZ hz hcs hX hbl hbA hL hi (tR j1 j2 (by decide)) (jk_oz0 ho f) (wr_addPendant l D Z sq hZ hNC cI cR cL LW_len LW_x o f ((xs (i + 1).toNat).toInt) ((xs (i + 2).toNat).toInt) ((xs (i + 3).toNat).toInt) (.inl k') hM ho rfl) (cl_Md_addPendant l D Z sq hZ cI cR g ad am _ ((xs (i + 1).toNat).toInt) ((xs (i + 2).toNat).toInt) ((xs (i + 3).toNat).toInt) (bb, σ.T 23, σ.T 26, σ.S 19, tt) (show fn_Md_addPendant (σ.T 23) (σ.T 26) (σ.S 21) (σ.S 23) ((xs (i + 1).toNat).toInt) ((xs (i + 2).toNat).toInt) ((xs (i + 3).toNat).toInt) = some _ from by rw [h21]; exact e2)) (cl_Md_thrown l D Z sq hZ cI cR g ad am _ tt rfl) (kk _ _ ⟨⟨hB, h24⟩, ⟨hN, hC⟩, ⟨hH, rfl⟩, ⟨hSv, h22⟩, hDr, ⟨hO, h35⟩, h25, h26⟩)
  | inr z =>
    obtain ⟨r, c1, z1, s1, d1, t1, v1, n1, l', n', c2, z2, s2, d2, t2, v2, n2⟩ := z
    obtain ⟨ht, hrb, e4, e5, e6, hl', hpm, e7⟩ := e3
    subst ht; subst hrb; subst hl'; subst hpm
    have hM := cl_KR_addPendant l D Z sq hZ hl cI cR g ad am σ hg ((σ.S 18 + 1) % 8) (by omega) rfl ((xs (i + 1).toNat).toInt) ((xs (i + 2).toNat).toInt) ((xs (i + 3).toNat).toInt) (.inr (r, c1, z1, s1, d1, t1, v1, n1, (σ.S 18 + 1) % 8, pm', c2, z2, s2, d2, t2, v2, n2)) e1
    have hA := wr_addPendant l D Z sq hZ hNC cI cR cL LW_len LW_x o f ((xs (i + 1).toNat).toInt) ((xs (i + 2).toNat).toInt) ((xs (i + 3).toNat).toInt) _ hM (t := 0) (b := r) ⟨rfl, rfl, rfl⟩ rfl
    exact lc_42 C hZ hz hcs hX hbl hbA hL hi jk_R0 (by exact fun _ => rfl) hA (cl_Md_addPendant l D Z sq hZ cI cR g ad am _ ((xs (i + 1).toNat).toInt) ((xs (i + 2).toNat).toInt) ((xs (i + 3).toNat).toInt) (r, w', past', pm', 0) (show fn_Md_addPendant (σ.T 23) (σ.T 26) (σ.S 21) (σ.S 23) ((xs (i + 1).toNat).toInt) ((xs (i + 2).toNat).toInt) ((xs (i + 3).toNat).toInt) = some _ from by rw [h21]; exact e2)) (cl_Md_thrown l D Z sq hZ cI cR g ad am _ 0 rfl) (kk _ _ ⟨⟨hB, h24⟩, ⟨pN_U hN (pC_f hC).2.2.2 e6, e5⟩, ⟨e7, rfl⟩, ⟨sv_U hSv e6, h22⟩, hDr, ⟨hO, h35⟩, h25, h26⟩)

set_option maxHeartbeats 4000000 in
set_option maxRecDepth 20000 in
theorem oc_43 {p : Program} {l : Launch} {e : Env} {s : State} {m : MethodId} {args : Array Value} {below : List Frame} {meth : Method} {c : Code} {cells slots : Nat} {Q : State → Prop} {D : va_G} {A : Nat → Prop} {ret : Option FieldType} {Z : (Nat → Prop) → State → Heap → Prop} {sq : Nat → Nat} {cI cR cL : ClassId} {g : Nat → Option Nat} {ad am : Nat → Nat} {b o L : Nat} {xs : Nat → Int32} {i : Int} (C : jk_C p s m args meth c mb_Law_law "KnotReaderLaw" 9 jk_WA D jk_cl (jk_t3 cI cR cL) A ret) (hZ : jk_ZK Z sq) (hz : Z A s s.heap) (hcs : cells + 20 ≤ room_1.cells ∧ slots + 120 ≤ room_1.slots) (hX : va_X b L xs s s.heap) (hbl : b < s.heap.size) (hbA : ¬ A b) (hL : L ≤ 3072) (hi : 0 ≤ i ∧ i + 6 ≤ (L : Int)) (hl : l.stackTraces = false) (hNC : ∀ (A : Nat → Prop) (U : State) (H : Heap), Z A U H → ∀ x ∈ jk_ncs, va_Nc (jk_exc x.1) (jk_exc x.2) U) (hg : ∀ j, j < 8 → g j = some (ad (48 + 11 * j))) {σ : jk_LS} {f : Nat → Int64} (hR : Rel σ) (kk : ∀ (σ' : jk_LS) (f' : Nat → Int64), Rel σ' → jk_J p l e room_1 s m args below meth c (cells + 20) (slots + 120) Q D jk_cl A 9 (LW cI cR g ad am σ' ++ [(o, .inl (cL, 1, .inr (.inl f')))]) [(0, .ref b), (1, .ref (ad 0)), (2, .ref (am 0)), (3, .ref o), (4, jk_V i)] 2784 []) : jk_J p l e room_1 s m args below meth c (cells) (slots) Q D jk_cl A 9 (LW cI cR g ad am σ ++ [(o, .inl (cL, 1, .inr (.inl f)))]) [(0, .ref b), (1, .ref (ad 0)), (2, .ref (am 0)), (3, .ref o), (4, jk_V i)] 2126 [] := by
  obtain ⟨⟨hB, h24⟩, ⟨hN, hC⟩, ⟨hH, h21⟩, ⟨hSv, h22⟩, hDr, ⟨hO, h35⟩, h25, h26⟩ := id hR
  have he := hH.1
  obtain ⟨qa, bb, w', past', pm', tt, e1, e2, e3⟩ := q_addSubsidiary (th := σ.S 23) hC hH hN.1 (jk_Rof (xs (i + 1).toNat)) (jk_Rof (xs (i + 2).toNat)) (jk_Rof (xs (i + 3).toNat))
  cases qa with
  | inl k' =>
    obtain ⟨⟨j, j1, j2⟩, ha, hb, hc⟩ := e3
    subst ha; subst hb; subst hc
    have hM := cl_KR_addSubsidiary l D Z sq hZ hl cI cR g ad am σ hg ((σ.S 18 + 1) % 8) (by omega) rfl ((xs (i + 1).toNat).toInt) ((xs (i + 2).toNat).toInt) ((xs (i + 3).toNat).toInt) (.inl k') e1
    have ho : jk_oc [1, 2, 3] (.inl k') (LW cI cR g ad am σ) (LW cI cR g ad am σ) tt bb := ⟨j, j1, j2, rfl⟩
    exact lc_43 C hZ hz hcs hX hbl hbA hL hi (tR j1 j2 (by decide)) (jk_oz0 ho f) (wr_addSubsidiary l D Z sq hZ hNC cI cR cL LW_len LW_x o f ((xs (i + 1).toNat).toInt) ((xs (i + 2).toNat).toInt) ((xs (i + 3).toNat).toInt) (.inl k') hM ho rfl) (cl_Md_addSubsidiary l D Z sq hZ cI cR g ad am _ ((xs (i + 1).toNat).toInt) ((xs (i + 2).toNat).toInt) ((xs (i + 3).toNat).toInt) (bb, σ.T 23, σ.T 26, σ.S 19, tt) (show fn_Md_addSubsidiary (σ.T 23) (σ.T 26) (σ.S 21) (σ.S 23) ((xs (i + 1).toNat).toInt) ((xs (i + 2).toNat).toInt) ((xs (i + 3).toNat).toInt) = some _ from by rw [h21]; exact e2)) (cl_Md_thrown l D Z sq hZ cI cR g ad am _ tt rfl) (kk _ _ ⟨⟨hB, h24⟩, ⟨hN, hC⟩, ⟨hH, rfl⟩, ⟨hSv, h22⟩, hDr, ⟨hO, h35⟩, h25, h26⟩)
  | inr z =>
    obtain ⟨r, c1, z1, s1, d1, t1, v1, n1, l', n', c2, z2, s2, d2, t2, v2, n2⟩ := z
    obtain ⟨ht, hrb, e4, e5, e6, hl', hpm, e7⟩ := e3
    subst ht; subst hrb; subst hl'; subst hpm
    have hM := cl_KR_addSubsidiary l D Z sq hZ hl cI cR g ad am σ hg ((σ.S 18 + 1) % 8) (by omega) rfl ((xs (i + 1).toNat).toInt) ((xs (i + 2).toNat).toInt) ((xs (i + 3).toNat).toInt) (.inr (r, c1, z1, s1, d1, t1, v1, n1, (σ.S 18 + 1) % 8, pm', c2, z2, s2, d2, t2, v2, n2)) e1
    have hA := wr_addSubsidiary l D Z sq hZ hNC cI cR cL LW_len LW_x o f ((xs (i + 1).toNat).toInt) ((xs (i + 2).toNat).toInt) ((xs (i + 3).toNat).toInt) _ hM (t := 0) (b := r) ⟨rfl, rfl, rfl⟩ rfl
    exact lc_43 C hZ hz hcs hX hbl hbA hL hi jk_R0 (by exact fun _ => rfl) hA (cl_Md_addSubsidiary l D Z sq hZ cI cR g ad am _ ((xs (i + 1).toNat).toInt) ((xs (i + 2).toNat).toInt) ((xs (i + 3).toNat).toInt) (r, w', past', pm', 0) (show fn_Md_addSubsidiary (σ.T 23) (σ.T 26) (σ.S 21) (σ.S 23) ((xs (i + 1).toNat).toInt) ((xs (i + 2).toNat).toInt) ((xs (i + 3).toNat).toInt) = some _ from by rw [h21]; exact e2)) (cl_Md_thrown l D Z sq hZ cI cR g ad am _ 0 rfl) (kk _ _ ⟨⟨hB, h24⟩, ⟨pN_U hN (pC_f hC).2.2.2 e6, e5⟩, ⟨e7, rfl⟩, ⟨sv_U hSv e6, h22⟩, hDr, ⟨hO, h35⟩, h25, h26⟩)

set_option maxHeartbeats 4000000 in
set_option maxRecDepth 20000 in
theorem oc_44 {p : Program} {l : Launch} {e : Env} {s : State} {m : MethodId} {args : Array Value} {below : List Frame} {meth : Method} {c : Code} {cells slots : Nat} {Q : State → Prop} {D : va_G} {A : Nat → Prop} {ret : Option FieldType} {Z : (Nat → Prop) → State → Heap → Prop} {sq : Nat → Nat} {cI cR cL : ClassId} {g : Nat → Option Nat} {ad am : Nat → Nat} {b o L : Nat} {xs : Nat → Int32} {i : Int} (C : jk_C p s m args meth c mb_Law_law "KnotReaderLaw" 9 jk_WA D jk_cl (jk_t3 cI cR cL) A ret) (hZ : jk_ZK Z sq) (hz : Z A s s.heap) (hcs : cells + 20 ≤ room_1.cells ∧ slots + 120 ≤ room_1.slots) (hX : va_X b L xs s s.heap) (hbl : b < s.heap.size) (hbA : ¬ A b) (hL : L ≤ 3072) (hi : 0 ≤ i ∧ i + 6 ≤ (L : Int)) (hl : l.stackTraces = false) (hNC : ∀ (A : Nat → Prop) (U : State) (H : Heap), Z A U H → ∀ x ∈ jk_ncs, va_Nc (jk_exc x.1) (jk_exc x.2) U) (hg : ∀ j, j < 8 → g j = some (ad (48 + 11 * j))) {σ : jk_LS} {f : Nat → Int64} (hR : Rel σ) (kk : ∀ (σ' : jk_LS) (f' : Nat → Int64), Rel σ' → jk_J p l e room_1 s m args below meth c (cells + 20) (slots + 120) Q D jk_cl A 9 (LW cI cR g ad am σ' ++ [(o, .inl (cL, 1, .inr (.inl f')))]) [(0, .ref b), (1, .ref (ad 0)), (2, .ref (am 0)), (3, .ref o), (4, jk_V i)] 2784 []) : jk_J p l e room_1 s m args below meth c (cells) (slots) Q D jk_cl A 9 (LW cI cR g ad am σ ++ [(o, .inl (cL, 1, .inr (.inl f)))]) [(0, .ref b), (1, .ref (ad 0)), (2, .ref (am 0)), (3, .ref o), (4, jk_V i)] 2206 [] := by
  obtain ⟨⟨hB, h24⟩, ⟨hN, hC⟩, ⟨hH, h21⟩, ⟨hSv, h22⟩, hDr, ⟨hO, h35⟩, h25, h26⟩ := id hR
  have he := hH.1
  obtain ⟨qa, bb, w', past', pm', tt, e1, e2, e3⟩ := q_cut (th := σ.S 23) hC hH hN.1 (jk_Rof (xs (i + 1).toNat))
  cases qa with
  | inl k' =>
    obtain ⟨⟨j, j1, j2⟩, ha, hb, hc⟩ := e3
    subst ha; subst hb; subst hc
    have hM := cl_KR_cut l D Z sq hZ hl cI cR g ad am σ hg ((σ.S 18 + 1) % 8) (by omega) rfl ((xs (i + 1).toNat).toInt) (.inl k') e1
    have ho : jk_oc [1] (.inl k') (LW cI cR g ad am σ) (LW cI cR g ad am σ) tt bb := ⟨j, j1, j2, rfl⟩
    exact lc_44 C hZ hz hcs hX hbl hbA hL hi (tR j1 j2 (by decide)) (jk_oz0 ho f) (wr_cut l D Z sq hZ hNC cI cR cL LW_len LW_x o f ((xs (i + 1).toNat).toInt) (.inl k') hM ho rfl) (cl_Md_cut l D Z sq hZ cI cR g ad am _ ((xs (i + 1).toNat).toInt) (bb, σ.T 23, σ.T 26, σ.S 19, tt) (show fn_Md_cut (σ.T 23) (σ.T 26) (σ.S 21) (σ.S 23) ((xs (i + 1).toNat).toInt) = some _ from by rw [h21]; exact e2)) (cl_Md_thrown l D Z sq hZ cI cR g ad am _ tt rfl) (kk _ _ ⟨⟨hB, h24⟩, ⟨hN, hC⟩, ⟨hH, rfl⟩, ⟨hSv, h22⟩, hDr, ⟨hO, h35⟩, h25, h26⟩)
  | inr z =>
    obtain ⟨r, c1, z1, s1, d1, t1, v1, n1, l', n', c2, z2, s2, d2, t2, v2, n2⟩ := z
    obtain ⟨ht, hrb, e4, e5, e6, hl', hpm, e7⟩ := e3
    subst ht; subst hrb; subst hl'; subst hpm
    have hM := cl_KR_cut l D Z sq hZ hl cI cR g ad am σ hg ((σ.S 18 + 1) % 8) (by omega) rfl ((xs (i + 1).toNat).toInt) (.inr (r, c1, z1, s1, d1, t1, v1, n1, (σ.S 18 + 1) % 8, pm', c2, z2, s2, d2, t2, v2, n2)) e1
    have hA := wr_cut l D Z sq hZ hNC cI cR cL LW_len LW_x o f ((xs (i + 1).toNat).toInt) _ hM (t := 0) (b := r) ⟨rfl, rfl, rfl⟩ rfl
    exact lc_44 C hZ hz hcs hX hbl hbA hL hi jk_R0 (by exact fun _ => rfl) hA (cl_Md_cut l D Z sq hZ cI cR g ad am _ ((xs (i + 1).toNat).toInt) (r, w', past', pm', 0) (show fn_Md_cut (σ.T 23) (σ.T 26) (σ.S 21) (σ.S 23) ((xs (i + 1).toNat).toInt) = some _ from by rw [h21]; exact e2)) (cl_Md_thrown l D Z sq hZ cI cR g ad am _ 0 rfl) (kk _ _ ⟨⟨hB, h24⟩, ⟨pN_U hN (pC_f hC).2.2.2 e6, e5⟩, ⟨e7, rfl⟩, ⟨sv_U hSv e6, h22⟩, hDr, ⟨hO, h35⟩, h25, h26⟩)

set_option maxHeartbeats 4000000 in
set_option maxRecDepth 20000 in
theorem oc_45 {p : Program} {l : Launch} {e : Env} {s : State} {m : MethodId} {args : Array Value} {below : List Frame} {meth : Method} {c : Code} {cells slots : Nat} {Q : State → Prop} {D : va_G} {A : Nat → Prop} {ret : Option FieldType} {Z : (Nat → Prop) → State → Heap → Prop} {sq : Nat → Nat} {cI cR cL : ClassId} {g : Nat → Option Nat} {ad am : Nat → Nat} {b o L : Nat} {xs : Nat → Int32} {i : Int} (C : jk_C p s m args meth c mb_Law_law "KnotReaderLaw" 9 jk_WA D jk_cl (jk_t3 cI cR cL) A ret) (hZ : jk_ZK Z sq) (hz : Z A s s.heap) (hcs : cells + 20 ≤ room_1.cells ∧ slots + 120 ≤ room_1.slots) (hX : va_X b L xs s s.heap) (hbl : b < s.heap.size) (hbA : ¬ A b) (hL : L ≤ 3072) (hi : 0 ≤ i ∧ i + 6 ≤ (L : Int)) (hl : l.stackTraces = false) (hNC : ∀ (A : Nat → Prop) (U : State) (H : Heap), Z A U H → ∀ x ∈ jk_ncs, va_Nc (jk_exc x.1) (jk_exc x.2) U) (hg : ∀ j, j < 8 → g j = some (ad (48 + 11 * j))) {σ : jk_LS} {f : Nat → Int64} (hR : Rel σ) (kk : ∀ (σ' : jk_LS) (f' : Nat → Int64), Rel σ' → jk_J p l e room_1 s m args below meth c (cells + 20) (slots + 120) Q D jk_cl A 9 (LW cI cR g ad am σ' ++ [(o, .inl (cL, 1, .inr (.inl f')))]) [(0, .ref b), (1, .ref (ad 0)), (2, .ref (am 0)), (3, .ref o), (4, jk_V i)] 2784 []) : jk_J p l e room_1 s m args below meth c (cells) (slots) Q D jk_cl A 9 (LW cI cR g ad am σ ++ [(o, .inl (cL, 1, .inr (.inl f)))]) [(0, .ref b), (1, .ref (ad 0)), (2, .ref (am 0)), (3, .ref o), (4, jk_V i)] 2262 [] := by
  obtain ⟨⟨hB, h24⟩, ⟨hN, hC⟩, ⟨hH, h21⟩, ⟨hSv, h22⟩, hDr, ⟨hO, h35⟩, h25, h26⟩ := id hR
  have he := hH.1
  obtain ⟨qa, bb, w', past', pm', tt, e1, e2, e3⟩ := q_tieTop (th := σ.S 23) hC hH hN.1 (jk_Rof (xs (i + 1).toNat)) (jk_Rof (xs (i + 2).toNat))
  cases qa with
  | inl k' =>
    obtain ⟨⟨j, j1, j2⟩, ha, hb, hc⟩ := e3
    subst ha; subst hb; subst hc
    have hM := cl_KR_tieTop l D Z sq hZ hl cI cR g ad am σ hg ((σ.S 18 + 1) % 8) (by omega) rfl ((xs (i + 1).toNat).toInt) ((xs (i + 2).toNat).toInt) (.inl k') e1
    have ho : jk_oc [1, 3] (.inl k') (LW cI cR g ad am σ) (LW cI cR g ad am σ) tt bb := ⟨j, j1, j2, rfl⟩
    exact lc_45 C hZ hz hcs hX hbl hbA hL hi (tR j1 j2 (by decide)) (jk_oz0 ho f) (wr_tieTop l D Z sq hZ hNC cI cR cL LW_len LW_x o f ((xs (i + 1).toNat).toInt) ((xs (i + 2).toNat).toInt) (.inl k') hM ho rfl) (cl_Md_tieTop l D Z sq hZ cI cR g ad am _ ((xs (i + 1).toNat).toInt) ((xs (i + 2).toNat).toInt) (bb, σ.T 23, σ.T 26, σ.S 19, tt) (show fn_Md_tieTop (σ.T 23) (σ.T 26) (σ.S 21) (σ.S 23) ((xs (i + 1).toNat).toInt) ((xs (i + 2).toNat).toInt) = some _ from by rw [h21]; exact e2)) (cl_Md_thrown l D Z sq hZ cI cR g ad am _ tt rfl) (kk _ _ ⟨⟨hB, h24⟩, ⟨hN, hC⟩, ⟨hH, rfl⟩, ⟨hSv, h22⟩, hDr, ⟨hO, h35⟩, h25, h26⟩)
  | inr z =>
    obtain ⟨r, c1, z1, s1, d1, t1, v1, n1, l', n', c2, z2, s2, d2, t2, v2, n2⟩ := z
    obtain ⟨ht, hrb, e4, e5, e6, hl', hpm, e7⟩ := e3
    subst ht; subst hrb; subst hl'; subst hpm
    have hM := cl_KR_tieTop l D Z sq hZ hl cI cR g ad am σ hg ((σ.S 18 + 1) % 8) (by omega) rfl ((xs (i + 1).toNat).toInt) ((xs (i + 2).toNat).toInt) (.inr (r, c1, z1, s1, d1, t1, v1, n1, (σ.S 18 + 1) % 8, pm', c2, z2, s2, d2, t2, v2, n2)) e1
    have hA := wr_tieTop l D Z sq hZ hNC cI cR cL LW_len LW_x o f ((xs (i + 1).toNat).toInt) ((xs (i + 2).toNat).toInt) _ hM (t := 0) (b := r) ⟨rfl, rfl, rfl⟩ rfl
    exact lc_45 C hZ hz hcs hX hbl hbA hL hi jk_R0 (by exact fun _ => rfl) hA (cl_Md_tieTop l D Z sq hZ cI cR g ad am _ ((xs (i + 1).toNat).toInt) ((xs (i + 2).toNat).toInt) (r, w', past', pm', 0) (show fn_Md_tieTop (σ.T 23) (σ.T 26) (σ.S 21) (σ.S 23) ((xs (i + 1).toNat).toInt) ((xs (i + 2).toNat).toInt) = some _ from by rw [h21]; exact e2)) (cl_Md_thrown l D Z sq hZ cI cR g ad am _ 0 rfl) (kk _ _ ⟨⟨hB, h24⟩, ⟨pN_U hN (pC_f hC).2.2.2 e6, e5⟩, ⟨e7, rfl⟩, ⟨sv_U hSv e6, h22⟩, hDr, ⟨hO, h35⟩, h25, h26⟩)

set_option maxHeartbeats 4000000 in
set_option maxRecDepth 20000 in
theorem oc_46 {p : Program} {l : Launch} {e : Env} {s : State} {m : MethodId} {args : Array Value} {below : List Frame} {meth : Method} {c : Code} {cells slots : Nat} {Q : State → Prop} {D : va_G} {A : Nat → Prop} {ret : Option FieldType} {Z : (Nat → Prop) → State → Heap → Prop} {sq : Nat → Nat} {cI cR cL : ClassId} {g : Nat → Option Nat} {ad am : Nat → Nat} {b o L : Nat} {xs : Nat → Int32} {i : Int} (C : jk_C p s m args meth c mb_Law_law "KnotReaderLaw" 9 jk_WA D jk_cl (jk_t3 cI cR cL) A ret) (hZ : jk_ZK Z sq) (hz : Z A s s.heap) (hcs : cells + 20 ≤ room_1.cells ∧ slots + 120 ≤ room_1.slots) (hX : va_X b L xs s s.heap) (hbl : b < s.heap.size) (hbA : ¬ A b) (hL : L ≤ 3072) (hi : 0 ≤ i ∧ i + 6 ≤ (L : Int)) (hl : l.stackTraces = false) (hNC : ∀ (A : Nat → Prop) (U : State) (H : Heap), Z A U H → ∀ x ∈ jk_ncs, va_Nc (jk_exc x.1) (jk_exc x.2) U) (hg : ∀ j, j < 8 → g j = some (ad (48 + 11 * j))) {σ : jk_LS} {f : Nat → Int64} (hR : Rel σ) (kk : ∀ (σ' : jk_LS) (f' : Nat → Int64), Rel σ' → jk_J p l e room_1 s m args below meth c (cells + 20) (slots + 120) Q D jk_cl A 9 (LW cI cR g ad am σ' ++ [(o, .inl (cL, 1, .inr (.inl f')))]) [(0, .ref b), (1, .ref (ad 0)), (2, .ref (am 0)), (3, .ref o), (4, jk_V i)] 2784 []) : jk_J p l e room_1 s m args below meth c (cells) (slots) Q D jk_cl A 9 (LW cI cR g ad am σ ++ [(o, .inl (cL, 1, .inr (.inl f)))]) [(0, .ref b), (1, .ref (ad 0)), (2, .ref (am 0)), (3, .ref o), (4, jk_V i)] 2330 [] := by
  obtain ⟨⟨hB, h24⟩, ⟨hN, hC⟩, ⟨hH, h21⟩, ⟨hSv, h22⟩, hDr, ⟨hO, h35⟩, h25, h26⟩ := id hR
  have he := hH.1
  obtain ⟨qa, bb, w', past', pm', tt, e1, e2, e3⟩ := q_setKnots (th := σ.S 23) hC hH hN.1 (jk_Rof (xs (i + 1).toNat)) (jk_Rof (xs (i + 2).toNat)) (jk_Rof (xs (i + 3).toNat))
  cases qa with
  | inl k' =>
    obtain ⟨⟨j, j1, j2⟩, ha, hb, hc⟩ := e3
    subst ha; subst hb; subst hc
    have hM := cl_KR_setKnots l D Z sq hZ hl cI cR g ad am σ hg ((σ.S 18 + 1) % 8) (by omega) rfl ((xs (i + 1).toNat).toInt) ((xs (i + 2).toNat).toInt) ((xs (i + 3).toNat).toInt) (.inl k') e1
    have ho : jk_oc [1, 2, 3] (.inl k') (LW cI cR g ad am σ) (LW cI cR g ad am σ) tt bb := ⟨j, j1, j2, rfl⟩
    exact lc_46 C hZ hz hcs hX hbl hbA hL hi (tR j1 j2 (by decide)) (jk_oz0 ho f) (wr_setKnots l D Z sq hZ hNC cI cR cL LW_len LW_x o f ((xs (i + 1).toNat).toInt) ((xs (i + 2).toNat).toInt) ((xs (i + 3).toNat).toInt) (.inl k') hM ho rfl) (cl_Md_setKnots l D Z sq hZ cI cR g ad am _ ((xs (i + 1).toNat).toInt) ((xs (i + 2).toNat).toInt) ((xs (i + 3).toNat).toInt) (bb, σ.T 23, σ.T 26, σ.S 19, tt) (show fn_Md_setKnots (σ.T 23) (σ.T 26) (σ.S 21) (σ.S 23) ((xs (i + 1).toNat).toInt) ((xs (i + 2).toNat).toInt) ((xs (i + 3).toNat).toInt) = some _ from by rw [h21]; exact e2)) (cl_Md_thrown l D Z sq hZ cI cR g ad am _ tt rfl) (kk _ _ ⟨⟨hB, h24⟩, ⟨hN, hC⟩, ⟨hH, rfl⟩, ⟨hSv, h22⟩, hDr, ⟨hO, h35⟩, h25, h26⟩)
  | inr z =>
    obtain ⟨r, c1, z1, s1, d1, t1, v1, n1, l', n', c2, z2, s2, d2, t2, v2, n2⟩ := z
    obtain ⟨ht, hrb, e4, e5, e6, hl', hpm, e7⟩ := e3
    subst ht; subst hrb; subst hl'; subst hpm
    have hM := cl_KR_setKnots l D Z sq hZ hl cI cR g ad am σ hg ((σ.S 18 + 1) % 8) (by omega) rfl ((xs (i + 1).toNat).toInt) ((xs (i + 2).toNat).toInt) ((xs (i + 3).toNat).toInt) (.inr (r, c1, z1, s1, d1, t1, v1, n1, (σ.S 18 + 1) % 8, pm', c2, z2, s2, d2, t2, v2, n2)) e1
    have hA := wr_setKnots l D Z sq hZ hNC cI cR cL LW_len LW_x o f ((xs (i + 1).toNat).toInt) ((xs (i + 2).toNat).toInt) ((xs (i + 3).toNat).toInt) _ hM (t := 0) (b := r) ⟨rfl, rfl, rfl⟩ rfl
    exact lc_46 C hZ hz hcs hX hbl hbA hL hi jk_R0 (by exact fun _ => rfl) hA (cl_Md_setKnots l D Z sq hZ cI cR g ad am _ ((xs (i + 1).toNat).toInt) ((xs (i + 2).toNat).toInt) ((xs (i + 3).toNat).toInt) (r, w', past', pm', 0) (show fn_Md_setKnots (σ.T 23) (σ.T 26) (σ.S 21) (σ.S 23) ((xs (i + 1).toNat).toInt) ((xs (i + 2).toNat).toInt) ((xs (i + 3).toNat).toInt) = some _ from by rw [h21]; exact e2)) (cl_Md_thrown l D Z sq hZ cI cR g ad am _ 0 rfl) (kk _ _ ⟨⟨hB, h24⟩, ⟨pN_U hN (pC_f hC).2.2.2 e6, e5⟩, ⟨e7, rfl⟩, ⟨sv_U hSv e6, h22⟩, hDr, ⟨hO, h35⟩, h25, h26⟩)

set_option maxHeartbeats 4000000 in
set_option maxRecDepth 20000 in
theorem oc_47 {p : Program} {l : Launch} {e : Env} {s : State} {m : MethodId} {args : Array Value} {below : List Frame} {meth : Method} {c : Code} {cells slots : Nat} {Q : State → Prop} {D : va_G} {A : Nat → Prop} {ret : Option FieldType} {Z : (Nat → Prop) → State → Heap → Prop} {sq : Nat → Nat} {cI cR cL : ClassId} {g : Nat → Option Nat} {ad am : Nat → Nat} {b o L : Nat} {xs : Nat → Int32} {i : Int} (C : jk_C p s m args meth c mb_Law_law "KnotReaderLaw" 9 jk_WA D jk_cl (jk_t3 cI cR cL) A ret) (hZ : jk_ZK Z sq) (hz : Z A s s.heap) (hcs : cells + 20 ≤ room_1.cells ∧ slots + 120 ≤ room_1.slots) (hX : va_X b L xs s s.heap) (hbl : b < s.heap.size) (hbA : ¬ A b) (hL : L ≤ 3072) (hi : 0 ≤ i ∧ i + 6 ≤ (L : Int)) (hl : l.stackTraces = false) (hNC : ∀ (A : Nat → Prop) (U : State) (H : Heap), Z A U H → ∀ x ∈ jk_ncs, va_Nc (jk_exc x.1) (jk_exc x.2) U) (hg : ∀ j, j < 8 → g j = some (ad (48 + 11 * j))) {σ : jk_LS} {f : Nat → Int64} (hR : Rel σ) (kk : ∀ (σ' : jk_LS) (f' : Nat → Int64), Rel σ' → jk_J p l e room_1 s m args below meth c (cells + 20) (slots + 120) Q D jk_cl A 9 (LW cI cR g ad am σ' ++ [(o, .inl (cL, 1, .inr (.inl f')))]) [(0, .ref b), (1, .ref (ad 0)), (2, .ref (am 0)), (3, .ref o), (4, jk_V i)] 2784 []) : jk_J p l e room_1 s m args below meth c (cells) (slots) Q D jk_cl A 9 (LW cI cR g ad am σ ++ [(o, .inl (cL, 1, .inr (.inl f)))]) [(0, .ref b), (1, .ref (ad 0)), (2, .ref (am 0)), (3, .ref o), (4, jk_V i)] 2410 [] := by
  obtain ⟨⟨hB, h24⟩, ⟨hN, hC⟩, ⟨hH, h21⟩, ⟨hSv, h22⟩, hDr, ⟨hO, h35⟩, h25, h26⟩ := id hR
  have he := hH.1
  obtain ⟨qa, bb, w', past', pm', tt, e1, e2, e3⟩ := q_nibble (th := σ.S 23) hC hH hN.1 (jk_Rof (xs (i + 1).toNat)) (jk_Rof (xs (i + 2).toNat))
  cases qa with
  | inl k' =>
    obtain ⟨⟨j, j1, j2⟩, ha, hb, hc⟩ := e3
    subst ha; subst hb; subst hc
    have hM := cl_KR_nibble l D Z sq hZ hl cI cR g ad am σ hg ((σ.S 18 + 1) % 8) (by omega) rfl ((xs (i + 1).toNat).toInt) ((xs (i + 2).toNat).toInt) (.inl k') e1
    have ho : jk_oc [1, 2, 3] (.inl k') (LW cI cR g ad am σ) (LW cI cR g ad am σ) tt bb := ⟨j, j1, j2, rfl⟩
    exact lc_47 C hZ hz hcs hX hbl hbA hL hi (tR j1 j2 (by decide)) (jk_oz0 ho f) (wr_nibble l D Z sq hZ hNC cI cR cL LW_len LW_x o f ((xs (i + 1).toNat).toInt) ((xs (i + 2).toNat).toInt) (.inl k') hM ho rfl) (cl_Md_nibble l D Z sq hZ cI cR g ad am _ ((xs (i + 1).toNat).toInt) ((xs (i + 2).toNat).toInt) (bb, σ.T 23, σ.T 26, σ.S 19, tt) (show fn_Md_nibble (σ.T 23) (σ.T 26) (σ.S 21) (σ.S 23) ((xs (i + 1).toNat).toInt) ((xs (i + 2).toNat).toInt) = some _ from by rw [h21]; exact e2)) (cl_Md_thrown l D Z sq hZ cI cR g ad am _ tt rfl) (kk _ _ ⟨⟨hB, h24⟩, ⟨hN, hC⟩, ⟨hH, rfl⟩, ⟨hSv, h22⟩, hDr, ⟨hO, h35⟩, h25, h26⟩)
  | inr z =>
    obtain ⟨r, c1, z1, s1, d1, t1, v1, n1, l', n', c2, z2, s2, d2, t2, v2, n2⟩ := z
    obtain ⟨ht, hrb, e4, e5, e6, hl', hpm, e7⟩ := e3
    subst ht; subst hrb; subst hl'; subst hpm
    have hM := cl_KR_nibble l D Z sq hZ hl cI cR g ad am σ hg ((σ.S 18 + 1) % 8) (by omega) rfl ((xs (i + 1).toNat).toInt) ((xs (i + 2).toNat).toInt) (.inr (r, c1, z1, s1, d1, t1, v1, n1, (σ.S 18 + 1) % 8, pm', c2, z2, s2, d2, t2, v2, n2)) e1
    have hA := wr_nibble l D Z sq hZ hNC cI cR cL LW_len LW_x o f ((xs (i + 1).toNat).toInt) ((xs (i + 2).toNat).toInt) _ hM (t := 0) (b := r) ⟨rfl, rfl, rfl⟩ rfl
    exact lc_47 C hZ hz hcs hX hbl hbA hL hi jk_R0 (by exact fun _ => rfl) hA (cl_Md_nibble l D Z sq hZ cI cR g ad am _ ((xs (i + 1).toNat).toInt) ((xs (i + 2).toNat).toInt) (r, w', past', pm', 0) (show fn_Md_nibble (σ.T 23) (σ.T 26) (σ.S 21) (σ.S 23) ((xs (i + 1).toNat).toInt) ((xs (i + 2).toNat).toInt) = some _ from by rw [h21]; exact e2)) (cl_Md_thrown l D Z sq hZ cI cR g ad am _ 0 rfl) (kk _ _ ⟨⟨hB, h24⟩, ⟨pN_U hN (pC_f hC).2.2.2 e6, e5⟩, ⟨e7, rfl⟩, ⟨sv_U hSv e6, h22⟩, hDr, ⟨hO, h35⟩, h25, h26⟩)

set_option maxHeartbeats 4000000 in
set_option maxRecDepth 20000 in
theorem oc_48 {p : Program} {l : Launch} {e : Env} {s : State} {m : MethodId} {args : Array Value} {below : List Frame} {meth : Method} {c : Code} {cells slots : Nat} {Q : State → Prop} {D : va_G} {A : Nat → Prop} {ret : Option FieldType} {Z : (Nat → Prop) → State → Heap → Prop} {sq : Nat → Nat} {cI cR cL : ClassId} {g : Nat → Option Nat} {ad am : Nat → Nat} {b o L : Nat} {xs : Nat → Int32} {i : Int} (C : jk_C p s m args meth c mb_Law_law "KnotReaderLaw" 9 jk_WA D jk_cl (jk_t3 cI cR cL) A ret) (hZ : jk_ZK Z sq) (hz : Z A s s.heap) (hcs : cells + 20 ≤ room_1.cells ∧ slots + 120 ≤ room_1.slots) (hX : va_X b L xs s s.heap) (hbl : b < s.heap.size) (hbA : ¬ A b) (hL : L ≤ 3072) (hi : 0 ≤ i ∧ i + 6 ≤ (L : Int)) (hl : l.stackTraces = false) (hNC : ∀ (A : Nat → Prop) (U : State) (H : Heap), Z A U H → ∀ x ∈ jk_ncs, va_Nc (jk_exc x.1) (jk_exc x.2) U) (hg : ∀ j, j < 8 → g j = some (ad (48 + 11 * j))) {σ : jk_LS} {f : Nat → Int64} (hR : Rel σ) (kk : ∀ (σ' : jk_LS) (f' : Nat → Int64), Rel σ' → jk_J p l e room_1 s m args below meth c (cells + 20) (slots + 120) Q D jk_cl A 9 (LW cI cR g ad am σ' ++ [(o, .inl (cL, 1, .inr (.inl f')))]) [(0, .ref b), (1, .ref (ad 0)), (2, .ref (am 0)), (3, .ref o), (4, jk_V i)] 2784 []) : jk_J p l e room_1 s m args below meth c (cells) (slots) Q D jk_cl A 9 (LW cI cR g ad am σ ++ [(o, .inl (cL, 1, .inr (.inl f)))]) [(0, .ref b), (1, .ref (ad 0)), (2, .ref (am 0)), (3, .ref o), (4, jk_V i)] 2478 [] := by
  obtain ⟨⟨hB, h24⟩, ⟨hN, hC⟩, ⟨hH, h21⟩, ⟨hSv, h22⟩, hDr, ⟨hO, h35⟩, h25, h26⟩ := id hR
  have he := hH.1
  obtain ⟨qa, bb, w', past', pm', tt, e1, e2, e3⟩ := q_dye (th := σ.S 23) hC hH hN.1 (jk_Rof (xs (i + 1).toNat)) (jk_Rof (xs (i + 2).toNat))
  cases qa with
  | inl k' =>
    obtain ⟨⟨j, j1, j2⟩, ha, hb, hc⟩ := e3
    subst ha; subst hb; subst hc
    have hM := cl_KR_dye l D Z sq hZ hl cI cR g ad am σ hg ((σ.S 18 + 1) % 8) (by omega) rfl ((xs (i + 1).toNat).toInt) ((xs (i + 2).toNat).toInt) (.inl k') e1
    have ho : jk_oc [1] (.inl k') (LW cI cR g ad am σ) (LW cI cR g ad am σ) tt bb := ⟨j, j1, j2, rfl⟩
    exact lc_48 C hZ hz hcs hX hbl hbA hL hi (tR j1 j2 (by decide)) (jk_oz0 ho f) (wr_dye l D Z sq hZ hNC cI cR cL LW_len LW_x o f ((xs (i + 1).toNat).toInt) ((xs (i + 2).toNat).toInt) (.inl k') hM ho rfl) (cl_Md_dye l D Z sq hZ cI cR g ad am _ ((xs (i + 1).toNat).toInt) ((xs (i + 2).toNat).toInt) (bb, σ.T 23, σ.T 26, σ.S 19, tt) (show fn_Md_dye (σ.T 23) (σ.T 26) (σ.S 21) (σ.S 23) ((xs (i + 1).toNat).toInt) ((xs (i + 2).toNat).toInt) = some _ from by rw [h21]; exact e2)) (cl_Md_thrown l D Z sq hZ cI cR g ad am _ tt rfl) (kk _ _ ⟨⟨hB, h24⟩, ⟨hN, hC⟩, ⟨hH, rfl⟩, ⟨hSv, h22⟩, hDr, ⟨hO, h35⟩, h25, h26⟩)
  | inr z =>
    obtain ⟨r, c1, z1, s1, d1, t1, v1, n1, l', n', c2, z2, s2, d2, t2, v2, n2⟩ := z
    obtain ⟨ht, hrb, e4, e5, e6, hl', hpm, e7⟩ := e3
    subst ht; subst hrb; subst hl'; subst hpm
    have hM := cl_KR_dye l D Z sq hZ hl cI cR g ad am σ hg ((σ.S 18 + 1) % 8) (by omega) rfl ((xs (i + 1).toNat).toInt) ((xs (i + 2).toNat).toInt) (.inr (r, c1, z1, s1, d1, t1, v1, n1, (σ.S 18 + 1) % 8, pm', c2, z2, s2, d2, t2, v2, n2)) e1
    have hA := wr_dye l D Z sq hZ hNC cI cR cL LW_len LW_x o f ((xs (i + 1).toNat).toInt) ((xs (i + 2).toNat).toInt) _ hM (t := 0) (b := r) ⟨rfl, rfl, rfl⟩ rfl
    exact lc_48 C hZ hz hcs hX hbl hbA hL hi jk_R0 (by exact fun _ => rfl) hA (cl_Md_dye l D Z sq hZ cI cR g ad am _ ((xs (i + 1).toNat).toInt) ((xs (i + 2).toNat).toInt) (r, w', past', pm', 0) (show fn_Md_dye (σ.T 23) (σ.T 26) (σ.S 21) (σ.S 23) ((xs (i + 1).toNat).toInt) ((xs (i + 2).toNat).toInt) = some _ from by rw [h21]; exact e2)) (cl_Md_thrown l D Z sq hZ cI cR g ad am _ 0 rfl) (kk _ _ ⟨⟨hB, h24⟩, ⟨pN_U hN (pC_f hC).2.2.2 e6, e5⟩, ⟨e7, rfl⟩, ⟨sv_U hSv e6, h22⟩, hDr, ⟨hO, h35⟩, h25, h26⟩)

set_option maxHeartbeats 4000000 in
set_option maxRecDepth 20000 in
theorem oc_49 {p : Program} {l : Launch} {e : Env} {s : State} {m : MethodId} {args : Array Value} {below : List Frame} {meth : Method} {c : Code} {cells slots : Nat} {Q : State → Prop} {D : va_G} {A : Nat → Prop} {ret : Option FieldType} {Z : (Nat → Prop) → State → Heap → Prop} {sq : Nat → Nat} {cI cR cL : ClassId} {g : Nat → Option Nat} {ad am : Nat → Nat} {b o L : Nat} {xs : Nat → Int32} {i : Int} (C : jk_C p s m args meth c mb_Law_law "KnotReaderLaw" 9 jk_WA D jk_cl (jk_t3 cI cR cL) A ret) (hZ : jk_ZK Z sq) (hz : Z A s s.heap) (hcs : cells + 20 ≤ room_1.cells ∧ slots + 120 ≤ room_1.slots) (hX : va_X b L xs s s.heap) (hbl : b < s.heap.size) (hbA : ¬ A b) (hL : L ≤ 3072) (hi : 0 ≤ i ∧ i + 6 ≤ (L : Int)) (hl : l.stackTraces = false) (hNC : ∀ (A : Nat → Prop) (U : State) (H : Heap), Z A U H → ∀ x ∈ jk_ncs, va_Nc (jk_exc x.1) (jk_exc x.2) U) (hg : ∀ j, j < 8 → g j = some (ad (48 + 11 * j))) {σ : jk_LS} {f : Nat → Int64} (hR : Rel σ) (kk : ∀ (σ' : jk_LS) (f' : Nat → Int64), Rel σ' → jk_J p l e room_1 s m args below meth c (cells + 20) (slots + 120) Q D jk_cl A 9 (LW cI cR g ad am σ' ++ [(o, .inl (cL, 1, .inr (.inl f')))]) [(0, .ref b), (1, .ref (ad 0)), (2, .ref (am 0)), (3, .ref o), (4, jk_V i)] 2784 []) : jk_J p l e room_1 s m args below meth c (cells) (slots) Q D jk_cl A 9 (LW cI cR g ad am σ ++ [(o, .inl (cL, 1, .inr (.inl f)))]) [(0, .ref b), (1, .ref (ad 0)), (2, .ref (am 0)), (3, .ref o), (4, jk_V i)] 2546 [] := by
  obtain ⟨⟨hB, h24⟩, ⟨hN, hC⟩, ⟨hH, h21⟩, ⟨hSv, h22⟩, hDr, ⟨hO, h35⟩, h25, h26⟩ := id hR
  have he := hH.1
  obtain ⟨qa, bb, w', past', pm', tt, e1, e2, e3⟩ := q_repair (th := σ.S 23) hC hH hN.1 (jk_Rof (xs (i + 1).toNat))
  cases qa with
  | inl k' =>
    obtain ⟨⟨j, j1, j2⟩, ha, hb, hc⟩ := e3
    subst ha; subst hb; subst hc
    have hM := cl_KR_repair l D Z sq hZ hl cI cR g ad am σ hg ((σ.S 18 + 1) % 8) (by omega) rfl ((xs (i + 1).toNat).toInt) (.inl k') e1
    have ho : jk_oc [1, 3] (.inl k') (LW cI cR g ad am σ) (LW cI cR g ad am σ) tt bb := ⟨j, j1, j2, rfl⟩
    exact lc_49 C hZ hz hcs hX hbl hbA hL hi (tR j1 j2 (by decide)) (jk_oz0 ho f) (wr_repair l D Z sq hZ hNC cI cR cL LW_len LW_x o f ((xs (i + 1).toNat).toInt) (.inl k') hM ho rfl) (cl_Md_repair l D Z sq hZ cI cR g ad am _ ((xs (i + 1).toNat).toInt) (bb, σ.T 23, σ.T 26, σ.S 19, tt) (show fn_Md_repair (σ.T 23) (σ.T 26) (σ.S 21) (σ.S 23) ((xs (i + 1).toNat).toInt) = some _ from by rw [h21]; exact e2)) (cl_Md_thrown l D Z sq hZ cI cR g ad am _ tt rfl) (kk _ _ ⟨⟨hB, h24⟩, ⟨hN, hC⟩, ⟨hH, rfl⟩, ⟨hSv, h22⟩, hDr, ⟨hO, h35⟩, h25, h26⟩)
  | inr z =>
    obtain ⟨r, c1, z1, s1, d1, t1, v1, n1, l', n', c2, z2, s2, d2, t2, v2, n2⟩ := z
    obtain ⟨ht, hrb, e4, e5, e6, hl', hpm, e7⟩ := e3
    subst ht; subst hrb; subst hl'; subst hpm
    have hM := cl_KR_repair l D Z sq hZ hl cI cR g ad am σ hg ((σ.S 18 + 1) % 8) (by omega) rfl ((xs (i + 1).toNat).toInt) (.inr (r, c1, z1, s1, d1, t1, v1, n1, (σ.S 18 + 1) % 8, pm', c2, z2, s2, d2, t2, v2, n2)) e1
    have hA := wr_repair l D Z sq hZ hNC cI cR cL LW_len LW_x o f ((xs (i + 1).toNat).toInt) _ hM (t := 0) (b := r) ⟨rfl, rfl, rfl⟩ rfl
    exact lc_49 C hZ hz hcs hX hbl hbA hL hi jk_R0 (by exact fun _ => rfl) hA (cl_Md_repair l D Z sq hZ cI cR g ad am _ ((xs (i + 1).toNat).toInt) (r, w', past', pm', 0) (show fn_Md_repair (σ.T 23) (σ.T 26) (σ.S 21) (σ.S 23) ((xs (i + 1).toNat).toInt) = some _ from by rw [h21]; exact e2)) (cl_Md_thrown l D Z sq hZ cI cR g ad am _ 0 rfl) (kk _ _ ⟨⟨hB, h24⟩, ⟨pN_U hN (pC_f hC).2.2.2 e6, e5⟩, ⟨e7, rfl⟩, ⟨sv_U hSv e6, h22⟩, hDr, ⟨hO, h35⟩, h25, h26⟩)

set_option maxHeartbeats 4000000 in
set_option maxRecDepth 20000 in
theorem oc_50 {p : Program} {l : Launch} {e : Env} {s : State} {m : MethodId} {args : Array Value} {below : List Frame} {meth : Method} {c : Code} {cells slots : Nat} {Q : State → Prop} {D : va_G} {A : Nat → Prop} {ret : Option FieldType} {Z : (Nat → Prop) → State → Heap → Prop} {sq : Nat → Nat} {cI cR cL : ClassId} {g : Nat → Option Nat} {ad am : Nat → Nat} {b o L : Nat} {xs : Nat → Int32} {i : Int} (C : jk_C p s m args meth c mb_Law_law "KnotReaderLaw" 9 jk_WA D jk_cl (jk_t3 cI cR cL) A ret) (hZ : jk_ZK Z sq) (hz : Z A s s.heap) (hcs : cells + 20 ≤ room_1.cells ∧ slots + 120 ≤ room_1.slots) (hX : va_X b L xs s s.heap) (hbl : b < s.heap.size) (hbA : ¬ A b) (hL : L ≤ 3072) (hi : 0 ≤ i ∧ i + 6 ≤ (L : Int)) (hl : l.stackTraces = false) (hNC : ∀ (A : Nat → Prop) (U : State) (H : Heap), Z A U H → ∀ x ∈ jk_ncs, va_Nc (jk_exc x.1) (jk_exc x.2) U) (hg : ∀ j, j < 8 → g j = some (ad (48 + 11 * j))) {σ : jk_LS} {f : Nat → Int64} (hR : Rel σ) (kk : ∀ (σ' : jk_LS) (f' : Nat → Int64), Rel σ' → jk_J p l e room_1 s m args below meth c (cells + 20) (slots + 120) Q D jk_cl A 9 (LW cI cR g ad am σ' ++ [(o, .inl (cL, 1, .inr (.inl f')))]) [(0, .ref b), (1, .ref (ad 0)), (2, .ref (am 0)), (3, .ref o), (4, jk_V i)] 2784 []) : jk_J p l e room_1 s m args below meth c (cells) (slots) Q D jk_cl A 9 (LW cI cR g ad am σ ++ [(o, .inl (cL, 1, .inr (.inl f)))]) [(0, .ref b), (1, .ref (ad 0)), (2, .ref (am 0)), (3, .ref o), (4, jk_V i)] 2602 [] := by
  obtain ⟨⟨hB, h24⟩, ⟨hN, hC⟩, ⟨hH, h21⟩, ⟨hSv, h22⟩, hDr, ⟨hO, h35⟩, h25, h26⟩ := id hR
  have he := hH.1
  rcases q_undo (th := σ.S 23) hC hH with ⟨hn, e1, e2⟩ | ⟨c1, z1, s1, d1, t1, v1, n1, w', e1, e2, e4, e5, e6, e7⟩
  · have hM := cl_KR_undo l D Z sq hZ hl cI cR g ad am σ hg (σ.S 18) (by omega) rfl (.inl 4) e1
    have ho : jk_oc [4] (.inl 4) (LW cI cR g ad am σ) (LW cI cR g ad am σ) 1 0 := ⟨0, rfl, rfl, rfl⟩
    exact lc_50 C hZ hz hcs hX hbl hbA hL hi jk_R1 (jk_oz0 ho f) (wr_undo l D Z sq hZ hNC cI cR cL LW_len LW_x o f (.inl 4) hM ho rfl) (cl_Md_undo l D Z sq hZ cI cR g ad am _  (0, σ.T 23, σ.S 19, 1) (show fn_Md_undo (σ.T 23) (σ.T 26) (σ.S 21) (σ.S 23) = some _ from by rw [h21]; exact e2)) (cl_Md_thrown l D Z sq hZ cI cR g ad am _ 1 rfl) (kk _ _ ⟨⟨hB, h24⟩, ⟨hN, hC⟩, ⟨hH, rfl⟩, ⟨hSv, h22⟩, hDr, ⟨hO, h35⟩, h25, h26⟩)
  · have hM := cl_KR_undo l D Z sq hZ hl cI cR g ad am σ hg (σ.S 18) (by omega) rfl (.inr (σ.S 19 - 1, c1, z1, s1, d1, t1, v1, n1, (σ.S 18 + 8 - 1) % 8, σ.S 19 - 1)) e1
    have hA := wr_undo l D Z sq hZ hNC cI cR cL LW_len LW_x o f _ hM (t := 0) (b := (σ.S 19 - 1)) ⟨rfl, rfl, rfl⟩ rfl
    exact lc_50 C hZ hz hcs hX hbl hbA hL hi jk_R0 (by exact fun _ => rfl) hA (cl_Md_undo l D Z sq hZ cI cR g ad am _  (σ.S 19 - 1, w', σ.S 19 - 1, 0) (show fn_Md_undo (σ.T 23) (σ.T 26) (σ.S 21) (σ.S 23) = some _ from by rw [h21]; exact e2)) (cl_Md_thrown l D Z sq hZ cI cR g ad am _ 0 rfl) (kk _ _ ⟨⟨hB, h24⟩, ⟨pN_U hN (pC_f hC).2.2.2 e6, e5⟩, ⟨e7, rfl⟩, ⟨sv_U hSv e6, h22⟩, hDr, ⟨hO, h35⟩, h25, h26⟩)

set_option maxHeartbeats 4000000 in
set_option maxRecDepth 20000 in
theorem oc_51 {p : Program} {l : Launch} {e : Env} {s : State} {m : MethodId} {args : Array Value} {below : List Frame} {meth : Method} {c : Code} {cells slots : Nat} {Q : State → Prop} {D : va_G} {A : Nat → Prop} {ret : Option FieldType} {Z : (Nat → Prop) → State → Heap → Prop} {sq : Nat → Nat} {cI cR cL : ClassId} {g : Nat → Option Nat} {ad am : Nat → Nat} {b o L : Nat} {xs : Nat → Int32} {i : Int} (C : jk_C p s m args meth c mb_Law_law "KnotReaderLaw" 9 jk_WA D jk_cl (jk_t3 cI cR cL) A ret) (hZ : jk_ZK Z sq) (hz : Z A s s.heap) (hcs : cells + 20 ≤ room_1.cells ∧ slots + 120 ≤ room_1.slots) (hX : va_X b L xs s s.heap) (hbl : b < s.heap.size) (hbA : ¬ A b) (hL : L ≤ 3072) (hi : 0 ≤ i ∧ i + 6 ≤ (L : Int)) (hl : l.stackTraces = false) (hNC : ∀ (A : Nat → Prop) (U : State) (H : Heap), Z A U H → ∀ x ∈ jk_ncs, va_Nc (jk_exc x.1) (jk_exc x.2) U) (hg : ∀ j, j < 8 → g j = some (ad (48 + 11 * j))) {σ : jk_LS} {f : Nat → Int64} (hR : Rel σ) (kk : ∀ (σ' : jk_LS) (f' : Nat → Int64), Rel σ' → jk_J p l e room_1 s m args below meth c (cells + 20) (slots + 120) Q D jk_cl A 9 (LW cI cR g ad am σ' ++ [(o, .inl (cL, 1, .inr (.inl f')))]) [(0, .ref b), (1, .ref (ad 0)), (2, .ref (am 0)), (3, .ref o), (4, jk_V i)] 2784 []) : jk_J p l e room_1 s m args below meth c (cells) (slots) Q D jk_cl A 9 (LW cI cR g ad am σ ++ [(o, .inl (cL, 1, .inr (.inl f)))]) [(0, .ref b), (1, .ref (ad 0)), (2, .ref (am 0)), (3, .ref o), (4, jk_V i)] 2646 [] := by
  obtain ⟨⟨hB, h24⟩, ⟨hN, hC⟩, ⟨hH, h21⟩, ⟨hSv, h22⟩, hDr, ⟨hO, h35⟩, h25, h26⟩ := id hR
  obtain ⟨⟨g', I, M⟩, -⟩ := id hC
  rcases q_writeCluster (f1 := σ.T 1) (f2 := σ.T 31) (l1 := σ.S 9) (l2 := σ.S 35) (th := σ.S 23) I M (hL_of hN (pC_f hC).2.2.2) (jk_Rof (xs (i + 1).toNat)) with ⟨e1, e2⟩ | ⟨L', g1, g2, len, e1, e2, e3, e4, e5, e6⟩
  · have hM := cl_KR_writeCluster l D Z sq hZ hl cI cR g ad am σ  ((xs (i + 1).toNat).toInt) (.inl 1) e1
    have ho : jk_oc [1] (.inl 1) (LW cI cR g ad am σ) (LW cI cR g ad am σ) 1 0 := ⟨0, rfl, rfl, rfl⟩
    exact lc_51 C hZ hz hcs hX hbl hbA hL hi jk_R1 (jk_oz0 ho f) (wr_writeCluster l D Z sq hZ hNC cI cR cL LW_len LW_x o f ((xs (i + 1).toNat).toInt) (.inl 1) hM ho rfl) (cl_Md_writeCluster l D Z sq hZ cI cR g ad am _ ((xs (i + 1).toNat).toInt) (0, 1, σ.T 31, σ.S 35) e2) (cl_Md_thrown l D Z sq hZ cI cR g ad am _ 1 rfl) (kk _ _ hR)
  · have hM := cl_KR_writeCluster l D Z sq hZ hl cI cR g ad am σ  ((xs (i + 1).toNat).toInt) (.inr (len, g1, len)) e1
    have hA := wr_writeCluster l D Z sq hZ hNC cI cR cL LW_len LW_x o f ((xs (i + 1).toNat).toInt) _ hM (t := 0) (b := len) ⟨rfl, rfl, rfl⟩ rfl
    exact lc_51 C hZ hz hcs hX hbl hbA hL hi jk_R0 (by exact fun _ => rfl) hA (cl_Md_writeCluster l D Z sq hZ cI cR g ad am _ ((xs (i + 1).toNat).toInt) (len, 0, g2, len) e2) (cl_Md_thrown l D Z sq hZ cI cR g ad am _ 0 rfl) (kk _ _ ⟨⟨hB, h24⟩, ⟨hN, hC⟩, ⟨hH, h21⟩, ⟨hSv, h22⟩, hDr, ⟨⟨L', e4, e5, e6⟩, rfl⟩, h25, h26⟩)

set_option maxHeartbeats 4000000 in
set_option maxRecDepth 20000 in
theorem oc_54 {p : Program} {l : Launch} {e : Env} {s : State} {m : MethodId} {args : Array Value} {below : List Frame} {meth : Method} {c : Code} {cells slots : Nat} {Q : State → Prop} {D : va_G} {A : Nat → Prop} {ret : Option FieldType} {Z : (Nat → Prop) → State → Heap → Prop} {sq : Nat → Nat} {cI cR cL : ClassId} {g : Nat → Option Nat} {ad am : Nat → Nat} {b o L : Nat} {xs : Nat → Int32} {i : Int} (C : jk_C p s m args meth c mb_Law_law "KnotReaderLaw" 9 jk_WA D jk_cl (jk_t3 cI cR cL) A ret) (hZ : jk_ZK Z sq) (hz : Z A s s.heap) (hcs : cells + 20 ≤ room_1.cells ∧ slots + 120 ≤ room_1.slots) (hX : va_X b L xs s s.heap) (hbl : b < s.heap.size) (hbA : ¬ A b) (hL : L ≤ 3072) (hi : 0 ≤ i ∧ i + 6 ≤ (L : Int)) (hl : l.stackTraces = false) (hNC : ∀ (A : Nat → Prop) (U : State) (H : Heap), Z A U H → ∀ x ∈ jk_ncs, va_Nc (jk_exc x.1) (jk_exc x.2) U) (hg : ∀ j, j < 8 → g j = some (ad (48 + 11 * j))) {σ : jk_LS} {f : Nat → Int64} (hR : Rel σ) (kk : ∀ (σ' : jk_LS) (f' : Nat → Int64), Rel σ' → jk_J p l e room_1 s m args below meth c (cells + 20) (slots + 120) Q D jk_cl A 9 (LW cI cR g ad am σ' ++ [(o, .inl (cL, 1, .inr (.inl f')))]) [(0, .ref b), (1, .ref (ad 0)), (2, .ref (am 0)), (3, .ref o), (4, jk_V i)] 2784 []) : jk_J p l e room_1 s m args below meth c (cells) (slots) Q D jk_cl A 9 (LW cI cR g ad am σ ++ [(o, .inl (cL, 1, .inr (.inl f)))]) [(0, .ref b), (1, .ref (ad 0)), (2, .ref (am 0)), (3, .ref o), (4, jk_V i)] 2740 [] := by
  obtain ⟨⟨hB, h24⟩, ⟨hN, hC⟩, ⟨hH, h21⟩, ⟨hSv, h22⟩, hDr, ⟨hO, h35⟩, h25, h26⟩ := id hR
  rcases q_restoreState (cl := (σ.S 11)) (sz := (σ.S 12)) (st := (σ.T 3)) (dp := (σ.T 4)) (tp := (σ.T 5)) (va := (σ.T 6)) (nb := (σ.T 7)) (n0 := (σ.S 19)) (m0 := (σ.S 21)) (th := (σ.S 23)) hSv with ⟨h0, e1, e2⟩ | ⟨h0, s1, d1, t1, v1, n1, w', e1, e2, e3, e4, e5, e6⟩
  · have hM := cl_KR_restoreState l D Z sq hZ hl cI cR g ad am σ  (.inl 4) e1
    have ho : jk_oc [4] (.inl 4) (LW cI cR g ad am σ) (LW cI cR g ad am σ) 1 0 := ⟨0, rfl, rfl, rfl⟩
    exact lc_54 C hZ hz hcs hX hbl hbA hL hi jk_R1 (jk_oz0 ho f) (wr_restoreState l D Z sq hZ hNC cI cR cL LW_len LW_x o f (.inl 4) hM ho rfl) (cl_Md_restoreState l D Z sq hZ cI cR g ad am _  (0, σ.T 23, σ.S 21, 1) (show fn_Md_restoreState (σ.T 23) (σ.T 25) (σ.S 21) (σ.S 22) (σ.S 23) = some _ from by rw [h22]; exact e2)) (cl_Md_thrown l D Z sq hZ cI cR g ad am _ 1 rfl) (kk _ _ ⟨⟨hB, h24⟩, ⟨hN, hC⟩, ⟨hH, h21⟩, ⟨hSv, h22⟩, hDr, ⟨hO, h35⟩, h25, h26⟩)
  · have hM := cl_KR_restoreState l D Z sq hZ hl cI cR g ad am σ  (.inr (σ.S 17, σ.S 16, σ.S 17, s1, d1, t1, v1, n1, 0)) e1
    have hA := wr_restoreState l D Z sq hZ hNC cI cR cL LW_len LW_x o f _ hM (t := 0) (b := (σ.S 17)) ⟨rfl, rfl, rfl⟩ rfl
    exact lc_54 C hZ hz hcs hX hbl hbA hL hi jk_R0 (by exact fun _ => rfl) hA (cl_Md_restoreState l D Z sq hZ cI cR g ad am _  (σ.S 17, w', 0, 0) (show fn_Md_restoreState (σ.T 23) (σ.T 25) (σ.S 21) (σ.S 22) (σ.S 23) = some _ from by rw [h22]; exact e2)) (cl_Md_thrown l D Z sq hZ cI cR g ad am _ 0 rfl) (kk _ _ ⟨⟨hB, h24⟩, ⟨pN_U hN (pC_f hC).2.2.2 e5, e4⟩, ⟨⟨hH.1, ⟨(show (0 : Int) ≤ 0 from Int.le_refl 0), (show (0 : Int) ≤ 8 by decide)⟩, fun i' h0' h1' => absurd h1' (Int.not_lt.mpr h0')⟩, rfl⟩, ⟨hSv.elim Or.inl (fun h => Or.inr ⟨h.1, h.2.1, e6⟩), h22⟩, hDr, ⟨hO, h35⟩, h25, h26⟩)

