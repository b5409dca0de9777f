theorem tm_25 : Jvm.Cond.instantiable "KnotReader" (12 : Nat) ∈ jk_WA := jk_tb 25 (by decide +kernel) (by decide +kernel)
theorem tm_1223 : Jvm.Cond.instantiable "KnotReaderModel" (24 : Nat) ∈ jk_WA := jk_tb 1223 (by decide +kernel) (by decide +kernel)
theorem tm_26 : Jvm.Cond.methodLink "KnotReaderLaw" (130 : Nat) mn_KR_init ∈ jk_WA := jk_tb 26 (by decide +kernel) (by decide +kernel)
theorem tm_1224 : Jvm.Cond.methodLink "KnotReaderLaw" (133 : Nat) mn_Md_init ∈ jk_WA := jk_tb 1224 (by decide +kernel) (by decide +kernel)
theorem tm_24 : Jvm.Cond.classLink "KnotReaderLaw" (8 : Nat) "KnotReader" ∈ jk_WA := jk_tb 24 (by decide +kernel) (by decide +kernel)
theorem tm_27 : Jvm.Cond.instanceMethod mn_KR_init ∈ jk_WA := jk_tb 27 (by decide +kernel) (by decide +kernel)
theorem tm_28 : Jvm.Cond.code mn_KR_init prog_1_method_1_code (1 : Nat) none ∈ jk_WA := jk_tb 28 (by decide +kernel) (by decide +kernel)
theorem tm_1222 : Jvm.Cond.classLink "KnotReaderLaw" (131 : Nat) "KnotReaderModel" ∈ jk_WA := jk_tb 1222 (by decide +kernel) (by decide +kernel)
theorem tm_1225 : Jvm.Cond.instanceMethod mn_Md_init ∈ jk_WA := jk_tb 1225 (by decide +kernel) (by decide +kernel)
theorem tm_1226 : Jvm.Cond.code mn_Md_init prog_13_method_1_code (1 : Nat) none ∈ jk_WA := jk_tb 1226 (by decide +kernel) (by decide +kernel)
theorem tm_1899 : Jvm.Cond.arrayClass Jvm.ClassFile.FieldType.long ∈ jk_WA := jk_tb 1899 (by decide +kernel) (by decide +kernel)
set_option maxRecDepth 20000 in
theorem ini_Rel {q1 : (Int → Int) × Int} {q2 : Int × Int × Int × Int × Int × Int × (Int → Int) × Int × Int × (Int → Int) × (Int → Int) × (Int → Int) × (Int → Int) × (Int → Int)} {wm : Int → Int} (hx : ini_px q2 = true) (hm : ini_l wm 259 = ini_w) : Rel (jk_s0 q1 q2 0 wm) := by
  unfold ini_px at hx
  simp only [Bool.and_eq_true, decide_eq_true_eq] at hx
  obtain ⟨⟨⟨⟨⟨⟨⟨⟨h1, h2⟩, h3⟩, h4⟩, h5⟩, h6⟩, h7⟩, h8⟩, h9⟩ := hx
  have hN : pN q2.2.2.2.2.2.1 q2.2.2.2.2.2.2.1 wm := by rw [h1]; exact ini_N h2 hm
  have hC : pC q2.2.2.2.2.2.1 q2.2.2.2.2.2.2.2.1 q2.2.2.2.2.2.2.2.2.1 q2.2.2.2.2.2.2.2.2.2.1 q2.2.2.2.2.2.2.2.2.2.2.1 q2.2.2.2.2.2.2.2.2.2.2.2.1 q2.2.2.2.2.2.2.2.2.2.2.2.2.1 q2.2.2.2.2.2.2.2.2.2.2.2.2.2 wm := by rw [h1, h3, h4]; exact ini_C h5 h6 h7 h8 h9 hm
  have hD : pDr (fun _ => 0) (fun _ => 0) := ⟨rfl, fun j _ _ => jk_R0⟩
  exact ⟨⟨pB_0, rfl⟩, ⟨hN, hC⟩, ⟨⟨⟨Int.le_refl 0, (by decide : (0 : Int) < 8)⟩, ⟨Int.le_refl 0, (by decide : (0 : Int) ≤ 8)⟩, fun i h0 h1 => absurd h1 (Int.not_lt.mpr h0)⟩, rfl⟩, ⟨Or.inl rfl, rfl⟩, hD, ⟨⟨[], pO_nil _, pO_nil _, Nat.zero_le _⟩, rfl⟩, rfl, rfl⟩
theorem law_end {p : Program} {l : Launch} {e : Env} {s : State} {m : MethodId} {below : List Frame} {meth : Method} {c : Code} {b : Nat} {D : va_G} {tys : List (ClassId × FieldType)} {ws : va_W} {lv : List (Nat × Value)} {d1 : Drawn} {cells slots : Nat} (hd1 : s.drawn.sameBut d1 lw_cs) (C : jk_C p (s.setDrawn d1) m #[Value.ref b] meth c mb_Law_law "KnotReaderLaw" 9 jk_WA D jk_cl tys (fun q : Nat => s.heap.size ≤ q) ret) (h1 : cells ≤ room_1.cells) (h2 : slots ≤ room_1.slots) : jk_J p l e room_1 (s.setDrawn d1) m #[Value.ref b] below meth c cells slots (lw_Z below #[Value.ref b] s) D jk_cl (fun q : Nat => s.heap.size ≤ q) 9 ws lv 2790 [] := by
  refine jk_iconst C rd_Law_law_2790 ?_
  intro H locs ls hl hP hD hS
  refine va_forget (fun q hq => hS.2.2 q hq) ?_
  refine W.widen (k := 601024) (n := 7293034) h1 h2 ?_
  exact lw_ret hd1 C.1.1 C.1.2.1 C.2.2.2.1 C.2.2.2.2 rd_Law_law_2791
set_option maxHeartbeats 4000000 in
set_option maxRecDepth 20000 in
/-- one round of the law's loop: from the switch to its end -/
theorem law_sw {p : Program} {l : Launch} {e : Env} {s : State} {m : MethodId} {args : Array Value} {below : List Frame} {meth : Method} {c : Code} {Q : State → Prop} {D : va_G} {A : Nat → Prop} {ret : Option FieldType} {Z : (Nat → Prop) → State → Heap → Prop} {sq : Nat → Nat} {cI cR cL : ClassId} {g : Nat → Option Nat} {ad am : Nat → Nat} {b o L : Nat} {xs : Nat → Int32} {dd : Drawn} {cells slots : Nat} {i : Int} (C : jk_C p (s.setDrawn dd) m args meth c mb_Law_law "KnotReaderLaw" 9 jk_WA D jk_cl (jk_t3 cI cR cL) A ret) (hZ : jk_ZK Z sq) (hz : ∀ d : Drawn, Z A (s.setDrawn d) s.heap) (hX : va_X b L xs s s.heap) (hbl : b < s.heap.size) (hbA : ¬ A b) (hL : L ≤ 3072) (hl : l.stackTraces = false) (hNC : ∀ (A : Nat → Prop) (U : State) (H : Heap), Z A U H → ∀ x ∈ jk_ncs, va_Nc (jk_exc x.1) (jk_exc x.2) U) (hg : ∀ j, j < 8 → g j = some (ad (48 + 11 * j))) (hcs : cells + 20 ≤ room_1.cells ∧ slots + 120 ≤ room_1.slots) (hi : 0 ≤ i ∧ i + 6 ≤ (L : Int)) {d0 : Drawn} (hd0 : s.drawn.sameBut d0 lw_cs) {σ : jk_LS} {f : Nat → Int64} (hR : Rel σ) (v : Int) (hv : jk_R v)
    (kk : ∀ (d1 : Drawn) (σ' : jk_LS) (f' : Nat → Int64), s.drawn.sameBut d1 lw_cs → Rel σ' → jk_J p l e room_1 (s.setDrawn d1) m args below meth c (cells + 20) (slots + 120) Q D jk_cl A 9 (LW cI cR g ad am σ' ++ [(o, .inl (cL, 1, .inr (.inl f')))]) [(0, .ref b), (1, .ref (ad 0)), (2, .ref (am 0)), (3, .ref o), (4, jk_V i)] 2784 []) : jk_J p l e room_1 (s.setDrawn d0) m args below meth c (cells) (slots) Q D jk_cl A 9 (LW cI cR g ad am σ ++ [(o, .inl (cL, 1, .inr (.inl f)))]) [(0, .ref b), (1, .ref (ad 0)), (2, .ref (am 0)), (3, .ref o), (4, jk_V i)] 40 [jk_V v] := by
  have C0 := jk_dr (d1 := d0) C
  have hX0 : va_X b L xs (s.setDrawn d0) (s.setDrawn d0).heap := hX
  have kt : jk_J p l e room_1 (s.setDrawn d0) m args below meth c (cells) (slots) Q D jk_cl A 9 (LW cI cR g ad am σ ++ [(o, .inl (cL, 1, .inr (.inl f)))]) [(0, .ref b), (1, .ref (ad 0)), (2, .ref (am 0)), (3, .ref o), (4, jk_V i)] 2784 [] := jk_widen (Nat.le_add_right _ 20) (Nat.le_add_right _ 120) (kk d0 σ f hd0 hR)
  have k0 := fun (σ' : jk_LS) (f' : Nat → Int64) (h : Rel σ') => kk d0 σ' f' hd0 h
  by_cases hr : 0 ≤ v ∧ v < 55
  · obtain ⟨n, hn⟩ : ∃ n : Nat, v = (n : Int) := ⟨v.toNat, by omega⟩
    have hn55 : n < 55 := by omega
    match n, hn55, hn with
    | 0, _, hn => exact jk_tabIn (off := 236) (tgt := 276) C0 rd_Law_law_40 (k := 0) ⟨hv, hn⟩ (by decide +kernel) (by decide) (oc_0 C0 hZ (hz d0) hcs hX0 hbl hbA hL hi hl hNC hg hR k0)
    | 1, _, hn => exact jk_tabIn (off := 309) (tgt := 349) C0 rd_Law_law_40 (k := 1) ⟨hv, hn⟩ (by decide +kernel) (by decide) (oc_1 C0 hZ (hz d0) hcs hX0 hbl hbA hL hi hl hNC hg hR k0)
    | 2, _, hn => exact jk_tabIn (off := 334) (tgt := 374) C0 rd_Law_law_40 (k := 2) ⟨hv, hn⟩ (by decide +kernel) (by decide) (oc_2 C0 hZ (hz d0) hcs hX0 hbl hbA hL hi hl hNC hg hR k0)
    | 3, _, hn => exact jk_tabIn (off := 347) (tgt := 387) C0 rd_Law_law_40 (k := 3) ⟨hv, hn⟩ (by decide +kernel) (by decide) (oc_3 C0 hZ (hz d0) hcs hX0 hbl hbA hL hi hl hNC hg hR k0)
    | 4, _, hn => exact jk_tabIn (off := 360) (tgt := 400) C0 rd_Law_law_40 (k := 4) ⟨hv, hn⟩ (by decide +kernel) (by decide) (oc_4 C0 hZ (hz d0) hcs hX0 hbl hbA hL hi hl hNC hg hR k0)
    | 5, _, hn => exact jk_tabIn (off := 373) (tgt := 413) C0 rd_Law_law_40 (k := 5) ⟨hv, hn⟩ (by decide +kernel) (by decide) (oc_5 C0 hZ (hz d0) hcs hX0 hbl hbA hL hi hl hNC hg hR k0)
    | 6, _, hn => exact jk_tabIn (off := 386) (tgt := 426) C0 rd_Law_law_40 (k := 6) ⟨hv, hn⟩ (by decide +kernel) (by decide) (oc_6 C0 hZ (hz d0) hcs hX0 hbl hbA hL hi hl hNC hg hR k0)
    | 7, _, hn => exact jk_tabIn (off := 399) (tgt := 439) C0 rd_Law_law_40 (k := 7) ⟨hv, hn⟩ (by decide +kernel) (by decide) (oc_7 C0 hZ (hz d0) hcs hX0 hbl hbA hL hi hl hNC hg hR k0)
    | 8, _, hn => exact jk_tabIn (off := 412) (tgt := 452) C0 rd_Law_law_40 (k := 8) ⟨hv, hn⟩ (by decide +kernel) (by decide) (oc_8 C0 hZ (hz d0) hcs hX0 hbl hbA hL hi hl hNC hg hR k0)
    | 9, _, hn => exact jk_tabIn (off := 425) (tgt := 465) C0 rd_Law_law_40 (k := 9) ⟨hv, hn⟩ (by decide +kernel) (by decide) (oc_9 C0 hZ (hz d0) hcs hX0 hbl hbA hL hi hl hNC hg hR k0)
    | 10, _, hn => exact jk_tabIn (off := 438) (tgt := 478) C0 rd_Law_law_40 (k := 10) ⟨hv, hn⟩ (by decide +kernel) (by decide) (oc_10 C0 hZ (hz d0) hcs hX0 hbl hbA hL hi hl hNC hg hR k0)
    | 11, _, hn => exact jk_tabIn (off := 451) (tgt := 491) C0 rd_Law_law_40 (k := 11) ⟨hv, hn⟩ (by decide +kernel) (by decide) (oc_11 C0 hZ (hz d0) hcs hX0 hbl hbA hL hi hl hNC hg hR k0)
    | 12, _, hn => exact jk_tabIn (off := 464) (tgt := 504) C0 rd_Law_law_40 (k := 12) ⟨hv, hn⟩ (by decide +kernel) (by decide) (oc_12 C0 hZ (hz d0) hcs hX0 hbl hbA hL hi hl hNC hg hR k0)
    | 13, _, hn => exact jk_tabIn (off := 532) (tgt := 572) C0 rd_Law_law_40 (k := 13) ⟨hv, hn⟩ (by decide +kernel) (by decide) (oc_13 C0 hZ (hz d0) hcs hX0 hbl hbA hL hi hl hNC hg hR k0)
    | 14, _, hn => exact jk_tabIn (off := 588) (tgt := 628) C0 rd_Law_law_40 (k := 14) ⟨hv, hn⟩ (by decide +kernel) (by decide) (oc_14 C0 hZ (hz d0) hcs hX0 hbl hbA hL hi hl hNC hg hR k0)
    | 15, _, hn => exact jk_tabIn (off := 644) (tgt := 684) C0 rd_Law_law_40 (k := 15) ⟨hv, hn⟩ (by decide +kernel) (by decide) (oc_15 C0 hZ (hz d0) hcs hX0 hbl hbA hL hi hl hNC hg hR k0)
    | 16, _, hn => exact jk_tabIn (off := 700) (tgt := 740) C0 rd_Law_law_40 (k := 16) ⟨hv, hn⟩ (by decide +kernel) (by decide) (oc_16 C0 hZ (hz d0) hcs hX0 hbl hbA hL hi hl hNC hg hR k0)
    | 17, _, hn => exact jk_tabIn (off := 756) (tgt := 796) C0 rd_Law_law_40 (k := 17) ⟨hv, hn⟩ (by decide +kernel) (by decide) (oc_17 C0 hZ (hz d0) hcs hX0 hbl hbA hL hi hl hNC hg hR k0)
    | 18, _, hn => exact jk_tabIn (off := 812) (tgt := 852) C0 rd_Law_law_40 (k := 18) ⟨hv, hn⟩ (by decide +kernel) (by decide) (oc_18 C0 hZ (hz d0) hcs hX0 hbl hbA hL hi hl hNC hg hR k0)
    | 19, _, hn => exact jk_tabIn (off := 868) (tgt := 908) C0 rd_Law_law_40 (k := 19) ⟨hv, hn⟩ (by decide +kernel) (by decide) (oc_19 C0 hZ (hz d0) hcs hX0 hbl hbA hL hi hl hNC hg hR k0)
    | 20, _, hn => exact jk_tabIn (off := 924) (tgt := 964) C0 rd_Law_law_40 (k := 20) ⟨hv, hn⟩ (by decide +kernel) (by decide) (oc_20 C0 hZ (hz d0) hcs hX0 hbl hbA hL hi hl hNC hg hR k0)
    | 21, _, hn => exact jk_tabIn (off := 980) (tgt := 1020) C0 rd_Law_law_40 (k := 21) ⟨hv, hn⟩ (by decide +kernel) (by decide) (oc_21 C0 hZ (hz d0) hcs hX0 hbl hbA hL hi hl hNC hg hR k0)
    | 22, _, hn => exact jk_tabIn (off := 1036) (tgt := 1076) C0 rd_Law_law_40 (k := 22) ⟨hv, hn⟩ (by decide +kernel) (by decide) (oc_22 C0 hZ (hz d0) hcs hX0 hbl hbA hL hi hl hNC hg hR k0)
    | 23, _, hn => exact jk_tabIn (off := 1104) (tgt := 1144) C0 rd_Law_law_40 (k := 23) ⟨hv, hn⟩ (by decide +kernel) (by decide) (oc_23 C0 hZ (hz d0) hcs hX0 hbl hbA hL hi hl hNC hg hR k0)
    | 24, _, hn => exact jk_tabIn (off := 1167) (tgt := 1207) C0 rd_Law_law_40 (k := 24) ⟨hv, hn⟩ (by decide +kernel) (by decide) (oc_24 C0 hZ (hz d0) hcs hX0 hbl hbA hL hi hl hNC hg hR k0)
    | 25, _, hn => exact jk_tabIn (off := 1223) (tgt := 1263) C0 rd_Law_law_40 (k := 25) ⟨hv, hn⟩ (by decide +kernel) (by decide) (oc_25 C0 hZ (hz d0) hcs hX0 hbl hbA hL hi hl hNC hg hR k0)
    | 26, _, hn => exact jk_tabIn (off := 1279) (tgt := 1319) C0 rd_Law_law_40 (k := 26) ⟨hv, hn⟩ (by decide +kernel) (by decide) (oc_26 C0 hZ (hz d0) hcs hX0 hbl hbA hL hi hl hNC hg hR k0)
    | 27, _, hn => exact jk_tabIn (off := 1335) (tgt := 1375) C0 rd_Law_law_40 (k := 27) ⟨hv, hn⟩ (by decide +kernel) (by decide) (oc_27 C0 hZ (hz d0) hcs hX0 hbl hbA hL hi hl hNC hg hR k0)
    | 28, _, hn => exact jk_tabIn (off := 1391) (tgt := 1431) C0 rd_Law_law_40 (k := 28) ⟨hv, hn⟩ (by decide +kernel) (by decide) (oc_28 C0 hZ (hz d0) hcs hX0 hbl hbA hL hi hl hNC hg hR k0)
    | 29, _, hn => exact jk_tabIn (off := 1447) (tgt := 1487) C0 rd_Law_law_40 (k := 29) ⟨hv, hn⟩ (by decide +kernel) (by decide) (oc_29 C0 hZ (hz d0) hcs hX0 hbl hbA hL hi hl hNC hg hR k0)
    | 30, _, hn => exact jk_tabIn (off := 1503) (tgt := 1543) C0 rd_Law_law_40 (k := 30) ⟨hv, hn⟩ (by decide +kernel) (by decide) (oc_30 C0 hZ (hz d0) hcs hX0 hbl hbA hL hi hl hNC hg hR k0)
    | 31, _, hn => exact jk_tabIn (off := 1559) (tgt := 1599) C0 rd_Law_law_40 (k := 31) ⟨hv, hn⟩ (by decide +kernel) (by decide) (oc_31 C0 hZ (hz d0) hcs hX0 hbl hbA hL hi hl hNC hg hR k0)
    | 32, _, hn => exact jk_tabIn (off := 1615) (tgt := 1655) C0 rd_Law_law_40 (k := 32) ⟨hv, hn⟩ (by decide +kernel) (by decide) (oc_32 C0 hZ (hz d0) hcs hX0 hbl hbA hL hi hl hNC hg hR k0)
    | 33, _, hn => exact jk_tabIn (off := 1671) (tgt := 1711) C0 rd_Law_law_40 (k := 33) ⟨hv, hn⟩ (by decide +kernel) (by decide) (oc_33 C0 hZ (hz d0) hcs hX0 hbl hbA hL hi hl hNC hg hR k0)
    | 34, _, hn => exact jk_tabIn (off := 1727) (tgt := 1767) C0 rd_Law_law_40 (k := 34) ⟨hv, hn⟩ (by decide +kernel) (by decide) (oc_34 C0 hZ (hz d0) hcs hX0 hbl hbA hL hi hl hNC hg hR k0)
    | 35, _, hn => exact jk_tabIn (off := 1783) (tgt := 1823) C0 rd_Law_law_40 (k := 35) ⟨hv, hn⟩ (by decide +kernel) (by decide) (oc_35 C0 hZ (hz d0) hcs hX0 hbl hbA hL hi hl hNC hg hR k0)
    | 36, _, hn => exact jk_tabIn (off := 1839) (tgt := 1879) C0 rd_Law_law_40 (k := 36) ⟨hv, hn⟩ (by decide +kernel) (by decide) (oc_36 C0 hZ (hz d0) hcs hX0 hbl hbA hL hi hl hNC hg hR k0)
    | 37, _, hn => exact jk_tabIn (off := 1852) (tgt := 1892) C0 rd_Law_law_40 (k := 37) ⟨hv, hn⟩ (by decide +kernel) (by decide) (oc_37 C0 hZ (hz d0) hcs hX0 hbl hbA hL hi hl hNC hg hR k0)
    | 38, _, hn => exact jk_tabIn (off := 1865) (tgt := 1905) C0 rd_Law_law_40 (k := 38) ⟨hv, hn⟩ (by decide +kernel) (by decide) (fc_38 (L := L) (xs := xs) hd0 C0 hZ (hz d0) hcs hR kk)
    | 39, _, hn => exact jk_tabIn (off := 1906) (tgt := 1946) C0 rd_Law_law_40 (k := 39) ⟨hv, hn⟩ (by decide +kernel) (by decide) (fc_39 (L := L) (xs := xs) hd0 C0 hZ (hz d0) hcs hR kk)
    | 40, _, hn => exact jk_tabIn (off := 1949) (tgt := 1989) C0 rd_Law_law_40 (k := 40) ⟨hv, hn⟩ (by decide +kernel) (by decide) (oc_40 C0 hZ (hz d0) hcs hX0 hbl hbA hL hi hl hNC hg hR k0)
    | 41, _, hn => exact jk_tabIn (off := 1962) (tgt := 2002) C0 rd_Law_law_40 (k := 41) ⟨hv, hn⟩ (by decide +kernel) (by decide) (oc_41 C0 hZ (hz d0) hcs hX0 hbl hbA hL hi hl hNC hg hR k0)
    | 42, _, hn => exact jk_tabIn (off := 2006) (tgt := 2046) C0 rd_Law_law_40 (k := 42) ⟨hv, hn⟩ (by decide +kernel) (by decide) (oc_42 C0 hZ (hz d0) hcs hX0 hbl hbA hL hi hl hNC hg hR k0)
    | 43, _, hn => exact jk_tabIn (off := 2086) (tgt := 2126) C0 rd_Law_law_40 (k := 43) ⟨hv, hn⟩ (by decide +kernel) (by decide) (oc_43 C0 hZ (hz d0) hcs hX0 hbl hbA hL hi hl hNC hg hR k0)
    | 44, _, hn => exact jk_tabIn (off := 2166) (tgt := 2206) C0 rd_Law_law_40 (k := 44) ⟨hv, hn⟩ (by decide +kernel) (by decide) (oc_44 C0 hZ (hz d0) hcs hX0 hbl hbA hL hi hl hNC hg hR k0)
    | 45, _, hn => exact jk_tabIn (off := 2222) (tgt := 2262) C0 rd_Law_law_40 (k := 45) ⟨hv, hn⟩ (by decide +kernel) (by decide) (oc_45 C0 hZ (hz d0) hcs hX0 hbl hbA hL hi hl hNC hg hR k0)
    | 46, _, hn => exact jk_tabIn (off := 2290) (tgt := 2330) C0 rd_Law_law_40 (k := 46) ⟨hv, hn⟩ (by decide +kernel) (by decide) (oc_46 C0 hZ (hz d0) hcs hX0 hbl hbA hL hi hl hNC hg hR k0)
    | 47, _, hn => exact jk_tabIn (off := 2370) (tgt := 2410) C0 rd_Law_law_40 (k := 47) ⟨hv, hn⟩ (by decide +kernel) (by decide) (oc_47 C0 hZ (hz d0) hcs hX0 hbl hbA hL hi hl hNC hg hR k0)
    | 48, _, hn => exact jk_tabIn (off := 2438) (tgt := 2478) C0 rd_Law_law_40 (k := 48) ⟨hv, hn⟩ (by decide +kernel) (by decide) (oc_48 C0 hZ (hz d0) hcs hX0 hbl hbA hL hi hl hNC hg hR k0)
    | 49, _, hn => exact jk_tabIn (off := 2506) (tgt := 2546) C0 rd_Law_law_40 (k := 49) ⟨hv, hn⟩ (by decide +kernel) (by decide) (oc_49 C0 hZ (hz d0) hcs hX0 hbl hbA hL hi hl hNC hg hR k0)
    | 50, _, hn => exact jk_tabIn (off := 2562) (tgt := 2602) C0 rd_Law_law_40 (k := 50) ⟨hv, hn⟩ (by decide +kernel) (by decide) (oc_50 C0 hZ (hz d0) hcs hX0 hbl hbA hL hi hl hNC hg hR k0)
    | 51, _, hn => exact jk_tabIn (off := 2606) (tgt := 2646) C0 rd_Law_law_40 (k := 51) ⟨hv, hn⟩ (by decide +kernel) (by decide) (oc_51 C0 hZ (hz d0) hcs hX0 hbl hbA hL hi hl hNC hg hR k0)
    | 52, _, hn => exact jk_tabIn (off := 2662) (tgt := 2702) C0 rd_Law_law_40 (k := 52) ⟨hv, hn⟩ (by decide +kernel) (by decide) (oc_52 C0 hZ (hz d0) hcs hX0 hbl hbA hL hi hl hNC hg hR k0)
    | 53, _, hn => exact jk_tabIn (off := 2687) (tgt := 2727) C0 rd_Law_law_40 (k := 53) ⟨hv, hn⟩ (by decide +kernel) (by decide) (oc_53 C0 hZ (hz d0) hcs hX0 hbl hbA hL hi hl hNC hg hR k0)
    | 54, _, hn => exact jk_tabIn (off := 2700) (tgt := 2740) C0 rd_Law_law_40 (k := 54) ⟨hv, hn⟩ (by decide +kernel) (by decide) (oc_54 C0 hZ (hz d0) hcs hX0 hbl hbA hL hi hl hNC hg hR k0)
    | n + 55, h, _ => exact absurd h (by omega)
  · exact jk_tabOut (tgt := 2784) C0 rd_Law_law_40 hv (by omega) (by decide) kt
set_option maxHeartbeats 4000000 in
set_option maxRecDepth 20000 in
theorem law_loop {p : Program} {l : Launch} {e : Env} {s : State} {m : MethodId} {args : Array Value} {below : List Frame} {meth : Method} {c : Code} {Q : State → Prop} {D : va_G} {A : Nat → Prop} {ret : Option FieldType} {Z : (Nat → Prop) → State → Heap → Prop} {sq : Nat → Nat} {cI cR cL : ClassId} {g : Nat → Option Nat} {ad am : Nat → Nat} {b o L : Nat} {xs : Nat → Int32} {dd : Drawn} (C : jk_C p (s.setDrawn dd) m args meth c mb_Law_law "KnotReaderLaw" 9 jk_WA D jk_cl (jk_t3 cI cR cL) A ret) (hZ : jk_ZK Z sq) (hz : ∀ d : Drawn, Z A (s.setDrawn d) s.heap) (hX : va_X b L xs s s.heap) (hbl : b < s.heap.size) (hbA : ¬ A b) (hL : L ≤ 3072) (hl : l.stackTraces = false) (hNC : ∀ (A : Nat → Prop) (U : State) (H : Heap), Z A U H → ∀ x ∈ jk_ncs, va_Nc (jk_exc x.1) (jk_exc x.2) U) (hg : ∀ j, j < 8 → g j = some (ad (48 + 11 * j)))
    (hend : ∀ (d1 : Drawn) (σ' : jk_LS) (f' : Nat → Int64) (cells slots : Nat) (i : Int), s.drawn.sameBut d1 lw_cs → cells ≤ room_1.cells → slots ≤ room_1.slots → jk_J p l e room_1 (s.setDrawn d1) m args below meth c (cells) (slots) Q D jk_cl A 9 (LW cI cR g ad am σ' ++ [(o, .inl (cL, 1, .inr (.inl f')))]) [(0, .ref b), (1, .ref (ad 0)), (2, .ref (am 0)), (3, .ref o), (4, jk_V i)] 2790 []) :
    ∀ (n : Nat) (i : Int) (cells slots : Nat) (d0 : Drawn) (σ : jk_LS) (f : Nat → Int64), 0 ≤ i → (L : Int) - i < 6 * (n : Int) → i ≤ 4000 → cells + 20 * n ≤ room_1.cells → slots + 120 * n ≤ room_1.slots → s.drawn.sameBut d0 lw_cs → Rel σ → jk_J p l e room_1 (s.setDrawn d0) m args below meth c (cells) (slots) Q D jk_cl A 9 (LW cI cR g ad am σ ++ [(o, .inl (cL, 1, .inr (.inl f)))]) [(0, .ref b), (1, .ref (ad 0)), (2, .ref (am 0)), (3, .ref o), (4, jk_V i)] 23 [] := by
  intro n
  induction n with
  | zero =>
    intro i cells slots d0 σ f h0 h1 h2 h3 h4 hd0 hR
    have C0 := jk_dr (d1 := d0) C
    have hX0 : va_X b L xs (s.setDrawn d0) (s.setDrawn d0).heap := hX
    refine jk_iload C0 rd_Law_law_23 (k := 4) rfl ?_
    refine jk_aload_n C0 rd_Law_law_25 (k := 0) rfl ?_
    refine jk_slen2 C0 hX0 hbl hbA rd_Law_law_26 ?_
    refine jk_bipush C0 rd_Law_law_27 (by decide +kernel) ?_
    refine jk_isub C0 rd_Law_law_29 ?_
    refine jk_icmp_gt (a := some ()) (b := (none : Option Unit)) (o := ()) (tgt := 2790) C0 rd_Law_law_30 (by decide) (by unfold jk_lts; rw [if_pos ⟨⟨by omega, by omega⟩, ⟨by omega, by omega⟩⟩, if_pos (by omega)]) (fun _ _ => ?_) (fun h _ => absurd (show (L : Int) - 6 < i by omega) h)
    exact hend d0 σ f cells slots i hd0 (by omega) (by omega)
  | succ n ih =>
    intro i cells slots d0 σ f h0 h1 h2 h3 h4 hd0 hR
    have C0 := jk_dr (d1 := d0) C
    have hX0 : va_X b L xs (s.setDrawn d0) (s.setDrawn d0).heap := hX
    refine jk_iload C0 rd_Law_law_23 (k := 4) rfl ?_
    refine jk_aload_n C0 rd_Law_law_25 (k := 0) rfl ?_
    refine jk_slen2 C0 hX0 hbl hbA rd_Law_law_26 ?_
    refine jk_bipush C0 rd_Law_law_27 (by decide +kernel) ?_
    refine jk_isub C0 rd_Law_law_29 ?_
    by_cases hlt : (L : Int) - 6 < i
    · refine jk_icmp_gt (a := some ()) (b := (none : Option Unit)) (o := ()) (tgt := 2790) C0 rd_Law_law_30 (by decide) (by unfold jk_lts; rw [if_pos ⟨⟨by omega, by omega⟩, ⟨by omega, by omega⟩⟩, if_pos hlt]) (fun _ _ => ?_) (fun h _ => absurd hlt h)
      exact hend d0 σ f cells slots i hd0 (by omega) (by omega)
    · refine jk_icmp_gt (a := (none : Option Unit)) (b := some ()) (o := ()) (tgt := 2790) C0 rd_Law_law_30 (by decide) (by unfold jk_lts; rw [if_pos ⟨⟨by omega, by omega⟩, ⟨by omega, by omega⟩⟩, if_neg hlt]) (fun h _ => absurd h hlt) (fun _ _ => ?_)
      refine jk_aload_n C0 rd_Law_law_33 (k := 0) rfl ?_
      refine jk_iload C0 rd_Law_law_34 (k := 4) rfl ?_
      refine jk_sld C0 hX0 hbl hbA h0 (by omega) hL rd_Law_law_36 ?_
      refine jk_bipush C0 rd_Law_law_37 (by decide +kernel) ?_
      refine jk_iand C0 rd_Law_law_39 ?_
      refine law_sw C hZ hz hX hbl hbA hL hl hNC hg ⟨by omega, by omega⟩ ⟨h0, by omega⟩ hd0 hR _ (jk_Rof _) (fun d1 σ' f' hd1 hR' => ?_)
      have C1 := jk_dr (d1 := d1) C
      refine jk_iinc C1 rd_Law_law_2784 (k := 4) rfl (by decide) (lv' := [(4, jk_V (i + 6)), (0, .ref b), (1, .ref (ad 0)), (2, .ref (am 0)), (3, .ref o)]) rfl ?_
      refine jk_goto (tgt := 23) C1 rd_Law_law_2787 (by decide) ?_
      refine jk_lv (lv' := [(0, .ref b), (1, .ref (ad 0)), (2, .ref (am 0)), (3, .ref o), (4, jk_V (i + 6))]) [1, 2, 3, 4, 0] rfl ?_
      exact ih (i + 6) (cells + 20) (slots + 120) d1 σ' f' (by omega) (by omega) (by omega) (by omega) (by omega) hd1 hR' 
set_option maxRecDepth 20000 in
theorem law_known {s : State} {args : Array Value} (hts : ∀ w ∈ lw_tbl, w.before args s = true) : ∃ (D : va_G) (cI cR : ClassId), va_K D jk_cl (jk_ty cI cR) s := by
  have hw : ∀ {w : Cond}, w ∈ jk_WA → w.before args s = true := fun h => hts _ (List.mem_filter.mp h).1
  obtain ⟨c0, i0, k0⟩ := u_known (C := "KnotReader$Row") (T := tb_Row) (N := 1) (n := 1) hts (fun w h => (List.mem_filter.mp (in_Row w h)).1) (hw tm_39)
  obtain ⟨c2, i2, k2⟩ := u_known (C := "KnotReader$Topics") (T := tb_Topics) (N := 2) (n := 2) hts (fun w h => (List.mem_filter.mp (in_Topics w h)).1) (hw tm_92)
  obtain ⟨c3, i3, k3⟩ := u_known (C := "KnotReader$Text") (T := tb_Text) (N := 7) (n := 7) hts (fun w h => (List.mem_filter.mp (in_Text w h)).1) (hw tm_33)
  obtain ⟨c4, i4, k4⟩ := u_known (C := "KnotReader$Output") (T := tb_Output) (N := 2) (n := 2) hts (fun w h => (List.mem_filter.mp (in_Output w h)).1) (hw tm_75)
  obtain ⟨c5, i5, k5⟩ := u_known (C := "KnotReader$Cords") (T := tb_Cords) (N := 7) (n := 7) hts (fun w h => (List.mem_filter.mp (in_Cords w h)).1) (hw tm_109)
  obtain ⟨c6, i6, k6⟩ := u_known (C := "KnotReader$History") (T := tb_History) (N := 3) (n := 3) hts (fun w h => (List.mem_filter.mp (in_History w h)).1) (hw tm_151)
  obtain ⟨c7, i7, k7⟩ := u_known (C := "KnotReader$Script") (T := tb_Script) (N := 5) (n := 5) hts (fun w h => (List.mem_filter.mp (in_Script w h)).1) (hw tm_171)
  obtain ⟨c10, i10, k10⟩ := u_known (C := "KnotReader") (T := tb_KR) (N := 12) (n := 12) hts (fun w h => (List.mem_filter.mp (in_KR w h)).1) (hw tm_25)
  obtain ⟨c11, i11, k11⟩ := u_known (C := "KnotReaderModel") (T := tb_Md) (N := 24) (n := 24) hts (fun w h => (List.mem_filter.mp (in_Md w h)).1) (hw tm_1223)
  obtain ⟨cI, kI, mI, a1, a2, a3⟩ := Cond.arrayClass_spec (hw tm_48)
  obtain ⟨mR, cR, kR, b1, -, b3, b4, b5⟩ := Cond.arrayOver_spec (n := "KnotReader$Cords") (hts (.arrayOver (.object "KnotReader$Cords")) (List.mem_append_right _ (List.mem_of_getElem? (i := 157) (by decide +kernel))))
  refine ⟨(fun k => ([c0, c0, c2, c3, c4, c5, c6, c7, c0, c0, c10, c11] : List ClassId).getD k c0, fun k => ([i0, i0, i2, i3, i4, i5, i6, i7, i0, i0, i10, i11] : List (Nat → Nat)).getD k i0), cI, cR, fun k q hq => ?_, fun k q hq => ?_⟩
  · match k, hq with
    | 0, hq => cases hq; exact k0
    | 1, hq => cases hq; exact k0
    | 2, hq => cases hq; exact k2
    | 3, hq => cases hq; exact k3
    | 4, hq => cases hq; exact k4
    | 5, hq => cases hq; exact k5
    | 6, hq => cases hq; exact k6
    | 7, hq => cases hq; exact k7
    | 8, hq => cases hq; exact k0
    | 9, hq => cases hq; exact k0
    | 10, hq => cases hq; exact k10
    | 11, hq => cases hq; exact k11
    | k + 12, hq => simp at hq
  · match k, hq with
    | 0, hq => cases hq; exact ⟨fun n z => ⟨(fun k h => by cases h), kI, a2, mI, a3⟩, a1⟩
    | 1, hq => cases hq; exact ⟨fun n z => ⟨(fun k h => by cases h), kR, b3, mR, b4⟩, kR, mR, b3, b4, b1, b5⟩
    | k + 2, hq => simp at hq
theorem jk_newal {p : Program} {l : Launch} {e : Env} {R : Room} {s : State} {m : MethodId} {args : Array Value} {below : List Frame} {meth : Method} {c : Code} {cells slots : Nat} {Q : State → Prop} {D : va_G} {cl : List vw_C} {A : Nat → Prop} {nL : Nat} {ws : va_W} {lv : List (Nat × Value)} {pc : Nat} {st : List Value} {cc : ByteArray} {own : String} {tys : List (ClassId × FieldType)} {ret : Option FieldType} (C : jk_C p s m args meth c cc own nL jk_WA D cl tys A ret) (h1 : Cond.arrayClass .long ∈ jk_WA) (hcs : cells + 1 ≤ R.cells ∧ slots + 1 ≤ R.slots) (hdg : decode cc pc = .ok (.newarray .long, 2))
    (kk : ∀ (q : Nat) (cL : ClassId), jk_C p s m args meth c cc own nL jk_WA D cl (tys ++ [(cL, .long)]) A ret → jk_J p l e R s m args below meth c (cells + 1) (slots + 1) Q D cl A nL (ws ++ [(q, .inl (cL, 1, .inr (.inl (fun _ => 0))))]) lv (pc + 2) (.ref q :: st)) : jk_J p l e R s m args below meth c cells slots Q D cl A nL ws lv pc (jk_V 1 :: st) := by
  intro H locs ls hl hP hD hS
  refine va_newa (atype := .long) (ty := .long) (N' := 1) (a0 := (1, .inr (.inl (fun _ => 0)))) C.1.1 C.1.2.1 (C.1.2.2.2.2 _ h1) rfl C.2.1 hP hD hS C.2.2.1 (fun _ => rfl) (by decide +kernel) (by decide +kernel) (by decide) hcs.1 hcs.2 hdg (fun q cA H1 hK1 a1 a2 a3 => ?_)
  exact kk q cA ⟨C.1, hK1, C.2.2⟩ H1 locs ls hl a1 a2 a3
set_option maxHeartbeats 40000000 in
set_option maxRecDepth 20000 in
/-- THE LAW, from its entry -/
theorem whole_start {p : Program} {e : Env} {s : State} {m : MethodId} {below : List Frame} {meth : Method} {c : Code} (l : Launch) (hflags : l.flags = flags0) {b L : Nat} {xs : Nat → Int32} (hL : L ≤ 3072) (C0 : lw_At p s m meth c b L xs) : W p l e room_1 s m #[Value.ref b] below meth c s.heap [] 0 0 (lw_Z below #[Value.ref b] s) (entryFrame m ([Value.ref b] : List Value).toArray 9) := by
  obtain ⟨hx, hb, hr, hml, hown, hts, hX, hbl, hlocks, hgv⟩ := id C0
  have hl : l.stackTraces = false := by unfold Launch.stackTraces; rw [hflags]; decide +kernel
  refine W.base ?_
  have hd0 := Drawn.sameBut.refl s.drawn lw_cs
  obtain ⟨D, cI, cR, hK⟩ := law_known hts
  obtain ⟨sq, sv, hz0⟩ := zz_start hts hgv
  have hZ := zz_ZK sq sv
  have hO : ∀ (A : Nat → Prop) (U : State) (H : Heap), ZZ sq sv A U H → va_AO "KnotReader$Cords" U := fun A U H h => h.2.2.2.2.2.2.2.2.1
  have hNC : ∀ (A : Nat → Prop) (U : State) (H : Heap), ZZ sq sv A U H → ∀ x ∈ jk_ncs, va_Nc (jk_exc x.1) (jk_exc x.2) U := fun A U H h => h.2.2.2.2.2.2.2.2.2
  have hz : ∀ d : Drawn, ZZ sq sv (fun q : Nat => s.heap.size ≤ q) (s.setDrawn d) s.heap := fun d => (zz_ZC sq sv).1 _ s (s.setDrawn d) s.heap rfl hz0
  have hbA : ¬ (fun q : Nat => s.heap.size ≤ q) b := Nat.not_le.mpr hbl
  obtain ⟨kq_1, kq_2, x1, x2, x3⟩ := ini_x
  obtain ⟨q_1, q_2, q_3, q_4, q_5, q_6, q_7, q_8, q_9, q_10, q_11, q_12, y1, y2, y3, y4, y5, y6, y7, y8, y9, y10, y11, y12, yw⟩ := ini_m
  have C : jk_C p (s.setDrawn s.drawn) m #[Value.ref b] meth c mb_Law_law "KnotReaderLaw" 9 jk_WA D jk_cl (jk_ty cI cR) (fun q : Nat => s.heap.size ≤ q) ret := ⟨⟨hx, hb, hml, hown, fun w hw => (Cond.before_setDrawn _ s s.drawn w).trans (hts w (List.mem_filter.mp hw).1)⟩, va_K.moved (u := s) (U := s.setDrawn s.drawn) (Vm.Alike.refl _) hK, fun _ h => h, hr, hlocks⟩
  rw [lg_entry_eq]
  have J0 : jk_J p l e room_1 (s.setDrawn s.drawn) m #[Value.ref b] below meth c 0 0 (lw_Z below #[Value.ref b] s) D jk_cl (fun q : Nat => s.heap.size ≤ q) 9 [] [(0, .ref b)] 0 [] := by
    refine jk_new C in_KR ty_KR tm_24 tm_25 tm_1 (ci := 10) rfl (fs := [.null, .null, .null, .null, .null, .null, .null, .null, .null, jk_V 0, jk_V 0, jk_V 0]) (by intro j hj; rcases (show j = 0 ∨ j = 1 ∨ j = 2 ∨ j = 3 ∨ j = 4 ∨ j = 5 ∨ j = 6 ∨ j = 7 ∨ j = 8 ∨ j = 9 ∨ j = 10 ∨ j = 11 by omega) with rfl | rfl | rfl | rfl | rfl | rfl | rfl | rfl | rfl | rfl | rfl | rfl <;> rfl) ⟨Nat.le_of_ble_eq_true rfl, Nat.le_of_ble_eq_true rfl⟩ rd_Law_law_0 (fun ax => ?_)
    refine jk_dup C rd_Law_law_3 rfl ?_
    refine jk_callI C hZ.1 (hz _) (ci_KR l D (ZZ sq sv) sq hZ hO cI cR ax kq_1 kq_2 0 q_12.2 x1 x2 rfl) tm_26 tm_27 tm_1 tm_28 rfl na_KR_init ⟨Nat.le_of_ble_eq_true rfl, Nat.le_of_ble_eq_true rfl⟩ rfl [0] [] (wr := []) rfl rfl rfl rfl (by decide) (st := [.ref ax]) rfl (Nat.le_of_ble_eq_true rfl) rd_Law_law_4 ⟨Nat.le_of_ble_eq_true rfl, Nat.le_of_ble_eq_true rfl⟩ (fun u => ?_)
    refine jk_astore_n C rd_Law_law_7 (by decide) (lv' := [(1, .ref ax), (0, .ref b)]) rfl ?_
    refine jk_new C in_Md ty_Md tm_1222 tm_1223 tm_15 (ci := 11) rfl (fs := [.null, .null, .null, .null, jk_V 0, jk_V 0, jk_V 0, .null, jk_V 0, jk_V 0, jk_V 0, jk_V 0, jk_V 0, jk_V 0, jk_V 0, jk_V 0, jk_V 0, jk_V 0, .null, .null, .null, jk_V 0, .null, jk_V 0]) (by intro j hj; rcases (show j = 0 ∨ j = 1 ∨ j = 2 ∨ j = 3 ∨ j = 4 ∨ j = 5 ∨ j = 6 ∨ j = 7 ∨ j = 8 ∨ j = 9 ∨ j = 10 ∨ j = 11 ∨ j = 12 ∨ j = 13 ∨ j = 14 ∨ j = 15 ∨ j = 16 ∨ j = 17 ∨ j = 18 ∨ j = 19 ∨ j = 20 ∨ j = 21 ∨ j = 22 ∨ j = 23 by omega) with rfl | rfl | rfl | rfl | rfl | rfl | rfl | rfl | rfl | rfl | rfl | rfl | rfl | rfl | rfl | rfl | rfl | rfl | rfl | rfl | rfl | rfl | rfl | rfl <;> rfl) ⟨Nat.le_of_ble_eq_true rfl, Nat.le_of_ble_eq_true rfl⟩ rd_Law_law_8 (fun am => ?_)
    refine jk_dup C rd_Law_law_11 rfl ?_
    refine jk_callI C hZ.1 (hz _) (ci_Md l D (ZZ sq sv) sq hZ cI cR am kq_1 kq_2 0 q_1 q_2 q_3 q_4 q_5 q_6 q_7 q_8 q_9 q_10 q_11 q_12 y1 y2 y3 y4 y5 y6 y7 y8 y9 y10 y11 y12) tm_1224 tm_1225 tm_15 tm_1226 rfl na_Md_init ⟨Nat.le_of_ble_eq_true rfl, Nat.le_of_ble_eq_true rfl⟩ rfl [145] (List.range 145) (wr := WX cI cR u.1.2 (jk_cons ax u.1.1) (jk_s0 kq_1 kq_2 0 q_12.2)) rfl rfl rfl (by decide +kernel) (by decide +kernel) (st := [.ref am]) rfl (Nat.le_of_ble_eq_true rfl) rd_Law_law_12 ⟨Nat.le_of_ble_eq_true rfl, Nat.le_of_ble_eq_true rfl⟩ (fun u2 => ?_)
    refine jk_astore_n C rd_Law_law_15 (by decide) (lv' := [(2, .ref am), (1, .ref ax), (0, .ref b)]) rfl ?_
    refine jk_iconst C rd_Law_law_16 ?_
    refine jk_newal C tm_1899 ⟨Nat.le_of_ble_eq_true rfl, Nat.le_of_ble_eq_true rfl⟩ rd_Law_law_17 (fun o cL C3 => ?_)
    refine jk_astore_n C3 rd_Law_law_19 (by decide) (lv' := [(3, .ref o), (2, .ref am), (1, .ref ax), (0, .ref b)]) rfl ?_
    refine jk_iconst C3 rd_Law_law_20 ?_
    refine jk_istore C3 rd_Law_law_21 (by decide) (lv' := [(4, jk_V 0), (3, .ref o), (2, .ref am), (1, .ref ax), (0, .ref b)]) rfl ?_
    refine jk_lv (lv' := [(0, .ref b), (1, .ref ax), (2, .ref am), (3, .ref o), (4, jk_V 0)]) [4, 3, 2, 1, 0] rfl ?_
    have hRel : Rel (jk_s0 kq_1 kq_2 0 q_12.2) := ini_Rel x3 yw
    exact law_loop (g := u.1.2) (ad := jk_cons ax u.1.1) (am := jk_cons am u2) (cL := cL) C3 hZ hz hX hbl hbA hL hl hNC (fun j hj => (u.2 j hj).trans (by rw [show 48 + 11 * j = (47 + 11 * j) + 1 by omega]; rfl)) (fun d1 σ' f' cells slots i hd1 h1 h2 => law_end hd1 (jk_dr (d1 := d1) C3) h1 h2) 520 0 _ _ s.drawn (jk_s0 kq_1 kq_2 0 q_12.2) (fun _ => 0) (by decide) (by omega) (by decide) (Nat.le_of_ble_eq_true rfl) (Nat.le_of_ble_eq_true rfl) hd0 hRel
  exact J0 s.heap [] _ (lv_entry [.ref b] (Nat.le_of_ble_eq_true rfl)) (fun k q h => by simp at h) ⟨fun i j p q h => by simp at h, fun k q h => by simp at h⟩ va_S.rf
