set_option maxHeartbeats 4000000 in
set_option maxRecDepth 20000 in
theorem lc_41 {p : Program} {l : Launch} {e : Env} {s : State} {m : MethodId} {args : Array Value} {below : List Frame} {meth : Method} {c : Code} {cells slots : Nat} {Q : State → Prop} {D : va_G} {A : Nat → Prop} {ret : Option FieldType} {Z : (Nat → Prop) → State → Heap → Prop} {sq : Nat → Nat} {cI cR cL : ClassId} {g : Nat → Option Nat} {ad am : Nat → Nat} {b o L : Nat} {xs : Nat → Int32} {i : Int} (C : jk_C p s m args meth c mb_Law_law "KnotReaderLaw" 9 jk_WA D jk_cl (jk_t3 cI cR cL) A ret) (hZ : jk_ZK Z sq) (hz : Z A s s.heap) (hcs : cells + 20 ≤ room_1.cells ∧ slots + 120 ≤ room_1.slots) (hX : va_X b L xs s s.heap) (hbl : b < s.heap.size) (hbA : ¬ A b) (hL : L ≤ 3072) (hi : 0 ≤ i ∧ i + 6 ≤ (L : Int)) {σ σ1 σ2 σ3 : jk_LS} {f f1 : Nat → Int64} {t bb : Int} (htR : jk_R t) (ht : t = 0 → f1 0 = (jk_I bb).toInt64) (hA : jk_ME l D jk_cl (jk_t3 cI cR cL) Z mn_Law_addCluster (.codeWith mn_Law_addCluster mb_Law_addCluster 3 (some .int) [(0, 8, 11, 94)] :: jk_WA) (jk_rx 8 3 18 163) [.ref (ad 0), .ref o] (LW cI cR g ad am σ ++ [(o, .inl (cL, 1, .inr (.inl f)))]) (LW cI cR g ad am σ1 ++ [(o, .inl (cL, 1, .inr (.inl f1)))]) t 3 18) (hB : jk_MI l D jk_cl (jk_ty cI cR) Z mn_Md_addCluster (.code mn_Md_addCluster mb_Md_addCluster 1 (some .int) :: jk_WA) (jk_rm 2 45) [.ref (am 0)] (LW cI cR g ad am σ1) (LW cI cR g ad am σ2) bb) (hT : jk_MI l D jk_cl (jk_ty cI cR) Z mn_Md_thrown (.code mn_Md_thrown mb_Md_thrown 1 (some .int) :: jk_WA) (jk_rm 0 0) [.ref (am 0)] (LW cI cR g ad am σ2) (LW cI cR g ad am σ3) t) (kk : jk_J p l e room_1 s m args below meth c (cells + 20) (slots + 120) Q D jk_cl A 9 (LW cI cR g ad am σ3 ++ [(o, .inl (cL, 1, .inr (.inl f1)))]) [(0, .ref b), (1, .ref (ad 0)), (2, .ref (am 0)), (3, .ref o), (4, jk_V i)] 2784 []) : jk_J p l e room_1 s m args below meth c (cells) (slots) Q D jk_cl A 9 (LW cI cR g ad am σ ++ [(o, .inl (cL, 1, .inr (.inl f)))]) [(0, .ref b), (1, .ref (ad 0)), (2, .ref (am 0)), (3, .ref o), (4, jk_V i)] 2002 [] := by
  have C2 := jk_Csub C [0, 1] rfl (tys' := jk_ty cI cR)
  refine jk_aload_n C rd_Law_law_2002 (k := 1) rfl ?_
  refine jk_aload_n C rd_Law_law_2003 (k := 3) rfl ?_
  refine jk_callSW C hZ.1 hz hA tm_1089 tm_1090 tm_0 tm_1091 na_Law_addCluster ⟨Nat.le_of_ble_eq_true rfl, Nat.le_of_ble_eq_true rfl⟩ rfl (List.range 156) (lw_pq1 LW_len) nd156 (lw_fs1 LW_fst) (lw_pt1 LW_len LW_len) (st := []) rfl (Nat.le_of_ble_eq_true rfl) rd_Law_law_2004 ⟨by omega, by omega⟩ ?_
  refine jk_istore C rd_Law_law_2007 (by decide) (lv' := [(5, jk_V t), (0, .ref b), (1, .ref (ad 0)), (2, .ref (am 0)), (3, .ref o), (4, jk_V i)]) rfl ?_
  refine jk_aload_n C rd_Law_law_2009 (k := 3) rfl ?_
  refine jk_callVi C2 hZ.1 hz hB tm_1831 tm_1832 tm_1833 tm_15 tm_1834 na_Md_addCluster ⟨Nat.le_of_ble_eq_true rfl, Nat.le_of_ble_eq_true rfl⟩ rfl (List.range 155) (lw_pl LW_len) nd155 LW_fst (lw_put LW_len LW_len) 145 11 (lw_hd LW_len LW_m _) rfl rfl (st := []) rfl (Nat.le_of_ble_eq_true rfl) rd_Law_law_2010 ?_ ⟨by omega, by omega⟩
  refine jk_istore C rd_Law_law_2013 (by decide) (lv' := [(6, jk_V bb), (5, jk_V t), (0, .ref b), (1, .ref (ad 0)), (2, .ref (am 0)), (3, .ref o), (4, jk_V i)]) rfl ?_
  refine jk_aload_n C rd_Law_law_2015 (k := 4) rfl ?_
  refine jk_callVi C2 hZ.1 hz hT tm_1336 tm_1337 tm_1338 tm_15 tm_1339 na_Md_thrown ⟨Nat.le_of_ble_eq_true rfl, Nat.le_of_ble_eq_true rfl⟩ rfl (List.range 155) (lw_pl LW_len) nd155 LW_fst (lw_put LW_len LW_len) 145 11 (lw_hd LW_len LW_m _) rfl rfl (st := []) rfl (Nat.le_of_ble_eq_true rfl) rd_Law_law_2016 ?_ ⟨by omega, by omega⟩
  refine jk_iload C rd_Law_law_2019 (k := 1) rfl ?_
  refine jk_icmp_same (tgt := 2026) C rd_Law_law_2021 (by decide) ?_
  refine jk_iload C rd_Law_law_2026 (k := 1) rfl ?_
  by_cases h0 : t = 0
  · refine jk_if_ne (a := some ()) (b := (none : Option Unit)) (o := ()) (tgt := 2043) C rd_Law_law_2028 (by decide) (by unfold jk_eqs; rw [if_pos ⟨htR, jk_R0⟩, if_pos h0]) (fun h _ => absurd h0 h) (fun _ _ => ?_)
    refine jk_aload_n C rd_Law_law_2031 (k := 5) rfl ?_
    refine jk_iconst C rd_Law_law_2032 ?_
    refine jk_lald C 155 2 (lw_at LW_len _) rfl rd_Law_law_2033 ?_
    refine jk_iload C rd_Law_law_2034 (k := 0) rfl ?_
    refine jk_i2l C rd_Law_law_2036 ?_
    refine jk_lcmp C (ht h0) rd_Law_law_2037 ?_
    refine jk_if_eq (a := some ()) (b := (none : Option Unit)) (o := ()) (tgt := 2043) C rd_Law_law_2038 (by decide) (by decide +kernel) (fun _ _ => ?_) (fun h _ => absurd rfl h)
    refine jk_goto (tgt := 2784) C rd_Law_law_2043 (by decide) ?_
    refine jk_lv (lv' := [(0, .ref b), (1, .ref (ad 0)), (2, .ref (am 0)), (3, .ref o), (4, jk_V i)]) [2, 3, 4, 5, 6] rfl ?_
    exact jk_widen (by omega) (by omega) kk
  · refine jk_if_ne (a := (none : Option Unit)) (b := some ()) (o := ()) (tgt := 2043) C rd_Law_law_2028 (by decide) (by unfold jk_eqs; rw [if_pos ⟨htR, jk_R0⟩, if_neg h0]) (fun _ _ => ?_) (fun h _ => absurd h h0)
    refine jk_goto (tgt := 2784) C rd_Law_law_2043 (by decide) ?_
    refine jk_lv (lv' := [(0, .ref b), (1, .ref (ad 0)), (2, .ref (am 0)), (3, .ref o), (4, jk_V i)]) [2, 3, 4, 5, 6] rfl ?_
    exact jk_widen (by omega) (by omega) kk

set_option maxHeartbeats 4000000 in
set_option maxRecDepth 20000 in
theorem lc_42 {p : Program} {l : Launch} {e : Env} {s : State} {m : MethodId} {args : Array Value} {below : List Frame} {meth : Method} {c : Code} {cells slots : Nat} {Q : State → Prop} {D : va_G} {A : Nat → Prop} {ret : Option FieldType} {Z : (Nat → Prop) → State → Heap → Prop} {sq : Nat → Nat} {cI cR cL : ClassId} {g : Nat → Option Nat} {ad am : Nat → Nat} {b o L : Nat} {xs : Nat → Int32} {i : Int} (C : jk_C p s m args meth c mb_Law_law "KnotReaderLaw" 9 jk_WA D jk_cl (jk_t3 cI cR cL) A ret) (hZ : jk_ZK Z sq) (hz : Z A s s.heap) (hcs : cells + 20 ≤ room_1.cells ∧ slots + 120 ≤ room_1.slots) (hX : va_X b L xs s s.heap) (hbl : b < s.heap.size) (hbA : ¬ A b) (hL : L ≤ 3072) (hi : 0 ≤ i ∧ i + 6 ≤ (L : Int)) {σ σ1 σ2 σ3 : jk_LS} {f f1 : Nat → Int64} {t bb : Int} (htR : jk_R t) (ht : t = 0 → f1 0 = (jk_I bb).toInt64) (hA : jk_ME l D jk_cl (jk_t3 cI cR cL) Z mn_Law_addPendant (.codeWith mn_Law_addPendant mb_Law_addPendant 6 (some .int) [(0, 12, 15, 13), (0, 12, 19, 46), (0, 12, 23, 94)] :: jk_WA) (jk_rx 8 3 18 166) [.ref (ad 0), jk_V (xs (i + 1).toNat).toInt, jk_V (xs (i + 2).toNat).toInt, jk_V (xs (i + 3).toNat).toInt, .ref o] (LW cI cR g ad am σ ++ [(o, .inl (cL, 1, .inr (.inl f)))]) (LW cI cR g ad am σ1 ++ [(o, .inl (cL, 1, .inr (.inl f1)))]) t 3 18) (hB : jk_MI l D jk_cl (jk_ty cI cR) Z mn_Md_addPendant (.code mn_Md_addPendant mb_Md_addPendant 4 (some .int) :: jk_WA) (jk_rm 4 88) [.ref (am 0), jk_V (xs (i + 1).toNat).toInt, jk_V (xs (i + 2).toNat).toInt, jk_V (xs (i + 3).toNat).toInt] (LW cI cR g ad am σ1) (LW cI cR g ad am σ2) bb) (hT : jk_MI l D jk_cl (jk_ty cI cR) Z mn_Md_thrown (.code mn_Md_thrown mb_Md_thrown 1 (some .int) :: jk_WA) (jk_rm 0 0) [.ref (am 0)] (LW cI cR g ad am σ2) (LW cI cR g ad am σ3) t) (kk : jk_J p l e room_1 s m args below meth c (cells + 20) (slots + 120) Q D jk_cl A 9 (LW cI cR g ad am σ3 ++ [(o, .inl (cL, 1, .inr (.inl f1)))]) [(0, .ref b), (1, .ref (ad 0)), (2, .ref (am 0)), (3, .ref o), (4, jk_V i)] 2784 []) : jk_J p l e room_1 s m args below meth c (cells) (slots) Q D jk_cl A 9 (LW cI cR g ad am σ ++ [(o, .inl (cL, 1, .inr (.inl f)))]) [(0, .ref b), (1, .ref (ad 0)), (2, .ref (am 0)), (3, .ref o), (4, jk_V i)] 2046 [] := by
  have C2 := jk_Csub C [0, 1] rfl (tys' := jk_ty cI cR)
  refine jk_aload_n C rd_Law_law_2046 (k := 1) rfl ?_
  refine jk_aload_n C rd_Law_law_2047 (k := 0) rfl ?_
  refine jk_iload C rd_Law_law_2048 (k := 4) rfl ?_
  refine jk_iconst C rd_Law_law_2050 ?_
  refine jk_iadd C rd_Law_law_2051 ?_
  refine jk_sld C hX hbl hbA (by omega) (by omega) hL rd_Law_law_2052 ?_
  refine jk_aload_n C rd_Law_law_2053 (k := 0) rfl ?_
  refine jk_iload C rd_Law_law_2054 (k := 4) rfl ?_
  refine jk_iconst C rd_Law_law_2056 ?_
  refine jk_iadd C rd_Law_law_2057 ?_
  refine jk_sld C hX hbl hbA (by omega) (by omega) hL rd_Law_law_2058 ?_
  refine jk_aload_n C rd_Law_law_2059 (k := 0) rfl ?_
  refine jk_iload C rd_Law_law_2060 (k := 4) rfl ?_
  refine jk_iconst C rd_Law_law_2062 ?_
  refine jk_iadd C rd_Law_law_2063 ?_
  refine jk_sld C hX hbl hbA (by omega) (by omega) hL rd_Law_law_2064 ?_
  refine jk_aload_n C rd_Law_law_2065 (k := 3) rfl ?_
  refine jk_callSW C hZ.1 hz hA tm_1119 tm_1120 tm_0 tm_1121 na_Law_addPendant ⟨Nat.le_of_ble_eq_true rfl, Nat.le_of_ble_eq_true rfl⟩ rfl (List.range 156) (lw_pq1 LW_len) nd156 (lw_fs1 LW_fst) (lw_pt1 LW_len LW_len) (st := []) rfl (Nat.le_of_ble_eq_true rfl) rd_Law_law_2066 ⟨by omega, by omega⟩ ?_
  refine jk_istore C rd_Law_law_2069 (by decide) (lv' := [(5, jk_V t), (0, .ref b), (1, .ref (ad 0)), (2, .ref (am 0)), (3, .ref o), (4, jk_V i)]) rfl ?_
  refine jk_aload_n C rd_Law_law_2071 (k := 3) rfl ?_
  refine jk_aload_n C rd_Law_law_2072 (k := 1) rfl ?_
  refine jk_iload C rd_Law_law_2073 (k := 5) rfl ?_
  refine jk_iconst C rd_Law_law_2075 ?_
  refine jk_iadd C rd_Law_law_2076 ?_
  refine jk_sld C hX hbl hbA (by omega) (by omega) hL rd_Law_law_2077 ?_
  refine jk_aload_n C rd_Law_law_2078 (k := 1) rfl ?_
  refine jk_iload C rd_Law_law_2079 (k := 5) rfl ?_
  refine jk_iconst C rd_Law_law_2081 ?_
  refine jk_iadd C rd_Law_law_2082 ?_
  refine jk_sld C hX hbl hbA (by omega) (by omega) hL rd_Law_law_2083 ?_
  refine jk_aload_n C rd_Law_law_2084 (k := 1) rfl ?_
  refine jk_iload C rd_Law_law_2085 (k := 5) rfl ?_
  refine jk_iconst C rd_Law_law_2087 ?_
  refine jk_iadd C rd_Law_law_2088 ?_
  refine jk_sld C hX hbl hbA (by omega) (by omega) hL rd_Law_law_2089 ?_
  refine jk_callVi C2 hZ.1 hz hB tm_1835 tm_1836 tm_1837 tm_15 tm_1838 na_Md_addPendant ⟨Nat.le_of_ble_eq_true rfl, Nat.le_of_ble_eq_true rfl⟩ rfl (List.range 155) (lw_pl LW_len) nd155 LW_fst (lw_put LW_len LW_len) 145 11 (lw_hd LW_len LW_m _) rfl rfl (st := []) rfl (Nat.le_of_ble_eq_true rfl) rd_Law_law_2090 ?_ ⟨by omega, by omega⟩
  refine jk_istore C rd_Law_law_2093 (by decide) (lv' := [(6, jk_V bb), (5, jk_V t), (0, .ref b), (1, .ref (ad 0)), (2, .ref (am 0)), (3, .ref o), (4, jk_V i)]) rfl ?_
  refine jk_aload_n C rd_Law_law_2095 (k := 4) rfl ?_
  refine jk_callVi C2 hZ.1 hz hT tm_1336 tm_1337 tm_1338 tm_15 tm_1339 na_Md_thrown ⟨Nat.le_of_ble_eq_true rfl, Nat.le_of_ble_eq_true rfl⟩ rfl (List.range 155) (lw_pl LW_len) nd155 LW_fst (lw_put LW_len LW_len) 145 11 (lw_hd LW_len LW_m _) rfl rfl (st := []) rfl (Nat.le_of_ble_eq_true rfl) rd_Law_law_2096 ?_ ⟨by omega, by omega⟩
  refine jk_iload C rd_Law_law_2099 (k := 1) rfl ?_
  refine jk_icmp_same (tgt := 2106) C rd_Law_law_2101 (by decide) ?_
  refine jk_iload C rd_Law_law_2106 (k := 1) rfl ?_
  by_cases h0 : t = 0
  · refine jk_if_ne (a := some ()) (b := (none : Option Unit)) (o := ()) (tgt := 2123) C rd_Law_law_2108 (by decide) (by unfold jk_eqs; rw [if_pos ⟨htR, jk_R0⟩, if_pos h0]) (fun h _ => absurd h0 h) (fun _ _ => ?_)
    refine jk_aload_n C rd_Law_law_2111 (k := 5) rfl ?_
    refine jk_iconst C rd_Law_law_2112 ?_
    refine jk_lald C 155 2 (lw_at LW_len _) rfl rd_Law_law_2113 ?_
    refine jk_iload C rd_Law_law_2114 (k := 0) rfl ?_
    refine jk_i2l C rd_Law_law_2116 ?_
    refine jk_lcmp C (ht h0) rd_Law_law_2117 ?_
    refine jk_if_eq (a := some ()) (b := (none : Option Unit)) (o := ()) (tgt := 2123) C rd_Law_law_2118 (by decide) (by decide +kernel) (fun _ _ => ?_) (fun h _ => absurd rfl h)
    refine jk_goto (tgt := 2784) C rd_Law_law_2123 (by decide) ?_
    refine jk_lv (lv' := [(0, .ref b), (1, .ref (ad 0)), (2, .ref (am 0)), (3, .ref o), (4, jk_V i)]) [2, 3, 4, 5, 6] rfl ?_
    exact jk_widen (by omega) (by omega) kk
  · refine jk_if_ne (a := (none : Option Unit)) (b := some ()) (o := ()) (tgt := 2123) C rd_Law_law_2108 (by decide) (by unfold jk_eqs; rw [if_pos ⟨htR, jk_R0⟩, if_neg h0]) (fun _ _ => ?_) (fun h _ => absurd h h0)
    refine jk_goto (tgt := 2784) C rd_Law_law_2123 (by decide) ?_
    refine jk_lv (lv' := [(0, .ref b), (1, .ref (ad 0)), (2, .ref (am 0)), (3, .ref o), (4, jk_V i)]) [2, 3, 4, 5, 6] rfl ?_
    exact jk_widen (by omega) (by omega) kk

set_option maxHeartbeats 4000000 in
set_option maxRecDepth 20000 in
theorem lc_43 {p : Program} {l : Launch} {e : Env} {s : State} {m : MethodId} {args : Array Value} {below : List Frame} {meth : Method} {c : Code} {cells slots : Nat} {Q : State → Prop} {D : va_G} {A : Nat → Prop} {ret : Option FieldType} {Z : (Nat → Prop) → State → Heap → Prop} {sq : Nat → Nat} {cI cR cL : ClassId} {g : Nat → Option Nat} {ad am : Nat → Nat} {b o L : Nat} {xs : Nat → Int32} {i : Int} (C : jk_C p s m args meth c mb_Law_law "KnotReaderLaw" 9 jk_WA D jk_cl (jk_t3 cI cR cL) A ret) (hZ : jk_ZK Z sq) (hz : Z A s s.heap) (hcs : cells + 20 ≤ room_1.cells ∧ slots + 120 ≤ room_1.slots) (hX : va_X b L xs s s.heap) (hbl : b < s.heap.size) (hbA : ¬ A b) (hL : L ≤ 3072) (hi : 0 ≤ i ∧ i + 6 ≤ (L : Int)) {σ σ1 σ2 σ3 : jk_LS} {f f1 : Nat → Int64} {t bb : Int} (htR : jk_R t) (ht : t = 0 → f1 0 = (jk_I bb).toInt64) (hA : jk_ME l D jk_cl (jk_t3 cI cR cL) Z mn_Law_addSubsidiary (.codeWith mn_Law_addSubsidiary mb_Law_addSubsidiary 6 (some .int) [(0, 12, 15, 13), (0, 12, 19, 46), (0, 12, 23, 94)] :: jk_WA) (jk_rx 8 3 18 166) [.ref (ad 0), jk_V (xs (i + 1).toNat).toInt, jk_V (xs (i + 2).toNat).toInt, jk_V (xs (i + 3).toNat).toInt, .ref o] (LW cI cR g ad am σ ++ [(o, .inl (cL, 1, .inr (.inl f)))]) (LW cI cR g ad am σ1 ++ [(o, .inl (cL, 1, .inr (.inl f1)))]) t 3 18) (hB : jk_MI l D jk_cl (jk_ty cI cR) Z mn_Md_addSubsidiary (.code mn_Md_addSubsidiary mb_Md_addSubsidiary 4 (some .int) :: jk_WA) (jk_rm 3 72) [.ref (am 0), jk_V (xs (i + 1).toNat).toInt, jk_V (xs (i + 2).toNat).toInt, jk_V (xs (i + 3).toNat).toInt] (LW cI cR g ad am σ1) (LW cI cR g ad am σ2) bb) (hT : jk_MI l D jk_cl (jk_ty cI cR) Z mn_Md_thrown (.code mn_Md_thrown mb_Md_thrown 1 (some .int) :: jk_WA) (jk_rm 0 0) [.ref (am 0)] (LW cI cR g ad am σ2) (LW cI cR g ad am σ3) t) (kk : jk_J p l e room_1 s m args below meth c (cells + 20) (slots + 120) Q D jk_cl A 9 (LW cI cR g ad am σ3 ++ [(o, .inl (cL, 1, .inr (.inl f1)))]) [(0, .ref b), (1, .ref (ad 0)), (2, .ref (am 0)), (3, .ref o), (4, jk_V i)] 2784 []) : jk_J p l e room_1 s m args below meth c (cells) (slots) Q D jk_cl A 9 (LW cI cR g ad am σ ++ [(o, .inl (cL, 1, .inr (.inl f)))]) [(0, .ref b), (1, .ref (ad 0)), (2, .ref (am 0)), (3, .ref o), (4, jk_V i)] 2126 [] := by
  have C2 := jk_Csub C [0, 1] rfl (tys' := jk_ty cI cR)
  refine jk_aload_n C rd_Law_law_2126 (k := 1) rfl ?_
  refine jk_aload_n C rd_Law_law_2127 (k := 0) rfl ?_
  refine jk_iload C rd_Law_law_2128 (k := 4) rfl ?_
  refine jk_iconst C rd_Law_law_2130 ?_
  refine jk_iadd C rd_Law_law_2131 ?_
  refine jk_sld C hX hbl hbA (by omega) (by omega) hL rd_Law_law_2132 ?_
  refine jk_aload_n C rd_Law_law_2133 (k := 0) rfl ?_
  refine jk_iload C rd_Law_law_2134 (k := 4) rfl ?_
  refine jk_iconst C rd_Law_law_2136 ?_
  refine jk_iadd C rd_Law_law_2137 ?_
  refine jk_sld C hX hbl hbA (by omega) (by omega) hL rd_Law_law_2138 ?_
  refine jk_aload_n C rd_Law_law_2139 (k := 0) rfl ?_
  refine jk_iload C rd_Law_law_2140 (k := 4) rfl ?_
  refine jk_iconst C rd_Law_law_2142 ?_
  refine jk_iadd C rd_Law_law_2143 ?_
  refine jk_sld C hX hbl hbA (by omega) (by omega) hL rd_Law_law_2144 ?_
  refine jk_aload_n C rd_Law_law_2145 (k := 3) rfl ?_
  refine jk_callSW C hZ.1 hz hA tm_1126 tm_1127 tm_0 tm_1128 na_Law_addSubsidiary ⟨Nat.le_of_ble_eq_true rfl, Nat.le_of_ble_eq_true rfl⟩ rfl (List.range 156) (lw_pq1 LW_len) nd156 (lw_fs1 LW_fst) (lw_pt1 LW_len LW_len) (st := []) rfl (Nat.le_of_ble_eq_true rfl) rd_Law_law_2146 ⟨by omega, by omega⟩ ?_
  refine jk_istore C rd_Law_law_2149 (by decide) (lv' := [(5, jk_V t), (0, .ref b), (1, .ref (ad 0)), (2, .ref (am 0)), (3, .ref o), (4, jk_V i)]) rfl ?_
  refine jk_aload_n C rd_Law_law_2151 (k := 3) rfl ?_
  refine jk_aload_n C rd_Law_law_2152 (k := 1) rfl ?_
  refine jk_iload C rd_Law_law_2153 (k := 5) rfl ?_
  refine jk_iconst C rd_Law_law_2155 ?_
  refine jk_iadd C rd_Law_law_2156 ?_
  refine jk_sld C hX hbl hbA (by omega) (by omega) hL rd_Law_law_2157 ?_
  refine jk_aload_n C rd_Law_law_2158 (k := 1) rfl ?_
  refine jk_iload C rd_Law_law_2159 (k := 5) rfl ?_
  refine jk_iconst C rd_Law_law_2161 ?_
  refine jk_iadd C rd_Law_law_2162 ?_
  refine jk_sld C hX hbl hbA (by omega) (by omega) hL rd_Law_law_2163 ?_
  refine jk_aload_n C rd_Law_law_2164 (k := 1) rfl ?_
  refine jk_iload C rd_Law_law_2165 (k := 5) rfl ?_
  refine jk_iconst C rd_Law_law_2167 ?_
  refine jk_iadd C rd_Law_law_2168 ?_
  refine jk_sld C hX hbl hbA (by omega) (by omega) hL rd_Law_law_2169 ?_
  refine jk_callVi C2 hZ.1 hz hB tm_1843 tm_1844 tm_1845 tm_15 tm_1846 na_Md_addSubsidiary ⟨Nat.le_of_ble_eq_true rfl, Nat.le_of_ble_eq_true rfl⟩ rfl (List.range 155) (lw_pl LW_len) nd155 LW_fst (lw_put LW_len LW_len) 145 11 (lw_hd LW_len LW_m _) rfl rfl (st := []) rfl (Nat.le_of_ble_eq_true rfl) rd_Law_law_2170 ?_ ⟨by omega, by omega⟩
  refine jk_istore C rd_Law_law_2173 (by decide) (lv' := [(6, jk_V bb), (5, jk_V t), (0, .ref b), (1, .ref (ad 0)), (2, .ref (am 0)), (3, .ref o), (4, jk_V i)]) rfl ?_
  refine jk_aload_n C rd_Law_law_2175 (k := 4) rfl ?_
  refine jk_callVi C2 hZ.1 hz hT tm_1336 tm_1337 tm_1338 tm_15 tm_1339 na_Md_thrown ⟨Nat.le_of_ble_eq_true rfl, Nat.le_of_ble_eq_true rfl⟩ rfl (List.range 155) (lw_pl LW_len) nd155 LW_fst (lw_put LW_len LW_len) 145 11 (lw_hd LW_len LW_m _) rfl rfl (st := []) rfl (Nat.le_of_ble_eq_true rfl) rd_Law_law_2176 ?_ ⟨by omega, by omega⟩
  refine jk_iload C rd_Law_law_2179 (k := 1) rfl ?_
  refine jk_icmp_same (tgt := 2186) C rd_Law_law_2181 (by decide) ?_
  refine jk_iload C rd_Law_law_2186 (k := 1) rfl ?_
  by_cases h0 : t = 0
  · refine jk_if_ne (a := some ()) (b := (none : Option Unit)) (o := ()) (tgt := 2203) C rd_Law_law_2188 (by decide) (by unfold jk_eqs; rw [if_pos ⟨htR, jk_R0⟩, if_pos h0]) (fun h _ => absurd h0 h) (fun _ _ => ?_)
    refine jk_aload_n C rd_Law_law_2191 (k := 5) rfl ?_
    refine jk_iconst C rd_Law_law_2192 ?_
    refine jk_lald C 155 2 (lw_at LW_len _) rfl rd_Law_law_2193 ?_
    refine jk_iload C rd_Law_law_2194 (k := 0) rfl ?_
    refine jk_i2l C rd_Law_law_2196 ?_
    refine jk_lcmp C (ht h0) rd_Law_law_2197 ?_
    refine jk_if_eq (a := some ()) (b := (none : Option Unit)) (o := ()) (tgt := 2203) C rd_Law_law_2198 (by decide) (by decide +kernel) (fun _ _ => ?_) (fun h _ => absurd rfl h)
    refine jk_goto (tgt := 2784) C rd_Law_law_2203 (by decide) ?_
    refine jk_lv (lv' := [(0, .ref b), (1, .ref (ad 0)), (2, .ref (am 0)), (3, .ref o), (4, jk_V i)]) [2, 3, 4, 5, 6] rfl ?_
    exact jk_widen (by omega) (by omega) kk
  · refine jk_if_ne (a := (none : Option Unit)) (b := some ()) (o := ()) (tgt := 2203) C rd_Law_law_2188 (by decide) (by unfold jk_eqs; rw [if_pos ⟨htR, jk_R0⟩, if_neg h0]) (fun _ _ => ?_) (fun h _ => absurd h h0)
    refine jk_goto (tgt := 2784) C rd_Law_law_2203 (by decide) ?_
    refine jk_lv (lv' := [(0, .ref b), (1, .ref (ad 0)), (2, .ref (am 0)), (3, .ref o), (4, jk_V i)]) [2, 3, 4, 5, 6] rfl ?_
    exact jk_widen (by omega) (by omega) kk

set_option maxHeartbeats 4000000 in
set_option maxRecDepth 20000 in
theorem lc_44 {p : Program} {l : Launch} {e : Env} {s : State} {m : MethodId} {args : Array Value} {below : List Frame} {meth : Method} {c : Code} {cells slots : Nat} {Q : State → Prop} {D : va_G} {A : Nat → Prop} {ret : Option FieldType} {Z : (Nat → Prop) → State → Heap → Prop} {sq : Nat → Nat} {cI cR cL : ClassId} {g : Nat → Option Nat} {ad am : Nat → Nat} {b o L : Nat} {xs : Nat → Int32} {i : Int} (C : jk_C p s m args meth c mb_Law_law "KnotReaderLaw" 9 jk_WA D jk_cl (jk_t3 cI cR cL) A ret) (hZ : jk_ZK Z sq) (hz : Z A s s.heap) (hcs : cells + 20 ≤ room_1.cells ∧ slots + 120 ≤ room_1.slots) (hX : va_X b L xs s s.heap) (hbl : b < s.heap.size) (hbA : ¬ A b) (hL : L ≤ 3072) (hi : 0 ≤ i ∧ i + 6 ≤ (L : Int)) {σ σ1 σ2 σ3 : jk_LS} {f f1 : Nat → Int64} {t bb : Int} (htR : jk_R t) (ht : t = 0 → f1 0 = (jk_I bb).toInt64) (hA : jk_ME l D jk_cl (jk_t3 cI cR cL) Z mn_Law_cut (.codeWith mn_Law_cut mb_Law_cut 4 (some .int) [(0, 9, 12, 13)] :: jk_WA) (jk_rx 8 3 18 164) [.ref (ad 0), jk_V (xs (i + 1).toNat).toInt, .ref o] (LW cI cR g ad am σ ++ [(o, .inl (cL, 1, .inr (.inl f)))]) (LW cI cR g ad am σ1 ++ [(o, .inl (cL, 1, .inr (.inl f1)))]) t 3 18) (hB : jk_MI l D jk_cl (jk_ty cI cR) Z mn_Md_cut (.code mn_Md_cut mb_Md_cut 2 (some .int) :: jk_WA) (jk_rm 3 65) [.ref (am 0), jk_V (xs (i + 1).toNat).toInt] (LW cI cR g ad am σ1) (LW cI cR g ad am σ2) bb) (hT : jk_MI l D jk_cl (jk_ty cI cR) Z mn_Md_thrown (.code mn_Md_thrown mb_Md_thrown 1 (some .int) :: jk_WA) (jk_rm 0 0) [.ref (am 0)] (LW cI cR g ad am σ2) (LW cI cR g ad am σ3) t) (kk : jk_J p l e room_1 s m args below meth c (cells + 20) (slots + 120) Q D jk_cl A 9 (LW cI cR g ad am σ3 ++ [(o, .inl (cL, 1, .inr (.inl f1)))]) [(0, .ref b), (1, .ref (ad 0)), (2, .ref (am 0)), (3, .ref o), (4, jk_V i)] 2784 []) : jk_J p l e room_1 s m args below meth c (cells) (slots) Q D jk_cl A 9 (LW cI cR g ad am σ ++ [(o, .inl (cL, 1, .inr (.inl f)))]) [(0, .ref b), (1, .ref (ad 0)), (2, .ref (am 0)), (3, .ref o), (4, jk_V i)] 2206 [] := by
  have C2 := jk_Csub C [0, 1] rfl (tys' := jk_ty cI cR)
  refine jk_aload_n C rd_Law_law_2206 (k := 1) rfl ?_
  refine jk_aload_n C rd_Law_law_2207 (k := 0) rfl ?_
  refine jk_iload C rd_Law_law_2208 (k := 4) rfl ?_
  refine jk_iconst C rd_Law_law_2210 ?_
  refine jk_iadd C rd_Law_law_2211 ?_
  refine jk_sld C hX hbl hbA (by omega) (by omega) hL rd_Law_law_2212 ?_
  refine jk_aload_n C rd_Law_law_2213 (k := 3) rfl ?_
  refine jk_callSW C hZ.1 hz hA tm_1133 tm_1134 tm_0 tm_1135 na_Law_cut ⟨Nat.le_of_ble_eq_true rfl, Nat.le_of_ble_eq_true rfl⟩ rfl (List.range 156) (lw_pq1 LW_len) nd156 (lw_fs1 LW_fst) (lw_pt1 LW_len LW_len) (st := []) rfl (Nat.le_of_ble_eq_true rfl) rd_Law_law_2214 ⟨by omega, by omega⟩ ?_
  refine jk_istore C rd_Law_law_2217 (by decide) (lv' := [(5, jk_V t), (0, .ref b), (1, .ref (ad 0)), (2, .ref (am 0)), (3, .ref o), (4, jk_V i)]) rfl ?_
  refine jk_aload_n C rd_Law_law_2219 (k := 3) rfl ?_
  refine jk_aload_n C rd_Law_law_2220 (k := 1) rfl ?_
  refine jk_iload C rd_Law_law_2221 (k := 5) rfl ?_
  refine jk_iconst C rd_Law_law_2223 ?_
  refine jk_iadd C rd_Law_law_2224 ?_
  refine jk_sld C hX hbl hbA (by omega) (by omega) hL rd_Law_law_2225 ?_
  refine jk_callVi C2 hZ.1 hz hB tm_1847 tm_1848 tm_1849 tm_15 tm_1850 na_Md_cut ⟨Nat.le_of_ble_eq_true rfl, Nat.le_of_ble_eq_true rfl⟩ rfl (List.range 155) (lw_pl LW_len) nd155 LW_fst (lw_put LW_len LW_len) 145 11 (lw_hd LW_len LW_m _) rfl rfl (st := []) rfl (Nat.le_of_ble_eq_true rfl) rd_Law_law_2226 ?_ ⟨by omega, by omega⟩
  refine jk_istore C rd_Law_law_2229 (by decide) (lv' := [(6, jk_V bb), (5, jk_V t), (0, .ref b), (1, .ref (ad 0)), (2, .ref (am 0)), (3, .ref o), (4, jk_V i)]) rfl ?_
  refine jk_aload_n C rd_Law_law_2231 (k := 4) rfl ?_
  refine jk_callVi C2 hZ.1 hz hT tm_1336 tm_1337 tm_1338 tm_15 tm_1339 na_Md_thrown ⟨Nat.le_of_ble_eq_true rfl, Nat.le_of_ble_eq_true rfl⟩ rfl (List.range 155) (lw_pl LW_len) nd155 LW_fst (lw_put LW_len LW_len) 145 11 (lw_hd LW_len LW_m _) rfl rfl (st := []) rfl (Nat.le_of_ble_eq_true rfl) rd_Law_law_2232 ?_ ⟨by omega, by omega⟩
  refine jk_iload C rd_Law_law_2235 (k := 1) rfl ?_
  refine jk_icmp_same (tgt := 2242) C rd_Law_law_2237 (by decide) ?_
  refine jk_iload C rd_Law_law_2242 (k := 1) rfl ?_
  by_cases h0 : t = 0
  · refine jk_if_ne (a := some ()) (b := (none : Option Unit)) (o := ()) (tgt := 2259) C rd_Law_law_2244 (by decide) (by unfold jk_eqs; rw [if_pos ⟨htR, jk_R0⟩, if_pos h0]) (fun h _ => absurd h0 h) (fun _ _ => ?_)
    refine jk_aload_n C rd_Law_law_2247 (k := 5) rfl ?_
    refine jk_iconst C rd_Law_law_2248 ?_
    refine jk_lald C 155 2 (lw_at LW_len _) rfl rd_Law_law_2249 ?_
    refine jk_iload C rd_Law_law_2250 (k := 0) rfl ?_
    refine jk_i2l C rd_Law_law_2252 ?_
    refine jk_lcmp C (ht h0) rd_Law_law_2253 ?_
    refine jk_if_eq (a := some ()) (b := (none : Option Unit)) (o := ()) (tgt := 2259) C rd_Law_law_2254 (by decide) (by decide +kernel) (fun _ _ => ?_) (fun h _ => absurd rfl h)
    refine jk_goto (tgt := 2784) C rd_Law_law_2259 (by decide) ?_
    refine jk_lv (lv' := [(0, .ref b), (1, .ref (ad 0)), (2, .ref (am 0)), (3, .ref o), (4, jk_V i)]) [2, 3, 4, 5, 6] rfl ?_
    exact jk_widen (by omega) (by omega) kk
  · refine jk_if_ne (a := (none : Option Unit)) (b := some ()) (o := ()) (tgt := 2259) C rd_Law_law_2244 (by decide) (by unfold jk_eqs; rw [if_pos ⟨htR, jk_R0⟩, if_neg h0]) (fun _ _ => ?_) (fun h _ => absurd h h0)
    refine jk_goto (tgt := 2784) C rd_Law_law_2259 (by decide) ?_
    refine jk_lv (lv' := [(0, .ref b), (1, .ref (ad 0)), (2, .ref (am 0)), (3, .ref o), (4, jk_V i)]) [2, 3, 4, 5, 6] rfl ?_
    exact jk_widen (by omega) (by omega) kk

set_option maxHeartbeats 4000000 in
set_option maxRecDepth 20000 in
theorem lc_45 {p : Program} {l : Launch} {e : Env} {s : State} {m : MethodId} {args : Array Value} {below : List Frame} {meth : Method} {c : Code} {cells slots : Nat} {Q : State → Prop} {D : va_G} {A : Nat → Prop} {ret : Option FieldType} {Z : (Nat → Prop) → State → Heap → Prop} {sq : Nat → Nat} {cI cR cL : ClassId} {g : Nat → Option Nat} {ad am : Nat → Nat} {b o L : Nat} {xs : Nat → Int32} {i : Int} (C : jk_C p s m args meth c mb_Law_law "KnotReaderLaw" 9 jk_WA D jk_cl (jk_t3 cI cR cL) A ret) (hZ : jk_ZK Z sq) (hz : Z A s s.heap) (hcs : cells + 20 ≤ room_1.cells ∧ slots + 120 ≤ room_1.slots) (hX : va_X b L xs s s.heap) (hbl : b < s.heap.size) (hbA : ¬ A b) (hL : L ≤ 3072) (hi : 0 ≤ i ∧ i + 6 ≤ (L : Int)) {σ σ1 σ2 σ3 : jk_LS} {f f1 : Nat → Int64} {t bb : Int} (htR : jk_R t) (ht : t = 0 → f1 0 = (jk_I bb).toInt64) (hA : jk_ME l D jk_cl (jk_t3 cI cR cL) Z mn_Law_tieTop (.codeWith mn_Law_tieTop mb_Law_tieTop 5 (some .int) [(0, 10, 13, 13), (0, 10, 17, 94)] :: jk_WA) (jk_rx 8 3 18 165) [.ref (ad 0), jk_V (xs (i + 1).toNat).toInt, jk_V (xs (i + 2).toNat).toInt, .ref o] (LW cI cR g ad am σ ++ [(o, .inl (cL, 1, .inr (.inl f)))]) (LW cI cR g ad am σ1 ++ [(o, .inl (cL, 1, .inr (.inl f1)))]) t 3 18) (hB : jk_MI l D jk_cl (jk_ty cI cR) Z mn_Md_tieTop (.code mn_Md_tieTop mb_Md_tieTop 3 (some .int) :: jk_WA) (jk_rm 7 155) [.ref (am 0), jk_V (xs (i + 1).toNat).toInt, jk_V (xs (i + 2).toNat).toInt] (LW cI cR g ad am σ1) (LW cI cR g ad am σ2) bb) (hT : jk_MI l D jk_cl (jk_ty cI cR) Z mn_Md_thrown (.code mn_Md_thrown mb_Md_thrown 1 (some .int) :: jk_WA) (jk_rm 0 0) [.ref (am 0)] (LW cI cR g ad am σ2) (LW cI cR g ad am σ3) t) (kk : jk_J p l e room_1 s m args below meth c (cells + 20) (slots + 120) Q D jk_cl A 9 (LW cI cR g ad am σ3 ++ [(o, .inl (cL, 1, .inr (.inl f1)))]) [(0, .ref b), (1, .ref (ad 0)), (2, .ref (am 0)), (3, .ref o), (4, jk_V i)] 2784 []) : jk_J p l e room_1 s m args below meth c (cells) (slots) Q D jk_cl A 9 (LW cI cR g ad am σ ++ [(o, .inl (cL, 1, .inr (.inl f)))]) [(0, .ref b), (1, .ref (ad 0)), (2, .ref (am 0)), (3, .ref o), (4, jk_V i)] 2262 [] := by
  have C2 := jk_Csub C [0, 1] rfl (tys' := jk_ty cI cR)
  refine jk_aload_n C rd_Law_law_2262 (k := 1) rfl ?_
  refine jk_aload_n C rd_Law_law_2263 (k := 0) rfl ?_
  refine jk_iload C rd_Law_law_2264 (k := 4) rfl ?_
  refine jk_iconst C rd_Law_law_2266 ?_
  refine jk_iadd C rd_Law_law_2267 ?_
  refine jk_sld C hX hbl hbA (by omega) (by omega) hL rd_Law_law_2268 ?_
  refine jk_aload_n C rd_Law_law_2269 (k := 0) rfl ?_
  refine jk_iload C rd_Law_law_2270 (k := 4) rfl ?_
  refine jk_iconst C rd_Law_law_2272 ?_
  refine jk_iadd C rd_Law_law_2273 ?_
  refine jk_sld C hX hbl hbA (by omega) (by omega) hL rd_Law_law_2274 ?_
  refine jk_aload_n C rd_Law_law_2275 (k := 3) rfl ?_
  refine jk_callSW C hZ.1 hz hA tm_1140 tm_1141 tm_0 tm_1142 na_Law_tieTop ⟨Nat.le_of_ble_eq_true rfl, Nat.le_of_ble_eq_true rfl⟩ rfl (List.range 156) (lw_pq1 LW_len) nd156 (lw_fs1 LW_fst) (lw_pt1 LW_len LW_len) (st := []) rfl (Nat.le_of_ble_eq_true rfl) rd_Law_law_2276 ⟨by omega, by omega⟩ ?_
  refine jk_istore C rd_Law_law_2279 (by decide) (lv' := [(5, jk_V t), (0, .ref b), (1, .ref (ad 0)), (2, .ref (am 0)), (3, .ref o), (4, jk_V i)]) rfl ?_
  refine jk_aload_n C rd_Law_law_2281 (k := 3) rfl ?_
  refine jk_aload_n C rd_Law_law_2282 (k := 1) rfl ?_
  refine jk_iload C rd_Law_law_2283 (k := 5) rfl ?_
  refine jk_iconst C rd_Law_law_2285 ?_
  refine jk_iadd C rd_Law_law_2286 ?_
  refine jk_sld C hX hbl hbA (by omega) (by omega) hL rd_Law_law_2287 ?_
  refine jk_aload_n C rd_Law_law_2288 (k := 1) rfl ?_
  refine jk_iload C rd_Law_law_2289 (k := 5) rfl ?_
  refine jk_iconst C rd_Law_law_2291 ?_
  refine jk_iadd C rd_Law_law_2292 ?_
  refine jk_sld C hX hbl hbA (by omega) (by omega) hL rd_Law_law_2293 ?_
  refine jk_callVi C2 hZ.1 hz hB tm_1851 tm_1852 tm_1853 tm_15 tm_1854 na_Md_tieTop ⟨Nat.le_of_ble_eq_true rfl, Nat.le_of_ble_eq_true rfl⟩ rfl (List.range 155) (lw_pl LW_len) nd155 LW_fst (lw_put LW_len LW_len) 145 11 (lw_hd LW_len LW_m _) rfl rfl (st := []) rfl (Nat.le_of_ble_eq_true rfl) rd_Law_law_2294 ?_ ⟨by omega, by omega⟩
  refine jk_istore C rd_Law_law_2297 (by decide) (lv' := [(6, jk_V bb), (5, jk_V t), (0, .ref b), (1, .ref (ad 0)), (2, .ref (am 0)), (3, .ref o), (4, jk_V i)]) rfl ?_
  refine jk_aload_n C rd_Law_law_2299 (k := 4) rfl ?_
  refine jk_callVi C2 hZ.1 hz hT tm_1336 tm_1337 tm_1338 tm_15 tm_1339 na_Md_thrown ⟨Nat.le_of_ble_eq_true rfl, Nat.le_of_ble_eq_true rfl⟩ rfl (List.range 155) (lw_pl LW_len) nd155 LW_fst (lw_put LW_len LW_len) 145 11 (lw_hd LW_len LW_m _) rfl rfl (st := []) rfl (Nat.le_of_ble_eq_true rfl) rd_Law_law_2300 ?_ ⟨by omega, by omega⟩
  refine jk_iload C rd_Law_law_2303 (k := 1) rfl ?_
  refine jk_icmp_same (tgt := 2310) C rd_Law_law_2305 (by decide) ?_
  refine jk_iload C rd_Law_law_2310 (k := 1) rfl ?_
  by_cases h0 : t = 0
  · refine jk_if_ne (a := some ()) (b := (none : Option Unit)) (o := ()) (tgt := 2327) C rd_Law_law_2312 (by decide) (by unfold jk_eqs; rw [if_pos ⟨htR, jk_R0⟩, if_pos h0]) (fun h _ => absurd h0 h) (fun _ _ => ?_)
    refine jk_aload_n C rd_Law_law_2315 (k := 5) rfl ?_
    refine jk_iconst C rd_Law_law_2316 ?_
    refine jk_lald C 155 2 (lw_at LW_len _) rfl rd_Law_law_2317 ?_
    refine jk_iload C rd_Law_law_2318 (k := 0) rfl ?_
    refine jk_i2l C rd_Law_law_2320 ?_
    refine jk_lcmp C (ht h0) rd_Law_law_2321 ?_
    refine jk_if_eq (a := some ()) (b := (none : Option Unit)) (o := ()) (tgt := 2327) C rd_Law_law_2322 (by decide) (by decide +kernel) (fun _ _ => ?_) (fun h _ => absurd rfl h)
    refine jk_goto (tgt := 2784) C rd_Law_law_2327 (by decide) ?_
    refine jk_lv (lv' := [(0, .ref b), (1, .ref (ad 0)), (2, .ref (am 0)), (3, .ref o), (4, jk_V i)]) [2, 3, 4, 5, 6] rfl ?_
    exact jk_widen (by omega) (by omega) kk
  · refine jk_if_ne (a := (none : Option Unit)) (b := some ()) (o := ()) (tgt := 2327) C rd_Law_law_2312 (by decide) (by unfold jk_eqs; rw [if_pos ⟨htR, jk_R0⟩, if_neg h0]) (fun _ _ => ?_) (fun h _ => absurd h h0)
    refine jk_goto (tgt := 2784) C rd_Law_law_2327 (by decide) ?_
    refine jk_lv (lv' := [(0, .ref b), (1, .ref (ad 0)), (2, .ref (am 0)), (3, .ref o), (4, jk_V i)]) [2, 3, 4, 5, 6] rfl ?_
    exact jk_widen (by omega) (by omega) kk

set_option maxHeartbeats 4000000 in
set_option maxRecDepth 20000 in
theorem lc_46 {p : Program} {l : Launch} {e : Env} {s : State} {m : MethodId} {args : Array Value} {below : List Frame} {meth : Method} {c : Code} {cells slots : Nat} {Q : State → Prop} {D : va_G} {A : Nat → Prop} {ret : Option FieldType} {Z : (Nat → Prop) → State → Heap → Prop} {sq : Nat → Nat} {cI cR cL : ClassId} {g : Nat → Option Nat} {ad am : Nat → Nat} {b o L : Nat} {xs : Nat → Int32} {i : Int} (C : jk_C p s m args meth c mb_Law_law "KnotReaderLaw" 9 jk_WA D jk_cl (jk_t3 cI cR cL) A ret) (hZ : jk_ZK Z sq) (hz : Z A s s.heap) (hcs : cells + 20 ≤ room_1.cells ∧ slots + 120 ≤ room_1.slots) (hX : va_X b L xs s s.heap) (hbl : b < s.heap.size) (hbA : ¬ A b) (hL : L ≤ 3072) (hi : 0 ≤ i ∧ i + 6 ≤ (L : Int)) {σ σ1 σ2 σ3 : jk_LS} {f f1 : Nat → Int64} {t bb : Int} (htR : jk_R t) (ht : t = 0 → f1 0 = (jk_I bb).toInt64) (hA : jk_ME l D jk_cl (jk_t3 cI cR cL) Z mn_Law_setKnots (.codeWith mn_Law_setKnots mb_Law_setKnots 6 (some .int) [(0, 12, 15, 13), (0, 12, 19, 46), (0, 12, 23, 94)] :: jk_WA) (jk_rx 8 3 18 166) [.ref (ad 0), jk_V (xs (i + 1).toNat).toInt, jk_V (xs (i + 2).toNat).toInt, jk_V (xs (i + 3).toNat).toInt, .ref o] (LW cI cR g ad am σ ++ [(o, .inl (cL, 1, .inr (.inl f)))]) (LW cI cR g ad am σ1 ++ [(o, .inl (cL, 1, .inr (.inl f1)))]) t 3 18) (hB : jk_MI l D jk_cl (jk_ty cI cR) Z mn_Md_setKnots (.code mn_Md_setKnots mb_Md_setKnots 4 (some .int) :: jk_WA) (jk_rm 3 68) [.ref (am 0), jk_V (xs (i + 1).toNat).toInt, jk_V (xs (i + 2).toNat).toInt, jk_V (xs (i + 3).toNat).toInt] (LW cI cR g ad am σ1) (LW cI cR g ad am σ2) bb) (hT : jk_MI l D jk_cl (jk_ty cI cR) Z mn_Md_thrown (.code mn_Md_thrown mb_Md_thrown 1 (some .int) :: jk_WA) (jk_rm 0 0) [.ref (am 0)] (LW cI cR g ad am σ2) (LW cI cR g ad am σ3) t) (kk : jk_J p l e room_1 s m args below meth c (cells + 20) (slots + 120) Q D jk_cl A 9 (LW cI cR g ad am σ3 ++ [(o, .inl (cL, 1, .inr (.inl f1)))]) [(0, .ref b), (1, .ref (ad 0)), (2, .ref (am 0)), (3, .ref o), (4, jk_V i)] 2784 []) : jk_J p l e room_1 s m args below meth c (cells) (slots) Q D jk_cl A 9 (LW cI cR g ad am σ ++ [(o, .inl (cL, 1, .inr (.inl f)))]) [(0, .ref b), (1, .ref (ad 0)), (2, .ref (am 0)), (3, .ref o), (4, jk_V i)] 2330 [] := by
  have C2 := jk_Csub C [0, 1] rfl (tys' := jk_ty cI cR)
  refine jk_aload_n C rd_Law_law_2330 (k := 1) rfl ?_
  refine jk_aload_n C rd_Law_law_2331 (k := 0) rfl ?_
  refine jk_iload C rd_Law_law_2332 (k := 4) rfl ?_
  refine jk_iconst C rd_Law_law_2334 ?_
  refine jk_iadd C rd_Law_law_2335 ?_
  refine jk_sld C hX hbl hbA (by omega) (by omega) hL rd_Law_law_2336 ?_
  refine jk_aload_n C rd_Law_law_2337 (k := 0) rfl ?_
  refine jk_iload C rd_Law_law_2338 (k := 4) rfl ?_
  refine jk_iconst C rd_Law_law_2340 ?_
  refine jk_iadd C rd_Law_law_2341 ?_
  refine jk_sld C hX hbl hbA (by omega) (by omega) hL rd_Law_law_2342 ?_
  refine jk_aload_n C rd_Law_law_2343 (k := 0) rfl ?_
  refine jk_iload C rd_Law_law_2344 (k := 4) rfl ?_
  refine jk_iconst C rd_Law_law_2346 ?_
  refine jk_iadd C rd_Law_law_2347 ?_
  refine jk_sld C hX hbl hbA (by omega) (by omega) hL rd_Law_law_2348 ?_
  refine jk_aload_n C rd_Law_law_2349 (k := 3) rfl ?_
  refine jk_callSW C hZ.1 hz hA tm_1147 tm_1148 tm_0 tm_1149 na_Law_setKnots ⟨Nat.le_of_ble_eq_true rfl, Nat.le_of_ble_eq_true rfl⟩ rfl (List.range 156) (lw_pq1 LW_len) nd156 (lw_fs1 LW_fst) (lw_pt1 LW_len LW_len) (st := []) rfl (Nat.le_of_ble_eq_true rfl) rd_Law_law_2350 ⟨by omega, by omega⟩ ?_
  refine jk_istore C rd_Law_law_2353 (by decide) (lv' := [(5, jk_V t), (0, .ref b), (1, .ref (ad 0)), (2, .ref (am 0)), (3, .ref o), (4, jk_V i)]) rfl ?_
  refine jk_aload_n C rd_Law_law_2355 (k := 3) rfl ?_
  refine jk_aload_n C rd_Law_law_2356 (k := 1) rfl ?_
  refine jk_iload C rd_Law_law_2357 (k := 5) rfl ?_
  refine jk_iconst C rd_Law_law_2359 ?_
  refine jk_iadd C rd_Law_law_2360 ?_
  refine jk_sld C hX hbl hbA (by omega) (by omega) hL rd_Law_law_2361 ?_
  refine jk_aload_n C rd_Law_law_2362 (k := 1) rfl ?_
  refine jk_iload C rd_Law_law_2363 (k := 5) rfl ?_
  refine jk_iconst C rd_Law_law_2365 ?_
  refine jk_iadd C rd_Law_law_2366 ?_
  refine jk_sld C hX hbl hbA (by omega) (by omega) hL rd_Law_law_2367 ?_
  refine jk_aload_n C rd_Law_law_2368 (k := 1) rfl ?_
  refine jk_iload C rd_Law_law_2369 (k := 5) rfl ?_
  refine jk_iconst C rd_Law_law_2371 ?_
  refine jk_iadd C rd_Law_law_2372 ?_
  refine jk_sld C hX hbl hbA (by omega) (by omega) hL rd_Law_law_2373 ?_
  refine jk_callVi C2 hZ.1 hz hB tm_1855 tm_1856 tm_1857 tm_15 tm_1858 na_Md_setKnots ⟨Nat.le_of_ble_eq_true rfl, Nat.le_of_ble_eq_true rfl⟩ rfl (List.range 155) (lw_pl LW_len) nd155 LW_fst (lw_put LW_len LW_len) 145 11 (lw_hd LW_len LW_m _) rfl rfl (st := []) rfl (Nat.le_of_ble_eq_true rfl) rd_Law_law_2374 ?_ ⟨by omega, by omega⟩
  refine jk_istore C rd_Law_law_2377 (by decide) (lv' := [(6, jk_V bb), (5, jk_V t), (0, .ref b), (1, .ref (ad 0)), (2, .ref (am 0)), (3, .ref o), (4, jk_V i)]) rfl ?_
  refine jk_aload_n C rd_Law_law_2379 (k := 4) rfl ?_
  refine jk_callVi C2 hZ.1 hz hT tm_1336 tm_1337 tm_1338 tm_15 tm_1339 na_Md_thrown ⟨Nat.le_of_ble_eq_true rfl, Nat.le_of_ble_eq_true rfl⟩ rfl (List.range 155) (lw_pl LW_len) nd155 LW_fst (lw_put LW_len LW_len) 145 11 (lw_hd LW_len LW_m _) rfl rfl (st := []) rfl (Nat.le_of_ble_eq_true rfl) rd_Law_law_2380 ?_ ⟨by omega, by omega⟩
  refine jk_iload C rd_Law_law_2383 (k := 1) rfl ?_
  refine jk_icmp_same (tgt := 2390) C rd_Law_law_2385 (by decide) ?_
  refine jk_iload C rd_Law_law_2390 (k := 1) rfl ?_
  by_cases h0 : t = 0
  · refine jk_if_ne (a := some ()) (b := (none : Option Unit)) (o := ()) (tgt := 2407) C rd_Law_law_2392 (by decide) (by unfold jk_eqs; rw [if_pos ⟨htR, jk_R0⟩, if_pos h0]) (fun h _ => absurd h0 h) (fun _ _ => ?_)
    refine jk_aload_n C rd_Law_law_2395 (k := 5) rfl ?_
    refine jk_iconst C rd_Law_law_2396 ?_
    refine jk_lald C 155 2 (lw_at LW_len _) rfl rd_Law_law_2397 ?_
    refine jk_iload C rd_Law_law_2398 (k := 0) rfl ?_
    refine jk_i2l C rd_Law_law_2400 ?_
    refine jk_lcmp C (ht h0) rd_Law_law_2401 ?_
    refine jk_if_eq (a := some ()) (b := (none : Option Unit)) (o := ()) (tgt := 2407) C rd_Law_law_2402 (by decide) (by decide +kernel) (fun _ _ => ?_) (fun h _ => absurd rfl h)
    refine jk_goto (tgt := 2784) C rd_Law_law_2407 (by decide) ?_
    refine jk_lv (lv' := [(0, .ref b), (1, .ref (ad 0)), (2, .ref (am 0)), (3, .ref o), (4, jk_V i)]) [2, 3, 4, 5, 6] rfl ?_
    exact jk_widen (by omega) (by omega) kk
  · refine jk_if_ne (a := (none : Option Unit)) (b := some ()) (o := ()) (tgt := 2407) C rd_Law_law_2392 (by decide) (by unfold jk_eqs; rw [if_pos ⟨htR, jk_R0⟩, if_neg h0]) (fun _ _ => ?_) (fun h _ => absurd h h0)
    refine jk_goto (tgt := 2784) C rd_Law_law_2407 (by decide) ?_
    refine jk_lv (lv' := [(0, .ref b), (1, .ref (ad 0)), (2, .ref (am 0)), (3, .ref o), (4, jk_V i)]) [2, 3, 4, 5, 6] rfl ?_
    exact jk_widen (by omega) (by omega) kk

set_option maxHeartbeats 4000000 in
set_option maxRecDepth 20000 in
theorem lc_47 {p : Program} {l : Launch} {e : Env} {s : State} {m : MethodId} {args : Array Value} {below : List Frame} {meth : Method} {c : Code} {cells slots : Nat} {Q : State → Prop} {D : va_G} {A : Nat → Prop} {ret : Option FieldType} {Z : (Nat → Prop) → State → Heap → Prop} {sq : Nat → Nat} {cI cR cL : ClassId} {g : Nat → Option Nat} {ad am : Nat → Nat} {b o L : Nat} {xs : Nat → Int32} {i : Int} (C : jk_C p s m args meth c mb_Law_law "KnotReaderLaw" 9 jk_WA D jk_cl (jk_t3 cI cR cL) A ret) (hZ : jk_ZK Z sq) (hz : Z A s s.heap) (hcs : cells + 20 ≤ room_1.cells ∧ slots + 120 ≤ room_1.slots) (hX : va_X b L xs s s.heap) (hbl : b < s.heap.size) (hbA : ¬ A b) (hL : L ≤ 3072) (hi : 0 ≤ i ∧ i + 6 ≤ (L : Int)) {σ σ1 σ2 σ3 : jk_LS} {f f1 : Nat → Int64} {t bb : Int} (htR : jk_R t) (ht : t = 0 → f1 0 = (jk_I bb).toInt64) (hA : jk_ME l D jk_cl (jk_t3 cI cR cL) Z mn_Law_nibble (.codeWith mn_Law_nibble mb_Law_nibble 5 (some .int) [(0, 10, 13, 13), (0, 10, 17, 46), (0, 10, 21, 94)] :: jk_WA) (jk_rx 8 3 18 165) [.ref (ad 0), jk_V (xs (i + 1).toNat).toInt, jk_V (xs (i + 2).toNat).toInt, .ref o] (LW cI cR g ad am σ ++ [(o, .inl (cL, 1, .inr (.inl f)))]) (LW cI cR g ad am σ1 ++ [(o, .inl (cL, 1, .inr (.inl f1)))]) t 3 18) (hB : jk_MI l D jk_cl (jk_ty cI cR) Z mn_Md_nibble (.code mn_Md_nibble mb_Md_nibble 3 (some .int) :: jk_WA) (jk_rm 4 91) [.ref (am 0), jk_V (xs (i + 1).toNat).toInt, jk_V (xs (i + 2).toNat).toInt] (LW cI cR g ad am σ1) (LW cI cR g ad am σ2) bb) (hT : jk_MI l D jk_cl (jk_ty cI cR) Z mn_Md_thrown (.code mn_Md_thrown mb_Md_thrown 1 (some .int) :: jk_WA) (jk_rm 0 0) [.ref (am 0)] (LW cI cR g ad am σ2) (LW cI cR g ad am σ3) t) (kk : jk_J p l e room_1 s m args below meth c (cells + 20) (slots + 120) Q D jk_cl A 9 (LW cI cR g ad am σ3 ++ [(o, .inl (cL, 1, .inr (.inl f1)))]) [(0, .ref b), (1, .ref (ad 0)), (2, .ref (am 0)), (3, .ref o), (4, jk_V i)] 2784 []) : jk_J p l e room_1 s m args below meth c (cells) (slots) Q D jk_cl A 9 (LW cI cR g ad am σ ++ [(o, .inl (cL, 1, .inr (.inl f)))]) [(0, .ref b), (1, .ref (ad 0)), (2, .ref (am 0)), (3, .ref o), (4, jk_V i)] 2410 [] := by
  have C2 := jk_Csub C [0, 1] rfl (tys' := jk_ty cI cR)
  refine jk_aload_n C rd_Law_law_2410 (k := 1) rfl ?_
  refine jk_aload_n C rd_Law_law_2411 (k := 0) rfl ?_
  refine jk_iload C rd_Law_law_2412 (k := 4) rfl ?_
  refine jk_iconst C rd_Law_law_2414 ?_
  refine jk_iadd C rd_Law_law_2415 ?_
  refine jk_sld C hX hbl hbA (by omega) (by omega) hL rd_Law_law_2416 ?_
  refine jk_aload_n C rd_Law_law_2417 (k := 0) rfl ?_
  refine jk_iload C rd_Law_law_2418 (k := 4) rfl ?_
  refine jk_iconst C rd_Law_law_2420 ?_
  refine jk_iadd C rd_Law_law_2421 ?_
  refine jk_sld C hX hbl hbA (by omega) (by omega) hL rd_Law_law_2422 ?_
  refine jk_aload_n C rd_Law_law_2423 (k := 3) rfl ?_
  refine jk_callSW C hZ.1 hz hA tm_1154 tm_1155 tm_0 tm_1156 na_Law_nibble ⟨Nat.le_of_ble_eq_true rfl, Nat.le_of_ble_eq_true rfl⟩ rfl (List.range 156) (lw_pq1 LW_len) nd156 (lw_fs1 LW_fst) (lw_pt1 LW_len LW_len) (st := []) rfl (Nat.le_of_ble_eq_true rfl) rd_Law_law_2424 ⟨by omega, by omega⟩ ?_
  refine jk_istore C rd_Law_law_2427 (by decide) (lv' := [(5, jk_V t), (0, .ref b), (1, .ref (ad 0)), (2, .ref (am 0)), (3, .ref o), (4, jk_V i)]) rfl ?_
  refine jk_aload_n C rd_Law_law_2429 (k := 3) rfl ?_
  refine jk_aload_n C rd_Law_law_2430 (k := 1) rfl ?_
  refine jk_iload C rd_Law_law_2431 (k := 5) rfl ?_
  refine jk_iconst C rd_Law_law_2433 ?_
  refine jk_iadd C rd_Law_law_2434 ?_
  refine jk_sld C hX hbl hbA (by omega) (by omega) hL rd_Law_law_2435 ?_
  refine jk_aload_n C rd_Law_law_2436 (k := 1) rfl ?_
  refine jk_iload C rd_Law_law_2437 (k := 5) rfl ?_
  refine jk_iconst C rd_Law_law_2439 ?_
  refine jk_iadd C rd_Law_law_2440 ?_
  refine jk_sld C hX hbl hbA (by omega) (by omega) hL rd_Law_law_2441 ?_
  refine jk_callVi C2 hZ.1 hz hB tm_1859 tm_1860 tm_1861 tm_15 tm_1862 na_Md_nibble ⟨Nat.le_of_ble_eq_true rfl, Nat.le_of_ble_eq_true rfl⟩ rfl (List.range 155) (lw_pl LW_len) nd155 LW_fst (lw_put LW_len LW_len) 145 11 (lw_hd LW_len LW_m _) rfl rfl (st := []) rfl (Nat.le_of_ble_eq_true rfl) rd_Law_law_2442 ?_ ⟨by omega, by omega⟩
  refine jk_istore C rd_Law_law_2445 (by decide) (lv' := [(6, jk_V bb), (5, jk_V t), (0, .ref b), (1, .ref (ad 0)), (2, .ref (am 0)), (3, .ref o), (4, jk_V i)]) rfl ?_
  refine jk_aload_n C rd_Law_law_2447 (k := 4) rfl ?_
  refine jk_callVi C2 hZ.1 hz hT tm_1336 tm_1337 tm_1338 tm_15 tm_1339 na_Md_thrown ⟨Nat.le_of_ble_eq_true rfl, Nat.le_of_ble_eq_true rfl⟩ rfl (List.range 155) (lw_pl LW_len) nd155 LW_fst (lw_put LW_len LW_len) 145 11 (lw_hd LW_len LW_m _) rfl rfl (st := []) rfl (Nat.le_of_ble_eq_true rfl) rd_Law_law_2448 ?_ ⟨by omega, by omega⟩
  refine jk_iload C rd_Law_law_2451 (k := 1) rfl ?_
  refine jk_icmp_same (tgt := 2458) C rd_Law_law_2453 (by decide) ?_
  refine jk_iload C rd_Law_law_2458 (k := 1) rfl ?_
  by_cases h0 : t = 0
  · refine jk_if_ne (a := some ()) (b := (none : Option Unit)) (o := ()) (tgt := 2475) C rd_Law_law_2460 (by decide) (by unfold jk_eqs; rw [if_pos ⟨htR, jk_R0⟩, if_pos h0]) (fun h _ => absurd h0 h) (fun _ _ => ?_)
    refine jk_aload_n C rd_Law_law_2463 (k := 5) rfl ?_
    refine jk_iconst C rd_Law_law_2464 ?_
    refine jk_lald C 155 2 (lw_at LW_len _) rfl rd_Law_law_2465 ?_
    refine jk_iload C rd_Law_law_2466 (k := 0) rfl ?_
    refine jk_i2l C rd_Law_law_2468 ?_
    refine jk_lcmp C (ht h0) rd_Law_law_2469 ?_
    refine jk_if_eq (a := some ()) (b := (none : Option Unit)) (o := ()) (tgt := 2475) C rd_Law_law_2470 (by decide) (by decide +kernel) (fun _ _ => ?_) (fun h _ => absurd rfl h)
    refine jk_goto (tgt := 2784) C rd_Law_law_2475 (by decide) ?_
    refine jk_lv (lv' := [(0, .ref b), (1, .ref (ad 0)), (2, .ref (am 0)), (3, .ref o), (4, jk_V i)]) [2, 3, 4, 5, 6] rfl ?_
    exact jk_widen (by omega) (by omega) kk
  · refine jk_if_ne (a := (none : Option Unit)) (b := some ()) (o := ()) (tgt := 2475) C rd_Law_law_2460 (by decide) (by unfold jk_eqs; rw [if_pos ⟨htR, jk_R0⟩, if_neg h0]) (fun _ _ => ?_) (fun h _ => absurd h h0)
    refine jk_goto (tgt := 2784) C rd_Law_law_2475 (by decide) ?_
    refine jk_lv (lv' := [(0, .ref b), (1, .ref (ad 0)), (2, .ref (am 0)), (3, .ref o), (4, jk_V i)]) [2, 3, 4, 5, 6] rfl ?_
    exact jk_widen (by omega) (by omega) kk

set_option maxHeartbeats 4000000 in
set_option maxRecDepth 20000 in
theorem lc_48 {p : Program} {l : Launch} {e : Env} {s : State} {m : MethodId} {args : Array Value} {below : List Frame} {meth : Method} {c : Code} {cells slots : Nat} {Q : State → Prop} {D : va_G} {A : Nat → Prop} {ret : Option FieldType} {Z : (Nat → Prop) → State → Heap → Prop} {sq : Nat → Nat} {cI cR cL : ClassId} {g : Nat → Option Nat} {ad am : Nat → Nat} {b o L : Nat} {xs : Nat → Int32} {i : Int} (C : jk_C p s m args meth c mb_Law_law "KnotReaderLaw" 9 jk_WA D jk_cl (jk_t3 cI cR cL) A ret) (hZ : jk_ZK Z sq) (hz : Z A s s.heap) (hcs : cells + 20 ≤ room_1.cells ∧ slots + 120 ≤ room_1.slots) (hX : va_X b L xs s s.heap) (hbl : b < s.heap.size) (hbA : ¬ A b) (hL : L ≤ 3072) (hi : 0 ≤ i ∧ i + 6 ≤ (L : Int)) {σ σ1 σ2 σ3 : jk_LS} {f f1 : Nat → Int64} {t bb : Int} (htR : jk_R t) (ht : t = 0 → f1 0 = (jk_I bb).toInt64) (hA : jk_ME l D jk_cl (jk_t3 cI cR cL) Z mn_Law_dye (.codeWith mn_Law_dye mb_Law_dye 5 (some .int) [(0, 10, 13, 13)] :: jk_WA) (jk_rx 8 3 18 165) [.ref (ad 0), jk_V (xs (i + 1).toNat).toInt, jk_V (xs (i + 2).toNat).toInt, .ref o] (LW cI cR g ad am σ ++ [(o, .inl (cL, 1, .inr (.inl f)))]) (LW cI cR g ad am σ1 ++ [(o, .inl (cL, 1, .inr (.inl f1)))]) t 3 18) (hB : jk_MI l D jk_cl (jk_ty cI cR) Z mn_Md_dye (.code mn_Md_dye mb_Md_dye 3 (some .int) :: jk_WA) (jk_rm 3 64) [.ref (am 0), jk_V (xs (i + 1).toNat).toInt, jk_V (xs (i + 2).toNat).toInt] (LW cI cR g ad am σ1) (LW cI cR g ad am σ2) bb) (hT : jk_MI l D jk_cl (jk_ty cI cR) Z mn_Md_thrown (.code mn_Md_thrown mb_Md_thrown 1 (some .int) :: jk_WA) (jk_rm 0 0) [.ref (am 0)] (LW cI cR g ad am σ2) (LW cI cR g ad am σ3) t) (kk : jk_J p l e room_1 s m args below meth c (cells + 20) (slots + 120) Q D jk_cl A 9 (LW cI cR g ad am σ3 ++ [(o, .inl (cL, 1, .inr (.inl f1)))]) [(0, .ref b), (1, .ref (ad 0)), (2, .ref (am 0)), (3, .ref o), (4, jk_V i)] 2784 []) : jk_J p l e room_1 s m args below meth c (cells) (slots) Q D jk_cl A 9 (LW cI cR g ad am σ ++ [(o, .inl (cL, 1, .inr (.inl f)))]) [(0, .ref b), (1, .ref (ad 0)), (2, .ref (am 0)), (3, .ref o), (4, jk_V i)] 2478 [] := by
  have C2 := jk_Csub C [0, 1] rfl (tys' := jk_ty cI cR)
  refine jk_aload_n C rd_Law_law_2478 (k := 1) rfl ?_
  refine jk_aload_n C rd_Law_law_2479 (k := 0) rfl ?_
  refine jk_iload C rd_Law_law_2480 (k := 4) rfl ?_
  refine jk_iconst C rd_Law_law_2482 ?_
  refine jk_iadd C rd_Law_law_2483 ?_
  refine jk_sld C hX hbl hbA (by omega) (by omega) hL rd_Law_law_2484 ?_
  refine jk_aload_n C rd_Law_law_2485 (k := 0) rfl ?_
  refine jk_iload C rd_Law_law_2486 (k := 4) rfl ?_
  refine jk_iconst C rd_Law_law_2488 ?_
  refine jk_iadd C rd_Law_law_2489 ?_
  refine jk_sld C hX hbl hbA (by omega) (by omega) hL rd_Law_law_2490 ?_
  refine jk_aload_n C rd_Law_law_2491 (k := 3) rfl ?_
  refine jk_callSW C hZ.1 hz hA tm_1161 tm_1162 tm_0 tm_1163 na_Law_dye ⟨Nat.le_of_ble_eq_true rfl, Nat.le_of_ble_eq_true rfl⟩ rfl (List.range 156) (lw_pq1 LW_len) nd156 (lw_fs1 LW_fst) (lw_pt1 LW_len LW_len) (st := []) rfl (Nat.le_of_ble_eq_true rfl) rd_Law_law_2492 ⟨by omega, by omega⟩ ?_
  refine jk_istore C rd_Law_law_2495 (by decide) (lv' := [(5, jk_V t), (0, .ref b), (1, .ref (ad 0)), (2, .ref (am 0)), (3, .ref o), (4, jk_V i)]) rfl ?_
  refine jk_aload_n C rd_Law_law_2497 (k := 3) rfl ?_
  refine jk_aload_n C rd_Law_law_2498 (k := 1) rfl ?_
  refine jk_iload C rd_Law_law_2499 (k := 5) rfl ?_
  refine jk_iconst C rd_Law_law_2501 ?_
  refine jk_iadd C rd_Law_law_2502 ?_
  refine jk_sld C hX hbl hbA (by omega) (by omega) hL rd_Law_law_2503 ?_
  refine jk_aload_n C rd_Law_law_2504 (k := 1) rfl ?_
  refine jk_iload C rd_Law_law_2505 (k := 5) rfl ?_
  refine jk_iconst C rd_Law_law_2507 ?_
  refine jk_iadd C rd_Law_law_2508 ?_
  refine jk_sld C hX hbl hbA (by omega) (by omega) hL rd_Law_law_2509 ?_
  refine jk_callVi C2 hZ.1 hz hB tm_1863 tm_1864 tm_1865 tm_15 tm_1866 na_Md_dye ⟨Nat.le_of_ble_eq_true rfl, Nat.le_of_ble_eq_true rfl⟩ rfl (List.range 155) (lw_pl LW_len) nd155 LW_fst (lw_put LW_len LW_len) 145 11 (lw_hd LW_len LW_m _) rfl rfl (st := []) rfl (Nat.le_of_ble_eq_true rfl) rd_Law_law_2510 ?_ ⟨by omega, by omega⟩
  refine jk_istore C rd_Law_law_2513 (by decide) (lv' := [(6, jk_V bb), (5, jk_V t), (0, .ref b), (1, .ref (ad 0)), (2, .ref (am 0)), (3, .ref o), (4, jk_V i)]) rfl ?_
  refine jk_aload_n C rd_Law_law_2515 (k := 4) rfl ?_
  refine jk_callVi C2 hZ.1 hz hT tm_1336 tm_1337 tm_1338 tm_15 tm_1339 na_Md_thrown ⟨Nat.le_of_ble_eq_true rfl, Nat.le_of_ble_eq_true rfl⟩ rfl (List.range 155) (lw_pl LW_len) nd155 LW_fst (lw_put LW_len LW_len) 145 11 (lw_hd LW_len LW_m _) rfl rfl (st := []) rfl (Nat.le_of_ble_eq_true rfl) rd_Law_law_2516 ?_ ⟨by omega, by omega⟩
  refine jk_iload C rd_Law_law_2519 (k := 1) rfl ?_
  refine jk_icmp_same (tgt := 2526) C rd_Law_law_2521 (by decide) ?_
  refine jk_iload C rd_Law_law_2526 (k := 1) rfl ?_
  by_cases h0 : t = 0
  · refine jk_if_ne (a := some ()) (b := (none : Option Unit)) (o := ()) (tgt := 2543) C rd_Law_law_2528 (by decide) (by unfold jk_eqs; rw [if_pos ⟨htR, jk_R0⟩, if_pos h0]) (fun h _ => absurd h0 h) (fun _ _ => ?_)
    refine jk_aload_n C rd_Law_law_2531 (k := 5) rfl ?_
    refine jk_iconst C rd_Law_law_2532 ?_
    refine jk_lald C 155 2 (lw_at LW_len _) rfl rd_Law_law_2533 ?_
    refine jk_iload C rd_Law_law_2534 (k := 0) rfl ?_
    refine jk_i2l C rd_Law_law_2536 ?_
    refine jk_lcmp C (ht h0) rd_Law_law_2537 ?_
    refine jk_if_eq (a := some ()) (b := (none : Option Unit)) (o := ()) (tgt := 2543) C rd_Law_law_2538 (by decide) (by decide +kernel) (fun _ _ => ?_) (fun h _ => absurd rfl h)
    refine jk_goto (tgt := 2784) C rd_Law_law_2543 (by decide) ?_
    refine jk_lv (lv' := [(0, .ref b), (1, .ref (ad 0)), (2, .ref (am 0)), (3, .ref o), (4, jk_V i)]) [2, 3, 4, 5, 6] rfl ?_
    exact jk_widen (by omega) (by omega) kk
  · refine jk_if_ne (a := (none : Option Unit)) (b := some ()) (o := ()) (tgt := 2543) C rd_Law_law_2528 (by decide) (by unfold jk_eqs; rw [if_pos ⟨htR, jk_R0⟩, if_neg h0]) (fun _ _ => ?_) (fun h _ => absurd h h0)
    refine jk_goto (tgt := 2784) C rd_Law_law_2543 (by decide) ?_
    refine jk_lv (lv' := [(0, .ref b), (1, .ref (ad 0)), (2, .ref (am 0)), (3, .ref o), (4, jk_V i)]) [2, 3, 4, 5, 6] rfl ?_
    exact jk_widen (by omega) (by omega) kk

set_option maxHeartbeats 4000000 in
set_option maxRecDepth 20000 in
theorem lc_49 {p : Program} {l : Launch} {e : Env} {s : State} {m : MethodId} {args : Array Value} {below : List Frame} {meth : Method} {c : Code} {cells slots : Nat} {Q : State → Prop} {D : va_G} {A : Nat → Prop} {ret : Option FieldType} {Z : (Nat → Prop) → State → Heap → Prop} {sq : Nat → Nat} {cI cR cL : ClassId} {g : Nat → Option Nat} {ad am : Nat → Nat} {b o L : Nat} {xs : Nat → Int32} {i : Int} (C : jk_C p s m args meth c mb_Law_law "KnotReaderLaw" 9 jk_WA D jk_cl (jk_t3 cI cR cL) A ret) (hZ : jk_ZK Z sq) (hz : Z A s s.heap) (hcs : cells + 20 ≤ room_1.cells ∧ slots + 120 ≤ room_1.slots) (hX : va_X b L xs s s.heap) (hbl : b < s.heap.size) (hbA : ¬ A b) (hL : L ≤ 3072) (hi : 0 ≤ i ∧ i + 6 ≤ (L : Int)) {σ σ1 σ2 σ3 : jk_LS} {f f1 : Nat → Int64} {t bb : Int} (htR : jk_R t) (ht : t = 0 → f1 0 = (jk_I bb).toInt64) (hA : jk_ME l D jk_cl (jk_t3 cI cR cL) Z mn_Law_repair (.codeWith mn_Law_repair mb_Law_repair 4 (some .int) [(0, 9, 12, 13), (0, 9, 15, 94)] :: jk_WA) (jk_rx 8 3 18 164) [.ref (ad 0), jk_V (xs (i + 1).toNat).toInt, .ref o] (LW cI cR g ad am σ ++ [(o, .inl (cL, 1, .inr (.inl f)))]) (LW cI cR g ad am σ1 ++ [(o, .inl (cL, 1, .inr (.inl f1)))]) t 3 18) (hB : jk_MI l D jk_cl (jk_ty cI cR) Z mn_Md_repair (.code mn_Md_repair mb_Md_repair 2 (some .int) :: jk_WA) (jk_rm 9 199) [.ref (am 0), jk_V (xs (i + 1).toNat).toInt] (LW cI cR g ad am σ1) (LW cI cR g ad am σ2) bb) (hT : jk_MI l D jk_cl (jk_ty cI cR) Z mn_Md_thrown (.code mn_Md_thrown mb_Md_thrown 1 (some .int) :: jk_WA) (jk_rm 0 0) [.ref (am 0)] (LW cI cR g ad am σ2) (LW cI cR g ad am σ3) t) (kk : jk_J p l e room_1 s m args below meth c (cells + 20) (slots + 120) Q D jk_cl A 9 (LW cI cR g ad am σ3 ++ [(o, .inl (cL, 1, .inr (.inl f1)))]) [(0, .ref b), (1, .ref (ad 0)), (2, .ref (am 0)), (3, .ref o), (4, jk_V i)] 2784 []) : jk_J p l e room_1 s m args below meth c (cells) (slots) Q D jk_cl A 9 (LW cI cR g ad am σ ++ [(o, .inl (cL, 1, .inr (.inl f)))]) [(0, .ref b), (1, .ref (ad 0)), (2, .ref (am 0)), (3, .ref o), (4, jk_V i)] 2546 [] := by
  have C2 := jk_Csub C [0, 1] rfl (tys' := jk_ty cI cR)
  refine jk_aload_n C rd_Law_law_2546 (k := 1) rfl ?_
  refine jk_aload_n C rd_Law_law_2547 (k := 0) rfl ?_
  refine jk_iload C rd_Law_law_2548 (k := 4) rfl ?_
  refine jk_iconst C rd_Law_law_2550 ?_
  refine jk_iadd C rd_Law_law_2551 ?_
  refine jk_sld C hX hbl hbA (by omega) (by omega) hL rd_Law_law_2552 ?_
  refine jk_aload_n C rd_Law_law_2553 (k := 3) rfl ?_
  refine jk_callSW C hZ.1 hz hA tm_1168 tm_1169 tm_0 tm_1170 na_Law_repair ⟨Nat.le_of_ble_eq_true rfl, Nat.le_of_ble_eq_true rfl⟩ rfl (List.range 156) (lw_pq1 LW_len) nd156 (lw_fs1 LW_fst) (lw_pt1 LW_len LW_len) (st := []) rfl (Nat.le_of_ble_eq_true rfl) rd_Law_law_2554 ⟨by omega, by omega⟩ ?_
  refine jk_istore C rd_Law_law_2557 (by decide) (lv' := [(5, jk_V t), (0, .ref b), (1, .ref (ad 0)), (2, .ref (am 0)), (3, .ref o), (4, jk_V i)]) rfl ?_
  refine jk_aload_n C rd_Law_law_2559 (k := 3) rfl ?_
  refine jk_aload_n C rd_Law_law_2560 (k := 1) rfl ?_
  refine jk_iload C rd_Law_law_2561 (k := 5) rfl ?_
  refine jk_iconst C rd_Law_law_2563 ?_
  refine jk_iadd C rd_Law_law_2564 ?_
  refine jk_sld C hX hbl hbA (by omega) (by omega) hL rd_Law_law_2565 ?_
  refine jk_callVi C2 hZ.1 hz hB tm_1867 tm_1868 tm_1869 tm_15 tm_1870 na_Md_repair ⟨Nat.le_of_ble_eq_true rfl, Nat.le_of_ble_eq_true rfl⟩ rfl (List.range 155) (lw_pl LW_len) nd155 LW_fst (lw_put LW_len LW_len) 145 11 (lw_hd LW_len LW_m _) rfl rfl (st := []) rfl (Nat.le_of_ble_eq_true rfl) rd_Law_law_2566 ?_ ⟨by omega, by omega⟩
  refine jk_istore C rd_Law_law_2569 (by decide) (lv' := [(6, jk_V bb), (5, jk_V t), (0, .ref b), (1, .ref (ad 0)), (2, .ref (am 0)), (3, .ref o), (4, jk_V i)]) rfl ?_
  refine jk_aload_n C rd_Law_law_2571 (k := 4) rfl ?_
  refine jk_callVi C2 hZ.1 hz hT tm_1336 tm_1337 tm_1338 tm_15 tm_1339 na_Md_thrown ⟨Nat.le_of_ble_eq_true rfl, Nat.le_of_ble_eq_true rfl⟩ rfl (List.range 155) (lw_pl LW_len) nd155 LW_fst (lw_put LW_len LW_len) 145 11 (lw_hd LW_len LW_m _) rfl rfl (st := []) rfl (Nat.le_of_ble_eq_true rfl) rd_Law_law_2572 ?_ ⟨by omega, by omega⟩
  refine jk_iload C rd_Law_law_2575 (k := 1) rfl ?_
  refine jk_icmp_same (tgt := 2582) C rd_Law_law_2577 (by decide) ?_
  refine jk_iload C rd_Law_law_2582 (k := 1) rfl ?_
  by_cases h0 : t = 0
  · refine jk_if_ne (a := some ()) (b := (none : Option Unit)) (o := ()) (tgt := 2599) C rd_Law_law_2584 (by decide) (by unfold jk_eqs; rw [if_pos ⟨htR, jk_R0⟩, if_pos h0]) (fun h _ => absurd h0 h) (fun _ _ => ?_)
    refine jk_aload_n C rd_Law_law_2587 (k := 5) rfl ?_
    refine jk_iconst C rd_Law_law_2588 ?_
    refine jk_lald C 155 2 (lw_at LW_len _) rfl rd_Law_law_2589 ?_
    refine jk_iload C rd_Law_law_2590 (k := 0) rfl ?_
    refine jk_i2l C rd_Law_law_2592 ?_
    refine jk_lcmp C (ht h0) rd_Law_law_2593 ?_
    refine jk_if_eq (a := some ()) (b := (none : Option Unit)) (o := ()) (tgt := 2599) C rd_Law_law_2594 (by decide) (by decide +kernel) (fun _ _ => ?_) (fun h _ => absurd rfl h)
    refine jk_goto (tgt := 2784) C rd_Law_law_2599 (by decide) ?_
    refine jk_lv (lv' := [(0, .ref b), (1, .ref (ad 0)), (2, .ref (am 0)), (3, .ref o), (4, jk_V i)]) [2, 3, 4, 5, 6] rfl ?_
    exact jk_widen (by omega) (by omega) kk
  · refine jk_if_ne (a := (none : Option Unit)) (b := some ()) (o := ()) (tgt := 2599) C rd_Law_law_2584 (by decide) (by unfold jk_eqs; rw [if_pos ⟨htR, jk_R0⟩, if_neg h0]) (fun _ _ => ?_) (fun h _ => absurd h h0)
    refine jk_goto (tgt := 2784) C rd_Law_law_2599 (by decide) ?_
    refine jk_lv (lv' := [(0, .ref b), (1, .ref (ad 0)), (2, .ref (am 0)), (3, .ref o), (4, jk_V i)]) [2, 3, 4, 5, 6] rfl ?_
    exact jk_widen (by omega) (by omega) kk

set_option maxHeartbeats 4000000 in
set_option maxRecDepth 20000 in
theorem lc_50 {p : Program} {l : Launch} {e : Env} {s : State} {m : MethodId} {args : Array Value} {below : List Frame} {meth : Method} {c : Code} {cells slots : Nat} {Q : State → Prop} {D : va_G} {A : Nat → Prop} {ret : Option FieldType} {Z : (Nat → Prop) → State → Heap → Prop} {sq : Nat → Nat} {cI cR cL : ClassId} {g : Nat → Option Nat} {ad am : Nat → Nat} {b o L : Nat} {xs : Nat → Int32} {i : Int} (C : jk_C p s m args meth c mb_Law_law "KnotReaderLaw" 9 jk_WA D jk_cl (jk_t3 cI cR cL) A ret) (hZ : jk_ZK Z sq) (hz : Z A s s.heap) (hcs : cells + 20 ≤ room_1.cells ∧ slots + 120 ≤ room_1.slots) (hX : va_X b L xs s s.heap) (hbl : b < s.heap.size) (hbA : ¬ A b) (hL : L ≤ 3072) (hi : 0 ≤ i ∧ i + 6 ≤ (L : Int)) {σ σ1 σ2 σ3 : jk_LS} {f f1 : Nat → Int64} {t bb : Int} (htR : jk_R t) (ht : t = 0 → f1 0 = (jk_I bb).toInt64) (hA : jk_ME l D jk_cl (jk_t3 cI cR cL) Z mn_Law_undo (.codeWith mn_Law_undo mb_Law_undo 3 (some .int) [(0, 8, 11, 55)] :: jk_WA) (jk_rx 7 1 6 120) [.ref (ad 0), .ref o] (LW cI cR g ad am σ ++ [(o, .inl (cL, 1, .inr (.inl f)))]) (LW cI cR g ad am σ1 ++ [(o, .inl (cL, 1, .inr (.inl f1)))]) t 1 6) (hB : jk_MI l D jk_cl (jk_ty cI cR) Z mn_Md_undo (.code mn_Md_undo mb_Md_undo 1 (some .int) :: jk_WA) (jk_rm 1 24) [.ref (am 0)] (LW cI cR g ad am σ1) (LW cI cR g ad am σ2) bb) (hT : jk_MI l D jk_cl (jk_ty cI cR) Z mn_Md_thrown (.code mn_Md_thrown mb_Md_thrown 1 (some .int) :: jk_WA) (jk_rm 0 0) [.ref (am 0)] (LW cI cR g ad am σ2) (LW cI cR g ad am σ3) t) (kk : jk_J p l e room_1 s m args below meth c (cells + 20) (slots + 120) Q D jk_cl A 9 (LW cI cR g ad am σ3 ++ [(o, .inl (cL, 1, .inr (.inl f1)))]) [(0, .ref b), (1, .ref (ad 0)), (2, .ref (am 0)), (3, .ref o), (4, jk_V i)] 2784 []) : jk_J p l e room_1 s m args below meth c (cells) (slots) Q D jk_cl A 9 (LW cI cR g ad am σ ++ [(o, .inl (cL, 1, .inr (.inl f)))]) [(0, .ref b), (1, .ref (ad 0)), (2, .ref (am 0)), (3, .ref o), (4, jk_V i)] 2602 [] := by
  have C2 := jk_Csub C [0, 1] rfl (tys' := jk_ty cI cR)
  refine jk_aload_n C rd_Law_law_2602 (k := 1) rfl ?_
  refine jk_aload_n C rd_Law_law_2603 (k := 3) rfl ?_
  refine jk_callSW C hZ.1 hz hA tm_1175 tm_1176 tm_0 tm_1177 na_Law_undo ⟨Nat.le_of_ble_eq_true rfl, Nat.le_of_ble_eq_true rfl⟩ rfl (List.range 156) (lw_pq1 LW_len) nd156 (lw_fs1 LW_fst) (lw_pt1 LW_len LW_len) (st := []) rfl (Nat.le_of_ble_eq_true rfl) rd_Law_law_2604 ⟨by omega, by omega⟩ ?_
  refine jk_istore C rd_Law_law_2607 (by decide) (lv' := [(5, jk_V t), (0, .ref b), (1, .ref (ad 0)), (2, .ref (am 0)), (3, .ref o), (4, jk_V i)]) rfl ?_
  refine jk_aload_n C rd_Law_law_2609 (k := 3) rfl ?_
  refine jk_callVi C2 hZ.1 hz hB tm_1871 tm_1872 tm_1873 tm_15 tm_1874 na_Md_undo ⟨Nat.le_of_ble_eq_true rfl, Nat.le_of_ble_eq_true rfl⟩ rfl (List.range 155) (lw_pl LW_len) nd155 LW_fst (lw_put LW_len LW_len) 145 11 (lw_hd LW_len LW_m _) rfl rfl (st := []) rfl (Nat.le_of_ble_eq_true rfl) rd_Law_law_2610 ?_ ⟨by omega, by omega⟩
  refine jk_istore C rd_Law_law_2613 (by decide) (lv' := [(6, jk_V bb), (5, jk_V t), (0, .ref b), (1, .ref (ad 0)), (2, .ref (am 0)), (3, .ref o), (4, jk_V i)]) rfl ?_
  refine jk_aload_n C rd_Law_law_2615 (k := 4) rfl ?_
  refine jk_callVi C2 hZ.1 hz hT tm_1336 tm_1337 tm_1338 tm_15 tm_1339 na_Md_thrown ⟨Nat.le_of_ble_eq_true rfl, Nat.le_of_ble_eq_true rfl⟩ rfl (List.range 155) (lw_pl LW_len) nd155 LW_fst (lw_put LW_len LW_len) 145 11 (lw_hd LW_len LW_m _) rfl rfl (st := []) rfl (Nat.le_of_ble_eq_true rfl) rd_Law_law_2616 ?_ ⟨by omega, by omega⟩
  refine jk_iload C rd_Law_law_2619 (k := 1) rfl ?_
  refine jk_icmp_same (tgt := 2626) C rd_Law_law_2621 (by decide) ?_
  refine jk_iload C rd_Law_law_2626 (k := 1) rfl ?_
  by_cases h0 : t = 0
  · refine jk_if_ne (a := some ()) (b := (none : Option Unit)) (o := ()) (tgt := 2643) C rd_Law_law_2628 (by decide) (by unfold jk_eqs; rw [if_pos ⟨htR, jk_R0⟩, if_pos h0]) (fun h _ => absurd h0 h) (fun _ _ => ?_)
    refine jk_aload_n C rd_Law_law_2631 (k := 5) rfl ?_
    refine jk_iconst C rd_Law_law_2632 ?_
    refine jk_lald C 155 2 (lw_at LW_len _) rfl rd_Law_law_2633 ?_
    refine jk_iload C rd_Law_law_2634 (k := 0) rfl ?_
    refine jk_i2l C rd_Law_law_2636 ?_
    refine jk_lcmp C (ht h0) rd_Law_law_2637 ?_
    refine jk_if_eq (a := some ()) (b := (none : Option Unit)) (o := ()) (tgt := 2643) C rd_Law_law_2638 (by decide) (by decide +kernel) (fun _ _ => ?_) (fun h _ => absurd rfl h)
    refine jk_goto (tgt := 2784) C rd_Law_law_2643 (by decide) ?_
    refine jk_lv (lv' := [(0, .ref b), (1, .ref (ad 0)), (2, .ref (am 0)), (3, .ref o), (4, jk_V i)]) [2, 3, 4, 5, 6] rfl ?_
    exact jk_widen (by omega) (by omega) kk
  · refine jk_if_ne (a := (none : Option Unit)) (b := some ()) (o := ()) (tgt := 2643) C rd_Law_law_2628 (by decide) (by unfold jk_eqs; rw [if_pos ⟨htR, jk_R0⟩, if_neg h0]) (fun _ _ => ?_) (fun h _ => absurd h h0)
    refine jk_goto (tgt := 2784) C rd_Law_law_2643 (by decide) ?_
    refine jk_lv (lv' := [(0, .ref b), (1, .ref (ad 0)), (2, .ref (am 0)), (3, .ref o), (4, jk_V i)]) [2, 3, 4, 5, 6] rfl ?_
    exact jk_widen (by omega) (by omega) kk

set_option maxHeartbeats 4000000 in
set_option maxRecDepth 20000 in
theorem lc_51 {p : Program} {l : Launch} {e : Env} {s : State} {m : MethodId} {args : Array Value} {below : List Frame} {meth : Method} {c : Code} {cells slots : Nat} {Q : State → Prop} {D : va_G} {A : Nat → Prop} {ret : Option FieldType} {Z : (Nat → Prop) → State → Heap → Prop} {sq : Nat → Nat} {cI cR cL : ClassId} {g : Nat → Option Nat} {ad am : Nat → Nat} {b o L : Nat} {xs : Nat → Int32} {i : Int} (C : jk_C p s m args meth c mb_Law_law "KnotReaderLaw" 9 jk_WA D jk_cl (jk_t3 cI cR cL) A ret) (hZ : jk_ZK Z sq) (hz : Z A s s.heap) (hcs : cells + 20 ≤ room_1.cells ∧ slots + 120 ≤ room_1.slots) (hX : va_X b L xs s s.heap) (hbl : b < s.heap.size) (hbA : ¬ A b) (hL : L ≤ 3072) (hi : 0 ≤ i ∧ i + 6 ≤ (L : Int)) {σ σ1 σ2 σ3 : jk_LS} {f f1 : Nat → Int64} {t bb : Int} (htR : jk_R t) (ht : t = 0 → f1 0 = (jk_I bb).toInt64) (hA : jk_ME l D jk_cl (jk_t3 cI cR cL) Z mn_Law_writeCluster (.codeWith mn_Law_writeCluster mb_Law_writeCluster 4 (some .int) [(0, 9, 12, 13)] :: jk_WA) (jk_rx 8 1 6 146) [.ref (ad 0), jk_V (xs (i + 1).toNat).toInt, .ref o] (LW cI cR g ad am σ ++ [(o, .inl (cL, 1, .inr (.inl f)))]) (LW cI cR g ad am σ1 ++ [(o, .inl (cL, 1, .inr (.inl f1)))]) t 1 6) (hB : jk_MI l D jk_cl (jk_ty cI cR) Z mn_Md_writeCluster (.code mn_Md_writeCluster mb_Md_writeCluster 4 (some .int) :: jk_WA) (jk_rm 11 251) [.ref (am 0), jk_V (xs (i + 1).toNat).toInt] (LW cI cR g ad am σ1) (LW cI cR g ad am σ2) bb) (hT : jk_MI l D jk_cl (jk_ty cI cR) Z mn_Md_thrown (.code mn_Md_thrown mb_Md_thrown 1 (some .int) :: jk_WA) (jk_rm 0 0) [.ref (am 0)] (LW cI cR g ad am σ2) (LW cI cR g ad am σ3) t) (kk : jk_J p l e room_1 s m args below meth c (cells + 20) (slots + 120) Q D jk_cl A 9 (LW cI cR g ad am σ3 ++ [(o, .inl (cL, 1, .inr (.inl f1)))]) [(0, .ref b), (1, .ref (ad 0)), (2, .ref (am 0)), (3, .ref o), (4, jk_V i)] 2784 []) : jk_J p l e room_1 s m args below meth c (cells) (slots) Q D jk_cl A 9 (LW cI cR g ad am σ ++ [(o, .inl (cL, 1, .inr (.inl f)))]) [(0, .ref b), (1, .ref (ad 0)), (2, .ref (am 0)), (3, .ref o), (4, jk_V i)] 2646 [] := by
  have C2 := jk_Csub C [0, 1] rfl (tys' := jk_ty cI cR)
  refine jk_aload_n C rd_Law_law_2646 (k := 1) rfl ?_
  refine jk_aload_n C rd_Law_law_2647 (k := 0) rfl ?_
  refine jk_iload C rd_Law_law_2648 (k := 4) rfl ?_
  refine jk_iconst C rd_Law_law_2650 ?_
  refine jk_iadd C rd_Law_law_2651 ?_
  refine jk_sld C hX hbl hbA (by omega) (by omega) hL rd_Law_law_2652 ?_
  refine jk_aload_n C rd_Law_law_2653 (k := 3) rfl ?_
  refine jk_callSW C hZ.1 hz hA tm_1187 tm_1188 tm_0 tm_1189 na_Law_writeCluster ⟨Nat.le_of_ble_eq_true rfl, Nat.le_of_ble_eq_true rfl⟩ rfl (List.range 156) (lw_pq1 LW_len) nd156 (lw_fs1 LW_fst) (lw_pt1 LW_len LW_len) (st := []) rfl (Nat.le_of_ble_eq_true rfl) rd_Law_law_2654 ⟨by omega, by omega⟩ ?_
  refine jk_istore C rd_Law_law_2657 (by decide) (lv' := [(5, jk_V t), (0, .ref b), (1, .ref (ad 0)), (2, .ref (am 0)), (3, .ref o), (4, jk_V i)]) rfl ?_
  refine jk_aload_n C rd_Law_law_2659 (k := 3) rfl ?_
  refine jk_aload_n C rd_Law_law_2660 (k := 1) rfl ?_
  refine jk_iload C rd_Law_law_2661 (k := 5) rfl ?_
  refine jk_iconst C rd_Law_law_2663 ?_
  refine jk_iadd C rd_Law_law_2664 ?_
  refine jk_sld C hX hbl hbA (by omega) (by omega) hL rd_Law_law_2665 ?_
  refine jk_callVi C2 hZ.1 hz hB tm_1875 tm_1876 tm_1877 tm_15 tm_1878 na_Md_writeCluster ⟨Nat.le_of_ble_eq_true rfl, Nat.le_of_ble_eq_true rfl⟩ rfl (List.range 155) (lw_pl LW_len) nd155 LW_fst (lw_put LW_len LW_len) 145 11 (lw_hd LW_len LW_m _) rfl rfl (st := []) rfl (Nat.le_of_ble_eq_true rfl) rd_Law_law_2666 ?_ ⟨by omega, by omega⟩
  refine jk_istore C rd_Law_law_2669 (by decide) (lv' := [(6, jk_V bb), (5, jk_V t), (0, .ref b), (1, .ref (ad 0)), (2, .ref (am 0)), (3, .ref o), (4, jk_V i)]) rfl ?_
  refine jk_aload_n C rd_Law_law_2671 (k := 4) rfl ?_
  refine jk_callVi C2 hZ.1 hz hT tm_1336 tm_1337 tm_1338 tm_15 tm_1339 na_Md_thrown ⟨Nat.le_of_ble_eq_true rfl, Nat.le_of_ble_eq_true rfl⟩ rfl (List.range 155) (lw_pl LW_len) nd155 LW_fst (lw_put LW_len LW_len) 145 11 (lw_hd LW_len LW_m _) rfl rfl (st := []) rfl (Nat.le_of_ble_eq_true rfl) rd_Law_law_2672 ?_ ⟨by omega, by omega⟩
  refine jk_iload C rd_Law_law_2675 (k := 1) rfl ?_
  refine jk_icmp_same (tgt := 2682) C rd_Law_law_2677 (by decide) ?_
  refine jk_iload C rd_Law_law_2682 (k := 1) rfl ?_
  by_cases h0 : t = 0
  · refine jk_if_ne (a := some ()) (b := (none : Option Unit)) (o := ()) (tgt := 2699) C rd_Law_law_2684 (by decide) (by unfold jk_eqs; rw [if_pos ⟨htR, jk_R0⟩, if_pos h0]) (fun h _ => absurd h0 h) (fun _ _ => ?_)
    refine jk_aload_n C rd_Law_law_2687 (k := 5) rfl ?_
    refine jk_iconst C rd_Law_law_2688 ?_
    refine jk_lald C 155 2 (lw_at LW_len _) rfl rd_Law_law_2689 ?_
    refine jk_iload C rd_Law_law_2690 (k := 0) rfl ?_
    refine jk_i2l C rd_Law_law_2692 ?_
    refine jk_lcmp C (ht h0) rd_Law_law_2693 ?_
    refine jk_if_eq (a := some ()) (b := (none : Option Unit)) (o := ()) (tgt := 2699) C rd_Law_law_2694 (by decide) (by decide +kernel) (fun _ _ => ?_) (fun h _ => absurd rfl h)
    refine jk_goto (tgt := 2784) C rd_Law_law_2699 (by decide) ?_
    refine jk_lv (lv' := [(0, .ref b), (1, .ref (ad 0)), (2, .ref (am 0)), (3, .ref o), (4, jk_V i)]) [2, 3, 4, 5, 6] rfl ?_
    exact jk_widen (by omega) (by omega) kk
  · refine jk_if_ne (a := (none : Option Unit)) (b := some ()) (o := ()) (tgt := 2699) C rd_Law_law_2684 (by decide) (by unfold jk_eqs; rw [if_pos ⟨htR, jk_R0⟩, if_neg h0]) (fun _ _ => ?_) (fun h _ => absurd h h0)
    refine jk_goto (tgt := 2784) C rd_Law_law_2699 (by decide) ?_
    refine jk_lv (lv' := [(0, .ref b), (1, .ref (ad 0)), (2, .ref (am 0)), (3, .ref o), (4, jk_V i)]) [2, 3, 4, 5, 6] rfl ?_
    exact jk_widen (by omega) (by omega) kk

set_option maxHeartbeats 4000000 in
set_option maxRecDepth 20000 in
theorem lc_54 {p : Program} {l : Launch} {e : Env} {s : State} {m : MethodId} {args : Array Value} {below : List Frame} {meth : Method} {c : Code} {cells slots : Nat} {Q : State → Prop} {D : va_G} {A : Nat → Prop} {ret : Option FieldType} {Z : (Nat → Prop) → State → Heap → Prop} {sq : Nat → Nat} {cI cR cL : ClassId} {g : Nat → Option Nat} {ad am : Nat → Nat} {b o L : Nat} {xs : Nat → Int32} {i : Int} (C : jk_C p s m args meth c mb_Law_law "KnotReaderLaw" 9 jk_WA D jk_cl (jk_t3 cI cR cL) A ret) (hZ : jk_ZK Z sq) (hz : Z A s s.heap) (hcs : cells + 20 ≤ room_1.cells ∧ slots + 120 ≤ room_1.slots) (hX : va_X b L xs s s.heap) (hbl : b < s.heap.size) (hbA : ¬ A b) (hL : L ≤ 3072) (hi : 0 ≤ i ∧ i + 6 ≤ (L : Int)) {σ σ1 σ2 σ3 : jk_LS} {f f1 : Nat → Int64} {t bb : Int} (htR : jk_R t) (ht : t = 0 → f1 0 = (jk_I bb).toInt64) (hA : jk_ME l D jk_cl (jk_t3 cI cR cL) Z mn_Law_restoreState (.codeWith mn_Law_restoreState mb_Law_restoreState 3 (some .int) [(0, 8, 11, 55)] :: jk_WA) (jk_rx 7 1 6 120) [.ref (ad 0), .ref o] (LW cI cR g ad am σ ++ [(o, .inl (cL, 1, .inr (.inl f)))]) (LW cI cR g ad am σ1 ++ [(o, .inl (cL, 1, .inr (.inl f1)))]) t 1 6) (hB : jk_MI l D jk_cl (jk_ty cI cR) Z mn_Md_restoreState (.code mn_Md_restoreState mb_Md_restoreState 1 (some .int) :: jk_WA) (jk_rm 1 24) [.ref (am 0)] (LW cI cR g ad am σ1) (LW cI cR g ad am σ2) bb) (hT : jk_MI l D jk_cl (jk_ty cI cR) Z mn_Md_thrown (.code mn_Md_thrown mb_Md_thrown 1 (some .int) :: jk_WA) (jk_rm 0 0) [.ref (am 0)] (LW cI cR g ad am σ2) (LW cI cR g ad am σ3) t) (kk : jk_J p l e room_1 s m args below meth c (cells + 20) (slots + 120) Q D jk_cl A 9 (LW cI cR g ad am σ3 ++ [(o, .inl (cL, 1, .inr (.inl f1)))]) [(0, .ref b), (1, .ref (ad 0)), (2, .ref (am 0)), (3, .ref o), (4, jk_V i)] 2784 []) : jk_J p l e room_1 s m args below meth c (cells) (slots) Q D jk_cl A 9 (LW cI cR g ad am σ ++ [(o, .inl (cL, 1, .inr (.inl f)))]) [(0, .ref b), (1, .ref (ad 0)), (2, .ref (am 0)), (3, .ref o), (4, jk_V i)] 2740 [] := by
  have C2 := jk_Csub C [0, 1] rfl (tys' := jk_ty cI cR)
  refine jk_aload_n C rd_Law_law_2740 (k := 1) rfl ?_
  refine jk_aload_n C rd_Law_law_2741 (k := 3) rfl ?_
  refine jk_callSW C hZ.1 hz hA tm_1214 tm_1215 tm_0 tm_1216 na_Law_restoreState ⟨Nat.le_of_ble_eq_true rfl, Nat.le_of_ble_eq_true rfl⟩ rfl (List.range 156) (lw_pq1 LW_len) nd156 (lw_fs1 LW_fst) (lw_pt1 LW_len LW_len) (st := []) rfl (Nat.le_of_ble_eq_true rfl) rd_Law_law_2742 ⟨by omega, by omega⟩ ?_
  refine jk_istore C rd_Law_law_2745 (by decide) (lv' := [(5, jk_V t), (0, .ref b), (1, .ref (ad 0)), (2, .ref (am 0)), (3, .ref o), (4, jk_V i)]) rfl ?_
  refine jk_aload_n C rd_Law_law_2747 (k := 3) rfl ?_
  refine jk_callVi C2 hZ.1 hz hB tm_1895 tm_1896 tm_1897 tm_15 tm_1898 na_Md_restoreState ⟨Nat.le_of_ble_eq_true rfl, Nat.le_of_ble_eq_true rfl⟩ rfl (List.range 155) (lw_pl LW_len) nd155 LW_fst (lw_put LW_len LW_len) 145 11 (lw_hd LW_len LW_m _) rfl rfl (st := []) rfl (Nat.le_of_ble_eq_true rfl) rd_Law_law_2748 ?_ ⟨by omega, by omega⟩
  refine jk_istore C rd_Law_law_2751 (by decide) (lv' := [(6, jk_V bb), (5, jk_V t), (0, .ref b), (1, .ref (ad 0)), (2, .ref (am 0)), (3, .ref o), (4, jk_V i)]) rfl ?_
  refine jk_aload_n C rd_Law_law_2753 (k := 4) rfl ?_
  refine jk_callVi C2 hZ.1 hz hT tm_1336 tm_1337 tm_1338 tm_15 tm_1339 na_Md_thrown ⟨Nat.le_of_ble_eq_true rfl, Nat.le_of_ble_eq_true rfl⟩ rfl (List.range 155) (lw_pl LW_len) nd155 LW_fst (lw_put LW_len LW_len) 145 11 (lw_hd LW_len LW_m _) rfl rfl (st := []) rfl (Nat.le_of_ble_eq_true rfl) rd_Law_law_2754 ?_ ⟨by omega, by omega⟩
  refine jk_iload C rd_Law_law_2757 (k := 1) rfl ?_
  refine jk_icmp_same (tgt := 2764) C rd_Law_law_2759 (by decide) ?_
  refine jk_iload C rd_Law_law_2764 (k := 1) rfl ?_
  by_cases h0 : t = 0
  · refine jk_if_ne (a := some ()) (b := (none : Option Unit)) (o := ()) (tgt := 2781) C rd_Law_law_2766 (by decide) (by unfold jk_eqs; rw [if_pos ⟨htR, jk_R0⟩, if_pos h0]) (fun h _ => absurd h0 h) (fun _ _ => ?_)
    refine jk_aload_n C rd_Law_law_2769 (k := 5) rfl ?_
    refine jk_iconst C rd_Law_law_2770 ?_
    refine jk_lald C 155 2 (lw_at LW_len _) rfl rd_Law_law_2771 ?_
    refine jk_iload C rd_Law_law_2772 (k := 0) rfl ?_
    refine jk_i2l C rd_Law_law_2774 ?_
    refine jk_lcmp C (ht h0) rd_Law_law_2775 ?_
    refine jk_if_eq (a := some ()) (b := (none : Option Unit)) (o := ()) (tgt := 2781) C rd_Law_law_2776 (by decide) (by decide +kernel) (fun _ _ => ?_) (fun h _ => absurd rfl h)
    refine jk_goto (tgt := 2784) C rd_Law_law_2781 (by decide) ?_
    refine jk_lv (lv' := [(0, .ref b), (1, .ref (ad 0)), (2, .ref (am 0)), (3, .ref o), (4, jk_V i)]) [2, 3, 4, 5, 6] rfl ?_
    exact jk_widen (by omega) (by omega) kk
  · refine jk_if_ne (a := (none : Option Unit)) (b := some ()) (o := ()) (tgt := 2781) C rd_Law_law_2766 (by decide) (by unfold jk_eqs; rw [if_pos ⟨htR, jk_R0⟩, if_neg h0]) (fun _ _ => ?_) (fun h _ => absurd h h0)
    refine jk_goto (tgt := 2784) C rd_Law_law_2781 (by decide) ?_
    refine jk_lv (lv' := [(0, .ref b), (1, .ref (ad 0)), (2, .ref (am 0)), (3, .ref o), (4, jk_V i)]) [2, 3, 4, 5, 6] rfl ?_
    exact jk_widen (by omega) (by omega) kk

