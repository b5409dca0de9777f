set_option maxHeartbeats 4000000 in
set_option maxRecDepth 20000 in
theorem lc_12 {p : Program} {l : Launch} {e : Env} {s : State} {m : MethodId} {args : Array Value} {below : List Frame} {meth : Method} {c : Code} {cells slots : Nat} {Q : State → Prop} {D : va_G} {A : Nat → Prop} {ret : Option FieldType} {Z : (Nat → Prop) → State → Heap → Prop} {sq : Nat → Nat} {cI cR cL : ClassId} {g : Nat → Option Nat} {ad am : Nat → Nat} {b o L : Nat} {xs : Nat → Int32} {i : Int} (C : jk_C p s m args meth c mb_Law_law "KnotReaderLaw" 9 jk_WA D jk_cl (jk_t3 cI cR cL) A ret) (hZ : jk_ZK Z sq) (hz : Z A s s.heap) (hcs : cells + 20 ≤ room_1.cells ∧ slots + 120 ≤ room_1.slots) (hX : va_X b L xs s s.heap) (hbl : b < s.heap.size) (hbA : ¬ A b) (hL : L ≤ 3072) (hi : 0 ≤ i ∧ i + 6 ≤ (L : Int)) {σ σ1 σ2 σ3 : jk_LS} {f f1 : Nat → Int64} {t bb : Int} (htR : jk_R t) (ht : t = 0 → f1 0 = (jk_I bb).toInt64) (hA : jk_ME l D jk_cl (jk_t3 cI cR cL) Z mn_Law_topicByte (.codeWith mn_Law_topicByte mb_Law_topicByte 5 (some .int) [(0, 10, 13, 13)] :: jk_WA) (jk_rx 8 1 6 143) [.ref (ad 0), jk_V (xs (i + 1).toNat).toInt, jk_V (xs (i + 2).toNat).toInt, .ref o] (LW cI cR g ad am σ ++ [(o, .inl (cL, 1, .inr (.inl f)))]) (LW cI cR g ad am σ1 ++ [(o, .inl (cL, 1, .inr (.inl f1)))]) t 1 6) (hB : jk_MI l D jk_cl (jk_ty cI cR) Z mn_Md_topicByte (.code mn_Md_topicByte mb_Md_topicByte 3 (some .int) :: jk_WA) (jk_rm 3 64) [.ref (am 0), jk_V (xs (i + 1).toNat).toInt, jk_V (xs (i + 2).toNat).toInt] (LW cI cR g ad am σ1) (LW cI cR g ad am σ2) bb) (hT : jk_MI l D jk_cl (jk_ty cI cR) Z mn_Md_thrown (.code mn_Md_thrown mb_Md_thrown 1 (some .int) :: jk_WA) (jk_rm 0 0) [.ref (am 0)] (LW cI cR g ad am σ2) (LW cI cR g ad am σ3) t) (kk : jk_J p l e room_1 s m args below meth c (cells + 20) (slots + 120) Q D jk_cl A 9 (LW cI cR g ad am σ3 ++ [(o, .inl (cL, 1, .inr (.inl f1)))]) [(0, .ref b), (1, .ref (ad 0)), (2, .ref (am 0)), (3, .ref o), (4, jk_V i)] 2784 []) : jk_J p l e room_1 s m args below meth c (cells) (slots) Q D jk_cl A 9 (LW cI cR g ad am σ ++ [(o, .inl (cL, 1, .inr (.inl f)))]) [(0, .ref b), (1, .ref (ad 0)), (2, .ref (am 0)), (3, .ref o), (4, jk_V i)] 504 [] := by
  have C2 := jk_Csub C [0, 1] rfl (tys' := jk_ty cI cR)
  refine jk_aload_n C rd_Law_law_504 (k := 1) rfl ?_
  refine jk_aload_n C rd_Law_law_505 (k := 0) rfl ?_
  refine jk_iload C rd_Law_law_506 (k := 4) rfl ?_
  refine jk_iconst C rd_Law_law_508 ?_
  refine jk_iadd C rd_Law_law_509 ?_
  refine jk_sld C hX hbl hbA (by omega) (by omega) hL rd_Law_law_510 ?_
  refine jk_aload_n C rd_Law_law_511 (k := 0) rfl ?_
  refine jk_iload C rd_Law_law_512 (k := 4) rfl ?_
  refine jk_iconst C rd_Law_law_514 ?_
  refine jk_iadd C rd_Law_law_515 ?_
  refine jk_sld C hX hbl hbA (by omega) (by omega) hL rd_Law_law_516 ?_
  refine jk_aload_n C rd_Law_law_517 (k := 3) rfl ?_
  refine jk_callSW C hZ.1 hz hA tm_784 tm_785 tm_0 tm_786 na_Law_topicByte ⟨Nat.le_of_ble_eq_true rfl, Nat.le_of_ble_eq_true rfl⟩ rfl (List.range 156) (lw_pq1 LW_len) nd156 (lw_fs1 LW_fst) (lw_pt1 LW_len LW_len) (st := []) rfl (Nat.le_of_ble_eq_true rfl) rd_Law_law_518 ⟨by omega, by omega⟩ ?_
  refine jk_istore C rd_Law_law_521 (by decide) (lv' := [(5, jk_V t), (0, .ref b), (1, .ref (ad 0)), (2, .ref (am 0)), (3, .ref o), (4, jk_V i)]) rfl ?_
  refine jk_aload_n C rd_Law_law_523 (k := 3) rfl ?_
  refine jk_aload_n C rd_Law_law_524 (k := 1) rfl ?_
  refine jk_iload C rd_Law_law_525 (k := 5) rfl ?_
  refine jk_iconst C rd_Law_law_527 ?_
  refine jk_iadd C rd_Law_law_528 ?_
  refine jk_sld C hX hbl hbA (by omega) (by omega) hL rd_Law_law_529 ?_
  refine jk_aload_n C rd_Law_law_530 (k := 1) rfl ?_
  refine jk_iload C rd_Law_law_531 (k := 5) rfl ?_
  refine jk_iconst C rd_Law_law_533 ?_
  refine jk_iadd C rd_Law_law_534 ?_
  refine jk_sld C hX hbl hbA (by omega) (by omega) hL rd_Law_law_535 ?_
  refine jk_callVi C2 hZ.1 hz hB tm_1747 tm_1748 tm_1749 tm_15 tm_1750 na_Md_topicByte ⟨Nat.le_of_ble_eq_true rfl, Nat.le_of_ble_eq_true rfl⟩ rfl (List.range 155) (lw_pl LW_len) nd155 LW_fst (lw_put LW_len LW_len) 145 11 (lw_hd LW_len LW_m _) rfl rfl (st := []) rfl (Nat.le_of_ble_eq_true rfl) rd_Law_law_536 ?_ ⟨by omega, by omega⟩
  refine jk_istore C rd_Law_law_539 (by decide) (lv' := [(6, jk_V bb), (5, jk_V t), (0, .ref b), (1, .ref (ad 0)), (2, .ref (am 0)), (3, .ref o), (4, jk_V i)]) rfl ?_
  refine jk_aload_n C rd_Law_law_541 (k := 4) rfl ?_
  refine jk_callVi C2 hZ.1 hz hT tm_1336 tm_1337 tm_1338 tm_15 tm_1339 na_Md_thrown ⟨Nat.le_of_ble_eq_true rfl, Nat.le_of_ble_eq_true rfl⟩ rfl (List.range 155) (lw_pl LW_len) nd155 LW_fst (lw_put LW_len LW_len) 145 11 (lw_hd LW_len LW_m _) rfl rfl (st := []) rfl (Nat.le_of_ble_eq_true rfl) rd_Law_law_542 ?_ ⟨by omega, by omega⟩
  refine jk_iload C rd_Law_law_545 (k := 1) rfl ?_
  refine jk_icmp_same (tgt := 552) C rd_Law_law_547 (by decide) ?_
  refine jk_iload C rd_Law_law_552 (k := 1) rfl ?_
  by_cases h0 : t = 0
  · refine jk_if_ne (a := some ()) (b := (none : Option Unit)) (o := ()) (tgt := 569) C rd_Law_law_554 (by decide) (by unfold jk_eqs; rw [if_pos ⟨htR, jk_R0⟩, if_pos h0]) (fun h _ => absurd h0 h) (fun _ _ => ?_)
    refine jk_aload_n C rd_Law_law_557 (k := 5) rfl ?_
    refine jk_iconst C rd_Law_law_558 ?_
    refine jk_lald C 155 2 (lw_at LW_len _) rfl rd_Law_law_559 ?_
    refine jk_iload C rd_Law_law_560 (k := 0) rfl ?_
    refine jk_i2l C rd_Law_law_562 ?_
    refine jk_lcmp C (ht h0) rd_Law_law_563 ?_
    refine jk_if_eq (a := some ()) (b := (none : Option Unit)) (o := ()) (tgt := 569) C rd_Law_law_564 (by decide) (by decide +kernel) (fun _ _ => ?_) (fun h _ => absurd rfl h)
    refine jk_goto (tgt := 2784) C rd_Law_law_569 (by decide) ?_
    refine jk_lv (lv' := [(0, .ref b), (1, .ref (ad 0)), (2, .ref (am 0)), (3, .ref o), (4, jk_V i)]) [2, 3, 4, 5, 6] rfl ?_
    exact jk_widen (by omega) (by omega) kk
  · refine jk_if_ne (a := (none : Option Unit)) (b := some ()) (o := ()) (tgt := 569) C rd_Law_law_554 (by decide) (by unfold jk_eqs; rw [if_pos ⟨htR, jk_R0⟩, if_neg h0]) (fun _ _ => ?_) (fun h _ => absurd h h0)
    refine jk_goto (tgt := 2784) C rd_Law_law_569 (by decide) ?_
    refine jk_lv (lv' := [(0, .ref b), (1, .ref (ad 0)), (2, .ref (am 0)), (3, .ref o), (4, jk_V i)]) [2, 3, 4, 5, 6] rfl ?_
    exact jk_widen (by omega) (by omega) kk

set_option maxHeartbeats 4000000 in
set_option maxRecDepth 20000 in
theorem lc_13 {p : Program} {l : Launch} {e : Env} {s : State} {m : MethodId} {args : Array Value} {below : List Frame} {meth : Method} {c : Code} {cells slots : Nat} {Q : State → Prop} {D : va_G} {A : Nat → Prop} {ret : Option FieldType} {Z : (Nat → Prop) → State → Heap → Prop} {sq : Nat → Nat} {cI cR cL : ClassId} {g : Nat → Option Nat} {ad am : Nat → Nat} {b o L : Nat} {xs : Nat → Int32} {i : Int} (C : jk_C p s m args meth c mb_Law_law "KnotReaderLaw" 9 jk_WA D jk_cl (jk_t3 cI cR cL) A ret) (hZ : jk_ZK Z sq) (hz : Z A s s.heap) (hcs : cells + 20 ≤ room_1.cells ∧ slots + 120 ≤ room_1.slots) (hX : va_X b L xs s s.heap) (hbl : b < s.heap.size) (hbA : ¬ A b) (hL : L ≤ 3072) (hi : 0 ≤ i ∧ i + 6 ≤ (L : Int)) {σ σ1 σ2 σ3 : jk_LS} {f f1 : Nat → Int64} {t bb : Int} (htR : jk_R t) (ht : t = 0 → f1 0 = (jk_I bb).toInt64) (hA : jk_ME l D jk_cl (jk_t3 cI cR cL) Z mn_Law_clusterOf (.codeWith mn_Law_clusterOf mb_Law_clusterOf 4 (some .int) [(0, 9, 12, 13)] :: jk_WA) (jk_rx 8 1 6 142) [.ref (ad 0), jk_V (xs (i + 1).toNat).toInt, .ref o] (LW cI cR g ad am σ ++ [(o, .inl (cL, 1, .inr (.inl f)))]) (LW cI cR g ad am σ1 ++ [(o, .inl (cL, 1, .inr (.inl f1)))]) t 1 6) (hB : jk_MI l D jk_cl (jk_ty cI cR) Z mn_Md_clusterOf (.code mn_Md_clusterOf mb_Md_clusterOf 2 (some .int) :: jk_WA) (jk_rm 3 64) [.ref (am 0), jk_V (xs (i + 1).toNat).toInt] (LW cI cR g ad am σ1) (LW cI cR g ad am σ2) bb) (hT : jk_MI l D jk_cl (jk_ty cI cR) Z mn_Md_thrown (.code mn_Md_thrown mb_Md_thrown 1 (some .int) :: jk_WA) (jk_rm 0 0) [.ref (am 0)] (LW cI cR g ad am σ2) (LW cI cR g ad am σ3) t) (kk : jk_J p l e room_1 s m args below meth c (cells + 20) (slots + 120) Q D jk_cl A 9 (LW cI cR g ad am σ3 ++ [(o, .inl (cL, 1, .inr (.inl f1)))]) [(0, .ref b), (1, .ref (ad 0)), (2, .ref (am 0)), (3, .ref o), (4, jk_V i)] 2784 []) : jk_J p l e room_1 s m args below meth c (cells) (slots) Q D jk_cl A 9 (LW cI cR g ad am σ ++ [(o, .inl (cL, 1, .inr (.inl f)))]) [(0, .ref b), (1, .ref (ad 0)), (2, .ref (am 0)), (3, .ref o), (4, jk_V i)] 572 [] := by
  have C2 := jk_Csub C [0, 1] rfl (tys' := jk_ty cI cR)
  refine jk_aload_n C rd_Law_law_572 (k := 1) rfl ?_
  refine jk_aload_n C rd_Law_law_573 (k := 0) rfl ?_
  refine jk_iload C rd_Law_law_574 (k := 4) rfl ?_
  refine jk_iconst C rd_Law_law_576 ?_
  refine jk_iadd C rd_Law_law_577 ?_
  refine jk_sld C hX hbl hbA (by omega) (by omega) hL rd_Law_law_578 ?_
  refine jk_aload_n C rd_Law_law_579 (k := 3) rfl ?_
  refine jk_callSW C hZ.1 hz hA tm_868 tm_869 tm_0 tm_870 na_Law_clusterOf ⟨Nat.le_of_ble_eq_true rfl, Nat.le_of_ble_eq_true rfl⟩ rfl (List.range 156) (lw_pq1 LW_len) nd156 (lw_fs1 LW_fst) (lw_pt1 LW_len LW_len) (st := []) rfl (Nat.le_of_ble_eq_true rfl) rd_Law_law_580 ⟨by omega, by omega⟩ ?_
  refine jk_istore C rd_Law_law_583 (by decide) (lv' := [(5, jk_V t), (0, .ref b), (1, .ref (ad 0)), (2, .ref (am 0)), (3, .ref o), (4, jk_V i)]) rfl ?_
  refine jk_aload_n C rd_Law_law_585 (k := 3) rfl ?_
  refine jk_aload_n C rd_Law_law_586 (k := 1) rfl ?_
  refine jk_iload C rd_Law_law_587 (k := 5) rfl ?_
  refine jk_iconst C rd_Law_law_589 ?_
  refine jk_iadd C rd_Law_law_590 ?_
  refine jk_sld C hX hbl hbA (by omega) (by omega) hL rd_Law_law_591 ?_
  refine jk_callVi C2 hZ.1 hz hB tm_1635 tm_1636 tm_1637 tm_15 tm_1638 na_Md_clusterOf ⟨Nat.le_of_ble_eq_true rfl, Nat.le_of_ble_eq_true rfl⟩ rfl (List.range 155) (lw_pl LW_len) nd155 LW_fst (lw_put LW_len LW_len) 145 11 (lw_hd LW_len LW_m _) rfl rfl (st := []) rfl (Nat.le_of_ble_eq_true rfl) rd_Law_law_592 ?_ ⟨by omega, by omega⟩
  refine jk_istore C rd_Law_law_595 (by decide) (lv' := [(6, jk_V bb), (5, jk_V t), (0, .ref b), (1, .ref (ad 0)), (2, .ref (am 0)), (3, .ref o), (4, jk_V i)]) rfl ?_
  refine jk_aload_n C rd_Law_law_597 (k := 4) rfl ?_
  refine jk_callVi C2 hZ.1 hz hT tm_1336 tm_1337 tm_1338 tm_15 tm_1339 na_Md_thrown ⟨Nat.le_of_ble_eq_true rfl, Nat.le_of_ble_eq_true rfl⟩ rfl (List.range 155) (lw_pl LW_len) nd155 LW_fst (lw_put LW_len LW_len) 145 11 (lw_hd LW_len LW_m _) rfl rfl (st := []) rfl (Nat.le_of_ble_eq_true rfl) rd_Law_law_598 ?_ ⟨by omega, by omega⟩
  refine jk_iload C rd_Law_law_601 (k := 1) rfl ?_
  refine jk_icmp_same (tgt := 608) C rd_Law_law_603 (by decide) ?_
  refine jk_iload C rd_Law_law_608 (k := 1) rfl ?_
  by_cases h0 : t = 0
  · refine jk_if_ne (a := some ()) (b := (none : Option Unit)) (o := ()) (tgt := 625) C rd_Law_law_610 (by decide) (by unfold jk_eqs; rw [if_pos ⟨htR, jk_R0⟩, if_pos h0]) (fun h _ => absurd h0 h) (fun _ _ => ?_)
    refine jk_aload_n C rd_Law_law_613 (k := 5) rfl ?_
    refine jk_iconst C rd_Law_law_614 ?_
    refine jk_lald C 155 2 (lw_at LW_len _) rfl rd_Law_law_615 ?_
    refine jk_iload C rd_Law_law_616 (k := 0) rfl ?_
    refine jk_i2l C rd_Law_law_618 ?_
    refine jk_lcmp C (ht h0) rd_Law_law_619 ?_
    refine jk_if_eq (a := some ()) (b := (none : Option Unit)) (o := ()) (tgt := 625) C rd_Law_law_620 (by decide) (by decide +kernel) (fun _ _ => ?_) (fun h _ => absurd rfl h)
    refine jk_goto (tgt := 2784) C rd_Law_law_625 (by decide) ?_
    refine jk_lv (lv' := [(0, .ref b), (1, .ref (ad 0)), (2, .ref (am 0)), (3, .ref o), (4, jk_V i)]) [2, 3, 4, 5, 6] rfl ?_
    exact jk_widen (by omega) (by omega) kk
  · refine jk_if_ne (a := (none : Option Unit)) (b := some ()) (o := ()) (tgt := 625) C rd_Law_law_610 (by decide) (by unfold jk_eqs; rw [if_pos ⟨htR, jk_R0⟩, if_neg h0]) (fun _ _ => ?_) (fun h _ => absurd h h0)
    refine jk_goto (tgt := 2784) C rd_Law_law_625 (by decide) ?_
    refine jk_lv (lv' := [(0, .ref b), (1, .ref (ad 0)), (2, .ref (am 0)), (3, .ref o), (4, jk_V i)]) [2, 3, 4, 5, 6] rfl ?_
    exact jk_widen (by omega) (by omega) kk

set_option maxHeartbeats 4000000 in
set_option maxRecDepth 20000 in
theorem lc_14 {p : Program} {l : Launch} {e : Env} {s : State} {m : MethodId} {args : Array Value} {below : List Frame} {meth : Method} {c : Code} {cells slots : Nat} {Q : State → Prop} {D : va_G} {A : Nat → Prop} {ret : Option FieldType} {Z : (Nat → Prop) → State → Heap → Prop} {sq : Nat → Nat} {cI cR cL : ClassId} {g : Nat → Option Nat} {ad am : Nat → Nat} {b o L : Nat} {xs : Nat → Int32} {i : Int} (C : jk_C p s m args meth c mb_Law_law "KnotReaderLaw" 9 jk_WA D jk_cl (jk_t3 cI cR cL) A ret) (hZ : jk_ZK Z sq) (hz : Z A s s.heap) (hcs : cells + 20 ≤ room_1.cells ∧ slots + 120 ≤ room_1.slots) (hX : va_X b L xs s s.heap) (hbl : b < s.heap.size) (hbA : ¬ A b) (hL : L ≤ 3072) (hi : 0 ≤ i ∧ i + 6 ≤ (L : Int)) {σ σ1 σ2 σ3 : jk_LS} {f f1 : Nat → Int64} {t bb : Int} (htR : jk_R t) (ht : t = 0 → f1 0 = (jk_I bb).toInt64) (hA : jk_ME l D jk_cl (jk_t3 cI cR cL) Z mn_Law_depthOf (.codeWith mn_Law_depthOf mb_Law_depthOf 4 (some .int) [(0, 9, 12, 13)] :: jk_WA) (jk_rx 8 1 6 142) [.ref (ad 0), jk_V (xs (i + 1).toNat).toInt, .ref o] (LW cI cR g ad am σ ++ [(o, .inl (cL, 1, .inr (.inl f)))]) (LW cI cR g ad am σ1 ++ [(o, .inl (cL, 1, .inr (.inl f1)))]) t 1 6) (hB : jk_MI l D jk_cl (jk_ty cI cR) Z mn_Md_depthOf (.code mn_Md_depthOf mb_Md_depthOf 2 (some .int) :: jk_WA) (jk_rm 3 64) [.ref (am 0), jk_V (xs (i + 1).toNat).toInt] (LW cI cR g ad am σ1) (LW cI cR g ad am σ2) bb) (hT : jk_MI l D jk_cl (jk_ty cI cR) Z mn_Md_thrown (.code mn_Md_thrown mb_Md_thrown 1 (some .int) :: jk_WA) (jk_rm 0 0) [.ref (am 0)] (LW cI cR g ad am σ2) (LW cI cR g ad am σ3) t) (kk : jk_J p l e room_1 s m args below meth c (cells + 20) (slots + 120) Q D jk_cl A 9 (LW cI cR g ad am σ3 ++ [(o, .inl (cL, 1, .inr (.inl f1)))]) [(0, .ref b), (1, .ref (ad 0)), (2, .ref (am 0)), (3, .ref o), (4, jk_V i)] 2784 []) : jk_J p l e room_1 s m args below meth c (cells) (slots) Q D jk_cl A 9 (LW cI cR g ad am σ ++ [(o, .inl (cL, 1, .inr (.inl f)))]) [(0, .ref b), (1, .ref (ad 0)), (2, .ref (am 0)), (3, .ref o), (4, jk_V i)] 628 [] := by
  have C2 := jk_Csub C [0, 1] rfl (tys' := jk_ty cI cR)
  refine jk_aload_n C rd_Law_law_628 (k := 1) rfl ?_
  refine jk_aload_n C rd_Law_law_629 (k := 0) rfl ?_
  refine jk_iload C rd_Law_law_630 (k := 4) rfl ?_
  refine jk_iconst C rd_Law_law_632 ?_
  refine jk_iadd C rd_Law_law_633 ?_
  refine jk_sld C hX hbl hbA (by omega) (by omega) hL rd_Law_law_634 ?_
  refine jk_aload_n C rd_Law_law_635 (k := 3) rfl ?_
  refine jk_callSW C hZ.1 hz hA tm_880 tm_881 tm_0 tm_882 na_Law_depthOf ⟨Nat.le_of_ble_eq_true rfl, Nat.le_of_ble_eq_true rfl⟩ rfl (List.range 156) (lw_pq1 LW_len) nd156 (lw_fs1 LW_fst) (lw_pt1 LW_len LW_len) (st := []) rfl (Nat.le_of_ble_eq_true rfl) rd_Law_law_636 ⟨by omega, by omega⟩ ?_
  refine jk_istore C rd_Law_law_639 (by decide) (lv' := [(5, jk_V t), (0, .ref b), (1, .ref (ad 0)), (2, .ref (am 0)), (3, .ref o), (4, jk_V i)]) rfl ?_
  refine jk_aload_n C rd_Law_law_641 (k := 3) rfl ?_
  refine jk_aload_n C rd_Law_law_642 (k := 1) rfl ?_
  refine jk_iload C rd_Law_law_643 (k := 5) rfl ?_
  refine jk_iconst C rd_Law_law_645 ?_
  refine jk_iadd C rd_Law_law_646 ?_
  refine jk_sld C hX hbl hbA (by omega) (by omega) hL rd_Law_law_647 ?_
  refine jk_callVi C2 hZ.1 hz hB tm_1647 tm_1648 tm_1649 tm_15 tm_1650 na_Md_depthOf ⟨Nat.le_of_ble_eq_true rfl, Nat.le_of_ble_eq_true rfl⟩ rfl (List.range 155) (lw_pl LW_len) nd155 LW_fst (lw_put LW_len LW_len) 145 11 (lw_hd LW_len LW_m _) rfl rfl (st := []) rfl (Nat.le_of_ble_eq_true rfl) rd_Law_law_648 ?_ ⟨by omega, by omega⟩
  refine jk_istore C rd_Law_law_651 (by decide) (lv' := [(6, jk_V bb), (5, jk_V t), (0, .ref b), (1, .ref (ad 0)), (2, .ref (am 0)), (3, .ref o), (4, jk_V i)]) rfl ?_
  refine jk_aload_n C rd_Law_law_653 (k := 4) rfl ?_
  refine jk_callVi C2 hZ.1 hz hT tm_1336 tm_1337 tm_1338 tm_15 tm_1339 na_Md_thrown ⟨Nat.le_of_ble_eq_true rfl, Nat.le_of_ble_eq_true rfl⟩ rfl (List.range 155) (lw_pl LW_len) nd155 LW_fst (lw_put LW_len LW_len) 145 11 (lw_hd LW_len LW_m _) rfl rfl (st := []) rfl (Nat.le_of_ble_eq_true rfl) rd_Law_law_654 ?_ ⟨by omega, by omega⟩
  refine jk_iload C rd_Law_law_657 (k := 1) rfl ?_
  refine jk_icmp_same (tgt := 664) C rd_Law_law_659 (by decide) ?_
  refine jk_iload C rd_Law_law_664 (k := 1) rfl ?_
  by_cases h0 : t = 0
  · refine jk_if_ne (a := some ()) (b := (none : Option Unit)) (o := ()) (tgt := 681) C rd_Law_law_666 (by decide) (by unfold jk_eqs; rw [if_pos ⟨htR, jk_R0⟩, if_pos h0]) (fun h _ => absurd h0 h) (fun _ _ => ?_)
    refine jk_aload_n C rd_Law_law_669 (k := 5) rfl ?_
    refine jk_iconst C rd_Law_law_670 ?_
    refine jk_lald C 155 2 (lw_at LW_len _) rfl rd_Law_law_671 ?_
    refine jk_iload C rd_Law_law_672 (k := 0) rfl ?_
    refine jk_i2l C rd_Law_law_674 ?_
    refine jk_lcmp C (ht h0) rd_Law_law_675 ?_
    refine jk_if_eq (a := some ()) (b := (none : Option Unit)) (o := ()) (tgt := 681) C rd_Law_law_676 (by decide) (by decide +kernel) (fun _ _ => ?_) (fun h _ => absurd rfl h)
    refine jk_goto (tgt := 2784) C rd_Law_law_681 (by decide) ?_
    refine jk_lv (lv' := [(0, .ref b), (1, .ref (ad 0)), (2, .ref (am 0)), (3, .ref o), (4, jk_V i)]) [2, 3, 4, 5, 6] rfl ?_
    exact jk_widen (by omega) (by omega) kk
  · refine jk_if_ne (a := (none : Option Unit)) (b := some ()) (o := ()) (tgt := 681) C rd_Law_law_666 (by decide) (by unfold jk_eqs; rw [if_pos ⟨htR, jk_R0⟩, if_neg h0]) (fun _ _ => ?_) (fun h _ => absurd h h0)
    refine jk_goto (tgt := 2784) C rd_Law_law_681 (by decide) ?_
    refine jk_lv (lv' := [(0, .ref b), (1, .ref (ad 0)), (2, .ref (am 0)), (3, .ref o), (4, jk_V i)]) [2, 3, 4, 5, 6] rfl ?_
    exact jk_widen (by omega) (by omega) kk

set_option maxHeartbeats 4000000 in
set_option maxRecDepth 20000 in
theorem lc_15 {p : Program} {l : Launch} {e : Env} {s : State} {m : MethodId} {args : Array Value} {below : List Frame} {meth : Method} {c : Code} {cells slots : Nat} {Q : State → Prop} {D : va_G} {A : Nat → Prop} {ret : Option FieldType} {Z : (Nat → Prop) → State → Heap → Prop} {sq : Nat → Nat} {cI cR cL : ClassId} {g : Nat → Option Nat} {ad am : Nat → Nat} {b o L : Nat} {xs : Nat → Int32} {i : Int} (C : jk_C p s m args meth c mb_Law_law "KnotReaderLaw" 9 jk_WA D jk_cl (jk_t3 cI cR cL) A ret) (hZ : jk_ZK Z sq) (hz : Z A s s.heap) (hcs : cells + 20 ≤ room_1.cells ∧ slots + 120 ≤ room_1.slots) (hX : va_X b L xs s s.heap) (hbl : b < s.heap.size) (hbA : ¬ A b) (hL : L ≤ 3072) (hi : 0 ≤ i ∧ i + 6 ≤ (L : Int)) {σ σ1 σ2 σ3 : jk_LS} {f f1 : Nat → Int64} {t bb : Int} (htR : jk_R t) (ht : t = 0 → f1 0 = (jk_I bb).toInt64) (hA : jk_ME l D jk_cl (jk_t3 cI cR cL) Z mn_Law_parentOf (.codeWith mn_Law_parentOf mb_Law_parentOf 4 (some .int) [(0, 9, 12, 13)] :: jk_WA) (jk_rx 8 1 6 142) [.ref (ad 0), jk_V (xs (i + 1).toNat).toInt, .ref o] (LW cI cR g ad am σ ++ [(o, .inl (cL, 1, .inr (.inl f)))]) (LW cI cR g ad am σ1 ++ [(o, .inl (cL, 1, .inr (.inl f1)))]) t 1 6) (hB : jk_MI l D jk_cl (jk_ty cI cR) Z mn_Md_parentOf (.code mn_Md_parentOf mb_Md_parentOf 2 (some .int) :: jk_WA) (jk_rm 3 64) [.ref (am 0), jk_V (xs (i + 1).toNat).toInt] (LW cI cR g ad am σ1) (LW cI cR g ad am σ2) bb) (hT : jk_MI l D jk_cl (jk_ty cI cR) Z mn_Md_thrown (.code mn_Md_thrown mb_Md_thrown 1 (some .int) :: jk_WA) (jk_rm 0 0) [.ref (am 0)] (LW cI cR g ad am σ2) (LW cI cR g ad am σ3) t) (kk : jk_J p l e room_1 s m args below meth c (cells + 20) (slots + 120) Q D jk_cl A 9 (LW cI cR g ad am σ3 ++ [(o, .inl (cL, 1, .inr (.inl f1)))]) [(0, .ref b), (1, .ref (ad 0)), (2, .ref (am 0)), (3, .ref o), (4, jk_V i)] 2784 []) : jk_J p l e room_1 s m args below meth c (cells) (slots) Q D jk_cl A 9 (LW cI cR g ad am σ ++ [(o, .inl (cL, 1, .inr (.inl f)))]) [(0, .ref b), (1, .ref (ad 0)), (2, .ref (am 0)), (3, .ref o), (4, jk_V i)] 684 [] := by
  have C2 := jk_Csub C [0, 1] rfl (tys' := jk_ty cI cR)
  refine jk_aload_n C rd_Law_law_684 (k := 1) rfl ?_
  refine jk_aload_n C rd_Law_law_685 (k := 0) rfl ?_
  refine jk_iload C rd_Law_law_686 (k := 4) rfl ?_
  refine jk_iconst C rd_Law_law_688 ?_
  refine jk_iadd C rd_Law_law_689 ?_
  refine jk_sld C hX hbl hbA (by omega) (by omega) hL rd_Law_law_690 ?_
  refine jk_aload_n C rd_Law_law_691 (k := 3) rfl ?_
  refine jk_callSW C hZ.1 hz hA tm_887 tm_888 tm_0 tm_889 na_Law_parentOf ⟨Nat.le_of_ble_eq_true rfl, Nat.le_of_ble_eq_true rfl⟩ rfl (List.range 156) (lw_pq1 LW_len) nd156 (lw_fs1 LW_fst) (lw_pt1 LW_len LW_len) (st := []) rfl (Nat.le_of_ble_eq_true rfl) rd_Law_law_692 ⟨by omega, by omega⟩ ?_
  refine jk_istore C rd_Law_law_695 (by decide) (lv' := [(5, jk_V t), (0, .ref b), (1, .ref (ad 0)), (2, .ref (am 0)), (3, .ref o), (4, jk_V i)]) rfl ?_
  refine jk_aload_n C rd_Law_law_697 (k := 3) rfl ?_
  refine jk_aload_n C rd_Law_law_698 (k := 1) rfl ?_
  refine jk_iload C rd_Law_law_699 (k := 5) rfl ?_
  refine jk_iconst C rd_Law_law_701 ?_
  refine jk_iadd C rd_Law_law_702 ?_
  refine jk_sld C hX hbl hbA (by omega) (by omega) hL rd_Law_law_703 ?_
  refine jk_callVi C2 hZ.1 hz hB tm_1651 tm_1652 tm_1653 tm_15 tm_1654 na_Md_parentOf ⟨Nat.le_of_ble_eq_true rfl, Nat.le_of_ble_eq_true rfl⟩ rfl (List.range 155) (lw_pl LW_len) nd155 LW_fst (lw_put LW_len LW_len) 145 11 (lw_hd LW_len LW_m _) rfl rfl (st := []) rfl (Nat.le_of_ble_eq_true rfl) rd_Law_law_704 ?_ ⟨by omega, by omega⟩
  refine jk_istore C rd_Law_law_707 (by decide) (lv' := [(6, jk_V bb), (5, jk_V t), (0, .ref b), (1, .ref (ad 0)), (2, .ref (am 0)), (3, .ref o), (4, jk_V i)]) rfl ?_
  refine jk_aload_n C rd_Law_law_709 (k := 4) rfl ?_
  refine jk_callVi C2 hZ.1 hz hT tm_1336 tm_1337 tm_1338 tm_15 tm_1339 na_Md_thrown ⟨Nat.le_of_ble_eq_true rfl, Nat.le_of_ble_eq_true rfl⟩ rfl (List.range 155) (lw_pl LW_len) nd155 LW_fst (lw_put LW_len LW_len) 145 11 (lw_hd LW_len LW_m _) rfl rfl (st := []) rfl (Nat.le_of_ble_eq_true rfl) rd_Law_law_710 ?_ ⟨by omega, by omega⟩
  refine jk_iload C rd_Law_law_713 (k := 1) rfl ?_
  refine jk_icmp_same (tgt := 720) C rd_Law_law_715 (by decide) ?_
  refine jk_iload C rd_Law_law_720 (k := 1) rfl ?_
  by_cases h0 : t = 0
  · refine jk_if_ne (a := some ()) (b := (none : Option Unit)) (o := ()) (tgt := 737) C rd_Law_law_722 (by decide) (by unfold jk_eqs; rw [if_pos ⟨htR, jk_R0⟩, if_pos h0]) (fun h _ => absurd h0 h) (fun _ _ => ?_)
    refine jk_aload_n C rd_Law_law_725 (k := 5) rfl ?_
    refine jk_iconst C rd_Law_law_726 ?_
    refine jk_lald C 155 2 (lw_at LW_len _) rfl rd_Law_law_727 ?_
    refine jk_iload C rd_Law_law_728 (k := 0) rfl ?_
    refine jk_i2l C rd_Law_law_730 ?_
    refine jk_lcmp C (ht h0) rd_Law_law_731 ?_
    refine jk_if_eq (a := some ()) (b := (none : Option Unit)) (o := ()) (tgt := 737) C rd_Law_law_732 (by decide) (by decide +kernel) (fun _ _ => ?_) (fun h _ => absurd rfl h)
    refine jk_goto (tgt := 2784) C rd_Law_law_737 (by decide) ?_
    refine jk_lv (lv' := [(0, .ref b), (1, .ref (ad 0)), (2, .ref (am 0)), (3, .ref o), (4, jk_V i)]) [2, 3, 4, 5, 6] rfl ?_
    exact jk_widen (by omega) (by omega) kk
  · refine jk_if_ne (a := (none : Option Unit)) (b := some ()) (o := ()) (tgt := 737) C rd_Law_law_722 (by decide) (by unfold jk_eqs; rw [if_pos ⟨htR, jk_R0⟩, if_neg h0]) (fun _ _ => ?_) (fun h _ => absurd h h0)
    refine jk_goto (tgt := 2784) C rd_Law_law_737 (by decide) ?_
    refine jk_lv (lv' := [(0, .ref b), (1, .ref (ad 0)), (2, .ref (am 0)), (3, .ref o), (4, jk_V i)]) [2, 3, 4, 5, 6] rfl ?_
    exact jk_widen (by omega) (by omega) kk

set_option maxHeartbeats 4000000 in
set_option maxRecDepth 20000 in
theorem lc_16 {p : Program} {l : Launch} {e : Env} {s : State} {m : MethodId} {args : Array Value} {below : List Frame} {meth : Method} {c : Code} {cells slots : Nat} {Q : State → Prop} {D : va_G} {A : Nat → Prop} {ret : Option FieldType} {Z : (Nat → Prop) → State → Heap → Prop} {sq : Nat → Nat} {cI cR cL : ClassId} {g : Nat → Option Nat} {ad am : Nat → Nat} {b o L : Nat} {xs : Nat → Int32} {i : Int} (C : jk_C p s m args meth c mb_Law_law "KnotReaderLaw" 9 jk_WA D jk_cl (jk_t3 cI cR cL) A ret) (hZ : jk_ZK Z sq) (hz : Z A s s.heap) (hcs : cells + 20 ≤ room_1.cells ∧ slots + 120 ≤ room_1.slots) (hX : va_X b L xs s s.heap) (hbl : b < s.heap.size) (hbA : ¬ A b) (hL : L ≤ 3072) (hi : 0 ≤ i ∧ i + 6 ≤ (L : Int)) {σ σ1 σ2 σ3 : jk_LS} {f f1 : Nat → Int64} {t bb : Int} (htR : jk_R t) (ht : t = 0 → f1 0 = (jk_I bb).toInt64) (hA : jk_ME l D jk_cl (jk_t3 cI cR cL) Z mn_Law_topicOf (.codeWith mn_Law_topicOf mb_Law_topicOf 4 (some .int) [(0, 9, 12, 13)] :: jk_WA) (jk_rx 8 1 6 142) [.ref (ad 0), jk_V (xs (i + 1).toNat).toInt, .ref o] (LW cI cR g ad am σ ++ [(o, .inl (cL, 1, .inr (.inl f)))]) (LW cI cR g ad am σ1 ++ [(o, .inl (cL, 1, .inr (.inl f1)))]) t 1 6) (hB : jk_MI l D jk_cl (jk_ty cI cR) Z mn_Md_topicOf (.code mn_Md_topicOf mb_Md_topicOf 2 (some .int) :: jk_WA) (jk_rm 3 64) [.ref (am 0), jk_V (xs (i + 1).toNat).toInt] (LW cI cR g ad am σ1) (LW cI cR g ad am σ2) bb) (hT : jk_MI l D jk_cl (jk_ty cI cR) Z mn_Md_thrown (.code mn_Md_thrown mb_Md_thrown 1 (some .int) :: jk_WA) (jk_rm 0 0) [.ref (am 0)] (LW cI cR g ad am σ2) (LW cI cR g ad am σ3) t) (kk : jk_J p l e room_1 s m args below meth c (cells + 20) (slots + 120) Q D jk_cl A 9 (LW cI cR g ad am σ3 ++ [(o, .inl (cL, 1, .inr (.inl f1)))]) [(0, .ref b), (1, .ref (ad 0)), (2, .ref (am 0)), (3, .ref o), (4, jk_V i)] 2784 []) : jk_J p l e room_1 s m args below meth c (cells) (slots) Q D jk_cl A 9 (LW cI cR g ad am σ ++ [(o, .inl (cL, 1, .inr (.inl f)))]) [(0, .ref b), (1, .ref (ad 0)), (2, .ref (am 0)), (3, .ref o), (4, jk_V i)] 740 [] := by
  have C2 := jk_Csub C [0, 1] rfl (tys' := jk_ty cI cR)
  refine jk_aload_n C rd_Law_law_740 (k := 1) rfl ?_
  refine jk_aload_n C rd_Law_law_741 (k := 0) rfl ?_
  refine jk_iload C rd_Law_law_742 (k := 4) rfl ?_
  refine jk_iconst C rd_Law_law_744 ?_
  refine jk_iadd C rd_Law_law_745 ?_
  refine jk_sld C hX hbl hbA (by omega) (by omega) hL rd_Law_law_746 ?_
  refine jk_aload_n C rd_Law_law_747 (k := 3) rfl ?_
  refine jk_callSW C hZ.1 hz hA tm_899 tm_900 tm_0 tm_901 na_Law_topicOf ⟨Nat.le_of_ble_eq_true rfl, Nat.le_of_ble_eq_true rfl⟩ rfl (List.range 156) (lw_pq1 LW_len) nd156 (lw_fs1 LW_fst) (lw_pt1 LW_len LW_len) (st := []) rfl (Nat.le_of_ble_eq_true rfl) rd_Law_law_748 ⟨by omega, by omega⟩ ?_
  refine jk_istore C rd_Law_law_751 (by decide) (lv' := [(5, jk_V t), (0, .ref b), (1, .ref (ad 0)), (2, .ref (am 0)), (3, .ref o), (4, jk_V i)]) rfl ?_
  refine jk_aload_n C rd_Law_law_753 (k := 3) rfl ?_
  refine jk_aload_n C rd_Law_law_754 (k := 1) rfl ?_
  refine jk_iload C rd_Law_law_755 (k := 5) rfl ?_
  refine jk_iconst C rd_Law_law_757 ?_
  refine jk_iadd C rd_Law_law_758 ?_
  refine jk_sld C hX hbl hbA (by omega) (by omega) hL rd_Law_law_759 ?_
  refine jk_callVi C2 hZ.1 hz hB tm_1659 tm_1660 tm_1661 tm_15 tm_1662 na_Md_topicOf ⟨Nat.le_of_ble_eq_true rfl, Nat.le_of_ble_eq_true rfl⟩ rfl (List.range 155) (lw_pl LW_len) nd155 LW_fst (lw_put LW_len LW_len) 145 11 (lw_hd LW_len LW_m _) rfl rfl (st := []) rfl (Nat.le_of_ble_eq_true rfl) rd_Law_law_760 ?_ ⟨by omega, by omega⟩
  refine jk_istore C rd_Law_law_763 (by decide) (lv' := [(6, jk_V bb), (5, jk_V t), (0, .ref b), (1, .ref (ad 0)), (2, .ref (am 0)), (3, .ref o), (4, jk_V i)]) rfl ?_
  refine jk_aload_n C rd_Law_law_765 (k := 4) rfl ?_
  refine jk_callVi C2 hZ.1 hz hT tm_1336 tm_1337 tm_1338 tm_15 tm_1339 na_Md_thrown ⟨Nat.le_of_ble_eq_true rfl, Nat.le_of_ble_eq_true rfl⟩ rfl (List.range 155) (lw_pl LW_len) nd155 LW_fst (lw_put LW_len LW_len) 145 11 (lw_hd LW_len LW_m _) rfl rfl (st := []) rfl (Nat.le_of_ble_eq_true rfl) rd_Law_law_766 ?_ ⟨by omega, by omega⟩
  refine jk_iload C rd_Law_law_769 (k := 1) rfl ?_
  refine jk_icmp_same (tgt := 776) C rd_Law_law_771 (by decide) ?_
  refine jk_iload C rd_Law_law_776 (k := 1) rfl ?_
  by_cases h0 : t = 0
  · refine jk_if_ne (a := some ()) (b := (none : Option Unit)) (o := ()) (tgt := 793) C rd_Law_law_778 (by decide) (by unfold jk_eqs; rw [if_pos ⟨htR, jk_R0⟩, if_pos h0]) (fun h _ => absurd h0 h) (fun _ _ => ?_)
    refine jk_aload_n C rd_Law_law_781 (k := 5) rfl ?_
    refine jk_iconst C rd_Law_law_782 ?_
    refine jk_lald C 155 2 (lw_at LW_len _) rfl rd_Law_law_783 ?_
    refine jk_iload C rd_Law_law_784 (k := 0) rfl ?_
    refine jk_i2l C rd_Law_law_786 ?_
    refine jk_lcmp C (ht h0) rd_Law_law_787 ?_
    refine jk_if_eq (a := some ()) (b := (none : Option Unit)) (o := ()) (tgt := 793) C rd_Law_law_788 (by decide) (by decide +kernel) (fun _ _ => ?_) (fun h _ => absurd rfl h)
    refine jk_goto (tgt := 2784) C rd_Law_law_793 (by decide) ?_
    refine jk_lv (lv' := [(0, .ref b), (1, .ref (ad 0)), (2, .ref (am 0)), (3, .ref o), (4, jk_V i)]) [2, 3, 4, 5, 6] rfl ?_
    exact jk_widen (by omega) (by omega) kk
  · refine jk_if_ne (a := (none : Option Unit)) (b := some ()) (o := ()) (tgt := 793) C rd_Law_law_778 (by decide) (by unfold jk_eqs; rw [if_pos ⟨htR, jk_R0⟩, if_neg h0]) (fun _ _ => ?_) (fun h _ => absurd h h0)
    refine jk_goto (tgt := 2784) C rd_Law_law_793 (by decide) ?_
    refine jk_lv (lv' := [(0, .ref b), (1, .ref (ad 0)), (2, .ref (am 0)), (3, .ref o), (4, jk_V i)]) [2, 3, 4, 5, 6] rfl ?_
    exact jk_widen (by omega) (by omega) kk

set_option maxHeartbeats 4000000 in
set_option maxRecDepth 20000 in
theorem lc_17 {p : Program} {l : Launch} {e : Env} {s : State} {m : MethodId} {args : Array Value} {below : List Frame} {meth : Method} {c : Code} {cells slots : Nat} {Q : State → Prop} {D : va_G} {A : Nat → Prop} {ret : Option FieldType} {Z : (Nat → Prop) → State → Heap → Prop} {sq : Nat → Nat} {cI cR cL : ClassId} {g : Nat → Option Nat} {ad am : Nat → Nat} {b o L : Nat} {xs : Nat → Int32} {i : Int} (C : jk_C p s m args meth c mb_Law_law "KnotReaderLaw" 9 jk_WA D jk_cl (jk_t3 cI cR cL) A ret) (hZ : jk_ZK Z sq) (hz : Z A s s.heap) (hcs : cells + 20 ≤ room_1.cells ∧ slots + 120 ≤ room_1.slots) (hX : va_X b L xs s s.heap) (hbl : b < s.heap.size) (hbA : ¬ A b) (hL : L ≤ 3072) (hi : 0 ≤ i ∧ i + 6 ≤ (L : Int)) {σ σ1 σ2 σ3 : jk_LS} {f f1 : Nat → Int64} {t bb : Int} (htR : jk_R t) (ht : t = 0 → f1 0 = (jk_I bb).toInt64) (hA : jk_ME l D jk_cl (jk_t3 cI cR cL) Z mn_Law_subsidiariesOf (.codeWith mn_Law_subsidiariesOf mb_Law_subsidiariesOf 4 (some .int) [(0, 9, 12, 13)] :: jk_WA) (jk_rx 8 1 6 142) [.ref (ad 0), jk_V (xs (i + 1).toNat).toInt, .ref o] (LW cI cR g ad am σ ++ [(o, .inl (cL, 1, .inr (.inl f)))]) (LW cI cR g ad am σ1 ++ [(o, .inl (cL, 1, .inr (.inl f1)))]) t 1 6) (hB : jk_MI l D jk_cl (jk_ty cI cR) Z mn_Md_subsidiariesOf (.code mn_Md_subsidiariesOf mb_Md_subsidiariesOf 2 (some .int) :: jk_WA) (jk_rm 3 67) [.ref (am 0), jk_V (xs (i + 1).toNat).toInt] (LW cI cR g ad am σ1) (LW cI cR g ad am σ2) bb) (hT : jk_MI l D jk_cl (jk_ty cI cR) Z mn_Md_thrown (.code mn_Md_thrown mb_Md_thrown 1 (some .int) :: jk_WA) (jk_rm 0 0) [.ref (am 0)] (LW cI cR g ad am σ2) (LW cI cR g ad am σ3) t) (kk : jk_J p l e room_1 s m args below meth c (cells + 20) (slots + 120) Q D jk_cl A 9 (LW cI cR g ad am σ3 ++ [(o, .inl (cL, 1, .inr (.inl f1)))]) [(0, .ref b), (1, .ref (ad 0)), (2, .ref (am 0)), (3, .ref o), (4, jk_V i)] 2784 []) : jk_J p l e room_1 s m args below meth c (cells) (slots) Q D jk_cl A 9 (LW cI cR g ad am σ ++ [(o, .inl (cL, 1, .inr (.inl f)))]) [(0, .ref b), (1, .ref (ad 0)), (2, .ref (am 0)), (3, .ref o), (4, jk_V i)] 796 [] := by
  have C2 := jk_Csub C [0, 1] rfl (tys' := jk_ty cI cR)
  refine jk_aload_n C rd_Law_law_796 (k := 1) rfl ?_
  refine jk_aload_n C rd_Law_law_797 (k := 0) rfl ?_
  refine jk_iload C rd_Law_law_798 (k := 4) rfl ?_
  refine jk_iconst C rd_Law_law_800 ?_
  refine jk_iadd C rd_Law_law_801 ?_
  refine jk_sld C hX hbl hbA (by omega) (by omega) hL rd_Law_law_802 ?_
  refine jk_aload_n C rd_Law_law_803 (k := 3) rfl ?_
  refine jk_callSW C hZ.1 hz hA tm_906 tm_907 tm_0 tm_908 na_Law_subsidiariesOf ⟨Nat.le_of_ble_eq_true rfl, Nat.le_of_ble_eq_true rfl⟩ rfl (List.range 156) (lw_pq1 LW_len) nd156 (lw_fs1 LW_fst) (lw_pt1 LW_len LW_len) (st := []) rfl (Nat.le_of_ble_eq_true rfl) rd_Law_law_804 ⟨by omega, by omega⟩ ?_
  refine jk_istore C rd_Law_law_807 (by decide) (lv' := [(5, jk_V t), (0, .ref b), (1, .ref (ad 0)), (2, .ref (am 0)), (3, .ref o), (4, jk_V i)]) rfl ?_
  refine jk_aload_n C rd_Law_law_809 (k := 3) rfl ?_
  refine jk_aload_n C rd_Law_law_810 (k := 1) rfl ?_
  refine jk_iload C rd_Law_law_811 (k := 5) rfl ?_
  refine jk_iconst C rd_Law_law_813 ?_
  refine jk_iadd C rd_Law_law_814 ?_
  refine jk_sld C hX hbl hbA (by omega) (by omega) hL rd_Law_law_815 ?_
  refine jk_callVi C2 hZ.1 hz hB tm_1663 tm_1664 tm_1665 tm_15 tm_1666 na_Md_subsidiariesOf ⟨Nat.le_of_ble_eq_true rfl, Nat.le_of_ble_eq_true rfl⟩ rfl (List.range 155) (lw_pl LW_len) nd155 LW_fst (lw_put LW_len LW_len) 145 11 (lw_hd LW_len LW_m _) rfl rfl (st := []) rfl (Nat.le_of_ble_eq_true rfl) rd_Law_law_816 ?_ ⟨by omega, by omega⟩
  refine jk_istore C rd_Law_law_819 (by decide) (lv' := [(6, jk_V bb), (5, jk_V t), (0, .ref b), (1, .ref (ad 0)), (2, .ref (am 0)), (3, .ref o), (4, jk_V i)]) rfl ?_
  refine jk_aload_n C rd_Law_law_821 (k := 4) rfl ?_
  refine jk_callVi C2 hZ.1 hz hT tm_1336 tm_1337 tm_1338 tm_15 tm_1339 na_Md_thrown ⟨Nat.le_of_ble_eq_true rfl, Nat.le_of_ble_eq_true rfl⟩ rfl (List.range 155) (lw_pl LW_len) nd155 LW_fst (lw_put LW_len LW_len) 145 11 (lw_hd LW_len LW_m _) rfl rfl (st := []) rfl (Nat.le_of_ble_eq_true rfl) rd_Law_law_822 ?_ ⟨by omega, by omega⟩
  refine jk_iload C rd_Law_law_825 (k := 1) rfl ?_
  refine jk_icmp_same (tgt := 832) C rd_Law_law_827 (by decide) ?_
  refine jk_iload C rd_Law_law_832 (k := 1) rfl ?_
  by_cases h0 : t = 0
  · refine jk_if_ne (a := some ()) (b := (none : Option Unit)) (o := ()) (tgt := 849) C rd_Law_law_834 (by decide) (by unfold jk_eqs; rw [if_pos ⟨htR, jk_R0⟩, if_pos h0]) (fun h _ => absurd h0 h) (fun _ _ => ?_)
    refine jk_aload_n C rd_Law_law_837 (k := 5) rfl ?_
    refine jk_iconst C rd_Law_law_838 ?_
    refine jk_lald C 155 2 (lw_at LW_len _) rfl rd_Law_law_839 ?_
    refine jk_iload C rd_Law_law_840 (k := 0) rfl ?_
    refine jk_i2l C rd_Law_law_842 ?_
    refine jk_lcmp C (ht h0) rd_Law_law_843 ?_
    refine jk_if_eq (a := some ()) (b := (none : Option Unit)) (o := ()) (tgt := 849) C rd_Law_law_844 (by decide) (by decide +kernel) (fun _ _ => ?_) (fun h _ => absurd rfl h)
    refine jk_goto (tgt := 2784) C rd_Law_law_849 (by decide) ?_
    refine jk_lv (lv' := [(0, .ref b), (1, .ref (ad 0)), (2, .ref (am 0)), (3, .ref o), (4, jk_V i)]) [2, 3, 4, 5, 6] rfl ?_
    exact jk_widen (by omega) (by omega) kk
  · refine jk_if_ne (a := (none : Option Unit)) (b := some ()) (o := ()) (tgt := 849) C rd_Law_law_834 (by decide) (by unfold jk_eqs; rw [if_pos ⟨htR, jk_R0⟩, if_neg h0]) (fun _ _ => ?_) (fun h _ => absurd h h0)
    refine jk_goto (tgt := 2784) C rd_Law_law_849 (by decide) ?_
    refine jk_lv (lv' := [(0, .ref b), (1, .ref (ad 0)), (2, .ref (am 0)), (3, .ref o), (4, jk_V i)]) [2, 3, 4, 5, 6] rfl ?_
    exact jk_widen (by omega) (by omega) kk

set_option maxHeartbeats 4000000 in
set_option maxRecDepth 20000 in
theorem lc_18 {p : Program} {l : Launch} {e : Env} {s : State} {m : MethodId} {args : Array Value} {below : List Frame} {meth : Method} {c : Code} {cells slots : Nat} {Q : State → Prop} {D : va_G} {A : Nat → Prop} {ret : Option FieldType} {Z : (Nat → Prop) → State → Heap → Prop} {sq : Nat → Nat} {cI cR cL : ClassId} {g : Nat → Option Nat} {ad am : Nat → Nat} {b o L : Nat} {xs : Nat → Int32} {i : Int} (C : jk_C p s m args meth c mb_Law_law "KnotReaderLaw" 9 jk_WA D jk_cl (jk_t3 cI cR cL) A ret) (hZ : jk_ZK Z sq) (hz : Z A s s.heap) (hcs : cells + 20 ≤ room_1.cells ∧ slots + 120 ≤ room_1.slots) (hX : va_X b L xs s s.heap) (hbl : b < s.heap.size) (hbA : ¬ A b) (hL : L ≤ 3072) (hi : 0 ≤ i ∧ i + 6 ≤ (L : Int)) {σ σ1 σ2 σ3 : jk_LS} {f f1 : Nat → Int64} {t bb : Int} (htR : jk_R t) (ht : t = 0 → f1 0 = (jk_I bb).toInt64) (hA : jk_ME l D jk_cl (jk_t3 cI cR cL) Z mn_Law_nibbledPlaces (.codeWith mn_Law_nibbledPlaces mb_Law_nibbledPlaces 4 (some .int) [(0, 9, 12, 13)] :: jk_WA) (jk_rx 8 1 6 142) [.ref (ad 0), jk_V (xs (i + 1).toNat).toInt, .ref o] (LW cI cR g ad am σ ++ [(o, .inl (cL, 1, .inr (.inl f)))]) (LW cI cR g ad am σ1 ++ [(o, .inl (cL, 1, .inr (.inl f1)))]) t 1 6) (hB : jk_MI l D jk_cl (jk_ty cI cR) Z mn_Md_nibbledPlaces (.code mn_Md_nibbledPlaces mb_Md_nibbledPlaces 2 (some .int) :: jk_WA) (jk_rm 3 64) [.ref (am 0), jk_V (xs (i + 1).toNat).toInt] (LW cI cR g ad am σ1) (LW cI cR g ad am σ2) bb) (hT : jk_MI l D jk_cl (jk_ty cI cR) Z mn_Md_thrown (.code mn_Md_thrown mb_Md_thrown 1 (some .int) :: jk_WA) (jk_rm 0 0) [.ref (am 0)] (LW cI cR g ad am σ2) (LW cI cR g ad am σ3) t) (kk : jk_J p l e room_1 s m args below meth c (cells + 20) (slots + 120) Q D jk_cl A 9 (LW cI cR g ad am σ3 ++ [(o, .inl (cL, 1, .inr (.inl f1)))]) [(0, .ref b), (1, .ref (ad 0)), (2, .ref (am 0)), (3, .ref o), (4, jk_V i)] 2784 []) : jk_J p l e room_1 s m args below meth c (cells) (slots) Q D jk_cl A 9 (LW cI cR g ad am σ ++ [(o, .inl (cL, 1, .inr (.inl f)))]) [(0, .ref b), (1, .ref (ad 0)), (2, .ref (am 0)), (3, .ref o), (4, jk_V i)] 852 [] := by
  have C2 := jk_Csub C [0, 1] rfl (tys' := jk_ty cI cR)
  refine jk_aload_n C rd_Law_law_852 (k := 1) rfl ?_
  refine jk_aload_n C rd_Law_law_853 (k := 0) rfl ?_
  refine jk_iload C rd_Law_law_854 (k := 4) rfl ?_
  refine jk_iconst C rd_Law_law_856 ?_
  refine jk_iadd C rd_Law_law_857 ?_
  refine jk_sld C hX hbl hbA (by omega) (by omega) hL rd_Law_law_858 ?_
  refine jk_aload_n C rd_Law_law_859 (k := 3) rfl ?_
  refine jk_callSW C hZ.1 hz hA tm_917 tm_918 tm_0 tm_919 na_Law_nibbledPlaces ⟨Nat.le_of_ble_eq_true rfl, Nat.le_of_ble_eq_true rfl⟩ rfl (List.range 156) (lw_pq1 LW_len) nd156 (lw_fs1 LW_fst) (lw_pt1 LW_len LW_len) (st := []) rfl (Nat.le_of_ble_eq_true rfl) rd_Law_law_860 ⟨by omega, by omega⟩ ?_
  refine jk_istore C rd_Law_law_863 (by decide) (lv' := [(5, jk_V t), (0, .ref b), (1, .ref (ad 0)), (2, .ref (am 0)), (3, .ref o), (4, jk_V i)]) rfl ?_
  refine jk_aload_n C rd_Law_law_865 (k := 3) rfl ?_
  refine jk_aload_n C rd_Law_law_866 (k := 1) rfl ?_
  refine jk_iload C rd_Law_law_867 (k := 5) rfl ?_
  refine jk_iconst C rd_Law_law_869 ?_
  refine jk_iadd C rd_Law_law_870 ?_
  refine jk_sld C hX hbl hbA (by omega) (by omega) hL rd_Law_law_871 ?_
  refine jk_callVi C2 hZ.1 hz hB tm_1671 tm_1672 tm_1673 tm_15 tm_1674 na_Md_nibbledPlaces ⟨Nat.le_of_ble_eq_true rfl, Nat.le_of_ble_eq_true rfl⟩ rfl (List.range 155) (lw_pl LW_len) nd155 LW_fst (lw_put LW_len LW_len) 145 11 (lw_hd LW_len LW_m _) rfl rfl (st := []) rfl (Nat.le_of_ble_eq_true rfl) rd_Law_law_872 ?_ ⟨by omega, by omega⟩
  refine jk_istore C rd_Law_law_875 (by decide) (lv' := [(6, jk_V bb), (5, jk_V t), (0, .ref b), (1, .ref (ad 0)), (2, .ref (am 0)), (3, .ref o), (4, jk_V i)]) rfl ?_
  refine jk_aload_n C rd_Law_law_877 (k := 4) rfl ?_
  refine jk_callVi C2 hZ.1 hz hT tm_1336 tm_1337 tm_1338 tm_15 tm_1339 na_Md_thrown ⟨Nat.le_of_ble_eq_true rfl, Nat.le_of_ble_eq_true rfl⟩ rfl (List.range 155) (lw_pl LW_len) nd155 LW_fst (lw_put LW_len LW_len) 145 11 (lw_hd LW_len LW_m _) rfl rfl (st := []) rfl (Nat.le_of_ble_eq_true rfl) rd_Law_law_878 ?_ ⟨by omega, by omega⟩
  refine jk_iload C rd_Law_law_881 (k := 1) rfl ?_
  refine jk_icmp_same (tgt := 888) C rd_Law_law_883 (by decide) ?_
  refine jk_iload C rd_Law_law_888 (k := 1) rfl ?_
  by_cases h0 : t = 0
  · refine jk_if_ne (a := some ()) (b := (none : Option Unit)) (o := ()) (tgt := 905) C rd_Law_law_890 (by decide) (by unfold jk_eqs; rw [if_pos ⟨htR, jk_R0⟩, if_pos h0]) (fun h _ => absurd h0 h) (fun _ _ => ?_)
    refine jk_aload_n C rd_Law_law_893 (k := 5) rfl ?_
    refine jk_iconst C rd_Law_law_894 ?_
    refine jk_lald C 155 2 (lw_at LW_len _) rfl rd_Law_law_895 ?_
    refine jk_iload C rd_Law_law_896 (k := 0) rfl ?_
    refine jk_i2l C rd_Law_law_898 ?_
    refine jk_lcmp C (ht h0) rd_Law_law_899 ?_
    refine jk_if_eq (a := some ()) (b := (none : Option Unit)) (o := ()) (tgt := 905) C rd_Law_law_900 (by decide) (by decide +kernel) (fun _ _ => ?_) (fun h _ => absurd rfl h)
    refine jk_goto (tgt := 2784) C rd_Law_law_905 (by decide) ?_
    refine jk_lv (lv' := [(0, .ref b), (1, .ref (ad 0)), (2, .ref (am 0)), (3, .ref o), (4, jk_V i)]) [2, 3, 4, 5, 6] rfl ?_
    exact jk_widen (by omega) (by omega) kk
  · refine jk_if_ne (a := (none : Option Unit)) (b := some ()) (o := ()) (tgt := 905) C rd_Law_law_890 (by decide) (by unfold jk_eqs; rw [if_pos ⟨htR, jk_R0⟩, if_neg h0]) (fun _ _ => ?_) (fun h _ => absurd h h0)
    refine jk_goto (tgt := 2784) C rd_Law_law_905 (by decide) ?_
    refine jk_lv (lv' := [(0, .ref b), (1, .ref (ad 0)), (2, .ref (am 0)), (3, .ref o), (4, jk_V i)]) [2, 3, 4, 5, 6] rfl ?_
    exact jk_widen (by omega) (by omega) kk

set_option maxHeartbeats 4000000 in
set_option maxRecDepth 20000 in
theorem lc_19 {p : Program} {l : Launch} {e : Env} {s : State} {m : MethodId} {args : Array Value} {below : List Frame} {meth : Method} {c : Code} {cells slots : Nat} {Q : State → Prop} {D : va_G} {A : Nat → Prop} {ret : Option FieldType} {Z : (Nat → Prop) → State → Heap → Prop} {sq : Nat → Nat} {cI cR cL : ClassId} {g : Nat → Option Nat} {ad am : Nat → Nat} {b o L : Nat} {xs : Nat → Int32} {i : Int} (C : jk_C p s m args meth c mb_Law_law "KnotReaderLaw" 9 jk_WA D jk_cl (jk_t3 cI cR cL) A ret) (hZ : jk_ZK Z sq) (hz : Z A s s.heap) (hcs : cells + 20 ≤ room_1.cells ∧ slots + 120 ≤ room_1.slots) (hX : va_X b L xs s s.heap) (hbl : b < s.heap.size) (hbA : ¬ A b) (hL : L ≤ 3072) (hi : 0 ≤ i ∧ i + 6 ≤ (L : Int)) {σ σ1 σ2 σ3 : jk_LS} {f f1 : Nat → Int64} {t bb : Int} (htR : jk_R t) (ht : t = 0 → f1 0 = (jk_I bb).toInt64) (hA : jk_ME l D jk_cl (jk_t3 cI cR cL) Z mn_Law_knownValue (.codeWith mn_Law_knownValue mb_Law_knownValue 4 (some .int) [(0, 9, 12, 13)] :: jk_WA) (jk_rx 8 1 6 142) [.ref (ad 0), jk_V (xs (i + 1).toNat).toInt, .ref o] (LW cI cR g ad am σ ++ [(o, .inl (cL, 1, .inr (.inl f)))]) (LW cI cR g ad am σ1 ++ [(o, .inl (cL, 1, .inr (.inl f1)))]) t 1 6) (hB : jk_MI l D jk_cl (jk_ty cI cR) Z mn_Md_knownValue (.code mn_Md_knownValue mb_Md_knownValue 2 (some .int) :: jk_WA) (jk_rm 3 64) [.ref (am 0), jk_V (xs (i + 1).toNat).toInt] (LW cI cR g ad am σ1) (LW cI cR g ad am σ2) bb) (hT : jk_MI l D jk_cl (jk_ty cI cR) Z mn_Md_thrown (.code mn_Md_thrown mb_Md_thrown 1 (some .int) :: jk_WA) (jk_rm 0 0) [.ref (am 0)] (LW cI cR g ad am σ2) (LW cI cR g ad am σ3) t) (kk : jk_J p l e room_1 s m args below meth c (cells + 20) (slots + 120) Q D jk_cl A 9 (LW cI cR g ad am σ3 ++ [(o, .inl (cL, 1, .inr (.inl f1)))]) [(0, .ref b), (1, .ref (ad 0)), (2, .ref (am 0)), (3, .ref o), (4, jk_V i)] 2784 []) : jk_J p l e room_1 s m args below meth c (cells) (slots) Q D jk_cl A 9 (LW cI cR g ad am σ ++ [(o, .inl (cL, 1, .inr (.inl f)))]) [(0, .ref b), (1, .ref (ad 0)), (2, .ref (am 0)), (3, .ref o), (4, jk_V i)] 908 [] := by
  have C2 := jk_Csub C [0, 1] rfl (tys' := jk_ty cI cR)
  refine jk_aload_n C rd_Law_law_908 (k := 1) rfl ?_
  refine jk_aload_n C rd_Law_law_909 (k := 0) rfl ?_
  refine jk_iload C rd_Law_law_910 (k := 4) rfl ?_
  refine jk_iconst C rd_Law_law_912 ?_
  refine jk_iadd C rd_Law_law_913 ?_
  refine jk_sld C hX hbl hbA (by omega) (by omega) hL rd_Law_law_914 ?_
  refine jk_aload_n C rd_Law_law_915 (k := 3) rfl ?_
  refine jk_callSW C hZ.1 hz hA tm_924 tm_925 tm_0 tm_926 na_Law_knownValue ⟨Nat.le_of_ble_eq_true rfl, Nat.le_of_ble_eq_true rfl⟩ rfl (List.range 156) (lw_pq1 LW_len) nd156 (lw_fs1 LW_fst) (lw_pt1 LW_len LW_len) (st := []) rfl (Nat.le_of_ble_eq_true rfl) rd_Law_law_916 ⟨by omega, by omega⟩ ?_
  refine jk_istore C rd_Law_law_919 (by decide) (lv' := [(5, jk_V t), (0, .ref b), (1, .ref (ad 0)), (2, .ref (am 0)), (3, .ref o), (4, jk_V i)]) rfl ?_
  refine jk_aload_n C rd_Law_law_921 (k := 3) rfl ?_
  refine jk_aload_n C rd_Law_law_922 (k := 1) rfl ?_
  refine jk_iload C rd_Law_law_923 (k := 5) rfl ?_
  refine jk_iconst C rd_Law_law_925 ?_
  refine jk_iadd C rd_Law_law_926 ?_
  refine jk_sld C hX hbl hbA (by omega) (by omega) hL rd_Law_law_927 ?_
  refine jk_callVi C2 hZ.1 hz hB tm_1675 tm_1676 tm_1677 tm_15 tm_1678 na_Md_knownValue ⟨Nat.le_of_ble_eq_true rfl, Nat.le_of_ble_eq_true rfl⟩ rfl (List.range 155) (lw_pl LW_len) nd155 LW_fst (lw_put LW_len LW_len) 145 11 (lw_hd LW_len LW_m _) rfl rfl (st := []) rfl (Nat.le_of_ble_eq_true rfl) rd_Law_law_928 ?_ ⟨by omega, by omega⟩
  refine jk_istore C rd_Law_law_931 (by decide) (lv' := [(6, jk_V bb), (5, jk_V t), (0, .ref b), (1, .ref (ad 0)), (2, .ref (am 0)), (3, .ref o), (4, jk_V i)]) rfl ?_
  refine jk_aload_n C rd_Law_law_933 (k := 4) rfl ?_
  refine jk_callVi C2 hZ.1 hz hT tm_1336 tm_1337 tm_1338 tm_15 tm_1339 na_Md_thrown ⟨Nat.le_of_ble_eq_true rfl, Nat.le_of_ble_eq_true rfl⟩ rfl (List.range 155) (lw_pl LW_len) nd155 LW_fst (lw_put LW_len LW_len) 145 11 (lw_hd LW_len LW_m _) rfl rfl (st := []) rfl (Nat.le_of_ble_eq_true rfl) rd_Law_law_934 ?_ ⟨by omega, by omega⟩
  refine jk_iload C rd_Law_law_937 (k := 1) rfl ?_
  refine jk_icmp_same (tgt := 944) C rd_Law_law_939 (by decide) ?_
  refine jk_iload C rd_Law_law_944 (k := 1) rfl ?_
  by_cases h0 : t = 0
  · refine jk_if_ne (a := some ()) (b := (none : Option Unit)) (o := ()) (tgt := 961) C rd_Law_law_946 (by decide) (by unfold jk_eqs; rw [if_pos ⟨htR, jk_R0⟩, if_pos h0]) (fun h _ => absurd h0 h) (fun _ _ => ?_)
    refine jk_aload_n C rd_Law_law_949 (k := 5) rfl ?_
    refine jk_iconst C rd_Law_law_950 ?_
    refine jk_lald C 155 2 (lw_at LW_len _) rfl rd_Law_law_951 ?_
    refine jk_iload C rd_Law_law_952 (k := 0) rfl ?_
    refine jk_i2l C rd_Law_law_954 ?_
    refine jk_lcmp C (ht h0) rd_Law_law_955 ?_
    refine jk_if_eq (a := some ()) (b := (none : Option Unit)) (o := ()) (tgt := 961) C rd_Law_law_956 (by decide) (by decide +kernel) (fun _ _ => ?_) (fun h _ => absurd rfl h)
    refine jk_goto (tgt := 2784) C rd_Law_law_961 (by decide) ?_
    refine jk_lv (lv' := [(0, .ref b), (1, .ref (ad 0)), (2, .ref (am 0)), (3, .ref o), (4, jk_V i)]) [2, 3, 4, 5, 6] rfl ?_
    exact jk_widen (by omega) (by omega) kk
  · refine jk_if_ne (a := (none : Option Unit)) (b := some ()) (o := ()) (tgt := 961) C rd_Law_law_946 (by decide) (by unfold jk_eqs; rw [if_pos ⟨htR, jk_R0⟩, if_neg h0]) (fun _ _ => ?_) (fun h _ => absurd h h0)
    refine jk_goto (tgt := 2784) C rd_Law_law_961 (by decide) ?_
    refine jk_lv (lv' := [(0, .ref b), (1, .ref (ad 0)), (2, .ref (am 0)), (3, .ref o), (4, jk_V i)]) [2, 3, 4, 5, 6] rfl ?_
    exact jk_widen (by omega) (by omega) kk

set_option maxHeartbeats 4000000 in
set_option maxRecDepth 20000 in
theorem lc_20 {p : Program} {l : Launch} {e : Env} {s : State} {m : MethodId} {args : Array Value} {below : List Frame} {meth : Method} {c : Code} {cells slots : Nat} {Q : State → Prop} {D : va_G} {A : Nat → Prop} {ret : Option FieldType} {Z : (Nat → Prop) → State → Heap → Prop} {sq : Nat → Nat} {cI cR cL : ClassId} {g : Nat → Option Nat} {ad am : Nat → Nat} {b o L : Nat} {xs : Nat → Int32} {i : Int} (C : jk_C p s m args meth c mb_Law_law "KnotReaderLaw" 9 jk_WA D jk_cl (jk_t3 cI cR cL) A ret) (hZ : jk_ZK Z sq) (hz : Z A s s.heap) (hcs : cells + 20 ≤ room_1.cells ∧ slots + 120 ≤ room_1.slots) (hX : va_X b L xs s s.heap) (hbl : b < s.heap.size) (hbA : ¬ A b) (hL : L ≤ 3072) (hi : 0 ≤ i ∧ i + 6 ≤ (L : Int)) {σ σ1 σ2 σ3 : jk_LS} {f f1 : Nat → Int64} {t bb : Int} (htR : jk_R t) (ht : t = 0 → f1 0 = (jk_I bb).toInt64) (hA : jk_ME l D jk_cl (jk_t3 cI cR cL) Z mn_Law_lowestTotal (.codeWith mn_Law_lowestTotal mb_Law_lowestTotal 4 (some .int) [(0, 9, 12, 13)] :: jk_WA) (jk_rx 8 1 6 142) [.ref (ad 0), jk_V (xs (i + 1).toNat).toInt, .ref o] (LW cI cR g ad am σ ++ [(o, .inl (cL, 1, .inr (.inl f)))]) (LW cI cR g ad am σ1 ++ [(o, .inl (cL, 1, .inr (.inl f1)))]) t 1 6) (hB : jk_MI l D jk_cl (jk_ty cI cR) Z mn_Md_lowestTotal (.code mn_Md_lowestTotal mb_Md_lowestTotal 2 (some .int) :: jk_WA) (jk_rm 3 67) [.ref (am 0), jk_V (xs (i + 1).toNat).toInt] (LW cI cR g ad am σ1) (LW cI cR g ad am σ2) bb) (hT : jk_MI l D jk_cl (jk_ty cI cR) Z mn_Md_thrown (.code mn_Md_thrown mb_Md_thrown 1 (some .int) :: jk_WA) (jk_rm 0 0) [.ref (am 0)] (LW cI cR g ad am σ2) (LW cI cR g ad am σ3) t) (kk : jk_J p l e room_1 s m args below meth c (cells + 20) (slots + 120) Q D jk_cl A 9 (LW cI cR g ad am σ3 ++ [(o, .inl (cL, 1, .inr (.inl f1)))]) [(0, .ref b), (1, .ref (ad 0)), (2, .ref (am 0)), (3, .ref o), (4, jk_V i)] 2784 []) : jk_J p l e room_1 s m args below meth c (cells) (slots) Q D jk_cl A 9 (LW cI cR g ad am σ ++ [(o, .inl (cL, 1, .inr (.inl f)))]) [(0, .ref b), (1, .ref (ad 0)), (2, .ref (am 0)), (3, .ref o), (4, jk_V i)] 964 [] := by
  have C2 := jk_Csub C [0, 1] rfl (tys' := jk_ty cI cR)
  refine jk_aload_n C rd_Law_law_964 (k := 1) rfl ?_
  refine jk_aload_n C rd_Law_law_965 (k := 0) rfl ?_
  refine jk_iload C rd_Law_law_966 (k := 4) rfl ?_
  refine jk_iconst C rd_Law_law_968 ?_
  refine jk_iadd C rd_Law_law_969 ?_
  refine jk_sld C hX hbl hbA (by omega) (by omega) hL rd_Law_law_970 ?_
  refine jk_aload_n C rd_Law_law_971 (k := 3) rfl ?_
  refine jk_callSW C hZ.1 hz hA tm_931 tm_932 tm_0 tm_933 na_Law_lowestTotal ⟨Nat.le_of_ble_eq_true rfl, Nat.le_of_ble_eq_true rfl⟩ rfl (List.range 156) (lw_pq1 LW_len) nd156 (lw_fs1 LW_fst) (lw_pt1 LW_len LW_len) (st := []) rfl (Nat.le_of_ble_eq_true rfl) rd_Law_law_972 ⟨by omega, by omega⟩ ?_
  refine jk_istore C rd_Law_law_975 (by decide) (lv' := [(5, jk_V t), (0, .ref b), (1, .ref (ad 0)), (2, .ref (am 0)), (3, .ref o), (4, jk_V i)]) rfl ?_
  refine jk_aload_n C rd_Law_law_977 (k := 3) rfl ?_
  refine jk_aload_n C rd_Law_law_978 (k := 1) rfl ?_
  refine jk_iload C rd_Law_law_979 (k := 5) rfl ?_
  refine jk_iconst C rd_Law_law_981 ?_
  refine jk_iadd C rd_Law_law_982 ?_
  refine jk_sld C hX hbl hbA (by omega) (by omega) hL rd_Law_law_983 ?_
  refine jk_callVi C2 hZ.1 hz hB tm_1679 tm_1680 tm_1681 tm_15 tm_1682 na_Md_lowestTotal ⟨Nat.le_of_ble_eq_true rfl, Nat.le_of_ble_eq_true rfl⟩ rfl (List.range 155) (lw_pl LW_len) nd155 LW_fst (lw_put LW_len LW_len) 145 11 (lw_hd LW_len LW_m _) rfl rfl (st := []) rfl (Nat.le_of_ble_eq_true rfl) rd_Law_law_984 ?_ ⟨by omega, by omega⟩
  refine jk_istore C rd_Law_law_987 (by decide) (lv' := [(6, jk_V bb), (5, jk_V t), (0, .ref b), (1, .ref (ad 0)), (2, .ref (am 0)), (3, .ref o), (4, jk_V i)]) rfl ?_
  refine jk_aload_n C rd_Law_law_989 (k := 4) rfl ?_
  refine jk_callVi C2 hZ.1 hz hT tm_1336 tm_1337 tm_1338 tm_15 tm_1339 na_Md_thrown ⟨Nat.le_of_ble_eq_true rfl, Nat.le_of_ble_eq_true rfl⟩ rfl (List.range 155) (lw_pl LW_len) nd155 LW_fst (lw_put LW_len LW_len) 145 11 (lw_hd LW_len LW_m _) rfl rfl (st := []) rfl (Nat.le_of_ble_eq_true rfl) rd_Law_law_990 ?_ ⟨by omega, by omega⟩
  refine jk_iload C rd_Law_law_993 (k := 1) rfl ?_
  refine jk_icmp_same (tgt := 1000) C rd_Law_law_995 (by decide) ?_
  refine jk_iload C rd_Law_law_1000 (k := 1) rfl ?_
  by_cases h0 : t = 0
  · refine jk_if_ne (a := some ()) (b := (none : Option Unit)) (o := ()) (tgt := 1017) C rd_Law_law_1002 (by decide) (by unfold jk_eqs; rw [if_pos ⟨htR, jk_R0⟩, if_pos h0]) (fun h _ => absurd h0 h) (fun _ _ => ?_)
    refine jk_aload_n C rd_Law_law_1005 (k := 5) rfl ?_
    refine jk_iconst C rd_Law_law_1006 ?_
    refine jk_lald C 155 2 (lw_at LW_len _) rfl rd_Law_law_1007 ?_
    refine jk_iload C rd_Law_law_1008 (k := 0) rfl ?_
    refine jk_i2l C rd_Law_law_1010 ?_
    refine jk_lcmp C (ht h0) rd_Law_law_1011 ?_
    refine jk_if_eq (a := some ()) (b := (none : Option Unit)) (o := ()) (tgt := 1017) C rd_Law_law_1012 (by decide) (by decide +kernel) (fun _ _ => ?_) (fun h _ => absurd rfl h)
    refine jk_goto (tgt := 2784) C rd_Law_law_1017 (by decide) ?_
    refine jk_lv (lv' := [(0, .ref b), (1, .ref (ad 0)), (2, .ref (am 0)), (3, .ref o), (4, jk_V i)]) [2, 3, 4, 5, 6] rfl ?_
    exact jk_widen (by omega) (by omega) kk
  · refine jk_if_ne (a := (none : Option Unit)) (b := some ()) (o := ()) (tgt := 1017) C rd_Law_law_1002 (by decide) (by unfold jk_eqs; rw [if_pos ⟨htR, jk_R0⟩, if_neg h0]) (fun _ _ => ?_) (fun h _ => absurd h h0)
    refine jk_goto (tgt := 2784) C rd_Law_law_1017 (by decide) ?_
    refine jk_lv (lv' := [(0, .ref b), (1, .ref (ad 0)), (2, .ref (am 0)), (3, .ref o), (4, jk_V i)]) [2, 3, 4, 5, 6] rfl ?_
    exact jk_widen (by omega) (by omega) kk

set_option maxHeartbeats 4000000 in
set_option maxRecDepth 20000 in
theorem lc_21 {p : Program} {l : Launch} {e : Env} {s : State} {m : MethodId} {args : Array Value} {below : List Frame} {meth : Method} {c : Code} {cells slots : Nat} {Q : State → Prop} {D : va_G} {A : Nat → Prop} {ret : Option FieldType} {Z : (Nat → Prop) → State → Heap → Prop} {sq : Nat → Nat} {cI cR cL : ClassId} {g : Nat → Option Nat} {ad am : Nat → Nat} {b o L : Nat} {xs : Nat → Int32} {i : Int} (C : jk_C p s m args meth c mb_Law_law "KnotReaderLaw" 9 jk_WA D jk_cl (jk_t3 cI cR cL) A ret) (hZ : jk_ZK Z sq) (hz : Z A s s.heap) (hcs : cells + 20 ≤ room_1.cells ∧ slots + 120 ≤ room_1.slots) (hX : va_X b L xs s s.heap) (hbl : b < s.heap.size) (hbA : ¬ A b) (hL : L ≤ 3072) (hi : 0 ≤ i ∧ i + 6 ≤ (L : Int)) {σ σ1 σ2 σ3 : jk_LS} {f f1 : Nat → Int64} {t bb : Int} (htR : jk_R t) (ht : t = 0 → f1 0 = (jk_I bb).toInt64) (hA : jk_ME l D jk_cl (jk_t3 cI cR cL) Z mn_Law_highestTotal (.codeWith mn_Law_highestTotal mb_Law_highestTotal 4 (some .int) [(0, 9, 12, 13)] :: jk_WA) (jk_rx 8 1 6 142) [.ref (ad 0), jk_V (xs (i + 1).toNat).toInt, .ref o] (LW cI cR g ad am σ ++ [(o, .inl (cL, 1, .inr (.inl f)))]) (LW cI cR g ad am σ1 ++ [(o, .inl (cL, 1, .inr (.inl f1)))]) t 1 6) (hB : jk_MI l D jk_cl (jk_ty cI cR) Z mn_Md_highestTotal (.code mn_Md_highestTotal mb_Md_highestTotal 2 (some .int) :: jk_WA) (jk_rm 3 67) [.ref (am 0), jk_V (xs (i + 1).toNat).toInt] (LW cI cR g ad am σ1) (LW cI cR g ad am σ2) bb) (hT : jk_MI l D jk_cl (jk_ty cI cR) Z mn_Md_thrown (.code mn_Md_thrown mb_Md_thrown 1 (some .int) :: jk_WA) (jk_rm 0 0) [.ref (am 0)] (LW cI cR g ad am σ2) (LW cI cR g ad am σ3) t) (kk : jk_J p l e room_1 s m args below meth c (cells + 20) (slots + 120) Q D jk_cl A 9 (LW cI cR g ad am σ3 ++ [(o, .inl (cL, 1, .inr (.inl f1)))]) [(0, .ref b), (1, .ref (ad 0)), (2, .ref (am 0)), (3, .ref o), (4, jk_V i)] 2784 []) : jk_J p l e room_1 s m args below meth c (cells) (slots) Q D jk_cl A 9 (LW cI cR g ad am σ ++ [(o, .inl (cL, 1, .inr (.inl f)))]) [(0, .ref b), (1, .ref (ad 0)), (2, .ref (am 0)), (3, .ref o), (4, jk_V i)] 1020 [] := by
  have C2 := jk_Csub C [0, 1] rfl (tys' := jk_ty cI cR)
  refine jk_aload_n C rd_Law_law_1020 (k := 1) rfl ?_
  refine jk_aload_n C rd_Law_law_1021 (k := 0) rfl ?_
  refine jk_iload C rd_Law_law_1022 (k := 4) rfl ?_
  refine jk_iconst C rd_Law_law_1024 ?_
  refine jk_iadd C rd_Law_law_1025 ?_
  refine jk_sld C hX hbl hbA (by omega) (by omega) hL rd_Law_law_1026 ?_
  refine jk_aload_n C rd_Law_law_1027 (k := 3) rfl ?_
  refine jk_callSW C hZ.1 hz hA tm_938 tm_939 tm_0 tm_940 na_Law_highestTotal ⟨Nat.le_of_ble_eq_true rfl, Nat.le_of_ble_eq_true rfl⟩ rfl (List.range 156) (lw_pq1 LW_len) nd156 (lw_fs1 LW_fst) (lw_pt1 LW_len LW_len) (st := []) rfl (Nat.le_of_ble_eq_true rfl) rd_Law_law_1028 ⟨by omega, by omega⟩ ?_
  refine jk_istore C rd_Law_law_1031 (by decide) (lv' := [(5, jk_V t), (0, .ref b), (1, .ref (ad 0)), (2, .ref (am 0)), (3, .ref o), (4, jk_V i)]) rfl ?_
  refine jk_aload_n C rd_Law_law_1033 (k := 3) rfl ?_
  refine jk_aload_n C rd_Law_law_1034 (k := 1) rfl ?_
  refine jk_iload C rd_Law_law_1035 (k := 5) rfl ?_
  refine jk_iconst C rd_Law_law_1037 ?_
  refine jk_iadd C rd_Law_law_1038 ?_
  refine jk_sld C hX hbl hbA (by omega) (by omega) hL rd_Law_law_1039 ?_
  refine jk_callVi C2 hZ.1 hz hB tm_1687 tm_1688 tm_1689 tm_15 tm_1690 na_Md_highestTotal ⟨Nat.le_of_ble_eq_true rfl, Nat.le_of_ble_eq_true rfl⟩ rfl (List.range 155) (lw_pl LW_len) nd155 LW_fst (lw_put LW_len LW_len) 145 11 (lw_hd LW_len LW_m _) rfl rfl (st := []) rfl (Nat.le_of_ble_eq_true rfl) rd_Law_law_1040 ?_ ⟨by omega, by omega⟩
  refine jk_istore C rd_Law_law_1043 (by decide) (lv' := [(6, jk_V bb), (5, jk_V t), (0, .ref b), (1, .ref (ad 0)), (2, .ref (am 0)), (3, .ref o), (4, jk_V i)]) rfl ?_
  refine jk_aload_n C rd_Law_law_1045 (k := 4) rfl ?_
  refine jk_callVi C2 hZ.1 hz hT tm_1336 tm_1337 tm_1338 tm_15 tm_1339 na_Md_thrown ⟨Nat.le_of_ble_eq_true rfl, Nat.le_of_ble_eq_true rfl⟩ rfl (List.range 155) (lw_pl LW_len) nd155 LW_fst (lw_put LW_len LW_len) 145 11 (lw_hd LW_len LW_m _) rfl rfl (st := []) rfl (Nat.le_of_ble_eq_true rfl) rd_Law_law_1046 ?_ ⟨by omega, by omega⟩
  refine jk_iload C rd_Law_law_1049 (k := 1) rfl ?_
  refine jk_icmp_same (tgt := 1056) C rd_Law_law_1051 (by decide) ?_
  refine jk_iload C rd_Law_law_1056 (k := 1) rfl ?_
  by_cases h0 : t = 0
  · refine jk_if_ne (a := some ()) (b := (none : Option Unit)) (o := ()) (tgt := 1073) C rd_Law_law_1058 (by decide) (by unfold jk_eqs; rw [if_pos ⟨htR, jk_R0⟩, if_pos h0]) (fun h _ => absurd h0 h) (fun _ _ => ?_)
    refine jk_aload_n C rd_Law_law_1061 (k := 5) rfl ?_
    refine jk_iconst C rd_Law_law_1062 ?_
    refine jk_lald C 155 2 (lw_at LW_len _) rfl rd_Law_law_1063 ?_
    refine jk_iload C rd_Law_law_1064 (k := 0) rfl ?_
    refine jk_i2l C rd_Law_law_1066 ?_
    refine jk_lcmp C (ht h0) rd_Law_law_1067 ?_
    refine jk_if_eq (a := some ()) (b := (none : Option Unit)) (o := ()) (tgt := 1073) C rd_Law_law_1068 (by decide) (by decide +kernel) (fun _ _ => ?_) (fun h _ => absurd rfl h)
    refine jk_goto (tgt := 2784) C rd_Law_law_1073 (by decide) ?_
    refine jk_lv (lv' := [(0, .ref b), (1, .ref (ad 0)), (2, .ref (am 0)), (3, .ref o), (4, jk_V i)]) [2, 3, 4, 5, 6] rfl ?_
    exact jk_widen (by omega) (by omega) kk
  · refine jk_if_ne (a := (none : Option Unit)) (b := some ()) (o := ()) (tgt := 1073) C rd_Law_law_1058 (by decide) (by unfold jk_eqs; rw [if_pos ⟨htR, jk_R0⟩, if_neg h0]) (fun _ _ => ?_) (fun h _ => absurd h h0)
    refine jk_goto (tgt := 2784) C rd_Law_law_1073 (by decide) ?_
    refine jk_lv (lv' := [(0, .ref b), (1, .ref (ad 0)), (2, .ref (am 0)), (3, .ref o), (4, jk_V i)]) [2, 3, 4, 5, 6] rfl ?_
    exact jk_widen (by omega) (by omega) kk

set_option maxHeartbeats 4000000 in
set_option maxRecDepth 20000 in
theorem lc_22 {p : Program} {l : Launch} {e : Env} {s : State} {m : MethodId} {args : Array Value} {below : List Frame} {meth : Method} {c : Code} {cells slots : Nat} {Q : State → Prop} {D : va_G} {A : Nat → Prop} {ret : Option FieldType} {Z : (Nat → Prop) → State → Heap → Prop} {sq : Nat → Nat} {cI cR cL : ClassId} {g : Nat → Option Nat} {ad am : Nat → Nat} {b o L : Nat} {xs : Nat → Int32} {i : Int} (C : jk_C p s m args meth c mb_Law_law "KnotReaderLaw" 9 jk_WA D jk_cl (jk_t3 cI cR cL) A ret) (hZ : jk_ZK Z sq) (hz : Z A s s.heap) (hcs : cells + 20 ≤ room_1.cells ∧ slots + 120 ≤ room_1.slots) (hX : va_X b L xs s s.heap) (hbl : b < s.heap.size) (hbA : ¬ A b) (hL : L ≤ 3072) (hi : 0 ≤ i ∧ i + 6 ≤ (L : Int)) {σ σ1 σ2 σ3 : jk_LS} {f f1 : Nat → Int64} {t bb : Int} (htR : jk_R t) (ht : t = 0 → f1 0 = (jk_I bb).toInt64) (hA : jk_ME l D jk_cl (jk_t3 cI cR cL) Z mn_Law_knotsAt (.codeWith mn_Law_knotsAt mb_Law_knotsAt 5 (some .int) [(0, 10, 13, 13), (0, 10, 17, 46)] :: jk_WA) (jk_rx 8 2 12 143) [.ref (ad 0), jk_V (xs (i + 1).toNat).toInt, jk_V (xs (i + 2).toNat).toInt, .ref o] (LW cI cR g ad am σ ++ [(o, .inl (cL, 1, .inr (.inl f)))]) (LW cI cR g ad am σ1 ++ [(o, .inl (cL, 1, .inr (.inl f1)))]) t 2 12) (hB : jk_MI l D jk_cl (jk_ty cI cR) Z mn_Md_knotsAt (.code mn_Md_knotsAt mb_Md_knotsAt 3 (some .int) :: jk_WA) (jk_rm 3 64) [.ref (am 0), jk_V (xs (i + 1).toNat).toInt, jk_V (xs (i + 2).toNat).toInt] (LW cI cR g ad am σ1) (LW cI cR g ad am σ2) bb) (hT : jk_MI l D jk_cl (jk_ty cI cR) Z mn_Md_thrown (.code mn_Md_thrown mb_Md_thrown 1 (some .int) :: jk_WA) (jk_rm 0 0) [.ref (am 0)] (LW cI cR g ad am σ2) (LW cI cR g ad am σ3) t) (kk : jk_J p l e room_1 s m args below meth c (cells + 20) (slots + 120) Q D jk_cl A 9 (LW cI cR g ad am σ3 ++ [(o, .inl (cL, 1, .inr (.inl f1)))]) [(0, .ref b), (1, .ref (ad 0)), (2, .ref (am 0)), (3, .ref o), (4, jk_V i)] 2784 []) : jk_J p l e room_1 s m args below meth c (cells) (slots) Q D jk_cl A 9 (LW cI cR g ad am σ ++ [(o, .inl (cL, 1, .inr (.inl f)))]) [(0, .ref b), (1, .ref (ad 0)), (2, .ref (am 0)), (3, .ref o), (4, jk_V i)] 1076 [] := by
  have C2 := jk_Csub C [0, 1] rfl (tys' := jk_ty cI cR)
  refine jk_aload_n C rd_Law_law_1076 (k := 1) rfl ?_
  refine jk_aload_n C rd_Law_law_1077 (k := 0) rfl ?_
  refine jk_iload C rd_Law_law_1078 (k := 4) rfl ?_
  refine jk_iconst C rd_Law_law_1080 ?_
  refine jk_iadd C rd_Law_law_1081 ?_
  refine jk_sld C hX hbl hbA (by omega) (by omega) hL rd_Law_law_1082 ?_
  refine jk_aload_n C rd_Law_law_1083 (k := 0) rfl ?_
  refine jk_iload C rd_Law_law_1084 (k := 4) rfl ?_
  refine jk_iconst C rd_Law_law_1086 ?_
  refine jk_iadd C rd_Law_law_1087 ?_
  refine jk_sld C hX hbl hbA (by omega) (by omega) hL rd_Law_law_1088 ?_
  refine jk_aload_n C rd_Law_law_1089 (k := 3) rfl ?_
  refine jk_callSW C hZ.1 hz hA tm_946 tm_947 tm_0 tm_948 na_Law_knotsAt ⟨Nat.le_of_ble_eq_true rfl, Nat.le_of_ble_eq_true rfl⟩ rfl (List.range 156) (lw_pq1 LW_len) nd156 (lw_fs1 LW_fst) (lw_pt1 LW_len LW_len) (st := []) rfl (Nat.le_of_ble_eq_true rfl) rd_Law_law_1090 ⟨by omega, by omega⟩ ?_
  refine jk_istore C rd_Law_law_1093 (by decide) (lv' := [(5, jk_V t), (0, .ref b), (1, .ref (ad 0)), (2, .ref (am 0)), (3, .ref o), (4, jk_V i)]) rfl ?_
  refine jk_aload_n C rd_Law_law_1095 (k := 3) rfl ?_
  refine jk_aload_n C rd_Law_law_1096 (k := 1) rfl ?_
  refine jk_iload C rd_Law_law_1097 (k := 5) rfl ?_
  refine jk_iconst C rd_Law_law_1099 ?_
  refine jk_iadd C rd_Law_law_1100 ?_
  refine jk_sld C hX hbl hbA (by omega) (by omega) hL rd_Law_law_1101 ?_
  refine jk_aload_n C rd_Law_law_1102 (k := 1) rfl ?_
  refine jk_iload C rd_Law_law_1103 (k := 5) rfl ?_
  refine jk_iconst C rd_Law_law_1105 ?_
  refine jk_iadd C rd_Law_law_1106 ?_
  refine jk_sld C hX hbl hbA (by omega) (by omega) hL rd_Law_law_1107 ?_
  refine jk_callVi C2 hZ.1 hz hB tm_1763 tm_1764 tm_1765 tm_15 tm_1766 na_Md_knotsAt ⟨Nat.le_of_ble_eq_true rfl, Nat.le_of_ble_eq_true rfl⟩ rfl (List.range 155) (lw_pl LW_len) nd155 LW_fst (lw_put LW_len LW_len) 145 11 (lw_hd LW_len LW_m _) rfl rfl (st := []) rfl (Nat.le_of_ble_eq_true rfl) rd_Law_law_1108 ?_ ⟨by omega, by omega⟩
  refine jk_istore C rd_Law_law_1111 (by decide) (lv' := [(6, jk_V bb), (5, jk_V t), (0, .ref b), (1, .ref (ad 0)), (2, .ref (am 0)), (3, .ref o), (4, jk_V i)]) rfl ?_
  refine jk_aload_n C rd_Law_law_1113 (k := 4) rfl ?_
  refine jk_callVi C2 hZ.1 hz hT tm_1336 tm_1337 tm_1338 tm_15 tm_1339 na_Md_thrown ⟨Nat.le_of_ble_eq_true rfl, Nat.le_of_ble_eq_true rfl⟩ rfl (List.range 155) (lw_pl LW_len) nd155 LW_fst (lw_put LW_len LW_len) 145 11 (lw_hd LW_len LW_m _) rfl rfl (st := []) rfl (Nat.le_of_ble_eq_true rfl) rd_Law_law_1114 ?_ ⟨by omega, by omega⟩
  refine jk_iload C rd_Law_law_1117 (k := 1) rfl ?_
  refine jk_icmp_same (tgt := 1124) C rd_Law_law_1119 (by decide) ?_
  refine jk_iload C rd_Law_law_1124 (k := 1) rfl ?_
  by_cases h0 : t = 0
  · refine jk_if_ne (a := some ()) (b := (none : Option Unit)) (o := ()) (tgt := 1141) C rd_Law_law_1126 (by decide) (by unfold jk_eqs; rw [if_pos ⟨htR, jk_R0⟩, if_pos h0]) (fun h _ => absurd h0 h) (fun _ _ => ?_)
    refine jk_aload_n C rd_Law_law_1129 (k := 5) rfl ?_
    refine jk_iconst C rd_Law_law_1130 ?_
    refine jk_lald C 155 2 (lw_at LW_len _) rfl rd_Law_law_1131 ?_
    refine jk_iload C rd_Law_law_1132 (k := 0) rfl ?_
    refine jk_i2l C rd_Law_law_1134 ?_
    refine jk_lcmp C (ht h0) rd_Law_law_1135 ?_
    refine jk_if_eq (a := some ()) (b := (none : Option Unit)) (o := ()) (tgt := 1141) C rd_Law_law_1136 (by decide) (by decide +kernel) (fun _ _ => ?_) (fun h _ => absurd rfl h)
    refine jk_goto (tgt := 2784) C rd_Law_law_1141 (by decide) ?_
    refine jk_lv (lv' := [(0, .ref b), (1, .ref (ad 0)), (2, .ref (am 0)), (3, .ref o), (4, jk_V i)]) [2, 3, 4, 5, 6] rfl ?_
    exact jk_widen (by omega) (by omega) kk
  · refine jk_if_ne (a := (none : Option Unit)) (b := some ()) (o := ()) (tgt := 1141) C rd_Law_law_1126 (by decide) (by unfold jk_eqs; rw [if_pos ⟨htR, jk_R0⟩, if_neg h0]) (fun _ _ => ?_) (fun h _ => absurd h h0)
    refine jk_goto (tgt := 2784) C rd_Law_law_1141 (by decide) ?_
    refine jk_lv (lv' := [(0, .ref b), (1, .ref (ad 0)), (2, .ref (am 0)), (3, .ref o), (4, jk_V i)]) [2, 3, 4, 5, 6] rfl ?_
    exact jk_widen (by omega) (by omega) kk

set_option maxHeartbeats 4000000 in
set_option maxRecDepth 20000 in
theorem lc_23 {p : Program} {l : Launch} {e : Env} {s : State} {m : MethodId} {args : Array Value} {below : List Frame} {meth : Method} {c : Code} {cells slots : Nat} {Q : State → Prop} {D : va_G} {A : Nat → Prop} {ret : Option FieldType} {Z : (Nat → Prop) → State → Heap → Prop} {sq : Nat → Nat} {cI cR cL : ClassId} {g : Nat → Option Nat} {ad am : Nat → Nat} {b o L : Nat} {xs : Nat → Int32} {i : Int} (C : jk_C p s m args meth c mb_Law_law "KnotReaderLaw" 9 jk_WA D jk_cl (jk_t3 cI cR cL) A ret) (hZ : jk_ZK Z sq) (hz : Z A s s.heap) (hcs : cells + 20 ≤ room_1.cells ∧ slots + 120 ≤ room_1.slots) (hX : va_X b L xs s s.heap) (hbl : b < s.heap.size) (hbA : ¬ A b) (hL : L ≤ 3072) (hi : 0 ≤ i ∧ i + 6 ≤ (L : Int)) {σ σ1 σ2 σ3 : jk_LS} {f f1 : Nat → Int64} {t bb : Int} (htR : jk_R t) (ht : t = 0 → f1 0 = (jk_I bb).toInt64) (hb : bb = 0 ∨ bb = 1) (hA : jk_ME l D jk_cl (jk_t3 cI cR cL) Z mn_Law_isComplete (.codeWith mn_Law_isComplete mb_Law_isComplete 4 (some .int) [(0, 16, 19, 13)] :: jk_WA) (jk_rx 8 1 6 142) [.ref (ad 0), jk_V (xs (i + 1).toNat).toInt, .ref o] (LW cI cR g ad am σ ++ [(o, .inl (cL, 1, .inr (.inl f)))]) (LW cI cR g ad am σ1 ++ [(o, .inl (cL, 1, .inr (.inl f1)))]) t 1 6) (hB : jk_MI l D jk_cl (jk_ty cI cR) Z mn_Md_isComplete (.code mn_Md_isComplete mb_Md_isComplete 2 (some .boolean) :: jk_WA) (jk_rm 4 87) [.ref (am 0), jk_V (xs (i + 1).toNat).toInt] (LW cI cR g ad am σ1) (LW cI cR g ad am σ2) bb) (hT : jk_MI l D jk_cl (jk_ty cI cR) Z mn_Md_thrown (.code mn_Md_thrown mb_Md_thrown 1 (some .int) :: jk_WA) (jk_rm 0 0) [.ref (am 0)] (LW cI cR g ad am σ2) (LW cI cR g ad am σ3) t) (kk : jk_J p l e room_1 s m args below meth c (cells + 20) (slots + 120) Q D jk_cl A 9 (LW cI cR g ad am σ3 ++ [(o, .inl (cL, 1, .inr (.inl f1)))]) [(0, .ref b), (1, .ref (ad 0)), (2, .ref (am 0)), (3, .ref o), (4, jk_V i)] 2784 []) : jk_J p l e room_1 s m args below meth c (cells) (slots) Q D jk_cl A 9 (LW cI cR g ad am σ ++ [(o, .inl (cL, 1, .inr (.inl f)))]) [(0, .ref b), (1, .ref (ad 0)), (2, .ref (am 0)), (3, .ref o), (4, jk_V i)] 1144 [] := by
  have C2 := jk_Csub C [0, 1] rfl (tys' := jk_ty cI cR)
  refine jk_aload_n C rd_Law_law_1144 (k := 1) rfl ?_
  refine jk_aload_n C rd_Law_law_1145 (k := 0) rfl ?_
  refine jk_iload C rd_Law_law_1146 (k := 4) rfl ?_
  refine jk_iconst C rd_Law_law_1148 ?_
  refine jk_iadd C rd_Law_law_1149 ?_
  refine jk_sld C hX hbl hbA (by omega) (by omega) hL rd_Law_law_1150 ?_
  refine jk_aload_n C rd_Law_law_1151 (k := 3) rfl ?_
  refine jk_callSW C hZ.1 hz hA tm_971 tm_972 tm_0 tm_973 na_Law_isComplete ⟨Nat.le_of_ble_eq_true rfl, Nat.le_of_ble_eq_true rfl⟩ rfl (List.range 156) (lw_pq1 LW_len) nd156 (lw_fs1 LW_fst) (lw_pt1 LW_len LW_len) (st := []) rfl (Nat.le_of_ble_eq_true rfl) rd_Law_law_1152 ⟨by omega, by omega⟩ ?_
  refine jk_istore C rd_Law_law_1155 (by decide) (lv' := [(5, jk_V t), (0, .ref b), (1, .ref (ad 0)), (2, .ref (am 0)), (3, .ref o), (4, jk_V i)]) rfl ?_
  refine jk_aload_n C rd_Law_law_1157 (k := 3) rfl ?_
  refine jk_aload_n C rd_Law_law_1158 (k := 1) rfl ?_
  refine jk_iload C rd_Law_law_1159 (k := 5) rfl ?_
  refine jk_iconst C rd_Law_law_1161 ?_
  refine jk_iadd C rd_Law_law_1162 ?_
  refine jk_sld C hX hbl hbA (by omega) (by omega) hL rd_Law_law_1163 ?_
  refine jk_callVi C2 hZ.1 hz hB tm_1767 tm_1768 tm_1769 tm_15 tm_1770 na_Md_isComplete ⟨Nat.le_of_ble_eq_true rfl, Nat.le_of_ble_eq_true rfl⟩ rfl (List.range 155) (lw_pl LW_len) nd155 LW_fst (lw_put LW_len LW_len) 145 11 (lw_hd LW_len LW_m _) rfl rfl (st := []) rfl (Nat.le_of_ble_eq_true rfl) rd_Law_law_1164 ?_ ⟨by omega, by omega⟩
  refine jk_istore C rd_Law_law_1167 (by decide) (lv' := [(6, jk_V bb), (5, jk_V t), (0, .ref b), (1, .ref (ad 0)), (2, .ref (am 0)), (3, .ref o), (4, jk_V i)]) rfl ?_
  refine jk_aload_n C rd_Law_law_1169 (k := 4) rfl ?_
  refine jk_callVi C2 hZ.1 hz hT tm_1336 tm_1337 tm_1338 tm_15 tm_1339 na_Md_thrown ⟨Nat.le_of_ble_eq_true rfl, Nat.le_of_ble_eq_true rfl⟩ rfl (List.range 155) (lw_pl LW_len) nd155 LW_fst (lw_put LW_len LW_len) 145 11 (lw_hd LW_len LW_m _) rfl rfl (st := []) rfl (Nat.le_of_ble_eq_true rfl) rd_Law_law_1170 ?_ ⟨by omega, by omega⟩
  refine jk_iload C rd_Law_law_1173 (k := 1) rfl ?_
  refine jk_icmp_same (tgt := 1180) C rd_Law_law_1175 (by decide) ?_
  refine jk_iload C rd_Law_law_1180 (k := 1) rfl ?_
  by_cases h0 : t = 0
  · refine jk_if_ne (a := some ()) (b := (none : Option Unit)) (o := ()) (tgt := 1204) C rd_Law_law_1182 (by decide) (by unfold jk_eqs; rw [if_pos ⟨htR, jk_R0⟩, if_pos h0]) (fun h _ => absurd h0 h) (fun _ _ => ?_)
    refine jk_aload_n C rd_Law_law_1185 (k := 5) rfl ?_
    refine jk_iconst C rd_Law_law_1186 ?_
    refine jk_lald C 155 2 (lw_at LW_len _) rfl rd_Law_law_1187 ?_
    refine jk_iload C rd_Law_law_1188 (k := 0) rfl ?_
    rcases hb with rfl | rfl
    · refine jk_if_eq (a := some ()) (b := (none : Option Unit)) (o := ()) (tgt := 1197) C rd_Law_law_1190 (by decide) (by decide +kernel) (fun _ _ => ?_) (fun h _ => absurd rfl h)
      refine jk_lconst C rd_Law_law_1197 ?_
      refine jk_lcmp C ((ht h0).trans (by decide)) rd_Law_law_1198 ?_
      refine jk_if_eq (a := some ()) (b := (none : Option Unit)) (o := ()) (tgt := 1204) C rd_Law_law_1199 (by decide) (by decide +kernel) (fun _ _ => ?_) (fun h _ => absurd rfl h)
      refine jk_goto (tgt := 2784) C rd_Law_law_1204 (by decide) ?_
      refine jk_lv (lv' := [(0, .ref b), (1, .ref (ad 0)), (2, .ref (am 0)), (3, .ref o), (4, jk_V i)]) [2, 3, 4, 5, 6] rfl ?_
      exact jk_widen (by omega) (by omega) kk
    · refine jk_if_eq (a := (none : Option Unit)) (b := some ()) (o := ()) (tgt := 1197) C rd_Law_law_1190 (by decide) (by decide +kernel) (fun h _ => absurd h (by decide)) (fun _ _ => ?_)
      refine jk_lconst C rd_Law_law_1193 ?_
      refine jk_goto (tgt := 1198) C rd_Law_law_1194 (by decide) ?_
      refine jk_lcmp C ((ht h0).trans (by decide)) rd_Law_law_1198 ?_
      refine jk_if_eq (a := some ()) (b := (none : Option Unit)) (o := ()) (tgt := 1204) C rd_Law_law_1199 (by decide) (by decide +kernel) (fun _ _ => ?_) (fun h _ => absurd rfl h)
      refine jk_goto (tgt := 2784) C rd_Law_law_1204 (by decide) ?_
      refine jk_lv (lv' := [(0, .ref b), (1, .ref (ad 0)), (2, .ref (am 0)), (3, .ref o), (4, jk_V i)]) [2, 3, 4, 5, 6] rfl ?_
      exact jk_widen (by omega) (by omega) kk
  · refine jk_if_ne (a := (none : Option Unit)) (b := some ()) (o := ()) (tgt := 1204) C rd_Law_law_1182 (by decide) (by unfold jk_eqs; rw [if_pos ⟨htR, jk_R0⟩, if_neg h0]) (fun _ _ => ?_) (fun h _ => absurd h h0)
    refine jk_goto (tgt := 2784) C rd_Law_law_1204 (by decide) ?_
    refine jk_lv (lv' := [(0, .ref b), (1, .ref (ad 0)), (2, .ref (am 0)), (3, .ref o), (4, jk_V i)]) [2, 3, 4, 5, 6] rfl ?_
    exact jk_widen (by omega) (by omega) kk

