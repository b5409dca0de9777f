set_option maxHeartbeats 4000000 in
set_option maxRecDepth 20000 in
theorem lc_24 {p : Program} {l : Launch} {e : Env} {s : State} {m : MethodId} {args : Array Value} {below : List Frame} {meth : Method} {c : Code} {cells slots : Nat} {Q : State → Prop} {D : va_G} {A : Nat → Prop} {ret : Option FieldType} {Z : (Nat → Prop) → State → Heap → Prop} {sq : Nat → Nat} {cI cR cL : ClassId} {g : Nat → Option Nat} {ad am : Nat → Nat} {b o L : Nat} {xs : Nat → Int32} {i : Int} (C : jk_C p s m args meth c mb_Law_law "KnotReaderLaw" 9 jk_WA D jk_cl (jk_t3 cI cR cL) A ret) (hZ : jk_ZK Z sq) (hz : Z A s s.heap) (hcs : cells + 20 ≤ room_1.cells ∧ slots + 120 ≤ room_1.slots) (hX : va_X b L xs s s.heap) (hbl : b < s.heap.size) (hbA : ¬ A b) (hL : L ≤ 3072) (hi : 0 ≤ i ∧ i + 6 ≤ (L : Int)) {σ σ1 σ2 σ3 : jk_LS} {f f1 : Nat → Int64} {t bb : Int} (htR : jk_R t) (ht : t = 0 → f1 0 = (jk_I bb).toInt64) (hA : jk_ME l D jk_cl (jk_t3 cI cR cL) Z mn_Law_totalOf (.codeWith mn_Law_totalOf mb_Law_totalOf 4 (some .int) [(0, 9, 12, 13), (0, 9, 15, 55)] :: jk_WA) (jk_rx 8 2 12 143) [.ref (ad 0), jk_V (xs (i + 1).toNat).toInt, .ref o] (LW cI cR g ad am σ ++ [(o, .inl (cL, 1, .inr (.inl f)))]) (LW cI cR g ad am σ1 ++ [(o, .inl (cL, 1, .inr (.inl f1)))]) t 2 12) (hB : jk_MI l D jk_cl (jk_ty cI cR) Z mn_Md_totalOf (.code mn_Md_totalOf mb_Md_totalOf 2 (some .int) :: jk_WA) (jk_rm 4 87) [.ref (am 0), jk_V (xs (i + 1).toNat).toInt] (LW cI cR g ad am σ1) (LW cI cR g ad am σ2) bb) (hT : jk_MI l D jk_cl (jk_ty cI cR) Z mn_Md_thrown (.code mn_Md_thrown mb_Md_thrown 1 (some .int) :: jk_WA) (jk_rm 0 0) [.ref (am 0)] (LW cI cR g ad am σ2) (LW cI cR g ad am σ3) t) (kk : jk_J p l e room_1 s m args below meth c (cells + 20) (slots + 120) Q D jk_cl A 9 (LW cI cR g ad am σ3 ++ [(o, .inl (cL, 1, .inr (.inl f1)))]) [(0, .ref b), (1, .ref (ad 0)), (2, .ref (am 0)), (3, .ref o), (4, jk_V i)] 2784 []) : jk_J p l e room_1 s m args below meth c (cells) (slots) Q D jk_cl A 9 (LW cI cR g ad am σ ++ [(o, .inl (cL, 1, .inr (.inl f)))]) [(0, .ref b), (1, .ref (ad 0)), (2, .ref (am 0)), (3, .ref o), (4, jk_V i)] 1207 [] := by
  have C2 := jk_Csub C [0, 1] rfl (tys' := jk_ty cI cR)
  refine jk_aload_n C rd_Law_law_1207 (k := 1) rfl ?_
  refine jk_aload_n C rd_Law_law_1208 (k := 0) rfl ?_
  refine jk_iload C rd_Law_law_1209 (k := 4) rfl ?_
  refine jk_iconst C rd_Law_law_1211 ?_
  refine jk_iadd C rd_Law_law_1212 ?_
  refine jk_sld C hX hbl hbA (by omega) (by omega) hL rd_Law_law_1213 ?_
  refine jk_aload_n C rd_Law_law_1214 (k := 3) rfl ?_
  refine jk_callSW C hZ.1 hz hA tm_978 tm_979 tm_0 tm_980 na_Law_totalOf ⟨Nat.le_of_ble_eq_true rfl, Nat.le_of_ble_eq_true rfl⟩ rfl (List.range 156) (lw_pq1 LW_len) nd156 (lw_fs1 LW_fst) (lw_pt1 LW_len LW_len) (st := []) rfl (Nat.le_of_ble_eq_true rfl) rd_Law_law_1215 ⟨by omega, by omega⟩ ?_
  refine jk_istore C rd_Law_law_1218 (by decide) (lv' := [(5, jk_V t), (0, .ref b), (1, .ref (ad 0)), (2, .ref (am 0)), (3, .ref o), (4, jk_V i)]) rfl ?_
  refine jk_aload_n C rd_Law_law_1220 (k := 3) rfl ?_
  refine jk_aload_n C rd_Law_law_1221 (k := 1) rfl ?_
  refine jk_iload C rd_Law_law_1222 (k := 5) rfl ?_
  refine jk_iconst C rd_Law_law_1224 ?_
  refine jk_iadd C rd_Law_law_1225 ?_
  refine jk_sld C hX hbl hbA (by omega) (by omega) hL rd_Law_law_1226 ?_
  refine jk_callVi C2 hZ.1 hz hB tm_1775 tm_1776 tm_1777 tm_15 tm_1778 na_Md_totalOf ⟨Nat.le_of_ble_eq_true rfl, Nat.le_of_ble_eq_true rfl⟩ rfl (List.range 155) (lw_pl LW_len) nd155 LW_fst (lw_put LW_len LW_len) 145 11 (lw_hd LW_len LW_m _) rfl rfl (st := []) rfl (Nat.le_of_ble_eq_true rfl) rd_Law_law_1227 ?_ ⟨by omega, by omega⟩
  refine jk_istore C rd_Law_law_1230 (by decide) (lv' := [(6, jk_V bb), (5, jk_V t), (0, .ref b), (1, .ref (ad 0)), (2, .ref (am 0)), (3, .ref o), (4, jk_V i)]) rfl ?_
  refine jk_aload_n C rd_Law_law_1232 (k := 4) rfl ?_
  refine jk_callVi C2 hZ.1 hz hT tm_1336 tm_1337 tm_1338 tm_15 tm_1339 na_Md_thrown ⟨Nat.le_of_ble_eq_true rfl, Nat.le_of_ble_eq_true rfl⟩ rfl (List.range 155) (lw_pl LW_len) nd155 LW_fst (lw_put LW_len LW_len) 145 11 (lw_hd LW_len LW_m _) rfl rfl (st := []) rfl (Nat.le_of_ble_eq_true rfl) rd_Law_law_1233 ?_ ⟨by omega, by omega⟩
  refine jk_iload C rd_Law_law_1236 (k := 1) rfl ?_
  refine jk_icmp_same (tgt := 1243) C rd_Law_law_1238 (by decide) ?_
  refine jk_iload C rd_Law_law_1243 (k := 1) rfl ?_
  by_cases h0 : t = 0
  · refine jk_if_ne (a := some ()) (b := (none : Option Unit)) (o := ()) (tgt := 1260) C rd_Law_law_1245 (by decide) (by unfold jk_eqs; rw [if_pos ⟨htR, jk_R0⟩, if_pos h0]) (fun h _ => absurd h0 h) (fun _ _ => ?_)
    refine jk_aload_n C rd_Law_law_1248 (k := 5) rfl ?_
    refine jk_iconst C rd_Law_law_1249 ?_
    refine jk_lald C 155 2 (lw_at LW_len _) rfl rd_Law_law_1250 ?_
    refine jk_iload C rd_Law_law_1251 (k := 0) rfl ?_
    refine jk_i2l C rd_Law_law_1253 ?_
    refine jk_lcmp C (ht h0) rd_Law_law_1254 ?_
    refine jk_if_eq (a := some ()) (b := (none : Option Unit)) (o := ()) (tgt := 1260) C rd_Law_law_1255 (by decide) (by decide +kernel) (fun _ _ => ?_) (fun h _ => absurd rfl h)
    refine jk_goto (tgt := 2784) C rd_Law_law_1260 (by decide) ?_
    refine jk_lv (lv' := [(0, .ref b), (1, .ref (ad 0)), (2, .ref (am 0)), (3, .ref o), (4, jk_V i)]) [2, 3, 4, 5, 6] rfl ?_
    exact jk_widen (by omega) (by omega) kk
  · refine jk_if_ne (a := (none : Option Unit)) (b := some ()) (o := ()) (tgt := 1260) C rd_Law_law_1245 (by decide) (by unfold jk_eqs; rw [if_pos ⟨htR, jk_R0⟩, if_neg h0]) (fun _ _ => ?_) (fun h _ => absurd h h0)
    refine jk_goto (tgt := 2784) C rd_Law_law_1260 (by decide) ?_
    refine jk_lv (lv' := [(0, .ref b), (1, .ref (ad 0)), (2, .ref (am 0)), (3, .ref o), (4, jk_V i)]) [2, 3, 4, 5, 6] rfl ?_
    exact jk_widen (by omega) (by omega) kk

set_option maxHeartbeats 4000000 in
set_option maxRecDepth 20000 in
theorem lc_25 {p : Program} {l : Launch} {e : Env} {s : State} {m : MethodId} {args : Array Value} {below : List Frame} {meth : Method} {c : Code} {cells slots : Nat} {Q : State → Prop} {D : va_G} {A : Nat → Prop} {ret : Option FieldType} {Z : (Nat → Prop) → State → Heap → Prop} {sq : Nat → Nat} {cI cR cL : ClassId} {g : Nat → Option Nat} {ad am : Nat → Nat} {b o L : Nat} {xs : Nat → Int32} {i : Int} (C : jk_C p s m args meth c mb_Law_law "KnotReaderLaw" 9 jk_WA D jk_cl (jk_t3 cI cR cL) A ret) (hZ : jk_ZK Z sq) (hz : Z A s s.heap) (hcs : cells + 20 ≤ room_1.cells ∧ slots + 120 ≤ room_1.slots) (hX : va_X b L xs s s.heap) (hbl : b < s.heap.size) (hbA : ¬ A b) (hL : L ≤ 3072) (hi : 0 ≤ i ∧ i + 6 ≤ (L : Int)) {σ σ1 σ2 σ3 : jk_LS} {f f1 : Nat → Int64} {t bb : Int} (htR : jk_R t) (ht : t = 0 → f1 0 = (jk_I bb).toInt64) (hA : jk_ME l D jk_cl (jk_t3 cI cR cL) Z mn_Law_pendantsIn (.codeWith mn_Law_pendantsIn mb_Law_pendantsIn 4 (some .int) [(0, 9, 12, 13)] :: jk_WA) (jk_rx 8 1 6 142) [.ref (ad 0), jk_V (xs (i + 1).toNat).toInt, .ref o] (LW cI cR g ad am σ ++ [(o, .inl (cL, 1, .inr (.inl f)))]) (LW cI cR g ad am σ1 ++ [(o, .inl (cL, 1, .inr (.inl f1)))]) t 1 6) (hB : jk_MI l D jk_cl (jk_ty cI cR) Z mn_Md_pendantsIn (.code mn_Md_pendantsIn mb_Md_pendantsIn 2 (some .int) :: jk_WA) (jk_rm 4 88) [.ref (am 0), jk_V (xs (i + 1).toNat).toInt] (LW cI cR g ad am σ1) (LW cI cR g ad am σ2) bb) (hT : jk_MI l D jk_cl (jk_ty cI cR) Z mn_Md_thrown (.code mn_Md_thrown mb_Md_thrown 1 (some .int) :: jk_WA) (jk_rm 0 0) [.ref (am 0)] (LW cI cR g ad am σ2) (LW cI cR g ad am σ3) t) (kk : jk_J p l e room_1 s m args below meth c (cells + 20) (slots + 120) Q D jk_cl A 9 (LW cI cR g ad am σ3 ++ [(o, .inl (cL, 1, .inr (.inl f1)))]) [(0, .ref b), (1, .ref (ad 0)), (2, .ref (am 0)), (3, .ref o), (4, jk_V i)] 2784 []) : jk_J p l e room_1 s m args below meth c (cells) (slots) Q D jk_cl A 9 (LW cI cR g ad am σ ++ [(o, .inl (cL, 1, .inr (.inl f)))]) [(0, .ref b), (1, .ref (ad 0)), (2, .ref (am 0)), (3, .ref o), (4, jk_V i)] 1263 [] := by
  have C2 := jk_Csub C [0, 1] rfl (tys' := jk_ty cI cR)
  refine jk_aload_n C rd_Law_law_1263 (k := 1) rfl ?_
  refine jk_aload_n C rd_Law_law_1264 (k := 0) rfl ?_
  refine jk_iload C rd_Law_law_1265 (k := 4) rfl ?_
  refine jk_iconst C rd_Law_law_1267 ?_
  refine jk_iadd C rd_Law_law_1268 ?_
  refine jk_sld C hX hbl hbA (by omega) (by omega) hL rd_Law_law_1269 ?_
  refine jk_aload_n C rd_Law_law_1270 (k := 3) rfl ?_
  refine jk_callSW C hZ.1 hz hA tm_1002 tm_1003 tm_0 tm_1004 na_Law_pendantsIn ⟨Nat.le_of_ble_eq_true rfl, Nat.le_of_ble_eq_true rfl⟩ rfl (List.range 156) (lw_pq1 LW_len) nd156 (lw_fs1 LW_fst) (lw_pt1 LW_len LW_len) (st := []) rfl (Nat.le_of_ble_eq_true rfl) rd_Law_law_1271 ⟨by omega, by omega⟩ ?_
  refine jk_istore C rd_Law_law_1274 (by decide) (lv' := [(5, jk_V t), (0, .ref b), (1, .ref (ad 0)), (2, .ref (am 0)), (3, .ref o), (4, jk_V i)]) rfl ?_
  refine jk_aload_n C rd_Law_law_1276 (k := 3) rfl ?_
  refine jk_aload_n C rd_Law_law_1277 (k := 1) rfl ?_
  refine jk_iload C rd_Law_law_1278 (k := 5) rfl ?_
  refine jk_iconst C rd_Law_law_1280 ?_
  refine jk_iadd C rd_Law_law_1281 ?_
  refine jk_sld C hX hbl hbA (by omega) (by omega) hL rd_Law_law_1282 ?_
  refine jk_callVi C2 hZ.1 hz hB tm_1695 tm_1696 tm_1697 tm_15 tm_1698 na_Md_pendantsIn ⟨Nat.le_of_ble_eq_true rfl, Nat.le_of_ble_eq_true rfl⟩ rfl (List.range 155) (lw_pl LW_len) nd155 LW_fst (lw_put LW_len LW_len) 145 11 (lw_hd LW_len LW_m _) rfl rfl (st := []) rfl (Nat.le_of_ble_eq_true rfl) rd_Law_law_1283 ?_ ⟨by omega, by omega⟩
  refine jk_istore C rd_Law_law_1286 (by decide) (lv' := [(6, jk_V bb), (5, jk_V t), (0, .ref b), (1, .ref (ad 0)), (2, .ref (am 0)), (3, .ref o), (4, jk_V i)]) rfl ?_
  refine jk_aload_n C rd_Law_law_1288 (k := 4) rfl ?_
  refine jk_callVi C2 hZ.1 hz hT tm_1336 tm_1337 tm_1338 tm_15 tm_1339 na_Md_thrown ⟨Nat.le_of_ble_eq_true rfl, Nat.le_of_ble_eq_true rfl⟩ rfl (List.range 155) (lw_pl LW_len) nd155 LW_fst (lw_put LW_len LW_len) 145 11 (lw_hd LW_len LW_m _) rfl rfl (st := []) rfl (Nat.le_of_ble_eq_true rfl) rd_Law_law_1289 ?_ ⟨by omega, by omega⟩
  refine jk_iload C rd_Law_law_1292 (k := 1) rfl ?_
  refine jk_icmp_same (tgt := 1299) C rd_Law_law_1294 (by decide) ?_
  refine jk_iload C rd_Law_law_1299 (k := 1) rfl ?_
  by_cases h0 : t = 0
  · refine jk_if_ne (a := some ()) (b := (none : Option Unit)) (o := ()) (tgt := 1316) C rd_Law_law_1301 (by decide) (by unfold jk_eqs; rw [if_pos ⟨htR, jk_R0⟩, if_pos h0]) (fun h _ => absurd h0 h) (fun _ _ => ?_)
    refine jk_aload_n C rd_Law_law_1304 (k := 5) rfl ?_
    refine jk_iconst C rd_Law_law_1305 ?_
    refine jk_lald C 155 2 (lw_at LW_len _) rfl rd_Law_law_1306 ?_
    refine jk_iload C rd_Law_law_1307 (k := 0) rfl ?_
    refine jk_i2l C rd_Law_law_1309 ?_
    refine jk_lcmp C (ht h0) rd_Law_law_1310 ?_
    refine jk_if_eq (a := some ()) (b := (none : Option Unit)) (o := ()) (tgt := 1316) C rd_Law_law_1311 (by decide) (by decide +kernel) (fun _ _ => ?_) (fun h _ => absurd rfl h)
    refine jk_goto (tgt := 2784) C rd_Law_law_1316 (by decide) ?_
    refine jk_lv (lv' := [(0, .ref b), (1, .ref (ad 0)), (2, .ref (am 0)), (3, .ref o), (4, jk_V i)]) [2, 3, 4, 5, 6] rfl ?_
    exact jk_widen (by omega) (by omega) kk
  · refine jk_if_ne (a := (none : Option Unit)) (b := some ()) (o := ()) (tgt := 1316) C rd_Law_law_1301 (by decide) (by unfold jk_eqs; rw [if_pos ⟨htR, jk_R0⟩, if_neg h0]) (fun _ _ => ?_) (fun h _ => absurd h h0)
    refine jk_goto (tgt := 2784) C rd_Law_law_1316 (by decide) ?_
    refine jk_lv (lv' := [(0, .ref b), (1, .ref (ad 0)), (2, .ref (am 0)), (3, .ref o), (4, jk_V i)]) [2, 3, 4, 5, 6] rfl ?_
    exact jk_widen (by omega) (by omega) kk

set_option maxHeartbeats 4000000 in
set_option maxRecDepth 20000 in
theorem lc_26 {p : Program} {l : Launch} {e : Env} {s : State} {m : MethodId} {args : Array Value} {below : List Frame} {meth : Method} {c : Code} {cells slots : Nat} {Q : State → Prop} {D : va_G} {A : Nat → Prop} {ret : Option FieldType} {Z : (Nat → Prop) → State → Heap → Prop} {sq : Nat → Nat} {cI cR cL : ClassId} {g : Nat → Option Nat} {ad am : Nat → Nat} {b o L : Nat} {xs : Nat → Int32} {i : Int} (C : jk_C p s m args meth c mb_Law_law "KnotReaderLaw" 9 jk_WA D jk_cl (jk_t3 cI cR cL) A ret) (hZ : jk_ZK Z sq) (hz : Z A s s.heap) (hcs : cells + 20 ≤ room_1.cells ∧ slots + 120 ≤ room_1.slots) (hX : va_X b L xs s s.heap) (hbl : b < s.heap.size) (hbA : ¬ A b) (hL : L ≤ 3072) (hi : 0 ≤ i ∧ i + 6 ≤ (L : Int)) {σ σ1 σ2 σ3 : jk_LS} {f f1 : Nat → Int64} {t bb : Int} (htR : jk_R t) (ht : t = 0 → f1 0 = (jk_I bb).toInt64) (hA : jk_ME l D jk_cl (jk_t3 cI cR cL) Z mn_Law_cordsIn (.codeWith mn_Law_cordsIn mb_Law_cordsIn 4 (some .int) [(0, 9, 12, 13)] :: jk_WA) (jk_rx 8 1 6 142) [.ref (ad 0), jk_V (xs (i + 1).toNat).toInt, .ref o] (LW cI cR g ad am σ ++ [(o, .inl (cL, 1, .inr (.inl f)))]) (LW cI cR g ad am σ1 ++ [(o, .inl (cL, 1, .inr (.inl f1)))]) t 1 6) (hB : jk_MI l D jk_cl (jk_ty cI cR) Z mn_Md_cordsIn (.code mn_Md_cordsIn mb_Md_cordsIn 2 (some .int) :: jk_WA) (jk_rm 3 65) [.ref (am 0), jk_V (xs (i + 1).toNat).toInt] (LW cI cR g ad am σ1) (LW cI cR g ad am σ2) bb) (hT : jk_MI l D jk_cl (jk_ty cI cR) Z mn_Md_thrown (.code mn_Md_thrown mb_Md_thrown 1 (some .int) :: jk_WA) (jk_rm 0 0) [.ref (am 0)] (LW cI cR g ad am σ2) (LW cI cR g ad am σ3) t) (kk : jk_J p l e room_1 s m args below meth c (cells + 20) (slots + 120) Q D jk_cl A 9 (LW cI cR g ad am σ3 ++ [(o, .inl (cL, 1, .inr (.inl f1)))]) [(0, .ref b), (1, .ref (ad 0)), (2, .ref (am 0)), (3, .ref o), (4, jk_V i)] 2784 []) : jk_J p l e room_1 s m args below meth c (cells) (slots) Q D jk_cl A 9 (LW cI cR g ad am σ ++ [(o, .inl (cL, 1, .inr (.inl f)))]) [(0, .ref b), (1, .ref (ad 0)), (2, .ref (am 0)), (3, .ref o), (4, jk_V i)] 1319 [] := by
  have C2 := jk_Csub C [0, 1] rfl (tys' := jk_ty cI cR)
  refine jk_aload_n C rd_Law_law_1319 (k := 1) rfl ?_
  refine jk_aload_n C rd_Law_law_1320 (k := 0) rfl ?_
  refine jk_iload C rd_Law_law_1321 (k := 4) rfl ?_
  refine jk_iconst C rd_Law_law_1323 ?_
  refine jk_iadd C rd_Law_law_1324 ?_
  refine jk_sld C hX hbl hbA (by omega) (by omega) hL rd_Law_law_1325 ?_
  refine jk_aload_n C rd_Law_law_1326 (k := 3) rfl ?_
  refine jk_callSW C hZ.1 hz hA tm_1014 tm_1015 tm_0 tm_1016 na_Law_cordsIn ⟨Nat.le_of_ble_eq_true rfl, Nat.le_of_ble_eq_true rfl⟩ rfl (List.range 156) (lw_pq1 LW_len) nd156 (lw_fs1 LW_fst) (lw_pt1 LW_len LW_len) (st := []) rfl (Nat.le_of_ble_eq_true rfl) rd_Law_law_1327 ⟨by omega, by omega⟩ ?_
  refine jk_istore C rd_Law_law_1330 (by decide) (lv' := [(5, jk_V t), (0, .ref b), (1, .ref (ad 0)), (2, .ref (am 0)), (3, .ref o), (4, jk_V i)]) rfl ?_
  refine jk_aload_n C rd_Law_law_1332 (k := 3) rfl ?_
  refine jk_aload_n C rd_Law_law_1333 (k := 1) rfl ?_
  refine jk_iload C rd_Law_law_1334 (k := 5) rfl ?_
  refine jk_iconst C rd_Law_law_1336 ?_
  refine jk_iadd C rd_Law_law_1337 ?_
  refine jk_sld C hX hbl hbA (by omega) (by omega) hL rd_Law_law_1338 ?_
  refine jk_callVi C2 hZ.1 hz hB tm_1703 tm_1704 tm_1705 tm_15 tm_1706 na_Md_cordsIn ⟨Nat.le_of_ble_eq_true rfl, Nat.le_of_ble_eq_true rfl⟩ rfl (List.range 155) (lw_pl LW_len) nd155 LW_fst (lw_put LW_len LW_len) 145 11 (lw_hd LW_len LW_m _) rfl rfl (st := []) rfl (Nat.le_of_ble_eq_true rfl) rd_Law_law_1339 ?_ ⟨by omega, by omega⟩
  refine jk_istore C rd_Law_law_1342 (by decide) (lv' := [(6, jk_V bb), (5, jk_V t), (0, .ref b), (1, .ref (ad 0)), (2, .ref (am 0)), (3, .ref o), (4, jk_V i)]) rfl ?_
  refine jk_aload_n C rd_Law_law_1344 (k := 4) rfl ?_
  refine jk_callVi C2 hZ.1 hz hT tm_1336 tm_1337 tm_1338 tm_15 tm_1339 na_Md_thrown ⟨Nat.le_of_ble_eq_true rfl, Nat.le_of_ble_eq_true rfl⟩ rfl (List.range 155) (lw_pl LW_len) nd155 LW_fst (lw_put LW_len LW_len) 145 11 (lw_hd LW_len LW_m _) rfl rfl (st := []) rfl (Nat.le_of_ble_eq_true rfl) rd_Law_law_1345 ?_ ⟨by omega, by omega⟩
  refine jk_iload C rd_Law_law_1348 (k := 1) rfl ?_
  refine jk_icmp_same (tgt := 1355) C rd_Law_law_1350 (by decide) ?_
  refine jk_iload C rd_Law_law_1355 (k := 1) rfl ?_
  by_cases h0 : t = 0
  · refine jk_if_ne (a := some ()) (b := (none : Option Unit)) (o := ()) (tgt := 1372) C rd_Law_law_1357 (by decide) (by unfold jk_eqs; rw [if_pos ⟨htR, jk_R0⟩, if_pos h0]) (fun h _ => absurd h0 h) (fun _ _ => ?_)
    refine jk_aload_n C rd_Law_law_1360 (k := 5) rfl ?_
    refine jk_iconst C rd_Law_law_1361 ?_
    refine jk_lald C 155 2 (lw_at LW_len _) rfl rd_Law_law_1362 ?_
    refine jk_iload C rd_Law_law_1363 (k := 0) rfl ?_
    refine jk_i2l C rd_Law_law_1365 ?_
    refine jk_lcmp C (ht h0) rd_Law_law_1366 ?_
    refine jk_if_eq (a := some ()) (b := (none : Option Unit)) (o := ()) (tgt := 1372) C rd_Law_law_1367 (by decide) (by decide +kernel) (fun _ _ => ?_) (fun h _ => absurd rfl h)
    refine jk_goto (tgt := 2784) C rd_Law_law_1372 (by decide) ?_
    refine jk_lv (lv' := [(0, .ref b), (1, .ref (ad 0)), (2, .ref (am 0)), (3, .ref o), (4, jk_V i)]) [2, 3, 4, 5, 6] rfl ?_
    exact jk_widen (by omega) (by omega) kk
  · refine jk_if_ne (a := (none : Option Unit)) (b := some ()) (o := ()) (tgt := 1372) C rd_Law_law_1357 (by decide) (by unfold jk_eqs; rw [if_pos ⟨htR, jk_R0⟩, if_neg h0]) (fun _ _ => ?_) (fun h _ => absurd h h0)
    refine jk_goto (tgt := 2784) C rd_Law_law_1372 (by decide) ?_
    refine jk_lv (lv' := [(0, .ref b), (1, .ref (ad 0)), (2, .ref (am 0)), (3, .ref o), (4, jk_V i)]) [2, 3, 4, 5, 6] rfl ?_
    exact jk_widen (by omega) (by omega) kk

set_option maxHeartbeats 4000000 in
set_option maxRecDepth 20000 in
theorem lc_27 {p : Program} {l : Launch} {e : Env} {s : State} {m : MethodId} {args : Array Value} {below : List Frame} {meth : Method} {c : Code} {cells slots : Nat} {Q : State → Prop} {D : va_G} {A : Nat → Prop} {ret : Option FieldType} {Z : (Nat → Prop) → State → Heap → Prop} {sq : Nat → Nat} {cI cR cL : ClassId} {g : Nat → Option Nat} {ad am : Nat → Nat} {b o L : Nat} {xs : Nat → Int32} {i : Int} (C : jk_C p s m args meth c mb_Law_law "KnotReaderLaw" 9 jk_WA D jk_cl (jk_t3 cI cR cL) A ret) (hZ : jk_ZK Z sq) (hz : Z A s s.heap) (hcs : cells + 20 ≤ room_1.cells ∧ slots + 120 ≤ room_1.slots) (hX : va_X b L xs s s.heap) (hbl : b < s.heap.size) (hbA : ¬ A b) (hL : L ≤ 3072) (hi : 0 ≤ i ∧ i + 6 ≤ (L : Int)) {σ σ1 σ2 σ3 : jk_LS} {f f1 : Nat → Int64} {t bb : Int} (htR : jk_R t) (ht : t = 0 → f1 0 = (jk_I bb).toInt64) (hA : jk_ME l D jk_cl (jk_t3 cI cR cL) Z mn_Law_topOf (.codeWith mn_Law_topOf mb_Law_topOf 4 (some .int) [(0, 9, 12, 13)] :: jk_WA) (jk_rx 8 1 6 142) [.ref (ad 0), jk_V (xs (i + 1).toNat).toInt, .ref o] (LW cI cR g ad am σ ++ [(o, .inl (cL, 1, .inr (.inl f)))]) (LW cI cR g ad am σ1 ++ [(o, .inl (cL, 1, .inr (.inl f1)))]) t 1 6) (hB : jk_MI l D jk_cl (jk_ty cI cR) Z mn_Md_topOf (.code mn_Md_topOf mb_Md_topOf 2 (some .int) :: jk_WA) (jk_rm 4 87) [.ref (am 0), jk_V (xs (i + 1).toNat).toInt] (LW cI cR g ad am σ1) (LW cI cR g ad am σ2) bb) (hT : jk_MI l D jk_cl (jk_ty cI cR) Z mn_Md_thrown (.code mn_Md_thrown mb_Md_thrown 1 (some .int) :: jk_WA) (jk_rm 0 0) [.ref (am 0)] (LW cI cR g ad am σ2) (LW cI cR g ad am σ3) t) (kk : jk_J p l e room_1 s m args below meth c (cells + 20) (slots + 120) Q D jk_cl A 9 (LW cI cR g ad am σ3 ++ [(o, .inl (cL, 1, .inr (.inl f1)))]) [(0, .ref b), (1, .ref (ad 0)), (2, .ref (am 0)), (3, .ref o), (4, jk_V i)] 2784 []) : jk_J p l e room_1 s m args below meth c (cells) (slots) Q D jk_cl A 9 (LW cI cR g ad am σ ++ [(o, .inl (cL, 1, .inr (.inl f)))]) [(0, .ref b), (1, .ref (ad 0)), (2, .ref (am 0)), (3, .ref o), (4, jk_V i)] 1375 [] := by
  have C2 := jk_Csub C [0, 1] rfl (tys' := jk_ty cI cR)
  refine jk_aload_n C rd_Law_law_1375 (k := 1) rfl ?_
  refine jk_aload_n C rd_Law_law_1376 (k := 0) rfl ?_
  refine jk_iload C rd_Law_law_1377 (k := 4) rfl ?_
  refine jk_iconst C rd_Law_law_1379 ?_
  refine jk_iadd C rd_Law_law_1380 ?_
  refine jk_sld C hX hbl hbA (by omega) (by omega) hL rd_Law_law_1381 ?_
  refine jk_aload_n C rd_Law_law_1382 (k := 3) rfl ?_
  refine jk_callSW C hZ.1 hz hA tm_1021 tm_1022 tm_0 tm_1023 na_Law_topOf ⟨Nat.le_of_ble_eq_true rfl, Nat.le_of_ble_eq_true rfl⟩ rfl (List.range 156) (lw_pq1 LW_len) nd156 (lw_fs1 LW_fst) (lw_pt1 LW_len LW_len) (st := []) rfl (Nat.le_of_ble_eq_true rfl) rd_Law_law_1383 ⟨by omega, by omega⟩ ?_
  refine jk_istore C rd_Law_law_1386 (by decide) (lv' := [(5, jk_V t), (0, .ref b), (1, .ref (ad 0)), (2, .ref (am 0)), (3, .ref o), (4, jk_V i)]) rfl ?_
  refine jk_aload_n C rd_Law_law_1388 (k := 3) rfl ?_
  refine jk_aload_n C rd_Law_law_1389 (k := 1) rfl ?_
  refine jk_iload C rd_Law_law_1390 (k := 5) rfl ?_
  refine jk_iconst C rd_Law_law_1392 ?_
  refine jk_iadd C rd_Law_law_1393 ?_
  refine jk_sld C hX hbl hbA (by omega) (by omega) hL rd_Law_law_1394 ?_
  refine jk_callVi C2 hZ.1 hz hB tm_1707 tm_1708 tm_1709 tm_15 tm_1710 na_Md_topOf ⟨Nat.le_of_ble_eq_true rfl, Nat.le_of_ble_eq_true rfl⟩ rfl (List.range 155) (lw_pl LW_len) nd155 LW_fst (lw_put LW_len LW_len) 145 11 (lw_hd LW_len LW_m _) rfl rfl (st := []) rfl (Nat.le_of_ble_eq_true rfl) rd_Law_law_1395 ?_ ⟨by omega, by omega⟩
  refine jk_istore C rd_Law_law_1398 (by decide) (lv' := [(6, jk_V bb), (5, jk_V t), (0, .ref b), (1, .ref (ad 0)), (2, .ref (am 0)), (3, .ref o), (4, jk_V i)]) rfl ?_
  refine jk_aload_n C rd_Law_law_1400 (k := 4) rfl ?_
  refine jk_callVi C2 hZ.1 hz hT tm_1336 tm_1337 tm_1338 tm_15 tm_1339 na_Md_thrown ⟨Nat.le_of_ble_eq_true rfl, Nat.le_of_ble_eq_true rfl⟩ rfl (List.range 155) (lw_pl LW_len) nd155 LW_fst (lw_put LW_len LW_len) 145 11 (lw_hd LW_len LW_m _) rfl rfl (st := []) rfl (Nat.le_of_ble_eq_true rfl) rd_Law_law_1401 ?_ ⟨by omega, by omega⟩
  refine jk_iload C rd_Law_law_1404 (k := 1) rfl ?_
  refine jk_icmp_same (tgt := 1411) C rd_Law_law_1406 (by decide) ?_
  refine jk_iload C rd_Law_law_1411 (k := 1) rfl ?_
  by_cases h0 : t = 0
  · refine jk_if_ne (a := some ()) (b := (none : Option Unit)) (o := ()) (tgt := 1428) C rd_Law_law_1413 (by decide) (by unfold jk_eqs; rw [if_pos ⟨htR, jk_R0⟩, if_pos h0]) (fun h _ => absurd h0 h) (fun _ _ => ?_)
    refine jk_aload_n C rd_Law_law_1416 (k := 5) rfl ?_
    refine jk_iconst C rd_Law_law_1417 ?_
    refine jk_lald C 155 2 (lw_at LW_len _) rfl rd_Law_law_1418 ?_
    refine jk_iload C rd_Law_law_1419 (k := 0) rfl ?_
    refine jk_i2l C rd_Law_law_1421 ?_
    refine jk_lcmp C (ht h0) rd_Law_law_1422 ?_
    refine jk_if_eq (a := some ()) (b := (none : Option Unit)) (o := ()) (tgt := 1428) C rd_Law_law_1423 (by decide) (by decide +kernel) (fun _ _ => ?_) (fun h _ => absurd rfl h)
    refine jk_goto (tgt := 2784) C rd_Law_law_1428 (by decide) ?_
    refine jk_lv (lv' := [(0, .ref b), (1, .ref (ad 0)), (2, .ref (am 0)), (3, .ref o), (4, jk_V i)]) [2, 3, 4, 5, 6] rfl ?_
    exact jk_widen (by omega) (by omega) kk
  · refine jk_if_ne (a := (none : Option Unit)) (b := some ()) (o := ()) (tgt := 1428) C rd_Law_law_1413 (by decide) (by unfold jk_eqs; rw [if_pos ⟨htR, jk_R0⟩, if_neg h0]) (fun _ _ => ?_) (fun h _ => absurd h h0)
    refine jk_goto (tgt := 2784) C rd_Law_law_1428 (by decide) ?_
    refine jk_lv (lv' := [(0, .ref b), (1, .ref (ad 0)), (2, .ref (am 0)), (3, .ref o), (4, jk_V i)]) [2, 3, 4, 5, 6] rfl ?_
    exact jk_widen (by omega) (by omega) kk

set_option maxHeartbeats 4000000 in
set_option maxRecDepth 20000 in
theorem lc_28 {p : Program} {l : Launch} {e : Env} {s : State} {m : MethodId} {args : Array Value} {below : List Frame} {meth : Method} {c : Code} {cells slots : Nat} {Q : State → Prop} {D : va_G} {A : Nat → Prop} {ret : Option FieldType} {Z : (Nat → Prop) → State → Heap → Prop} {sq : Nat → Nat} {cI cR cL : ClassId} {g : Nat → Option Nat} {ad am : Nat → Nat} {b o L : Nat} {xs : Nat → Int32} {i : Int} (C : jk_C p s m args meth c mb_Law_law "KnotReaderLaw" 9 jk_WA D jk_cl (jk_t3 cI cR cL) A ret) (hZ : jk_ZK Z sq) (hz : Z A s s.heap) (hcs : cells + 20 ≤ room_1.cells ∧ slots + 120 ≤ room_1.slots) (hX : va_X b L xs s s.heap) (hbl : b < s.heap.size) (hbA : ¬ A b) (hL : L ≤ 3072) (hi : 0 ≤ i ∧ i + 6 ≤ (L : Int)) {σ σ1 σ2 σ3 : jk_LS} {f f1 : Nat → Int64} {t bb : Int} (htR : jk_R t) (ht : t = 0 → f1 0 = (jk_I bb).toInt64) (hA : jk_ME l D jk_cl (jk_t3 cI cR cL) Z mn_Law_firstPendant (.codeWith mn_Law_firstPendant mb_Law_firstPendant 4 (some .int) [(0, 9, 12, 13)] :: jk_WA) (jk_rx 8 1 6 143) [.ref (ad 0), jk_V (xs (i + 1).toNat).toInt, .ref o] (LW cI cR g ad am σ ++ [(o, .inl (cL, 1, .inr (.inl f)))]) (LW cI cR g ad am σ1 ++ [(o, .inl (cL, 1, .inr (.inl f1)))]) t 1 6) (hB : jk_MI l D jk_cl (jk_ty cI cR) Z mn_Md_firstPendant (.code mn_Md_firstPendant mb_Md_firstPendant 2 (some .int) :: jk_WA) (jk_rm 5 108) [.ref (am 0), jk_V (xs (i + 1).toNat).toInt] (LW cI cR g ad am σ1) (LW cI cR g ad am σ2) bb) (hT : jk_MI l D jk_cl (jk_ty cI cR) Z mn_Md_thrown (.code mn_Md_thrown mb_Md_thrown 1 (some .int) :: jk_WA) (jk_rm 0 0) [.ref (am 0)] (LW cI cR g ad am σ2) (LW cI cR g ad am σ3) t) (kk : jk_J p l e room_1 s m args below meth c (cells + 20) (slots + 120) Q D jk_cl A 9 (LW cI cR g ad am σ3 ++ [(o, .inl (cL, 1, .inr (.inl f1)))]) [(0, .ref b), (1, .ref (ad 0)), (2, .ref (am 0)), (3, .ref o), (4, jk_V i)] 2784 []) : jk_J p l e room_1 s m args below meth c (cells) (slots) Q D jk_cl A 9 (LW cI cR g ad am σ ++ [(o, .inl (cL, 1, .inr (.inl f)))]) [(0, .ref b), (1, .ref (ad 0)), (2, .ref (am 0)), (3, .ref o), (4, jk_V i)] 1431 [] := by
  have C2 := jk_Csub C [0, 1] rfl (tys' := jk_ty cI cR)
  refine jk_aload_n C rd_Law_law_1431 (k := 1) rfl ?_
  refine jk_aload_n C rd_Law_law_1432 (k := 0) rfl ?_
  refine jk_iload C rd_Law_law_1433 (k := 4) rfl ?_
  refine jk_iconst C rd_Law_law_1435 ?_
  refine jk_iadd C rd_Law_law_1436 ?_
  refine jk_sld C hX hbl hbA (by omega) (by omega) hL rd_Law_law_1437 ?_
  refine jk_aload_n C rd_Law_law_1438 (k := 3) rfl ?_
  refine jk_callSW C hZ.1 hz hA tm_1028 tm_1029 tm_0 tm_1030 na_Law_firstPendant ⟨Nat.le_of_ble_eq_true rfl, Nat.le_of_ble_eq_true rfl⟩ rfl (List.range 156) (lw_pq1 LW_len) nd156 (lw_fs1 LW_fst) (lw_pt1 LW_len LW_len) (st := []) rfl (Nat.le_of_ble_eq_true rfl) rd_Law_law_1439 ⟨by omega, by omega⟩ ?_
  refine jk_istore C rd_Law_law_1442 (by decide) (lv' := [(5, jk_V t), (0, .ref b), (1, .ref (ad 0)), (2, .ref (am 0)), (3, .ref o), (4, jk_V i)]) rfl ?_
  refine jk_aload_n C rd_Law_law_1444 (k := 3) rfl ?_
  refine jk_aload_n C rd_Law_law_1445 (k := 1) rfl ?_
  refine jk_iload C rd_Law_law_1446 (k := 5) rfl ?_
  refine jk_iconst C rd_Law_law_1448 ?_
  refine jk_iadd C rd_Law_law_1449 ?_
  refine jk_sld C hX hbl hbA (by omega) (by omega) hL rd_Law_law_1450 ?_
  refine jk_callVi C2 hZ.1 hz hB tm_1711 tm_1712 tm_1713 tm_15 tm_1714 na_Md_firstPendant ⟨Nat.le_of_ble_eq_true rfl, Nat.le_of_ble_eq_true rfl⟩ rfl (List.range 155) (lw_pl LW_len) nd155 LW_fst (lw_put LW_len LW_len) 145 11 (lw_hd LW_len LW_m _) rfl rfl (st := []) rfl (Nat.le_of_ble_eq_true rfl) rd_Law_law_1451 ?_ ⟨by omega, by omega⟩
  refine jk_istore C rd_Law_law_1454 (by decide) (lv' := [(6, jk_V bb), (5, jk_V t), (0, .ref b), (1, .ref (ad 0)), (2, .ref (am 0)), (3, .ref o), (4, jk_V i)]) rfl ?_
  refine jk_aload_n C rd_Law_law_1456 (k := 4) rfl ?_
  refine jk_callVi C2 hZ.1 hz hT tm_1336 tm_1337 tm_1338 tm_15 tm_1339 na_Md_thrown ⟨Nat.le_of_ble_eq_true rfl, Nat.le_of_ble_eq_true rfl⟩ rfl (List.range 155) (lw_pl LW_len) nd155 LW_fst (lw_put LW_len LW_len) 145 11 (lw_hd LW_len LW_m _) rfl rfl (st := []) rfl (Nat.le_of_ble_eq_true rfl) rd_Law_law_1457 ?_ ⟨by omega, by omega⟩
  refine jk_iload C rd_Law_law_1460 (k := 1) rfl ?_
  refine jk_icmp_same (tgt := 1467) C rd_Law_law_1462 (by decide) ?_
  refine jk_iload C rd_Law_law_1467 (k := 1) rfl ?_
  by_cases h0 : t = 0
  · refine jk_if_ne (a := some ()) (b := (none : Option Unit)) (o := ()) (tgt := 1484) C rd_Law_law_1469 (by decide) (by unfold jk_eqs; rw [if_pos ⟨htR, jk_R0⟩, if_pos h0]) (fun h _ => absurd h0 h) (fun _ _ => ?_)
    refine jk_aload_n C rd_Law_law_1472 (k := 5) rfl ?_
    refine jk_iconst C rd_Law_law_1473 ?_
    refine jk_lald C 155 2 (lw_at LW_len _) rfl rd_Law_law_1474 ?_
    refine jk_iload C rd_Law_law_1475 (k := 0) rfl ?_
    refine jk_i2l C rd_Law_law_1477 ?_
    refine jk_lcmp C (ht h0) rd_Law_law_1478 ?_
    refine jk_if_eq (a := some ()) (b := (none : Option Unit)) (o := ()) (tgt := 1484) C rd_Law_law_1479 (by decide) (by decide +kernel) (fun _ _ => ?_) (fun h _ => absurd rfl h)
    refine jk_goto (tgt := 2784) C rd_Law_law_1484 (by decide) ?_
    refine jk_lv (lv' := [(0, .ref b), (1, .ref (ad 0)), (2, .ref (am 0)), (3, .ref o), (4, jk_V i)]) [2, 3, 4, 5, 6] rfl ?_
    exact jk_widen (by omega) (by omega) kk
  · refine jk_if_ne (a := (none : Option Unit)) (b := some ()) (o := ()) (tgt := 1484) C rd_Law_law_1469 (by decide) (by unfold jk_eqs; rw [if_pos ⟨htR, jk_R0⟩, if_neg h0]) (fun _ _ => ?_) (fun h _ => absurd h h0)
    refine jk_goto (tgt := 2784) C rd_Law_law_1484 (by decide) ?_
    refine jk_lv (lv' := [(0, .ref b), (1, .ref (ad 0)), (2, .ref (am 0)), (3, .ref o), (4, jk_V i)]) [2, 3, 4, 5, 6] rfl ?_
    exact jk_widen (by omega) (by omega) kk

set_option maxHeartbeats 4000000 in
set_option maxRecDepth 20000 in
theorem lc_29 {p : Program} {l : Launch} {e : Env} {s : State} {m : MethodId} {args : Array Value} {below : List Frame} {meth : Method} {c : Code} {cells slots : Nat} {Q : State → Prop} {D : va_G} {A : Nat → Prop} {ret : Option FieldType} {Z : (Nat → Prop) → State → Heap → Prop} {sq : Nat → Nat} {cI cR cL : ClassId} {g : Nat → Option Nat} {ad am : Nat → Nat} {b o L : Nat} {xs : Nat → Int32} {i : Int} (C : jk_C p s m args meth c mb_Law_law "KnotReaderLaw" 9 jk_WA D jk_cl (jk_t3 cI cR cL) A ret) (hZ : jk_ZK Z sq) (hz : Z A s s.heap) (hcs : cells + 20 ≤ room_1.cells ∧ slots + 120 ≤ room_1.slots) (hX : va_X b L xs s s.heap) (hbl : b < s.heap.size) (hbA : ¬ A b) (hL : L ≤ 3072) (hi : 0 ≤ i ∧ i + 6 ≤ (L : Int)) {σ σ1 σ2 σ3 : jk_LS} {f f1 : Nat → Int64} {t bb : Int} (htR : jk_R t) (ht : t = 0 → f1 0 = (jk_I bb).toInt64) (hA : jk_ME l D jk_cl (jk_t3 cI cR cL) Z mn_Law_stateOf (.codeWith mn_Law_stateOf mb_Law_stateOf 4 (some .int) [(0, 9, 12, 13)] :: jk_WA) (jk_rx 8 1 6 142) [.ref (ad 0), jk_V (xs (i + 1).toNat).toInt, .ref o] (LW cI cR g ad am σ ++ [(o, .inl (cL, 1, .inr (.inl f)))]) (LW cI cR g ad am σ1 ++ [(o, .inl (cL, 1, .inr (.inl f1)))]) t 1 6) (hB : jk_MI l D jk_cl (jk_ty cI cR) Z mn_Md_stateOf (.code mn_Md_stateOf mb_Md_stateOf 2 (some .int) :: jk_WA) (jk_rm 7 152) [.ref (am 0), jk_V (xs (i + 1).toNat).toInt] (LW cI cR g ad am σ1) (LW cI cR g ad am σ2) bb) (hT : jk_MI l D jk_cl (jk_ty cI cR) Z mn_Md_thrown (.code mn_Md_thrown mb_Md_thrown 1 (some .int) :: jk_WA) (jk_rm 0 0) [.ref (am 0)] (LW cI cR g ad am σ2) (LW cI cR g ad am σ3) t) (kk : jk_J p l e room_1 s m args below meth c (cells + 20) (slots + 120) Q D jk_cl A 9 (LW cI cR g ad am σ3 ++ [(o, .inl (cL, 1, .inr (.inl f1)))]) [(0, .ref b), (1, .ref (ad 0)), (2, .ref (am 0)), (3, .ref o), (4, jk_V i)] 2784 []) : jk_J p l e room_1 s m args below meth c (cells) (slots) Q D jk_cl A 9 (LW cI cR g ad am σ ++ [(o, .inl (cL, 1, .inr (.inl f)))]) [(0, .ref b), (1, .ref (ad 0)), (2, .ref (am 0)), (3, .ref o), (4, jk_V i)] 1487 [] := by
  have C2 := jk_Csub C [0, 1] rfl (tys' := jk_ty cI cR)
  refine jk_aload_n C rd_Law_law_1487 (k := 1) rfl ?_
  refine jk_aload_n C rd_Law_law_1488 (k := 0) rfl ?_
  refine jk_iload C rd_Law_law_1489 (k := 4) rfl ?_
  refine jk_iconst C rd_Law_law_1491 ?_
  refine jk_iadd C rd_Law_law_1492 ?_
  refine jk_sld C hX hbl hbA (by omega) (by omega) hL rd_Law_law_1493 ?_
  refine jk_aload_n C rd_Law_law_1494 (k := 3) rfl ?_
  refine jk_callSW C hZ.1 hz hA tm_1036 tm_1037 tm_0 tm_1038 na_Law_stateOf ⟨Nat.le_of_ble_eq_true rfl, Nat.le_of_ble_eq_true rfl⟩ rfl (List.range 156) (lw_pq1 LW_len) nd156 (lw_fs1 LW_fst) (lw_pt1 LW_len LW_len) (st := []) rfl (Nat.le_of_ble_eq_true rfl) rd_Law_law_1495 ⟨by omega, by omega⟩ ?_
  refine jk_istore C rd_Law_law_1498 (by decide) (lv' := [(5, jk_V t), (0, .ref b), (1, .ref (ad 0)), (2, .ref (am 0)), (3, .ref o), (4, jk_V i)]) rfl ?_
  refine jk_aload_n C rd_Law_law_1500 (k := 3) rfl ?_
  refine jk_aload_n C rd_Law_law_1501 (k := 1) rfl ?_
  refine jk_iload C rd_Law_law_1502 (k := 5) rfl ?_
  refine jk_iconst C rd_Law_law_1504 ?_
  refine jk_iadd C rd_Law_law_1505 ?_
  refine jk_sld C hX hbl hbA (by omega) (by omega) hL rd_Law_law_1506 ?_
  refine jk_callVi C2 hZ.1 hz hB tm_1715 tm_1716 tm_1717 tm_15 tm_1718 na_Md_stateOf ⟨Nat.le_of_ble_eq_true rfl, Nat.le_of_ble_eq_true rfl⟩ rfl (List.range 155) (lw_pl LW_len) nd155 LW_fst (lw_put LW_len LW_len) 145 11 (lw_hd LW_len LW_m _) rfl rfl (st := []) rfl (Nat.le_of_ble_eq_true rfl) rd_Law_law_1507 ?_ ⟨by omega, by omega⟩
  refine jk_istore C rd_Law_law_1510 (by decide) (lv' := [(6, jk_V bb), (5, jk_V t), (0, .ref b), (1, .ref (ad 0)), (2, .ref (am 0)), (3, .ref o), (4, jk_V i)]) rfl ?_
  refine jk_aload_n C rd_Law_law_1512 (k := 4) rfl ?_
  refine jk_callVi C2 hZ.1 hz hT tm_1336 tm_1337 tm_1338 tm_15 tm_1339 na_Md_thrown ⟨Nat.le_of_ble_eq_true rfl, Nat.le_of_ble_eq_true rfl⟩ rfl (List.range 155) (lw_pl LW_len) nd155 LW_fst (lw_put LW_len LW_len) 145 11 (lw_hd LW_len LW_m _) rfl rfl (st := []) rfl (Nat.le_of_ble_eq_true rfl) rd_Law_law_1513 ?_ ⟨by omega, by omega⟩
  refine jk_iload C rd_Law_law_1516 (k := 1) rfl ?_
  refine jk_icmp_same (tgt := 1523) C rd_Law_law_1518 (by decide) ?_
  refine jk_iload C rd_Law_law_1523 (k := 1) rfl ?_
  by_cases h0 : t = 0
  · refine jk_if_ne (a := some ()) (b := (none : Option Unit)) (o := ()) (tgt := 1540) C rd_Law_law_1525 (by decide) (by unfold jk_eqs; rw [if_pos ⟨htR, jk_R0⟩, if_pos h0]) (fun h _ => absurd h0 h) (fun _ _ => ?_)
    refine jk_aload_n C rd_Law_law_1528 (k := 5) rfl ?_
    refine jk_iconst C rd_Law_law_1529 ?_
    refine jk_lald C 155 2 (lw_at LW_len _) rfl rd_Law_law_1530 ?_
    refine jk_iload C rd_Law_law_1531 (k := 0) rfl ?_
    refine jk_i2l C rd_Law_law_1533 ?_
    refine jk_lcmp C (ht h0) rd_Law_law_1534 ?_
    refine jk_if_eq (a := some ()) (b := (none : Option Unit)) (o := ()) (tgt := 1540) C rd_Law_law_1535 (by decide) (by decide +kernel) (fun _ _ => ?_) (fun h _ => absurd rfl h)
    refine jk_goto (tgt := 2784) C rd_Law_law_1540 (by decide) ?_
    refine jk_lv (lv' := [(0, .ref b), (1, .ref (ad 0)), (2, .ref (am 0)), (3, .ref o), (4, jk_V i)]) [2, 3, 4, 5, 6] rfl ?_
    exact jk_widen (by omega) (by omega) kk
  · refine jk_if_ne (a := (none : Option Unit)) (b := some ()) (o := ()) (tgt := 1540) C rd_Law_law_1525 (by decide) (by unfold jk_eqs; rw [if_pos ⟨htR, jk_R0⟩, if_neg h0]) (fun _ _ => ?_) (fun h _ => absurd h h0)
    refine jk_goto (tgt := 2784) C rd_Law_law_1540 (by decide) ?_
    refine jk_lv (lv' := [(0, .ref b), (1, .ref (ad 0)), (2, .ref (am 0)), (3, .ref o), (4, jk_V i)]) [2, 3, 4, 5, 6] rfl ?_
    exact jk_widen (by omega) (by omega) kk

set_option maxHeartbeats 4000000 in
set_option maxRecDepth 20000 in
theorem lc_30 {p : Program} {l : Launch} {e : Env} {s : State} {m : MethodId} {args : Array Value} {below : List Frame} {meth : Method} {c : Code} {cells slots : Nat} {Q : State → Prop} {D : va_G} {A : Nat → Prop} {ret : Option FieldType} {Z : (Nat → Prop) → State → Heap → Prop} {sq : Nat → Nat} {cI cR cL : ClassId} {g : Nat → Option Nat} {ad am : Nat → Nat} {b o L : Nat} {xs : Nat → Int32} {i : Int} (C : jk_C p s m args meth c mb_Law_law "KnotReaderLaw" 9 jk_WA D jk_cl (jk_t3 cI cR cL) A ret) (hZ : jk_ZK Z sq) (hz : Z A s s.heap) (hcs : cells + 20 ≤ room_1.cells ∧ slots + 120 ≤ room_1.slots) (hX : va_X b L xs s s.heap) (hbl : b < s.heap.size) (hbA : ¬ A b) (hL : L ≤ 3072) (hi : 0 ≤ i ∧ i + 6 ≤ (L : Int)) {σ σ1 σ2 σ3 : jk_LS} {f f1 : Nat → Int64} {t bb : Int} (htR : jk_R t) (ht : t = 0 → f1 0 = (jk_I bb).toInt64) (hA : jk_ME l D jk_cl (jk_t3 cI cR cL) Z mn_Law_guessObstacle (.codeWith mn_Law_guessObstacle mb_Law_guessObstacle 4 (some .int) [(0, 9, 12, 13)] :: jk_WA) (jk_rx 8 1 6 142) [.ref (ad 0), jk_V (xs (i + 1).toNat).toInt, .ref o] (LW cI cR g ad am σ ++ [(o, .inl (cL, 1, .inr (.inl f)))]) (LW cI cR g ad am σ1 ++ [(o, .inl (cL, 1, .inr (.inl f1)))]) t 1 6) (hB : jk_MI l D jk_cl (jk_ty cI cR) Z mn_Md_guessObstacle (.code mn_Md_guessObstacle mb_Md_guessObstacle 2 (some .int) :: jk_WA) (jk_rm 9 199) [.ref (am 0), jk_V (xs (i + 1).toNat).toInt] (LW cI cR g ad am σ1) (LW cI cR g ad am σ2) bb) (hT : jk_MI l D jk_cl (jk_ty cI cR) Z mn_Md_thrown (.code mn_Md_thrown mb_Md_thrown 1 (some .int) :: jk_WA) (jk_rm 0 0) [.ref (am 0)] (LW cI cR g ad am σ2) (LW cI cR g ad am σ3) t) (kk : jk_J p l e room_1 s m args below meth c (cells + 20) (slots + 120) Q D jk_cl A 9 (LW cI cR g ad am σ3 ++ [(o, .inl (cL, 1, .inr (.inl f1)))]) [(0, .ref b), (1, .ref (ad 0)), (2, .ref (am 0)), (3, .ref o), (4, jk_V i)] 2784 []) : jk_J p l e room_1 s m args below meth c (cells) (slots) Q D jk_cl A 9 (LW cI cR g ad am σ ++ [(o, .inl (cL, 1, .inr (.inl f)))]) [(0, .ref b), (1, .ref (ad 0)), (2, .ref (am 0)), (3, .ref o), (4, jk_V i)] 1543 [] := by
  have C2 := jk_Csub C [0, 1] rfl (tys' := jk_ty cI cR)
  refine jk_aload_n C rd_Law_law_1543 (k := 1) rfl ?_
  refine jk_aload_n C rd_Law_law_1544 (k := 0) rfl ?_
  refine jk_iload C rd_Law_law_1545 (k := 4) rfl ?_
  refine jk_iconst C rd_Law_law_1547 ?_
  refine jk_iadd C rd_Law_law_1548 ?_
  refine jk_sld C hX hbl hbA (by omega) (by omega) hL rd_Law_law_1549 ?_
  refine jk_aload_n C rd_Law_law_1550 (k := 3) rfl ?_
  refine jk_callSW C hZ.1 hz hA tm_1043 tm_1044 tm_0 tm_1045 na_Law_guessObstacle ⟨Nat.le_of_ble_eq_true rfl, Nat.le_of_ble_eq_true rfl⟩ rfl (List.range 156) (lw_pq1 LW_len) nd156 (lw_fs1 LW_fst) (lw_pt1 LW_len LW_len) (st := []) rfl (Nat.le_of_ble_eq_true rfl) rd_Law_law_1551 ⟨by omega, by omega⟩ ?_
  refine jk_istore C rd_Law_law_1554 (by decide) (lv' := [(5, jk_V t), (0, .ref b), (1, .ref (ad 0)), (2, .ref (am 0)), (3, .ref o), (4, jk_V i)]) rfl ?_
  refine jk_aload_n C rd_Law_law_1556 (k := 3) rfl ?_
  refine jk_aload_n C rd_Law_law_1557 (k := 1) rfl ?_
  refine jk_iload C rd_Law_law_1558 (k := 5) rfl ?_
  refine jk_iconst C rd_Law_law_1560 ?_
  refine jk_iadd C rd_Law_law_1561 ?_
  refine jk_sld C hX hbl hbA (by omega) (by omega) hL rd_Law_law_1562 ?_
  refine jk_callVi C2 hZ.1 hz hB tm_1723 tm_1724 tm_1725 tm_15 tm_1726 na_Md_guessObstacle ⟨Nat.le_of_ble_eq_true rfl, Nat.le_of_ble_eq_true rfl⟩ rfl (List.range 155) (lw_pl LW_len) nd155 LW_fst (lw_put LW_len LW_len) 145 11 (lw_hd LW_len LW_m _) rfl rfl (st := []) rfl (Nat.le_of_ble_eq_true rfl) rd_Law_law_1563 ?_ ⟨by omega, by omega⟩
  refine jk_istore C rd_Law_law_1566 (by decide) (lv' := [(6, jk_V bb), (5, jk_V t), (0, .ref b), (1, .ref (ad 0)), (2, .ref (am 0)), (3, .ref o), (4, jk_V i)]) rfl ?_
  refine jk_aload_n C rd_Law_law_1568 (k := 4) rfl ?_
  refine jk_callVi C2 hZ.1 hz hT tm_1336 tm_1337 tm_1338 tm_15 tm_1339 na_Md_thrown ⟨Nat.le_of_ble_eq_true rfl, Nat.le_of_ble_eq_true rfl⟩ rfl (List.range 155) (lw_pl LW_len) nd155 LW_fst (lw_put LW_len LW_len) 145 11 (lw_hd LW_len LW_m _) rfl rfl (st := []) rfl (Nat.le_of_ble_eq_true rfl) rd_Law_law_1569 ?_ ⟨by omega, by omega⟩
  refine jk_iload C rd_Law_law_1572 (k := 1) rfl ?_
  refine jk_icmp_same (tgt := 1579) C rd_Law_law_1574 (by decide) ?_
  refine jk_iload C rd_Law_law_1579 (k := 1) rfl ?_
  by_cases h0 : t = 0
  · refine jk_if_ne (a := some ()) (b := (none : Option Unit)) (o := ()) (tgt := 1596) C rd_Law_law_1581 (by decide) (by unfold jk_eqs; rw [if_pos ⟨htR, jk_R0⟩, if_pos h0]) (fun h _ => absurd h0 h) (fun _ _ => ?_)
    refine jk_aload_n C rd_Law_law_1584 (k := 5) rfl ?_
    refine jk_iconst C rd_Law_law_1585 ?_
    refine jk_lald C 155 2 (lw_at LW_len _) rfl rd_Law_law_1586 ?_
    refine jk_iload C rd_Law_law_1587 (k := 0) rfl ?_
    refine jk_i2l C rd_Law_law_1589 ?_
    refine jk_lcmp C (ht h0) rd_Law_law_1590 ?_
    refine jk_if_eq (a := some ()) (b := (none : Option Unit)) (o := ()) (tgt := 1596) C rd_Law_law_1591 (by decide) (by decide +kernel) (fun _ _ => ?_) (fun h _ => absurd rfl h)
    refine jk_goto (tgt := 2784) C rd_Law_law_1596 (by decide) ?_
    refine jk_lv (lv' := [(0, .ref b), (1, .ref (ad 0)), (2, .ref (am 0)), (3, .ref o), (4, jk_V i)]) [2, 3, 4, 5, 6] rfl ?_
    exact jk_widen (by omega) (by omega) kk
  · refine jk_if_ne (a := (none : Option Unit)) (b := some ()) (o := ()) (tgt := 1596) C rd_Law_law_1581 (by decide) (by unfold jk_eqs; rw [if_pos ⟨htR, jk_R0⟩, if_neg h0]) (fun _ _ => ?_) (fun h _ => absurd h h0)
    refine jk_goto (tgt := 2784) C rd_Law_law_1596 (by decide) ?_
    refine jk_lv (lv' := [(0, .ref b), (1, .ref (ad 0)), (2, .ref (am 0)), (3, .ref o), (4, jk_V i)]) [2, 3, 4, 5, 6] rfl ?_
    exact jk_widen (by omega) (by omega) kk

set_option maxHeartbeats 4000000 in
set_option maxRecDepth 20000 in
theorem lc_31 {p : Program} {l : Launch} {e : Env} {s : State} {m : MethodId} {args : Array Value} {below : List Frame} {meth : Method} {c : Code} {cells slots : Nat} {Q : State → Prop} {D : va_G} {A : Nat → Prop} {ret : Option FieldType} {Z : (Nat → Prop) → State → Heap → Prop} {sq : Nat → Nat} {cI cR cL : ClassId} {g : Nat → Option Nat} {ad am : Nat → Nat} {b o L : Nat} {xs : Nat → Int32} {i : Int} (C : jk_C p s m args meth c mb_Law_law "KnotReaderLaw" 9 jk_WA D jk_cl (jk_t3 cI cR cL) A ret) (hZ : jk_ZK Z sq) (hz : Z A s s.heap) (hcs : cells + 20 ≤ room_1.cells ∧ slots + 120 ≤ room_1.slots) (hX : va_X b L xs s s.heap) (hbl : b < s.heap.size) (hbA : ¬ A b) (hL : L ≤ 3072) (hi : 0 ≤ i ∧ i + 6 ≤ (L : Int)) {σ σ1 σ2 σ3 : jk_LS} {f f1 : Nat → Int64} {t bb : Int} (htR : jk_R t) (ht : t = 0 → f1 0 = (jk_I bb).toInt64) (hA : jk_ME l D jk_cl (jk_t3 cI cR cL) Z mn_Law_sumOf (.codeWith mn_Law_sumOf mb_Law_sumOf 4 (some .int) [(0, 9, 12, 13), (0, 9, 15, 55)] :: jk_WA) (jk_rx 8 2 12 142) [.ref (ad 0), jk_V (xs (i + 1).toNat).toInt, .ref o] (LW cI cR g ad am σ ++ [(o, .inl (cL, 1, .inr (.inl f)))]) (LW cI cR g ad am σ1 ++ [(o, .inl (cL, 1, .inr (.inl f1)))]) t 2 12) (hB : jk_MI l D jk_cl (jk_ty cI cR) Z mn_Md_sumOf (.code mn_Md_sumOf mb_Md_sumOf 2 (some .int) :: jk_WA) (jk_rm 6 131) [.ref (am 0), jk_V (xs (i + 1).toNat).toInt] (LW cI cR g ad am σ1) (LW cI cR g ad am σ2) bb) (hT : jk_MI l D jk_cl (jk_ty cI cR) Z mn_Md_thrown (.code mn_Md_thrown mb_Md_thrown 1 (some .int) :: jk_WA) (jk_rm 0 0) [.ref (am 0)] (LW cI cR g ad am σ2) (LW cI cR g ad am σ3) t) (kk : jk_J p l e room_1 s m args below meth c (cells + 20) (slots + 120) Q D jk_cl A 9 (LW cI cR g ad am σ3 ++ [(o, .inl (cL, 1, .inr (.inl f1)))]) [(0, .ref b), (1, .ref (ad 0)), (2, .ref (am 0)), (3, .ref o), (4, jk_V i)] 2784 []) : jk_J p l e room_1 s m args below meth c (cells) (slots) Q D jk_cl A 9 (LW cI cR g ad am σ ++ [(o, .inl (cL, 1, .inr (.inl f)))]) [(0, .ref b), (1, .ref (ad 0)), (2, .ref (am 0)), (3, .ref o), (4, jk_V i)] 1599 [] := by
  have C2 := jk_Csub C [0, 1] rfl (tys' := jk_ty cI cR)
  refine jk_aload_n C rd_Law_law_1599 (k := 1) rfl ?_
  refine jk_aload_n C rd_Law_law_1600 (k := 0) rfl ?_
  refine jk_iload C rd_Law_law_1601 (k := 4) rfl ?_
  refine jk_iconst C rd_Law_law_1603 ?_
  refine jk_iadd C rd_Law_law_1604 ?_
  refine jk_sld C hX hbl hbA (by omega) (by omega) hL rd_Law_law_1605 ?_
  refine jk_aload_n C rd_Law_law_1606 (k := 3) rfl ?_
  refine jk_callSW C hZ.1 hz hA tm_1050 tm_1051 tm_0 tm_1052 na_Law_sumOf ⟨Nat.le_of_ble_eq_true rfl, Nat.le_of_ble_eq_true rfl⟩ rfl (List.range 156) (lw_pq1 LW_len) nd156 (lw_fs1 LW_fst) (lw_pt1 LW_len LW_len) (st := []) rfl (Nat.le_of_ble_eq_true rfl) rd_Law_law_1607 ⟨by omega, by omega⟩ ?_
  refine jk_istore C rd_Law_law_1610 (by decide) (lv' := [(5, jk_V t), (0, .ref b), (1, .ref (ad 0)), (2, .ref (am 0)), (3, .ref o), (4, jk_V i)]) rfl ?_
  refine jk_aload_n C rd_Law_law_1612 (k := 3) rfl ?_
  refine jk_aload_n C rd_Law_law_1613 (k := 1) rfl ?_
  refine jk_iload C rd_Law_law_1614 (k := 5) rfl ?_
  refine jk_iconst C rd_Law_law_1616 ?_
  refine jk_iadd C rd_Law_law_1617 ?_
  refine jk_sld C hX hbl hbA (by omega) (by omega) hL rd_Law_law_1618 ?_
  refine jk_callVi C2 hZ.1 hz hB tm_1779 tm_1780 tm_1781 tm_15 tm_1782 na_Md_sumOf ⟨Nat.le_of_ble_eq_true rfl, Nat.le_of_ble_eq_true rfl⟩ rfl (List.range 155) (lw_pl LW_len) nd155 LW_fst (lw_put LW_len LW_len) 145 11 (lw_hd LW_len LW_m _) rfl rfl (st := []) rfl (Nat.le_of_ble_eq_true rfl) rd_Law_law_1619 ?_ ⟨by omega, by omega⟩
  refine jk_istore C rd_Law_law_1622 (by decide) (lv' := [(6, jk_V bb), (5, jk_V t), (0, .ref b), (1, .ref (ad 0)), (2, .ref (am 0)), (3, .ref o), (4, jk_V i)]) rfl ?_
  refine jk_aload_n C rd_Law_law_1624 (k := 4) rfl ?_
  refine jk_callVi C2 hZ.1 hz hT tm_1336 tm_1337 tm_1338 tm_15 tm_1339 na_Md_thrown ⟨Nat.le_of_ble_eq_true rfl, Nat.le_of_ble_eq_true rfl⟩ rfl (List.range 155) (lw_pl LW_len) nd155 LW_fst (lw_put LW_len LW_len) 145 11 (lw_hd LW_len LW_m _) rfl rfl (st := []) rfl (Nat.le_of_ble_eq_true rfl) rd_Law_law_1625 ?_ ⟨by omega, by omega⟩
  refine jk_iload C rd_Law_law_1628 (k := 1) rfl ?_
  refine jk_icmp_same (tgt := 1635) C rd_Law_law_1630 (by decide) ?_
  refine jk_iload C rd_Law_law_1635 (k := 1) rfl ?_
  by_cases h0 : t = 0
  · refine jk_if_ne (a := some ()) (b := (none : Option Unit)) (o := ()) (tgt := 1652) C rd_Law_law_1637 (by decide) (by unfold jk_eqs; rw [if_pos ⟨htR, jk_R0⟩, if_pos h0]) (fun h _ => absurd h0 h) (fun _ _ => ?_)
    refine jk_aload_n C rd_Law_law_1640 (k := 5) rfl ?_
    refine jk_iconst C rd_Law_law_1641 ?_
    refine jk_lald C 155 2 (lw_at LW_len _) rfl rd_Law_law_1642 ?_
    refine jk_iload C rd_Law_law_1643 (k := 0) rfl ?_
    refine jk_i2l C rd_Law_law_1645 ?_
    refine jk_lcmp C (ht h0) rd_Law_law_1646 ?_
    refine jk_if_eq (a := some ()) (b := (none : Option Unit)) (o := ()) (tgt := 1652) C rd_Law_law_1647 (by decide) (by decide +kernel) (fun _ _ => ?_) (fun h _ => absurd rfl h)
    refine jk_goto (tgt := 2784) C rd_Law_law_1652 (by decide) ?_
    refine jk_lv (lv' := [(0, .ref b), (1, .ref (ad 0)), (2, .ref (am 0)), (3, .ref o), (4, jk_V i)]) [2, 3, 4, 5, 6] rfl ?_
    exact jk_widen (by omega) (by omega) kk
  · refine jk_if_ne (a := (none : Option Unit)) (b := some ()) (o := ()) (tgt := 1652) C rd_Law_law_1637 (by decide) (by unfold jk_eqs; rw [if_pos ⟨htR, jk_R0⟩, if_neg h0]) (fun _ _ => ?_) (fun h _ => absurd h h0)
    refine jk_goto (tgt := 2784) C rd_Law_law_1652 (by decide) ?_
    refine jk_lv (lv' := [(0, .ref b), (1, .ref (ad 0)), (2, .ref (am 0)), (3, .ref o), (4, jk_V i)]) [2, 3, 4, 5, 6] rfl ?_
    exact jk_widen (by omega) (by omega) kk

set_option maxHeartbeats 4000000 in
set_option maxRecDepth 20000 in
theorem lc_32 {p : Program} {l : Launch} {e : Env} {s : State} {m : MethodId} {args : Array Value} {below : List Frame} {meth : Method} {c : Code} {cells slots : Nat} {Q : State → Prop} {D : va_G} {A : Nat → Prop} {ret : Option FieldType} {Z : (Nat → Prop) → State → Heap → Prop} {sq : Nat → Nat} {cI cR cL : ClassId} {g : Nat → Option Nat} {ad am : Nat → Nat} {b o L : Nat} {xs : Nat → Int32} {i : Int} (C : jk_C p s m args meth c mb_Law_law "KnotReaderLaw" 9 jk_WA D jk_cl (jk_t3 cI cR cL) A ret) (hZ : jk_ZK Z sq) (hz : Z A s s.heap) (hcs : cells + 20 ≤ room_1.cells ∧ slots + 120 ≤ room_1.slots) (hX : va_X b L xs s s.heap) (hbl : b < s.heap.size) (hbA : ¬ A b) (hL : L ≤ 3072) (hi : 0 ≤ i ∧ i + 6 ≤ (L : Int)) {σ σ1 σ2 σ3 : jk_LS} {f f1 : Nat → Int64} {t bb : Int} (htR : jk_R t) (ht : t = 0 → f1 0 = (jk_I bb).toInt64) (hA : jk_ME l D jk_cl (jk_t3 cI cR cL) Z mn_Law_guessIn (.codeWith mn_Law_guessIn mb_Law_guessIn 4 (some .int) [(0, 9, 12, 13), (0, 9, 15, 55)] :: jk_WA) (jk_rx 8 2 12 142) [.ref (ad 0), jk_V (xs (i + 1).toNat).toInt, .ref o] (LW cI cR g ad am σ ++ [(o, .inl (cL, 1, .inr (.inl f)))]) (LW cI cR g ad am σ1 ++ [(o, .inl (cL, 1, .inr (.inl f1)))]) t 2 12) (hB : jk_MI l D jk_cl (jk_ty cI cR) Z mn_Md_guessIn (.code mn_Md_guessIn mb_Md_guessIn 2 (some .int) :: jk_WA) (jk_rm 9 199) [.ref (am 0), jk_V (xs (i + 1).toNat).toInt] (LW cI cR g ad am σ1) (LW cI cR g ad am σ2) bb) (hT : jk_MI l D jk_cl (jk_ty cI cR) Z mn_Md_thrown (.code mn_Md_thrown mb_Md_thrown 1 (some .int) :: jk_WA) (jk_rm 0 0) [.ref (am 0)] (LW cI cR g ad am σ2) (LW cI cR g ad am σ3) t) (kk : jk_J p l e room_1 s m args below meth c (cells + 20) (slots + 120) Q D jk_cl A 9 (LW cI cR g ad am σ3 ++ [(o, .inl (cL, 1, .inr (.inl f1)))]) [(0, .ref b), (1, .ref (ad 0)), (2, .ref (am 0)), (3, .ref o), (4, jk_V i)] 2784 []) : jk_J p l e room_1 s m args below meth c (cells) (slots) Q D jk_cl A 9 (LW cI cR g ad am σ ++ [(o, .inl (cL, 1, .inr (.inl f)))]) [(0, .ref b), (1, .ref (ad 0)), (2, .ref (am 0)), (3, .ref o), (4, jk_V i)] 1655 [] := by
  have C2 := jk_Csub C [0, 1] rfl (tys' := jk_ty cI cR)
  refine jk_aload_n C rd_Law_law_1655 (k := 1) rfl ?_
  refine jk_aload_n C rd_Law_law_1656 (k := 0) rfl ?_
  refine jk_iload C rd_Law_law_1657 (k := 4) rfl ?_
  refine jk_iconst C rd_Law_law_1659 ?_
  refine jk_iadd C rd_Law_law_1660 ?_
  refine jk_sld C hX hbl hbA (by omega) (by omega) hL rd_Law_law_1661 ?_
  refine jk_aload_n C rd_Law_law_1662 (k := 3) rfl ?_
  refine jk_callSW C hZ.1 hz hA tm_1058 tm_1059 tm_0 tm_1060 na_Law_guessIn ⟨Nat.le_of_ble_eq_true rfl, Nat.le_of_ble_eq_true rfl⟩ rfl (List.range 156) (lw_pq1 LW_len) nd156 (lw_fs1 LW_fst) (lw_pt1 LW_len LW_len) (st := []) rfl (Nat.le_of_ble_eq_true rfl) rd_Law_law_1663 ⟨by omega, by omega⟩ ?_
  refine jk_istore C rd_Law_law_1666 (by decide) (lv' := [(5, jk_V t), (0, .ref b), (1, .ref (ad 0)), (2, .ref (am 0)), (3, .ref o), (4, jk_V i)]) rfl ?_
  refine jk_aload_n C rd_Law_law_1668 (k := 3) rfl ?_
  refine jk_aload_n C rd_Law_law_1669 (k := 1) rfl ?_
  refine jk_iload C rd_Law_law_1670 (k := 5) rfl ?_
  refine jk_iconst C rd_Law_law_1672 ?_
  refine jk_iadd C rd_Law_law_1673 ?_
  refine jk_sld C hX hbl hbA (by omega) (by omega) hL rd_Law_law_1674 ?_
  refine jk_callVi C2 hZ.1 hz hB tm_1783 tm_1784 tm_1785 tm_15 tm_1786 na_Md_guessIn ⟨Nat.le_of_ble_eq_true rfl, Nat.le_of_ble_eq_true rfl⟩ rfl (List.range 155) (lw_pl LW_len) nd155 LW_fst (lw_put LW_len LW_len) 145 11 (lw_hd LW_len LW_m _) rfl rfl (st := []) rfl (Nat.le_of_ble_eq_true rfl) rd_Law_law_1675 ?_ ⟨by omega, by omega⟩
  refine jk_istore C rd_Law_law_1678 (by decide) (lv' := [(6, jk_V bb), (5, jk_V t), (0, .ref b), (1, .ref (ad 0)), (2, .ref (am 0)), (3, .ref o), (4, jk_V i)]) rfl ?_
  refine jk_aload_n C rd_Law_law_1680 (k := 4) rfl ?_
  refine jk_callVi C2 hZ.1 hz hT tm_1336 tm_1337 tm_1338 tm_15 tm_1339 na_Md_thrown ⟨Nat.le_of_ble_eq_true rfl, Nat.le_of_ble_eq_true rfl⟩ rfl (List.range 155) (lw_pl LW_len) nd155 LW_fst (lw_put LW_len LW_len) 145 11 (lw_hd LW_len LW_m _) rfl rfl (st := []) rfl (Nat.le_of_ble_eq_true rfl) rd_Law_law_1681 ?_ ⟨by omega, by omega⟩
  refine jk_iload C rd_Law_law_1684 (k := 1) rfl ?_
  refine jk_icmp_same (tgt := 1691) C rd_Law_law_1686 (by decide) ?_
  refine jk_iload C rd_Law_law_1691 (k := 1) rfl ?_
  by_cases h0 : t = 0
  · refine jk_if_ne (a := some ()) (b := (none : Option Unit)) (o := ()) (tgt := 1708) C rd_Law_law_1693 (by decide) (by unfold jk_eqs; rw [if_pos ⟨htR, jk_R0⟩, if_pos h0]) (fun h _ => absurd h0 h) (fun _ _ => ?_)
    refine jk_aload_n C rd_Law_law_1696 (k := 5) rfl ?_
    refine jk_iconst C rd_Law_law_1697 ?_
    refine jk_lald C 155 2 (lw_at LW_len _) rfl rd_Law_law_1698 ?_
    refine jk_iload C rd_Law_law_1699 (k := 0) rfl ?_
    refine jk_i2l C rd_Law_law_1701 ?_
    refine jk_lcmp C (ht h0) rd_Law_law_1702 ?_
    refine jk_if_eq (a := some ()) (b := (none : Option Unit)) (o := ()) (tgt := 1708) C rd_Law_law_1703 (by decide) (by decide +kernel) (fun _ _ => ?_) (fun h _ => absurd rfl h)
    refine jk_goto (tgt := 2784) C rd_Law_law_1708 (by decide) ?_
    refine jk_lv (lv' := [(0, .ref b), (1, .ref (ad 0)), (2, .ref (am 0)), (3, .ref o), (4, jk_V i)]) [2, 3, 4, 5, 6] rfl ?_
    exact jk_widen (by omega) (by omega) kk
  · refine jk_if_ne (a := (none : Option Unit)) (b := some ()) (o := ()) (tgt := 1708) C rd_Law_law_1693 (by decide) (by unfold jk_eqs; rw [if_pos ⟨htR, jk_R0⟩, if_neg h0]) (fun _ _ => ?_) (fun h _ => absurd h h0)
    refine jk_goto (tgt := 2784) C rd_Law_law_1708 (by decide) ?_
    refine jk_lv (lv' := [(0, .ref b), (1, .ref (ad 0)), (2, .ref (am 0)), (3, .ref o), (4, jk_V i)]) [2, 3, 4, 5, 6] rfl ?_
    exact jk_widen (by omega) (by omega) kk

set_option maxHeartbeats 4000000 in
set_option maxRecDepth 20000 in
theorem lc_33 {p : Program} {l : Launch} {e : Env} {s : State} {m : MethodId} {args : Array Value} {below : List Frame} {meth : Method} {c : Code} {cells slots : Nat} {Q : State → Prop} {D : va_G} {A : Nat → Prop} {ret : Option FieldType} {Z : (Nat → Prop) → State → Heap → Prop} {sq : Nat → Nat} {cI cR cL : ClassId} {g : Nat → Option Nat} {ad am : Nat → Nat} {b o L : Nat} {xs : Nat → Int32} {i : Int} (C : jk_C p s m args meth c mb_Law_law "KnotReaderLaw" 9 jk_WA D jk_cl (jk_t3 cI cR cL) A ret) (hZ : jk_ZK Z sq) (hz : Z A s s.heap) (hcs : cells + 20 ≤ room_1.cells ∧ slots + 120 ≤ room_1.slots) (hX : va_X b L xs s s.heap) (hbl : b < s.heap.size) (hbA : ¬ A b) (hL : L ≤ 3072) (hi : 0 ≤ i ∧ i + 6 ≤ (L : Int)) {σ σ1 σ2 σ3 : jk_LS} {f f1 : Nat → Int64} {t bb : Int} (htR : jk_R t) (ht : t = 0 → f1 0 = (jk_I bb).toInt64) (hA : jk_ME l D jk_cl (jk_t3 cI cR cL) Z mn_Law_nibbledCord (.codeWith mn_Law_nibbledCord mb_Law_nibbledCord 4 (some .int) [(0, 9, 12, 13)] :: jk_WA) (jk_rx 8 1 6 142) [.ref (ad 0), jk_V (xs (i + 1).toNat).toInt, .ref o] (LW cI cR g ad am σ ++ [(o, .inl (cL, 1, .inr (.inl f)))]) (LW cI cR g ad am σ1 ++ [(o, .inl (cL, 1, .inr (.inl f1)))]) t 1 6) (hB : jk_MI l D jk_cl (jk_ty cI cR) Z mn_Md_nibbledCord (.code mn_Md_nibbledCord mb_Md_nibbledCord 2 (some .int) :: jk_WA) (jk_rm 5 110) [.ref (am 0), jk_V (xs (i + 1).toNat).toInt] (LW cI cR g ad am σ1) (LW cI cR g ad am σ2) bb) (hT : jk_MI l D jk_cl (jk_ty cI cR) Z mn_Md_thrown (.code mn_Md_thrown mb_Md_thrown 1 (some .int) :: jk_WA) (jk_rm 0 0) [.ref (am 0)] (LW cI cR g ad am σ2) (LW cI cR g ad am σ3) t) (kk : jk_J p l e room_1 s m args below meth c (cells + 20) (slots + 120) Q D jk_cl A 9 (LW cI cR g ad am σ3 ++ [(o, .inl (cL, 1, .inr (.inl f1)))]) [(0, .ref b), (1, .ref (ad 0)), (2, .ref (am 0)), (3, .ref o), (4, jk_V i)] 2784 []) : jk_J p l e room_1 s m args below meth c (cells) (slots) Q D jk_cl A 9 (LW cI cR g ad am σ ++ [(o, .inl (cL, 1, .inr (.inl f)))]) [(0, .ref b), (1, .ref (ad 0)), (2, .ref (am 0)), (3, .ref o), (4, jk_V i)] 1711 [] := by
  have C2 := jk_Csub C [0, 1] rfl (tys' := jk_ty cI cR)
  refine jk_aload_n C rd_Law_law_1711 (k := 1) rfl ?_
  refine jk_aload_n C rd_Law_law_1712 (k := 0) rfl ?_
  refine jk_iload C rd_Law_law_1713 (k := 4) rfl ?_
  refine jk_iconst C rd_Law_law_1715 ?_
  refine jk_iadd C rd_Law_law_1716 ?_
  refine jk_sld C hX hbl hbA (by omega) (by omega) hL rd_Law_law_1717 ?_
  refine jk_aload_n C rd_Law_law_1718 (k := 3) rfl ?_
  refine jk_callSW C hZ.1 hz hA tm_1067 tm_1068 tm_0 tm_1069 na_Law_nibbledCord ⟨Nat.le_of_ble_eq_true rfl, Nat.le_of_ble_eq_true rfl⟩ rfl (List.range 156) (lw_pq1 LW_len) nd156 (lw_fs1 LW_fst) (lw_pt1 LW_len LW_len) (st := []) rfl (Nat.le_of_ble_eq_true rfl) rd_Law_law_1719 ⟨by omega, by omega⟩ ?_
  refine jk_istore C rd_Law_law_1722 (by decide) (lv' := [(5, jk_V t), (0, .ref b), (1, .ref (ad 0)), (2, .ref (am 0)), (3, .ref o), (4, jk_V i)]) rfl ?_
  refine jk_aload_n C rd_Law_law_1724 (k := 3) rfl ?_
  refine jk_aload_n C rd_Law_law_1725 (k := 1) rfl ?_
  refine jk_iload C rd_Law_law_1726 (k := 5) rfl ?_
  refine jk_iconst C rd_Law_law_1728 ?_
  refine jk_iadd C rd_Law_law_1729 ?_
  refine jk_sld C hX hbl hbA (by omega) (by omega) hL rd_Law_law_1730 ?_
  refine jk_callVi C2 hZ.1 hz hB tm_1727 tm_1728 tm_1729 tm_15 tm_1730 na_Md_nibbledCord ⟨Nat.le_of_ble_eq_true rfl, Nat.le_of_ble_eq_true rfl⟩ rfl (List.range 155) (lw_pl LW_len) nd155 LW_fst (lw_put LW_len LW_len) 145 11 (lw_hd LW_len LW_m _) rfl rfl (st := []) rfl (Nat.le_of_ble_eq_true rfl) rd_Law_law_1731 ?_ ⟨by omega, by omega⟩
  refine jk_istore C rd_Law_law_1734 (by decide) (lv' := [(6, jk_V bb), (5, jk_V t), (0, .ref b), (1, .ref (ad 0)), (2, .ref (am 0)), (3, .ref o), (4, jk_V i)]) rfl ?_
  refine jk_aload_n C rd_Law_law_1736 (k := 4) rfl ?_
  refine jk_callVi C2 hZ.1 hz hT tm_1336 tm_1337 tm_1338 tm_15 tm_1339 na_Md_thrown ⟨Nat.le_of_ble_eq_true rfl, Nat.le_of_ble_eq_true rfl⟩ rfl (List.range 155) (lw_pl LW_len) nd155 LW_fst (lw_put LW_len LW_len) 145 11 (lw_hd LW_len LW_m _) rfl rfl (st := []) rfl (Nat.le_of_ble_eq_true rfl) rd_Law_law_1737 ?_ ⟨by omega, by omega⟩
  refine jk_iload C rd_Law_law_1740 (k := 1) rfl ?_
  refine jk_icmp_same (tgt := 1747) C rd_Law_law_1742 (by decide) ?_
  refine jk_iload C rd_Law_law_1747 (k := 1) rfl ?_
  by_cases h0 : t = 0
  · refine jk_if_ne (a := some ()) (b := (none : Option Unit)) (o := ()) (tgt := 1764) C rd_Law_law_1749 (by decide) (by unfold jk_eqs; rw [if_pos ⟨htR, jk_R0⟩, if_pos h0]) (fun h _ => absurd h0 h) (fun _ _ => ?_)
    refine jk_aload_n C rd_Law_law_1752 (k := 5) rfl ?_
    refine jk_iconst C rd_Law_law_1753 ?_
    refine jk_lald C 155 2 (lw_at LW_len _) rfl rd_Law_law_1754 ?_
    refine jk_iload C rd_Law_law_1755 (k := 0) rfl ?_
    refine jk_i2l C rd_Law_law_1757 ?_
    refine jk_lcmp C (ht h0) rd_Law_law_1758 ?_
    refine jk_if_eq (a := some ()) (b := (none : Option Unit)) (o := ()) (tgt := 1764) C rd_Law_law_1759 (by decide) (by decide +kernel) (fun _ _ => ?_) (fun h _ => absurd rfl h)
    refine jk_goto (tgt := 2784) C rd_Law_law_1764 (by decide) ?_
    refine jk_lv (lv' := [(0, .ref b), (1, .ref (ad 0)), (2, .ref (am 0)), (3, .ref o), (4, jk_V i)]) [2, 3, 4, 5, 6] rfl ?_
    exact jk_widen (by omega) (by omega) kk
  · refine jk_if_ne (a := (none : Option Unit)) (b := some ()) (o := ()) (tgt := 1764) C rd_Law_law_1749 (by decide) (by unfold jk_eqs; rw [if_pos ⟨htR, jk_R0⟩, if_neg h0]) (fun _ _ => ?_) (fun h _ => absurd h h0)
    refine jk_goto (tgt := 2784) C rd_Law_law_1764 (by decide) ?_
    refine jk_lv (lv' := [(0, .ref b), (1, .ref (ad 0)), (2, .ref (am 0)), (3, .ref o), (4, jk_V i)]) [2, 3, 4, 5, 6] rfl ?_
    exact jk_widen (by omega) (by omega) kk

set_option maxHeartbeats 4000000 in
set_option maxRecDepth 20000 in
theorem lc_34 {p : Program} {l : Launch} {e : Env} {s : State} {m : MethodId} {args : Array Value} {below : List Frame} {meth : Method} {c : Code} {cells slots : Nat} {Q : State → Prop} {D : va_G} {A : Nat → Prop} {ret : Option FieldType} {Z : (Nat → Prop) → State → Heap → Prop} {sq : Nat → Nat} {cI cR cL : ClassId} {g : Nat → Option Nat} {ad am : Nat → Nat} {b o L : Nat} {xs : Nat → Int32} {i : Int} (C : jk_C p s m args meth c mb_Law_law "KnotReaderLaw" 9 jk_WA D jk_cl (jk_t3 cI cR cL) A ret) (hZ : jk_ZK Z sq) (hz : Z A s s.heap) (hcs : cells + 20 ≤ room_1.cells ∧ slots + 120 ≤ room_1.slots) (hX : va_X b L xs s s.heap) (hbl : b < s.heap.size) (hbA : ¬ A b) (hL : L ≤ 3072) (hi : 0 ≤ i ∧ i + 6 ≤ (L : Int)) {σ σ1 σ2 σ3 : jk_LS} {f f1 : Nat → Int64} {t bb : Int} (htR : jk_R t) (ht : t = 0 → f1 0 = (jk_I bb).toInt64) (hA : jk_ME l D jk_cl (jk_t3 cI cR cL) Z mn_Law_cordsOfTopic (.codeWith mn_Law_cordsOfTopic mb_Law_cordsOfTopic 4 (some .int) [(0, 9, 12, 13)] :: jk_WA) (jk_rx 8 1 6 142) [.ref (ad 0), jk_V (xs (i + 1).toNat).toInt, .ref o] (LW cI cR g ad am σ ++ [(o, .inl (cL, 1, .inr (.inl f)))]) (LW cI cR g ad am σ1 ++ [(o, .inl (cL, 1, .inr (.inl f1)))]) t 1 6) (hB : jk_MI l D jk_cl (jk_ty cI cR) Z mn_Md_cordsOfTopic (.code mn_Md_cordsOfTopic mb_Md_cordsOfTopic 2 (some .int) :: jk_WA) (jk_rm 3 64) [.ref (am 0), jk_V (xs (i + 1).toNat).toInt] (LW cI cR g ad am σ1) (LW cI cR g ad am σ2) bb) (hT : jk_MI l D jk_cl (jk_ty cI cR) Z mn_Md_thrown (.code mn_Md_thrown mb_Md_thrown 1 (some .int) :: jk_WA) (jk_rm 0 0) [.ref (am 0)] (LW cI cR g ad am σ2) (LW cI cR g ad am σ3) t) (kk : jk_J p l e room_1 s m args below meth c (cells + 20) (slots + 120) Q D jk_cl A 9 (LW cI cR g ad am σ3 ++ [(o, .inl (cL, 1, .inr (.inl f1)))]) [(0, .ref b), (1, .ref (ad 0)), (2, .ref (am 0)), (3, .ref o), (4, jk_V i)] 2784 []) : jk_J p l e room_1 s m args below meth c (cells) (slots) Q D jk_cl A 9 (LW cI cR g ad am σ ++ [(o, .inl (cL, 1, .inr (.inl f)))]) [(0, .ref b), (1, .ref (ad 0)), (2, .ref (am 0)), (3, .ref o), (4, jk_V i)] 1767 [] := by
  have C2 := jk_Csub C [0, 1] rfl (tys' := jk_ty cI cR)
  refine jk_aload_n C rd_Law_law_1767 (k := 1) rfl ?_
  refine jk_aload_n C rd_Law_law_1768 (k := 0) rfl ?_
  refine jk_iload C rd_Law_law_1769 (k := 4) rfl ?_
  refine jk_iconst C rd_Law_law_1771 ?_
  refine jk_iadd C rd_Law_law_1772 ?_
  refine jk_sld C hX hbl hbA (by omega) (by omega) hL rd_Law_law_1773 ?_
  refine jk_aload_n C rd_Law_law_1774 (k := 3) rfl ?_
  refine jk_callSW C hZ.1 hz hA tm_1075 tm_1076 tm_0 tm_1077 na_Law_cordsOfTopic ⟨Nat.le_of_ble_eq_true rfl, Nat.le_of_ble_eq_true rfl⟩ rfl (List.range 156) (lw_pq1 LW_len) nd156 (lw_fs1 LW_fst) (lw_pt1 LW_len LW_len) (st := []) rfl (Nat.le_of_ble_eq_true rfl) rd_Law_law_1775 ⟨by omega, by omega⟩ ?_
  refine jk_istore C rd_Law_law_1778 (by decide) (lv' := [(5, jk_V t), (0, .ref b), (1, .ref (ad 0)), (2, .ref (am 0)), (3, .ref o), (4, jk_V i)]) rfl ?_
  refine jk_aload_n C rd_Law_law_1780 (k := 3) rfl ?_
  refine jk_aload_n C rd_Law_law_1781 (k := 1) rfl ?_
  refine jk_iload C rd_Law_law_1782 (k := 5) rfl ?_
  refine jk_iconst C rd_Law_law_1784 ?_
  refine jk_iadd C rd_Law_law_1785 ?_
  refine jk_sld C hX hbl hbA (by omega) (by omega) hL rd_Law_law_1786 ?_
  refine jk_callVi C2 hZ.1 hz hB tm_1787 tm_1788 tm_1789 tm_15 tm_1790 na_Md_cordsOfTopic ⟨Nat.le_of_ble_eq_true rfl, Nat.le_of_ble_eq_true rfl⟩ rfl (List.range 155) (lw_pl LW_len) nd155 LW_fst (lw_put LW_len LW_len) 145 11 (lw_hd LW_len LW_m _) rfl rfl (st := []) rfl (Nat.le_of_ble_eq_true rfl) rd_Law_law_1787 ?_ ⟨by omega, by omega⟩
  refine jk_istore C rd_Law_law_1790 (by decide) (lv' := [(6, jk_V bb), (5, jk_V t), (0, .ref b), (1, .ref (ad 0)), (2, .ref (am 0)), (3, .ref o), (4, jk_V i)]) rfl ?_
  refine jk_aload_n C rd_Law_law_1792 (k := 4) rfl ?_
  refine jk_callVi C2 hZ.1 hz hT tm_1336 tm_1337 tm_1338 tm_15 tm_1339 na_Md_thrown ⟨Nat.le_of_ble_eq_true rfl, Nat.le_of_ble_eq_true rfl⟩ rfl (List.range 155) (lw_pl LW_len) nd155 LW_fst (lw_put LW_len LW_len) 145 11 (lw_hd LW_len LW_m _) rfl rfl (st := []) rfl (Nat.le_of_ble_eq_true rfl) rd_Law_law_1793 ?_ ⟨by omega, by omega⟩
  refine jk_iload C rd_Law_law_1796 (k := 1) rfl ?_
  refine jk_icmp_same (tgt := 1803) C rd_Law_law_1798 (by decide) ?_
  refine jk_iload C rd_Law_law_1803 (k := 1) rfl ?_
  by_cases h0 : t = 0
  · refine jk_if_ne (a := some ()) (b := (none : Option Unit)) (o := ()) (tgt := 1820) C rd_Law_law_1805 (by decide) (by unfold jk_eqs; rw [if_pos ⟨htR, jk_R0⟩, if_pos h0]) (fun h _ => absurd h0 h) (fun _ _ => ?_)
    refine jk_aload_n C rd_Law_law_1808 (k := 5) rfl ?_
    refine jk_iconst C rd_Law_law_1809 ?_
    refine jk_lald C 155 2 (lw_at LW_len _) rfl rd_Law_law_1810 ?_
    refine jk_iload C rd_Law_law_1811 (k := 0) rfl ?_
    refine jk_i2l C rd_Law_law_1813 ?_
    refine jk_lcmp C (ht h0) rd_Law_law_1814 ?_
    refine jk_if_eq (a := some ()) (b := (none : Option Unit)) (o := ()) (tgt := 1820) C rd_Law_law_1815 (by decide) (by decide +kernel) (fun _ _ => ?_) (fun h _ => absurd rfl h)
    refine jk_goto (tgt := 2784) C rd_Law_law_1820 (by decide) ?_
    refine jk_lv (lv' := [(0, .ref b), (1, .ref (ad 0)), (2, .ref (am 0)), (3, .ref o), (4, jk_V i)]) [2, 3, 4, 5, 6] rfl ?_
    exact jk_widen (by omega) (by omega) kk
  · refine jk_if_ne (a := (none : Option Unit)) (b := some ()) (o := ()) (tgt := 1820) C rd_Law_law_1805 (by decide) (by unfold jk_eqs; rw [if_pos ⟨htR, jk_R0⟩, if_neg h0]) (fun _ _ => ?_) (fun h _ => absurd h h0)
    refine jk_goto (tgt := 2784) C rd_Law_law_1820 (by decide) ?_
    refine jk_lv (lv' := [(0, .ref b), (1, .ref (ad 0)), (2, .ref (am 0)), (3, .ref o), (4, jk_V i)]) [2, 3, 4, 5, 6] rfl ?_
    exact jk_widen (by omega) (by omega) kk

set_option maxHeartbeats 4000000 in
set_option maxRecDepth 20000 in
theorem lc_35 {p : Program} {l : Launch} {e : Env} {s : State} {m : MethodId} {args : Array Value} {below : List Frame} {meth : Method} {c : Code} {cells slots : Nat} {Q : State → Prop} {D : va_G} {A : Nat → Prop} {ret : Option FieldType} {Z : (Nat → Prop) → State → Heap → Prop} {sq : Nat → Nat} {cI cR cL : ClassId} {g : Nat → Option Nat} {ad am : Nat → Nat} {b o L : Nat} {xs : Nat → Int32} {i : Int} (C : jk_C p s m args meth c mb_Law_law "KnotReaderLaw" 9 jk_WA D jk_cl (jk_t3 cI cR cL) A ret) (hZ : jk_ZK Z sq) (hz : Z A s s.heap) (hcs : cells + 20 ≤ room_1.cells ∧ slots + 120 ≤ room_1.slots) (hX : va_X b L xs s s.heap) (hbl : b < s.heap.size) (hbA : ¬ A b) (hL : L ≤ 3072) (hi : 0 ≤ i ∧ i + 6 ≤ (L : Int)) {σ σ1 σ2 σ3 : jk_LS} {f f1 : Nat → Int64} {t bb : Int} (htR : jk_R t) (ht : t = 0 → f1 0 = (jk_I bb).toInt64) (hA : jk_ME l D jk_cl (jk_t3 cI cR cL) Z mn_Law_sumOfTopic (.codeWith mn_Law_sumOfTopic mb_Law_sumOfTopic 4 (some .int) [(0, 9, 12, 13)] :: jk_WA) (jk_rx 8 1 6 144) [.ref (ad 0), jk_V (xs (i + 1).toNat).toInt, .ref o] (LW cI cR g ad am σ ++ [(o, .inl (cL, 1, .inr (.inl f)))]) (LW cI cR g ad am σ1 ++ [(o, .inl (cL, 1, .inr (.inl f1)))]) t 1 6) (hB : jk_MI l D jk_cl (jk_ty cI cR) Z mn_Md_sumOfTopic (.code mn_Md_sumOfTopic mb_Md_sumOfTopic 4 (some .int) :: jk_WA) (jk_rm 3 64) [.ref (am 0), jk_V (xs (i + 1).toNat).toInt] (LW cI cR g ad am σ1) (LW cI cR g ad am σ2) bb) (hT : jk_MI l D jk_cl (jk_ty cI cR) Z mn_Md_thrown (.code mn_Md_thrown mb_Md_thrown 1 (some .int) :: jk_WA) (jk_rm 0 0) [.ref (am 0)] (LW cI cR g ad am σ2) (LW cI cR g ad am σ3) t) (kk : jk_J p l e room_1 s m args below meth c (cells + 20) (slots + 120) Q D jk_cl A 9 (LW cI cR g ad am σ3 ++ [(o, .inl (cL, 1, .inr (.inl f1)))]) [(0, .ref b), (1, .ref (ad 0)), (2, .ref (am 0)), (3, .ref o), (4, jk_V i)] 2784 []) : jk_J p l e room_1 s m args below meth c (cells) (slots) Q D jk_cl A 9 (LW cI cR g ad am σ ++ [(o, .inl (cL, 1, .inr (.inl f)))]) [(0, .ref b), (1, .ref (ad 0)), (2, .ref (am 0)), (3, .ref o), (4, jk_V i)] 1823 [] := by
  have C2 := jk_Csub C [0, 1] rfl (tys' := jk_ty cI cR)
  refine jk_aload_n C rd_Law_law_1823 (k := 1) rfl ?_
  refine jk_aload_n C rd_Law_law_1824 (k := 0) rfl ?_
  refine jk_iload C rd_Law_law_1825 (k := 4) rfl ?_
  refine jk_iconst C rd_Law_law_1827 ?_
  refine jk_iadd C rd_Law_law_1828 ?_
  refine jk_sld C hX hbl hbA (by omega) (by omega) hL rd_Law_law_1829 ?_
  refine jk_aload_n C rd_Law_law_1830 (k := 3) rfl ?_
  refine jk_callSW C hZ.1 hz hA tm_1082 tm_1083 tm_0 tm_1084 na_Law_sumOfTopic ⟨Nat.le_of_ble_eq_true rfl, Nat.le_of_ble_eq_true rfl⟩ rfl (List.range 156) (lw_pq1 LW_len) nd156 (lw_fs1 LW_fst) (lw_pt1 LW_len LW_len) (st := []) rfl (Nat.le_of_ble_eq_true rfl) rd_Law_law_1831 ⟨by omega, by omega⟩ ?_
  refine jk_istore C rd_Law_law_1834 (by decide) (lv' := [(5, jk_V t), (0, .ref b), (1, .ref (ad 0)), (2, .ref (am 0)), (3, .ref o), (4, jk_V i)]) rfl ?_
  refine jk_aload_n C rd_Law_law_1836 (k := 3) rfl ?_
  refine jk_aload_n C rd_Law_law_1837 (k := 1) rfl ?_
  refine jk_iload C rd_Law_law_1838 (k := 5) rfl ?_
  refine jk_iconst C rd_Law_law_1840 ?_
  refine jk_iadd C rd_Law_law_1841 ?_
  refine jk_sld C hX hbl hbA (by omega) (by omega) hL rd_Law_law_1842 ?_
  refine jk_callVi C2 hZ.1 hz hB tm_1795 tm_1796 tm_1797 tm_15 tm_1798 na_Md_sumOfTopic ⟨Nat.le_of_ble_eq_true rfl, Nat.le_of_ble_eq_true rfl⟩ rfl (List.range 155) (lw_pl LW_len) nd155 LW_fst (lw_put LW_len LW_len) 145 11 (lw_hd LW_len LW_m _) rfl rfl (st := []) rfl (Nat.le_of_ble_eq_true rfl) rd_Law_law_1843 ?_ ⟨by omega, by omega⟩
  refine jk_istore C rd_Law_law_1846 (by decide) (lv' := [(6, jk_V bb), (5, jk_V t), (0, .ref b), (1, .ref (ad 0)), (2, .ref (am 0)), (3, .ref o), (4, jk_V i)]) rfl ?_
  refine jk_aload_n C rd_Law_law_1848 (k := 4) rfl ?_
  refine jk_callVi C2 hZ.1 hz hT tm_1336 tm_1337 tm_1338 tm_15 tm_1339 na_Md_thrown ⟨Nat.le_of_ble_eq_true rfl, Nat.le_of_ble_eq_true rfl⟩ rfl (List.range 155) (lw_pl LW_len) nd155 LW_fst (lw_put LW_len LW_len) 145 11 (lw_hd LW_len LW_m _) rfl rfl (st := []) rfl (Nat.le_of_ble_eq_true rfl) rd_Law_law_1849 ?_ ⟨by omega, by omega⟩
  refine jk_iload C rd_Law_law_1852 (k := 1) rfl ?_
  refine jk_icmp_same (tgt := 1859) C rd_Law_law_1854 (by decide) ?_
  refine jk_iload C rd_Law_law_1859 (k := 1) rfl ?_
  by_cases h0 : t = 0
  · refine jk_if_ne (a := some ()) (b := (none : Option Unit)) (o := ()) (tgt := 1876) C rd_Law_law_1861 (by decide) (by unfold jk_eqs; rw [if_pos ⟨htR, jk_R0⟩, if_pos h0]) (fun h _ => absurd h0 h) (fun _ _ => ?_)
    refine jk_aload_n C rd_Law_law_1864 (k := 5) rfl ?_
    refine jk_iconst C rd_Law_law_1865 ?_
    refine jk_lald C 155 2 (lw_at LW_len _) rfl rd_Law_law_1866 ?_
    refine jk_iload C rd_Law_law_1867 (k := 0) rfl ?_
    refine jk_i2l C rd_Law_law_1869 ?_
    refine jk_lcmp C (ht h0) rd_Law_law_1870 ?_
    refine jk_if_eq (a := some ()) (b := (none : Option Unit)) (o := ()) (tgt := 1876) C rd_Law_law_1871 (by decide) (by decide +kernel) (fun _ _ => ?_) (fun h _ => absurd rfl h)
    refine jk_goto (tgt := 2784) C rd_Law_law_1876 (by decide) ?_
    refine jk_lv (lv' := [(0, .ref b), (1, .ref (ad 0)), (2, .ref (am 0)), (3, .ref o), (4, jk_V i)]) [2, 3, 4, 5, 6] rfl ?_
    exact jk_widen (by omega) (by omega) kk
  · refine jk_if_ne (a := (none : Option Unit)) (b := some ()) (o := ()) (tgt := 1876) C rd_Law_law_1861 (by decide) (by unfold jk_eqs; rw [if_pos ⟨htR, jk_R0⟩, if_neg h0]) (fun _ _ => ?_) (fun h _ => absurd h h0)
    refine jk_goto (tgt := 2784) C rd_Law_law_1876 (by decide) ?_
    refine jk_lv (lv' := [(0, .ref b), (1, .ref (ad 0)), (2, .ref (am 0)), (3, .ref o), (4, jk_V i)]) [2, 3, 4, 5, 6] rfl ?_
    exact jk_widen (by omega) (by omega) kk

