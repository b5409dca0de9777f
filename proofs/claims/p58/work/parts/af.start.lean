/-! the law at its entry -/
set_option maxRecDepth 20000 in
theorem law_known {s : State} {args : Array Value} (hts : ∀ w ∈ lw_tbl, w.before args s = true) : ∃ (D : va_G) (cI cR cO cB : ClassId), va_K D jk_cl (jl_ty cI cR cO cB) s := by
  have tb : ∀ {w : Cond} (i : Nat), tables_1[i]? = some w → w.before args s = true := fun i h => hts _ (List.mem_append_right _ (List.mem_of_getElem? h))
  obtain ⟨c0, i0, k0⟩ := u_known (C := "KnotReader$Row") (T := tb_Row) (N := 1) (n := 1) hts (fun w h => (List.mem_filter.mp (in_Row w h)).1) (tb 55 (by decide +kernel))
  obtain ⟨c2, i2, k2⟩ := u_known (C := "KnotReader$Topics") (T := tb_Topics) (N := 2) (n := 2) hts (fun w h => (List.mem_filter.mp (in_Topics w h)).1) (tb 106 (by decide +kernel))
  obtain ⟨c3, i3, k3⟩ := u_known (C := "KnotReader$Text") (T := tb_Text) (N := 7) (n := 7) hts (fun w h => (List.mem_filter.mp (in_Text w h)).1) (tb 49 (by decide +kernel))
  obtain ⟨c4, i4, k4⟩ := u_known (C := "KnotReader$Output") (T := tb_Output) (N := 2) (n := 2) hts (fun w h => (List.mem_filter.mp (in_Output w h)).1) (tb 91 (by decide +kernel))
  obtain ⟨c5, i5, k5⟩ := u_known (C := "KnotReader$Cords") (T := tb_Cords) (N := 7) (n := 7) hts (fun w h => (List.mem_filter.mp (in_Cords w h)).1) (tb 122 (by decide +kernel))
  obtain ⟨c6, i6, k6⟩ := u_known (C := "KnotReader$History") (T := tb_History) (N := 3) (n := 3) hts (fun w h => (List.mem_filter.mp (in_History w h)).1) (tb 164 (by decide +kernel))
  obtain ⟨c7, i7, k7⟩ := u_known (C := "KnotReader$Script") (T := tb_Script) (N := 5) (n := 5) hts (fun w h => (List.mem_filter.mp (in_Script w h)).1) (tb 183 (by decide +kernel))
  obtain ⟨c10, i10, k10⟩ := u_known (C := "KnotReader") (T := tb_KR) (N := 12) (n := 12) hts (fun w h => (List.mem_filter.mp (in_KR w h)).1) (tb 41 (by decide +kernel))
  obtain ⟨c11, i11, k11⟩ := u_known (C := "KnotReaderLaw$Cord") (T := tb_Cd) (N := 4) (n := 4) hts (fun w h => (List.mem_filter.mp (in_Cd w h)).1) (tb 705 (by decide +kernel))
  obtain ⟨c12, i12, k12⟩ := u_known (C := "KnotReaderLaw$Cluster") (T := tb_Cu) (N := 2) (n := 2) hts (fun w h => (List.mem_filter.mp (in_Cu w h)).1) (tb 586 (by decide +kernel))
  obtain ⟨c13, i13, k13⟩ := u_known (C := "KnotReaderLaw$Reader") (T := tb_Rd) (N := 4) (n := 4) hts (fun w h => (List.mem_filter.mp (in_Rd w h)).1) (tb 738 (by decide +kernel))
  obtain ⟨c14, i14, k14⟩ := u_known (C := "java/util/ArrayList") (T := tb_AL) (N := 3) (n := 3) hts (fun w h => (List.mem_filter.mp (in_AL w h)).1) (tb 592 (by decide +kernel))
  obtain ⟨c15, i15, k15⟩ := u_known (C := "java/util/ArrayList$Itr") (T := tb_It) (N := 4) (n := 4) hts (fun w h => (List.mem_filter.mp (in_It w h)).1) (tb 646 (by decide +kernel))
  obtain ⟨c16, i16, k16⟩ := u_known (C := "java/lang/StringBuilder") (T := tb_SB) (N := 4) (n := 4) hts (fun w h => (List.mem_filter.mp (in_SB w h)).1) (tb 1355 (by decide +kernel))
  obtain ⟨c17, i17, k17⟩ := u_known (C := "java/lang/String") (T := tb_JStr) (N := 4) (n := 4) hts (fun w h => (List.mem_filter.mp (in_JStr w h)).1) (tb 1520 (by decide +kernel))
  obtain ⟨c18, i18, k18⟩ := u_known (C := "java/lang/Integer") (T := tb_JInt) (N := 1) (n := 1) hts (fun w h => (List.mem_filter.mp (in_JInt w h)).1) (tb 886 (by decide +kernel))
  obtain ⟨cI, kI, mI, a1, a2, a3⟩ := Cond.arrayClass_spec (tb (w := .arrayClass .int) 64 (by decide +kernel))
  obtain ⟨cB, kB, mB, e1, e2, e3⟩ := Cond.arrayClass_spec (tb (w := .arrayClass .byte) 468 (by decide +kernel))
  obtain ⟨mR, cR, kR, b1, -, b3, b4, b5⟩ := Cond.arrayOver_spec (n := "KnotReader$Cords") (tb (w := .arrayOver (.object "KnotReader$Cords")) 170 (by decide +kernel))
  obtain ⟨mO, cO, kO, f1, -, f3, f4, f5⟩ := Cond.arrayOver_spec (n := "java/lang/Object") (tb (w := .arrayOver (.object "java/lang/Object")) 868 (by decide +kernel))
  refine ⟨(fun k => ([c0, c0, c2, c3, c4, c5, c6, c7, c0, c0, c10, c11, c12, c13, c14, c15, c16, c17, c18] : List ClassId).getD k c0, fun k => ([i0, i0, i2, i3, i4, i5, i6, i7, i0, i0, i10, i11, i12, i13, i14, i15, i16, i17, i18] : List (Nat → Nat)).getD k i0), cI, cR, cO, cB, fun k q hq => ?_, fun k q hq => ?_⟩
  · match k, hq with
    | 0, hq => cases hq; exact k0
    | 1, hq => cases hq; exact k0
    | 2, hq => cases hq; exact k2
    | 3, hq => cases hq; exact k3
    | 4, hq => cases hq; exact k4
    | 5, hq => cases hq; exact k5
    | 6, hq => cases hq; exact k6
    | 7, hq => cases hq; exact k7
    | 8, hq => cases hq; exact k0
    | 9, hq => cases hq; exact k0
    | 10, hq => cases hq; exact k10
    | 11, hq => cases hq; exact k11
    | 12, hq => cases hq; exact k12
    | 13, hq => cases hq; exact k13
    | 14, hq => cases hq; exact k14
    | 15, hq => cases hq; exact k15
    | 16, hq => cases hq; exact k16
    | 17, hq => cases hq; exact k17
    | 18, hq => cases hq; exact k18
    | k + 19, hq => simp at hq
  · match k, hq with
    | 0, hq => cases hq; exact ⟨fun n z => ⟨(fun k h => by cases h), kI, a2, mI, a3⟩, a1⟩
    | 1, hq => cases hq; exact ⟨fun n z => ⟨(fun k h => by cases h), kR, b3, mR, b4⟩, kR, mR, b3, b4, b1, b5⟩
    | 2, hq => cases hq; exact ⟨fun n z => ⟨(fun k h => by cases h), kO, f3, mO, f4⟩, kO, mO, f3, f4, f1, f5⟩
    | 3, hq => cases hq; exact ⟨fun n z => ⟨(fun k h => by cases h), kB, e2, mB, e3⟩, e1⟩
    | k + 4, hq => simp at hq
theorem law_end {p : Program} {l : Launch} {e : Env} {s : State} {m : MethodId} {below : List Frame} {meth : Method} {c : Code} {b : Nat} {D : va_G} {tys : List (ClassId × FieldType)} {ws : va_W} {lv : List (Nat × Value)} {cells slots : Nat} (C : jk_C p s m #[Value.ref b] meth c code "KnotReaderLaw" 14 jk_WA D jk_cl tys (fun q : Nat => s.heap.size ≤ q) ret) (h1 : cells ≤ room_1.cells) (h2 : slots ≤ room_1.slots) : jk_J p l e room_1 s m #[Value.ref b] below meth c cells slots (lw_Z below #[Value.ref b] s) D jk_cl (fun q : Nat => s.heap.size ≤ q) 14 ws lv 483 [jk_V 1] := by
  intro H locs ls hl hP hD hS
  refine va_forget (fun q hq => hS.2.2 q hq) ?_
  refine W.widen (k := room_1.cells) (n := room_1.slots) h1 h2 ?_
  exact lw_ret C.1.1 C.1.2.1 C.2.2.2.1 C.2.2.2.2 rd_Lw_law_483
set_option maxHeartbeats 4000000 in
set_option maxRecDepth 20000 in
/-- THE LAW, from its entry -/
theorem whole_start {p : Program} {e : Env} {s : State} {m : MethodId} {below : List Frame} {meth : Method} {c : Code} (l : Launch) (hflags : l.flags = flags0) {b L : Nat} {xs : Nat → Int32} (hL : L ≤ 260) (C0 : lw_At p s m meth c b L xs) : W p l e room_1 s m #[Value.ref b] below meth c s.heap [] 0 0 (lw_Z below #[Value.ref b] s) (entryFrame m ([Value.ref b] : List Value).toArray 14) := by
  obtain ⟨hx, hb, hr, hml, hown, hts, hX, hbl, hlocks, hgv⟩ := id C0
  have hl : l.stackTraces = false := by unfold Launch.stackTraces; rw [hflags]; decide +kernel
  obtain ⟨D, cI, cR, cO, cB, hK⟩ := law_known hts
  obtain ⟨sq, sv, iad, z0, zi, mi, d1, d2, hz⟩ := zz_start hts hgv hX hL hbl
  have C : jk_C p s m #[Value.ref b] meth c code "KnotReaderLaw" 14 jk_WA D jk_cl (jl_ty cI cR cO cB) (fun q : Nat => s.heap.size ≤ q) ret := ⟨⟨hx, hb, hml, hown, fun w hw => hts w (List.mem_filter.mp hw).1⟩, hK, fun _ h => h, hr, hlocks⟩
  rw [lg_entry_eq]
  have J0 : jk_J p l e room_1 s m #[Value.ref b] below meth c 0 0 (lw_Z below #[Value.ref b] s) D jk_cl (fun q : Nat => s.heap.size ≤ q) 14 [] [(0, .ref b)] 0 [] := law_all C (zz_ZK sq sv iad z0 zi mi d1 d2 b L xs) hz (zz_ZD sq sv iad z0 zi mi d1 d2 b L xs) hl (zz_ZX sq sv iad z0 zi mi d1 d2 b L xs) (by omega) (zz_ZO sq sv iad z0 zi mi d1 d2 b L xs) (fun ws2 lvx c2 s2 h1 h2 => law_end C (lr_c (by omega)) (lr_s (by omega)))
  exact J0 s.heap [] _ (lv_entry [.ref b] (Nat.le_of_ble_eq_true rfl)) (fun k q h => by simp at h) ⟨fun i j p q h => by simp at h, fun k q h => by simp at h⟩ va_S.rf
