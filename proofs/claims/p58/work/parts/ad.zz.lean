/-! what nobody writes: the texts, the statics, the words that stay, told of the start -/
def zz_T : Cond := Jvm.Cond.and given_1 narrow_1
def zz_t (own : String) (idx : Nat) : Term := .field (.string own idx) "java/lang/String" "value" "[B"
def zz_ws (own : String) (idx : Nat) (w : List Int) : List Cond := [.exactly (.string own idx) "java/lang/String", .eq (.field (.string own idx) "java/lang/String" "coder" "B") (.int 0), .arrayOf (zz_t own idx) .byte, .eq (.length (zz_t own idx)) (.int (Int32.ofNat w.length))] ++ (List.range w.length).map (fun j => .eq (.elem (zz_t own idx) (.int (Int32.ofNat j))) (.int (jk_I (w.getD j 0))))
def zz_st : List Nat := [247, 418, 428, 441, 451, 466, 478, 495, 518, 543, 571, 607, 652, 692, 736, 770, 797, 825, 856, 884]
def zz_own (k : Nat) : String := (jk_links.getD k ("", 0, "", 0)).1
def zz_idx (k : Nat) : Nat := (jk_links.getD k ("", 0, "", 0)).2.1
theorem zz_txt : (List.range 20).all (fun k => decide (((flatC zz_T).drop (zz_st.getD k 0)).take (4 + (jk_txt k).length) = zz_ws (zz_own k) (zz_idx k) (jk_txt k)) && (jk_txt k).all (fun b => decide (0 ≤ b ∧ b < 128)) && decide ((jk_txt k).length < 1000)) = true := by decide +kernel
theorem zz_lk : (List.range 20).all (fun k => match jk_links[k]? with | some x => decide (x.2.2.2 = k) && decide (x.1 = zz_own k) && decide (x.2.1 = zz_idx k) | none => false) = true := by decide +kernel
theorem zz_sr : ∀ x ∈ jk_links, Cond.stringRef x.1 x.2.1 x.2.2.1 ∈ tables_1 := by decide +kernel
theorem zz_nest : ∀ w ∈ jk_nest, w ∈ tables_1 := by decide +kernel
def zz_kd : Cond → Bool
  | .fieldLinkNest .. => true
  | .methodLinkNest .. => true
  | _ => false
theorem zz_nk : jk_nest.all zz_kd = true := by decide +kernel
theorem zz_on {w : Cond} (h : zz_kd w = true) : w.onTables = true := by cases w <;> first | rfl | cases h
theorem zz_wm {w : Cond} (h : zz_kd w = true) {s U : State} (hW : s.WarmedH U.vm) (hZ : va_Nw w s) : va_Nw w U := by
  cases w with
  | fieldLinkNest a i b n d h9 => exact va_Nw.warmF hW hZ
  | methodLinkNest a i x h9 => exact va_Nw.warmM hW hZ
  | _ => cases h
theorem zz_str {own : String} {idx : Nat} {w : List Int} {args : Array Value} {s : State} {A : Nat → Prop} (hin : ∀ c ∈ zz_ws own idx w, c.before args s = true) (hl : w.length < 1000) (hA : ∀ a : Nat, a < s.heap.size → ¬ A a) : ∃ q : Nat × Nat, (Term.string own idx).eval args s none [] s = some (.ref q.1) ∧ jk_S1 q.1 q.2 w A s s.heap := by
  have h1 : (Cond.exactly (.string own idx) "java/lang/String").before args s = true := hin _ (by unfold zz_ws; exact List.mem_append_left _ (List.mem_cons_self))
  have h2 : (Cond.eq (.field (.string own idx) "java/lang/String" "coder" "B") (.int 0)).before args s = true := hin _ (by unfold zz_ws; exact List.mem_append_left _ (List.mem_cons_of_mem _ List.mem_cons_self))
  have h3 : (Cond.arrayOf (zz_t own idx) .byte).before args s = true := hin _ (by unfold zz_ws; exact List.mem_append_left _ (List.mem_cons_of_mem _ (List.mem_cons_of_mem _ List.mem_cons_self)))
  have h4 : (Cond.eq (.length (zz_t own idx)) (.int (Int32.ofNat w.length))).before args s = true := hin _ (by unfold zz_ws; exact List.mem_append_left _ (List.mem_cons_of_mem _ (List.mem_cons_of_mem _ (List.mem_cons_of_mem _ List.mem_cons_self))))
  have h5 : ∀ j : Nat, j < w.length → (Cond.eq (.elem (zz_t own idx) (.int (Int32.ofNat j))) (.int (jk_I (w.getD j 0)))).before args s = true := fun j hj => hin _ (by unfold zz_ws; exact List.mem_append_right _ (List.mem_map.mpr ⟨j, List.mem_range.mpr hj, rfl⟩))
  obtain ⟨a, c, cell, k, e1, -⟩ := Cond.exactly_spec h1
  obtain ⟨v, e2, e3⟩ := va_Tof (N := w.length) (f := fun j => .int (jk_I (w.getD j 0))) (by omega) h3 (va_eqt h4) (fun j hj => va_eqt (h5 j hj)) hA
  exact ⟨(a, v), e1, va_Oof h1 e1 hA, vk_OFof e1 (va_eqt h2) hA, vk_OFof e1 e2 hA, e3⟩
def zz_dg (nm : String) (F : Nat → Int) : List Cond := (List.range 100).map (fun j => .eq (.elem (.static "java/lang/Integer" nm "[B") (.int (Int32.ofNat j))) (.int (jk_I (F j))))
theorem zz_d1 : ((flatC zz_T).drop 23).take 100 = zz_dg "DigitOnes" (fun j => 48 + (j : Int) % 10) := by decide +kernel
theorem zz_d2 : ((flatC zz_T).drop 126).take 100 = zz_dg "DigitTens" (fun j => 48 + (j : Int) / 10) := by decide +kernel
def ZZ (sq sv iad : Nat → Nat) (z0 zi mi d1 d2 b LN : Nat) (xs : Nat → Int32) (A : Nat → Prop) (U : State) (H : Heap) : Prop :=
  (∀ k, k < 20 → jk_S1 (sq k) (sv k) (jk_txt k) A U H) ∧ (∀ x ∈ jk_links, vk_R x.1 x.2.1 x.2.2.1 (sq x.2.2.2) U) ∧ va_Z "java/lang/String" "COMPACT_STRINGS" "Z" (.int 1) A U H ∧ vx_Zq Bundle.tN "UNASSIGNED_STACK" Bundle.steD A U H ∧ vx_Zq Bundle.tN "SUPPRESSED_SENTINEL" Bundle.listD A U H ∧ va_Zq "jdk/internal/util/Preconditions" "SIOOBE_FORMATTER" "Ljava/util/function/BiFunction;" A U H ∧ (∀ w ∈ jk_nest, va_Nw w U) ∧ (∀ w ∈ jk_fw, va_Nw w U) ∧ va_AO "KnotReader$Cords" U ∧ vb_C iad A U H ∧ va_Z "java/lang/Integer$IntegerCache" "high" "I" (.int 127) A U H ∧ va_Z "java/lang/Integer$IntegerCache" "cache" "[Ljava/lang/Integer;" (.ref zi) A U H ∧ va_T (.object "java/lang/Integer") zi 256 (fun k => .ref (iad k)) A U H ∧ va_Z "java/util/ArrayList" "DEFAULTCAPACITY_EMPTY_ELEMENTDATA" "[Ljava/lang/Object;" (.ref z0) A U H ∧ va_T (.object "java/lang/Object") z0 0 (fun _ => .null) A U H ∧ va_AO "java/lang/Object" U ∧ va_Dc U ∧ va_Mi "[Ljava/lang/Object;" mi U ∧ va_Z "java/lang/Integer" "DigitOnes" "[B" (.ref d1) A U H ∧ va_T .byte d1 100 (fun j => .int (jk_I (48 + (j : Int) % 10))) A U H ∧ va_Z "java/lang/Integer" "DigitTens" "[B" (.ref d2) A U H ∧ va_T .byte d2 100 (fun j => .int (jk_I (48 + (j : Int) / 10))) A U H ∧ va_T .int b LN (fun j => .int (xs j)) A U H
theorem zz_fo {w : Cond} (h : w ∈ jk_fw) : w.onTables = true ∧ w.keepsFace = true ∧ w ∈ lw_tbl := by
  have h1 := List.mem_filter.mp h
  have h2 := h1.2
  simp only [Bool.and_eq_true] at h2
  exact ⟨h2.1.1, h2.1.2, h1.1⟩
theorem zz_ZC (sq sv iad : Nat → Nat) (z0 zi mi d1 d2 b LN : Nat) (xs : Nat → Int32) : jk_ZC (ZZ sq sv iad z0 zi mi d1 d2 b LN xs) := by
  refine ⟨fun A u U H e h => ?_, fun A u U H hW h => ?_, fun A U H H1 hk h => ?_, fun A B U H hAB h => ?_⟩
  · obtain ⟨aS1, aLK, aCS, aUS, aSS, aSI, aNE, aFW, aAOc, aCA, aHI, aCC, aCT, aDE, aDT, aAOo, aDC, aMI, aO1, aT1, aO2, aT2, aX⟩ := h
    have hv : u.vm.Alike U.vm := by rw [e]; exact Vm.Alike.refl _
    exact ⟨fun k hk => ⟨(aS1 k hk).1.moved hv, (aS1 k hk).2.1.moved hv, (aS1 k hk).2.2.1.moved hv, (aS1 k hk).2.2.2.moved hv⟩, fun x hx => (aLK x hx).same e, aCS.moved hv, aUS.moved hv, aSS.moved hv, aSI.moved hv, fun w hw => va_Nw.same (zz_on (List.all_eq_true.mp zz_nk w hw)) e.symm (aNE w hw), fun w hw => va_Nw.same (zz_fo hw).1 e.symm (aFW w hw), aAOc.moved hv, aCA.moved hv, aHI.moved hv, aCC.moved hv, aCT.moved hv, aDE.moved hv, aDT.moved hv, aAOo.moved hv, aDC.moved hv, aMI.moved hv, aO1.moved hv, aT1.moved hv, aO2.moved hv, aT2.moved hv, aX.moved hv⟩
  · obtain ⟨aS1, aLK, aCS, aUS, aSS, aSI, aNE, aFW, aAOc, aCA, aHI, aCC, aCT, aDE, aDT, aAOo, aDC, aMI, aO1, aT1, aO2, aT2, aX⟩ := h
    have hv : u.vm.Alike U.vm := hW.alike
    exact ⟨fun k hk => ⟨(aS1 k hk).1.moved hv, (aS1 k hk).2.1.moved hv, (aS1 k hk).2.2.1.moved hv, (aS1 k hk).2.2.2.moved hv⟩, fun x hx => (aLK x hx).warm hW, aCS.moved hv, aUS.moved hv, aSS.moved hv, aSI.moved hv, fun w hw => zz_wm (List.all_eq_true.mp zz_nk w hw) hW (aNE w hw), fun w hw => va_Nw.same (zz_fo hw).1 (rfl : (u.setVm U.vm).vm = U.vm) (Cond.before_shiftedFace (State.Shifted.of_warmed hW) w (zz_fo hw).2.1 (aFW w hw)), aAOc.moved hv, aCA.moved hv, aHI.moved hv, aCC.moved hv, aCT.moved hv, aDE.moved hv, aDT.moved hv, aAOo.moved hv, aDC.moved hv, aMI.moved hv, aO1.moved hv, aT1.moved hv, aO2.moved hv, aT2.moved hv, aX.moved hv⟩
  · obtain ⟨aS1, aLK, aCS, aUS, aSS, aSI, aNE, aFW, aAOc, aCA, aHI, aCC, aCT, aDE, aDT, aAOo, aDC, aMI, aO1, aT1, aO2, aT2, aX⟩ := h
    exact ⟨fun k h9 => ⟨(aS1 k h9).1.kept hk, (aS1 k h9).2.1.kept hk, (aS1 k h9).2.2.1.kept hk, (aS1 k h9).2.2.2.kept hk⟩, aLK, aCS.kept hk, aUS.kept hk, aSS.kept hk, aSI.kept hk, aNE, aFW, aAOc, aCA.kept hk, aHI.kept hk, aCC.kept hk, aCT.kept hk, aDE.kept hk, aDT.kept hk, aAOo, aDC, aMI, aO1.kept hk, aT1.kept hk, aO2.kept hk, aT2.kept hk, aX.kept hk⟩
  · obtain ⟨aS1, aLK, aCS, aUS, aSS, aSI, aNE, aFW, aAOc, aCA, aHI, aCC, aCT, aDE, aDT, aAOo, aDC, aMI, aO1, aT1, aO2, aT2, aX⟩ := h
    exact ⟨fun k hk => ⟨(aS1 k hk).1.narrow hAB, (aS1 k hk).2.1.narrow hAB, (aS1 k hk).2.2.1.narrow hAB, (aS1 k hk).2.2.2.narrow hAB⟩, aLK, aCS.narrow hAB, aUS.narrow hAB, aSS.narrow hAB, aSI.narrow hAB, aNE, aFW, aAOc, aCA.narrow hAB, aHI.narrow hAB, aCC.narrow hAB, aCT.narrow hAB, aDE.narrow hAB, aDT.narrow hAB, aAOo, aDC, aMI, aO1.narrow hAB, aT1.narrow hAB, aO2.narrow hAB, aT2.narrow hAB, aX.narrow hAB⟩
theorem zz_k {k : Nat} (hk : k < 20) : ((flatC zz_T).drop (zz_st.getD k 0)).take (4 + (jk_txt k).length) = zz_ws (zz_own k) (zz_idx k) (jk_txt k) ∧ (jk_txt k).all (fun b => decide (0 ≤ b ∧ b < 128)) = true ∧ (jk_txt k).length < 1000 := by
  have h := List.all_eq_true.mp zz_txt k (List.mem_range.mpr hk)
  simp only [Bool.and_eq_true, decide_eq_true_eq] at h
  exact ⟨h.1.1, h.1.2, h.2⟩
theorem zz_ZK (sq sv iad : Nat → Nat) (z0 zi mi d1 d2 b LN : Nat) (xs : Nat → Int32) : jl_ZK (ZZ sq sv iad z0 zi mi d1 d2 b LN xs) sq iad z0 zi mi := by
  refine ⟨⟨zz_ZC sq sv iad z0 zi mi d1 d2 b LN xs, fun k hk => ⟨⟨(zz_k hk).2.1, (zz_k hk).2.2⟩, sv k, fun A U H h => h.1 k hk⟩, fun A U H h => ?_⟩, fun A U H h => ?_⟩
  · obtain ⟨aS1, aLK, aCS, aUS, aSS, aSI, aNE, aFW, aAOc, aCA, aHI, aCC, aCT, aDE, aDT, aAOo, aDC, aMI, aO1, aT1, aO2, aT2, aX⟩ := h
    exact ⟨aLK, aCS, aUS, aSS, aSI, aNE, aFW⟩
  · obtain ⟨aS1, aLK, aCS, aUS, aSS, aSI, aNE, aFW, aAOc, aCA, aHI, aCC, aCT, aDE, aDT, aAOo, aDC, aMI, aO1, aT1, aO2, aT2, aX⟩ := h
    exact ⟨aCA, aHI, aCC, aCT, aDE, aDT, aAOo, aDC, aMI⟩
theorem zz_ZD (sq sv iad : Nat → Nat) (z0 zi mi d1 d2 b LN : Nat) (xs : Nat → Int32) : jl_ZD (ZZ sq sv iad z0 zi mi d1 d2 b LN xs) d1 d2 := fun A U H h => by
  obtain ⟨aS1, aLK, aCS, aUS, aSS, aSI, aNE, aFW, aAOc, aCA, aHI, aCC, aCT, aDE, aDT, aAOo, aDC, aMI, aO1, aT1, aO2, aT2, aX⟩ := h
  exact ⟨aO1, aT1, aO2, aT2⟩
theorem zz_ZX (sq sv iad : Nat → Nat) (z0 zi mi d1 d2 b LN : Nat) (xs : Nat → Int32) : ∀ (A : Nat → Prop) (U : State) (H : Heap), ZZ sq sv iad z0 zi mi d1 d2 b LN xs A U H → va_T .int b LN (fun j => .int (xs j)) A U H := fun A U H h => by
  obtain ⟨aS1, aLK, aCS, aUS, aSS, aSI, aNE, aFW, aAOc, aCA, aHI, aCC, aCT, aDE, aDT, aAOo, aDC, aMI, aO1, aT1, aO2, aT2, aX⟩ := h
  exact aX
theorem zz_ZO (sq sv iad : Nat → Nat) (z0 zi mi d1 d2 b LN : Nat) (xs : Nat → Int32) : ∀ (A : Nat → Prop) (U : State) (H : Heap), ZZ sq sv iad z0 zi mi d1 d2 b LN xs A U H → va_AO "KnotReader$Cords" U := fun A U H h => by
  obtain ⟨aS1, aLK, aCS, aUS, aSS, aSI, aNE, aFW, aAOc, aCA, aHI, aCC, aCT, aDE, aDT, aAOo, aDC, aMI, aO1, aT1, aO2, aT2, aX⟩ := h
  exact aAOc
theorem zz_dig {b : Nat} {s : State} {nm : String} {F : Nat → Int} {i : Nat} (hs : ∀ c ∈ flatC zz_T, c.before #[Value.ref b] s = true) (hd : ((flatC zz_T).drop i).take 100 = zz_dg nm F) : ∀ j : Nat, j < 100 → (Term.elem (.static "java/lang/Integer" nm "[B") (.int (Int32.ofNat j))).eval #[Value.ref b] s none [] s = some (.int (jk_I (F j))) := fun j hj => by
  have hm : Cond.eq (.elem (.static "java/lang/Integer" nm "[B") (.int (Int32.ofNat j))) (.int (jk_I (F j))) ∈ ((flatC zz_T).drop i).take 100 := by
    rw [hd]
    exact List.mem_map.mpr ⟨j, List.mem_range.mpr hj, rfl⟩
  exact va_eqt (hs _ (List.mem_of_mem_drop (List.mem_of_mem_take hm)))
theorem zz_start {b L : Nat} {xs : Nat → Int32} {s : State} (hts : ∀ w ∈ lw_tbl, w.before #[Value.ref b] s = true) (hgv : (Jvm.Cond.and given_1 narrow_1).before #[Value.ref b] s = true) (hX : va_X b L xs s s.heap) (hL : L ≤ 260) (hbl : b < s.heap.size) : ∃ (sq sv iad : Nat → Nat) (z0 zi mi d1 d2 : Nat), ZZ sq sv iad z0 zi mi d1 d2 b L xs (fun q => s.heap.size ≤ q) s s.heap := by
  have hs := flat_of_before zz_T hgv
  have hA : ∀ a : Nat, a < s.heap.size → ¬ (fun q : Nat => s.heap.size ≤ q) a := fun a h => Nat.not_le.mpr h
  have tb : ∀ {w : Cond} (i : Nat), tables_1[i]? = some w → w.before #[Value.ref b] s = true := fun i h => hts _ (List.mem_append_right _ (List.mem_of_getElem? h))
  have H : ∀ k : Nat, ∃ q : Nat × Nat, k < 20 → (Term.string (zz_own k) (zz_idx k)).eval #[Value.ref b] s none [] s = some (.ref q.1) ∧ jk_S1 q.1 q.2 (jk_txt k) (fun q => s.heap.size ≤ q) s s.heap := by
    intro k
    by_cases hk : k < 20
    · obtain ⟨q, h1, h2⟩ := zz_str (own := zz_own k) (idx := zz_idx k) (w := jk_txt k) (args := #[Value.ref b]) (s := s) (fun c hc => hs c (List.mem_of_mem_drop (List.mem_of_mem_take ((zz_k hk).1 ▸ hc)))) (zz_k hk).2.2 hA
      exact ⟨q, fun _ => ⟨h1, h2⟩⟩
    · exact ⟨(0, 0), fun h => absurd h hk⟩
  have hcl := va_eqt (hs (.eq (.length (.static "java/lang/Integer$IntegerCache" "cache" "[Ljava/lang/Integer;")) (.int 256)) (by decide +kernel))
  obtain ⟨iad, hCA, hel⟩ := vb_Cof (args := #[Value.ref b]) (s := s) (A := fun q => s.heap.size ≤ q) (st := (.static "java/lang/Integer$IntegerCache" "cache" "[Ljava/lang/Integer;")) rfl hcl (hs _ (by decide +kernel)) hA
  obtain ⟨zi, hzi, hCT⟩ := va_Tof (args := #[Value.ref b]) (s := s) (A := fun q => s.heap.size ≤ q) (tm := (.static "java/lang/Integer$IntegerCache" "cache" "[Ljava/lang/Integer;")) (ty := .object "java/lang/Integer") (N := 256) (f := fun k => .ref (iad k)) (by decide) (hs _ (by decide +kernel)) hcl hel hA
  obtain ⟨z0, hz0, hDT⟩ := va_Tof (args := #[Value.ref b]) (s := s) (A := fun q => s.heap.size ≤ q) (tm := (.static "java/util/ArrayList" "DEFAULTCAPACITY_EMPTY_ELEMENTDATA" "[Ljava/lang/Object;")) (ty := .object "java/lang/Object") (N := 0) (f := fun _ => .null) (by decide) (hs _ (by decide +kernel)) (va_eqt (hs (.eq (.length (.static "java/util/ArrayList" "DEFAULTCAPACITY_EMPTY_ELEMENTDATA" "[Ljava/lang/Object;")) (.int 0)) (by decide +kernel))) (fun j hj => absurd hj (Nat.not_lt_zero j)) hA
  obtain ⟨d1, hd1, hT1⟩ := va_Tof (args := #[Value.ref b]) (s := s) (A := fun q => s.heap.size ≤ q) (tm := (.static "java/lang/Integer" "DigitOnes" "[B")) (ty := .byte) (N := 100) (f := fun j => .int (jk_I (48 + (j : Int) % 10))) (by decide) (hs _ (by decide +kernel)) (va_eqt (hs (.eq (.length (.static "java/lang/Integer" "DigitOnes" "[B")) (.int 100)) (by decide +kernel))) (zz_dig hs zz_d1) hA
  obtain ⟨d2, hd2, hT2⟩ := va_Tof (args := #[Value.ref b]) (s := s) (A := fun q => s.heap.size ≤ q) (tm := (.static "java/lang/Integer" "DigitTens" "[B")) (ty := .byte) (N := 100) (f := fun j => .int (jk_I (48 + (j : Int) / 10))) (by decide) (hs _ (by decide +kernel)) (va_eqt (hs (.eq (.length (.static "java/lang/Integer" "DigitTens" "[B")) (.int 100)) (by decide +kernel))) (zz_dig hs zz_d2) hA
  obtain ⟨mi, hmi⟩ := va_Mi.of (args := #[Value.ref b]) (s := s) (C := "[Ljava/lang/Object;") (hs _ (by decide +kernel))
  refine ⟨fun k => (Classical.choose (H k)).1, fun k => (Classical.choose (H k)).2, iad, z0, zi, mi, d1, d2, fun k hk => (Classical.choose_spec (H k) hk).2, fun x hx => ?_, va_Zof (tb 220 (by decide +kernel)) (tb 9 (by decide +kernel)) (va_eqi (hs (.eq (.static "java/lang/String" "COMPACT_STRINGS" "Z") (.int 1)) (by decide +kernel))) hA, vx_Zqof (tb 982 (by decide +kernel)) (tb 32 (by decide +kernel)) (hs (.isRef (.static Bundle.tN "UNASSIGNED_STACK" Bundle.steD)) (by decide +kernel)) hA, vx_Zqof (tb 984 (by decide +kernel)) (tb 32 (by decide +kernel)) (hs (.isRef (.static Bundle.tN "SUPPRESSED_SENTINEL" Bundle.listD)) (by decide +kernel)) hA, va_Zqof (tb 236 (by decide +kernel)) (tb 11 (by decide +kernel)) (hs (.isRef (.static "jdk/internal/util/Preconditions" "SIOOBE_FORMATTER" "Ljava/util/function/BiFunction;")) (by decide +kernel)) hA, fun w hw => va_Nw.of (zz_on (List.all_eq_true.mp zz_nk w hw)) (hts w (List.mem_append_right _ (zz_nest w hw))), fun w hw => va_Nw.of (zz_fo hw).1 (hts w (zz_fo hw).2.2), va_AO.of (tb 170 (by decide +kernel)), hCA, va_Zof (tb 882 (by decide +kernel)) (tb 31 (by decide +kernel)) (va_eqi (hs (.eq (.static "java/lang/Integer$IntegerCache" "high" "I") (.int 127)) (by decide +kernel))) hA, va_Zof (tb 884 (by decide +kernel)) (tb 31 (by decide +kernel)) hzi hA, hCT, va_Zof (tb 604 (by decide +kernel)) (tb 18 (by decide +kernel)) hz0 hA, hDT, va_AO.of (tb 868 (by decide +kernel)), va_Dc.of (tb 1610 (by decide +kernel)), hmi, va_Zof (tb 1504 (by decide +kernel)) (tb 28 (by decide +kernel)) hd1 hA, hT1, va_Zof (tb 1506 (by decide +kernel)) (tb 28 (by decide +kernel)) hd2 hA, hT2, ?_⟩
  · obtain ⟨k, hk⟩ := List.mem_iff_getElem?.mp hx
    have hk4 : k < 20 := (List.getElem?_eq_some_iff.mp hk).1
    have h := List.all_eq_true.mp zz_lk k (List.mem_range.mpr hk4)
    rw [hk] at h
    simp only [Bool.and_eq_true, decide_eq_true_eq] at h
    obtain ⟨⟨h1, h2⟩, h3⟩ := h
    refine vk_R.of (A := #[Value.ref b]) (hts _ (List.mem_append_right _ (zz_sr x hx))) ?_
    have h4 := (Classical.choose_spec (H k) hk4).1
    rw [h1, h2, h3]
    exact h4
  · obtain ⟨scr, h1, h2, h3, h4, h5⟩ := hX
    exact ⟨scr, h1, h2, h3, by omega, by rw [h4], h5, hA b hbl⟩
