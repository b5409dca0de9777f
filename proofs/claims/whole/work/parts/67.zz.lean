/-! what nobody writes: the texts, the statics, the words that stay, told of the start -/
def zz_T : Cond := Jvm.Cond.and given_1 narrow_1
def zz_t (own : String) (idx : Nat) : Term := .field (.string own idx) "java/lang/String" "value" "[B"
def zz_ws (own : String) (idx : Nat) (w : List Int) : List Cond := [.exactly (.string own idx) "java/lang/String", .eq (.field (.string own idx) "java/lang/String" "coder" "B") (.int 0), .arrayOf (zz_t own idx) .byte, .eq (.length (zz_t own idx)) (.int (Int32.ofNat w.length))] ++ (List.range w.length).map (fun j => .eq (.elem (zz_t own idx) (.int (Int32.ofNat j))) (.int (jk_I (w.getD j 0))))
def zz_st : List Nat := [59, 230, 239, 250, 257, 268, 275, 286, 298, 310, 318, 325, 332, 340, 350, 357, 367, 384, 400, 417, 445, 464, 493, 519, 553, 581, 612, 642, 663, 673, 686, 694, 707, 716, 728, 736, 744, 753, 764, 772]
def zz_own (k : Nat) : String := (jk_links.getD k ("", 0, "", 0)).1
def zz_idx (k : Nat) : Nat := (jk_links.getD k ("", 0, "", 0)).2.1
theorem zz_txt : (List.range 40).all (fun k => decide (((flatC zz_T).drop (zz_st.getD k 0)).take (4 + (jk_txt k).length) = zz_ws (zz_own k) (zz_idx k) (jk_txt k)) && (jk_txt k).all (fun b => decide (0 ≤ b ∧ b < 128)) && decide ((jk_txt k).length < 1000)) = true := by decide +kernel
theorem zz_lk : (List.range 40).all (fun k => match jk_links[k]? with | some x => decide (x.2.2.2 = k) && decide (x.1 = zz_own k) && decide (x.2.1 = zz_idx k) | none => false) = true := by decide +kernel
theorem zz_sr : ∀ x ∈ jk_links, Cond.stringRef x.1 x.2.1 x.2.2.1 ∈ tables_1 := by decide +kernel
theorem zz_nest : ∀ w ∈ jk_nest, w ∈ tables_1 := by decide +kernel
def zz_kd : Cond → Bool
  | .fieldLinkNest .. => true
  | .methodLinkNest .. => true
  | _ => false
theorem zz_nk : jk_nest.all zz_kd = true := by decide +kernel
theorem zz_on {w : Cond} (h : zz_kd w = true) : w.onTables = true := by cases w <;> first | rfl | cases h
theorem zz_wm {w : Cond} (h : zz_kd w = true) {s U : State} (hW : s.WarmedH U.vm) (hZ : va_Nw w s) : va_Nw w U := by
  cases w with
  | fieldLinkNest a i b n d h9 => exact va_Nw.warmF hW hZ
  | methodLinkNest a i x h9 => exact va_Nw.warmM hW hZ
  | _ => cases h
theorem zz_str {own : String} {idx : Nat} {w : List Int} {args : Array Value} {s : State} {A : Nat → Prop} (hin : ∀ c ∈ zz_ws own idx w, c.before args s = true) (hl : w.length < 1000) (hA : ∀ a : Nat, a < s.heap.size → ¬ A a) : ∃ q : Nat × Nat, (Term.string own idx).eval args s none [] s = some (.ref q.1) ∧ jk_S1 q.1 q.2 w A s s.heap := by
  have h1 : (Cond.exactly (.string own idx) "java/lang/String").before args s = true := hin _ (by unfold zz_ws; exact List.mem_append_left _ (List.mem_cons_self))
  have h2 : (Cond.eq (.field (.string own idx) "java/lang/String" "coder" "B") (.int 0)).before args s = true := hin _ (by unfold zz_ws; exact List.mem_append_left _ (List.mem_cons_of_mem _ List.mem_cons_self))
  have h3 : (Cond.arrayOf (zz_t own idx) .byte).before args s = true := hin _ (by unfold zz_ws; exact List.mem_append_left _ (List.mem_cons_of_mem _ (List.mem_cons_of_mem _ List.mem_cons_self)))
  have h4 : (Cond.eq (.length (zz_t own idx)) (.int (Int32.ofNat w.length))).before args s = true := hin _ (by unfold zz_ws; exact List.mem_append_left _ (List.mem_cons_of_mem _ (List.mem_cons_of_mem _ (List.mem_cons_of_mem _ List.mem_cons_self))))
  have h5 : ∀ j : Nat, j < w.length → (Cond.eq (.elem (zz_t own idx) (.int (Int32.ofNat j))) (.int (jk_I (w.getD j 0)))).before args s = true := fun j hj => hin _ (by unfold zz_ws; exact List.mem_append_right _ (List.mem_map.mpr ⟨j, List.mem_range.mpr hj, rfl⟩))
  obtain ⟨a, c, cell, k, e1, -⟩ := Cond.exactly_spec h1
  obtain ⟨v, e2, e3⟩ := va_Tof (N := w.length) (f := fun j => .int (jk_I (w.getD j 0))) (by omega) h3 (va_eqt h4) (fun j hj => va_eqt (h5 j hj)) hA
  exact ⟨(a, v), e1, va_Oof h1 e1 hA, vk_OFof e1 (va_eqt h2) hA, vk_OFof e1 e2 hA, e3⟩
def ZZ (sq sv : Nat → Nat) (A : Nat → Prop) (U : State) (H : Heap) : Prop :=
  (∀ k, k < 40 → jk_S1 (sq k) (sv k) (jk_txt k) A U H) ∧ (∀ x ∈ jk_links, vk_R x.1 x.2.1 x.2.2.1 (sq x.2.2.2) U) ∧ va_Z "java/lang/String" "COMPACT_STRINGS" "Z" (.int 1) A U H ∧ vx_Zq Bundle.tN "UNASSIGNED_STACK" Bundle.steD A U H ∧ vx_Zq Bundle.tN "SUPPRESSED_SENTINEL" Bundle.listD A U H ∧ va_Zq "jdk/internal/util/Preconditions" "SIOOBE_FORMATTER" "Ljava/util/function/BiFunction;" A U H ∧ (∀ w ∈ jk_nest, va_Nw w U) ∧ (∀ w ∈ jk_fw, va_Nw w U) ∧ va_AO "KnotReader$Cords" U ∧ ∀ x ∈ jk_ncs, va_Nc (jk_exc x.1) (jk_exc x.2) U
theorem zz_fo {w : Cond} (h : w ∈ jk_fw) : w.onTables = true ∧ w.keepsFace = true ∧ w ∈ lw_tbl := by
  have h1 := List.mem_filter.mp h
  have h2 := h1.2
  simp only [Bool.and_eq_true] at h2
  exact ⟨h2.1.1, h2.1.2, h1.1⟩
theorem zz_ZC (sq sv : Nat → Nat) : jk_ZC (ZZ sq sv) := by
  refine ⟨fun A u U H e h => ?_, fun A u U H hW h => ?_, fun A U H H1 hk h => ?_, fun A B U H hAB h => ?_⟩
  · obtain ⟨a1, a2, a3, a4, a5, a6, a7, a8, a9, a10⟩ := h
    have hv : u.vm.Alike U.vm := by rw [e]; exact Vm.Alike.refl _
    exact ⟨fun k hk => ⟨(a1 k hk).1.moved hv, (a1 k hk).2.1.moved hv, (a1 k hk).2.2.1.moved hv, (a1 k hk).2.2.2.moved hv⟩, fun x hx => (a2 x hx).same e, a3.moved hv, a4.moved hv, a5.moved hv, a6.moved hv, fun w hw => va_Nw.same (zz_on (List.all_eq_true.mp zz_nk w hw)) e.symm (a7 w hw), fun w hw => va_Nw.same (zz_fo hw).1 e.symm (a8 w hw), a9.moved hv, fun x hx => (a10 x hx).moved hv⟩
  · obtain ⟨a1, a2, a3, a4, a5, a6, a7, a8, a9, a10⟩ := h
    have hv : u.vm.Alike U.vm := hW.alike
    exact ⟨fun k hk => ⟨(a1 k hk).1.moved hv, (a1 k hk).2.1.moved hv, (a1 k hk).2.2.1.moved hv, (a1 k hk).2.2.2.moved hv⟩, fun x hx => (a2 x hx).warm hW, a3.moved hv, a4.moved hv, a5.moved hv, a6.moved hv, fun w hw => zz_wm (List.all_eq_true.mp zz_nk w hw) hW (a7 w hw), fun w hw => va_Nw.same (zz_fo hw).1 (rfl : (u.setVm U.vm).vm = U.vm) (Cond.before_shiftedFace (State.Shifted.of_warmed hW) w (zz_fo hw).2.1 (a8 w hw)), a9.moved hv, fun x hx => (a10 x hx).moved hv⟩
  · obtain ⟨a1, a2, a3, a4, a5, a6, a7, a8, a9, a10⟩ := h
    exact ⟨fun k h9 => ⟨(a1 k h9).1.kept hk, (a1 k h9).2.1.kept hk, (a1 k h9).2.2.1.kept hk, (a1 k h9).2.2.2.kept hk⟩, a2, a3.kept hk, a4.kept hk, a5.kept hk, a6.kept hk, a7, a8, a9, a10⟩
  · obtain ⟨a1, a2, a3, a4, a5, a6, a7, a8, a9, a10⟩ := h
    exact ⟨fun k hk => ⟨(a1 k hk).1.narrow hAB, (a1 k hk).2.1.narrow hAB, (a1 k hk).2.2.1.narrow hAB, (a1 k hk).2.2.2.narrow hAB⟩, a2, a3.narrow hAB, a4.narrow hAB, a5.narrow hAB, a6.narrow hAB, a7, a8, a9, a10⟩
theorem zz_k {k : Nat} (hk : k < 40) : ((flatC zz_T).drop (zz_st.getD k 0)).take (4 + (jk_txt k).length) = zz_ws (zz_own k) (zz_idx k) (jk_txt k) ∧ (jk_txt k).all (fun b => decide (0 ≤ b ∧ b < 128)) = true ∧ (jk_txt k).length < 1000 := by
  have h := List.all_eq_true.mp zz_txt k (List.mem_range.mpr hk)
  simp only [Bool.and_eq_true, decide_eq_true_eq] at h
  exact ⟨h.1.1, h.1.2, h.2⟩
theorem zz_ZK (sq sv : Nat → Nat) : jk_ZK (ZZ sq sv) sq := by
  refine ⟨zz_ZC sq sv, fun k hk => ⟨⟨(zz_k hk).2.1, (zz_k hk).2.2⟩, sv k, fun A U H h => h.1 k hk⟩, fun A U H h => ⟨h.2.1, h.2.2.1, h.2.2.2.1, h.2.2.2.2.1, h.2.2.2.2.2.1, h.2.2.2.2.2.2.1, h.2.2.2.2.2.2.2.1⟩⟩
theorem zz_start {b : Nat} {s : State} (hts : ∀ w ∈ lw_tbl, w.before #[Value.ref b] s = true) (hgv : (Jvm.Cond.and given_1 narrow_1).before #[Value.ref b] s = true) : ∃ sq sv : Nat → Nat, ZZ sq sv (fun q => s.heap.size ≤ q) s s.heap := by
  have hs := flat_of_before zz_T hgv
  have hA : ∀ a : Nat, a < s.heap.size → ¬ (fun q : Nat => s.heap.size ≤ q) a := fun a h => Nat.not_le.mpr h
  have tb : ∀ {w : Cond} (i : Nat), tables_1[i]? = some w → w.before #[Value.ref b] s = true := fun i h => hts _ (List.mem_append_right _ (List.mem_of_getElem? h))
  have H : ∀ k : Nat, ∃ q : Nat × Nat, k < 40 → (Term.string (zz_own k) (zz_idx k)).eval #[Value.ref b] s none [] s = some (.ref q.1) ∧ jk_S1 q.1 q.2 (jk_txt k) (fun q => s.heap.size ≤ q) s s.heap := by
    intro k
    by_cases hk : k < 40
    · obtain ⟨q, h1, h2⟩ := zz_str (own := zz_own k) (idx := zz_idx k) (w := jk_txt k) (args := #[Value.ref b]) (s := s) (fun c hc => hs c (List.mem_of_mem_drop (List.mem_of_mem_take ((zz_k hk).1 ▸ hc)))) (zz_k hk).2.2 hA
      exact ⟨q, fun _ => ⟨h1, h2⟩⟩
    · exact ⟨(0, 0), fun h => absurd h hk⟩
  refine ⟨fun k => (Classical.choose (H k)).1, fun k => (Classical.choose (H k)).2, fun k hk => (Classical.choose_spec (H k) hk).2, fun x hx => ?_, ?_, ?_, ?_, ?_, fun w hw => ?_, fun w hw => ?_, ?_, ?_⟩
  · obtain ⟨k, hk⟩ := List.mem_iff_getElem?.mp hx
    have hk4 : k < 40 := (List.getElem?_eq_some_iff.mp hk).1
    have h := List.all_eq_true.mp zz_lk k (List.mem_range.mpr hk4)
    rw [hk] at h
    simp only [Bool.and_eq_true, decide_eq_true_eq] at h
    obtain ⟨⟨h1, h2⟩, h3⟩ := h
    refine vk_R.of (A := #[Value.ref b]) (hts _ (List.mem_append_right _ (zz_sr x hx))) ?_
    have h4 := (Classical.choose_spec (H k) hk4).1
    rw [h1, h2, h3]
    exact h4
  · exact va_Zof (tb 213 (by decide +kernel)) (tb 9 (by decide +kernel)) (va_eqi (hs (.eq (.static "java/lang/String" "COMPACT_STRINGS" "Z") (.int 1)) (by decide +kernel))) hA
  · exact vx_Zqof (tb 823 (by decide +kernel)) (tb 16 (by decide +kernel)) (hs (.isRef (.static Bundle.tN "UNASSIGNED_STACK" Bundle.steD)) (by decide +kernel)) hA
  · exact vx_Zqof (tb 825 (by decide +kernel)) (tb 16 (by decide +kernel)) (hs (.isRef (.static Bundle.tN "SUPPRESSED_SENTINEL" Bundle.listD)) (by decide +kernel)) hA
  · exact va_Zqof (tb 229 (by decide +kernel)) (tb 11 (by decide +kernel)) (hs (.isRef (.static "jdk/internal/util/Preconditions" "SIOOBE_FORMATTER" "Ljava/util/function/BiFunction;")) (by decide +kernel)) hA
  · exact va_Nw.of (zz_on (List.all_eq_true.mp zz_nk w hw)) (hts w (List.mem_append_right _ (zz_nest w hw)))
  · exact va_Nw.of (zz_fo hw).1 (hts w (zz_fo hw).2.2)
  · exact va_AO.of (tb 157 (by decide +kernel))
  · intro x hx
    simp only [jk_ncs, List.mem_cons, List.not_mem_nil, or_false] at hx
    rcases hx with rfl | rfl | rfl | rfl
    · exact va_Nc.of (hs (.not (.castable (jk_exc 2) (jk_exc 1))) (by decide +kernel))
    · exact va_Nc.of (hs (.not (.castable (jk_exc 3) (jk_exc 1))) (by decide +kernel))
    · exact va_Nc.of (hs (.not (.castable (jk_exc 4) (jk_exc 1))) (by decide +kernel))
    · exact va_Nc.of (hs (.not (.castable (jk_exc 3) (jk_exc 2))) (by decide +kernel))
