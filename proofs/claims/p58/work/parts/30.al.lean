/-! lists: java.util.ArrayList over the world by addresses -/
/-- a list of the cells xs: its object at a, its row of references behind it, both of the owner t -/
def jl_AL (cO : ClassId) (z0 : Nat) (ow : Nat → Nat) (M : jm_M) (t a : Nat) (xs : List Nat) : Prop := ∃ (mc : Int) (e cap : Nat) (g : Nat → Option Nat), M a = some (.inr (14, [jk_V mc, .ref e, jk_V (xs.length : Int)])) ∧ ow a = t ∧ ((cap = 0 ∧ e = z0) ∨ (0 < cap ∧ M e = some (jm_Q cO cap g) ∧ ow e = t)) ∧ xs.length ≤ cap ∧ cap ≤ 60 ∧ ∀ i, i < cap → g i = xs[i]?
/-- what else than the owner t's stays -/
def jl_FrP (ow : Nat → Nat) (M : jm_M) (ow' : Nat → Nat) (M' : jm_M) (T : Nat → Prop) : Prop := ∀ (b : Nat) (e : va_E), M b = some e → ow' b = ow b ∧ (∃ e', M' b = some e') ∧ (¬ T (ow b) → M' b = some e)
abbrev jl_Fr (ow : Nat → Nat) (M : jm_M) (ow' : Nat → Nat) (M' : jm_M) (t : Nat) : Prop := jl_FrP ow M ow' M' (fun z => z = t)
def jl_dom (M M' : jm_M) : Prop := ∀ (b : Nat) (e : va_E), M b = some e → ∃ e', M' b = some e'
theorem jl_dom.up {M M' : jm_M} {a : Nat} {e : va_E} (hM : M' = jm_up M a e) : jl_dom M M' := by
  intro b eb hb
  subst hM
  by_cases h : b = a
  · exact ⟨e, by rw [h, jm_up_s]⟩
  · exact ⟨eb, by rw [jm_up_n h]; exact hb⟩
theorem jl_dom.trans {M M' M2 : jm_M} (h : jl_dom M M') (h2 : jl_dom M' M2) : jl_dom M M2 := fun b e hb => by
  obtain ⟨e', h'⟩ := h b e hb
  exact h2 b e' h'
theorem jl_FrP.mk {ow ow' : Nat → Nat} {M M' : jm_M} {T : Nat → Prop} (hd : jl_dom M M') (h : ∀ (b : Nat) (e : va_E), M b = some e → ow' b = ow b ∧ (¬ T (ow b) → M' b = some e)) : jl_FrP ow M ow' M' T := fun b e hb => ⟨(h b e hb).1, hd b e hb, (h b e hb).2⟩
theorem jl_FrP.rf {ow : Nat → Nat} {M : jm_M} {T : Nat → Prop} : jl_FrP ow M ow M T := fun _ e h => ⟨rfl, ⟨e, h⟩, fun _ => h⟩
theorem jl_FrP.wide {ow ow' : Nat → Nat} {M M' : jm_M} {T T' : Nat → Prop} (h : jl_FrP ow M ow' M' T) (hT : ∀ z, T z → T' z) : jl_FrP ow M ow' M' T' := fun b e hb => ⟨(h b e hb).1, (h b e hb).2.1, fun hn => (h b e hb).2.2 (fun z => hn (hT _ z))⟩
theorem jl_AL.fr {cO : ClassId} {z0 : Nat} {ow ow' : Nat → Nat} {M M' : jm_M} {T : Nat → Prop} {t2 a : Nat} {xs : List Nat} (h : jl_AL cO z0 ow M t2 a xs) (hF : jl_FrP ow M ow' M' T) (hne : ¬ T t2) : jl_AL cO z0 ow' M' t2 a xs := by
  obtain ⟨mc, e, cap, g, h1, h2, h3, h4, h5, h6⟩ := h
  obtain ⟨f1, -, f2⟩ := hF a _ h1
  refine ⟨mc, e, cap, g, f2 (by rw [h2]; exact hne), f1.trans h2, ?_, h4, h5, h6⟩
  rcases h3 with h3 | ⟨h7, h8, h9⟩
  · exact Or.inl h3
  · obtain ⟨f3, -, f4⟩ := hF e _ h8
    exact Or.inr ⟨h7, f4 (by rw [h9]; exact hne), f3.trans h9⟩
theorem jl_Fr.put {ow : Nat → Nat} {M M' : jm_M} {t a : Nat} {e : va_E} (hM : M' = jm_up M a e) (ha : ow a = t) : jl_Fr ow M ow M' t := by
  refine jl_FrP.mk (jl_dom.up hM) (fun b eb hb => ⟨rfl, fun hne => ?_⟩)
  subst hM
  rw [jm_up_n (fun z => hne (by rw [z]; exact ha))]
  exact hb
theorem jl_FrP.trans {ow ow' ow2 : Nat → Nat} {M M' M2 : jm_M} {T : Nat → Prop} (h : jl_FrP ow M ow' M' T) (h2 : jl_FrP ow' M' ow2 M2 T) : jl_FrP ow M ow2 M2 T := by
  intro b e hb
  obtain ⟨h3, ⟨e', he⟩, h4⟩ := h b e hb
  obtain ⟨h5, h6, h7⟩ := h2 b e' he
  refine ⟨h5.trans h3, h6, fun hn => ?_⟩
  exact (h2 b e (h4 hn)).2.2 (by rw [h3]; exact hn)
/-- what a list may hold: cords, clusters, small numbers -/
def jl_el (iad : Nat → Nat) (M : jm_M) (x : Nat) : Prop := (∃ fs, M x = some (.inr (11, fs))) ∨ (∃ fs, M x = some (.inr (12, fs))) ∨ ∃ k, k < 256 ∧ x = iad k
section JL
variable {s : State} {D : va_G} {tys : List (ClassId × FieldType)} {A : Nat → Prop} {Z : (Nat → Prop) → State → Heap → Prop} {sq iad : Nat → Nat} {z0 zi mi : Nat} {ws : va_W} {H : Heap} {locs : List Loc} {M : jm_M} {x : Nat}
theorem jl_any (hZ : jl_ZK Z sq iad z0 zi mi) (hz : Z A s s.heap) (hK : va_K D jk_cl tys s) (hws : jm_lk ws = M) (hx : jl_el iad M x) (hP : va_P D jk_cl ws H) (hS : va_S A s.heap H locs) : va_Any "java/lang/Object" s H x := by
  rcases hx with ⟨fs, h⟩ | ⟨fs, h⟩ | ⟨k, hk, rfl⟩
  · obtain ⟨q0, h0⟩ := jm_lk_mem (by rw [hws]; exact h : jm_lk ws x = _)
    exact va_rAny hK hP h0 (r := ("KnotReaderLaw$Cord", tb_Cd, 4)) rfl (vb_asgC (ca_Cd hZ.1 hz))
  · obtain ⟨q0, h0⟩ := jm_lk_mem (by rw [hws]; exact h : jm_lk ws x = _)
    exact va_rAny hK hP h0 (r := ("KnotReaderLaw$Cluster", tb_Cu, 2)) rfl (vb_asgC (ca_Cu hZ.1 hz))
  · obtain ⟨cell, h1, h2, h3⟩ := va_Orecv ((hZ.2 A s s.heap hz).1.1 k hk) hS
    obtain ⟨h4, kC, h5, -⟩ := (hK.1 18 _ rfl).2
    have e := Option.some.inj (h4.symm.trans h3)
    exact ⟨cell, h1, h2, ⟨kC, by rw [← e]; exact h5⟩, fun comp hc => vb_asgC (ca_JInt hZ.1 hz) comp _ hc h3⟩
end JL

theorem jl_AL.opn {cO : ClassId} {z0 : Nat} {ow : Nat → Nat} {M : jm_M} {t a i : Nat} {xs : List Nat} (h : jl_AL cO z0 ow M t a xs) (hi : i < xs.length) : ∃ (mc : Int) (e cap : Nat) (g : Nat → Option Nat), M a = some (.inr (14, [jk_V mc, .ref e, jk_V (xs.length : Int)])) ∧ M e = some (jm_Q cO cap g) ∧ xs.length ≤ cap ∧ cap ≤ 60 ∧ (∀ i, i < cap → g i = xs[i]?) ∧ ow a = t ∧ ow e = t := by
  obtain ⟨mc, e, cap, g, h1, h2, h3, h4, h5, h6⟩ := h
  rcases h3 with ⟨h3, -⟩ | ⟨-, h3, h7⟩
  · omega
  · exact ⟨mc, e, cap, g, h1, h3, h4, h5, h6, h2, h7⟩
def jm_le (M M' : jm_M) : Prop := ∀ (b : Nat) (e : va_E), M b = some e → M' b = some e
theorem jm_le.rf {M : jm_M} : jm_le M M := fun _ _ h => h
theorem jm_le.trans {M M' M2 : jm_M} (h : jm_le M M') (h2 : jm_le M' M2) : jm_le M M2 := fun b e z => h2 b e (h b e z)
theorem jm_le.new {M : jm_M} {q : Nat} {e : va_E} (h : M q = none) : jm_le M (jm_up M q e) := fun b e' hb => by rw [jm_up_n (jm_nen hb h)]; exact hb
theorem jm_le.put {M M' : jm_M} {q : Nat} {e : va_E} (h : M q = none) (hl : jm_le M M') : jm_le M (jm_up M' q e) := fun b e' hb => by rw [jm_up_n (jm_nen hb h)]; exact hl b e' hb
theorem jl_AL.mono {cO : ClassId} {z0 : Nat} {ow : Nat → Nat} {M M' : jm_M} {t a : Nat} {xs : List Nat} (h : jl_AL cO z0 ow M t a xs) (hl : jm_le M M') : jl_AL cO z0 ow M' t a xs := by
  obtain ⟨mc, e, cap, g, h1, h2, h3, h4, h5, h6⟩ := h
  refine ⟨mc, e, cap, g, hl _ _ h1, h2, ?_, h4, h5, h6⟩
  rcases h3 with h3 | ⟨h7, h8, h9⟩
  · exact Or.inl h3
  · exact Or.inr ⟨h7, hl _ _ h8, h9⟩
theorem jl_el.mono {iad : Nat → Nat} {M M' : jm_M} {x : Nat} (h : jl_el iad M x) (hl : jm_le M M') : jl_el iad M' x := by
  rcases h with ⟨fs, h⟩ | ⟨fs, h⟩ | h
  · exact Or.inl ⟨fs, hl _ _ h⟩
  · exact Or.inr (Or.inl ⟨fs, hl _ _ h⟩)
  · exact Or.inr (Or.inr h)
section AL1
variable (l : Launch) (D : va_G) {Z : (Nat → Prop) → State → Heap → Prop} {sq iad : Nat → Nat} {z0 zi mi : Nat} (cI cR cO cB : ClassId)
set_option maxHeartbeats 1000000 in
theorem ct_AL_size (hZ : jl_ZK Z sq iad z0 zi mi) {M : jm_M} {ow : Nat → Nat} {t a : Nat} {xs : List Nat} (hL : jl_AL cO z0 ow M t a xs) : jm_Met l D jk_cl (jl_ty cI cR cO cB) Z mn_AL_size (.code mn_AL_size mb_AL_size 1 (some .int) :: jk_WA) (jk_rx 0 0 0 0) [.ref a] M (fun v M' => v = some (jk_V (xs.length : Int)) ∧ M' = M) 0 0 := by
  obtain ⟨mc, e, cap, g, h1, h2, h3, h4, h5, h6⟩ := hL
  refine jm_body (by decide +kernel) (fun p ev s m args below meth cod w hw hz hin C => ?_) (Nat.le_of_ble_eq_true rfl)
  refine jk_aload_n C rd_AL_size_0 (k := 0) rfl ?_
  refine jm_get C hw in_AL (ci := 14) rfl 2 (Nat.le_of_ble_eq_true rfl) lk_AL_48 h1 rfl rd_AL_size_1 ?_
  exact jm_ret_i C hw ⟨rfl, rfl⟩ (Nat.le_refl _) (Nat.le_refl _) rd_AL_size_4
set_option maxHeartbeats 1000000 in
theorem ct_AL_isEmpty (hZ : jl_ZK Z sq iad z0 zi mi) {M : jm_M} {ow : Nat → Nat} {t a : Nat} {xs : List Nat} (hL : jl_AL cO z0 ow M t a xs) : jm_Met l D jk_cl (jl_ty cI cR cO cB) Z mn_AL_isEmpty (.code mn_AL_isEmpty mb_AL_isEmpty 1 (some .boolean) :: jk_WA) (jk_rx 0 0 0 0) [.ref a] M (fun v M' => v = some (jk_V (if xs.length = 0 then 1 else 0)) ∧ M' = M) 0 0 := by
  obtain ⟨mc, e, cap, g, h1, h2, h3, h4, h5, h6⟩ := hL
  refine jm_body (by decide +kernel) (fun p ev s m args below meth cod w hw hz hin C => ?_) (Nat.le_of_ble_eq_true rfl)
  refine jk_aload_n C rd_AL_isEmpty_0 (k := 0) rfl ?_
  refine jm_get C hw in_AL (ci := 14) rfl 2 (Nat.le_of_ble_eq_true rfl) lk_AL_48 h1 rfl rd_AL_isEmpty_1 ?_
  refine jr_if_ne C rd_AL_isEmpty_4 (tgt := 11) rfl ⟨by omega, by omega⟩ (fun hc => ?_) (fun hc => ?_)
  · refine jk_iconst C rd_AL_isEmpty_11 ?_
    exact jm_ret_z C (Or.inl rfl) hw ⟨by rw [if_neg (by omega)], rfl⟩ (Nat.le_refl _) (Nat.le_refl _) rd_AL_isEmpty_12
  · refine jk_iconst C rd_AL_isEmpty_7 ?_
    refine jk_goto C rd_AL_isEmpty_8 (tgt := 12) rfl ?_
    exact jm_ret_z C (Or.inr rfl) hw ⟨by rw [if_pos (by omega)], rfl⟩ (Nat.le_refl _) (Nat.le_refl _) rd_AL_isEmpty_12
set_option maxHeartbeats 1000000 in
theorem ct_AL_elementData (hZ : jl_ZK Z sq iad z0 zi mi) {M : jm_M} {ow : Nat → Nat} {t a : Nat} {xs : List Nat} {i x : Nat} (hL : jl_AL cO z0 ow M t a xs) (hx : xs[i]? = some x) : jm_Met l D jk_cl (jl_ty cI cR cO cB) Z mn_AL_elementData (.code mn_AL_elementData mb_AL_elementData 2 (some (.object "java/lang/Object")) :: jk_WA) (jk_rx 0 0 0 0) [.ref a, jk_V ((i : Int))] M (fun v M' => v = some (.ref x) ∧ M' = M) 0 0 := by
  have hi : i < xs.length := (List.getElem?_eq_some_iff.mp hx).1
  obtain ⟨mc, e, cap, g, h1, h7, h4, h5, h6, h2, h8⟩ := hL.opn hi
  refine jm_body (by decide +kernel) (fun p ev s m args below meth cod w hw hz hin C => ?_) (Nat.le_of_ble_eq_true rfl)
  refine jk_aload_n C rd_AL_elementData_0 (k := 0) rfl ?_
  refine jm_get C hw in_AL (ci := 14) rfl 1 (Nat.le_of_ble_eq_true rfl) lk_AL_9 h1 rfl rd_AL_elementData_1 ?_
  refine jk_iload_n C rd_AL_elementData_4 (k := 1) rfl ?_
  refine jm_qald C hw (t0 := 2) h7 rfl (by omega) (by omega) (by omega) rd_AL_elementData_5 ?_
  rw [Int.toNat_natCast, h6 i (by omega), hx]
  exact jm_ret_q C rfl (Or.inl ⟨_, rfl⟩) (Or.inr ⟨_, rfl⟩) hw ⟨rfl, rfl⟩ (Nat.le_refl _) (Nat.le_refl _) rd_AL_elementData_6
set_option maxHeartbeats 1000000 in
theorem cj_JPre_checkIndex (hZ : jl_ZK Z sq iad z0 zi mi) {M : jm_M} {i n : Int} (hi0 : 0 ≤ i) (hi1 : i < n) (hn : n < 100000) : jm_Met l D jk_cl (jl_ty cI cR cO cB) Z mn_JPre_checkIndex (.code mn_JPre_checkIndex mb_JPre_checkIndex 3 (some .int) :: jk_WA) (jk_rx 0 0 0 0) [jk_V i, jk_V n, .null] M (fun v M' => v = some (jk_V i) ∧ M' = M) 0 0 := by
  refine jm_body (by decide +kernel) (fun p ev s m args below meth cod w hw hz hin C => ?_) (Nat.le_of_ble_eq_true rfl)
  refine jk_iload_n C rd_JPre_checkIndex_0 (k := 0) rfl ?_
  refine jr_if_lt C rd_JPre_checkIndex_1 (tgt := 9) rfl ⟨by omega, by omega⟩ (fun hc => absurd hc (by omega)) (fun _ => ?_)
  refine jk_iload_n C rd_JPre_checkIndex_4 (k := 0) rfl ?_
  refine jk_iload_n C rd_JPre_checkIndex_5 (k := 1) rfl ?_
  refine jr_icmp_lt C rd_JPre_checkIndex_6 (tgt := 16) rfl ⟨by omega, by omega⟩ ⟨by omega, by omega⟩ (fun _ => ?_) (fun hc => absurd hi1 hc)
  refine jk_iload_n C rd_JPre_checkIndex_16 (k := 0) rfl ?_
  exact jm_ret_i C hw ⟨rfl, rfl⟩ (Nat.le_refl _) (Nat.le_refl _) rd_JPre_checkIndex_17
set_option maxHeartbeats 1000000 in
theorem ct_JObj_checkIndex (hZ : jl_ZK Z sq iad z0 zi mi) {M : jm_M} {i n : Int} (hi0 : 0 ≤ i) (hi1 : i < n) (hn : n < 100000) : jm_Met l D jk_cl (jl_ty cI cR cO cB) Z mn_JObj_checkIndex (.code mn_JObj_checkIndex mb_JObj_checkIndex 2 (some .int) :: jk_WA) (jk_rx 1 0 0 22) [jk_V i, jk_V n] M (fun v M' => v = some (jk_V i) ∧ M' = M) 0 0 := by
  refine jm_body (by decide +kernel) (fun p ev s m args below meth cod w hw hz hin C => ?_) (Nat.le_of_ble_eq_true rfl)
  refine jk_iload_n C rd_JObj_checkIndex_0 (k := 0) rfl ?_
  refine jk_iload_n C rd_JObj_checkIndex_1 (k := 1) rfl ?_
  refine jr_null C rd_JObj_checkIndex_2 ?_
  refine jm_callS C hZ.1.1 hz hw (cj_JPre_checkIndex l D cI cR cO cB hZ (M := M) hi0 hi1 hn) lk_JObj_105 xw_JPre_checkIndex iw_JPre cw_JPre_checkIndex na_JPre_checkIndex ⟨Nat.le_of_ble_eq_true rfl, Nat.le_of_ble_eq_true rfl⟩ rfl (st := []) rfl (Nat.le_of_ble_eq_true rfl) rd_JObj_checkIndex_3 ⟨Nat.le_of_ble_eq_true rfl, Nat.le_of_ble_eq_true rfl⟩ (fun v w1 hp2 => ?_)
  obtain ⟨rfl, hM1⟩ := hp2
  exact jm_ret_i C hM1 ⟨rfl, rfl⟩ (Nat.le_refl _) (Nat.le_refl _) rd_JObj_checkIndex_6
set_option maxHeartbeats 1000000 in
theorem ct_AL_get (hZ : jl_ZK Z sq iad z0 zi mi) {M : jm_M} {ow : Nat → Nat} {t a : Nat} {xs : List Nat} {i x : Nat} (hL : jl_AL cO z0 ow M t a xs) (hx : xs[i]? = some x) : jm_Met l D jk_cl (jl_ty cI cR cO cB) Z mn_AL_get (.code mn_AL_get mb_AL_get 2 (some (.object "java/lang/Object")) :: jk_WA) (jk_rx 2 0 0 43) [.ref a, jk_V ((i : Int))] M (fun v M' => v = some (.ref x) ∧ M' = M) 0 0 := by
  have hi : i < xs.length := (List.getElem?_eq_some_iff.mp hx).1
  have hL0 := hL
  obtain ⟨mc, e, cap, g, h1, h7, h4, h5, h6, h2, h8⟩ := hL0.opn hi
  refine jm_body (by decide +kernel) (fun p ev s m args below meth cod w hw hz hin C => ?_) (Nat.le_of_ble_eq_true rfl)
  refine jk_iload_n C rd_AL_get_0 (k := 1) rfl ?_
  refine jk_aload_n C rd_AL_get_1 (k := 0) rfl ?_
  refine jm_get C hw in_AL (ci := 14) rfl 2 (Nat.le_of_ble_eq_true rfl) lk_AL_48 h1 rfl rd_AL_get_2 ?_
  refine jm_callS C hZ.1.1 hz hw (ct_JObj_checkIndex l D cI cR cO cB hZ (M := M) (i := (i : Int)) (n := (xs.length : Int)) (by omega) (by omega) (by omega)) lk_AL_118 xw_JObj_checkIndex iw_JObj cw_JObj_checkIndex na_JObj_checkIndex ⟨Nat.le_of_ble_eq_true rfl, Nat.le_of_ble_eq_true rfl⟩ rfl (st := []) rfl (Nat.le_of_ble_eq_true rfl) rd_AL_get_5 ⟨Nat.le_of_ble_eq_true rfl, Nat.le_of_ble_eq_true rfl⟩ (fun v w1 hp2 => ?_)
  obtain ⟨rfl, hM1⟩ := hp2
  refine jk_pop C rd_AL_get_8 rfl ?_
  refine jk_aload_n C rd_AL_get_9 (k := 0) rfl ?_
  refine jk_iload_n C rd_AL_get_10 (k := 1) rfl ?_
  refine jm_callV C hZ.1.1 hz hM1 (ct_AL_elementData l D cI cR cO cB hZ hL hx) lk_AL_123 xw_AL_elementData sw_AL_elementData iw_AL cw_AL_elementData na_AL_elementData ⟨Nat.le_of_ble_eq_true rfl, Nat.le_of_ble_eq_true rfl⟩ rfl h1 rfl rfl (st := []) rfl (Nat.le_of_ble_eq_true rfl) rd_AL_get_11 ⟨Nat.le_of_ble_eq_true rfl, Nat.le_of_ble_eq_true rfl⟩ (fun v w3 hp4 => ?_)
  obtain ⟨rfl, hM2⟩ := hp4
  exact jm_ret_q C rfl (Or.inl ⟨_, rfl⟩) (Or.inr ⟨_, rfl⟩) hM2 ⟨rfl, rfl⟩ (Nat.le_refl _) (Nat.le_refl _) rd_AL_get_14
end AL1
