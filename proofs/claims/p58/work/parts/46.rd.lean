/-! the reader: made; a cord taken out of all lists -/
def jX_cur (ls : Nat → List Nat) (c : Nat) (b : Bool) (o : Nat) : List Nat := if b = true then (ls o).filter (fun x => decide (x ≠ c)) else ls o
def jX_rch (ls : Nat → List Nat) (c : Nat) : Nat → Nat → Nat → Prop
  | 0, _, _ => False
  | d + 1, o, y => o = y ∨ ∃ x ∈ ls o, x ≠ c ∧ jX_rch ls c d x y
def jX_st (cO : ClassId) (z0 : Nat) (ow : Nat → Nat) (M : jm_M) (la : Nat → Nat) (ls : Nat → List Nat) (c r : Nat) (b : Bool) (P Q : Nat → Prop) : Prop :=
  (∀ o, Q o → jl_AL cO z0 ow M (8 * o + 2) (la o) (jX_cur ls c b o)) ∧ (∀ x, P x → (∃ f0 f1 f2, M x = some (.inr (11, [f0, f1, f2, .ref (la x)]))) ∧ ow x = 8 * x) ∧ (∃ fs, M r = some (.inr (13, fs))) ∧ ow r = 8 * r
/-- what is said of the lists -/
def jX_ok (ls : Nat → List Nat) (c p : Nat) (od : Nat → Nat) (P Q : Nat → Prop) : Prop :=
  (∀ x, P x → Q x) ∧ (∀ o, Q o → od o ≤ 3 ∧ (ls o).Nodup ∧ (ls o).length ≤ 40 ∧ (c ∈ ls o → o = p) ∧ ∀ x ∈ ls o, P x ∧ od x = od o + 1)
def jX_T (Q : Nat → Prop) : Nat → Prop := fun z => ∃ o, Q o ∧ z = 8 * o + 2
theorem jX_sub {ls : Nat → List Nat} {c o x : Nat} {b : Bool} (h : x ∈ jX_cur ls c b o) : x ∈ ls o := by
  unfold jX_cur at h
  split at h
  · exact (List.mem_filter.mp h).1
  · exact h
theorem jX_no {ls : Nat → List Nat} {c o : Nat} (h : c ∉ ls o) (b : Bool) : jX_cur ls c b o = ls o := by
  unfold jX_cur
  split
  · exact List.filter_eq_self.mpr (fun x hx => by simp only [decide_eq_true_eq]; exact fun z => h (z ▸ hx))
  · rfl
theorem jX_f {ls : Nat → List Nat} {c o : Nat} {b : Bool} (h : c ∈ jX_cur ls c b o) : b = false := by
  cases b with
  | false => rfl
  | true =>
    have h2 := (List.mem_filter.mp (show c ∈ (ls o).filter (fun x => decide (x ≠ c)) from h)).2
    simp at h2
theorem jX_cut {ls : Nat → List Nat} {c o : Nat} {a r : List Nat} (hn : (ls o).Nodup) (h : ls o = a ++ c :: r) : (ls o).eraseIdx a.length = a ++ r ∧ jX_cur ls c true o = a ++ r := by
  have e1 : (ls o).eraseIdx a.length = a ++ r := by
    rw [h, List.eraseIdx_append_of_length_le (Nat.le_refl _), Nat.sub_self]
    rfl
  refine ⟨e1, ?_⟩
  show (ls o).filter (fun x => decide (x ≠ c)) = _
  rw [h] at hn ⊢
  obtain ⟨-, n2, n3⟩ := List.nodup_append.mp hn
  have n4 := (List.nodup_cons.mp n2).1
  rw [List.filter_append, List.filter_cons]
  rw [if_neg (by simp)]
  congr 1
  · exact List.filter_eq_self.mpr (fun x hx => by simp only [decide_eq_true_eq]; exact fun z => n3 x hx c List.mem_cons_self z)
  · exact List.filter_eq_self.mpr (fun x hx => by simp only [decide_eq_true_eq]; exact fun z => n4 (z ▸ hx))
theorem jX_st.fr {cO : ClassId} {z0 : Nat} {ow ow' : Nat → Nat} {M M' : jm_M} {la : Nat → Nat} {ls : Nat → List Nat} {c r : Nat} {b : Bool} {P Q T : Nat → Prop} (h : jX_st cO z0 ow M la ls c r b P Q) (hF : jl_FrP ow M ow' M' T) (h2 : ∀ o, Q o → ¬ T (8 * o + 2)) (h0 : ∀ o, P o → ¬ T (8 * o)) (hr : ¬ T (8 * r)) : jX_st cO z0 ow' M' la ls c r b P Q := by
  obtain ⟨a1, a2, ⟨fs, a3⟩, a4⟩ := h
  refine ⟨fun o ho => (a1 o ho).fr hF (h2 o ho), fun x hx => ?_, ⟨fs, (hF _ _ a3).2.2 (by rw [a4]; exact hr)⟩, (hF _ _ a3).1.trans a4⟩
  obtain ⟨⟨f0, f1, f2, a5⟩, a6⟩ := a2 x hx
  exact ⟨⟨f0, f1, f2, (hF _ _ a5).2.2 (by rw [a6]; exact h0 x hx)⟩, (hF _ _ a5).1.trans a6⟩
/-- one list written anew, all else as it was -/
theorem jX_st.cutd {cO : ClassId} {z0 : Nat} {ow ow' : Nat → Nat} {M M' : jm_M} {la : Nat → Nat} {ls : Nat → List Nat} {c r p o : Nat} {od : Nat → Nat} {P Q : Nat → Prop} (hok : jX_ok ls c p od P Q) (h : jX_st cO z0 ow M la ls c r false P Q) (hF : jl_Fr ow M ow' M' (8 * o + 2)) (ho : Q o) (hco : c ∈ ls o) (hA : jl_AL cO z0 ow' M' (8 * o + 2) (la o) (jX_cur ls c true o)) : jX_st cO z0 ow' M' la ls c r true P Q := by
  obtain ⟨a1, a2, ⟨fs, a3⟩, a4⟩ := h
  refine ⟨fun o' ho' => ?_, fun x hx => ?_, ⟨fs, (hF _ _ a3).2.2 (by rw [a4]; omega)⟩, (hF _ _ a3).1.trans a4⟩
  · by_cases hq : o' = o
    · subst hq; exact hA
    · have e1 := (hok.2 o ho).2.2.2.1 hco
      have e2 : c ∉ ls o' := fun z => hq (((hok.2 o' ho').2.2.2.1 z).trans e1.symm)
      have h9 := (a1 o' ho').fr hF (by omega)
      rw [jX_no e2] at h9 ⊢
      exact h9
  · obtain ⟨⟨f0, f1, f2, a5⟩, a6⟩ := a2 x hx
    exact ⟨⟨f0, f1, f2, (hF _ _ a5).2.2 (by rw [a6]; omega)⟩, (hF _ _ a5).1.trans a6⟩
section RD4
variable (l : Launch) (D : va_G) {Z : (Nat → Prop) → State → Heap → Prop} {sq iad : Nat → Nat} {z0 zi mi : Nat} (cI cR cO cB : ClassId)
set_option maxHeartbeats 2000000 in
theorem ct_Rd_removesFrom (hZ : jl_ZK Z sq iad z0 zi mi) {la : Nat → Nat} {ls : Nat → List Nat} {c p r : Nat} {od : Nat → Nat} {P Q : Nat → Prop} (hok : jX_ok ls c p od P Q) : ∀ (d : Nat) {ow : Nat → Nat} {M : jm_M} {b : Bool} {o : Nat}, jX_st cO z0 ow M la ls c r b P Q → Q o → od o + d = 4 → jm_Met l D jk_cl (jl_ty cI cR cO cB) Z mn_Rd_removesFrom (.code mn_Rd_removesFrom mb_Rd_removesFrom 5 none :: jk_WA) (jk_rx (6 + d) 0 0 (120 + d * 24)) [.ref r, .ref ((la o)), .ref c] M (fun v M' => v = none ∧ ∃ ow' b', jX_st cO z0 ow' M' la ls c r b' P Q ∧ (b = true → b' = true) ∧ (b = false → b' = true → od p ≥ od o) ∧ (∀ y, jX_rch ls c d o y → c ∈ ls y → b' = true) ∧ jl_FrP ow M ow' M' (jX_T Q)) 0 0 := by
  intro d
  induction d with
  | zero => intro ow M b o _ ho h; exact absurd (hok.2 o ho).1 (by omega)
  | succ d ih =>
    intro ow M b o hst ho hod
    have hA := hst.1 o ho
    have hcl : (jX_cur ls c b o).length ≤ 40 := by have := (hok.2 o ho).2.2.1; unfold jX_cur; split; exact Nat.le_trans (List.length_filter_le _ _) this; exact this
    refine jm_body (by decide +kernel) (fun p9 ev s m args below meth cod w hw hz hin C => ?_) (Nat.le_of_ble_eq_true rfl)
    obtain ⟨mc1, e1, _, _, hc1, -⟩ := id hA
    refine jk_aload_n C rd_Rd_removesFrom_0 (k := 1) rfl ?_
    refine jm_callF C (x := ⟨"java/util/List", "size", "()I"⟩) (q := ("java/util/ArrayList", tb_AL, 3)) (ci := 14) hZ.1.1 hz hw (ct_AL_size l D cI cR cO cB hZ hA) (ff_AL_size hZ.1 hz) (fg_AL_size lk_Rd_63) cw_AL_size nf_AL_size ⟨by dsimp only [jk_rx]; omega, by dsimp only [jk_rx]; omega⟩ rfl hc1 rfl (st := []) rfl (Nat.le_of_ble_eq_true rfl) rd_Rd_removesFrom_1 ⟨by dsimp only [jk_rx]; omega, by dsimp only [jk_rx]; omega⟩ (fun v w1 hp2 => ?_)
    obtain ⟨rfl, hs1⟩ := hp2
    refine jk_iconst C rd_Rd_removesFrom_6 ?_
    refine jk_isub C rd_Rd_removesFrom_7 ?_
    refine jk_istore_n C rd_Rd_removesFrom_8 (Nat.le_of_ble_eq_true rfl) rfl ?_
    have key : ∀ (Q0 : State → Prop) (n : Nat) (a r0 r1 : List Nat) (bi : Bool) (owi : Nat → Nat) (Mi : jm_M) (ws : va_W) (hq0 : a.length = n), jX_cur ls c b o = a ++ r0 → jX_cur ls c bi o = a ++ r1 → jm_lk ws = Mi → jX_st cO z0 owi Mi la ls c r bi P Q → (b = true → bi = true) → (b = false → bi = true → od p ≥ od o) → (∀ x ∈ r0, (x = c → bi = true) ∧ (x ≠ c → ∀ y, jX_rch ls c d x y → c ∈ ls y → bi = true)) → jl_FrP ow M owi Mi (jX_T Q) → (∀ (bi : Bool) (owi : Nat → Nat) (Mi : jm_M) (ws : va_W) (lvx : List (Nat × Value)), jm_lk ws = Mi → jX_st cO z0 owi Mi la ls c r bi P Q → (b = true → bi = true) → (b = false → bi = true → od p ≥ od o) → (∀ x ∈ jX_cur ls c b o, (x = c → bi = true) ∧ (x ≠ c → ∀ y, jX_rch ls c d x y → c ∈ ls y → bi = true)) → jl_FrP ow M owi Mi (jX_T Q) → jk_J p9 l ev (jk_rx (6 + (d + 1)) 0 0 (120 + (d + 1) * 24)) s m args below meth cod 0 0 Q0 D jk_cl (va_A w s.heap.size) 5 ws lvx 63 []) → jk_J p9 l ev (jk_rx (6 + (d + 1)) 0 0 (120 + (d + 1) * 24)) s m args below meth cod 0 0 Q0 D jk_cl (va_A w s.heap.size) 5 ws [(3, jk_V ((n : Int) - 1)), (0, .ref r), (1, .ref ((la o))), (2, .ref c)] 9 [] := by
      intro Q0 n
      induction n with
      | zero =>
        intro a r0 r1 bi owi Mi ws hal hys hcur hws hsi hm1 hm2 hpr hFi hex
        refine jk_iload_n C rd_Rd_removesFrom_9 (k := 0) rfl ?_
        refine jr_if_lt C rd_Rd_removesFrom_10 (tgt := 63) rfl ⟨by omega, by omega⟩ (fun _ => ?_) (fun hc => absurd (by omega) hc)
        have ha0 := List.length_eq_zero_iff.mp hal
        rw [ha0, List.nil_append] at hys
        rw [← hys] at hpr
        exact hex bi owi Mi _ _ hws hsi hm1 hm2 hpr hFi
      | succ n ihn =>
        intro a r0 r1 bi owi Mi ws hal hys hcur hws hsi hm1 hm2 hpr hFi hex
        refine jk_iload_n C rd_Rd_removesFrom_9 (k := 0) rfl ?_
        have hal2 := congrArg List.length hys
        rw [List.length_append] at hal2
        refine jr_if_lt C rd_Rd_removesFrom_10 (tgt := 63) rfl ⟨by omega, by omega⟩ (fun hc => absurd hc (by omega)) (fun _ => ?_)
        rw [show ((n + 1 : Nat) : Int) - 1 = (n : Int) by omega]
        obtain ⟨a, x, rfl⟩ : ∃ a2 x, a = a2 ++ [x] := ⟨a.dropLast, a.getLast (fun z => by rw [z] at hal; cases hal), (List.dropLast_concat_getLast _).symm⟩
        rw [List.length_append] at hal
        have hal3 : a.length = n := by change a.length + 1 = n + 1 at hal; omega
        rw [List.append_assoc, List.singleton_append] at hys hcur
        have hxi : (jX_cur ls c bi o)[n]? = some x := by rw [hcur, List.getElem?_append_right (by omega), hal3, Nat.sub_self]; rfl
        have hxm : x ∈ ls o := jX_sub (List.mem_of_getElem? hxi)
        obtain ⟨hPx, hox⟩ := (hok.2 o ho).2.2.2.2 x hxm
        obtain ⟨⟨f0, f1, f2, hxc⟩, -⟩ := hsi.2.1 x hPx
        have hAi := hsi.1 o ho
        obtain ⟨mc2, e2, _, _, hc2, -⟩ := id hAi
        refine jk_aload_n C rd_Rd_removesFrom_13 (k := 2) rfl ?_
        refine jk_iload_n C rd_Rd_removesFrom_14 (k := 0) rfl ?_
        refine jm_callF C (x := ⟨"java/util/List", "get", "(I)Ljava/lang/Object;"⟩) (q := ("java/util/ArrayList", tb_AL, 3)) (ci := 14) hZ.1.1 hz hws (ct_AL_get l D cI cR cO cB hZ hAi hxi) (ff_AL_get hZ.1 hz) (fg_AL_get lk_Rd_67) cw_AL_get nf_AL_get ⟨by dsimp only [jk_rx]; omega, by dsimp only [jk_rx]; omega⟩ rfl hc2 rfl (st := []) rfl (Nat.le_of_ble_eq_true rfl) rd_Rd_removesFrom_15 ⟨by dsimp only [jk_rx]; omega, by dsimp only [jk_rx]; omega⟩ (fun v w101 hp102 => ?_)
        obtain ⟨rfl, hg1⟩ := hp102
        refine jk_aload_n C rd_Rd_removesFrom_20 (k := 3) rfl ?_
        refine jr_acmp_ne C rd_Rd_removesFrom_21 (rx := some x) (ry := some c) (tgt := 39) rfl (fun hd => ?_) (fun hd => ?_)
        · have hxne : x ≠ c := fun q => hd (by rw [q])
          refine jk_aload_n C rd_Rd_removesFrom_39 (k := 1) rfl ?_
          refine jk_aload_n C rd_Rd_removesFrom_40 (k := 2) rfl ?_
          refine jk_iload_n C rd_Rd_removesFrom_41 (k := 0) rfl ?_
          refine jm_callF C (x := ⟨"java/util/List", "get", "(I)Ljava/lang/Object;"⟩) (q := ("java/util/ArrayList", tb_AL, 3)) (ci := 14) hZ.1.1 hz hg1 (ct_AL_get l D cI cR cO cB hZ hAi hxi) (ff_AL_get hZ.1 hz) (fg_AL_get lk_Rd_67) cw_AL_get nf_AL_get ⟨by dsimp only [jk_rx]; omega, by dsimp only [jk_rx]; omega⟩ rfl hc2 rfl (st := [.ref r]) rfl (Nat.le_of_ble_eq_true rfl) rd_Rd_removesFrom_42 ⟨by dsimp only [jk_rx]; omega, by dsimp only [jk_rx]; omega⟩ (fun v w103 hp104 => ?_)
          obtain ⟨rfl, hg2⟩ := hp104
          refine jr_castS C hg2 hxc (ci := 11) rfl lk_Rd_38 rd_Rd_removesFrom_47 ?_
          refine jm_getN C hg2 in_Cd (ci := 11) rfl 3 (Nat.le_of_ble_eq_true rfl) (jk_nw hZ.1 hz lk_Rd_37) hxc rfl rd_Rd_removesFrom_50 ?_
          refine jk_aload_n C rd_Rd_removesFrom_53 (k := 3) rfl ?_
          obtain ⟨fsr, hrr⟩ := hsi.2.2.1
          refine jm_callV C hZ.1.1 hz hg2 (ih (b := bi) (o := x) hsi (hok.1 x hPx) (by omega)) lk_Rd_111 xw_Rd_removesFrom sw_Rd_removesFrom iw_Rd cw_Rd_removesFrom na_Rd_removesFrom ⟨by dsimp only [jk_rx]; omega, by dsimp only [jk_rx]; omega⟩ rfl hrr rfl rfl (st := []) rfl (Nat.le_of_ble_eq_true rfl) rd_Rd_removesFrom_54 ⟨by dsimp only [jk_rx]; omega, by dsimp only [jk_rx]; omega⟩ (fun v w105 hp106 => ?_)
          obtain ⟨rfl, ow2, b2, hs2, hb1, hb2, hb3, hF2⟩ := hp106
          refine jk_iinc C rd_Rd_removesFrom_57 (k := 0) rfl (Nat.le_of_ble_eq_true rfl) rfl ?_
          refine jk_goto C rd_Rd_removesFrom_60 (tgt := 9) rfl ?_
          refine jk_lv [0, 1, 2, 3] rfl ?_
          have hcur2 : jX_cur ls c b2 o = a ++ (x :: r1) := by
            rw [← hcur]
            cases hbi : bi with
            | true => rw [hb1 hbi]
            | false =>
              cases hb2e : b2 with
              | false => rfl
              | true =>
                have h8 := hb2 hbi hb2e
                have h9 : c ∉ ls o := fun z => by have := (hok.2 o ho).2.2.2.1 z; rw [this] at hox; omega
                rw [jX_no h9, jX_no h9]
          refine ihn a (x :: r0) (x :: r1) b2 ow2 _ _ hal3 hys hcur2 rfl hs2 (fun z => hb1 (hm1 z)) (fun z1 z2 => ?_) (fun y hy => ?_) (hFi.trans hF2) hex
          · cases hbi : bi with
            | true => exact hm2 z1 hbi
            | false => have := hb2 hbi z2; omega
          · rcases List.mem_cons.mp hy with rfl | hy
            · exact ⟨fun z => absurd z hxne, fun _ y hy hcy => hb3 y hy hcy⟩
            · exact ⟨fun z => hb1 ((hpr y hy).1 z), fun z y2 hy2 hc2 => hb1 ((hpr y hy).2 z y2 hy2 hc2)⟩
        · have hxe := Option.some.inj hd
          subst hxe
          have hbi := jX_f (List.mem_of_getElem? hxi)
          subst hbi
          obtain ⟨ecut1, ecut2⟩ := jX_cut (hok.2 o ho).2.1 (show ls o = a ++ x :: r1 from hcur)
          refine jk_aload_n C rd_Rd_removesFrom_24 (k := 2) rfl ?_
          refine jk_iload_n C rd_Rd_removesFrom_25 (k := 0) rfl ?_
          refine jm_callF C (x := ⟨"java/util/List", "remove", "(I)Ljava/lang/Object;"⟩) (q := ("java/util/ArrayList", tb_AL, 3)) (ci := 14) hZ.1.1 hz hg1 (ct_AL_remove l D cI cR cO cB hZ hAi hxi (fun y hy => Or.inl (by obtain ⟨⟨g0, g1, g2, hg⟩, -⟩ := hsi.2.1 y ((hok.2 o ho).2.2.2.2 y (jX_sub hy)).1; exact ⟨_, hg⟩))) (ff_AL_remove hZ.1 hz) (fg_AL_remove lk_Rd_115) cw_AL_remove nf_AL_remove ⟨by dsimp only [jk_rx]; omega, by dsimp only [jk_rx]; omega⟩ rfl hc2 rfl (st := []) rfl (Nat.le_of_ble_eq_true rfl) rd_Rd_removesFrom_26 ⟨by dsimp only [jk_rx]; omega, by dsimp only [jk_rx]; omega⟩ (fun v w107 hp108 => ?_)
          obtain ⟨rfl, hA2, hF2⟩ := hp108
          have hs2 := jX_st.cutd hok hsi hF2 ho hxm (by rw [ecut2, ← ecut1, hal3]; exact hA2)
          obtain ⟨⟨g0, g1, g2, hxc2⟩, -⟩ := hs2.2.1 x hPx
          refine jr_castS C rfl hxc2 (ci := 11) rfl lk_Rd_38 rd_Rd_removesFrom_31 ?_
          refine jr_astore C rd_Rd_removesFrom_34 (Nat.le_of_ble_eq_true rfl) rfl ?_
          refine jk_goto C rd_Rd_removesFrom_36 (tgt := 57) rfl ?_
          refine jk_iinc C rd_Rd_removesFrom_57 (k := 1) rfl (Nat.le_of_ble_eq_true rfl) rfl ?_
          refine jk_goto C rd_Rd_removesFrom_60 (tgt := 9) rfl ?_
          refine jk_lv [0, 2, 3, 4] rfl ?_
          refine ihn a (x :: r0) r1 true owi _ _ hal3 hys ecut2 rfl hs2 (fun _ => rfl) (fun _ _ => ?_) (fun y hy => ?_) (hFi.trans (hF2.wide (fun z hz => ⟨o, ho, hz⟩))) hex
          · rw [← (hok.2 o ho).2.2.2.1 hxm]; exact Nat.le_refl _
          · exact ⟨fun _ => rfl, fun _ _ _ _ => rfl⟩
    refine jk_lv [0, 1, 2, 3] rfl ?_
    refine key _ (jX_cur ls c b o).length (jX_cur ls c b o) [] [] b ow M _ rfl (List.append_nil _).symm (List.append_nil _).symm hs1 hst id (fun z1 z2 => by rw [z1] at z2; cases z2) (fun x hx => by cases hx) jl_FrP.rf (fun bi owi Mi ws lvx hws hsi hm1 hm2 hpr hFi => ?_)
    refine jm_ret_v C hws ⟨rfl, owi, bi, hsi, hm1, hm2, fun y hy hcy => ?_, hFi⟩ (Nat.le_refl _) (Nat.le_refl _) rd_Rd_removesFrom_63
    cases hb : b with
    | true => exact hm1 hb
    | false =>
      rw [hb] at hpr
      rw [jX_rch] at hy
      rcases hy with rfl | ⟨x, hx, hxc, hy⟩
      · exact (hpr c hcy).1 rfl
      · exact (hpr x hx).2 hxc y hy hcy
def jX_tn (tp : Nat → Option Nat) (c cu : Nat) : Option Nat := if tp cu = some c then none else tp cu
def jX_T2 (Q : Nat → Prop) (cs : List Nat) : Nat → Prop := fun z => jX_T Q z ∨ ∃ cu ∈ cs, z = 8 * cu
set_option maxHeartbeats 4000000 in
theorem ct_Rd_removes (hZ : jl_ZK Z sq iad z0 zi mi) {la : Nat → Nat} {ls : Nat → List Nat} {c p r : Nat} {od : Nat → Nat} {P Q : Nat → Prop} {tp : Nat → Option Nat} {ow : Nat → Nat} {M : jm_M} {rc ro rd ri : Nat} {cs os ds is : List Nat} (hok : jX_ok ls c p od P Q) (hst : jX_st cO z0 ow M la ls c r false P Q) (hR : jl_Rd cO z0 ow M r rc ro rd ri cs os ds is) (hrQ : ¬ Q r) (hcu : ∀ cu ∈ cs, M cu = some (.inr (12, [va_rf (tp cu), .ref (la cu)])) ∧ ow cu = 8 * cu ∧ Q cu ∧ od cu = 0) (hcs : cs.length ≤ 10) : jm_Met l D jk_cl (jl_ty cI cR cO cB) Z mn_Rd_removes (.code mn_Rd_removes mb_Rd_removes 4 none :: jk_WA) (jk_rx 11 1 4 240) [.ref r, .ref c] M (fun v M' => v = none ∧ ∃ ow' b', jX_st cO z0 ow' M' la ls c r b' P Q ∧ jl_Rd cO z0 ow' M' r rc ro rd ri cs os ds is ∧ (∀ cu ∈ cs, M' cu = some (.inr (12, [va_rf (jX_tn tp c cu), .ref (la cu)])) ∧ ow' cu = 8 * cu) ∧ (∀ cu ∈ cs, ∀ y, jX_rch ls c 4 cu y → c ∈ ls y → b' = true) ∧ jl_FrP ow M ow' M' (jX_T2 Q cs)) 1 4 := by
  obtain ⟨mc, e, cap, g, l1, l2, l3, l4, l5, l6⟩ := hR.2.2.1
  refine jm_body (by decide +kernel) (fun p9 ev s m args below meth cod w hw hz hin C => ?_) (Nat.le_of_ble_eq_true rfl)
  refine jk_aload_n C rd_Rd_removes_0 (k := 0) rfl ?_
  refine jm_get C hw in_Rd (ci := 13) rfl 0 (Nat.le_of_ble_eq_true rfl) lk_Rd_10 hR.1 rfl rd_Rd_removes_1 ?_
  refine jm_callF C (x := ⟨"java/util/List", "iterator", "()Ljava/util/Iterator;"⟩) (q := ("java/util/ArrayList", tb_AL, 3)) (ci := 14) hZ.1.1 hz hw (ct_AL_iterator l D cI cR cO cB hZ l1) (ff_AL_iterator hZ.1 hz) (fg_AL_iterator lk_Rd_42) cw_AL_iterator nf_AL_iterator ⟨by dsimp only [jk_rx]; omega, by dsimp only [jk_rx]; omega⟩ rfl l1 rfl (st := []) rfl (Nat.le_of_ble_eq_true rfl) rd_Rd_removes_4 ⟨by dsimp only [jk_rx]; omega, by dsimp only [jk_rx]; omega⟩ (fun v w1 hp2 => ?_)
  obtain ⟨q, rfl, hqn, hW9⟩ := hp2
  refine jr_astore_n C rd_Rd_removes_9 (Nat.le_of_ble_eq_true rfl) rfl ?_
  have F4 := jl_FrP.new (ow := ow) (t := 7) (T := fun _ => False) hW9 hqn
  have hR4 := hR.fr F4 (fun _ _ z => z)
  have hst4 := hst.fr F4 (fun _ _ z => z) (fun _ _ z => z) id
  have hT7 : ¬ jX_T2 Q cs 7 := fun z => by rcases z with ⟨o, -, z⟩ | ⟨o, -, z⟩ <;> omega
  have hTr : ∀ j, j < 6 → ¬ jX_T2 Q cs (8 * r + j) := fun j hj z => by
    rcases z with ⟨o, ho, z⟩ | ⟨o, ho, z⟩
    · have : o = r := by omega
      exact hrQ (this ▸ ho)
    · have : o = r := by omega
      exact hrQ (this ▸ (hcu o ho).2.2.1)
  have hT0 : ∀ {z}, jX_T Q z → jX_T2 Q cs z := fun h => Or.inl h
  obtain ⟨hl1, -, hl1b⟩ := F4 _ _ l1
  refine jk_lv [0, 1, 2] rfl ?_
  have key : ∀ (Q0 : State → Prop) (suf pre : List Nat) (rr : Value) (bi : Bool) (ti : Nat → Option Nat) (owi : Nat → Nat) (Mi : jm_M) (ws : va_W), cs = pre ++ suf → jm_lk ws = Mi → jX_st cO z0 owi Mi la ls c r bi P Q → jl_Rd cO z0 owi Mi r rc ro rd ri cs os ds is → (∀ cu ∈ cs, Mi cu = some (.inr (12, [va_rf (ti cu), .ref (la cu)])) ∧ owi cu = 8 * cu) → (∀ cu, ti cu = tp cu ∨ ti cu = jX_tn tp c cu) → (∀ cu ∈ pre, ti cu = jX_tn tp c cu ∧ ∀ y, jX_rch ls c 4 cu y → c ∈ ls y → bi = true) → jl_FrP ow M owi Mi (jX_T2 Q cs) → owi q = 7 → Mi q = some (.inr (15, [jk_V (pre.length : Int), rr, jk_V mc, .ref rc])) → Mi rc = some (.inr (14, [jk_V mc, .ref e, jk_V (cs.length : Int)])) → (suf ≠ [] → Mi e = some (jm_Q cO cap g)) → owi rc = 8 * r + 2 → (suf ≠ [] → owi e = 8 * r + 2) → (∀ (bi : Bool) (ti : Nat → Option Nat) (owi : Nat → Nat) (Mi : jm_M) (ws : va_W) (lvx : List (Nat × Value)), jm_lk ws = Mi → jX_st cO z0 owi Mi la ls c r bi P Q → jl_Rd cO z0 owi Mi r rc ro rd ri cs os ds is → (∀ cu ∈ cs, Mi cu = some (.inr (12, [va_rf (ti cu), .ref (la cu)])) ∧ owi cu = 8 * cu) → (∀ cu ∈ cs, ti cu = jX_tn tp c cu ∧ ∀ y, jX_rch ls c 4 cu y → c ∈ ls y → bi = true) → jl_FrP ow M owi Mi (jX_T2 Q cs) → jk_J p9 l ev (jk_rx 11 1 4 240) s m args below meth cod 1 4 Q0 D jk_cl (va_A w s.heap.size) 4 ws lvx 54 []) → jk_J p9 l ev (jk_rx 11 1 4 240) s m args below meth cod 1 4 Q0 D jk_cl (va_A w s.heap.size) 4 ws [(2, .ref q), (0, .ref r), (1, .ref c)] 10 [] := by
    intro Q0 suf
    induction suf with
    | nil =>
      intro pre rr bi ti owi Mi ws hxs hws hsi hRi hci hti hpr hFi hoq hq hb he hob hoe hex
      have hlen2 := congrArg List.length hxs
      rw [List.append_nil] at hlen2
      refine jk_aload_n C rd_Rd_removes_10 (k := 0) rfl ?_
      refine jm_callF C (x := ⟨"java/util/Iterator", "hasNext", "()Z"⟩) (q := ("java/util/ArrayList$Itr", tb_It, 4)) (ci := 15) hZ.1.1 hz hws (ct_It_hasNext l D cI cR cO cB hZ hq hb ⟨by omega, by omega⟩ ⟨by omega, by omega⟩) (ff_It_hasNext hZ.1 hz) (fg_It_hasNext lk_Rd_46) cw_It_hasNext nf_It_hasNext ⟨by dsimp only [jk_rx]; omega, by dsimp only [jk_rx]; omega⟩ rfl hq rfl (st := []) rfl (Nat.le_of_ble_eq_true rfl) rd_Rd_removes_11 ⟨by dsimp only [jk_rx]; omega, by dsimp only [jk_rx]; omega⟩ (fun v w101 hp102 => ?_)
      obtain ⟨rfl, hv1⟩ := hp102
      rw [if_pos (by omega : (pre.length : Int) = (cs.length : Int))]
      refine jr_if_eq C rd_Rd_removes_16 (tgt := 54) rfl ⟨by omega, by omega⟩ (fun _ => ?_) (fun hc => absurd rfl hc)
      rw [List.append_nil] at hxs
      rw [← hxs] at hpr
      exact hex bi ti owi Mi _ _ hv1 hsi hRi hci hpr hFi
    | cons cu suf ihs =>
      intro pre rr bi ti owi Mi ws hxs hws hsi hRi hci hti hpr hFi hoq hq hb he hob hoe hex
      have hlen2 := congrArg List.length hxs
      rw [List.length_append, List.length_cons] at hlen2
      have hcm : cu ∈ cs := by rw [hxs]; exact List.mem_append_right _ List.mem_cons_self
      obtain ⟨hk1, hk2⟩ := hci cu hcm
      obtain ⟨hcu1, hcu2, hcu3, hcu4⟩ := hcu cu hcm
      have l7 := he (List.cons_ne_nil _ _)
      have hoe := hoe (List.cons_ne_nil _ _)
      refine jk_aload_n C rd_Rd_removes_10 (k := 0) rfl ?_
      refine jm_callF C (x := ⟨"java/util/Iterator", "hasNext", "()Z"⟩) (q := ("java/util/ArrayList$Itr", tb_It, 4)) (ci := 15) hZ.1.1 hz hws (ct_It_hasNext l D cI cR cO cB hZ hq hb ⟨by omega, by omega⟩ ⟨by omega, by omega⟩) (ff_It_hasNext hZ.1 hz) (fg_It_hasNext lk_Rd_46) cw_It_hasNext nf_It_hasNext ⟨by dsimp only [jk_rx]; omega, by dsimp only [jk_rx]; omega⟩ rfl hq rfl (st := []) rfl (Nat.le_of_ble_eq_true rfl) rd_Rd_removes_11 ⟨by dsimp only [jk_rx]; omega, by dsimp only [jk_rx]; omega⟩ (fun v w101 hp102 => ?_)
      obtain ⟨rfl, hv1⟩ := hp102
      rw [if_neg (by omega : ¬ (pre.length : Int) = (cs.length : Int))]
      refine jr_if_eq C rd_Rd_removes_16 (tgt := 54) rfl ⟨by omega, by omega⟩ (fun hc => absurd hc (by omega)) (fun _ => ?_)
      refine jk_aload_n C rd_Rd_removes_19 (k := 0) rfl ?_
      refine jm_callF C (x := ⟨"java/util/Iterator", "next", "()Ljava/lang/Object;"⟩) (q := ("java/util/ArrayList$Itr", tb_It, 4)) (ci := 15) hZ.1.1 hz hv1 (ct_It_next l D cI cR cO cB hZ hq hb l7 (by omega) l4 l5 (x := cu) (by rw [l6 _ (by omega), hxs, List.getElem?_append_right (Nat.le_refl _), Nat.sub_self]; rfl)) (ff_It_next hZ.1 hz) (fg_It_next lk_Rd_52) cw_It_next nf_It_next ⟨by dsimp only [jk_rx]; omega, by dsimp only [jk_rx]; omega⟩ rfl hq rfl (st := []) rfl (Nat.le_of_ble_eq_true rfl) rd_Rd_removes_20 ⟨by dsimp only [jk_rx]; omega, by dsimp only [jk_rx]; omega⟩ (fun v w103 hp104 => ?_)
      obtain ⟨rfl, hv2⟩ := hp104
      obtain ⟨M5, hM5⟩ : ∃ M5 : jm_M, M5 = jm_up Mi q (.inr (15, [jk_V ((pre.length : Int) + 1), jk_V (pre.length : Int), jk_V mc, .ref rc])) := ⟨_, rfl⟩
      rw [← hM5] at hv2
      have G5 := jl_Fr.put (t := 7) hM5 hoq
      have hR5 := hRi.fr G5 (fun jj hj z => by omega)
      have hs5 := hsi.fr G5 (fun _ _ z => by omega) (fun _ _ z => by omega) (fun z => by omega)
      have F5i := hFi.putnew hM5 hqn
      have hci5 : ∀ cu ∈ cs, M5 cu = some (.inr (12, [va_rf (ti cu), .ref (la cu)])) ∧ owi cu = 8 * cu := fun x hx => ⟨jm_keep hM5 (hci x hx).1 (jm_nek (hci x hx).1 hq rfl), (hci x hx).2⟩
      have hk15 := (hci5 cu hcm).1
      have hq5 := jm_this hM5
      have hb5 := jm_keep hM5 hb (jm_nek hb hq rfl)
      have he5 := jm_keep hM5 l7 (jm_nek l7 hq rfl)
      refine jr_castS C hv2 hk15 (ci := 12) rfl lk_Rd_71 rd_Rd_removes_25 ?_
      refine jr_astore_n C rd_Rd_removes_28 (Nat.le_of_ble_eq_true rfl) rfl ?_
      have tail42 : ∀ (t2 : Nat → Option Nat) (Mb : jm_M) (ws : va_W), jm_lk ws = Mb → jX_st cO z0 owi Mb la ls c r bi P Q → jl_Rd cO z0 owi Mb r rc ro rd ri cs os ds is → (∀ cu ∈ cs, Mb cu = some (.inr (12, [va_rf (t2 cu), .ref (la cu)])) ∧ owi cu = 8 * cu) → (∀ cu, t2 cu = tp cu ∨ t2 cu = jX_tn tp c cu) → (∀ x, x = cu ∨ ti x = jX_tn tp c x → t2 x = jX_tn tp c x) → jl_FrP ow M owi Mb (jX_T2 Q cs) → Mb q = some (.inr (15, [jk_V ((pre.length : Int) + 1), jk_V (pre.length : Int), jk_V mc, .ref rc])) → Mb rc = some (.inr (14, [jk_V mc, .ref e, jk_V (cs.length : Int)])) → Mb e = some (jm_Q cO cap g) → jk_J p9 l ev (jk_rx 11 1 4 240) s m args below meth cod 1 4 Q0 D jk_cl (va_A w s.heap.size) 4 ws [(3, .ref cu), (2, .ref q), (0, .ref r), (1, .ref c)] 42 [] := by
        intro t2 Mb ws hws hsb hRb hcb ht2 ht3 hFb hqb hbb heb
        refine jk_aload_n C rd_Rd_removes_42 (k := 2) rfl ?_
        refine jk_aload_n C rd_Rd_removes_43 (k := 0) rfl ?_
        refine jm_getN C hws in_Cu (ci := 12) rfl 1 (Nat.le_of_ble_eq_true rfl) (jk_nw hZ.1 hz lk_Rd_77) (hcb cu hcm).1 rfl rd_Rd_removes_44 ?_
        refine jk_aload_n C rd_Rd_removes_47 (k := 3) rfl ?_
        obtain ⟨fsr, hrr⟩ := hsb.2.2.1
        refine jm_callV C hZ.1.1 hz hws (ct_Rd_removesFrom l D cI cR cO cB hZ hok 4 (b := bi) (o := cu) hsb hcu3 (by omega)) lk_Rd_111 xw_Rd_removesFrom sw_Rd_removesFrom iw_Rd cw_Rd_removesFrom na_Rd_removesFrom ⟨by dsimp only [jk_rx]; omega, by dsimp only [jk_rx]; omega⟩ rfl hrr rfl rfl (st := []) rfl (Nat.le_of_ble_eq_true rfl) rd_Rd_removes_48 ⟨by dsimp only [jk_rx]; omega, by dsimp only [jk_rx]; omega⟩ (fun v w201 hp202 => ?_)
        obtain ⟨rfl, ow6, b6, hs6, hb1, -, hb3, hF6⟩ := hp202
        have hF6w := hF6.wide (fun z hz => hT0 hz)
        refine jk_goto C rd_Rd_removes_51 (tgt := 10) rfl ?_
        refine jk_lv [1, 2, 3] rfl ?_
        have h2r : ¬ jX_T Q (8 * r + 2) := fun z => hTr 2 (by omega) (hT0 z)
        refine ihs (pre ++ [cu]) _ b6 t2 ow6 _ _ (by rw [hxs, List.append_assoc]; rfl) rfl hs6 (hRb.fr hF6 (fun j hj z => hTr j hj (hT0 z))) (fun x hx => ⟨(hF6 _ _ (hcb x hx).1).2.2 (by rw [(hcb x hx).2]; exact fun z => by obtain ⟨o, ho, z⟩ := z; omega), (hF6 _ _ (hcb x hx).1).1.trans (hcb x hx).2⟩) ht2 (fun x hx => ?_) (hFb.trans hF6w) ((hF6 _ _ hqb).1.trans hoq) (by rw [List.length_append]; exact (hF6 _ _ hqb).2.2 (by rw [hoq]; exact fun z => hT7 (hT0 z))) ((hF6 _ _ hbb).2.2 (by rw [hob]; exact h2r)) (fun _ => (hF6 _ _ heb).2.2 (by rw [hoe]; exact h2r)) ((hF6 _ _ hbb).1.trans hob) (fun _ => (hF6 _ _ heb).1.trans hoe) hex
        rcases List.mem_append.mp hx with hx | hx
        · exact ⟨ht3 x (Or.inr (hpr x hx).1), fun y hy hcy => hb1 ((hpr x hx).2 y hy hcy)⟩
        · rw [List.mem_singleton.mp hx]; exact ⟨ht3 cu (Or.inl rfl), hb3⟩
      refine jk_lv [0, 1, 2, 3] rfl ?_
      refine jk_aload_n C rd_Rd_removes_29 (k := 0) rfl ?_
      refine jm_getN C hv2 in_Cu (ci := 12) rfl 0 (Nat.le_of_ble_eq_true rfl) (jk_nw hZ.1 hz lk_Rd_73) hk15 rfl rd_Rd_removes_30 ?_
      refine jk_aload_n C rd_Rd_removes_33 (k := 3) rfl ?_
      refine jr_acmp_ne C rd_Rd_removes_34 (rx := ti cu) (ry := some c) (tgt := 42) rfl (fun hd => ?_) (fun hd => ?_)
      · refine tail42 ti M5 _ hv2 hs5 hR5 hci5 hti (fun x hx => ?_) F5i hq5 hb5 he5
        rcases hx with rfl | hx
        · rcases hti x with h | h
          · rw [h]; unfold jX_tn; rw [if_neg (by rw [← h]; exact hd)]
          · exact h
        · exact hx
      · refine jk_aload_n C rd_Rd_removes_37 (k := 0) rfl ?_
        refine jr_null C rd_Rd_removes_38 ?_
        refine jm_putN C hv2 in_Cu (ty0 := tf_Cu) ty_Cu nm_Cu (ci := 12) rfl 0 (Nat.le_of_ble_eq_true rfl) (jk_nw hZ.1 hz lk_Rd_73) rfl rfl rfl hk15 (Nat.le_of_ble_eq_true rfl) rd_Rd_removes_39 (fun w105 hw105 => ?_)
        obtain ⟨M106, hM106⟩ : ∃ Mx : jm_M, Mx = jm_up M5 cu (.inr (12, [.null, .ref ((la cu))])) := ⟨_, rfl⟩
        replace hw105 : jm_lk w105 = M106 := by rw [hM106]; exact hw105
        have hc106_cu := jm_this hM106
        have G6 := jl_Fr.put (t := 8 * cu) hM106 hk2
        have hcr : cu ≠ r := fun z => hrQ (z ▸ hcu3)
        have hcq := jm_nek hq5 hk15 rfl
        have hcb := jm_nek hb5 hk15 rfl
        have hce := jm_nek he5 hk15 rfl
        have hto : ti cu = tp cu := (hti cu).resolve_right (fun z => by rw [hd] at z; unfold jX_tn at z; split at z; cases z; rename_i hn; exact hn z.symm)
        refine tail42 (fun x => if x = cu then none else ti x) _ _ hw105 (hs5.fr G6 (fun _ _ z => by omega) (fun x hx z => ?_) (fun z => by omega)) (hR5.fr G6 (fun j hj z => by omega)) (fun x hx => ?_) (fun x => ?_) (fun x hx => ?_) (F5i.trans (G6.wide (fun z hz => Or.inr ⟨cu, hcm, hz⟩))) (jm_keep hM106 hq5 hcq) (jm_keep hM106 hb5 hcb) (jm_keep hM106 he5 hce)
        · have : x = cu := by omega
          obtain ⟨⟨f0, f1, f2, h8⟩, -⟩ := hs5.2.1 x hx
          rw [this, hk15] at h8; cases h8
        · by_cases hxc : x = cu
          · subst hxc; refine ⟨?_, hk2⟩; rw [if_pos rfl]; exact jm_this hM106
          · refine ⟨?_, (hci5 x hx).2⟩; rw [if_neg hxc]; exact jm_keep hM106 (hci5 x hx).1 hxc
        · by_cases hxc : x = cu
          · subst hxc; rw [if_pos rfl]; refine Or.inr ?_; unfold jX_tn; rw [if_pos (hto.symm.trans hd)]
          · rw [if_neg hxc]; exact hti x
        · by_cases hxc : x = cu
          · subst hxc; rw [if_pos rfl]; unfold jX_tn; rw [if_pos (hto.symm.trans hd)]
          · rw [if_neg hxc]; exact hx.resolve_left hxc
  refine key _ cs [] _ false tp _ _ _ rfl rfl hst4 hR4 (fun x hx => ⟨(F4 _ _ (hcu x hx).1).2.2 id, (F4 _ _ (hcu x hx).1).1.trans (hcu x hx).2.1⟩) (fun _ => Or.inl rfl) (fun x hx => by cases hx) (F4.wide (fun _ z => absurd z id)) (if_pos rfl) (by rw [hW9]; exact jm_up_s) (hl1b id) (fun hne => ?_) (hl1.trans l2) (fun hne => ?_) (fun bi ti owi Mi ws lvx hws hsi hRi hci hpr hFi => ?_)
  · rcases l3 with ⟨z, -⟩ | ⟨-, z, -⟩
    · exact absurd (List.length_eq_zero_iff.mp (by omega)) hne
    · exact (F4 _ _ z).2.2 id
  · rcases l3 with ⟨z, -⟩ | ⟨-, z, z2⟩
    · exact absurd (List.length_eq_zero_iff.mp (by omega)) hne
    · exact (F4 _ _ z).1.trans z2
  · refine jm_ret_v C hws ⟨rfl, owi, bi, hsi, hRi, fun x hx => ⟨?_, (hci x hx).2⟩, fun x hx => (hpr x hx).2, hFi⟩ (by omega) (by omega) rd_Rd_removes_54
    rw [← (hpr x hx).1]; exact (hci x hx).1
end RD4
