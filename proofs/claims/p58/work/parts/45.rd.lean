/-! the reader: places, the only nibbled cord, guesses, reasons -/
def jR_only (S : jl_S) (L : List (Nat × Nat × Nat)) (j : Nat) : Option Nat := (L.find? (fun p => decide (p.2.2 = j) && decide (0 < jS_nb S p.1))).map (fun p => p.1)
def jR_gv (S : jl_S) (K : jl_K) (t x cu : Nat) : Int := if x = t then jK_sum S K cu else jS_kv S t - jK_sum S K cu + jS_kv S x
def jR_fit (f g : Int → Int) : Nat → Int → Bool
  | 0, _ => true
  | n + 1, i => decide (f i = g i) && jR_fit f g n (i + 1)
def jR_rs (S : jl_S) (K : jl_K) (L : List (Nat × Nat × Nat)) (cu j : Nat) : Int := match jK_tp K cu with
  | none => 1
  | some t => if jK_nib S K cu = 0 then 2 else if 1 < jK_nib S K cu then 3 else match jR_only S L j with
    | none => 0
    | some x => if jR_gv S K t x cu < 0 ∨ 9999 < jR_gv S K t x cu then 4 else if jR_fit (jl_dgs (fun _ => 0) (jR_gv S K t x cu)) (jS_dg S x) (4 - (jS_nb S x).toNat) (jS_nb S x) then 0 else 4
section JR4
variable {p : Program} {l : Launch} {e : Env} {R : Room} {s : State} {m : MethodId} {args : Array Value} {below : List Frame} {meth : Method} {c : Code} {cells slots : Nat} {Q : State → Prop} {D : va_G} {cl : List vw_C} {A : Nat → Prop} {nL : Nat} {ws : va_W} {lv lv' : List (Nat × Value)} {pc : Nat} {st : List Value}
variable {cc : ByteArray} {own nm : String} {tys : List (ClassId × FieldType)} {ret : Option FieldType} {a index : Nat} {M : jm_M}
theorem jr_castE (C : jk_C p s m args meth c cc own nL jk_WA D cl tys A ret) (hr : ∀ (H : Heap) (locs : List Loc), va_P D cl ws H → va_S A s.heap H locs → ∃ cell : Cell, H[a]? = some cell ∧ cell.vm.isStatics = false ∧ s.vm.findClass nm = some cell.cls) (hlink : Cond.classLink own index nm ∈ jk_WA) (hdg : decode cc pc = .ok (.checkcast index, 3)) (kk : jk_J p l e R s m args below meth c cells slots Q D cl A nL ws lv (pc + 3) (.ref a :: st)) : jk_J p l e R s m args below meth c cells slots Q D cl A nL ws lv pc (.ref a :: st) :=
  fun H locs ls hl hP hD hS => va_castE C.1.1 C.1.2.1 C.1.2.2.2.1 (C.1.2.2.2.2 _ hlink) (hr H locs hP hS) hdg (kk H locs ls hl hP hD hS)
end JR4
section RD3
variable (l : Launch) (D : va_G) {Z : (Nat → Prop) → State → Heap → Prop} {sq iad : Nat → Nat} {z0 zi mi : Nat} (cI cR cO cB : ClassId)
set_option maxHeartbeats 1000000 in
theorem ct_Rd_indexOf (hZ : jl_ZK Z sq iad z0 zi mi) {S : jl_S} {P : Nat → Prop} {ow : Nat → Nat} {M : jm_M} {r rc ro rd ri : Nat} {cs : List Nat} {L : List (Nat × Nat × Nat)} {c k : Nat} (hR : jl_Rd cO z0 ow M r rc ro rd ri cs (jl_lo L) (jl_ld iad L) (jl_li iad L)) (hL60 : L.length ≤ 60) (hk : (jl_lo L)[k]? = some c) (hf : ∀ j, j < k → (jl_lo L)[j]? ≠ some c) : jm_Met l D jk_cl (jl_ty cI cR cO cB) Z mn_Rd_indexOf (.code mn_Rd_indexOf mb_Rd_indexOf 3 (some .int) :: jk_WA) (jk_rx 3 0 0 64) [.ref r, .ref c] M (fun v M' => v = some (jk_V (k : Int)) ∧ M' = M) 0 0 := by
  refine jm_body (by decide +kernel) (fun p ev s m args below meth cod w hw hz hin C => ?_) (Nat.le_of_ble_eq_true rfl)
  refine jk_iconst C rd_Rd_indexOf_0 ?_
  refine jk_istore_n C rd_Rd_indexOf_1 (Nat.le_of_ble_eq_true rfl) rfl ?_
  have hlo := jl_lo_len L
  have hkl : k < (jl_lo L).length := (List.getElem?_eq_some_iff.mp hk).1
  have key : ∀ (Q0 : State → Prop) (n i : Nat) (ws : va_W), i + n = k → jm_lk ws = M → (∀ ws, jm_lk ws = M → jk_J p l ev (jk_rx 3 0 0 64) s m args below meth cod 0 0 Q0 D jk_cl (va_A w s.heap.size) 3 ws [(2, jk_V ((k : Int))), (1, .ref c), (0, .ref r)] 29 []) → jk_J p l ev (jk_rx 3 0 0 64) s m args below meth cod 0 0 Q0 D jk_cl (va_A w s.heap.size) 3 ws [(2, jk_V ((i : Int))), (1, .ref c), (0, .ref r)] 2 [] := by
    intro Q0 n
    induction n with
    | zero =>
      intro i ws hik hws hex
      obtain ⟨mc1, e1, _, _, hc1, -⟩ := id hR.2.2.2.1
      refine jk_iload_n C rd_Rd_indexOf_2 (k := 0) rfl ?_
      refine jk_aload_n C rd_Rd_indexOf_3 (k := 2) rfl ?_
      refine jm_get C hws in_Rd (ci := 13) rfl 1 (Nat.le_of_ble_eq_true rfl) lk_Rd_16 hR.1 rfl rd_Rd_indexOf_4 ?_
      refine jm_callF C (x := ⟨"java/util/List", "size", "()I"⟩) (q := ("java/util/ArrayList", tb_AL, 3)) (ci := 14) hZ.1.1 hz hws (ct_AL_size l D cI cR cO cB hZ hR.2.2.2.1) (ff_AL_size hZ.1 hz) (fg_AL_size lk_Rd_63) cw_AL_size nf_AL_size ⟨Nat.le_of_ble_eq_true rfl, Nat.le_of_ble_eq_true rfl⟩ rfl hc1 rfl (st := [jk_V ((i : Int))]) rfl (Nat.le_of_ble_eq_true rfl) rd_Rd_indexOf_7 ⟨Nat.le_of_ble_eq_true rfl, Nat.le_of_ble_eq_true rfl⟩ (fun v w101 hp102 => ?_)
      obtain ⟨rfl, hs1⟩ := hp102
      refine jr_icmp_ge C rd_Rd_indexOf_12 (tgt := 37) rfl ⟨by omega, by omega⟩ ⟨by omega, by omega⟩ (fun hc => absurd (by omega) hc) (fun _ => ?_)
      refine jk_aload_n C rd_Rd_indexOf_15 (k := 2) rfl ?_
      refine jm_get C hs1 in_Rd (ci := 13) rfl 1 (Nat.le_of_ble_eq_true rfl) lk_Rd_16 hR.1 rfl rd_Rd_indexOf_16 ?_
      refine jk_iload_n C rd_Rd_indexOf_19 (k := 0) rfl ?_
      have hki : (jl_lo L)[i]? = some c := by rw [← hk]; congr 1
      refine jm_callF C (x := ⟨"java/util/List", "get", "(I)Ljava/lang/Object;"⟩) (q := ("java/util/ArrayList", tb_AL, 3)) (ci := 14) hZ.1.1 hz hs1 (ct_AL_get l D cI cR cO cB hZ hR.2.2.2.1 hki) (ff_AL_get hZ.1 hz) (fg_AL_get lk_Rd_67) cw_AL_get nf_AL_get ⟨Nat.le_of_ble_eq_true rfl, Nat.le_of_ble_eq_true rfl⟩ rfl hc1 rfl (st := []) rfl (Nat.le_of_ble_eq_true rfl) rd_Rd_indexOf_20 ⟨Nat.le_of_ble_eq_true rfl, Nat.le_of_ble_eq_true rfl⟩ (fun v w103 hp104 => ?_)
      obtain ⟨rfl, hg1⟩ := hp104
      refine jk_aload_n C rd_Rd_indexOf_25 (k := 1) rfl ?_
      refine jr_acmp_ne C rd_Rd_indexOf_26 (rx := some c) (ry := some c) (tgt := 31) rfl (fun hc => absurd rfl hc) (fun _ => ?_)
      have hik2 : i = k := by omega
      subst hik2
      exact hex _ hg1
    | succ n ih =>
      intro i ws hik hws hex
      obtain ⟨mc1, e1, _, _, hc1, -⟩ := id hR.2.2.2.1
      refine jk_iload_n C rd_Rd_indexOf_2 (k := 0) rfl ?_
      refine jk_aload_n C rd_Rd_indexOf_3 (k := 2) rfl ?_
      refine jm_get C hws in_Rd (ci := 13) rfl 1 (Nat.le_of_ble_eq_true rfl) lk_Rd_16 hR.1 rfl rd_Rd_indexOf_4 ?_
      refine jm_callF C (x := ⟨"java/util/List", "size", "()I"⟩) (q := ("java/util/ArrayList", tb_AL, 3)) (ci := 14) hZ.1.1 hz hws (ct_AL_size l D cI cR cO cB hZ hR.2.2.2.1) (ff_AL_size hZ.1 hz) (fg_AL_size lk_Rd_63) cw_AL_size nf_AL_size ⟨Nat.le_of_ble_eq_true rfl, Nat.le_of_ble_eq_true rfl⟩ rfl hc1 rfl (st := [jk_V ((i : Int))]) rfl (Nat.le_of_ble_eq_true rfl) rd_Rd_indexOf_7 ⟨Nat.le_of_ble_eq_true rfl, Nat.le_of_ble_eq_true rfl⟩ (fun v w101 hp102 => ?_)
      obtain ⟨rfl, hs1⟩ := hp102
      refine jr_icmp_ge C rd_Rd_indexOf_12 (tgt := 37) rfl ⟨by omega, by omega⟩ ⟨by omega, by omega⟩ (fun hc => absurd (by omega) hc) (fun _ => ?_)
      refine jk_aload_n C rd_Rd_indexOf_15 (k := 2) rfl ?_
      refine jm_get C hs1 in_Rd (ci := 13) rfl 1 (Nat.le_of_ble_eq_true rfl) lk_Rd_16 hR.1 rfl rd_Rd_indexOf_16 ?_
      refine jk_iload_n C rd_Rd_indexOf_19 (k := 0) rfl ?_
      obtain ⟨x, hx⟩ : ∃ x, (jl_lo L)[i]? = some x := ⟨_, List.getElem?_eq_getElem (by omega)⟩
      have hxc : x ≠ c := fun z => hf i (by omega) (by rw [hx, z])
      refine jm_callF C (x := ⟨"java/util/List", "get", "(I)Ljava/lang/Object;"⟩) (q := ("java/util/ArrayList", tb_AL, 3)) (ci := 14) hZ.1.1 hz hs1 (ct_AL_get l D cI cR cO cB hZ hR.2.2.2.1 hx) (ff_AL_get hZ.1 hz) (fg_AL_get lk_Rd_67) cw_AL_get nf_AL_get ⟨Nat.le_of_ble_eq_true rfl, Nat.le_of_ble_eq_true rfl⟩ rfl hc1 rfl (st := []) rfl (Nat.le_of_ble_eq_true rfl) rd_Rd_indexOf_20 ⟨Nat.le_of_ble_eq_true rfl, Nat.le_of_ble_eq_true rfl⟩ (fun v w103 hp104 => ?_)
      obtain ⟨rfl, hg1⟩ := hp104
      refine jk_aload_n C rd_Rd_indexOf_25 (k := 1) rfl ?_
      refine jr_acmp_ne C rd_Rd_indexOf_26 (rx := some x) (ry := some c) (tgt := 31) rfl (fun _ => ?_) (fun hc => absurd (Option.some.inj hc) hxc)
      refine jk_iinc C rd_Rd_indexOf_31 (k := 0) rfl (Nat.le_of_ble_eq_true rfl) rfl ?_
      refine jk_goto C rd_Rd_indexOf_34 (tgt := 2) rfl ?_
      exact ih (i + 1) _ (by omega) hg1 hex
  refine jk_lv [0, 2, 1] rfl ?_
  refine key _ k 0 w (by omega) hw (fun ws hws => ?_)
  refine jk_iload_n C rd_Rd_indexOf_29 (k := 0) rfl ?_
  exact jm_ret_i C hws ⟨rfl, rfl⟩ (Nat.le_refl _) (Nat.le_refl _) rd_Rd_indexOf_30
set_option maxHeartbeats 1000000 in
theorem ct_Rd_only (hZ : jl_ZK Z sq iad z0 zi mi) {S : jl_S} {P : Nat → Prop} {ow : Nat → Nat} {M : jm_M} {r rc ro rd ri : Nat} {cs : List Nat} {L : List (Nat × Nat × Nat)} {j : Nat} (hW : jl_W cI cO z0 ow M S P) (hR : jl_Rd cO z0 ow M r rc ro rd ri cs (jl_lo L) (jl_ld iad L) (jl_li iad L)) (hLok : jl_Lok P L) (hL60 : L.length ≤ 60) (hj : j < 100) : jm_Met l D jk_cl (jl_ty cI cR cO cB) Z mn_Rd_only (.code mn_Rd_only mb_Rd_only 3 (some (.object "KnotReaderLaw$Cord")) :: jk_WA) (jk_rx 3 0 0 64) [.ref r, jk_V ((j : Int))] M (fun v M' => v = some (va_rf (jR_only S L j)) ∧ M' = M) 0 0 := by
  refine jm_body (by decide +kernel) (fun p ev s m args below meth cod w hw hz hin C => ?_) (Nat.le_of_ble_eq_true rfl)
  refine jk_iconst C rd_Rd_only_0 ?_
  refine jk_istore_n C rd_Rd_only_1 (Nat.le_of_ble_eq_true rfl) rfl ?_
  have hlo := jl_lo_len L
  have hli := jl_li_len iad L
  have key : ∀ (Q0 : State → Prop) (suf pre : List (Nat × Nat × Nat)) (ws : va_W), L = pre ++ suf → jm_lk ws = M → (∀ ws lvx vx, jm_lk ws = M → vx = va_rf (jR_only S suf j) → jk_J p l ev (jk_rx 3 0 0 64) s m args below meth cod 0 0 Q0 D jk_cl (va_A w s.heap.size) 3 ws lvx 75 [vx]) → (∀ ws lvx vx, jm_lk ws = M → vx = va_rf (jR_only S suf j) → jk_J p l ev (jk_rx 3 0 0 64) s m args below meth cod 0 0 Q0 D jk_cl (va_A w s.heap.size) 3 ws lvx 67 [vx]) → jk_J p l ev (jk_rx 3 0 0 64) s m args below meth cod 0 0 Q0 D jk_cl (va_A w s.heap.size) 3 ws [(2, jk_V ((pre.length : Int))), (1, jk_V ((j : Int))), (0, .ref r)] 2 [] := by
    intro Q0 suf
    induction suf with
    | nil =>
      intro pre ws hxs hws hex hex2
      have hlen := congrArg List.length hxs
      obtain ⟨mc1, e1, _, _, hc1, -⟩ := id hR.2.2.2.1
      obtain ⟨mc2, e2, _, _, hc2, -⟩ := id hR.2.2.2.2.2
      rw [List.append_nil] at hlen
      refine jk_iload_n C rd_Rd_only_2 (k := 0) rfl ?_
      refine jk_aload_n C rd_Rd_only_3 (k := 2) rfl ?_
      refine jm_get C hws in_Rd (ci := 13) rfl 1 (Nat.le_of_ble_eq_true rfl) lk_Rd_16 hR.1 rfl rd_Rd_only_4 ?_
      refine jm_callF C (x := ⟨"java/util/List", "size", "()I"⟩) (q := ("java/util/ArrayList", tb_AL, 3)) (ci := 14) hZ.1.1 hz hws (ct_AL_size l D cI cR cO cB hZ hR.2.2.2.1) (ff_AL_size hZ.1 hz) (fg_AL_size lk_Rd_63) cw_AL_size nf_AL_size ⟨Nat.le_of_ble_eq_true rfl, Nat.le_of_ble_eq_true rfl⟩ rfl hc1 rfl (st := [jk_V ((pre.length : Int))]) rfl (Nat.le_of_ble_eq_true rfl) rd_Rd_only_7 ⟨Nat.le_of_ble_eq_true rfl, Nat.le_of_ble_eq_true rfl⟩ (fun v w101 hp102 => ?_)
      obtain ⟨rfl, hs1⟩ := hp102
      refine jr_icmp_ge C rd_Rd_only_12 (tgt := 74) rfl ⟨by omega, by omega⟩ ⟨by omega, by omega⟩ (fun _ => ?_) (fun hc => absurd hc (by omega))
      refine jr_null C rd_Rd_only_74 ?_
      exact hex _ _ _ hs1 rfl
    | cons p9 suf ih =>
      intro pre ws hxs hws hex hex2
      have hlen := congrArg List.length hxs
      obtain ⟨mc1, e1, _, _, hc1, -⟩ := id hR.2.2.2.1
      obtain ⟨mc2, e2, _, _, hc2, -⟩ := id hR.2.2.2.2.2
      rw [List.length_append, List.length_cons] at hlen
      refine jk_iload_n C rd_Rd_only_2 (k := 0) rfl ?_
      refine jk_aload_n C rd_Rd_only_3 (k := 2) rfl ?_
      refine jm_get C hws in_Rd (ci := 13) rfl 1 (Nat.le_of_ble_eq_true rfl) lk_Rd_16 hR.1 rfl rd_Rd_only_4 ?_
      refine jm_callF C (x := ⟨"java/util/List", "size", "()I"⟩) (q := ("java/util/ArrayList", tb_AL, 3)) (ci := 14) hZ.1.1 hz hws (ct_AL_size l D cI cR cO cB hZ hR.2.2.2.1) (ff_AL_size hZ.1 hz) (fg_AL_size lk_Rd_63) cw_AL_size nf_AL_size ⟨Nat.le_of_ble_eq_true rfl, Nat.le_of_ble_eq_true rfl⟩ rfl hc1 rfl (st := [jk_V ((pre.length : Int))]) rfl (Nat.le_of_ble_eq_true rfl) rd_Rd_only_7 ⟨Nat.le_of_ble_eq_true rfl, Nat.le_of_ble_eq_true rfl⟩ (fun v w101 hp102 => ?_)
      obtain ⟨rfl, hs1⟩ := hp102
      refine jr_icmp_ge C rd_Rd_only_12 (tgt := 74) rfl ⟨by omega, by omega⟩ ⟨by omega, by omega⟩ (fun hc => absurd (by omega) hc) (fun _ => ?_)
      refine jk_aload_n C rd_Rd_only_15 (k := 2) rfl ?_
      refine jm_get C hs1 in_Rd (ci := 13) rfl 3 (Nat.le_of_ble_eq_true rfl) lk_Rd_22 hR.1 rfl rd_Rd_only_16 ?_
      refine jk_iload_n C rd_Rd_only_19 (k := 0) rfl ?_
      have hp9 : L[pre.length]? = some p9 := by rw [hxs, List.getElem?_append_right (Nat.le_refl _), Nat.sub_self]; rfl
      have hgo : (jl_lo L)[pre.length]? = some p9.1 := by rw [jl_lo, List.getElem?_map, hp9]; rfl
      have hgi : (jl_li iad L)[pre.length]? = some (iad (p9.2.2 + 128)) := by rw [jl_li, List.getElem?_map, hp9]; rfl
      obtain ⟨hPx, -, hj9⟩ := hLok p9 (List.mem_of_getElem? hp9)
      obtain ⟨hcd, hnb, -⟩ := hW p9.1 hPx
      refine jm_callF C (x := ⟨"java/util/List", "get", "(I)Ljava/lang/Object;"⟩) (q := ("java/util/ArrayList", tb_AL, 3)) (ci := 14) hZ.1.1 hz hs1 (ct_AL_get l D cI cR cO cB hZ hR.2.2.2.2.2 hgi) (ff_AL_get hZ.1 hz) (fg_AL_get lk_Rd_67) cw_AL_get nf_AL_get ⟨Nat.le_of_ble_eq_true rfl, Nat.le_of_ble_eq_true rfl⟩ rfl hc2 rfl (st := []) rfl (Nat.le_of_ble_eq_true rfl) rd_Rd_only_20 ⟨Nat.le_of_ble_eq_true rfl, Nat.le_of_ble_eq_true rfl⟩ (fun v w103 hp104 => ?_)
      obtain ⟨rfl, hg1⟩ := hp104
      have hrv := (hZ.2 _ s s.heap hz).1.1 (p9.2.2 + 128) (by omega)
      refine jr_castE C (nm := "java/lang/Integer") (fun H locs _ hS => va_Orecv hrv hS) lk_Rd_32 rd_Rd_only_25 ?_
      refine jm_callVr C hZ.1.1 hz hg1 (ct_JInt_intValue l D cI cR cO cB hZ (M := M) (n := p9.2.2) (by omega)) lk_Rd_80 xw_JInt_intValue sw_JInt_intValue iw_JInt cw_JInt_intValue na_JInt_intValue ⟨Nat.le_of_ble_eq_true rfl, Nat.le_of_ble_eq_true rfl⟩ rfl (fun H locs _ hS => va_Orecv hrv hS) (st := []) rfl (Nat.le_of_ble_eq_true rfl) rd_Rd_only_28 ⟨Nat.le_of_ble_eq_true rfl, Nat.le_of_ble_eq_true rfl⟩ (fun v w105 hp106 => ?_)
      obtain ⟨rfl, hg2⟩ := hp106
      refine jk_iload_n C rd_Rd_only_31 (k := 1) rfl ?_
      refine jr_icmp_ne C rd_Rd_only_32 (tgt := 68) rfl ⟨by omega, by omega⟩ ⟨by omega, by omega⟩ (fun hc => ?_) (fun hc => ?_)
      · refine jk_iinc C rd_Rd_only_68 (k := 0) rfl (Nat.le_of_ble_eq_true rfl) rfl ?_
        refine jk_goto C rd_Rd_only_71 (tgt := 2) rfl ?_
        have hno : jR_only S (p9 :: suf) j = jR_only S suf j := by unfold jR_only; rw [List.find?_cons_of_neg]; simp only [Bool.and_eq_true, decide_eq_true_eq]; omega
        have h9 := ih (pre ++ [p9]) _ (by rw [hxs, List.append_assoc]; rfl) hg2 (by rw [← hno]; exact hex) (by rw [← hno]; exact hex2)
        rw [List.length_append] at h9
        exact h9
      · refine jk_aload_n C rd_Rd_only_35 (k := 2) rfl ?_
        refine jm_get C hg2 in_Rd (ci := 13) rfl 1 (Nat.le_of_ble_eq_true rfl) lk_Rd_16 hR.1 rfl rd_Rd_only_36 ?_
        refine jk_iload_n C rd_Rd_only_39 (k := 0) rfl ?_
        refine jm_callF C (x := ⟨"java/util/List", "get", "(I)Ljava/lang/Object;"⟩) (q := ("java/util/ArrayList", tb_AL, 3)) (ci := 14) hZ.1.1 hz hg2 (ct_AL_get l D cI cR cO cB hZ hR.2.2.2.1 hgo) (ff_AL_get hZ.1 hz) (fg_AL_get lk_Rd_67) cw_AL_get nf_AL_get ⟨Nat.le_of_ble_eq_true rfl, Nat.le_of_ble_eq_true rfl⟩ rfl hc1 rfl (st := []) rfl (Nat.le_of_ble_eq_true rfl) rd_Rd_only_40 ⟨Nat.le_of_ble_eq_true rfl, Nat.le_of_ble_eq_true rfl⟩ (fun v w107 hp108 => ?_)
        obtain ⟨rfl, hg3⟩ := hp108
        refine jr_castS C hg3 hcd.1 (ci := 11) rfl lk_Rd_38 rd_Rd_only_45 ?_
        refine jm_getN C hg3 in_Cd (ci := 11) rfl 2 (Nat.le_of_ble_eq_true rfl) (jk_nw hZ.1 hz lk_Rd_83) hcd.1 rfl rd_Rd_only_48 ?_
        refine jr_if_le C rd_Rd_only_51 (tgt := 68) rfl ⟨by omega, by omega⟩ (fun hd => ?_) (fun hd => ?_)
        · refine jk_iinc C rd_Rd_only_68 (k := 0) rfl (Nat.le_of_ble_eq_true rfl) rfl ?_
          refine jk_goto C rd_Rd_only_71 (tgt := 2) rfl ?_
          have hno : jR_only S (p9 :: suf) j = jR_only S suf j := by unfold jR_only; rw [List.find?_cons_of_neg]; simp only [Bool.and_eq_true, decide_eq_true_eq]; omega
          have h9 := ih (pre ++ [p9]) _ (by rw [hxs, List.append_assoc]; rfl) hg3 (by rw [← hno]; exact hex) (by rw [← hno]; exact hex2)
          rw [List.length_append] at h9
          exact h9
        · refine jk_aload_n C rd_Rd_only_54 (k := 2) rfl ?_
          refine jm_get C hg3 in_Rd (ci := 13) rfl 1 (Nat.le_of_ble_eq_true rfl) lk_Rd_16 hR.1 rfl rd_Rd_only_55 ?_
          refine jk_iload_n C rd_Rd_only_58 (k := 0) rfl ?_
          refine jm_callF C (x := ⟨"java/util/List", "get", "(I)Ljava/lang/Object;"⟩) (q := ("java/util/ArrayList", tb_AL, 3)) (ci := 14) hZ.1.1 hz hg3 (ct_AL_get l D cI cR cO cB hZ hR.2.2.2.1 hgo) (ff_AL_get hZ.1 hz) (fg_AL_get lk_Rd_67) cw_AL_get nf_AL_get ⟨Nat.le_of_ble_eq_true rfl, Nat.le_of_ble_eq_true rfl⟩ rfl hc1 rfl (st := []) rfl (Nat.le_of_ble_eq_true rfl) rd_Rd_only_59 ⟨Nat.le_of_ble_eq_true rfl, Nat.le_of_ble_eq_true rfl⟩ (fun v w109 hp110 => ?_)
          obtain ⟨rfl, hg4⟩ := hp110
          refine jr_castS C hg4 hcd.1 (ci := 11) rfl lk_Rd_38 rd_Rd_only_64 ?_
          exact hex2 _ _ _ hg4 (by unfold jR_only; rw [List.find?_cons_of_pos (by simp only [Bool.and_eq_true, decide_eq_true_eq]; omega)]; rfl)
  refine jk_lv [0, 2, 1] rfl ?_
  refine key _ L [] w rfl hw (fun ws lvx vx hws hvx => ?_) (fun ws lvx vx hws hvx => ?_)
  · subst hvx
    exact jm_ret_q C rfl (Or.inl ⟨_, rfl⟩) (va_rf_or _) hws ⟨rfl, rfl⟩ (Nat.le_refl _) (Nat.le_refl _) rd_Rd_only_75
  · subst hvx
    exact jm_ret_q C rfl (Or.inl ⟨_, rfl⟩) (va_rf_or _) hws ⟨rfl, rfl⟩ (Nat.le_refl _) (Nat.le_refl _) rd_Rd_only_67
set_option maxHeartbeats 1000000 in
theorem ct_Rd_guess (hZ : jl_ZK Z sq iad z0 zi mi) {S : jl_S} {K : jl_K} {P : Nat → Prop} {ow : Nat → Nat} {M : jm_M} {r rc ro rd ri : Nat} {cs : List Nat} {L : List (Nat × Nat × Nat)} {j cu t x : Nat} (hW : jl_W cI cO z0 ow M S P) (hR : jl_Rd cO z0 ow M r rc ro rd ri cs (jl_lo L) (jl_ld iad L) (jl_li iad L)) (hC : jl_CS cO z0 ow M S K P cs) (hLok : jl_Lok P L) (hL60 : L.length ≤ 60) (hcs : cs.length ≤ 10) (hg : cs[j]? = some cu) (ht : jK_tp K cu = some t) (hx : jR_only S L j = some x) (hPx : P x) : jm_Met l D jk_cl (jl_ty cI cR cO cB) Z mn_Rd_guess (.code mn_Rd_guess mb_Rd_guess 4 (some .int) :: jk_WA) (jk_rx 13 (jK_siz S K cu) (4 * jK_siz S K cu) 315) [.ref r, jk_V ((j : Int))] M (fun v M' => v = some (jk_V (jR_gv S K t x cu)) ∧ jm_le M M') (jK_siz S K cu) (4 * jK_siz S K cu) := by
  have hcm := List.mem_of_getElem? hg
  have hlo := jl_lo_len L
  have hCu := (hC cu hcm).1
  have hKP := (hC cu hcm).2
  have hjl : j < cs.length := (List.getElem?_eq_some_iff.mp hg).1
  have h1c := hCu.1
  rw [ht] at h1c
  have hcdt := (hW t (hKP.2 t ht).1).1
  have hnbt := (hW t (hKP.2 t ht).1).2.1
  have hcdx := (hW x hPx).1
  have hnbx := (hW x hPx).2.1
  refine jm_body (by decide +kernel) (fun p ev s m args below meth cod w hw hz hin C => ?_) (Nat.le_of_ble_eq_true rfl)
  obtain ⟨mc1, e1, _, _, hc1, -⟩ := id hR.2.2.1
  refine jk_aload_n C rd_Rd_guess_0 (k := 0) rfl ?_
  refine jm_get C hw in_Rd (ci := 13) rfl 0 (Nat.le_of_ble_eq_true rfl) lk_Rd_10 hR.1 rfl rd_Rd_guess_1 ?_
  refine jk_iload_n C rd_Rd_guess_4 (k := 1) rfl ?_
  refine jm_callF C (x := ⟨"java/util/List", "get", "(I)Ljava/lang/Object;"⟩) (q := ("java/util/ArrayList", tb_AL, 3)) (ci := 14) hZ.1.1 hz hw (ct_AL_get l D cI cR cO cB hZ hR.2.2.1 hg) (ff_AL_get hZ.1 hz) (fg_AL_get lk_Rd_67) cw_AL_get nf_AL_get ⟨by dsimp only [jk_rx]; omega, by dsimp only [jk_rx]; omega⟩ rfl hc1 rfl (st := []) rfl (Nat.le_of_ble_eq_true rfl) rd_Rd_guess_5 ⟨by dsimp only [jk_rx]; omega, by dsimp only [jk_rx]; omega⟩ (fun v w1 hp2 => ?_)
  obtain ⟨rfl, hg1⟩ := hp2
  refine jr_castS C hg1 hCu.1 (ci := 12) rfl lk_Rd_71 rd_Rd_guess_10 ?_
  refine jr_astore_n C rd_Rd_guess_13 (Nat.le_of_ble_eq_true rfl) rfl ?_
  refine jk_aload_n C rd_Rd_guess_14 (k := 1) rfl ?_
  refine jk_iload_n C rd_Rd_guess_15 (k := 2) rfl ?_
  refine jm_callV C hZ.1.1 hz hg1 (ct_Rd_only l D cI cR cO cB hZ hW hR hLok (by omega) (by omega)) lk_Rd_87 xw_Rd_only sw_Rd_only iw_Rd cw_Rd_only na_Rd_only ⟨by dsimp only [jk_rx]; omega, by dsimp only [jk_rx]; omega⟩ rfl hR.1 rfl rfl (st := []) rfl (Nat.le_of_ble_eq_true rfl) rd_Rd_guess_16 ⟨by dsimp only [jk_rx]; omega, by dsimp only [jk_rx]; omega⟩ (fun v w3 hp4 => ?_)
  obtain ⟨rfl, hg2⟩ := hp4
  rw [hx]
  change jk_J _ _ _ _ _ _ _ _ _ _ _ _ _ _ _ _ _ _ _ _ [.ref x]
  refine jr_astore_n C rd_Rd_guess_19 (Nat.le_of_ble_eq_true rfl) rfl ?_
  refine jk_aload_n C rd_Rd_guess_20 (k := 0) rfl ?_
  refine jk_aload_n C rd_Rd_guess_21 (k := 1) rfl ?_
  refine jm_getN C hg2 in_Cu (ci := 12) rfl 0 (Nat.le_of_ble_eq_true rfl) (jk_nw hZ.1 hz lk_Rd_73) h1c rfl rd_Rd_guess_22 ?_
  refine jr_acmp_ne C rd_Rd_guess_25 (rx := some x) (ry := some t) (tgt := 35) rfl (fun hd => ?_) (fun hd => ?_)
  · refine jk_aload_n C rd_Rd_guess_35 (k := 1) rfl ?_
    refine jm_getN C hg2 in_Cu (ci := 12) rfl 0 (Nat.le_of_ble_eq_true rfl) (jk_nw hZ.1 hz lk_Rd_73) h1c rfl rd_Rd_guess_36 ?_
    refine jm_callV C hZ.1.1 hz hg2 (ct_Cd_known l D cI cR cO cB hZ hcdt.1 hcdt.2.2.1 hnbt) lk_Rd_94 xw_Cd_known sw_Cd_known iw_Cd cw_Cd_known na_Cd_known ⟨by dsimp only [jk_rx]; omega, by dsimp only [jk_rx]; omega⟩ rfl hcdt.1 rfl rfl (st := []) rfl (Nat.le_of_ble_eq_true rfl) rd_Rd_guess_39 ⟨by dsimp only [jk_rx]; omega, by dsimp only [jk_rx]; omega⟩ (fun v w5 hp6 => ?_)
    obtain ⟨rfl, hg3⟩ := hp6
    refine jk_aload_n C rd_Rd_guess_42 (k := 1) rfl ?_
    refine jm_callV C hZ.1.1 hz hg3 (ct_Cu_sum l D cI cR cO cB hZ hW hCu hKP) lk_Rd_91 xw_Cu_sum sw_Cu_sum iw_Cu cw_Cu_sum na_Cu_sum ⟨by dsimp only [jk_rx]; omega, by dsimp only [jk_rx]; omega⟩ rfl h1c rfl rfl (st := [jk_V ((jS_kv S t))]) rfl (Nat.le_of_ble_eq_true rfl) rd_Rd_guess_43 ⟨by dsimp only [jk_rx]; omega, by dsimp only [jk_rx]; omega⟩ (fun v w7 hp8 => ?_)
    obtain ⟨rfl, hle⟩ := hp8
    refine jk_isub C rd_Rd_guess_46 ?_
    refine jk_aload_n C rd_Rd_guess_47 (k := 0) rfl ?_
    refine jm_callV C hZ.1.1 hz (rfl : jm_lk w7 = _) (ct_Cd_known l D cI cR cO cB hZ (hle _ _ hcdx.1) (hle _ _ hcdx.2.2.1) hnbx) lk_Rd_94 xw_Cd_known sw_Cd_known iw_Cd cw_Cd_known na_Cd_known ⟨by dsimp only [jk_rx]; omega, by dsimp only [jk_rx]; omega⟩ rfl (hle _ _ hcdx.1) rfl rfl (st := [jk_V (((jS_kv S t)) - ((jK_sum S K cu)))]) rfl (Nat.le_of_ble_eq_true rfl) rd_Rd_guess_48 ⟨by dsimp only [jk_rx]; omega, by dsimp only [jk_rx]; omega⟩ (fun v w9 hp10 => ?_)
    obtain ⟨rfl, hg4⟩ := hp10
    refine jk_iadd C rd_Rd_guess_51 ?_
    exact jm_ret_i C hg4 ⟨by unfold jR_gv; rw [if_neg (fun z => hd (by rw [z]))]; rfl, hle⟩ (by omega) (by omega) rd_Rd_guess_52
  · refine jk_aload_n C rd_Rd_guess_28 (k := 1) rfl ?_
    refine jm_callV C hZ.1.1 hz hg2 (ct_Cu_sum l D cI cR cO cB hZ hW hCu hKP) lk_Rd_91 xw_Cu_sum sw_Cu_sum iw_Cu cw_Cu_sum na_Cu_sum ⟨by dsimp only [jk_rx]; omega, by dsimp only [jk_rx]; omega⟩ rfl h1c rfl rfl (st := []) rfl (Nat.le_of_ble_eq_true rfl) rd_Rd_guess_29 ⟨by dsimp only [jk_rx]; omega, by dsimp only [jk_rx]; omega⟩ (fun v w11 hp12 => ?_)
    obtain ⟨rfl, hle⟩ := hp12
    refine jk_goto C rd_Rd_guess_32 (tgt := 52) rfl ?_
    exact jm_ret_i C (rfl : jm_lk w11 = _) ⟨by unfold jR_gv; rw [if_pos (Option.some.inj hd)], hle⟩ (by omega) (by omega) rd_Rd_guess_52
theorem jl_dgs_r {f : Int → Int} {v i : Int} (hv : 0 ≤ v ∧ v ≤ 9999) (hi : 0 ≤ i ∧ i < 4) : 0 ≤ jl_dgs f v i ∧ jl_dgs f v i ≤ 9 := by
  unfold jl_dgs jk_up
  repeat' split
  all_goals omega
set_option maxHeartbeats 4000000 in
theorem ct_Rd_reason (hZ : jl_ZK Z sq iad z0 zi mi) {S : jl_S} {K : jl_K} {P : Nat → Prop} {ow : Nat → Nat} {M : jm_M} {r rc ro rd ri : Nat} {cs : List Nat} {L : List (Nat × Nat × Nat)} {j cu : Nat} (hW : jl_W cI cO z0 ow M S P) (hR : jl_Rd cO z0 ow M r rc ro rd ri cs (jl_lo L) (jl_ld iad L) (jl_li iad L)) (hC : jl_CS cO z0 ow M S K P cs) (hLok : jl_Lok P L) (hL60 : L.length ≤ 60) (hcs : cs.length ≤ 10) (hg : cs[j]? = some cu) (hdg : ∀ x, P x → ∀ i : Int, 0 ≤ i → i < 4 → 0 ≤ jS_dg S x i ∧ jS_dg S x i ≤ 9) (hrng : ∀ t, jK_tp K cu = some t → jk_R (jK_nib S K cu) ∧ (¬ jK_nib S K cu = 0 → ¬ 1 < jK_nib S K cu → ∃ x, jR_only S L j = some x ∧ P x ∧ jk_R (jR_gv S K t x cu))) : jm_Met l D jk_cl (jl_ty cI cR cO cB) Z mn_Rd_reason (.code mn_Rd_reason mb_Rd_reason 8 (some .int) :: jk_WA) (jk_rx 14 (2 * jK_siz S K cu + 3) (8 * jK_siz S K cu + 11) 338) [.ref r, jk_V ((j : Int))] M (fun v M' => v = some (jk_V (jR_rs S K L cu j)) ∧ jm_le M M') (2 * jK_siz S K cu + 3) (8 * jK_siz S K cu + 11) := by
  have hcm := List.mem_of_getElem? hg
  have hCu := (hC cu hcm).1
  have hKP := (hC cu hcm).2
  have hjl : j < cs.length := (List.getElem?_eq_some_iff.mp hg).1
  have h1c := hCu.1
  refine jm_body (by decide +kernel) (fun p ev s m args below meth cod w hw hz hin C => ?_) (Nat.le_of_ble_eq_true rfl)
  obtain ⟨mc1, e1, _, _, hc1, -⟩ := id hR.2.2.1
  refine jk_aload_n C rd_Rd_reason_0 (k := 0) rfl ?_
  refine jm_get C hw in_Rd (ci := 13) rfl 0 (Nat.le_of_ble_eq_true rfl) lk_Rd_10 hR.1 rfl rd_Rd_reason_1 ?_
  refine jk_iload_n C rd_Rd_reason_4 (k := 1) rfl ?_
  refine jm_callF C (x := ⟨"java/util/List", "get", "(I)Ljava/lang/Object;"⟩) (q := ("java/util/ArrayList", tb_AL, 3)) (ci := 14) hZ.1.1 hz hw (ct_AL_get l D cI cR cO cB hZ hR.2.2.1 hg) (ff_AL_get hZ.1 hz) (fg_AL_get lk_Rd_67) cw_AL_get nf_AL_get ⟨by dsimp only [jk_rx]; omega, by dsimp only [jk_rx]; omega⟩ rfl hc1 rfl (st := []) rfl (Nat.le_of_ble_eq_true rfl) rd_Rd_reason_5 ⟨by dsimp only [jk_rx]; omega, by dsimp only [jk_rx]; omega⟩ (fun v w1 hp2 => ?_)
  obtain ⟨rfl, hg1⟩ := hp2
  refine jr_castS C hg1 hCu.1 (ci := 12) rfl lk_Rd_71 rd_Rd_reason_10 ?_
  refine jr_astore_n C rd_Rd_reason_13 (Nat.le_of_ble_eq_true rfl) rfl ?_
  cases ht : jK_tp K cu with
  | none =>
    rw [ht] at h1c
    refine jk_aload_n C rd_Rd_reason_14 (k := 0) rfl ?_
    refine jm_getN C hg1 in_Cu (ci := 12) rfl 0 (Nat.le_of_ble_eq_true rfl) (jk_nw hZ.1 hz lk_Rd_73) h1c rfl rd_Rd_reason_15 ?_
    refine jr_ifnonnullN C rd_Rd_reason_18 ?_
    refine jk_iconst C rd_Rd_reason_21 ?_
    exact jm_ret_i C hg1 ⟨by rw [show jR_rs S K L cu j = 1 by unfold jR_rs; rw [ht]], jm_le.rf⟩ (by omega) (by omega) rd_Rd_reason_22
  | some t =>
    rw [ht] at h1c
    have hcdt := (hW t (hKP.2 t ht).1).1
    have hrg := hrng t ht
    refine jk_aload_n C rd_Rd_reason_14 (k := 0) rfl ?_
    refine jm_getN C hg1 in_Cu (ci := 12) rfl 0 (Nat.le_of_ble_eq_true rfl) (jk_nw hZ.1 hz lk_Rd_73) h1c rfl rd_Rd_reason_15 ?_
    refine jr_ifnonnull C rd_Rd_reason_18 (tgt := 23) rfl ?_
    refine jk_aload_n C rd_Rd_reason_23 (k := 0) rfl ?_
    refine jm_callV C hZ.1.1 hz hg1 (ct_Cu_nibbledOnes l D cI cR cO cB hZ hW hCu hKP) lk_Rd_97 xw_Cu_nibbledOnes sw_Cu_nibbledOnes iw_Cu cw_Cu_nibbledOnes na_Cu_nibbledOnes ⟨by dsimp only [jk_rx]; omega, by dsimp only [jk_rx]; omega⟩ rfl h1c rfl rfl (st := []) rfl (Nat.le_of_ble_eq_true rfl) rd_Rd_reason_24 ⟨by dsimp only [jk_rx]; omega, by dsimp only [jk_rx]; omega⟩ (fun v w3 hp4 => ?_)
    obtain ⟨rfl, hle1⟩ := hp4
    obtain ⟨M1, hM1⟩ : ∃ M1, M1 = jm_lk w3 := ⟨_, rfl⟩
    rw [← hM1] at hle1
    refine jk_istore_n C rd_Rd_reason_27 (Nat.le_of_ble_eq_true rfl) rfl ?_
    refine jk_iload_n C rd_Rd_reason_28 (k := 0) rfl ?_
    refine jr_if_ne C rd_Rd_reason_29 (tgt := 34) rfl hrg.1 (fun hd => ?_) (fun hd => ?_)
    · refine jk_iload_n C rd_Rd_reason_34 (k := 0) rfl ?_
      refine jk_iconst C rd_Rd_reason_35 ?_
      refine jr_icmp_le C rd_Rd_reason_36 (tgt := 41) rfl hrg.1 ⟨by omega, by omega⟩ (fun he => ?_) (fun he => ?_)
      · obtain ⟨x, hx, hPx, hgr⟩ := hrg.2 hd he
        have eR : ∀ z : Int, (if jR_gv S K t x cu < 0 ∨ 9999 < jR_gv S K t x cu then 4 else if jR_fit (jl_dgs (fun _ => 0) (jR_gv S K t x cu)) (jS_dg S x) (4 - (jS_nb S x).toNat) (jS_nb S x) then 0 else 4) = z → jR_rs S K L cu j = z := fun z hz9 => by unfold jR_rs; rw [ht]; refine (if_neg hd).trans ((if_neg he).trans ?_); rw [hx]; exact hz9
        refine jk_aload_n C rd_Rd_reason_41 (k := 2) rfl ?_
        refine jk_iload_n C rd_Rd_reason_42 (k := 3) rfl ?_
        refine jm_callV C hZ.1.1 hz hM1.symm (ct_Rd_guess l D cI cR cO cB hZ (hW.mono hle1) (hR.mono hle1) (hC.mono hle1) hLok hL60 hcs hg ht hx hPx) lk_Rd_100 xw_Rd_guess sw_Rd_guess iw_Rd cw_Rd_guess na_Rd_guess ⟨by dsimp only [jk_rx]; omega, by dsimp only [jk_rx]; omega⟩ rfl (hle1 _ _ hR.1) rfl rfl (st := []) rfl (Nat.le_of_ble_eq_true rfl) rd_Rd_reason_43 ⟨by dsimp only [jk_rx]; omega, by dsimp only [jk_rx]; omega⟩ (fun v w5 hp6 => ?_)
        obtain ⟨rfl, hle2⟩ := hp6
        obtain ⟨M2, hM2⟩ : ∃ M2, M2 = jm_lk w5 := ⟨_, rfl⟩
        rw [← hM2] at hle2
        have hle2 := hle1.trans hle2
        have hR2 := hR.mono hle2
        have hW2 := hW.mono hle2
        refine jk_istore C rd_Rd_reason_46 (Nat.le_of_ble_eq_true rfl) rfl ?_
        refine jk_iload C rd_Rd_reason_48 (k := 0) rfl ?_
        refine jr_if_lt C rd_Rd_reason_50 (tgt := 61) rfl hgr (fun hf => ?_) (fun hf => ?_)
        · refine jk_iconst C rd_Rd_reason_61 ?_
          exact jm_ret_i C hM2.symm ⟨by rw [eR 4 (if_pos (Or.inl hf))], hle2⟩ (by omega) (by omega) rd_Rd_reason_62
        · refine jk_iload C rd_Rd_reason_53 (k := 0) rfl ?_
          refine jk_sipush C rd_Rd_reason_55 (by decide +kernel) ?_
          refine jr_icmp_le C rd_Rd_reason_58 (tgt := 63) rfl hgr ⟨by omega, by omega⟩ (fun hh => ?_) (fun hh => ?_)
          · have hng : ¬ (jR_gv S K t x cu < 0 ∨ 9999 < jR_gv S K t x cu) := by omega
            refine jk_aload_n C rd_Rd_reason_63 (k := 3) rfl ?_
            refine jk_iload_n C rd_Rd_reason_64 (k := 4) rfl ?_
            refine jm_callV C hZ.1.1 hz hM2.symm (ct_Rd_only l D cI cR cO cB hZ hW2 hR2 hLok hL60 (by omega)) lk_Rd_87 xw_Rd_only sw_Rd_only iw_Rd cw_Rd_only na_Rd_only ⟨by dsimp only [jk_rx]; omega, by dsimp only [jk_rx]; omega⟩ rfl hR2.1 rfl rfl (st := []) rfl (Nat.le_of_ble_eq_true rfl) rd_Rd_reason_65 ⟨by dsimp only [jk_rx]; omega, by dsimp only [jk_rx]; omega⟩ (fun v w7 hp8 => ?_)
            obtain ⟨rfl, hg5⟩ := hp8
            rw [hx]
            change jk_J _ _ _ _ _ _ _ _ _ _ _ _ _ _ _ _ _ _ _ _ [.ref x]
            obtain ⟨hcdx, hnbx, -⟩ := hW2 x hPx
            refine jr_astore C rd_Rd_reason_68 (Nat.le_of_ble_eq_true rfl) rfl ?_
            refine jm_new C hg5 in_Cd (ty0 := tf_Cd) ty_Cd lk_Rd_38 nw_Cd iw_Cd (ci := 11) rfl (fs := [.null, jk_V 0, jk_V 0, .null]) (by intro j hj; rcases j with _ | _ | _ | _ | j <;> first | rfl | omega) ⟨by dsimp only [jk_rx]; omega, by dsimp only [jk_rx]; omega⟩ rd_Rd_reason_70 (fun q w90 hqn hw90 => ?_)
            obtain ⟨M9, hM9⟩ : ∃ Mx : jm_M, Mx = jm_up M2 q (.inr (11, [.null, jk_V 0, jk_V 0, .null])) := ⟨_, rfl⟩
            replace hw90 : jm_lk w90 = M9 := by rw [hM9]; exact hw90
            have hne9_x := jm_nen hcdx.1 hqn
            have hc9_x := jm_keep hM9 hcdx.1 hne9_x
            have hne9_kx := jm_nen hcdx.2.2.1 hqn
            have hc9_kx := jm_keep hM9 hcdx.2.2.1 hne9_kx
            have hc9_q := jm_this hM9
            refine jk_dup C rd_Rd_reason_73 rfl ?_
            refine jk_iconst C rd_Rd_reason_74 ?_
            refine jk_iload C rd_Rd_reason_75 (k := 1) rfl ?_
            refine jm_callI C hZ.1.1 hz hw90 (ct_Cd_init l D cI cR cO cB hZ hc9_q ⟨by omega, by omega⟩) lk_Rd_104 xw_Cd_init iw_Cd cw_Cd_init rfl na_Cd_init ⟨by dsimp only [jk_rx]; omega, by dsimp only [jk_rx]; omega⟩ rfl (st := [.ref q]) rfl (Nat.le_of_ble_eq_true rfl) rd_Rd_reason_77 ⟨by dsimp only [jk_rx]; omega, by dsimp only [jk_rx]; omega⟩ (fun v w10 hp11 => ?_)
            obtain ⟨rfl, k9, b9, hk9, hb9, -, i1, i2, i3, i4⟩ := hp11
            obtain ⟨M6, hM6⟩ : ∃ M6, M6 = jm_lk w10 := ⟨_, rfl⟩
            rw [← hM6] at i1 i2 i3 i4
            have hle6 : jm_le M2 M6 := fun b eb hb => i4 b eb (by rw [hM9, jm_up_n (jm_nen hb hqn)]; exact hb) (jm_nen hb hqn)
            refine jr_astore C rd_Rd_reason_80 (Nat.le_of_ble_eq_true rfl) rfl ?_
            refine jk_aload C rd_Rd_reason_82 (k := 1) rfl ?_
            refine jm_getN C hM6.symm in_Cd (ci := 11) rfl 2 (Nat.le_of_ble_eq_true rfl) (jk_nw hZ.1 hz lk_Rd_83) (hle6 _ _ hcdx.1) rfl rd_Rd_reason_84 ?_
            refine jk_istore C rd_Rd_reason_87 (Nat.le_of_ble_eq_true rfl) rfl ?_
            refine jk_lv [0, 2, 1] rfl ?_
            have key : ∀ (Q0 : State → Prop) (c0 c1 n : Nat) (i : Int) (ws : va_W), 0 ≤ i → i + n = 4 → jm_lk ws = M6 → (∀ ws lvx, jm_lk ws = M6 → jR_fit (jl_dgs (fun _ => 0) (jR_gv S K t x cu)) (jS_dg S x) n i = true → jk_J p l ev (jk_rx 14 (2 * jK_siz S K cu + 3) (8 * jK_siz S K cu + 11) 338) s m args below meth cod c0 c1 Q0 D jk_cl (va_A w s.heap.size) 8 ws lvx 122 []) → (∀ ws lvx, jm_lk ws = M6 → ¬ jR_fit (jl_dgs (fun _ => 0) (jR_gv S K t x cu)) (jS_dg S x) n i = true → jk_J p l ev (jk_rx 14 (2 * jK_siz S K cu + 3) (8 * jK_siz S K cu + 11) 338) s m args below meth cod c0 c1 Q0 D jk_cl (va_A w s.heap.size) 8 ws lvx 114 []) → jk_J p l ev (jk_rx 14 (2 * jK_siz S K cu + 3) (8 * jK_siz S K cu + 11) 338) s m args below meth cod c0 c1 Q0 D jk_cl (va_A w s.heap.size) 8 ws [(7, jk_V i), (5, .ref x), (6, .ref q)] 89 [] := by
              intro Q0 c0 c1 n
              induction n with
              | zero =>
                  intro i ws hi0 hin4 hws hex hex2
                  refine jk_iload C rd_Rd_reason_89 (k := 0) rfl ?_
                  refine jk_iconst C rd_Rd_reason_91 ?_
                  refine jr_icmp_ge C rd_Rd_reason_92 (tgt := 122) rfl ⟨by omega, by omega⟩ ⟨by omega, by omega⟩ (fun _ => ?_) (fun hc => absurd hc (by omega))
                  exact hex _ _ hws rfl
              | succ n ih =>
                  intro i ws hi0 hin4 hws hex hex2
                  refine jk_iload C rd_Rd_reason_89 (k := 0) rfl ?_
                  refine jk_iconst C rd_Rd_reason_91 ?_
                  refine jr_icmp_ge C rd_Rd_reason_92 (tgt := 122) rfl ⟨by omega, by omega⟩ ⟨by omega, by omega⟩ (fun hc => absurd hc (by omega)) (fun _ => ?_)
                  refine jk_aload C rd_Rd_reason_95 (k := 2) rfl ?_
                  refine jm_getN C hws in_Cd (ci := 11) rfl 0 (Nat.le_of_ble_eq_true rfl) (jk_nw hZ.1 hz lk_Rd_107) i1 rfl rd_Rd_reason_97 ?_
                  refine jk_iload C rd_Rd_reason_100 (k := 0) rfl ?_
                  refine jm_iald C hws 0 i2 rfl (by omega) (by omega) (by omega) rd_Rd_reason_102 ?_
                  refine jk_aload C rd_Rd_reason_103 (k := 1) rfl ?_
                  refine jm_getN C hws in_Cd (ci := 11) rfl 0 (Nat.le_of_ble_eq_true rfl) (jk_nw hZ.1 hz lk_Rd_107) (hle6 _ _ hcdx.1) rfl rd_Rd_reason_105 ?_
                  refine jk_iload C rd_Rd_reason_108 (k := 0) rfl ?_
                  refine jm_iald C hws 0 (hle6 _ _ hcdx.2.2.1) rfl (by omega) (by omega) (by omega) rd_Rd_reason_110 ?_
                  have hd1 := jl_dgs_r (f := fun _ => 0) (v := jR_gv S K t x cu) (i := i) (by omega) ⟨hi0, by omega⟩
                  have hd2 := hdg x hPx i hi0 (by omega)
                  refine jr_icmp_eq C rd_Rd_reason_111 (tgt := 116) rfl ⟨by omega, by omega⟩ ⟨by omega, by omega⟩ (fun hq => ?_) (fun hq => ?_)
                  · refine jk_iinc C rd_Rd_reason_116 (k := 0) rfl (Nat.le_of_ble_eq_true rfl) rfl ?_
                    refine jk_goto C rd_Rd_reason_119 (tgt := 89) rfl ?_
                    refine jk_lv [0, 1, 2] rfl ?_
                    have ef : jR_fit (jl_dgs (fun _ => 0) (jR_gv S K t x cu)) (jS_dg S x) (n + 1) i = jR_fit (jl_dgs (fun _ => 0) (jR_gv S K t x cu)) (jS_dg S x) n (i + 1) := by rw [jR_fit, decide_eq_true hq, Bool.true_and]
                    rw [ef] at hex hex2
                    exact ih (i + 1) _ (by omega) (by omega) hws hex hex2
                  · refine hex2 _ _ hws ?_
                    rw [jR_fit, decide_eq_false hq, Bool.false_and]
                    exact Bool.false_ne_true
            refine key _ _ _ (4 - (jS_nb S x).toNat) (jS_nb S x) _ (by omega) (by omega) hM6.symm (fun ws lvx hws hfit => ?_) (fun ws lvx hws hfit => ?_)
            · refine jk_iconst C rd_Rd_reason_122 ?_
              exact jm_ret_i C hws ⟨by rw [eR 0 ((if_neg hng).trans (if_pos hfit))], hle2.trans hle6⟩ (by omega) (by omega) rd_Rd_reason_123
            · refine jk_iconst C rd_Rd_reason_114 ?_
              exact jm_ret_i C hws ⟨by rw [eR 4 ((if_neg hng).trans (if_neg hfit))], hle2.trans hle6⟩ (by omega) (by omega) rd_Rd_reason_115
          · refine jk_iconst C rd_Rd_reason_61 ?_
            exact jm_ret_i C hM2.symm ⟨by rw [eR 4 (if_pos (Or.inr hh))], hle2⟩ (by omega) (by omega) rd_Rd_reason_62
      · refine jk_iconst C rd_Rd_reason_39 ?_
        exact jm_ret_i C hM1.symm ⟨by rw [show jR_rs S K L cu j = 3 by unfold jR_rs; rw [ht]; exact (if_neg hd).trans (if_pos he)], hle1⟩ (by omega) (by omega) rd_Rd_reason_40
    · refine jk_iconst C rd_Rd_reason_32 ?_
      exact jm_ret_i C hM1.symm ⟨by rw [show jR_rs S K L cu j = 2 by unfold jR_rs; rw [ht]; exact if_pos hd], hle1⟩ (by omega) (by omega) rd_Rd_reason_33
end RD3
