/-! one act of the law -/
def jO (Inv : jk_LS → jl_S → jl_K → (Nat → Prop) → List Nat → Prop) : Prop := jO_base Inv ∧ (∀ (σ : jk_LS) (S : jl_S) (K : jl_K) (P : Nat → Prop) (cs : List Nat), Inv σ S K P cs → ∀ p ∈ jK_all S K 0 cs, p.2.1 < 100 ∧ p.2.2 < 100) ∧ (∀ (σ : jk_LS) (S : jl_S) (K : jl_K) (P : Nat → Prop) (cs : List Nat), Inv σ S K P cs → ∀ (j cu : Nat), cs[j]? = some cu → 0 ≤ jK_sum S K cu) ∧ (∀ (σ : jk_LS) (S : jl_S) (K : jl_K) (P : Nat → Prop) (cs : List Nat), Inv σ S K P cs → ∀ (j cu : Nat), cs[j]? = some cu → 0 ≤ jK_nib S K cu) ∧ True ∧ jO_addPendant Inv ∧ jO_addSub Inv ∧ jO_cut Inv ∧ jO_tieTop Inv ∧ jO_setKnots Inv ∧ jO_nibble Inv ∧ jO_dye Inv ∧ jO_addCluster Inv ∧ jO_repair Inv
section EV5
variable (l : Launch) (D : va_G) {Z : (Nat → Prop) → State → Heap → Prop} {sq iad : Nat → Nat} {z0 zi mi : Nat} (cI cR cO cB : ClassId)
set_option maxHeartbeats 4000000 in
set_option maxRecDepth 20000 in
theorem ct_Lw_event (hZ : jl_ZK Z sq iad z0 zi mi) (hl : l.stackTraces = false) {Inv : jk_LS → jl_S → jl_K → (Nat → Prop) → List Nat → Prop} (hO : jO Inv) {g : Nat → Option Nat} {ad : Nat → Nat} (hg : ∀ j, j < 8 → g j = some (ad (48 + 11 * j))) {σ : jk_LS} {M : jm_M} {ow : Nat → Nat} {tX r rc ro rd ri : Nat} {S : jl_S} {K : jl_K} {P : Nat → Prop} {cs : List Nat} {xx : Int} (hA : jl_Al cI cO z0 ow M S K P r rc ro rd ri cs (jl_lo (jK_all S K 0 cs)) (jl_ld iad (jK_all S K 0 cs)) (jl_li iad (jK_all S K 0 cs))) (hX : jm_X ow M tX (WX cI cR g ad σ)) (hX6 : tX % 8 = 6) (hI : Inv σ S K P cs) : jm_Met l D jk_cl (jl_ty cI cR cO cB) Z mn_Lw_event (.code mn_Lw_event mb_Lw_event 13 (some .boolean) :: jk_WA) (jk_rx 22 1200 14000 700) [.ref ((ad 0)), .ref r, jk_V xx] M (jw_EP Inv cI cR cO z0 g ad tX r rc ro rd ri) 1200 14000 := by
  refine jm_body (by decide +kernel) (fun p ev s m args below meth cod w hw hz hin C => ?_) (Nat.le_of_ble_eq_true rfl)
  obtain ⟨oB, oD, oS, oN, o1, o2, o3, o4, o5, o6, o7, o8, o9⟩ := hO
  have hB := oB _ _ _ _ _ hI
  obtain ⟨hN, hcs, hKP, hVd, hVk, hVc, hQ1, hQ2, hQ3, hQ4⟩ := id hB
  have hdl := oD _ _ _ _ _ hI
  have hlo := jl_lo_len (jK_all S K 0 cs)
  refine jk_iload_n C rd_Lw_event_0 (k := 2) rfl ?_
  refine jk_bipush C rd_Lw_event_1 (by decide +kernel) ?_
  refine jk_iconst C rd_Lw_event_3 ?_
  refine jm_callS C hZ.1.1 hz hw (ct_Lw_bits l D cI cR cO cB hZ (M := M) (x := xx) (f := 10) (k := 4)) lk_Lw_156 xw_Lw_bits iw_Lw cw_Lw_bits na_Lw_bits ⟨by dsimp only [jk_rx]; omega, by dsimp only [jk_rx]; omega⟩ rfl (st := []) rfl (Nat.le_of_ble_eq_true rfl) rd_Lw_event_4 ⟨by dsimp only [jk_rx]; omega, by dsimp only [jk_rx]; omega⟩ (fun v w1 hp2 => ?_)
  obtain ⟨rfl, hs_vb⟩ := hp2
  obtain ⟨vb, hb_vb, hl_vb⟩ := jw_bits_n xx 10 (k := 4) (by omega)
  rw [show jw_bits xx 10 4 = (vb : Int) from hb_vb]
  replace hl_vb : vb < 16 := hl_vb
  have rest : ∀ (va : Nat), va < 10000 → ∀ ws : va_W, jm_lk ws = M → jk_J p l ev (jk_rx 22 1200 14000 700) s m args below meth cod 0 0 (MQ below (jm_Post D jk_cl (jl_ty cI cR cO cB) (va_A w s.heap.size) (jw_EP Inv cI cR cO z0 g ad tX r rc ro rd ri)) args s 1200 14000 (va_A w s.heap.size)) D jk_cl (va_A w s.heap.size) 13 ws [(3, jk_V ((va : Int))), (2, jk_V xx), (1, .ref r), (0, .ref ((ad 0)))] 25 [] := by
    intro va hva ws hws
    refine jk_iload_n C rd_Lw_event_25 (k := 1) rfl ?_
    refine jk_bipush C rd_Lw_event_26 (by decide +kernel) ?_
    refine jk_iconst C rd_Lw_event_28 ?_
    refine jm_callS C hZ.1.1 hz hws (ct_Lw_bits l D cI cR cO cB hZ (M := M) (x := xx) (f := 21) (k := 1)) lk_Lw_156 xw_Lw_bits iw_Lw cw_Lw_bits na_Lw_bits ⟨by dsimp only [jk_rx]; omega, by dsimp only [jk_rx]; omega⟩ rfl (st := []) rfl (Nat.le_of_ble_eq_true rfl) rd_Lw_event_29 ⟨by dsimp only [jk_rx]; omega, by dsimp only [jk_rx]; omega⟩ (fun v w101 hp102 => ?_)
    obtain ⟨rfl, hs_tp⟩ := hp102
    obtain ⟨tp, hb_tp, hl_tp⟩ := jw_bits_n xx 21 (k := 1) (by omega)
    rw [show jw_bits xx 21 1 = (tp : Int) from hb_tp]
    replace hl_tp : tp < 2 := hl_tp
    refine jk_istore C rd_Lw_event_32 (Nat.le_of_ble_eq_true rfl) rfl ?_
    refine jk_iload_n C rd_Lw_event_34 (k := 2) rfl ?_
    refine jk_iconst C rd_Lw_event_35 ?_
    refine jk_iconst C rd_Lw_event_36 ?_
    refine jm_callS C hZ.1.1 hz hs_tp (ct_Lw_bits l D cI cR cO cB hZ (M := M) (x := xx) (f := 4) (k := 3)) lk_Lw_156 xw_Lw_bits iw_Lw cw_Lw_bits na_Lw_bits ⟨by dsimp only [jk_rx]; omega, by dsimp only [jk_rx]; omega⟩ rfl (st := []) rfl (Nat.le_of_ble_eq_true rfl) rd_Lw_event_37 ⟨by dsimp only [jk_rx]; omega, by dsimp only [jk_rx]; omega⟩ (fun v w103 hp104 => ?_)
    obtain ⟨rfl, hs_cb⟩ := hp104
    obtain ⟨cb, hb_cb, hl_cb⟩ := jw_bits_n xx 4 (k := 3) (by omega)
    rw [show jw_bits xx 4 3 = (cb : Int) from hb_cb]
    replace hl_cb : cb < 8 := hl_cb
    refine jk_aload_n C rd_Lw_event_40 (k := 3) rfl ?_
    refine jm_getN C hs_cb in_Rd (ci := 13) rfl 0 (Nat.le_of_ble_eq_true rfl) (jk_nw hZ.1 hz lk_Lw_35) hA.2.2.1 rfl rd_Lw_event_41 ?_
    obtain ⟨mcA, eA, _, _, hcA, -⟩ := id hA.2.2.2.2.1
    refine jm_callF C (x := ⟨"java/util/List", "size", "()I"⟩) (q := ("java/util/ArrayList", tb_AL, 3)) (ci := 14) hZ.1.1 hz hs_cb (ct_AL_size l D cI cR cO cB hZ hA.2.2.2.2.1) (ff_AL_size hZ.1 hz) (fg_AL_size lk_Lw_39) cw_AL_size nf_AL_size ⟨by dsimp only [jk_rx]; omega, by dsimp only [jk_rx]; omega⟩ rfl hcA rfl (st := [jk_V ((cb : Int))]) rfl (Nat.le_of_ble_eq_true rfl) rd_Lw_event_44 ⟨by dsimp only [jk_rx]; omega, by dsimp only [jk_rx]; omega⟩ (fun v w105 hp106 => ?_)
    obtain ⟨rfl, hs1⟩ := hp106
    clear hcA
    refine jr_irem C ⟨by omega, by omega⟩ ⟨by omega, by omega⟩ rd_Lw_event_49 ?_
    have hjl : cb % cs.length < cs.length := Nat.mod_lt _ hcs.1
    rw [show (cb : Int) % (cs.length : Int) = ((cb % cs.length : Nat) : Int) from (Int.natCast_emod _ _).symm]
    generalize cb % cs.length = j at hjl
    obtain ⟨cu, hj⟩ : ∃ q, cs[j]? = some q := ⟨_, List.getElem?_eq_getElem hjl⟩
    refine jk_istore C rd_Lw_event_50 (Nat.le_of_ble_eq_true rfl) rfl ?_
    refine jk_aload_n C rd_Lw_event_52 (k := 4) rfl ?_
    refine jm_getN C hs1 in_Rd (ci := 13) rfl 0 (Nat.le_of_ble_eq_true rfl) (jk_nw hZ.1 hz lk_Lw_35) hA.2.2.1 rfl rd_Lw_event_53 ?_
    refine jk_iload C rd_Lw_event_56 (k := 0) rfl ?_
    obtain ⟨mcA, eA, _, _, hcA, -⟩ := id hA.2.2.2.2.1
    refine jm_callF C (x := ⟨"java/util/List", "get", "(I)Ljava/lang/Object;"⟩) (q := ("java/util/ArrayList", tb_AL, 3)) (ci := 14) hZ.1.1 hz hs1 (ct_AL_get l D cI cR cO cB hZ hA.2.2.2.2.1 hj) (ff_AL_get hZ.1 hz) (fg_AL_get lk_Lw_50) cw_AL_get nf_AL_get ⟨by dsimp only [jk_rx]; omega, by dsimp only [jk_rx]; omega⟩ rfl hcA rfl (st := []) rfl (Nat.le_of_ble_eq_true rfl) rd_Lw_event_58 ⟨by dsimp only [jk_rx]; omega, by dsimp only [jk_rx]; omega⟩ (fun v w107 hp108 => ?_)
    obtain ⟨rfl, hs2⟩ := hp108
    clear hcA
    refine jr_castS C hs2 (hA.2.1 cu (List.mem_of_getElem? hj)).1 (ci := 12) rfl lk_Lw_119 rd_Lw_event_63 ?_
    refine jr_astore C rd_Lw_event_66 (Nat.le_of_ble_eq_true rfl) rfl ?_
    refine jk_iload_n C rd_Lw_event_68 (k := 4) rfl ?_
    refine jk_iconst C rd_Lw_event_69 ?_
    refine jk_iconst C rd_Lw_event_70 ?_
    refine jm_callS C hZ.1.1 hz hs2 (ct_Lw_bits l D cI cR cO cB hZ (M := M) (x := xx) (f := 0) (k := 4)) lk_Lw_156 xw_Lw_bits iw_Lw cw_Lw_bits na_Lw_bits ⟨by dsimp only [jk_rx]; omega, by dsimp only [jk_rx]; omega⟩ rfl (st := []) rfl (Nat.le_of_ble_eq_true rfl) rd_Lw_event_71 ⟨by dsimp only [jk_rx]; omega, by dsimp only [jk_rx]; omega⟩ (fun v w109 hp110 => ?_)
    obtain ⟨rfl, hs_wb⟩ := hp110
    obtain ⟨wb, hb_wb, hl_wb⟩ := jw_bits_n xx 0 (k := 4) (by omega)
    rw [show jw_bits xx 0 4 = (wb : Int) from hb_wb]
    replace hl_wb : wb < 16 := hl_wb
    refine jk_istore C rd_Lw_event_74 (Nat.le_of_ble_eq_true rfl) rfl ?_
    refine jk_iload C rd_Lw_event_76 (k := 0) rfl ?_
    refine jk_iconst C rd_Lw_event_78 ?_
    refine jr_icmp_lt C rd_Lw_event_79 (tgt := 94) rfl ⟨by omega, by omega⟩ ⟨by omega, by omega⟩ (fun hc => ?_) (fun hc => ?_)
    · refine jk_lv [0, 1, 2, 3, 4, 5, 6, 7] rfl ?_
      exact ev_addPendant (Inv := Inv) C hZ hz hl hg hs_wb hA hX hX6 hI hB (by omega) (by omega) oB o2 hj hl_tp hva
    · refine jk_aload_n C rd_Lw_event_82 (k := 6) rfl ?_
      refine jm_getN C hs_wb in_Rd (ci := 13) rfl 1 (Nat.le_of_ble_eq_true rfl) (jk_nw hZ.1 hz lk_Lw_47) hA.2.2.1 rfl rd_Lw_event_83 ?_
      obtain ⟨mcA, eA, _, _, hcA, -⟩ := id hA.2.2.2.2.2.1
      refine jm_callF C (x := ⟨"java/util/List", "isEmpty", "()Z"⟩) (q := ("java/util/ArrayList", tb_AL, 3)) (ci := 14) hZ.1.1 hz hs_wb (ct_AL_isEmpty l D cI cR cO cB hZ hA.2.2.2.2.2.1) (ff_AL_isEmpty hZ.1 hz) (fg_AL_isEmpty lk_Lw_162) cw_AL_isEmpty nf_AL_isEmpty ⟨by dsimp only [jk_rx]; omega, by dsimp only [jk_rx]; omega⟩ rfl hcA rfl (st := []) rfl (Nat.le_of_ble_eq_true rfl) rd_Lw_event_86 ⟨by dsimp only [jk_rx]; omega, by dsimp only [jk_rx]; omega⟩ (fun v w111 hp112 => ?_)
      obtain ⟨rfl, hs3⟩ := hp112
      clear hcA
      rw [hlo]
      refine jr_if_eq C rd_Lw_event_91 (tgt := 176) rfl ⟨by split <;> decide, by split <;> decide⟩ (fun hc2 => ?_) (fun hc2 => ?_)
      · have hne : (jK_all S K 0 cs).length ≠ 0 := fun z => by rw [if_pos z] at hc2; omega
        refine jk_iload_n C rd_Lw_event_176 (k := 5) rfl ?_
        refine jk_iconst C rd_Lw_event_177 ?_
        refine jk_bipush C rd_Lw_event_178 (by decide +kernel) ?_
        refine jm_callS C hZ.1.1 hz hs3 (ct_Lw_bits l D cI cR cO cB hZ (M := M) (x := xx) (f := 4) (k := 6)) lk_Lw_156 xw_Lw_bits iw_Lw cw_Lw_bits na_Lw_bits ⟨by dsimp only [jk_rx]; omega, by dsimp only [jk_rx]; omega⟩ rfl (st := []) rfl (Nat.le_of_ble_eq_true rfl) rd_Lw_event_180 ⟨by dsimp only [jk_rx]; omega, by dsimp only [jk_rx]; omega⟩ (fun v w113 hp114 => ?_)
        obtain ⟨rfl, hs_kb⟩ := hp114
        obtain ⟨kb, hb_kb, hl_kb⟩ := jw_bits_n xx 4 (k := 6) (by omega)
        rw [show jw_bits xx 4 6 = (kb : Int) from hb_kb]
        replace hl_kb : kb < 64 := hl_kb
        refine jk_aload_n C rd_Lw_event_183 (k := 6) rfl ?_
        refine jm_getN C hs_kb in_Rd (ci := 13) rfl 1 (Nat.le_of_ble_eq_true rfl) (jk_nw hZ.1 hz lk_Lw_47) hA.2.2.1 rfl rd_Lw_event_184 ?_
        obtain ⟨mcA, eA, _, _, hcA, -⟩ := id hA.2.2.2.2.2.1
        refine jm_callF C (x := ⟨"java/util/List", "size", "()I"⟩) (q := ("java/util/ArrayList", tb_AL, 3)) (ci := 14) hZ.1.1 hz hs_kb (ct_AL_size l D cI cR cO cB hZ hA.2.2.2.2.2.1) (ff_AL_size hZ.1 hz) (fg_AL_size lk_Lw_39) cw_AL_size nf_AL_size ⟨by dsimp only [jk_rx]; omega, by dsimp only [jk_rx]; omega⟩ rfl hcA rfl (st := [jk_V ((kb : Int))]) rfl (Nat.le_of_ble_eq_true rfl) rd_Lw_event_187 ⟨by dsimp only [jk_rx]; omega, by dsimp only [jk_rx]; omega⟩ (fun v w115 hp116 => ?_)
        obtain ⟨rfl, hs4⟩ := hp116
        clear hcA
        rw [hlo]
        refine jr_irem C ⟨by omega, by omega⟩ ⟨by omega, by omega⟩ rd_Lw_event_192 ?_
        have hkl : kb % (jK_all S K 0 cs).length < (jK_all S K 0 cs).length := Nat.mod_lt _ (by omega)
        rw [show (kb : Int) % ((jK_all S K 0 cs).length : Int) = ((kb % (jK_all S K 0 cs).length : Nat) : Int) from (Int.natCast_emod _ _).symm]
        generalize kb % (jK_all S K 0 cs).length = k at hkl
        obtain ⟨⟨x, d, c⟩, hk⟩ : ∃ q, (jK_all S K 0 cs)[k]? = some q := ⟨_, List.getElem?_eq_getElem hkl⟩
        have hgo : (jl_lo (jK_all S K 0 cs))[k]? = some x := by rw [jl_lo, List.getElem?_map, hk]; rfl
        have hPx := (hVk k x d c hk).1
        refine jk_istore C rd_Lw_event_193 (Nat.le_of_ble_eq_true rfl) rfl ?_
        refine jk_aload_n C rd_Lw_event_195 (k := 7) rfl ?_
        refine jm_getN C hs4 in_Rd (ci := 13) rfl 1 (Nat.le_of_ble_eq_true rfl) (jk_nw hZ.1 hz lk_Lw_47) hA.2.2.1 rfl rd_Lw_event_196 ?_
        refine jk_iload C rd_Lw_event_199 (k := 0) rfl ?_
        obtain ⟨mcA, eA, _, _, hcA, -⟩ := id hA.2.2.2.2.2.1
        refine jm_callF C (x := ⟨"java/util/List", "get", "(I)Ljava/lang/Object;"⟩) (q := ("java/util/ArrayList", tb_AL, 3)) (ci := 14) hZ.1.1 hz hs4 (ct_AL_get l D cI cR cO cB hZ hA.2.2.2.2.2.1 hgo) (ff_AL_get hZ.1 hz) (fg_AL_get lk_Lw_50) cw_AL_get nf_AL_get ⟨by dsimp only [jk_rx]; omega, by dsimp only [jk_rx]; omega⟩ rfl hcA rfl (st := []) rfl (Nat.le_of_ble_eq_true rfl) rd_Lw_event_201 ⟨by dsimp only [jk_rx]; omega, by dsimp only [jk_rx]; omega⟩ (fun v w117 hp118 => ?_)
        obtain ⟨rfl, hs5⟩ := hp118
        clear hcA
        refine jr_castS C hs5 (hA.1 x hPx).1.1 (ci := 11) rfl lk_Lw_54 rd_Lw_event_206 ?_
        refine jr_astore C rd_Lw_event_209 (Nat.le_of_ble_eq_true rfl) rfl ?_
        refine jk_iload C rd_Lw_event_211 (k := 2) rfl ?_
        have hwr : jk_R (wb : Int) := ⟨by omega, by omega⟩
        rcases (show wb = 3 ∨ wb = 4 ∨ wb = 5 ∨ wb = 6 ∨ wb = 7 ∨ wb = 8 ∨ wb = 9 ∨ wb = 10 ∨ wb = 11 ∨ wb = 12 ∨ wb = 13 ∨ 13 < wb by omega) with hwb | hwb | hwb | hwb | hwb | hwb | hwb | hwb | hwb | hwb | hwb | hwb
        · refine jk_tabIn C rd_Lw_event_213 (k := 3) (off := 59) (tgt := 272) ⟨hwr, by omega⟩ ⟨by decide, rfl⟩ rfl ?_
          refine jk_lv [0, 1, 2, 3, 4, 5, 6, 7, 8, 9] rfl ?_
          exact ev_addSub (Inv := Inv) C hZ hz hl hg hs5 hA hX hX6 hI hB (by omega) (by omega) oB hdl o3 hk hl_tp hva
        · refine jk_tabIn C rd_Lw_event_213 (k := 4) (off := 59) (tgt := 272) ⟨hwr, by omega⟩ ⟨by decide, rfl⟩ rfl ?_
          refine jk_lv [0, 1, 2, 3, 4, 5, 6, 7, 8, 9] rfl ?_
          exact ev_addSub (Inv := Inv) C hZ hz hl hg hs5 hA hX hX6 hI hB (by omega) (by omega) oB hdl o3 hk hl_tp hva
        · refine jk_tabIn C rd_Lw_event_213 (k := 5) (off := 59) (tgt := 272) ⟨hwr, by omega⟩ ⟨by decide, rfl⟩ rfl ?_
          refine jk_lv [0, 1, 2, 3, 4, 5, 6, 7, 8, 9] rfl ?_
          exact ev_addSub (Inv := Inv) C hZ hz hl hg hs5 hA hX hX6 hI hB (by omega) (by omega) oB hdl o3 hk hl_tp hva
        · refine jk_tabIn C rd_Lw_event_213 (k := 6) (off := 189) (tgt := 402) ⟨hwr, by omega⟩ ⟨by decide, rfl⟩ rfl ?_
          refine jk_lv [0, 1, 2, 3, 4, 5, 6, 7, 8, 9] rfl ?_
          exact ev_cut (Inv := Inv) C hZ hz hl hg hs5 hA hX hX6 hI hB (by omega) (by omega) o4 hk hl_tp hva
        · refine jk_tabIn C rd_Lw_event_213 (k := 7) (off := 219) (tgt := 432) ⟨hwr, by omega⟩ ⟨by decide, rfl⟩ rfl ?_
          refine jk_lv [0, 1, 2, 3, 4, 5, 6, 7, 8, 9] rfl ?_
          exact ev_tieTop (Inv := Inv) C hZ hz hl hg hs5 hA hX hX6 hI hB (by omega) (by omega) oS oN o5 hj hl_tp
        · refine jk_tabIn C rd_Lw_event_213 (k := 8) (off := 219) (tgt := 432) ⟨hwr, by omega⟩ ⟨by decide, rfl⟩ rfl ?_
          refine jk_lv [0, 1, 2, 3, 4, 5, 6, 7, 8, 9] rfl ?_
          exact ev_tieTop (Inv := Inv) C hZ hz hl hg hs5 hA hX hX6 hI hB (by omega) (by omega) oS oN o5 hj hl_tp
        · refine jk_tabIn C rd_Lw_event_213 (k := 9) (off := 337) (tgt := 550) ⟨hwr, by omega⟩ ⟨by decide, rfl⟩ rfl ?_
          refine jk_lv [0, 1, 2, 3, 4, 5, 6, 7, 8, 9] rfl ?_
          exact ev_setKnots (Inv := Inv) C hZ hz hl hg hs5 hA hX hX6 hI hB (by omega) (by omega) o6 hk hl_tp hva
        · refine jk_tabIn C rd_Lw_event_213 (k := 10) (off := 427) (tgt := 640) ⟨hwr, by omega⟩ ⟨by decide, rfl⟩ rfl ?_
          refine jk_lv [0, 1, 2, 3, 4, 5, 6, 7, 8, 9] rfl ?_
          exact ev_nibble (Inv := Inv) C hZ hz hl hg hs5 hA hX hX6 hI hB (by omega) (by omega) o7 hk hl_tp hva
        · refine jk_tabIn C rd_Lw_event_213 (k := 11) (off := 427) (tgt := 640) ⟨hwr, by omega⟩ ⟨by decide, rfl⟩ rfl ?_
          refine jk_lv [0, 1, 2, 3, 4, 5, 6, 7, 8, 9] rfl ?_
          exact ev_nibble (Inv := Inv) C hZ hz hl hg hs5 hA hX hX6 hI hB (by omega) (by omega) o7 hk hl_tp hva
        · refine jk_tabIn C rd_Lw_event_213 (k := 12) (off := 539) (tgt := 752) ⟨hwr, by omega⟩ ⟨by decide, rfl⟩ rfl ?_
          refine jk_lv [0, 1, 2, 3, 4, 5, 6, 7, 8, 9] rfl ?_
          exact ev_dye (Inv := Inv) C hZ hz hl hg hs5 hA hX hX6 hI hB (by omega) (by omega) o8 hk hl_tp hva
        · refine jk_tabIn C rd_Lw_event_213 (k := 13) (off := 572) (tgt := 785) ⟨hwr, by omega⟩ ⟨by decide, rfl⟩ rfl ?_
          refine jk_lv [0, 1, 2, 3, 4, 5, 6, 7, 8, 9] rfl ?_
          exact ev_addCluster (Inv := Inv) C hZ hz hl hg hs5 hA hX hX6 hI hB (by omega) (by omega) o9.1
        · refine jk_tabOut C rd_Lw_event_213 (tgt := 855) hwr (Or.inr (by omega)) rfl ?_
          refine jk_lv [0, 1, 2, 3, 4, 5, 6, 7, 8, 9] rfl ?_
          exact ev_repair (Inv := Inv) C hZ hz hl hg hs5 hA hX hX6 hI hB (by omega) (by omega) hdl o9.2 hj hl_tp
      · refine jk_lv [0, 1, 2, 3, 4, 5, 6, 7] rfl ?_
        exact ev_addPendant (Inv := Inv) C hZ hz hl hg hs3 hA hX hX6 hI hB (by omega) (by omega) oB o2 hj hl_tp hva
  refine jr_if_ne C rd_Lw_event_7 (tgt := 16) rfl ⟨by omega, by omega⟩ (fun hc => ?_) (fun hc => ?_)
  · refine jk_iload_n C rd_Lw_event_16 (k := 2) rfl ?_
    refine jk_bipush C rd_Lw_event_17 (by decide +kernel) ?_
    refine jk_bipush C rd_Lw_event_19 (by decide +kernel) ?_
    refine jm_callS C hZ.1.1 hz hs_vb (ct_Lw_bits l D cI cR cO cB hZ (M := M) (x := xx) (f := 14) (k := 7)) lk_Lw_156 xw_Lw_bits iw_Lw cw_Lw_bits na_Lw_bits ⟨by dsimp only [jk_rx]; omega, by dsimp only [jk_rx]; omega⟩ rfl (st := []) rfl (Nat.le_of_ble_eq_true rfl) rd_Lw_event_21 ⟨by dsimp only [jk_rx]; omega, by dsimp only [jk_rx]; omega⟩ (fun v w3 hp4 => ?_)
    obtain ⟨rfl, hs_vc⟩ := hp4
    obtain ⟨vc, hb_vc, hl_vc⟩ := jw_bits_n xx 14 (k := 7) (by omega)
    rw [show jw_bits xx 14 7 = (vc : Int) from hb_vc]
    replace hl_vc : vc < 128 := hl_vc
    refine jk_istore_n C rd_Lw_event_24 (Nat.le_of_ble_eq_true rfl) rfl ?_
    refine jk_lv [0, 3, 2, 1] rfl ?_
    exact rest vc (by omega) _ hs_vc
  · refine jk_sipush C rd_Lw_event_10 (by decide +kernel) ?_
    refine jk_goto C rd_Lw_event_13 (tgt := 24) rfl ?_
    refine jk_istore_n C rd_Lw_event_24 (Nat.le_of_ble_eq_true rfl) rfl ?_
    refine jk_lv [0, 3, 2, 1] rfl ?_
    exact rest 9999 (by omega) _ hs_vb
end EV5
