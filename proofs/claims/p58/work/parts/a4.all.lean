/-! the text is made: the loop over clusters, the whole of it -/
section P12
variable {p : Program} {l : Launch} {ev : Env} {s : State} {m : MethodId} {args : Array Value} {below : List Frame} {meth : Method} {cod : Code} {Q : State → Prop} {D : va_G} {A : Nat → Prop} {Z : (Nat → Prop) → State → Heap → Prop} {sq iad : Nat → Nat} {z0 zi mi d1 d2 : Nat} {cI cR cO cB : ClassId} {ret : Option FieldType} {g : Nat → Option Nat} {ad : Nat → Nat} {σ : jk_LS} {tX tB t r rc ro rd ri b LN : Nat} {xs : Nat → Int32} {n : Nat} {xx : Int} {Bd : List Int → jl_S → jl_K → (Nat → Prop) → List Nat → Prop}
set_option maxHeartbeats 4000000 in
set_option maxRecDepth 1000000 in
theorem b9_out (C : jk_C p s m args meth cod code "KnotReaderLaw" 14 jk_WA D jk_cl (jl_ty cI cR cO cB) A ret) (hZ : jl_ZK Z sq iad z0 zi mi) (hz : Z A s s.heap) (hD2 : jl_ZD Z d1 d2) (hX6 : tX % 8 = 6) (htB : tB % 8 = 7) (hXs : ∀ (A : Nat → Prop) (U : State) (H : Heap), Z A U H → va_T .int b LN (fun j => .int (xs j)) A U H) (hLN : LN < 100000) (pB : jb_b Bd) (pK : jb_k Bd) (pP : jb_p Bd) (pS : jb_s Bd) (pT : jb_t Bd) (hn1 : 1 ≤ n) (hn : n ≤ 4) (hend : ∀ (ws : va_W) (ow : Nat → Nat) (S : jl_S) (K : jl_K) (P : Nat → Prop) (cs : List Nat) (tx : List Int) (cells slots : Nat), Bd tx S K P cs → 0 < cs.length → tx.length ≤ 520 → cells ≤ 50000 → slots ≤ 800000 → jw_B cI cR cO cB z0 g ad σ tX tB t r rc ro rd ri ow (jm_lk ws) S K P cs cs tx → jk_J p l ev room_1 s m args below meth cod cells slots Q D jk_cl A 14 ws [(4, .ref t), (2, .ref r), (1, .ref ((ad 0))), (0, .ref b)] 397 []) : ∀ (mm k : Nat) (ws : va_W) (ow : Nat → Nat) (S : jl_S) (K : jl_K) (P : Nat → Prop) (cs : List Nat) (tx : List Int) (at9 cells slots : Nat), k + mm = n → Bd tx S K P cs → jw_B cI cR cO cB z0 g ad σ tX tB t r rc ro rd ri ow (jm_lk ws) S K P cs cs tx → cs.length = k → tx.length ≤ 16 + 126 * k → (jK_all S K 0 cs).length ≤ 7 * k → at9 ≤ 1 + 3 * k → cells ≤ 300 + 250 * k → slots ≤ 8000 + 60000 * k → jk_J p l ev room_1 s m args below meth cod cells slots Q D jk_cl A 14 ws [(7, jk_V ((k : Int))), (6, jk_V ((at9 : Int))), (5, jk_V ((n : Int))), (4, .ref t), (3, jk_V xx), (2, .ref r), (1, .ref ((ad 0))), (0, .ref b)] 49 [] := by
  intro mm
  induction mm with
  | zero =>
    intro k ws ow S K P cs tx at9 cells slots hk hBd hB hcs hlx hll hat hcc hss
    refine jk_iload C rd_Lw_law_49 (k := 0) rfl ?_
    refine jk_iload C rd_Lw_law_51 (k := 2) rfl ?_
    refine jr_icmp_ge C rd_Lw_law_53 (tgt := 397) rfl ⟨by omega, by omega⟩ ⟨by omega, by omega⟩ (fun _ => ?_) (fun hc => absurd hc (by omega))
    refine jk_lv [3, 5, 6, 7] rfl ?_
    exact hend ws ow S K P cs tx cells slots hBd (by omega) (by omega) (by omega) (by omega) hB
  | succ mm ih =>
    intro k ws ow S K P cs tx at9 cells slots hk hBd hB hcs hlx hll hat hcc hss
    refine jk_iload C rd_Lw_law_49 (k := 0) rfl ?_
    refine jk_iload C rd_Lw_law_51 (k := 2) rfl ?_
    refine jr_icmp_ge C rd_Lw_law_53 (tgt := 397) rfl ⟨by omega, by omega⟩ ⟨by omega, by omega⟩ (fun hc => absurd hc (by omega)) (fun _ => ?_)
    refine b9_newk C hZ hz hD2 hX6 htB (by omega) (by omega) (by omega) hB (fun ws1 ow1 c b9 mn cells1 slots1 hc1 hs1 hmn hnP hnc hB1 => ?_)
    obtain ⟨q1, q2⟩ := pK tx S K P cs hBd (by omega) c b9 hnc hnP
    have hcm : c ∈ cs ++ [c] := List.mem_append_right _ (List.mem_singleton.mpr rfl)
    have hpd0 : jK_pd (jK_n K c b9) c = [] := if_pos rfl
    have hsm0 : jK_sum S (jK_n K c b9) c = 0 := by unfold jK_sum; rw [hpd0]; rfl
    refine b9_in (Bd := Bd) (cs := cs) (c0 := cs) (c := c) (mn := mn) C hZ hz hD2 hX6 htB hXs hLN pB pP pS hmn (L0 := 16 + 126 * k + 8) (N0 := 7 * k) (A0 := 1 + 3 * k) (C0 := 300 + 250 * k + 4) (Z0 := 8000 + 60000 * k + 1200) (by omega) (by omega) (by omega) (by omega) (by omega) (fun ws2 ow2 S2 K2 P2 tx2 at2 cells2 slots2 gBd gB gtn gpl glx gll gsm gat gcc gss => ?_) mn 0 ws1 ow1 S (jK_n K c b9) P _ at9 cells1 slots1 (by omega) q1 hB1 (if_pos rfl) (by rw [hpd0]; rfl) (by rw [List.length_append, show (jk_txt 15).length = 8 from rfl]; omega) (by omega) (by omega) (by omega) (by omega) (by omega)
    have hfin : ∀ (S3 : jl_S) (K3 : jl_K) (P3 : Nat → Prop) (tx3 : List Int) (ws : va_W) (ow : Nat → Nat) (cells slots : Nat), Bd tx3 S3 K3 P3 (cs ++ [c]) → (jK_all S3 K3 0 (cs ++ [c])).length ≤ 7 * k + 7 → tx3.length ≤ 16 + 126 * k + 126 → cells ≤ 300 + 250 * k + 200 → slots ≤ 8000 + 60000 * k + 55000 → jw_B cI cR cO cB z0 g ad σ tX tB t r rc ro rd ri ow (jm_lk ws) S3 K3 P3 (cs ++ [c]) cs tx3 → jk_J p l ev room_1 s m args below meth cod cells slots Q D jk_cl A 14 ws [(10, jk_V ((mn : Int))), (9, jk_V ((mn : Int))), (8, .ref c), (7, jk_V ((k : Int))), (6, jk_V ((at2 : Int))), (5, jk_V ((n : Int))), (4, .ref t), (3, jk_V xx), (2, .ref r), (1, .ref ((ad 0))), (0, .ref b)] 379 [] := by
      intro S3 K3 P3 tx3 ws ow cells slots fBd fll flx fcc fss fB
      refine b9_end C hZ hz hD2 hX6 htB (by omega) (by omega) hcm (fun y hy => List.mem_append_left _ hy) (by omega) fB (fun ws4 ow4 cells4 slots4 hc4 hs4 hB4 => ?_)
      exact ih (k + 1) ws4 ow4 S3 K3 P3 (cs ++ [c]) tx3 at2 cells4 slots4 (by omega) fBd hB4 (by rw [List.length_append, List.length_singleton, hcs]) (by omega) (by omega) (by omega) (by omega) (by omega)
    refine jk_iload C rd_Lw_law_322 (k := 1) rfl ?_
    refine jr_if_le C rd_Lw_law_324 (tgt := 379) rfl ⟨by omega, by omega⟩ (fun hc => ?_) (fun hc => ?_)
    · exact hfin S2 K2 P2 tx2 ws2 ow2 _ _ gBd (by omega) (by omega) (by omega) (by omega) gB
    · refine jk_iload_n C rd_Lw_law_327 (k := 7) rfl ?_
      refine jk_bipush C rd_Lw_law_328 (by decide +kernel) ?_
      refine jk_iload C rd_Lw_law_330 (k := 3) rfl ?_
      refine jk_iadd C rd_Lw_law_332 ?_
      refine jk_iconst C rd_Lw_law_333 ?_
      rw [show (10 : Int) + (k : Int) = ((10 + k : Nat) : Int) by omega]
      refine jm_callS C hZ.1.1 hz (rfl : jm_lk ws2 = _) (ct_Lw_bits l D cI cR cO cB hZ (M := jm_lk ws2) (x := xx) (f := ((10 + k : Nat) : Int)) (k := 1)) lk_Lw_156 xw_Lw_bits iw_Lw cw_Lw_bits na_Lw_bits ⟨Nat.le_of_ble_eq_true rfl, Nat.le_of_ble_eq_true rfl⟩ rfl (st := []) rfl (Nat.le_of_ble_eq_true rfl) rd_Lw_law_334 ⟨lr_c (by omega), lr_s (by omega)⟩ (fun v w102 hp103 => ?_)
      obtain ⟨rfl, hb101⟩ := hp103
      obtain ⟨nq, hnq, hnq2⟩ := jw_bits_n xx ((10 + k : Nat) : Int) (k := 1) (by omega)
      rw [show jw_bits xx ((10 + k : Nat) : Int) 1 = (nq : Int) from hnq]
      replace hnq2 : nq < 2 := hnq2
      rw [← hb101] at gB
      refine jr_if_ne C rd_Lw_law_337 (tgt := 379) rfl ⟨by omega, by omega⟩ (fun hd => ?_) (fun hd => ?_)
      · exact hfin S2 K2 P2 tx2 _ ow2 _ _ gBd (by omega) (by omega) (by omega) (by omega) gB
      · have hpd : jK_pd K2 c ≠ [] := fun z => by rw [z, List.length_nil] at gpl; omega
        obtain ⟨gK, gZ, gS0⟩ := pB _ _ _ _ _ gBd c hcm
        obtain ⟨sm, hsm⟩ := Int.eq_ofNat_of_zero_le gS0
        refine b9_top C hZ hz hD2 hX6 htB (by omega) (by omega) hcm gK gZ hsm (by omega) (fun x9 k9 b9 h1 h2 => ?_) (by omega) gB (fun ws3 ow3 x9 k9 b9 cells3 slots3 hc3 hs3 hnP3 hnc3 hB3 => ?_)
        · obtain ⟨t1, t2, t3⟩ := pT tx2 S2 K2 P2 cs c gBd (by omega) gtn hpd sm hsm (by omega) x9 k9 b9 h1 h2
          exact ⟨(pB _ _ _ _ _ t1 c hcm).1, (pB _ _ _ _ _ t1 c hcm).2.1, t3⟩
        · obtain ⟨t1, t2, t3⟩ := pT tx2 S2 K2 P2 cs c gBd (by omega) gtn hpd sm hsm (by omega) x9 k9 b9 hnP3 hnc3
          have hl4 := b9_l4 (tx := tx2) (d := 59) (v := sm)
          exact hfin _ _ _ _ ws3 ow3 cells3 slots3 t1 (by omega) (by omega) (by omega) (by omega) hB3
end P12
section P13
variable {p : Program} {l : Launch} {ev : Env} {s : State} {m : MethodId} {args : Array Value} {below : List Frame} {meth : Method} {cod : Code} {Q : State → Prop} {D : va_G} {A : Nat → Prop} {Z : (Nat → Prop) → State → Heap → Prop} {sq iad : Nat → Nat} {z0 zi mi d1 d2 : Nat} {cI cR cO cB : ClassId} {ret : Option FieldType} {g : Nat → Option Nat} {ad : Nat → Nat} {σ : jk_LS} {tX r rc ro rd ri b LN : Nat} {xs : Nat → Int32} {xx : Int} {Bd : List Int → jl_S → jl_K → (Nat → Prop) → List Nat → Prop}
set_option maxHeartbeats 4000000 in
set_option maxRecDepth 1000000 in
theorem b9_all (C : jk_C p s m args meth cod code "KnotReaderLaw" 14 jk_WA D jk_cl (jl_ty cI cR cO cB) A ret) (hZ : jl_ZK Z sq iad z0 zi mi) (hz : Z A s s.heap) (hD2 : jl_ZD Z d1 d2) (hX6 : tX % 8 = 6) (hXs : ∀ (A : Nat → Prop) (U : State) (H : Heap), Z A U H → va_T .int b LN (fun j => .int (xs j)) A U H) (hLN : LN < 100000) {ws : va_W} {ow : Nat → Nat} {cells slots : Nat} {S0 : jl_S} {K0 : jl_K} (pB : jb_b Bd) (pK : jb_k Bd) (pP : jb_p Bd) (pS : jb_s Bd) (pT : jb_t Bd) (h0 : Bd (jk_txt 14) S0 K0 (fun _ => False) []) (hend : ∀ (t : Nat) (ws : va_W) (ow : Nat → Nat) (S : jl_S) (K : jl_K) (P : Nat → Prop) (cs : List Nat) (tx : List Int) (cells slots : Nat), Bd tx S K P cs → 0 < cs.length → tx.length ≤ 520 → cells ≤ 50000 → slots ≤ 800000 → jw_B cI cR cO cB z0 g ad σ tX (8 * t + 7) t r rc ro rd ri ow (jm_lk ws) S K P cs cs tx → jk_J p l ev room_1 s m args below meth cod cells slots Q D jk_cl A 14 ws [(4, .ref t), (2, .ref r), (1, .ref ((ad 0))), (0, .ref b)] 397 []) (hcl : cells ≤ 200) (hsl : slots ≤ 4000) (hRd : jl_Rd cO z0 ow (jm_lk ws) r rc ro rd ri [] [] [] []) (hX : jm_X ow (jm_lk ws) tX (WX cI cR g ad σ)) : jk_J p l ev room_1 s m args below meth cod cells slots Q D jk_cl A 14 ws [(3, jk_V xx), (2, .ref r), (1, .ref ((ad 0))), (0, .ref b)] 22 [] := by
  obtain ⟨M0, hEM0⟩ : ∃ Mx : jm_M, Mx = jm_lk ws := ⟨_, rfl⟩
  rw [← hEM0] at hRd
  rw [← hEM0] at hX
  refine jm_new C (show jm_lk ws = M0 from hEM0.symm) in_SB (ty0 := tf_SB) ty_SB lk_Lw_226 nw_SB iw_SB (ci := 16) rfl (fs := [.null, jk_V 0, jk_V 0, jk_V 0]) (by intro j hj; rcases j with _ | _ | _ | _ | j <;> first | rfl | omega) ⟨lr_c (by omega), lr_s (by omega)⟩ rd_Lw_law_22 (fun t wn ht9 hwn => ?_)
  obtain ⟨M101, hM101⟩ : ∃ Mx : jm_M, Mx = jm_up M0 t (.inr (16, [.null, jk_V 0, jk_V 0, jk_V 0])) := ⟨_, rfl⟩
  replace hwn : jm_lk wn = M101 := by rw [hM101]; exact hwn
  have hc101_t := jm_this hM101
  refine jk_dup C rd_Lw_law_25 rfl ?_
  have hFn : jl_FrP ow M0 (fun y => if y = t then 8 * t + 7 else ow y) M101 (fun _ => False) := jl_FrP.new hM101 ht9
  refine jk_ldcs C hZ.1 hz rd_Lw_law_26 (k := 14) rfl ?_
  refine jm_callI C hZ.1.1 hz hwn (ct_SB_init l D cI cR cO cB hZ (ow := fun y => if y = t then 8 * t + 7 else ow y) (t := 8 * t + 7) hc101_t (if_pos rfl) (hZ.1.2.1 14 (by decide)) (by decide)) lk_Lw_230 xw_SB_init iw_SB cw_SB_init rfl na_SB_init ⟨Nat.le_of_ble_eq_true rfl, Nat.le_of_ble_eq_true rfl⟩ rfl (st := [.ref t]) rfl (Nat.le_of_ble_eq_true rfl) rd_Lw_law_28 ⟨lr_c (by omega), lr_s (by omega)⟩ (fun v w102 hp103 => ?_)
  obtain ⟨rfl, ow2, hS2, hF2⟩ := hp103
  have hB2 : jw_B cI cR cO cB z0 g ad σ tX (8 * t + 7) t r rc ro rd ri ow2 (jm_lk w102) S0 K0 (fun _ => False) [] [] (jk_txt 14) := ⟨⟨fun y hy => absurd hy id, fun y hy => absurd hy List.not_mem_nil, (hRd.fr hFn (fun _ _ => id)).fr hF2 (fun j hj => by omega)⟩, (hX.fr hFn id).fr hF2 (by omega), hS2⟩
  refine jr_astore C rd_Lw_law_31 (Nat.le_of_ble_eq_true rfl) rfl ?_
  refine jk_iconst C rd_Lw_law_33 ?_
  refine jk_iload_n C rd_Lw_law_34 (k := 1) rfl ?_
  refine jk_iconst C rd_Lw_law_35 ?_
  refine jk_iconst C rd_Lw_law_36 ?_
  refine jm_callS C hZ.1.1 hz (rfl : jm_lk w102 = _) (ct_Lw_bits l D cI cR cO cB hZ (M := jm_lk w102) (x := xx) (f := 0) (k := 2)) lk_Lw_156 xw_Lw_bits iw_Lw cw_Lw_bits na_Lw_bits ⟨Nat.le_of_ble_eq_true rfl, Nat.le_of_ble_eq_true rfl⟩ rfl (st := [jk_V 1]) rfl (Nat.le_of_ble_eq_true rfl) rd_Lw_law_37 ⟨lr_c (by omega), lr_s (by omega)⟩ (fun v w105 hp106 => ?_)
  obtain ⟨rfl, hb104⟩ := hp106
  obtain ⟨nq, hnq, hnq2⟩ := jw_bits_n xx 0 (k := 2) (by omega)
  rw [show jw_bits xx 0 2 = (nq : Int) from hnq]
  replace hnq2 : nq < 4 := hnq2
  rw [← hb104] at hB2
  refine jk_iadd C rd_Lw_law_40 ?_
  rw [show (1 : Int) + (nq : Int) = ((1 + nq : Nat) : Int) by omega]
  refine jk_istore C rd_Lw_law_41 (Nat.le_of_ble_eq_true rfl) rfl ?_
  refine jk_iconst C rd_Lw_law_43 ?_
  refine jk_istore C rd_Lw_law_44 (Nat.le_of_ble_eq_true rfl) rfl ?_
  refine jk_iconst C rd_Lw_law_46 ?_
  refine jk_istore C rd_Lw_law_47 (Nat.le_of_ble_eq_true rfl) rfl ?_
  refine jk_lv [0, 1, 2, 3, 4, 5, 6, 7] rfl ?_
  exact b9_out (Bd := Bd) (tB := 8 * t + 7) C hZ hz hD2 hX6 (by omega) hXs hLN pB pK pP pS pT (by omega) (by omega) (hend t) (1 + nq) 0 _ ow2 S0 K0 (fun _ => False) [] (jk_txt 14) 1 _ _ (by omega) h0 hB2 rfl (by decide) (Nat.zero_le _) (by omega) (by omega) (by omega)
end P13
