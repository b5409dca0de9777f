/-! the text is made: what each statement does, told by a predicate Bd; the loops -/
def jb_b (Bd : List Int → jl_S → jl_K → (Nat → Prop) → List Nat → Prop) : Prop := ∀ (tx : List Int) (S : jl_S) (K : jl_K) (P : Nat → Prop) (cs : List Nat), Bd tx S K P cs → ∀ c ∈ cs, jl_KP S K P c ∧ jK_siz S K c ≤ 41 ∧ 0 ≤ jK_sum S K c
def jb_k (Bd : List Int → jl_S → jl_K → (Nat → Prop) → List Nat → Prop) : Prop := ∀ (tx : List Int) (S : jl_S) (K : jl_K) (P : Nat → Prop) (cs : List Nat), Bd tx S K P cs → cs.length < 6 → ∀ c b : Nat, c ∉ cs → ¬ P c → Bd (tx ++ jk_txt 15) S (jK_n K c b) P (cs ++ [c]) ∧ (jK_all S (jK_n K c b) 0 (cs ++ [c])).length = (jK_all S K 0 cs).length
def jb_p (Bd : List Int → jl_S → jl_K → (Nat → Prop) → List Nat → Prop) : Prop := ∀ (tx : List Int) (S : jl_S) (K : jl_K) (P : Nat → Prop) (cs : List Nat) (c : Nat), Bd tx S K P (cs ++ [c]) → (jK_all S K 0 (cs ++ [c])).length < 40 → ∀ tp v : Nat, tp < 2 → v < 128 → ∀ x k b : Nat, ¬ P x → x ∉ cs ++ [c] → (Bd (tx ++ jk_txt 16 ++ [97 + (tp : Int)] ++ [32] ++ jl_nt v ++ [59]) (jS_n S x k b (jl_dgs (fun _ => 0) (v : Int)) (tp : Int)) (jK_p K c (jK_pd K c ++ [x])) (fun y => P y ∨ y = x) (cs ++ [c]) ∧ (jK_all (jS_n S x k b (jl_dgs (fun _ => 0) (v : Int)) (tp : Int)) (jK_p K c (jK_pd K c ++ [x])) 0 (cs ++ [c])).length = (jK_all S K 0 (cs ++ [c])).length + 1 ∧ jK_sum (jS_n S x k b (jl_dgs (fun _ => 0) (v : Int)) (tp : Int)) (jK_p K c (jK_pd K c ++ [x])) c ≤ jK_sum S K c + (v : Int)) ∧ Bd (tx ++ jk_txt 16 ++ [97 + (tp : Int)] ++ [32] ++ jl_nt v ++ jk_txt 17 ++ [59]) (jS_w (jS_n S x k b (jl_dgs (fun _ => 0) (v : Int)) (tp : Int)) x (jk_up (jS_dg (jS_n S x k b (jl_dgs (fun _ => 0) (v : Int)) (tp : Int)) x) 0 0) (jS_tp (jS_n S x k b (jl_dgs (fun _ => 0) (v : Int)) (tp : Int)) x) 1) (jK_p K c (jK_pd K c ++ [x])) (fun y => P y ∨ y = x) (cs ++ [c]) ∧ (jK_all (jS_w (jS_n S x k b (jl_dgs (fun _ => 0) (v : Int)) (tp : Int)) x (jk_up (jS_dg (jS_n S x k b (jl_dgs (fun _ => 0) (v : Int)) (tp : Int)) x) 0 0) (jS_tp (jS_n S x k b (jl_dgs (fun _ => 0) (v : Int)) (tp : Int)) x) 1) (jK_p K c (jK_pd K c ++ [x])) 0 (cs ++ [c])).length = (jK_all S K 0 (cs ++ [c])).length + 1 ∧ jK_sum (jS_w (jS_n S x k b (jl_dgs (fun _ => 0) (v : Int)) (tp : Int)) x (jk_up (jS_dg (jS_n S x k b (jl_dgs (fun _ => 0) (v : Int)) (tp : Int)) x) 0 0) (jS_tp (jS_n S x k b (jl_dgs (fun _ => 0) (v : Int)) (tp : Int)) x) 1) (jK_p K c (jK_pd K c ++ [x])) c ≤ jK_sum S K c + (v : Int)
def jb_s (Bd : List Int → jl_S → jl_K → (Nat → Prop) → List Nat → Prop) : Prop := ∀ (tx : List Int) (S : jl_S) (K : jl_K) (P : Nat → Prop) (cs : List Nat) (c : Nat), Bd tx S K P (cs ++ [c]) → (jK_all S K 0 (cs ++ [c])).length < 40 → ∀ (lp : List Nat) (z : Nat), jK_pd K c = lp ++ [z] → jS_ch S z = [] → ∀ tp v : Nat, tp < 2 → v < 64 → ∀ x k b : Nat, ¬ P x → x ∉ cs ++ [c] → Bd (tx ++ jk_txt 18 ++ [97 + (tp : Int)] ++ [32] ++ jl_nt v ++ [59]) (jS_c (jS_n S x k b (jl_dgs (fun _ => 0) (v : Int)) (tp : Int)) z (jS_ch (jS_n S x k b (jl_dgs (fun _ => 0) (v : Int)) (tp : Int)) z ++ [x])) K (fun y => P y ∨ y = x) (cs ++ [c]) ∧ (jK_all (jS_c (jS_n S x k b (jl_dgs (fun _ => 0) (v : Int)) (tp : Int)) z (jS_ch (jS_n S x k b (jl_dgs (fun _ => 0) (v : Int)) (tp : Int)) z ++ [x])) K 0 (cs ++ [c])).length = (jK_all S K 0 (cs ++ [c])).length + 1 ∧ jK_sum (jS_c (jS_n S x k b (jl_dgs (fun _ => 0) (v : Int)) (tp : Int)) z (jS_ch (jS_n S x k b (jl_dgs (fun _ => 0) (v : Int)) (tp : Int)) z ++ [x])) K c ≤ jK_sum S K c + (v : Int)
def jb_t (Bd : List Int → jl_S → jl_K → (Nat → Prop) → List Nat → Prop) : Prop := ∀ (tx : List Int) (S : jl_S) (K : jl_K) (P : Nat → Prop) (cs : List Nat) (c : Nat), Bd tx S K P (cs ++ [c]) → (jK_all S K 0 (cs ++ [c])).length < 40 → jK_tp K c = none → jK_pd K c ≠ [] → ∀ v : Nat, jK_sum S K c = (v : Int) → v < 1000 → ∀ x k b : Nat, ¬ P x → x ∉ cs ++ [c] → Bd (tx ++ jk_txt 19 ++ jl_nt v ++ [59]) (jS_n S x k b (jl_dgs (fun _ => 0) (v : Int)) 0) (jK_t K c (some x)) (fun y => P y ∨ y = x) (cs ++ [c]) ∧ (jK_all (jS_n S x k b (jl_dgs (fun _ => 0) (v : Int)) 0) (jK_t K c (some x)) 0 (cs ++ [c])).length = (jK_all S K 0 (cs ++ [c])).length + 1 ∧ jK_sum (jS_n S x k b (jl_dgs (fun _ => 0) (v : Int)) 0) (jK_t K c (some x)) c = jK_sum S K c
theorem b9_l1 {tx : List Int} {a b : Int} {v : Nat} : (tx ++ jk_txt 16 ++ [a] ++ [b] ++ jl_nt v).length ≤ tx.length + 13 := by
  have := jl_nt_le3 v
  rw [List.length_append, List.length_append, List.length_append, List.length_append, show (jk_txt 16).length = 8 from rfl, List.length_singleton, List.length_singleton]
  omega
theorem b9_l2 {tx : List Int} {a : Int} : (tx ++ jk_txt 17 ++ [a]).length = tx.length + 11 := by
  rw [List.length_append, List.length_append, show (jk_txt 17).length = 10 from rfl, List.length_singleton]
theorem b9_l3 {tx : List Int} {a b d : Int} {v : Nat} : (tx ++ jk_txt 18 ++ [a] ++ [b] ++ jl_nt v ++ [d]).length ≤ tx.length + 12 := by
  have := jl_nt_le3 v
  rw [List.length_append, List.length_append, List.length_append, List.length_append, List.length_append, show (jk_txt 18).length = 6 from rfl, List.length_singleton, List.length_singleton, List.length_singleton]
  omega
theorem b9_l4 {tx : List Int} {d : Int} {v : Nat} : (tx ++ jk_txt 19 ++ jl_nt v ++ [d]).length ≤ tx.length + 10 := by
  have := jl_nt_le3 v
  rw [List.length_append, List.length_append, List.length_append, show (jk_txt 19).length = 6 from rfl, List.length_singleton]
  omega

section P11
variable {p : Program} {l : Launch} {ev : Env} {s : State} {m : MethodId} {args : Array Value} {below : List Frame} {meth : Method} {cod : Code} {Q : State → Prop} {D : va_G} {A : Nat → Prop} {Z : (Nat → Prop) → State → Heap → Prop} {sq iad : Nat → Nat} {z0 zi mi d1 d2 : Nat} {cI cR cO cB : ClassId} {ret : Option FieldType} {g : Nat → Option Nat} {ad : Nat → Nat} {σ : jk_LS} {tX tB t r rc ro rd ri b LN : Nat} {xs : Nat → Int32} {cs c0 : List Nat} {c mn k n : Nat} {xx : Int} {Bd : List Int → jl_S → jl_K → (Nat → Prop) → List Nat → Prop}
set_option maxHeartbeats 4000000 in
set_option maxRecDepth 1000000 in
theorem b9_in (C : jk_C p s m args meth cod code "KnotReaderLaw" 14 jk_WA D jk_cl (jl_ty cI cR cO cB) A ret) (hZ : jl_ZK Z sq iad z0 zi mi) (hz : Z A s s.heap) (hD2 : jl_ZD Z d1 d2) (hX6 : tX % 8 = 6) (htB : tB % 8 = 7) (hXs : ∀ (A : Nat → Prop) (U : State) (H : Heap), Z A U H → va_T .int b LN (fun j => .int (xs j)) A U H) (hLN : LN < 100000) (pB : jb_b Bd) (pP : jb_p Bd) (pS : jb_s Bd) (hmn : mn < 4) {L0 N0 A0 C0 Z0 : Nat} (hL0 : L0 ≤ 402) (hN0 : N0 ≤ 30) (hA0 : A0 ≤ 20) (hC0 : C0 ≤ 20000) (hZ0 : Z0 ≤ 500000) (kk : ∀ (ws : va_W) (ow : Nat → Nat) (S : jl_S) (K : jl_K) (P : Nat → Prop) (tx : List Int) (at9 cells slots : Nat), Bd tx S K P (cs ++ [c]) → jw_B cI cR cO cB z0 g ad σ tX tB t r rc ro rd ri ow (jm_lk ws) S K P (cs ++ [c]) c0 tx → jK_tp K c = none → (jK_pd K c).length = mn → tx.length ≤ L0 + 36 * mn → (jK_all S K 0 (cs ++ [c])).length ≤ N0 + 2 * mn → jK_sum S K c ≤ 190 * (mn : Int) → at9 ≤ A0 + mn → cells ≤ C0 + 30 * mn → slots ≤ Z0 + 15000 * mn → jk_J p l ev room_1 s m args below meth cod cells slots Q D jk_cl A 14 ws [(10, jk_V ((mn : Int))), (9, jk_V ((mn : Int))), (8, .ref c), (7, jk_V ((k : Int))), (6, jk_V ((at9 : Int))), (5, jk_V ((n : Int))), (4, .ref t), (3, jk_V xx), (2, .ref r), (1, .ref ((ad 0))), (0, .ref b)] 322 []) : ∀ (mm i : Nat) (ws : va_W) (ow : Nat → Nat) (S : jl_S) (K : jl_K) (P : Nat → Prop) (tx : List Int) (at9 cells slots : Nat), i + mm = mn → Bd tx S K P (cs ++ [c]) → jw_B cI cR cO cB z0 g ad σ tX tB t r rc ro rd ri ow (jm_lk ws) S K P (cs ++ [c]) c0 tx → jK_tp K c = none → (jK_pd K c).length = i → tx.length ≤ L0 + 36 * i → (jK_all S K 0 (cs ++ [c])).length ≤ N0 + 2 * i → jK_sum S K c ≤ 190 * (i : Int) → at9 ≤ A0 + i → cells ≤ C0 + 30 * i → slots ≤ Z0 + 15000 * i → jk_J p l ev room_1 s m args below meth cod cells slots Q D jk_cl A 14 ws [(10, jk_V ((i : Int))), (9, jk_V ((mn : Int))), (8, .ref c), (7, jk_V ((k : Int))), (6, jk_V ((at9 : Int))), (5, jk_V ((n : Int))), (4, .ref t), (3, jk_V xx), (2, .ref r), (1, .ref ((ad 0))), (0, .ref b)] 89 [] := by
  intro mm
  induction mm with
  | zero =>
    intro i ws ow S K P tx at9 cells slots hi hBd hB htn hpl hlx hll hsm hat hcc hss
    refine jk_iload C rd_Lw_law_89 (k := 0) rfl ?_
    refine jk_iload C rd_Lw_law_91 (k := 1) rfl ?_
    obtain rfl : i = mn := by omega
    refine jr_icmp_ge C rd_Lw_law_93 (tgt := 322) rfl ⟨by omega, by omega⟩ ⟨by omega, by omega⟩ (fun _ => ?_) (fun hc => absurd hc (by omega))
    exact kk ws ow S K P tx at9 cells slots hBd hB htn hpl hlx hll hsm hat hcc hss
  | succ mm ih =>
    intro i ws ow S K P tx at9 cells slots hi hBd hB htn hpl hlx hll hsm hat hcc hss
    refine jk_iload C rd_Lw_law_89 (k := 0) rfl ?_
    refine jk_iload C rd_Lw_law_91 (k := 1) rfl ?_
    refine jr_icmp_ge C rd_Lw_law_93 (tgt := 322) rfl ⟨by omega, by omega⟩ ⟨by omega, by omega⟩ (fun hc => absurd hc (by omega)) (fun _ => ?_)
    have hcm : c ∈ cs ++ [c] := List.mem_append_right _ (List.mem_singleton.mpr rfl)
    refine b9_newp C hZ hz hD2 hX6 htB (by omega) (by omega) hXs hLN (by omega) hB (fun ws1 ow1 yy tp v x9 k9 b9 cells1 slots1 hc1 hs1 htp2 hv hv2 hyR hnP hnc hB1 => ?_)
    refine b9_pend C hZ hz hD2 hX6 htB (by omega) (by omega) (S := (jS_n S x9 k9 b9 (jl_dgs (fun _ => 0) (v : Int)) (tp : Int))) (Or.inr rfl) (tp := tp) (v := v) (show jS_tp (jS_n S x9 k9 b9 (jl_dgs (fun _ => 0) (v : Int)) (tp : Int)) x9 = (tp : Int) from if_pos rfl) htp2 hv hv2 (by omega) hB1 (fun ws2 ow2 cells2 slots2 hc2 hs2 hB2 => ?_)
    obtain ⟨⟨q1, q2, q3⟩, w1, w2, w3⟩ := pP tx S K P cs c hBd (by omega) tp v htp2 hv2 x9 k9 b9 hnP hnc
    have hl1 := b9_l1 (tx := tx) (a := 97 + (tp : Int)) (b := 32) (v := v)
    have hpd1 : jK_pd (jK_p K c (jK_pd K c ++ [x9])) c = jK_pd K c ++ [x9] := if_pos rfl
    have htn1 : jK_tp (jK_p K c (jK_pd K c ++ [x9])) c = none := htn
    have rest : ∀ (S' : jl_S) (tx' : List Int) (ws : va_W) (ow : Nat → Nat) (cells slots : Nat), jS_ch S' x9 = [] → Bd tx' S' (jK_p K c (jK_pd K c ++ [x9])) (fun y => P y ∨ y = x9) (cs ++ [c]) → (jK_all S' (jK_p K c (jK_pd K c ++ [x9])) 0 (cs ++ [c])).length ≤ N0 + 2 * i + 1 → jK_sum S' (jK_p K c (jK_pd K c ++ [x9])) c ≤ 190 * (i : Int) + 127 → tx'.length ≤ L0 + 36 * i + 24 → cells ≤ C0 + 30 * i + 9 → slots ≤ Z0 + 15000 * i + 6800 → jw_B cI cR cO cB z0 g ad σ tX tB t r rc ro rd ri ow (jm_lk ws) S' K (fun y => P y ∨ y = x9) (cs ++ [c]) c0 tx' → jk_J p l ev room_1 s m args below meth cod cells slots Q D jk_cl A 14 ws [(12, .ref x9), (11, jk_V yy), (10, jk_V ((i : Int))), (9, jk_V ((mn : Int))), (8, .ref c), (7, jk_V ((k : Int))), (6, jk_V (((at9 + 1 : Nat) : Int))), (5, jk_V ((n : Int))), (4, .ref t), (3, jk_V xx), (2, .ref r), (1, .ref ((ad 0))), (0, .ref b)] 208 [] := by
      intro S' tx' ws ow cells slots hch gBd gll gsm glx gcc gss gB
      refine b9_add C hZ hz hD2 hX6 htB (by omega) (by omega) (Or.inr rfl) hcm (fun y hy => Or.inl ((pB _ _ _ _ _ hBd c hcm).1.1 y hy).1) (by omega) gB (fun ws3 ow3 cells3 slots3 hc3 hs3 hB3 => ?_)
      refine b9_sk C hZ hz hD2 hX6 htB (by omega) (by omega) hB3 (fun ws4 ow4 cells4 slots4 hc4 hs4 hB4 => ?_) (fun ws4 ow4 cells4 slots4 hc4 hs4 hB4 => ?_)
      · refine jk_iinc C rd_Lw_law_316 (k := 2) rfl (Nat.le_of_ble_eq_true rfl) rfl ?_
        refine jk_goto C rd_Lw_law_319 (tgt := 89) rfl ?_
        refine jk_lv [0, 3, 4, 5, 6, 7, 8, 9, 10, 11, 12] rfl ?_
        rw [show (i : Int) + 1 = ((i + 1 : Nat) : Int) by omega]
        exact ih (i + 1) ws4 ow4 S' (jK_p K c (jK_pd K c ++ [x9])) (fun y => P y ∨ y = x9) tx' (at9 + 1) cells4 slots4 (by omega) gBd hB4 htn1 (by rw [hpd1, List.length_append, List.length_singleton, hpl]) (by omega) (by omega) (by omega) (by omega) (by omega) (by omega)
      · refine b9_news C hZ hz hD2 hX6 htB (by omega) (by omega) hB4 (fun ws5 ow5 tp2 v2 q9 kq bq cells5 slots5 hc5 hs5 htq hvq hvq2 hnPq hncq hB5 => ?_)
        have hxq : x9 ≠ q9 := fun e => hnPq (Or.inr e.symm)
        obtain ⟨u1, u2, u3⟩ := pS tx' S' (jK_p K c (jK_pd K c ++ [x9])) (fun y => P y ∨ y = x9) cs c gBd (by omega) (jK_pd K c) x9 hpd1 hch tp2 v2 htq hvq2 q9 kq bq hnPq hncq
        have hl3 := b9_l3 (tx := tx') (a := 97 + (tp2 : Int)) (b := 32) (d := 59) (v := v2)
        refine b9_subt C hZ hz hD2 hX6 htB (by omega) (by omega) (S := (jS_n S' q9 kq bq (jl_dgs (fun _ => 0) (v2 : Int)) (tp2 : Int))) (Or.inr rfl) (tp := tp2) (v := v2) (show jS_tp (jS_n S' q9 kq bq (jl_dgs (fun _ => 0) (v2 : Int)) (tp2 : Int)) q9 = (tp2 : Int) from if_pos rfl) htq hvq hvq2 (by omega) hB5 (fun ws6 ow6 cells6 slots6 hc6 hs6 hB6 => ?_)
        refine b9_suba C hZ hz hD2 hX6 htB (by omega) (by omega) (Or.inl (Or.inr rfl)) (Or.inr rfl) (by rw [nS_ch hxq, hch]; exact Nat.zero_le _) hB6 (fun ws7 ow7 cells7 slots7 hc7 hs7 hB7 => ?_)
        refine jk_iinc C rd_Lw_law_316 (k := 3) rfl (Nat.le_of_ble_eq_true rfl) rfl ?_
        refine jk_goto C rd_Lw_law_319 (tgt := 89) rfl ?_
        refine jk_lv [0, 4, 5, 6, 7, 8, 9, 10, 11, 12, 13] rfl ?_
        rw [show (i : Int) + 1 = ((i + 1 : Nat) : Int) by omega]
        exact ih (i + 1) ws7 ow7 _ (jK_p K c (jK_pd K c ++ [x9])) _ _ (at9 + 1) cells7 slots7 (by omega) u1 hB7 htn1 (by rw [hpd1, List.length_append, List.length_singleton, hpl]) (by omega) (by omega) (by omega) (by omega) (by omega) (by omega)
    refine b9_nib C hZ hz hD2 hX6 htB (by omega) (by omega) (Or.inr rfl) (by omega) hB2 (fun ws3 ow3 cells3 slots3 hc3 hs3 hB3 => ?_) (fun ws3 ow3 cells3 slots3 hc3 hs3 hB3 => ?_)
    · exact rest _ _ ws3 ow3 cells3 slots3 nS_x q1 (by omega) (by omega) (by rw [List.length_append, List.length_singleton]; omega) (by omega) (by omega) hB3
    · exact rest (jS_w (jS_n S x9 k9 b9 (jl_dgs (fun _ => 0) (v : Int)) (tp : Int)) x9 (jk_up (jS_dg (jS_n S x9 k9 b9 (jl_dgs (fun _ => 0) (v : Int)) (tp : Int)) x9) 0 0) (jS_tp (jS_n S x9 k9 b9 (jl_dgs (fun _ => 0) (v : Int)) (tp : Int)) x9) 1) _ ws3 ow3 cells3 slots3 (nS_x (S := S) (x := x9) (kk := k9) (b := b9) (f := jl_dgs (fun _ => 0) (v : Int)) (t := (tp : Int))) w1 (by omega) (by omega) (by rw [b9_l2]; omega) (by omega) (by omega) hB3
end P11
