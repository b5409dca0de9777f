/-! what was built, and what reading it gives -/
/-- a text is read to where the columns hold the trees -/
def jPr (tx : List Int) (S : jl_S) (K : jl_K) (cs : List Nat) : Prop := ∀ (f : Int → Int) (len : Int) (nm0 st0 dp0 tp0 va0 nb0 : Int → Int) (k0 s0 : Int), pB len f f → (tx.length : Int) ≤ len → tk_at f 0 tx → st0 0 = 0 → (∀ j, 0 ≤ j → j < 40 → jk_R (dp0 j)) → ∃ (N : Nat) (k s : Int) (nm st dp tp va nb g : Int → Int), N ≤ tx.length ∧ nm 0 = 1 ∧ nm 1 = 2 ∧ jC (jK_all S K 0 cs) S cs.length (cs.length : Int) ((jK_all S K 0 cs).length : Int) st dp tp va nb g ∧ (∀ j, 0 ≤ j → j < 40 → jk_R (dp j)) ∧ ∀ n : Nat, fn_Setup_parse_b14 (n + N) f len k0 s0 0 0 (-1) 0 nm0 0 0 st0 dp0 tp0 va0 nb0 0 = fn_Setup_parse_b14 n f len k s (tx.length : Int) 0 (-1) 2 nm (cs.length : Int) ((jK_all S K 0 cs).length : Int) st dp tp va nb (N : Int)
def jBd (tx : List Int) (S : jl_S) (K : jl_K) (P : Nat → Prop) (cs : List Nat) : Prop := ((cs = [] ∧ ∀ x, ¬ P x) ∨ ∃ σ, jN σ S K P cs) ∧ jPr tx S K cs
section BD
variable {S S' : jl_S} {K K' : jl_K} {P : Nat → Prop} {cs cs' : List Nat} {tx stx : List Int}
theorem Pr_step (hP : jPr tx S K cs) (hlen : 1 ≤ stx.length) (hst : ∀ (f : Int → Int) (len : Int) (nm st dp tp va nb g : Int → Int) (k0 s0 i : Int), pB len f f → (tx.length : Int) + (stx.length : Int) ≤ len → tk_at f (tx.length : Int) stx → nm 0 = 1 → nm 1 = 2 → jC (jK_all S K 0 cs) S cs.length (cs.length : Int) ((jK_all S K 0 cs).length : Int) st dp tp va nb g → (∀ j, 0 ≤ j → j < 40 → jk_R (dp j)) → (0 ≤ i ∧ i ≤ 700) → ∃ (k s : Int) (st' dp' tp' va' nb' g' : Int → Int), jC (jK_all S' K' 0 cs') S' cs'.length (cs'.length : Int) ((jK_all S' K' 0 cs').length : Int) st' dp' tp' va' nb' g' ∧ (∀ j, 0 ≤ j → j < 40 → jk_R (dp' j)) ∧ ∀ n : Nat, fn_Setup_parse_b14 (n + 1) f len k0 s0 (tx.length : Int) 0 (-1) 2 nm (cs.length : Int) ((jK_all S K 0 cs).length : Int) st dp tp va nb i = fn_Setup_parse_b14 n f len k s ((tx.length : Int) + (stx.length : Int)) 0 (-1) 2 nm (cs'.length : Int) ((jK_all S' K' 0 cs').length : Int) st' dp' tp' va' nb' (i + 1)) : jPr (tx ++ stx) S' K' cs' := by
  intro f len nm0 st0 dp0 tp0 va0 nb0 k0 s0 H hl hat h0 hd0
  rw [List.length_append] at hl
  obtain ⟨ha, hb⟩ := tk_app hat
  rw [show (0 : Int) + (tx.length : Int) = (tx.length : Int) by omega] at hb
  obtain ⟨N, k, s, nm, st, dp, tp, va, nb, g, e1, e2, e3, e4, e5, e6⟩ := hP f len nm0 st0 dp0 tp0 va0 nb0 k0 s0 H (by omega) ha h0 hd0
  have hlen7 := H.1.2
  obtain ⟨k', s', st', dp', tp', va', nb', g', q1, q2, q3⟩ := hst f len nm st dp tp va nb g k s (N : Int) H (by omega) hb e2 e3 e4 e5 (by omega)
  refine ⟨N + 1, k', s', nm, st', dp', tp', va', nb', g', by rw [List.length_append]; omega, e2, e3, q1, q2, fun n => ?_⟩
  rw [show n + (N + 1) = (n + 1) + N by omega, e6, q3, List.length_append]
  rw [show ((tx.length + stx.length : Nat) : Int) = (tx.length : Int) + (stx.length : Int) by omega, show ((N + 1 : Nat) : Int) = (N : Int) + 1 by omega]
/-- the listing with one cluster more behind -/
theorem all_snoc {c : Nat} : jK_all S K 0 (cs ++ [c]) = jK_all S K 0 cs ++ (jK_cl S K c).map (fun p => (p.1, p.2, cs.length)) := by
  rw [jK_all_app, jK_all, jK_all, List.append_nil, Nat.zero_add]
theorem cl_def {c : Nat} : jK_cl S K c = jK_tl S K c ++ (jK_pd K c).flatMap (fun b => jS_fl S 3 b 1) := rfl
theorem sum_fl {c : Nat} : jK_sum S K c = (((jK_pd K c).flatMap (fun b => jS_fl S 3 b 1)).map (fun p => jS_kv S p.1)).sum := by
  unfold jK_sum
  rw [fo_sum, Int.zero_add, fm_sum]
  exact congrArg List.sum (List.map_congr_left (fun b _ => tot_fl 3 b 1))
theorem kv_sum {l : List (Nat × Nat)} (h : ∀ p ∈ l, jS_kv S' p.1 = jS_kv S p.1) : (l.map (fun p => jS_kv S' p.1)).sum = (l.map (fun p => jS_kv S p.1)).sum := congrArg List.sum (List.map_congr_left h)
theorem last_i {j c : Nat} (h : j = cs.length) : (cs ++ [c])[j]? = some c := by
  subst h
  rw [List.getElem?_append_right (Nat.le_refl _), Nat.sub_self]
  rfl
/-- the columns alone make a component's state -/
def jMk (cl sz : Int) (st dp tp va nb : Int → Int) : jk_LS := jk_mk (fun k => ([0, 0, 0, 0, 0, 0, 0, 0, 0, 0, 2, cl, sz] : List Int).getD k 0) (fun k => ([fun _ => 0, fun _ => 0, fun _ => 0, st, dp, tp, va, nb] : List (Int → Int)).getD k (fun _ => 0)) (fun _ => 0) (fun _ => 0) (fun _ _ => 0) (fun _ _ => 0) (fun _ _ => 0) (fun _ _ => 0) (fun _ _ => 0)
theorem jb_b_N : jb_b jBd := by
  intro tx S K P cs h c hc
  rcases h.1 with ⟨h0, -⟩ | ⟨σ, hN⟩
  · rw [h0] at hc
    exact absurd hc List.not_mem_nil
  · obtain ⟨j, hj⟩ := List.getElem?_of_mem hc
    obtain ⟨-, -, -, -, -, hVc, -⟩ := jO_base_N σ S K P cs hN
    exact ⟨hN.kp c hc, (hVc j c hj).1, jO_N.2.2.1 σ S K P cs hN j c hj⟩
theorem jb_k_N : jb_k jBd := by
  intro tx S K P cs h hlt c b hc hPc
  have hne : ∀ u ∈ cs, u ≠ c := fun u hu e => hc (e ▸ hu)
  have eL : jK_all S (jK_n K c b) 0 (cs ++ [c]) = jK_all S K 0 cs := by
    rw [all_snoc, all_cg (S := S) (K := K) cs 0 (fun u hu => cl_K (show jK_tp (jK_n K c b) u = jK_tp K u from if_neg (hne u hu)) (show jK_pd (jK_n K c b) u = jK_pd K u from if_neg (hne u hu)))]
    have e : jK_cl S (jK_n K c b) c = [] := by
      unfold jK_cl jK_tl
      rw [show jK_tp (jK_n K c b) c = none from if_pos rfl, show jK_pd (jK_n K c b) c = [] from if_pos rfl]
      rfl
    rw [e, List.map_nil, List.append_nil]
  refine ⟨⟨Or.inr ?_, ?_⟩, by rw [eL]⟩
  · rcases h.1 with ⟨rfl, hP⟩ | ⟨σ, hN⟩
    · have eL2 : jK_all S (jK_n K c b) 0 ([] ++ [c]) = [] := eL
      refine ⟨jMk 1 0 (fun _ => 0) (fun _ => 0) (fun _ => 0) (fun _ => 0) (fun _ => 0), ⟨fun _ => 0, ?_⟩, ⟨rfl, by decide, by decide⟩, fun j _ _ => (show jk_R 0 from ⟨by decide, by decide⟩), ?_, fun x => ?_⟩
      · rw [eL2]
        exact ⟨⟨⟨by decide, by decide, by decide⟩, ⟨rfl, rfl, fun _ _ _ => Int.le_refl 0⟩, fun k h0 h1 => absurd (show k < 0 from h1) (by omega)⟩, rfl, rfl, fun k p hp => by rw [List.getElem?_nil] at hp; cases hp⟩
      · unfold jT
        rw [eL2]
        refine ⟨List.nodup_nil, List.nodup_cons.mpr ⟨List.not_mem_nil, List.nodup_nil⟩, Nat.succ_pos 0, fun u hu t ht => ?_, fun u hu => ?_, fun x hx => absurd hx List.not_mem_nil, fun x hx => absurd hx List.not_mem_nil⟩
        · rw [List.mem_singleton.mp (show u ∈ [c] from hu), show jK_tp (jK_n K c b) c = none from if_pos rfl] at ht
          cases ht
        · rw [List.mem_singleton.mp (show u ∈ [c] from hu), show jK_tp (jK_n K c b) c = none from if_pos rfl, show jK_pd (jK_n K c b) c = [] from if_pos rfl]
          exact ⟨fun b hb => absurd hb List.not_mem_nil, fun t ht => by cases ht⟩
      · rw [eL2]
        exact ⟨fun hx => absurd hx (hP x), fun hx => absurd hx List.not_mem_nil⟩
    · obtain ⟨z, -, -, hN2⟩ := jO_addCluster_N σ S K P cs hN hlt c b hc hPc
      exact ⟨_, hN2⟩
  · refine Pr_step h.2 (by decide) (fun f len nm st dp tp va nb g k0 s0 i H hl hat hn0 hn1 hC hG hi => ?_)
    have I := hC.1
    refine ⟨4, (tx.length : Int) + 7, jk_up st ((cs.length : Int) + 1) ((jK_all S K 0 cs).length : Int), dp, tp, va, nb, g, ?_, hG, fun n => ?_⟩
    · rw [eL, List.length_append, List.length_singleton, show ((cs.length + 1 : Nat) : Int) = (cs.length : Int) + 1 by omega]
      exact ⟨pI_cl I (by omega), by omega, rfl, hC.2.2.2⟩
    · rw [s_cl H I (by omega) hat (by omega) (by rw [show (jk_txt 15).length = 8 from rfl] at hl; omega) hi, eL, List.length_append, List.length_singleton, show ((cs.length + 1 : Nat) : Int) = (cs.length : Int) + 1 by omega]
      rfl
end BD
