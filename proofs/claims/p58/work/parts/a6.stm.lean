/-! statements read -/
section ST6
variable {f : Int → Int} {len q : Int} {cl sz : Int} {nm st dp tp va nb g : Int → Int} {k0 s0 i : Int} {n : Nat}
theorem s_cl (H : pB len f f) (I : pI cl sz 2 st dp tp va nb g) (hc : cl < 6) (hat : tk_at f q (jk_txt 15)) (hq : 0 ≤ q) (hl : q + 8 ≤ len) (hi : 0 ≤ i ∧ i ≤ 700) : fn_Setup_parse_b14 (n + 1) f len k0 s0 q 0 (-1) 2 nm cl sz st dp tp va nb i = fn_Setup_parse_b14 n f len 4 (q + 7) (q + 8) 0 (-1) 2 nm (cl + 1) sz (jk_up st (cl + 1) sz) dp tp va nb (i + 1) := by
  have hb := H.1
  have hcl := I.1.1
  have hsz := I.1.2.1
  have hat : tk_at f q (99 :: [108, 117, 115, 116, 101, 114] ++ [59]) := hat
  obtain ⟨hS, hE, hK⟩ := tk_word (f := f) (len := len) (c := 2) hat (by decide) (Or.inl rfl) (by decide) (by simp only [List.length_cons, List.length_nil]; omega) (by decide)
  have hE : tE f len q = q + 7 := hE
  obtain ⟨hw, hd⟩ := tk_app hat
  have hsemi := (tk_cons hd).1
  have hns := c_ns H hq (by omega : q ≤ len) (k0 := k0) (s0 := s0)
  rw [hK, hS, hE, if_neg (by decide)] at hns
  have h1 : fn_Text_isWord f 2 q (q + 7) [116, 111, 112, 105, 99] = some 0 := iw_l (by simp only [List.length_cons, List.length_nil]; omega) (by omega) (by omega) (by decide) (by decide)
  have h2 : fn_Text_isWord f 2 q (q + 7) [99, 108, 117, 115, 116, 101, 114] = some 1 := iw_1 H hw hq (by simp only [List.length_cons, List.length_nil]; omega) (by decide)
  have hoc : fn_Cords_openCluster cl sz st = some (cl, cl + 1, jk_up st (cl + 1) sz) := by
    unfold fn_Cords_openCluster
    (try simp (disch := omega) only [↓zk_lt, ↓zk_nl, ↓zk_eq, ↓zk_ne, ↓zk_ix, ↓zk_dv, ↓zk_bo, ↓zk_rg, ↓zk_get, ↓zk_set, Option.bind_some])
    simp
  have hsc : fn_Text_readSemicolon f len 2 q (q + 7) 0 (-1) = some (4, q + 7, q + 7 + 1, 0, -1) := sc_1 H hsemi (by omega) (by omega)
  have hrc : fn_Setup_readCluster f len 2 q (q + 7) 0 (-1) cl sz st = some (4, q + 7, q + 7 + 1, 0, -1, cl + 1, jk_up st (cl + 1) sz) := by
    unfold fn_Setup_readCluster
    (try simp (disch := omega) only [↓zk_lt, ↓zk_nl, ↓zk_eq, ↓zk_ne, ↓zk_ix, ↓zk_dv, ↓zk_bo, ↓zk_rg, ↓zk_get, ↓zk_set, Option.bind_some])
    rw [zk_bd hoc, zk_bd hsc]
  rw [fn_Setup_parse_b14]
  (try simp (disch := omega) only [↓zk_lt, ↓zk_nl, ↓zk_eq, ↓zk_ne, ↓zk_ix, ↓zk_dv, ↓zk_bo, ↓zk_rg, ↓zk_get, ↓zk_set, Option.bind_some])
  rw [zk_bd hns]
  (try simp (disch := omega) only [↓zk_lt, ↓zk_nl, ↓zk_eq, ↓zk_ne, ↓zk_ix, ↓zk_dv, ↓zk_bo, ↓zk_rg, ↓zk_get, ↓zk_set, Option.bind_some])
  rw [zk_bd h1]
  (try simp (disch := omega) only [↓zk_lt, ↓zk_nl, ↓zk_eq, ↓zk_ne, ↓zk_ix, ↓zk_dv, ↓zk_bo, ↓zk_rg, ↓zk_get, ↓zk_set, Option.bind_some])
  rw [zk_bd h2]
  (try simp (disch := omega) only [↓zk_lt, ↓zk_nl, ↓zk_eq, ↓zk_ne, ↓zk_ix, ↓zk_dv, ↓zk_bo, ↓zk_rg, ↓zk_get, ↓zk_set, Option.bind_some])
  rw [zk_bd hrc]
  rw [show q + 7 + 1 = q + 8 by omega]
/-- a cord put in -/
theorem c_b92 (H : pB len f f) (I : pI cl sz 2 st dp tp va nb g) (G : ∀ j, 0 ≤ j → j < 40 → jk_R (dp j)) (hs : sz < 40) (hc : 1 ≤ cl) {a d t v k s : Int} (hA : pAt cl sz st dp a d) (ht : 0 ≤ t ∧ t < 2) (hv : 0 ≤ v ∧ v ≤ 9999) (hsm : f q = 59) (hq : 0 ≤ q) (hl : q < len) : fn_Setup_readCord_b92 f len k s q 0 (-1) cl sz st dp tp va nb d a t v 0 = some (4, q, q + 1, 0, -1, sz + 1, rsz st (cl - 1) cl 1, ins dp a d sz, ins tp a t sz, ins va a v sz, ins nb a 0 sz) ∧ fn_Setup_readCord_b92 f len k s q 0 (-1) cl sz st dp tp va nb d a t v 1 = some (4, q, q + 1, 0, -1, sz + 1, rsz st (cl - 1) cl 1, ins dp a d sz, ins tp a t sz, jk_up (ins va a v sz) a (v / 10 * 10), jk_up (ins nb a 0 sz) a 1) ∧ pI cl (sz + 1) 2 (rsz st (cl - 1) cl 1) (ins dp a d sz) (ins tp a t sz) (ins va a v sz) (ins nb a 0 sz) (ins g a (cl - 1) sz) := by
  have hcl := I.1.1
  have hsz := I.1.2.1
  obtain ⟨⟨a1, a2⟩, a3, a4, a5, a6⟩ := hA
  have s1 := pI_st I (c := cl - 1) (by omega) (by omega)
  have he : st (cl - 1 + 1) = sz := by rw [show cl - 1 + 1 = cl by omega]; exact I.2.1.2.1
  have I2 := pI_ins I hs (c := cl - 1) (a := a) (d := d) (t := t) (v := v) (by omega) (by omega) a1 (by omega) a3 ht hv a4 a5 (fun h => a6 (by omega))
  have hin := sp_cins I hs (a := a) (c := cl - 1) (d := d) (t := t) (v := v) (by omega) a2 (by omega) (by omega)
  have hsc := sc_1 H hsm hq hl (k0 := k) (s0 := s) (o := -1)
  obtain ⟨w, W⟩ := pC_of I2 (pG_ins G (by omega) ⟨by omega, by omega⟩)
  have hl0 := lose0 W (k := a) (by omega) (by omega) (ins_e rfl)
  have hdv : v / pw 1 * pw 1 = v / 10 * 10 := rfl
  have hva : ins va a v sz a = v := ins_e rfl
  have hl1 : fn_Cords_loseKnots (ins va a v sz) (ins nb a 0 sz) a 1 = some (pks v - pks (v / 10 * 10), jk_up (ins va a v sz) a (v / 10 * 10), jk_up (ins nb a 0 sz) a 1) := by
    have hr1 := pks_r v
    have hr2 := pks_r (v / 10 * 10)
    unfold fn_Cords_loseKnots
    (try simp (disch := omega) only [↓zk_lt, ↓zk_nl, ↓zk_eq, ↓zk_ne, ↓zk_ix, ↓zk_dv, ↓zk_bo, ↓zk_rg, ↓zk_get, ↓zk_set, Option.bind_some])
    rw [hva, zk_bd (sp_ksum hv.1 (by omega)), zk_bd (sp_lose (by omega) (by omega) hv.1 (by omega)), hdv]
    (try simp (disch := omega) only [↓zk_lt, ↓zk_nl, ↓zk_eq, ↓zk_ne, ↓zk_ix, ↓zk_dv, ↓zk_bo, ↓zk_rg, ↓zk_get, ↓zk_set, Option.bind_some])
    rw [up_eq rfl, zk_bd (sp_ksum (by omega) (by omega))]
  refine ⟨?_, ?_, I2⟩
  · unfold fn_Setup_readCord_b92
    rw [zk_bd hsc, zk_bd c_hf0]
    (try simp (disch := omega) only [↓zk_lt, ↓zk_nl, ↓zk_eq, ↓zk_ne, ↓zk_ix, ↓zk_dv, ↓zk_bo, ↓zk_rg, ↓zk_get, ↓zk_set, Option.bind_some])
    rw [zk_bd hin]
    rw [zk_bd hl0]
  · unfold fn_Setup_readCord_b92
    rw [zk_bd hsc, zk_bd c_hf0]
    (try simp (disch := omega) only [↓zk_lt, ↓zk_nl, ↓zk_eq, ↓zk_ne, ↓zk_ix, ↓zk_dv, ↓zk_bo, ↓zk_rg, ↓zk_get, ↓zk_set, Option.bind_some])
    rw [zk_bd hin]
    rw [zk_bd hl1]
/-- topic, value and semicolon -/
theorem c_b56 (H : pB len f f) (hnm0 : nm 0 = 1) (hnm1 : nm 1 = 2) {t v : Nat} (ht : t < 2) (hv : v < 1000) {a d k s : Int} (hq : 0 ≤ q) (hat : tk_at f q (32 :: (97 + (t : Int)) :: 32 :: (jl_nt v ++ [59]))) (hl : q + 3 + ((jl_nt v).length : Int) < len) : fn_Setup_readCord_b56 f len k s q 0 (-1) 2 nm cl sz st dp tp va nb d a = fn_Setup_readCord_b92 f len 4 (q + 3 + ((jl_nt v).length : Int)) (q + 3 + ((jl_nt v).length : Int)) 0 (-1) cl sz st dp tp va nb d a (t : Int) (v : Int) 0 ∧ f (q + 3 + ((jl_nt v).length : Int)) = 59 := by
  have hb := H.1
  obtain ⟨h32, hat1⟩ := tk_cons hat
  obtain ⟨ha, hat2⟩ := tk_cons hat1
  obtain ⟨h322, hat3⟩ := tk_cons hat2
  obtain ⟨hnt, hse⟩ := tk_app hat3
  have hsemi := (tk_cons hse).1
  rw [show q + 1 + 1 + 1 + ((jl_nt v).length : Int) = q + 3 + ((jl_nt v).length : Int) by omega] at hsemi
  have hrt := rt_1 H hnm0 hnm1 ht (q := q) (k0 := k) (s0 := s) (o := -1) (fun j hj => by
    have := hat j (by simp only [List.length_cons, List.length_nil] at hj ⊢; omega)
    rw [this]
    rcases (show j = 0 ∨ j = 1 ∨ j = 2 by simp only [List.length_cons, List.length_nil] at hj; omega) with rfl | rfl | rfl <;> rfl) hq (by omega)
  rw [show q + 1 + 1 = q + 2 by omega] at hat2
  have hrn := rn_1 H hv (q := q + 2) (k0 := 2) (s0 := q + 1) (o := -1) (lo := 0) (hi := 9999) hat2 (Or.inr rfl) (by omega) (by omega) (by omega) (by omega)
  rw [show q + 2 + 1 = q + 3 by omega] at hrn
  obtain ⟨hS, hE, hK⟩ := tk_semi (f := f) (len := len) hsemi hl
  have hcn := c_next H (q := q + 3 + ((jl_nt v).length : Int)) (by omega) (by omega : _ ≤ len) (k0 := 3) (s0 := q + 3)
  rw [hK, hS, hE] at hcn
  have htw : fn_Text_takesWord f len 3 (q + 3) (q + 3 + ((jl_nt v).length : Int)) 0 [110, 105, 98, 98, 108, 101, 100] = some (0, 4, q + 3 + ((jl_nt v).length : Int), q + 3 + ((jl_nt v).length : Int)) := by
    unfold fn_Text_takesWord
    rw [zk_bd c_hf0]
    (try simp (disch := omega) only [↓zk_lt, ↓zk_nl, ↓zk_eq, ↓zk_ne, ↓zk_ix, ↓zk_dv, ↓zk_bo, ↓zk_rg, ↓zk_get, ↓zk_set, Option.bind_some])
    rw [zk_bd hcn, zk_bd (iw_k (k := 4) (by decide) (by decide))]
    (try simp (disch := omega) only [↓zk_lt, ↓zk_nl, ↓zk_eq, ↓zk_ne, ↓zk_ix, ↓zk_dv, ↓zk_bo, ↓zk_rg, ↓zk_get, ↓zk_set, Option.bind_some])
  refine ⟨?_, hsemi⟩
  unfold fn_Setup_readCord_b56
  rw [zk_bd hrt, zk_bd hrn, zk_bd htw]
  (try simp (disch := omega) only [↓zk_lt, ↓zk_nl, ↓zk_eq, ↓zk_ne, ↓zk_ix, ↓zk_dv, ↓zk_bo, ↓zk_rg, ↓zk_get, ↓zk_set, Option.bind_some])
theorem c_b56n (H : pB len f f) (hnm0 : nm 0 = 1) (hnm1 : nm 1 = 2) {t v : Nat} (ht : t < 2) (hv : v < 1000) {a d k s : Int} (hq : 0 ≤ q) (hat : tk_at f q (32 :: (97 + (t : Int)) :: 32 :: (jl_nt v ++ [32, 110, 105, 98, 98, 108, 101, 100, 32, 49, 59]))) (hl : q + 13 + ((jl_nt v).length : Int) < len) : fn_Setup_readCord_b56 f len k s q 0 (-1) 2 nm cl sz st dp tp va nb d a = fn_Setup_readCord_b92 f len 3 (q + 12 + ((jl_nt v).length : Int)) (q + 13 + ((jl_nt v).length : Int)) 0 (-1) cl sz st dp tp va nb d a (t : Int) (v : Int) 1 ∧ f (q + 13 + ((jl_nt v).length : Int)) = 59 := by
  have hb := H.1
  obtain ⟨h32, hat1⟩ := tk_cons hat
  obtain ⟨ha, hat2⟩ := tk_cons hat1
  obtain ⟨h322, hat3⟩ := tk_cons hat2
  obtain ⟨hnt, hse⟩ := tk_app hat3
  rw [show q + 1 + 1 + 1 + ((jl_nt v).length : Int) = q + 3 + ((jl_nt v).length : Int) by omega] at hse
  have hrt := rt_1 H hnm0 hnm1 ht (q := q) (k0 := k) (s0 := s) (o := -1) (fun j hj => by
    have := hat j (by simp only [List.length_cons, List.length_nil] at hj ⊢; omega)
    rw [this]
    rcases (show j = 0 ∨ j = 1 ∨ j = 2 by simp only [List.length_cons, List.length_nil] at hj; omega) with rfl | rfl | rfl <;> rfl) hq (by omega)
  rw [show q + 1 + 1 = q + 2 by omega] at hat2
  have hat2b : tk_at f (q + 2) (32 :: (jl_nt v ++ [32])) := fun j hj => by
    rw [List.length_cons, List.length_append, List.length_singleton] at hj
    have := hat2 j (by rw [List.length_cons, List.length_append]; simp only [List.length_cons, List.length_nil]; omega)
    rw [this]
    cases j with
    | zero => rfl
    | succ j =>
      rw [List.getD_cons_succ, List.getD_cons_succ, List.getD_eq_getElem?_getD, List.getD_eq_getElem?_getD]
      rcases Nat.lt_or_ge j (jl_nt v).length with h | h
      · rw [List.getElem?_append_left h, List.getElem?_append_left h]
      · rw [List.getElem?_append_right h, List.getElem?_append_right h, show j - (jl_nt v).length = 0 by omega]
        rfl
  have hrn := rn_1 H hv (q := q + 2) (k0 := 2) (s0 := q + 1) (o := -1) (lo := 0) (hi := 9999) hat2b (Or.inl rfl) (by omega) (by omega) (by omega) (by omega)
  rw [show q + 2 + 1 = q + 3 by omega] at hrn
  generalize hQ : q + 3 + ((jl_nt v).length : Int) = Q at hse hrn ⊢
  rw [show q + 12 + ((jl_nt v).length : Int) = Q + 9 by omega, show q + 13 + ((jl_nt v).length : Int) = Q + 10 by omega]
  have hse1 : tk_at f Q (32 :: (110 :: [105, 98, 98, 108, 101, 100] ++ [32]) ++ [49, 59]) := hse
  obtain ⟨hsa, hsb⟩ := tk_app hse1
  have hsb : tk_at f (Q + 9) [49, 59] := hsb
  obtain ⟨hS, hE, hK⟩ := tk_sword (f := f) (len := len) (c := 2) hsa (by decide) (Or.inl rfl) (by decide) (by simp only [List.length_cons, List.length_nil]; omega) (by decide)
  have hE : tE f len Q = Q + 1 + 7 := hE
  have hcn := c_next H (q := Q) (by omega) (by omega : _ ≤ len) (k0 := 3) (s0 := q + 3)
  rw [hK, hS, hE] at hcn
  have hiw : fn_Text_isWord f 2 (Q + 1) (Q + 1 + 7) [110, 105, 98, 98, 108, 101, 100] = some 1 := iw_1 H (tk_app (show tk_at f (Q + 1) ([110, 105, 98, 98, 108, 101, 100] ++ [32]) from (tk_cons hsa).2)).1 (by omega) (by simp only [List.length_cons, List.length_nil]; omega) (by decide)
  have htw : fn_Text_takesWord f len 3 (q + 3) Q 0 [110, 105, 98, 98, 108, 101, 100] = some (1, 2, Q + 1, Q + 1 + 7) := by
    unfold fn_Text_takesWord
    rw [zk_bd c_hf0]
    (try simp (disch := omega) only [↓zk_lt, ↓zk_nl, ↓zk_eq, ↓zk_ne, ↓zk_ix, ↓zk_dv, ↓zk_bo, ↓zk_rg, ↓zk_get, ↓zk_set, Option.bind_some])
    rw [zk_bd hcn, zk_bd hiw]
    (try simp (disch := omega) only [↓zk_lt, ↓zk_nl, ↓zk_eq, ↓zk_ne, ↓zk_ix, ↓zk_dv, ↓zk_bo, ↓zk_rg, ↓zk_get, ↓zk_set, Option.bind_some])
  have hsc : tk_at f (Q + 1 + 7) (32 :: (jl_nt 1 ++ [59])) := by
    obtain ⟨b1, b2⟩ := tk_app (show tk_at f Q ([32, 110, 105, 98, 98, 108, 101, 100] ++ [32, 49, 59]) from hse)
    rw [show Q + 1 + 7 = Q + (([32, 110, 105, 98, 98, 108, 101, 100] : List Int).length : Int) by simp only [List.length_cons, List.length_nil]; omega]
    exact b2
  have hl1 : ((jl_nt 1).length : Int) = 1 := rfl
  have hrn1 := rn_1 H (v := 1) (by decide) (q := Q + 1 + 7) (k0 := 2) (s0 := Q + 1) (o := -1) (lo := 1) (hi := 4) hsc (Or.inr rfl) (by omega) (by omega) (by decide) (by decide)
  rw [hl1, show Q + 1 + 7 + 1 = Q + 9 by omega, show Q + 9 + 1 = Q + 10 by omega] at hrn1
  have hsemi : f (Q + 10) = 59 := by
    have := (tk_cons (tk_cons hsb).2).1
    rw [show Q + 9 + 1 = Q + 10 by omega] at this
    exact this
  refine ⟨?_, hsemi⟩
  unfold fn_Setup_readCord_b56
  rw [zk_bd hrt, zk_bd hrn, zk_bd htw]
  (try simp (disch := omega) only [↓zk_lt, ↓zk_nl, ↓zk_eq, ↓zk_ne, ↓zk_ix, ↓zk_dv, ↓zk_bo, ↓zk_rg, ↓zk_get, ↓zk_set, Option.bind_some])
  rw [zk_bd hrn1]
  rfl
end ST6
