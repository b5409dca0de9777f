/-! whole statements read -/
section ST7
variable {f : Int → Int} {len q : Int} {cl sz : Int} {nm st dp tp va nb g : Int → Int} {k0 s0 i : Int} {n : Nat}
theorem c_b37 {a d k s : Int} (h : fn_Setup_placeFor cl sz st dp d = some a) (ha : 0 ≤ a ∧ a ≤ 100) : fn_Setup_readCord_b37 f len k s q 0 (-1) 2 nm cl sz st dp tp va nb d = fn_Setup_readCord_b56 f len k s q 0 (-1) 2 nm cl sz st dp tp va nb d a := by
  unfold fn_Setup_readCord_b37
  rw [zk_bd h]
  (try simp (disch := omega) only [↓zk_lt, ↓zk_nl, ↓zk_eq, ↓zk_ne, ↓zk_ix, ↓zk_dv, ↓zk_bo, ↓zk_rg, ↓zk_get, ↓zk_set, Option.bind_some])
/-- the first word's checks -/
theorem c_cfw (I : pI cl sz 2 st dp tp va nb g) (G : ∀ j, 0 ≤ j → j < 40 → jk_R (dp j)) (hs : sz < 40) (hc : 1 ≤ cl) {s v : Int} (hv : v = 0 ∨ (v = 1 ∧ ht st dp (cl - 1) = 0)) : fn_Setup_checkFirstWord_b34 s 0 (-1) cl sz st dp v = some (0, -1) := by
  obtain ⟨w, W⟩ := pC_of I G
  rcases cfw W (o := -1) (s := s) (v := v) (by omega) with ⟨h, -⟩ | ⟨-, ⟨h, -⟩ | ⟨-, h⟩⟩
  · rcases h with h | ⟨h1, -, h2⟩
    · omega
    · omega
  · omega
  · exact h
/-- pendants -/
theorem s_pre (H : pB len f f) (I : pI cl sz 2 st dp tp va nb g) (G : ∀ j, 0 ≤ j → j < 40 → jk_R (dp j)) (hs : sz < 40) (hc : 1 ≤ cl) (hat : tk_at f q [112, 101, 110, 100, 97, 110, 116, 32]) (hq : 0 ≤ q) (hl : q + 8 < len) (hi : 0 ≤ i ∧ i ≤ 700) : fn_Setup_parse_b14 (n + 1) f len k0 s0 q 0 (-1) 2 nm cl sz st dp tp va nb i = (fn_Setup_readCord_b56 f len 2 q (q + 7) 0 (-1) 2 nm cl sz st dp tp va nb 1 sz).bind fun q65 => fn_Setup_parse_b14 n f len q65.1 q65.2.1 q65.2.2.1 q65.2.2.2.1 q65.2.2.2.2.1 2 nm cl q65.2.2.2.2.2.1 q65.2.2.2.2.2.2.1 q65.2.2.2.2.2.2.2.1 q65.2.2.2.2.2.2.2.2.1 q65.2.2.2.2.2.2.2.2.2.1 q65.2.2.2.2.2.2.2.2.2.2 (i + 1) := by
  have hb := H.1
  have hcl := I.1.1
  have hsz := I.1.2.1
  have hat : tk_at f q (112 :: [101, 110, 100, 97, 110, 116] ++ [32]) := hat
  obtain ⟨hS, hE, hK⟩ := tk_word (f := f) (len := len) (c := 2) hat (by decide) (Or.inl rfl) (by decide) (by simp only [List.length_cons, List.length_nil]; omega) (by decide)
  have hE : tE f len q = q + 7 := hE
  obtain ⟨hw, -⟩ := tk_app hat
  have hf0 := (tk_cons (show tk_at f q (112 :: ([101, 110, 100, 97, 110, 116] ++ [32])) from hat)).1
  have h1 : fn_Text_isWord f 2 q (q + 7) [116, 111, 112, 105, 99] = some 0 := iw_l (by simp only [List.length_cons, List.length_nil]; omega) (by omega) (by omega) (by decide) (by decide)
  have h2 : fn_Text_isWord f 2 q (q + 7) [99, 108, 117, 115, 116, 101, 114] = some 0 := iw_h H (by decide) (by rw [hf0]; decide) (by decide) hq (by omega) (by simp only [List.length_cons, List.length_nil]; omega) (by omega)
  have h3 : fn_Text_isWord f 2 q (q + 7) [116, 111, 112] = some 0 := iw_l (by simp only [List.length_cons, List.length_nil]; omega) (by omega) (by omega) (by decide) (by decide)
  have h4 : fn_Text_isWord f 2 q (q + 7) [112, 101, 110, 100, 97, 110, 116] = some 1 := iw_1 H hw hq (by simp only [List.length_cons, List.length_nil]; omega) (by decide)
  have hcw := c_cfw I G hs hc (s := q) (v := 0) (Or.inl rfl)
  have h5 : fn_Setup_checkFirstWord f 2 q (q + 7) 0 (-1) cl sz st dp = some (0, -1) := by
    unfold fn_Setup_checkFirstWord
    rw [zk_bd h3]
    (try simp (disch := omega) only [↓zk_lt, ↓zk_nl, ↓zk_eq, ↓zk_ne, ↓zk_ix, ↓zk_dv, ↓zk_bo, ↓zk_rg, ↓zk_get, ↓zk_set, Option.bind_some])
    rw [zk_bd h4]
    (try simp (disch := omega) only [↓zk_lt, ↓zk_nl, ↓zk_eq, ↓zk_ne, ↓zk_ix, ↓zk_dv, ↓zk_bo, ↓zk_rg, ↓zk_get, ↓zk_set, Option.bind_some])
    exact hcw
  have ho := o_comp H hq (by omega : q ≤ len) (k0 := k0) (s0 := s0) (o := -1) (tn := 2) (nm := nm) (cl := cl) (sz := sz) (st := st) (dp := dp) (tp := tp) (va := va) (nb := nb) (n := n) hi (by rw [hK]; decide) (by rw [hK, hS, hE]; exact h1) (by rw [hK, hS, hE]; exact h2)
  rw [hK, hS, hE] at ho
  rw [ho]
  congr 1
  unfold fn_Setup_readCord
  rw [zk_bd h5, zk_bd h3]
  (try simp (disch := omega) only [↓zk_lt, ↓zk_nl, ↓zk_eq, ↓zk_ne, ↓zk_ix, ↓zk_dv, ↓zk_bo, ↓zk_rg, ↓zk_get, ↓zk_set, Option.bind_some])
  rw [zk_bd h4]
  (try simp (disch := omega) only [↓zk_lt, ↓zk_nl, ↓zk_eq, ↓zk_ne, ↓zk_ix, ↓zk_dv, ↓zk_bo, ↓zk_rg, ↓zk_get, ↓zk_set, Option.bind_some])
  exact c_b37 (pf1 I hc) (by omega)
theorem s_pend (H : pB len f f) (I : pI cl sz 2 st dp tp va nb g) (G : ∀ j, 0 ≤ j → j < 40 → jk_R (dp j)) (hnm0 : nm 0 = 1) (hnm1 : nm 1 = 2) (hs : sz < 40) (hc : 1 ≤ cl) {t v : Nat} (ht : t < 2) (hv : v < 1000) (hat : tk_at f q (jk_txt 16 ++ [97 + (t : Int)] ++ [32] ++ jl_nt v ++ [59])) (hq : 0 ≤ q) (hl : q + 11 + ((jl_nt v).length : Int) ≤ len) (hi : 0 ≤ i ∧ i ≤ 700) : fn_Setup_parse_b14 (n + 1) f len k0 s0 q 0 (-1) 2 nm cl sz st dp tp va nb i = fn_Setup_parse_b14 n f len 4 (q + 10 + ((jl_nt v).length : Int)) (q + 11 + ((jl_nt v).length : Int)) 0 (-1) 2 nm cl (sz + 1) (rsz st (cl - 1) cl 1) (ins dp sz 1 sz) (ins tp sz (t : Int) sz) (ins va sz (v : Int) sz) (ins nb sz 0 sz) (i + 1) ∧ pI cl (sz + 1) 2 (rsz st (cl - 1) cl 1) (ins dp sz 1 sz) (ins tp sz (t : Int) sz) (ins va sz (v : Int) sz) (ins nb sz 0 sz) (ins g sz (cl - 1) sz) := by
  have hat : tk_at f q ([112, 101, 110, 100, 97, 110, 116] ++ (32 :: (97 + (t : Int)) :: 32 :: (jl_nt v ++ [59]))) := hat
  obtain ⟨hw, hr⟩ := tk_app hat
  have hr : tk_at f (q + 7) (32 :: (97 + (t : Int)) :: 32 :: (jl_nt v ++ [59])) := hr
  have hwx : tk_at f q [112, 101, 110, 100, 97, 110, 116, 32] := (tk_app (show tk_at f q ([112, 101, 110, 100, 97, 110, 116, 32] ++ ((97 + (t : Int)) :: 32 :: (jl_nt v ++ [59]))) from hat)).1
  obtain ⟨h1, h2⟩ := c_b56 H hnm0 hnm1 ht hv (q := q + 7) (cl := cl) (sz := sz) (st := st) (dp := dp) (tp := tp) (va := va) (nb := nb) (a := sz) (d := 1) (k := 2) (s := q) (by omega) hr (by omega)
  rw [show q + 7 + 3 + ((jl_nt v).length : Int) = q + 10 + ((jl_nt v).length : Int) by omega] at h1 h2
  obtain ⟨h3, -, h4⟩ := c_b92 H I G hs hc (at_pend I hc) (t := (t : Int)) (v := (v : Int)) (k := 4) (s := q + 10 + ((jl_nt v).length : Int)) (by omega) (by omega) h2 (by omega) (by omega)
  refine ⟨?_, h4⟩
  rw [s_pre H I G hs hc hwx hq (by omega) hi, h1, zk_bd h3, show q + 10 + ((jl_nt v).length : Int) + 1 = q + 11 + ((jl_nt v).length : Int) by omega]
theorem s_pendn (H : pB len f f) (I : pI cl sz 2 st dp tp va nb g) (G : ∀ j, 0 ≤ j → j < 40 → jk_R (dp j)) (hnm0 : nm 0 = 1) (hnm1 : nm 1 = 2) (hs : sz < 40) (hc : 1 ≤ cl) {t v : Nat} (ht : t < 2) (hv : v < 1000) (hat : tk_at f q (jk_txt 16 ++ [97 + (t : Int)] ++ [32] ++ jl_nt v ++ jk_txt 17 ++ [59])) (hq : 0 ≤ q) (hl : q + 21 + ((jl_nt v).length : Int) ≤ len) (hi : 0 ≤ i ∧ i ≤ 700) : fn_Setup_parse_b14 (n + 1) f len k0 s0 q 0 (-1) 2 nm cl sz st dp tp va nb i = fn_Setup_parse_b14 n f len 4 (q + 20 + ((jl_nt v).length : Int)) (q + 21 + ((jl_nt v).length : Int)) 0 (-1) 2 nm cl (sz + 1) (rsz st (cl - 1) cl 1) (ins dp sz 1 sz) (ins tp sz (t : Int) sz) (jk_up (ins va sz (v : Int) sz) sz ((v : Int) / 10 * 10)) (jk_up (ins nb sz 0 sz) sz 1) (i + 1) ∧ pI cl (sz + 1) 2 (rsz st (cl - 1) cl 1) (ins dp sz 1 sz) (ins tp sz (t : Int) sz) (ins va sz (v : Int) sz) (ins nb sz 0 sz) (ins g sz (cl - 1) sz) := by
  rw [List.append_assoc (_ ++ jl_nt v)] at hat
  have hat : tk_at f q ([112, 101, 110, 100, 97, 110, 116] ++ (32 :: (97 + (t : Int)) :: 32 :: (jl_nt v ++ [32, 110, 105, 98, 98, 108, 101, 100, 32, 49, 59]))) := hat
  obtain ⟨hw, hr⟩ := tk_app hat
  have hr : tk_at f (q + 7) (32 :: (97 + (t : Int)) :: 32 :: (jl_nt v ++ [32, 110, 105, 98, 98, 108, 101, 100, 32, 49, 59])) := hr
  have hwx : tk_at f q [112, 101, 110, 100, 97, 110, 116, 32] := (tk_app (show tk_at f q ([112, 101, 110, 100, 97, 110, 116, 32] ++ ((97 + (t : Int)) :: 32 :: (jl_nt v ++ [32, 110, 105, 98, 98, 108, 101, 100, 32, 49, 59]))) from hat)).1
  obtain ⟨h1, h2⟩ := c_b56n H hnm0 hnm1 ht hv (q := q + 7) (cl := cl) (sz := sz) (st := st) (dp := dp) (tp := tp) (va := va) (nb := nb) (a := sz) (d := 1) (k := 2) (s := q) (by omega) hr (by omega)
  rw [show q + 7 + 13 + ((jl_nt v).length : Int) = q + 20 + ((jl_nt v).length : Int) by omega, show q + 7 + 12 + ((jl_nt v).length : Int) = q + 19 + ((jl_nt v).length : Int) by omega] at h1
  rw [show q + 7 + 13 + ((jl_nt v).length : Int) = q + 20 + ((jl_nt v).length : Int) by omega] at h2
  obtain ⟨-, h3, h4⟩ := c_b92 H I G hs hc (at_pend I hc) (t := (t : Int)) (v := (v : Int)) (k := 3) (s := q + 19 + ((jl_nt v).length : Int)) (by omega) (by omega) h2 (by omega) (by omega)
  refine ⟨?_, h4⟩
  rw [s_pre H I G hs hc hwx hq (by omega) hi, h1, zk_bd h3, show q + 20 + ((jl_nt v).length : Int) + 1 = q + 21 + ((jl_nt v).length : Int) by omega]
/-- a subsidiary of the last pendant -/
theorem s_sub (H : pB len f f) (I : pI cl sz 2 st dp tp va nb g) (G : ∀ j, 0 ≤ j → j < 40 → jk_R (dp j)) (hnm0 : nm 0 = 1) (hnm1 : nm 1 = 2) (hs : sz < 40) (hc : 1 ≤ cl) (hlast : st (cl - 1) ≤ sz - 1 ∧ dp (sz - 1) = 1) {t v : Nat} (ht : t < 2) (hv : v < 1000) (hat : tk_at f q (jk_txt 18 ++ [97 + (t : Int)] ++ [32] ++ jl_nt v ++ [59])) (hq : 0 ≤ q) (hl : q + 9 + ((jl_nt v).length : Int) ≤ len) (hi : 0 ≤ i ∧ i ≤ 700) : fn_Setup_parse_b14 (n + 1) f len k0 s0 q 0 (-1) 2 nm cl sz st dp tp va nb i = fn_Setup_parse_b14 n f len 4 (q + 8 + ((jl_nt v).length : Int)) (q + 9 + ((jl_nt v).length : Int)) 0 (-1) 2 nm cl (sz + 1) (rsz st (cl - 1) cl 1) (ins dp sz 2 sz) (ins tp sz (t : Int) sz) (ins va sz (v : Int) sz) (ins nb sz 0 sz) (i + 1) ∧ pI cl (sz + 1) 2 (rsz st (cl - 1) cl 1) (ins dp sz 2 sz) (ins tp sz (t : Int) sz) (ins va sz (v : Int) sz) (ins nb sz 0 sz) (ins g sz (cl - 1) sz) := by
  have hb := H.1
  have hcl := I.1.1
  have hsz := I.1.2.1
  have hnl := jl_nt_le3 v
  have s1 := pI_st I (c := cl - 1) (by omega) (by omega)
  have hat : tk_at f q ([115, 117, 98] ++ (32 :: 50 :: 32 :: (97 + (t : Int)) :: 32 :: (jl_nt v ++ [59]))) := hat
  have hwx : tk_at f q (115 :: [117, 98] ++ [32]) := (tk_app (show tk_at f q ([115, 117, 98, 32] ++ (50 :: 32 :: (97 + (t : Int)) :: 32 :: (jl_nt v ++ [59]))) from hat)).1
  have hnx : tk_at f (q + 3) (32 :: (jl_nt 2 ++ [32])) := (tk_app (show tk_at f (q + 3) ([32, 50, 32] ++ ((97 + (t : Int)) :: 32 :: (jl_nt v ++ [59]))) from (tk_app hat).2)).1
  have hr : tk_at f (q + 5) (32 :: (97 + (t : Int)) :: 32 :: (jl_nt v ++ [59])) := by
    have := (tk_app (show tk_at f q ([115, 117, 98, 32, 50] ++ (32 :: (97 + (t : Int)) :: 32 :: (jl_nt v ++ [59]))) from hat)).2
    exact this
  obtain ⟨hS, hE, hK⟩ := tk_word (f := f) (len := len) (c := 2) hwx (by decide) (Or.inl rfl) (by decide) (by simp only [List.length_cons, List.length_nil]; omega) (by decide)
  have hE : tE f len q = q + 3 := hE
  obtain ⟨hw, -⟩ := tk_app hwx
  have hf0 := (tk_cons (show tk_at f q (115 :: ([117, 98] ++ [32])) from hwx)).1
  have h1 : fn_Text_isWord f 2 q (q + 3) [116, 111, 112, 105, 99] = some 0 := iw_l (by simp only [List.length_cons, List.length_nil]; omega) (by omega) (by omega) (by decide) (by decide)
  have h2 : fn_Text_isWord f 2 q (q + 3) [99, 108, 117, 115, 116, 101, 114] = some 0 := iw_l (by simp only [List.length_cons, List.length_nil]; omega) (by omega) (by omega) (by decide) (by decide)
  have h3 : fn_Text_isWord f 2 q (q + 3) [116, 111, 112] = some 0 := iw_h H (by decide) (by rw [hf0]; decide) (by decide) hq (by omega) (by simp only [List.length_cons, List.length_nil]; omega) (by omega)
  have h4 : fn_Text_isWord f 2 q (q + 3) [112, 101, 110, 100, 97, 110, 116] = some 0 := iw_l (by simp only [List.length_cons, List.length_nil]; omega) (by omega) (by omega) (by decide) (by decide)
  have h4b : fn_Text_isWord f 2 q (q + 3) [115, 117, 98] = some 1 := iw_1 H hw hq (by simp only [List.length_cons, List.length_nil]; omega) (by decide)
  have hcw := c_cfw I G hs hc (s := q) (v := 0) (Or.inl rfl)
  have h5 : fn_Setup_checkFirstWord f 2 q (q + 3) 0 (-1) cl sz st dp = some (0, -1) := by
    unfold fn_Setup_checkFirstWord
    rw [zk_bd h3]
    (try simp (disch := omega) only [↓zk_lt, ↓zk_nl, ↓zk_eq, ↓zk_ne, ↓zk_ix, ↓zk_dv, ↓zk_bo, ↓zk_rg, ↓zk_get, ↓zk_set, Option.bind_some])
    rw [zk_bd h4]
    (try simp (disch := omega) only [↓zk_lt, ↓zk_nl, ↓zk_eq, ↓zk_ne, ↓zk_ix, ↓zk_dv, ↓zk_bo, ↓zk_rg, ↓zk_get, ↓zk_set, Option.bind_some])
    rw [zk_bd h4b]
    (try simp (disch := omega) only [↓zk_lt, ↓zk_nl, ↓zk_eq, ↓zk_ne, ↓zk_ix, ↓zk_dv, ↓zk_bo, ↓zk_rg, ↓zk_get, ↓zk_set, Option.bind_some])
    exact hcw
  have hl2 : ((jl_nt 2).length : Int) = 1 := rfl
  have h6 := rn_1 H (v := 2) (by decide) (q := q + 3) (k0 := 2) (s0 := q) (o := -1) (lo := 2) (hi := 3) hnx (Or.inl rfl) (by omega) (by omega) (by decide) (by decide)
  rw [hl2, show q + 3 + 1 = q + 4 by omega, show q + 4 + 1 = q + 5 by omega] at h6
  have h6 : fn_Text_readNumber f len 2 q (q + 3) 0 (-1) 2 3 = some (2, 3, q + 4, q + 5, 0, -1) := h6
  obtain ⟨k, hk, hkl⟩ := c_lat I (D := 1) (a := st (cl - 1)) (by decide) s1
  have hk2 : k = sz - 1 := pLt_u s1.1 hkl (Or.inr ⟨⟨hlast.1, by omega⟩, hlast.2, fun j h1 h2 => by omega⟩)
  have hbr := (be_r I (k := sz - 1) (by omega) (by omega)).1
  have hbe : be sz dp (sz - 1) = sz := by omega
  have h7 : fn_Setup_placeFor cl sz st dp 2 = some sz := by
    unfold fn_Setup_placeFor
    rw [zk_bd (sp_start I (c := cl - 1) (by omega) (by omega))]
    (try simp (disch := omega) only [↓zk_lt, ↓zk_nl, ↓zk_eq, ↓zk_ne, ↓zk_ix, ↓zk_dv, ↓zk_bo, ↓zk_rg, ↓zk_get, ↓zk_set, Option.bind_some])
    rw [show (2 : Int) - 1 = 1 from rfl, zk_bd hk, hk2]
    (try simp (disch := omega) only [↓zk_lt, ↓zk_nl, ↓zk_eq, ↓zk_ne, ↓zk_ix, ↓zk_dv, ↓zk_bo, ↓zk_rg, ↓zk_get, ↓zk_set, Option.bind_some])
    rw [zk_bd (sp_be I (k := sz - 1) (by omega) (by omega)), hbe]
  have hA := (at_sub I hc (k := sz - 1) (d := 2) hlast.1 (by omega) (by omega) (by decide)).1
  rw [hbe] at hA
  obtain ⟨h8, h9⟩ := c_b56 H hnm0 hnm1 ht hv (q := q + 5) (cl := cl) (sz := sz) (st := st) (dp := dp) (tp := tp) (va := va) (nb := nb) (a := sz) (d := 2) (k := 3) (s := q + 4) (by omega) hr (by omega)
  rw [show q + 5 + 3 + ((jl_nt v).length : Int) = q + 8 + ((jl_nt v).length : Int) by omega] at h8 h9
  obtain ⟨h10, -, h11⟩ := c_b92 H I G hs hc hA (t := (t : Int)) (v := (v : Int)) (k := 4) (s := q + 8 + ((jl_nt v).length : Int)) (by omega) (by omega) h9 (by omega) (by omega)
  refine ⟨?_, h11⟩
  have ho := o_comp H hq (by omega : q ≤ len) (k0 := k0) (s0 := s0) (o := -1) (tn := 2) (nm := nm) (cl := cl) (sz := sz) (st := st) (dp := dp) (tp := tp) (va := va) (nb := nb) (n := n) hi (by rw [hK]; decide) (by rw [hK, hS, hE]; exact h1) (by rw [hK, hS, hE]; exact h2)
  rw [hK, hS, hE] at ho
  have hrc : fn_Setup_readCord f len 2 q (q + 3) 0 (-1) 2 nm cl sz st dp tp va nb = some (4, q + 8 + ((jl_nt v).length : Int), q + 8 + ((jl_nt v).length : Int) + 1, 0, -1, sz + 1, rsz st (cl - 1) cl 1, ins dp sz 2 sz, ins tp sz (t : Int) sz, ins va sz (v : Int) sz, ins nb sz 0 sz) := by
    unfold fn_Setup_readCord
    rw [zk_bd h5, zk_bd h3]
    (try simp (disch := omega) only [↓zk_lt, ↓zk_nl, ↓zk_eq, ↓zk_ne, ↓zk_ix, ↓zk_dv, ↓zk_bo, ↓zk_rg, ↓zk_get, ↓zk_set, Option.bind_some])
    rw [zk_bd h4]
    (try simp (disch := omega) only [↓zk_lt, ↓zk_nl, ↓zk_eq, ↓zk_ne, ↓zk_ix, ↓zk_dv, ↓zk_bo, ↓zk_rg, ↓zk_get, ↓zk_set, Option.bind_some])
    rw [zk_bd h6]
    rw [c_b37 h7 (by omega), h8, h10]
  rw [ho, zk_bd hrc, show q + 8 + ((jl_nt v).length : Int) + 1 = q + 9 + ((jl_nt v).length : Int) by omega]
/-- a top, of the topic a -/
theorem s_tie (H : pB len f f) (I : pI cl sz 2 st dp tp va nb g) (G : ∀ j, 0 ≤ j → j < 40 → jk_R (dp j)) (hnm0 : nm 0 = 1) (hnm1 : nm 1 = 2) (hs : sz < 40) (hc : 1 ≤ cl) (hno : ht st dp (cl - 1) = 0) {v : Nat} (hv : v < 1000) (hat : tk_at f q (jk_txt 19 ++ jl_nt v ++ [59])) (hq : 0 ≤ q) (hl : q + 7 + ((jl_nt v).length : Int) ≤ len) (hi : 0 ≤ i ∧ i ≤ 700) : fn_Setup_parse_b14 (n + 1) f len k0 s0 q 0 (-1) 2 nm cl sz st dp tp va nb i = fn_Setup_parse_b14 n f len 4 (q + 6 + ((jl_nt v).length : Int)) (q + 7 + ((jl_nt v).length : Int)) 0 (-1) 2 nm cl (sz + 1) (rsz st (cl - 1) cl 1) (ins dp (st (cl - 1)) 0 sz) (ins tp (st (cl - 1)) 0 sz) (ins va (st (cl - 1)) (v : Int) sz) (ins nb (st (cl - 1)) 0 sz) (i + 1) ∧ pI cl (sz + 1) 2 (rsz st (cl - 1) cl 1) (ins dp (st (cl - 1)) 0 sz) (ins tp (st (cl - 1)) 0 sz) (ins va (st (cl - 1)) (v : Int) sz) (ins nb (st (cl - 1)) 0 sz) (ins g (st (cl - 1)) (cl - 1) sz) := by
  have hb := H.1
  have hcl := I.1.1
  have hsz := I.1.2.1
  have hnl := jl_nt_le3 v
  have s1 := pI_st I (c := cl - 1) (by omega) (by omega)
  have hat : tk_at f q ([116, 111, 112] ++ (32 :: (97 + ((0 : Nat) : Int)) :: 32 :: (jl_nt v ++ [59]))) := hat
  have hwx : tk_at f q (116 :: [111, 112] ++ [32]) := (tk_app (show tk_at f q ([116, 111, 112, 32] ++ ((97 + ((0 : Nat) : Int)) :: 32 :: (jl_nt v ++ [59]))) from hat)).1
  have hr : tk_at f (q + 3) (32 :: (97 + ((0 : Nat) : Int)) :: 32 :: (jl_nt v ++ [59])) := (tk_app hat).2
  obtain ⟨hS, hE, hK⟩ := tk_word (f := f) (len := len) (c := 2) hwx (by decide) (Or.inl rfl) (by decide) (by simp only [List.length_cons, List.length_nil]; omega) (by decide)
  have hE : tE f len q = q + 3 := hE
  obtain ⟨hw, -⟩ := tk_app hwx
  have h1 : fn_Text_isWord f 2 q (q + 3) [116, 111, 112, 105, 99] = some 0 := iw_l (by simp only [List.length_cons, List.length_nil]; omega) (by omega) (by omega) (by decide) (by decide)
  have h2 : fn_Text_isWord f 2 q (q + 3) [99, 108, 117, 115, 116, 101, 114] = some 0 := iw_l (by simp only [List.length_cons, List.length_nil]; omega) (by omega) (by omega) (by decide) (by decide)
  have h3 : fn_Text_isWord f 2 q (q + 3) [116, 111, 112] = some 1 := iw_1 H hw hq (by simp only [List.length_cons, List.length_nil]; omega) (by decide)
  have hcw := c_cfw I G hs hc (s := q) (v := 1) (Or.inr ⟨rfl, hno⟩)
  have h5 : fn_Setup_checkFirstWord f 2 q (q + 3) 0 (-1) cl sz st dp = some (0, -1) := by
    unfold fn_Setup_checkFirstWord
    rw [zk_bd h3]
    (try simp (disch := omega) only [↓zk_lt, ↓zk_nl, ↓zk_eq, ↓zk_ne, ↓zk_ix, ↓zk_dv, ↓zk_bo, ↓zk_rg, ↓zk_get, ↓zk_set, Option.bind_some])
    exact hcw
  obtain ⟨h8, h9⟩ := c_b56 H hnm0 hnm1 (t := 0) (by decide) hv (q := q + 3) (cl := cl) (sz := sz) (st := st) (dp := dp) (tp := tp) (va := va) (nb := nb) (a := st (cl - 1)) (d := 0) (k := 2) (s := q) (by omega) hr (by omega)
  rw [show q + 3 + 3 + ((jl_nt v).length : Int) = q + 6 + ((jl_nt v).length : Int) by omega] at h8 h9
  obtain ⟨h10, -, h11⟩ := c_b92 H I G hs hc (at_top I hc hno) (t := 0) (v := (v : Int)) (k := 4) (s := q + 6 + ((jl_nt v).length : Int)) (by decide) (by omega) h9 (by omega) (by omega)
  refine ⟨?_, h11⟩
  have ho := o_comp H hq (by omega : q ≤ len) (k0 := k0) (s0 := s0) (o := -1) (tn := 2) (nm := nm) (cl := cl) (sz := sz) (st := st) (dp := dp) (tp := tp) (va := va) (nb := nb) (n := n) hi (by rw [hK]; decide) (by rw [hK, hS, hE]; exact h1) (by rw [hK, hS, hE]; exact h2)
  rw [hK, hS, hE] at ho
  have hrc : fn_Setup_readCord f len 2 q (q + 3) 0 (-1) 2 nm cl sz st dp tp va nb = some (4, q + 6 + ((jl_nt v).length : Int), q + 6 + ((jl_nt v).length : Int) + 1, 0, -1, sz + 1, rsz st (cl - 1) cl 1, ins dp (st (cl - 1)) 0 sz, ins tp (st (cl - 1)) 0 sz, ins va (st (cl - 1)) (v : Int) sz, ins nb (st (cl - 1)) 0 sz) := by
    unfold fn_Setup_readCord
    rw [zk_bd h5, zk_bd h3]
    (try simp (disch := omega) only [↓zk_lt, ↓zk_nl, ↓zk_eq, ↓zk_ne, ↓zk_ix, ↓zk_dv, ↓zk_bo, ↓zk_rg, ↓zk_get, ↓zk_set, Option.bind_some])
    rw [c_b37 (pf0 I hc) (by omega), h8]
    exact h10
  rw [ho, zk_bd hrc, show q + 6 + ((jl_nt v).length : Int) + 1 = q + 7 + ((jl_nt v).length : Int) by omega]
/-- a topic -/
theorem s_topic (H : pB len f f) {tn : Int} (htn : tn = 0 ∨ tn = 1) {t : Nat} (ht : t < 2) (hfd : fn_Topics_find tn nm (1 + (t : Int)) = some (-1)) (hat : tk_at f q [116, 111, 112, 105, 99, 32, 97 + (t : Int), 59]) (hq : 0 ≤ q) (hl : q + 8 ≤ len) (hi : 0 ≤ i ∧ i ≤ 700) : fn_Setup_parse_b14 (n + 1) f len k0 s0 q 0 (-1) tn nm cl sz st dp tp va nb i = fn_Setup_parse_b14 n f len 4 (q + 7) (q + 8) 0 (-1) (tn + 1) (jk_up nm tn (1 + (t : Int))) cl sz st dp tp va nb (i + 1) := by
  have hb := H.1
  have hwx : tk_at f q (116 :: [111, 112, 105, 99] ++ [32]) := (tk_app (show tk_at f q ([116, 111, 112, 105, 99, 32] ++ [97 + (t : Int), 59]) from hat)).1
  have hnx : tk_at f (q + 5) (32 :: ((97 + (t : Int)) :: [] ++ [59])) := (tk_app (show tk_at f q ([116, 111, 112, 105, 99] ++ [32, 97 + (t : Int), 59]) from hat)).2
  have hsm : f (q + 7) = 59 := (tk_cons (tk_app (show tk_at f q ([116, 111, 112, 105, 99, 32, 97 + (t : Int)] ++ [59]) from hat)).2).1
  obtain ⟨hS, hE, hK⟩ := tk_word (f := f) (len := len) (c := 2) hwx (by decide) (Or.inl rfl) (by decide) (by simp only [List.length_cons, List.length_nil]; omega) (by decide)
  have hE : tE f len q = q + 5 := hE
  obtain ⟨hw, -⟩ := tk_app hwx
  have h1 : fn_Text_isWord f 2 q (q + 5) [116, 111, 112, 105, 99] = some 1 := iw_1 H hw hq (by simp only [List.length_cons, List.length_nil]; omega) (by decide)
  have hns := c_ns H hq (by omega : q ≤ len) (k0 := k0) (s0 := s0)
  rw [hK, hS, hE, if_neg (by decide)] at hns
  have hc2 : ∀ y ∈ [97 + (t : Int)], cls y = 2 := fun y hy => by
    rw [List.mem_singleton.mp hy]
    unfold cls
    rw [if_neg (by omega), if_pos (by omega)]
  obtain ⟨hS2, hE2, hK2⟩ := tk_sword (f := f) (len := len) (x := 97 + (t : Int)) (d := 59) (c := 2) (w := []) hnx hc2 (Or.inl rfl) (by decide) (by rw [List.length_nil]; omega) (by rw [if_pos rfl, List.length_nil]; omega)
  rw [show q + 5 + 1 = q + 6 by omega] at hS2
  rw [show q + 5 + 1 + (([97 + (t : Int)] : List Int).length : Int) = q + 7 by rw [List.length_singleton]; omega] at hE2
  have hf1 := (tk_cons (tk_cons hnx).2).1
  rw [show q + 5 + 1 = q + 6 by omega] at hf1
  have hcn := c_next H (q := q + 5) (by omega) (by omega : _ ≤ len) (k0 := 2) (s0 := q)
  have hnm := c_name H (q := q + 5) (by omega) (by omega : _ ≤ len) (o := -1)
  rw [hK2, hS2, hE2] at hcn hnm
  have hnm2 : fn_Text_name f 2 (q + 6) (q + 7) 0 (-1) = some (1 + (t : Int), 0, -1) := by
    rcases hnm with ⟨-, h⟩ | ⟨hno, -⟩
    · rw [h, show (q + 7 - (q + 6)).toNat = 0 + 1 by omega]
      show some ((f (q + 6) - 96) + 32 * 0, (0 : Int), (-1 : Int)) = _
      rw [hf1, show 97 + (t : Int) - 96 + 32 * 0 = 1 + (t : Int) by omega]
    · exact absurd ⟨hK2, by rw [hE2, hS2]; omega⟩ hno
  have had : fn_Topics_add tn nm (1 + (t : Int)) = some (tn + 1, jk_up nm tn (1 + (t : Int))) := by
    unfold fn_Topics_add
    rcases htn with rfl | rfl
    · (try simp (disch := omega) only [↓zk_lt, ↓zk_nl, ↓zk_eq, ↓zk_ne, ↓zk_ix, ↓zk_dv, ↓zk_bo, ↓zk_rg, ↓zk_get, ↓zk_set, Option.bind_some])
    · (try simp (disch := omega) only [↓zk_lt, ↓zk_nl, ↓zk_eq, ↓zk_ne, ↓zk_ix, ↓zk_dv, ↓zk_bo, ↓zk_rg, ↓zk_get, ↓zk_set, Option.bind_some])
  have hnt : fn_Text_readNewTopic f len 2 q (q + 5) 0 (-1) tn nm = some (2, q + 6, q + 7, 0, -1, tn + 1, jk_up nm tn (1 + (t : Int))) := by
    unfold fn_Text_readNewTopic
    rw [zk_bd c_hf0]
    (try simp (disch := omega) only [↓zk_lt, ↓zk_nl, ↓zk_eq, ↓zk_ne, ↓zk_ix, ↓zk_dv, ↓zk_bo, ↓zk_rg, ↓zk_get, ↓zk_set, Option.bind_some])
    rw [zk_bd hcn]
    (try simp (disch := omega) only [↓zk_lt, ↓zk_nl, ↓zk_eq, ↓zk_ne, ↓zk_ix, ↓zk_dv, ↓zk_bo, ↓zk_rg, ↓zk_get, ↓zk_set, Option.bind_some])
    rw [zk_bd hnm2]
    (try simp (disch := omega) only [↓zk_lt, ↓zk_nl, ↓zk_eq, ↓zk_ne, ↓zk_ix, ↓zk_dv, ↓zk_bo, ↓zk_rg, ↓zk_get, ↓zk_set, Option.bind_some])
    rw [zk_bd hfd]
    (try simp (disch := omega) only [↓zk_lt, ↓zk_nl, ↓zk_eq, ↓zk_ne, ↓zk_ix, ↓zk_dv, ↓zk_bo, ↓zk_rg, ↓zk_get, ↓zk_set, Option.bind_some])
    rw [zk_bd c_hf0]
    (try simp (disch := omega) only [↓zk_lt, ↓zk_nl, ↓zk_eq, ↓zk_ne, ↓zk_ix, ↓zk_dv, ↓zk_bo, ↓zk_rg, ↓zk_get, ↓zk_set, Option.bind_some])
    rw [zk_bd had]
  have hsc : fn_Text_readSemicolon f len 2 (q + 6) (q + 7) 0 (-1) = some (4, q + 7, q + 7 + 1, 0, -1) := sc_1 H hsm (by omega) (by omega)
  have hrt : fn_Setup_readTopic f len 2 q (q + 5) 0 (-1) tn nm = some (4, q + 7, q + 7 + 1, 0, -1, tn + 1, jk_up nm tn (1 + (t : Int))) := by
    unfold fn_Setup_readTopic
    rcases htn with rfl | rfl
    · (try simp (disch := omega) only [↓zk_lt, ↓zk_nl, ↓zk_eq, ↓zk_ne, ↓zk_ix, ↓zk_dv, ↓zk_bo, ↓zk_rg, ↓zk_get, ↓zk_set, Option.bind_some])
      rw [zk_bd hnt, zk_bd hsc]
    · (try simp (disch := omega) only [↓zk_lt, ↓zk_nl, ↓zk_eq, ↓zk_ne, ↓zk_ix, ↓zk_dv, ↓zk_bo, ↓zk_rg, ↓zk_get, ↓zk_set, Option.bind_some])
      rw [zk_bd hnt, zk_bd hsc]
  rw [fn_Setup_parse_b14]
  (try simp (disch := omega) only [↓zk_lt, ↓zk_nl, ↓zk_eq, ↓zk_ne, ↓zk_ix, ↓zk_dv, ↓zk_bo, ↓zk_rg, ↓zk_get, ↓zk_set, Option.bind_some])
  rw [zk_bd hns]
  (try simp (disch := omega) only [↓zk_lt, ↓zk_nl, ↓zk_eq, ↓zk_ne, ↓zk_ix, ↓zk_dv, ↓zk_bo, ↓zk_rg, ↓zk_get, ↓zk_set, Option.bind_some])
  rw [zk_bd h1]
  (try simp (disch := omega) only [↓zk_lt, ↓zk_nl, ↓zk_eq, ↓zk_ne, ↓zk_ix, ↓zk_dv, ↓zk_bo, ↓zk_rg, ↓zk_get, ↓zk_set, Option.bind_some])
  rw [zk_bd hrt]
  rw [show q + 7 + 1 = q + 8 by omega]
/-- the text's end -/
theorem s_end (H : pB len f f) (hi : 0 ≤ i ∧ i ≤ 700) : fn_Setup_parse_b14 (n + 1) f len k0 s0 len 0 (-1) 2 nm cl sz st dp tp va nb i = some (0, len, len, 0, -1, 2, nm, cl, sz, st, dp, tp, va, nb) := by
  have hb := H.1
  have hS : tS f len len = len := by
    unfold tS
    rw [show (len - len).toNat = 0 by omega]
    rfl
  have hE : tE f len len = len := by
    unfold tE
    rw [hS, if_neg (by omega)]
  have hK : tK f len len = 0 := by
    unfold tK
    rw [hS, if_neg (by omega)]
  have hns := c_ns H hb.1 (by omega : len ≤ len) (k0 := k0) (s0 := s0)
  rw [hK, hS, hE, if_pos rfl] at hns
  rw [fn_Setup_parse_b14]
  (try simp (disch := omega) only [↓zk_lt, ↓zk_nl, ↓zk_eq, ↓zk_ne, ↓zk_ix, ↓zk_dv, ↓zk_bo, ↓zk_rg, ↓zk_get, ↓zk_set, Option.bind_some])
  rw [zk_bd hns]
  (try simp (disch := omega) only [↓zk_lt, ↓zk_nl, ↓zk_eq, ↓zk_ne, ↓zk_ix, ↓zk_dv, ↓zk_bo, ↓zk_rg, ↓zk_get, ↓zk_set, Option.bind_some])
end ST7
