/-! numbers below a thousand, written -/
def jl_nt (n : Nat) : List Int := if n < 10 then [48 + (n : Int)] else if n < 100 then [48 + ((n / 10 : Nat) : Int), 48 + ((n % 10 : Nat) : Int)] else [48 + ((n / 100 : Nat) : Int), 48 + ((n / 10 % 10 : Nat) : Int), 48 + ((n % 10 : Nat) : Int)]
theorem jl_nt_len (n : Nat) : (jl_nt n).length = if n < 10 then 1 else if n < 100 then 2 else 3 := by
  unfold jl_nt
  split
  · rfl
  · split <;> rfl
theorem jl_ge1 (n : Nat) : 1 ≤ (if n < 10 then 1 else if n < 100 then 2 else 3) := by
  split
  · decide
  · split <;> decide
theorem jl_nt1 {n : Nat} (h : n < 10) : jl_nt n = [48 + (n : Int)] := if_pos h
theorem jl_nt2 {n : Nat} (h : ¬ n < 10) (h2 : n < 100) : jl_nt n = [48 + ((n / 10 : Nat) : Int), 48 + ((n % 10 : Nat) : Int)] := (if_neg h).trans (if_pos h2)
theorem jl_nt3 {n : Nat} (h2 : ¬ n < 100) : jl_nt n = [48 + ((n / 100 : Nat) : Int), 48 + ((n / 10 % 10 : Nat) : Int), 48 + ((n % 10 : Nat) : Int)] := (if_neg (by omega)).trans (if_neg h2)
theorem jl_nt_bd {n : Nat} (h : n < 1000) : ∀ i : Nat, i < (jl_nt n).length → 0 ≤ (jl_nt n).getD i 0 ∧ (jl_nt n).getD i 0 < 128 := by
  intro i hi
  have hm := List.getElem_mem hi
  rw [List.getD_eq_getElem?_getD, List.getElem?_eq_getElem hi]
  have : ∀ x ∈ jl_nt n, 0 ≤ x ∧ x < 128 := by
    intro x hx
    unfold jl_nt at hx
    split at hx
    · simp only [List.mem_cons, List.not_mem_nil, or_false] at hx
      omega
    · split at hx
      · simp only [List.mem_cons, List.not_mem_nil, or_false] at hx
        omega
      · simp only [List.mem_cons, List.not_mem_nil, or_false] at hx
        omega
  exact this _ hm
def jl_ntf (n : Nat) : Int → Int := fun i => (jl_nt n).getD i.toNat 0
/-- what Integer's two tables hold -/
def jl_ZD (Z : (Nat → Prop) → State → Heap → Prop) (d1 d2 : Nat) : Prop := ∀ (A : Nat → Prop) (U : State) (H : Heap), Z A U H → va_Z "java/lang/Integer" "DigitOnes" "[B" (.ref d1) A U H ∧ va_T .byte d1 100 (fun j => .int (jk_I (48 + (j : Int) % 10))) A U H ∧ va_Z "java/lang/Integer" "DigitTens" "[B" (.ref d2) A U H ∧ va_T .byte d2 100 (fun j => .int (jk_I (48 + (j : Int) / 10))) A U H
theorem jl_d1 {n k : Nat} {f : Int → Int} (h : n < 10) (hk : 1 ≤ k) : jk_up f ((k : Int) + (-1)) (48 + (n : Int) % 10) = jl_cpb (jl_ntf n) f 0 (k - 1) 1 := by
  funext j
  unfold jk_up jl_cpb jl_ntf
  rw [jl_nt1 h]
  by_cases h1 : j = (k : Int) + (-1)
  · rw [if_pos h1, if_pos (by omega), show (((0 : Nat) : Int) + (j - ((k - 1 : Nat) : Int))).toNat = 0 by omega]
    show 48 + (n : Int) % 10 = 48 + (n : Int)
    omega
  · rw [if_neg h1, if_neg (by omega)]
theorem jl_d2 {n k : Nat} {f : Int → Int} (h : ¬ n < 10) (h2 : n < 100) (hk : 2 ≤ k) : jk_up (jk_up f ((k : Int) + (-1)) (48 + (n : Int) % 10)) ((k : Int) + (-1) + (-1)) (48 + (n : Int) / 10) = jl_cpb (jl_ntf n) f 0 (k - 2) 2 := by
  funext j
  unfold jk_up jl_cpb jl_ntf
  rw [jl_nt2 h h2]
  by_cases h1 : j = (k : Int) + (-1) + (-1)
  · rw [if_pos h1, if_pos (by omega), show (((0 : Nat) : Int) + (j - ((k - 2 : Nat) : Int))).toNat = 0 by omega]
    show 48 + (n : Int) / 10 = 48 + ((n / 10 : Nat) : Int)
    omega
  · rw [if_neg h1]
    by_cases h3 : j = (k : Int) + (-1)
    · rw [if_pos h3, if_pos (by omega), show (((0 : Nat) : Int) + (j - ((k - 2 : Nat) : Int))).toNat = 1 by omega]
      show 48 + (n : Int) % 10 = 48 + ((n % 10 : Nat) : Int)
      omega
    · rw [if_neg h3, if_neg (by omega)]
theorem jl_d3 {n k : Nat} {f : Int → Int} (h2 : ¬ n < 100) (h3 : n < 1000) (hk : 3 ≤ k) : jk_up (jk_up (jk_up f ((k : Int) + (-1)) (48 + ((n % 100 : Nat) : Int) % 10)) ((k : Int) + (-1) + (-1)) (48 + ((n % 100 : Nat) : Int) / 10)) ((k : Int) + (-1) + (-1) + (-1)) (48 + ((n / 100 : Nat) : Int) % 10) = jl_cpb (jl_ntf n) f 0 (k - 3) 3 := by
  funext j
  unfold jk_up jl_cpb jl_ntf
  rw [jl_nt3 h2]
  by_cases h1 : j = (k : Int) + (-1) + (-1) + (-1)
  · rw [if_pos h1, if_pos (by omega), show (((0 : Nat) : Int) + (j - ((k - 3 : Nat) : Int))).toNat = 0 by omega]
    show 48 + ((n / 100 : Nat) : Int) % 10 = 48 + ((n / 100 : Nat) : Int)
    omega
  · rw [if_neg h1]
    by_cases h4 : j = (k : Int) + (-1) + (-1)
    · rw [if_pos h4, if_pos (by omega), show (((0 : Nat) : Int) + (j - ((k - 3 : Nat) : Int))).toNat = 1 by omega]
      show 48 + ((n % 100 : Nat) : Int) / 10 = 48 + ((n / 10 % 10 : Nat) : Int)
      omega
    · rw [if_neg h4]
      by_cases h5 : j = (k : Int) + (-1)
      · rw [if_pos h5, if_pos (by omega), show (((0 : Nat) : Int) + (j - ((k - 3 : Nat) : Int))).toNat = 2 by omega]
        show 48 + ((n % 100 : Nat) : Int) % 10 = 48 + ((n % 10 : Nat) : Int)
        omega
      · rw [if_neg h5, if_neg (by omega)]
section NB
variable {p : Program} {l : Launch} {e : Env} {R : Room} {s : State} {m : MethodId} {args : Array Value} {below : List Frame} {meth : Method} {c : Code} {cells slots : Nat} {Q : State → Prop} {D : va_G} {cl : List vw_C} {A : Nat → Prop} {nL : Nat} {ws : va_W} {lv : List (Nat × Value)} {pc : Nat} {st : List Value}
variable {cc : ByteArray} {own : String} {tys : List (ClassId × FieldType)} {ret : Option FieldType} {a : Nat}
theorem jm_tbn (C : jk_C p s m args meth c cc own nL jk_WA D cl tys A ret) {N : Nat} {i : Int} {g : Int → Int} (hT : va_T .byte a N (fun j => .int (jk_I (g (j : Int)))) A s s.heap) (hn : N < 2147483648) (h0 : 0 ≤ i) (h1 : i < N) (hdg : decode cc pc = .ok (.baload, 1))
    (kk : jk_J p l e R s m args below meth c cells slots Q D cl A nL ws lv (pc + 1) (jk_V (g i) :: st)) : jk_J p l e R s m args below meth c cells slots Q D cl A nL ws lv pc (jk_V i :: .ref a :: st) :=
  jm_tb C hT hn h0 h1 hdg (by
    show jk_J p l e R s m args below meth c cells slots Q D cl A nL ws lv (pc + 1) (jk_V (g (i.toNat : Int)) :: st)
    rw [Int.toNat_of_nonneg h0]
    exact kk)
theorem jl_dvn (w : Nat) (h : w < 1000) : jk_I (-(w : Int)) / jk_I 100 = jk_I (-((w / 100 : Nat) : Int)) := by
  have key : ∀ w : Fin 1000, jk_I (-((w : Nat) : Int)) / jk_I 100 = jk_I (-(((w : Nat) / 100 : Nat) : Int)) := by decide +kernel
  exact key ⟨w, h⟩
theorem jr_idivN (C : jk_C p s m args meth c cc own nL jk_WA D cl tys A ret) {w : Nat} (hx : w < 1000) (hdg : decode cc pc = .ok (.idiv, 1)) (kk : jk_J p l e R s m args below meth c cells slots Q D cl A nL ws lv (pc + 1) (jk_V (-((w / 100 : Nat) : Int)) :: st)) : jk_J p l e R s m args below meth c cells slots Q D cl A nL ws lv pc (jk_V 100 :: jk_V (-(w : Int)) :: st) := by
  intro H locs ls hl hP hD hS
  refine lv_idiv C.1.1 C.1.2.1 hdg (by decide) ?_
  rw [jl_dvn w hx]
  exact kk H locs ls hl hP hD hS
end NB
section NB2
variable (l : Launch) (D : va_G) {Z : (Nat → Prop) → State → Heap → Prop} {sq iad : Nat → Nat} {z0 zi mi : Nat} (cI cR cO cB : ClassId)
set_option maxHeartbeats 1000000 in
theorem ct_JInt_stringSize (hZ : jl_ZK Z sq iad z0 zi mi) {M : jm_M} {n : Nat} (hn : n < 1000) : jm_Met l D jk_cl (jl_ty cI cR cO cB) Z mn_JInt_stringSize (.code mn_JInt_stringSize mb_JInt_stringSize 4 (some .int) :: jk_WA) (jk_rx 0 0 0 0) [jk_V ((n : Int))] M (fun v M' => v = some (jk_V ((jl_nt n).length : Int)) ∧ M' = M) 0 0 := by
  refine jm_body (by decide +kernel) (fun p ev s m args below meth cod w hw hz hin C => ?_) (Nat.le_of_ble_eq_true rfl)
  refine jk_iconst C rd_JInt_stringSize_0 ?_
  refine jk_istore_n C rd_JInt_stringSize_1 (Nat.le_of_ble_eq_true rfl) rfl ?_
  refine jk_iload_n C rd_JInt_stringSize_2 (k := 1) rfl ?_
  refine jr_if_lt C rd_JInt_stringSize_3 (tgt := 11) rfl ⟨by omega, by omega⟩ (fun hc => absurd hc (by omega)) (fun _ => ?_)
  refine jk_iconst C rd_JInt_stringSize_6 ?_
  refine jk_istore_n C rd_JInt_stringSize_7 (Nat.le_of_ble_eq_true rfl) rfl ?_
  refine jk_iload_n C rd_JInt_stringSize_8 (k := 1) rfl ?_
  refine jr_ineg C rd_JInt_stringSize_9 ?_
  refine jk_istore_n C rd_JInt_stringSize_10 (Nat.le_of_ble_eq_true rfl) rfl ?_
  refine jk_bipush C rd_JInt_stringSize_11 (by decide +kernel) ?_
  refine jk_istore_n C rd_JInt_stringSize_13 (Nat.le_of_ble_eq_true rfl) rfl ?_
  refine jk_iconst C rd_JInt_stringSize_14 ?_
  refine jk_istore_n C rd_JInt_stringSize_15 (Nat.le_of_ble_eq_true rfl) rfl ?_
  refine jk_iload_n C rd_JInt_stringSize_16 (k := 0) rfl ?_
  refine jk_bipush C rd_JInt_stringSize_17 (by decide +kernel) ?_
  refine jr_icmp_ge C rd_JInt_stringSize_19 (tgt := 42) rfl ⟨by omega, by omega⟩ ⟨by omega, by omega⟩ (fun hc => absurd hc (by decide)) (fun _ => ?_)
  refine jk_iload_n C rd_JInt_stringSize_22 (k := 2) rfl ?_
  refine jk_iload_n C rd_JInt_stringSize_23 (k := 1) rfl ?_
  refine jr_icmp_le C rd_JInt_stringSize_24 (tgt := 31) rfl ⟨by omega, by omega⟩ ⟨by omega, by omega⟩ (fun hc0 => ?_) (fun hc0 => ?_)
  rotate_left
  · refine jk_iload_n C rd_JInt_stringSize_27 (k := 0) rfl ?_
    refine jk_iload_n C rd_JInt_stringSize_28 (k := 3) rfl ?_
    refine jk_iadd C rd_JInt_stringSize_29 ?_
    exact jm_ret_i C hw ⟨by rw [jl_nt_len, if_pos (by omega)]; rfl, rfl⟩ (by omega) (by omega) rd_JInt_stringSize_30
  refine jk_bipush C rd_JInt_stringSize_31 (by decide +kernel) ?_
  refine jk_iload_n C rd_JInt_stringSize_33 (k := 1) rfl ?_
  refine jk_imul C rd_JInt_stringSize_34 ?_
  refine jk_istore_n C rd_JInt_stringSize_35 (Nat.le_of_ble_eq_true rfl) rfl ?_
  refine jk_iinc C rd_JInt_stringSize_36 (k := 1) rfl (Nat.le_of_ble_eq_true rfl) rfl ?_
  refine jk_goto C rd_JInt_stringSize_39 (tgt := 16) rfl ?_
  refine jk_iload_n C rd_JInt_stringSize_16 (k := 0) rfl ?_
  refine jk_bipush C rd_JInt_stringSize_17 (by decide +kernel) ?_
  refine jr_icmp_ge C rd_JInt_stringSize_19 (tgt := 42) rfl ⟨by omega, by omega⟩ ⟨by omega, by omega⟩ (fun hc => absurd hc (by decide)) (fun _ => ?_)
  refine jk_iload_n C rd_JInt_stringSize_22 (k := 2) rfl ?_
  refine jk_iload_n C rd_JInt_stringSize_23 (k := 1) rfl ?_
  refine jr_icmp_le C rd_JInt_stringSize_24 (tgt := 31) rfl ⟨by omega, by omega⟩ ⟨by omega, by omega⟩ (fun hc1 => ?_) (fun hc1 => ?_)
  rotate_left
  · refine jk_iload_n C rd_JInt_stringSize_27 (k := 0) rfl ?_
    refine jk_iload_n C rd_JInt_stringSize_28 (k := 3) rfl ?_
    refine jk_iadd C rd_JInt_stringSize_29 ?_
    exact jm_ret_i C hw ⟨by rw [jl_nt_len, if_neg (by omega), if_pos (by omega)]; rfl, rfl⟩ (by omega) (by omega) rd_JInt_stringSize_30
  refine jk_bipush C rd_JInt_stringSize_31 (by decide +kernel) ?_
  refine jk_iload_n C rd_JInt_stringSize_33 (k := 1) rfl ?_
  refine jk_imul C rd_JInt_stringSize_34 ?_
  refine jk_istore_n C rd_JInt_stringSize_35 (Nat.le_of_ble_eq_true rfl) rfl ?_
  refine jk_iinc C rd_JInt_stringSize_36 (k := 1) rfl (Nat.le_of_ble_eq_true rfl) rfl ?_
  refine jk_goto C rd_JInt_stringSize_39 (tgt := 16) rfl ?_
  refine jk_iload_n C rd_JInt_stringSize_16 (k := 0) rfl ?_
  refine jk_bipush C rd_JInt_stringSize_17 (by decide +kernel) ?_
  refine jr_icmp_ge C rd_JInt_stringSize_19 (tgt := 42) rfl ⟨by omega, by omega⟩ ⟨by omega, by omega⟩ (fun hc => absurd hc (by decide)) (fun _ => ?_)
  refine jk_iload_n C rd_JInt_stringSize_22 (k := 2) rfl ?_
  refine jk_iload_n C rd_JInt_stringSize_23 (k := 1) rfl ?_
  refine jr_icmp_le C rd_JInt_stringSize_24 (tgt := 31) rfl ⟨by omega, by omega⟩ ⟨by omega, by omega⟩ (fun hc2 => ?_) (fun hc2 => ?_)
  · exact absurd hc2 (by omega)
  · refine jk_iload_n C rd_JInt_stringSize_27 (k := 0) rfl ?_
    refine jk_iload_n C rd_JInt_stringSize_28 (k := 3) rfl ?_
    refine jk_iadd C rd_JInt_stringSize_29 ?_
    exact jm_ret_i C hw ⟨by rw [jl_nt_len, if_neg (by omega), if_neg (by omega)]; rfl, rfl⟩ (by omega) (by omega) rd_JInt_stringSize_30
set_option maxRecDepth 4000 in
set_option maxHeartbeats 1000000 in
theorem ct_JInt_getChars (hZ : jl_ZK Z sq iad z0 zi mi) {d1 d2 : Nat} (hD2 : jl_ZD Z d1 d2) {M : jm_M} {n k b cap : Nat} {f : Int → Int} (hn : n < 1000) (hk : (jl_nt n).length ≤ k) (hkc : k ≤ cap) (hcap : cap ≤ 1100) (hb : M b = some (jk_W cB cap f)) : jm_Met l D jk_cl (jl_ty cI cR cO cB) Z mn_JInt_getChars (.code mn_JInt_getChars mb_JInt_getChars 7 (some .int) :: jk_WA) (jk_rx 0 0 0 0) [jk_V ((n : Int)), jk_V ((k : Int)), .ref b] M (fun v M' => v = some (jk_V ((k - (jl_nt n).length : Nat) : Int)) ∧ M' = jm_up M b (jk_W cB cap (jl_cpb (jl_ntf n) f 0 (k - (jl_nt n).length) (jl_nt n).length))) 0 0 := by
  refine jm_body (by decide +kernel) (fun p ev s m args below meth cod w hw hz hin C => ?_) (Nat.le_of_ble_eq_true rfl)
  rw [jl_nt_len] at hk
  have hk1 : 1 ≤ k := Nat.le_trans (show 1 ≤ (if n < 10 then 1 else if n < 100 then 2 else 3) from jl_ge1 n) hk
  have hk2 : ¬ n < 10 → 2 ≤ k := by
    intro hx
    rw [if_neg hx] at hk
    split at hk <;> omega
  have hk3 : ¬ n < 100 → 3 ≤ k := fun hx => by rw [if_neg (by omega), if_neg hx] at hk; exact hk
  clear hk
  obtain ⟨e1, T1, e2, T2⟩ := hD2 _ _ _ hz
  refine jk_iload_n C rd_JInt_getChars_0 (k := 1) rfl ?_
  refine jk_istore C rd_JInt_getChars_1 (Nat.le_of_ble_eq_true rfl) rfl ?_
  refine jk_iload_n C rd_JInt_getChars_3 (k := 1) rfl ?_
  refine jr_if_ge C rd_JInt_getChars_4 (tgt := 11) rfl ⟨by omega, by omega⟩ (fun _ => ?_) (fun hc => absurd hc (by omega))
  refine jk_iconst C rd_JInt_getChars_11 ?_
  refine jk_istore C rd_JInt_getChars_12 (Nat.le_of_ble_eq_true rfl) rfl ?_
  refine jk_iload C rd_JInt_getChars_14 (k := 0) rfl ?_
  refine jr_if_ne C rd_JInt_getChars_16 (tgt := 22) rfl ⟨by omega, by omega⟩ (fun hc => absurd rfl hc) (fun _ => ?_)
  refine jk_iload_n C rd_JInt_getChars_19 (k := 2) rfl ?_
  refine jr_ineg C rd_JInt_getChars_20 ?_
  refine jk_istore_n C rd_JInt_getChars_21 (Nat.le_of_ble_eq_true rfl) rfl ?_
  refine jk_iload_n C rd_JInt_getChars_22 (k := 0) rfl ?_
  refine jk_bipush C rd_JInt_getChars_23 (by decide +kernel) ?_
  refine jr_icmp_gt C rd_JInt_getChars_25 (tgt := 72) rfl ⟨by omega, by omega⟩ ⟨by omega, by omega⟩ (fun hc => ?_) (fun hc => ?_)
  · refine jk_aload_n C rd_JInt_getChars_72 (k := 4) rfl ?_
    refine jk_iinc C rd_JInt_getChars_73 (k := 2) rfl (Nat.le_of_ble_eq_true rfl) rfl ?_
    refine jk_iload C rd_JInt_getChars_76 (k := 0) rfl ?_
    refine jm_gets C e1 lk_JInt_83 rd_JInt_getChars_78 ?_
    refine jk_iload_n C rd_JInt_getChars_81 (k := 1) rfl ?_
    refine jr_ineg C rd_JInt_getChars_82 ?_
    rw [Int.neg_neg]
    refine jm_tbn C (g := fun j => 48 + j % 10) T1 (by omega) (by omega) (by omega) rd_JInt_getChars_83 ?_
    refine jm_bast C hw 3 hb rfl ⟨by omega, by omega⟩ (by omega) (by omega) (by omega) rd_JInt_getChars_84 (fun w1 hw1 => ?_)
    obtain ⟨M2, hM2⟩ : ∃ Mx : jm_M, Mx = jm_up M b (jk_W cB cap (jk_up f (((k : Int)) + (-1)) (48 + (n : Int) % 10))) := ⟨_, rfl⟩
    replace hw1 : jm_lk w1 = M2 := by rw [hM2]; exact hw1
    have hc2_b := jm_this hM2
    refine jk_iload_n C rd_JInt_getChars_85 (k := 1) rfl ?_
    refine jk_bipush C rd_JInt_getChars_86 (by decide +kernel) ?_
    refine jr_icmp_ge C rd_JInt_getChars_88 (tgt := 104) rfl ⟨by omega, by omega⟩ ⟨by omega, by omega⟩ (fun hd => ?_) (fun hd => ?_)
    · refine jk_iload C rd_JInt_getChars_104 (k := 2) rfl ?_
      refine jr_if_eq C rd_JInt_getChars_106 (tgt := 118) rfl ⟨by omega, by omega⟩ (fun _ => ?_) (fun hc => absurd rfl hc)
      refine jk_iload C rd_JInt_getChars_118 (k := 0) rfl ?_
      have hlen : (jl_nt n).length = 1 := by rw [jl_nt_len, if_pos (by omega)]
      have hdg := @jl_d1 n k f
      refine jm_ret_i C hw1 ⟨?_, ?_⟩ (by omega) (by omega) rd_JInt_getChars_120
      · rw [hlen, show (((k - 1 : Nat) : Int)) = ((k : Int)) + (-1) by omega]
      · rw [hlen, ← hdg (by omega) (by omega), hM2]
    · refine jk_aload_n C rd_JInt_getChars_91 (k := 4) rfl ?_
      refine jk_iinc C rd_JInt_getChars_92 (k := 0) rfl (Nat.le_of_ble_eq_true rfl) rfl ?_
      refine jk_iload C rd_JInt_getChars_95 (k := 0) rfl ?_
      refine jm_gets C e2 lk_JInt_87 rd_JInt_getChars_97 ?_
      refine jk_iload_n C rd_JInt_getChars_100 (k := 1) rfl ?_
      refine jr_ineg C rd_JInt_getChars_101 ?_
      rw [Int.neg_neg]
      refine jm_tbn C (g := fun j => 48 + j / 10) T2 (by omega) (by omega) (by omega) rd_JInt_getChars_102 ?_
      refine jm_bast C hw1 3 hc2_b rfl ⟨by omega, by omega⟩ (by omega) (by omega) (by omega) rd_JInt_getChars_103 (fun w3 hw3 => ?_)
      obtain ⟨M4, hM4⟩ : ∃ Mx : jm_M, Mx = jm_up M2 b (jk_W cB cap (jk_up (jk_up f (((k : Int)) + (-1)) (48 + (n : Int) % 10)) ((((k : Int)) + (-1)) + (-1)) (48 + (n : Int) / 10))) := ⟨_, rfl⟩
      replace hw3 : jm_lk w3 = M4 := by rw [hM4]; exact hw3
      have hc4_b := jm_this hM4
      refine jk_iload C rd_JInt_getChars_104 (k := 2) rfl ?_
      refine jr_if_eq C rd_JInt_getChars_106 (tgt := 118) rfl ⟨by omega, by omega⟩ (fun _ => ?_) (fun hc => absurd rfl hc)
      refine jk_iload C rd_JInt_getChars_118 (k := 0) rfl ?_
      have hlen : (jl_nt n).length = 2 := by rw [jl_nt_len, if_neg (by omega), if_pos (by omega)]
      have hdg := @jl_d2 n k f
      refine jm_ret_i C hw3 ⟨?_, ?_⟩ (by omega) (by omega) rd_JInt_getChars_120
      · rw [hlen, show (((k - 2 : Nat) : Int)) = (((k : Int)) + (-1)) + (-1) by omega]
      · rw [hlen, ← hdg (by omega) (by omega) (by omega), hM4, hM2]; simp only [jm_up_up]
  · refine jk_iload_n C rd_JInt_getChars_28 (k := 0) rfl ?_
    refine jk_bipush C rd_JInt_getChars_29 (by decide +kernel) ?_
    refine jr_idivN C hn rd_JInt_getChars_31 ?_
    refine jk_istore_n C rd_JInt_getChars_32 (Nat.le_of_ble_eq_true rfl) rfl ?_
    refine jk_iload_n C rd_JInt_getChars_33 (k := 0) rfl ?_
    refine jk_bipush C rd_JInt_getChars_34 (by decide +kernel) ?_
    refine jk_imul C rd_JInt_getChars_36 ?_
    refine jk_iload_n C rd_JInt_getChars_37 (k := 1) rfl ?_
    refine jk_isub C rd_JInt_getChars_38 ?_
    rw [show -((n / 100 : Nat) : Int) * 100 - -(n : Int) = ((n % 100 : Nat) : Int) by omega]
    refine jk_istore C rd_JInt_getChars_39 (Nat.le_of_ble_eq_true rfl) rfl ?_
    refine jk_iload_n C rd_JInt_getChars_41 (k := 1) rfl ?_
    refine jk_istore_n C rd_JInt_getChars_42 (Nat.le_of_ble_eq_true rfl) rfl ?_
    refine jk_aload_n C rd_JInt_getChars_43 (k := 6) rfl ?_
    refine jk_iinc C rd_JInt_getChars_44 (k := 4) rfl (Nat.le_of_ble_eq_true rfl) rfl ?_
    refine jk_iload C rd_JInt_getChars_47 (k := 0) rfl ?_
    refine jm_gets C e1 lk_JInt_83 rd_JInt_getChars_49 ?_
    refine jk_iload C rd_JInt_getChars_52 (k := 2) rfl ?_
    refine jm_tbn C (g := fun j => 48 + j % 10) T1 (by omega) (by omega) (by omega) rd_JInt_getChars_54 ?_
    refine jm_bast C hw 3 hb rfl ⟨by omega, by omega⟩ (by omega) (by omega) (by omega) rd_JInt_getChars_55 (fun w5 hw5 => ?_)
    obtain ⟨M6, hM6⟩ : ∃ Mx : jm_M, Mx = jm_up M b (jk_W cB cap (jk_up f (((k : Int)) + (-1)) (48 + ((n % 100 : Nat) : Int) % 10))) := ⟨_, rfl⟩
    replace hw5 : jm_lk w5 = M6 := by rw [hM6]; exact hw5
    have hc6_b := jm_this hM6
    refine jk_aload_n C rd_JInt_getChars_56 (k := 6) rfl ?_
    refine jk_iinc C rd_JInt_getChars_57 (k := 0) rfl (Nat.le_of_ble_eq_true rfl) rfl ?_
    refine jk_iload C rd_JInt_getChars_60 (k := 0) rfl ?_
    refine jm_gets C e2 lk_JInt_87 rd_JInt_getChars_62 ?_
    refine jk_iload C rd_JInt_getChars_65 (k := 2) rfl ?_
    refine jm_tbn C (g := fun j => 48 + j / 10) T2 (by omega) (by omega) (by omega) rd_JInt_getChars_67 ?_
    refine jm_bast C hw5 3 hc6_b rfl ⟨by omega, by omega⟩ (by omega) (by omega) (by omega) rd_JInt_getChars_68 (fun w7 hw7 => ?_)
    obtain ⟨M8, hM8⟩ : ∃ Mx : jm_M, Mx = jm_up M6 b (jk_W cB cap (jk_up (jk_up f (((k : Int)) + (-1)) (48 + ((n % 100 : Nat) : Int) % 10)) ((((k : Int)) + (-1)) + (-1)) (48 + ((n % 100 : Nat) : Int) / 10))) := ⟨_, rfl⟩
    replace hw7 : jm_lk w7 = M8 := by rw [hM8]; exact hw7
    have hc8_b := jm_this hM8
    refine jk_goto C rd_JInt_getChars_69 (tgt := 22) rfl ?_
    refine jk_iload_n C rd_JInt_getChars_22 (k := 1) rfl ?_
    refine jk_bipush C rd_JInt_getChars_23 (by decide +kernel) ?_
    refine jr_icmp_gt C rd_JInt_getChars_25 (tgt := 72) rfl ⟨by omega, by omega⟩ ⟨by omega, by omega⟩ (fun _ => ?_) (fun hc => absurd hc (by omega))
    refine jk_aload_n C rd_JInt_getChars_72 (k := 6) rfl ?_
    refine jk_iinc C rd_JInt_getChars_73 (k := 0) rfl (Nat.le_of_ble_eq_true rfl) rfl ?_
    refine jk_iload C rd_JInt_getChars_76 (k := 0) rfl ?_
    refine jm_gets C e1 lk_JInt_83 rd_JInt_getChars_78 ?_
    refine jk_iload_n C rd_JInt_getChars_81 (k := 1) rfl ?_
    refine jr_ineg C rd_JInt_getChars_82 ?_
    rw [Int.neg_neg]
    refine jm_tbn C (g := fun j => 48 + j % 10) T1 (by omega) (by omega) (by omega) rd_JInt_getChars_83 ?_
    refine jm_bast C hw7 3 hc8_b rfl ⟨by omega, by omega⟩ (by omega) (by omega) (by omega) rd_JInt_getChars_84 (fun w9 hw9 => ?_)
    obtain ⟨M10, hM10⟩ : ∃ Mx : jm_M, Mx = jm_up M8 b (jk_W cB cap (jk_up (jk_up (jk_up f (((k : Int)) + (-1)) (48 + ((n % 100 : Nat) : Int) % 10)) ((((k : Int)) + (-1)) + (-1)) (48 + ((n % 100 : Nat) : Int) / 10)) (((((k : Int)) + (-1)) + (-1)) + (-1)) (48 + ((n / 100 : Nat) : Int) % 10))) := ⟨_, rfl⟩
    replace hw9 : jm_lk w9 = M10 := by rw [hM10]; exact hw9
    have hc10_b := jm_this hM10
    refine jk_iload_n C rd_JInt_getChars_85 (k := 1) rfl ?_
    refine jk_bipush C rd_JInt_getChars_86 (by decide +kernel) ?_
    refine jr_icmp_ge C rd_JInt_getChars_88 (tgt := 104) rfl ⟨by omega, by omega⟩ ⟨by omega, by omega⟩ (fun hd => ?_) (fun hd => ?_)
    · refine jk_iload C rd_JInt_getChars_104 (k := 4) rfl ?_
      refine jr_if_eq C rd_JInt_getChars_106 (tgt := 118) rfl ⟨by omega, by omega⟩ (fun _ => ?_) (fun hc => absurd rfl hc)
      refine jk_iload C rd_JInt_getChars_118 (k := 0) rfl ?_
      have hlen : (jl_nt n).length = 3 := by rw [jl_nt_len, if_neg (by omega), if_neg (by omega)]
      have hdg := @jl_d3 n k f
      refine jm_ret_i C hw9 ⟨?_, ?_⟩ (by omega) (by omega) rd_JInt_getChars_120
      · rw [hlen, show (((k - 3 : Nat) : Int)) = ((((k : Int)) + (-1)) + (-1)) + (-1) by omega]
      · rw [hlen, ← hdg (by omega) (by omega) (by omega), hM10, hM8, hM6]; simp only [jm_up_up]
    · exact absurd hd (by omega)
end NB2
