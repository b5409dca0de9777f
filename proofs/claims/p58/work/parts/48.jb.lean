/-! rows of bytes -/
theorem jl_nb {x : Int} (h : 0 ≤ x ∧ x < 128) : vp_nar .byte (jk_I x) = jk_I x ∧ fits .byte (.int (jk_I x)) = true := by
  obtain ⟨n, rfl⟩ := Int.eq_ofNat_of_zero_le h.1
  have hn : n < 128 := by omega
  exact (by decide +kernel : ∀ n : Nat, n < 128 → vp_nar .byte (jk_I (n : Int)) = jk_I (n : Int) ∧ fits .byte (.int (jk_I (n : Int))) = true) n hn
def jl_cpb (f g : Int → Int) (sp dp n : Nat) : Int → Int := fun k => if (dp : Int) ≤ k ∧ k < (dp : Int) + n then f ((sp : Int) + (k - dp)) else g k
theorem jl_cpb_W {cB : ClassId} {m : Nat} {f g : Int → Int} {sp dp n : Nat} : (.inl (cB, m, .inl (va_cpy (fun j : Nat => jk_I (f (j : Int))) (fun j : Nat => jk_I (g (j : Int))) sp dp n)) : va_E) = jk_W cB m (jl_cpb f g sp dp n) := by
  unfold jk_W
  have e : va_cpy (fun j : Nat => jk_I (f (j : Int))) (fun j : Nat => jk_I (g (j : Int))) sp dp n = fun j : Nat => jk_I (jl_cpb f g sp dp n (j : Int)) := by
    funext j
    unfold va_cpy jl_cpb
    by_cases hj : dp ≤ j ∧ j < dp + n
    · rw [if_pos hj, if_pos (by omega)]
      show jk_I (f ((sp + (j - dp) : Nat) : Int)) = _
      rw [show ((sp + (j - dp) : Nat) : Int) = (sp : Int) + ((j : Int) - dp) by omega]
    · rw [if_neg hj, if_neg (by omega)]
  rw [e]
section JB
variable {p : Program} {l : Launch} {e : Env} {R : Room} {s : State} {m : MethodId} {args : Array Value} {below : List Frame} {meth : Method} {c : Code} {cells slots : Nat} {Q : State → Prop} {D : va_G} {cl : List vw_C} {A : Nat → Prop} {nL : Nat} {ws : va_W} {lv lv' : List (Nat × Value)} {pc : Nat} {st : List Value}
variable {cc : ByteArray} {own : String} {tys : List (ClassId × FieldType)} {ret : Option FieldType} {x y : Int} {a b index : Nat} {M : jm_M} {cB : ClassId}
theorem jm_bald (C : jk_C p s m args meth c cc own nL jk_WA D cl tys A ret) (hws : jm_lk ws = M) {n : Nat} {i : Int} {f : Int → Int} (t0 : Nat) (he : M a = some (jk_W cB n f)) (ht : tys[t0]? = some (cB, .byte)) (hn : n < 2147483648) (h0 : 0 ≤ i) (h1 : i < n) (hdg : decode cc pc = .ok (.baload, 1))
    (kk : jk_J p l e R s m args below meth c cells slots Q D cl A nL ws lv (pc + 1) (jk_V (f i) :: st)) : jk_J p l e R s m args below meth c cells slots Q D cl A nL ws lv pc (jk_V i :: .ref a :: st) := by
  obtain ⟨q0, hq⟩ := jm_lk_mem (by rw [hws]; exact he : jm_lk ws a = _)
  intro H locs ls hl hP hD hS
  refine va_bald C.1.1 C.1.2.1 C.2.1 hP q0 t0 hq ht (jk_in h0 h1 hn) hdg ?_
  rw [jk_clamp h0 (by omega), Int.toNat_of_nonneg h0]
  exact kk H locs ls hl hP hD hS
theorem jm_bast (C : jk_C p s m args meth c cc own nL jk_WA D cl tys A ret) (hws : jm_lk ws = M) {n : Nat} {i : Int} {f : Int → Int} (t0 : Nat) (he : M a = some (jk_W cB n f)) (ht : tys[t0]? = some (cB, .byte)) (hx : 0 ≤ x ∧ x < 128) (hn : n < 2147483648) (h0 : 0 ≤ i) (h1 : i < n) (hdg : decode cc pc = .ok (.bastore, 1))
    (kk : ∀ ws', jm_lk ws' = jm_up M a (jk_W cB n (jk_up f i x)) → jk_J p l e R s m args below meth c cells slots Q D cl A nL ws' lv (pc + 1) st) : jk_J p l e R s m args below meth c cells slots Q D cl A nL ws lv pc (jk_V x :: jk_V i :: .ref a :: st) := by
  obtain ⟨q0, hq⟩ := jm_lk_mem (by rw [hws]; exact he : jm_lk ws a = _)
  intro H locs ls hl hP hD hS
  refine va_bast C.1.1 C.1.2.1 C.2.1 hP hD hS q0 t0 hq ht (jk_in h0 h1 hn) hdg (fun H1 locs1 q1 q2 q3 => ?_)
  rw [(jl_nb hx).1, jk_W_up h0 (by omega)] at q1 q2
  exact kk _ (by rw [jm_lk_set hD hq, hws]) H1 locs1 ls hl q1 q2 q3
theorem jm_blen (C : jk_C p s m args meth c cc own nL jk_WA D cl tys A ret) (hws : jm_lk ws = M) {n : Nat} {f : Int → Int} (t0 : Nat) (he : M a = some (jk_W cB n f)) {ty : FieldType} (ht : tys[t0]? = some (cB, ty)) (hdg : decode cc pc = .ok (.arraylength, 1))
    (kk : jk_J p l e R s m args below meth c cells slots Q D cl A nL ws lv (pc + 1) (jk_V (n : Int) :: st)) : jk_J p l e R s m args below meth c cells slots Q D cl A nL ws lv pc (.ref a :: st) := by
  obtain ⟨q0, hq⟩ := jm_lk_mem (by rw [hws]; exact he : jm_lk ws a = _)
  exact fun H locs ls hl hP hD hS => va_alen (v := jk_I (n : Int)) C.1.1 C.1.2.1 C.2.1 hP q0 t0 hq ht rfl hdg (kk H locs ls hl hP hD hS)
theorem jm_newb (C : jk_C p s m args meth c cc own nL jk_WA D cl tys A ret) (hws : jm_lk ws = M) {x : Int} {n : Nat} (hx : x = (n : Int)) (hn : n < 100000) (t0 : Nat) (ht : tys[t0]? = some (cB, .byte)) (h1 : Cond.arrayClass .byte ∈ jk_WA) (hcs : cells + 1 ≤ R.cells ∧ slots + n ≤ R.slots) (hdg : decode cc pc = .ok (.newarray .byte, 2))
    (kk : ∀ (q : Nat) (ws' : va_W), M q = none → jm_lk ws' = jm_up M q (jk_W cB n (fun _ => 0)) → jk_J p l e R s m args below meth c (cells + 1) (slots + n) Q D cl A nL ws' lv (pc + 2) (.ref q :: st)) : jk_J p l e R s m args below meth c cells slots Q D cl A nL ws lv pc (jk_V x :: st) := by
  subst hx
  intro H locs ls hl hP hD hS
  refine va_newa (atype := .byte) (ty := .byte) (N' := n) (a0 := (n, .inl (fun _ => jk_I 0))) C.1.1 C.1.2.1 (C.1.2.2.2.2 _ h1) rfl C.2.1 hP hD hS C.2.2.1 (fun _ => rfl) (fun q => ?_) ?_ (by show n * 1 ≤ _; omega) hcs.1 hcs.2 hdg (fun q cA H1 hK1 a1 a2 a3 => ?_)
  · have h : jk_I (n : Int) < jk_I 0 := q
    rw [jk_lt ⟨by omega, by omega⟩ ⟨by omega, by omega⟩] at h
    omega
  · rw [jk_clamp (by omega) (by omega)]
    omega
  · have e1 := (hK1.2 tys.length (cA, .byte) (by simp)).2
    have e2 := (C.2.1.2 t0 (cB, .byte) ht).2
    have e3 : cA = cB := Option.some.inj ((show s.vm.findClass ("[" ++ FieldType.byte.toString) = some cA from e1).symm.trans (show s.vm.findClass ("[" ++ FieldType.byte.toString) = some cB from e2))
    subst e3
    exact kk q _ (by rw [← hws]; exact (jm_lk_push a2).1) (by rw [← hws]; exact (jm_lk_push a2).2) H1 locs ls hl a1 a2 a3
theorem jl_cl1 {z : Nat} (hz : z < 100000) : (jk_I (z : Int)).toNatClampNeg = z ∧ ¬ jk_I (z : Int) < 0 := by
  refine ⟨by rw [jk_clamp (by omega) (by omega)]; omega, fun q => ?_⟩
  have h : jk_I (z : Int) < jk_I 0 := q
  rw [jk_lt ⟨by omega, by omega⟩ ⟨by omega, by omega⟩] at h
  omega
/-- System.arraycopy of bytes, from cell to cell -/
theorem jm_copyb (C : jk_C p s m args meth c cc own nL jk_WA D cl tys A ret) (hws : jm_lk ws = M) {a0 n0 n1 : Nat} {f g : Int → Int} (t0 : Nat) (ha0 : M a0 = some (jk_W cB n0 f)) (ha1 : M a = some (jk_W cB n1 g)) (ht : tys[t0]? = some (cB, .byte)) (sp dp n : Nat) (h4 : sp + n ≤ n0) (h5 : dp + n ≤ n1) (hb0 : n0 < 100000) (hb1 : n1 < 100000) (hfit : ∀ i : Int, 0 ≤ i → i < n0 → 0 ≤ f i ∧ f i < 128)
    (hlink : Cond.methodLink own index arraycopyName ∈ jk_WA) (hnat : Cond.native arraycopyName ∈ jk_WA) (hstat : Cond.static arraycopyName ∈ jk_WA) (hini : Cond.initialized "java/lang/System" ∈ jk_WA) (hR : 1 ≤ R.frames) (hR2 : (st.map fun v => v.category).sum + (nativeFrameWords "java/lang/System" "arraycopy" 5 + 11) ≤ R.locals) (hdg : decode cc pc = .ok (.invokestatic index, 3))
    (kk : ∀ ws', jm_lk ws' = jm_up M a (jk_W cB n1 (jl_cpb f g sp dp n)) → jk_J p l e R s m args below meth c cells slots Q D cl A nL ws' lv (pc + 3) st) : jk_J p l e R s m args below meth c cells slots Q D cl A nL ws lv pc (jk_V (n : Int) :: jk_V (dp : Int) :: .ref a :: jk_V (sp : Int) :: .ref a0 :: st) := by
  obtain ⟨q0, hq0⟩ := jm_lk_mem (by rw [hws]; exact ha0 : jm_lk ws a0 = _)
  obtain ⟨q1, hq1⟩ := jm_lk_mem (by rw [hws]; exact ha1 : jm_lk ws a = _)
  intro H locs ls hl hP hD hS
  obtain ⟨e1, g1⟩ := jl_cl1 (z := sp) (by omega)
  obtain ⟨e2, g2⟩ := jl_cl1 (z := dp) (by omega)
  obtain ⟨e3, g3⟩ := jl_cl1 (z := n) (by omega)
  refine va_copyi C.1.1 C.1.2.1 (C.1.2.2.1.trans hl.1.symm) C.1.2.2.2.1 (C.1.2.2.2.2 _ hlink) (C.1.2.2.2.2 _ hnat) (C.1.2.2.2.2 _ hstat) (C.1.2.2.2.2 _ hini) C.2.1 hP hD hS q0 q1 t0 t0 hq0 hq1 ht ht rfl g1 g2 g3 (by rw [e1, e3]; exact h4) (by rw [e2, e3]; exact h5) (by rw [e1, e3]; exact fun i hi => (jl_nb (hfit _ (by omega) (by omega))).2) hR hR2 hdg (fun H1 locs1 q1' q2 q3 => ?_)
  rw [e1, e2, e3, jl_cpb_W] at q1' q2
  exact kk _ (by rw [jm_lk_set hD hq1, hws]) H1 locs1 ls hl q1' q2 q3
/-- the same, from a text constant's bytes -/
theorem jm_copyT (C : jk_C p s m args meth c cc own nL jk_WA D cl tys A ret) (hws : jm_lk ws = M) {a0 n0 n1 : Nat} {f g : Int → Int} (t0 : Nat) (ha0 : va_T .byte a0 n0 (fun j => .int (jk_I (f (j : Int)))) A s s.heap) (ha1 : M a = some (jk_W cB n1 g)) (ht : tys[t0]? = some (cB, .byte)) (sp dp n : Nat) (h4 : sp + n ≤ n0) (h5 : dp + n ≤ n1) (hb0 : n0 < 100000) (hb1 : n1 < 100000) (hfit : ∀ i : Int, 0 ≤ i → i < n0 → 0 ≤ f i ∧ f i < 128)
    (hlink : Cond.methodLink own index arraycopyName ∈ jk_WA) (hnat : Cond.native arraycopyName ∈ jk_WA) (hstat : Cond.static arraycopyName ∈ jk_WA) (hini : Cond.initialized "java/lang/System" ∈ jk_WA) (hR : 1 ≤ R.frames) (hR2 : (st.map fun v => v.category).sum + (nativeFrameWords "java/lang/System" "arraycopy" 5 + 11) ≤ R.locals) (hdg : decode cc pc = .ok (.invokestatic index, 3))
    (kk : ∀ ws', jm_lk ws' = jm_up M a (jk_W cB n1 (jl_cpb f g sp dp n)) → jk_J p l e R s m args below meth c cells slots Q D cl A nL ws' lv (pc + 3) st) : jk_J p l e R s m args below meth c cells slots Q D cl A nL ws lv pc (jk_V (n : Int) :: jk_V (dp : Int) :: .ref a :: jk_V (sp : Int) :: .ref a0 :: st) := by
  obtain ⟨q1, hq1⟩ := jm_lk_mem (by rw [hws]; exact ha1 : jm_lk ws a = _)
  intro H locs ls hl hP hD hS
  obtain ⟨e1, g1⟩ := jl_cl1 (z := sp) (by omega)
  obtain ⟨e2, g2⟩ := jl_cl1 (z := dp) (by omega)
  obtain ⟨e3, g3⟩ := jl_cl1 (z := n) (by omega)
  refine vk_copyt C.1.1 C.1.2.1 (C.1.2.2.1.trans hl.1.symm) C.1.2.2.2.1 (C.1.2.2.2.2 _ hlink) (C.1.2.2.2.2 _ hnat) (C.1.2.2.2.2 _ hstat) (C.1.2.2.2.2 _ hini) C.2.1 hP hD hS ha0 q1 t0 hq1 ht g1 g2 g3 (by rw [e1, e3]; exact h4) (by rw [e2, e3]; exact h5) (by rw [e1, e3]; exact fun i hi => (jl_nb (hfit _ (by omega) (by omega))).2) hR hR2 hdg (fun H1 locs1 q1' q2 q3 => ?_)
  rw [e1, e2, e3, jl_cpb_W] at q1' q2
  exact kk _ (by rw [jm_lk_set hD hq1, hws]) H1 locs1 ls hl q1' q2 q3
theorem jm_i2b (C : jk_C p s m args meth c cc own nL jk_WA D cl tys A ret) (hx : 0 ≤ x ∧ x < 128) (hdg : decode cc pc = .ok (.i2b, 1))
    (kk : jk_J p l e R s m args below meth c cells slots Q D cl A nL ws lv (pc + 1) (jk_V x :: st)) : jk_J p l e R s m args below meth c cells slots Q D cl A nL ws lv pc (jk_V x :: st) :=
  fun H locs ls hl hP hD hS => lv_i2b (v := jk_I x) C.1.1 C.1.2.1 hdg (by have := (jl_nb hx).1; rw [vp_nar_byte] at this; exact this) (kk H locs ls hl hP hD hS)
theorem jm_i2c (C : jk_C p s m args meth c cc own nL jk_WA D cl tys A ret) (hx : 0 ≤ x ∧ x < 128) (hdg : decode cc pc = .ok (.i2c, 1))
    (kk : jk_J p l e R s m args below meth c cells slots Q D cl A nL ws lv (pc + 1) (jk_V x :: st)) : jk_J p l e R s m args below meth c cells slots Q D cl A nL ws lv pc (jk_V x :: st) :=
  fun H locs ls hl hP hD hS => lv_i2c (v := jk_I x) C.1.1 C.1.2.1 hdg (by
    obtain ⟨n, rfl⟩ := Int.eq_ofNat_of_zero_le hx.1
    exact (by decide +kernel : ∀ n : Nat, n < 128 → ((jk_I (n : Int)).toUInt32 % 65536).toInt32 = jk_I (n : Int)) n (by omega)) (kk H locs ls hl hP hD hS)
theorem jm_tb (C : jk_C p s m args meth c cc own nL jk_WA D cl tys A ret) {N : Nat} {i : Int} {f : Nat → Value} (hT : va_T .byte a N f A s s.heap) (hn : N < 2147483648) (h0 : 0 ≤ i) (h1 : i < N) (hdg : decode cc pc = .ok (.baload, 1))
    (kk : jk_J p l e R s m args below meth c cells slots Q D cl A nL ws lv (pc + 1) (f i.toNat :: st)) : jk_J p l e R s m args below meth c cells slots Q D cl A nL ws lv pc (jk_V i :: .ref a :: st) :=
  fun H locs ls hl hP hD hS => va_tb C.1.1 C.1.2.1 hT hS (jk_in h0 h1 hn) (by rw [jk_clamp h0 (by omega)]) hdg (kk H locs ls hl hP hD hS)
/-- a row of bytes made again -/
theorem jm_cloneb (C : jk_C p s m args meth c cc own nL jk_WA D cl tys A ret) (hws : jm_lk ws = M) {n : Nat} {f : Int → Int} (t0 : Nat) (he : M a = some (jk_W cB n f)) (ht : tys[t0]? = some (cB, .byte)) (hn : n < 100000) (hfit : ∀ i : Int, 0 ≤ i → i < n → 0 ≤ f i ∧ f i < 128) (hca : va_Nw (.castable "[B" "java/lang/Cloneable") s)
    (hlink : Cond.methodLink own index ⟨"[B", "clone", "()Ljava/lang/Object;"⟩ ∈ jk_WA) (hsame : Cond.sameMethod "[B" "java/lang/Object" "clone" "()Ljava/lang/Object;" ∈ jk_WA) (hnat : Cond.native ⟨"java/lang/Object", "clone", "()Ljava/lang/Object;"⟩ ∈ jk_WA) (hinst : Cond.instanceMethod ⟨"java/lang/Object", "clone", "()Ljava/lang/Object;"⟩ ∈ jk_WA) (hsel : Cond.selects "[B" ⟨"[B", "clone", "()Ljava/lang/Object;"⟩ ⟨"java/lang/Object", "clone", "()Ljava/lang/Object;"⟩ ∈ jk_WA)
    (hR : 1 ≤ R.frames) (hR2 : (st.map fun v => v.category).sum + 14 ≤ R.locals) (hcs : cells + 1 ≤ R.cells ∧ slots + n ≤ R.slots) (hdg : decode cc pc = .ok (.invokevirtual index, 3))
    (kk : ∀ (q : Nat) (ws' : va_W), M q = none → jm_lk ws' = jm_up M q (jk_W cB n f) → jk_J p l e R s m args below meth c (cells + 1) (slots + n) Q D cl A nL ws' lv (pc + 3) (.ref q :: st)) : jk_J p l e R s m args below meth c cells slots Q D cl A nL ws lv pc (.ref a :: st) := by
  obtain ⟨q0, hq⟩ := jm_lk_mem (by rw [hws]; exact he : jm_lk ws a = _)
  intro H locs ls hl hP hD hS
  refine va_clone (x := (n, .inl (fun j : Nat => jk_I (f (j : Int))))) (ty := .byte) C.1.1 C.1.2.1 (C.1.2.2.1.trans hl.1.symm) C.1.2.2.2.1 (C.1.2.2.2.2 _ hlink) (C.1.2.2.2.2 _ hsame) (C.1.2.2.2.2 _ hnat) (C.1.2.2.2.2 _ hinst) (C.1.2.2.2.2 _ hsel) hca C.2.1 hP hD hS C.2.2.1 q0 t0 hq ht (C.2.1.2 t0 (cB, .byte) ht).2 (fun i v hv => ?_) hR hR2 hcs.1 hcs.2 hdg (fun q H1 _ a1 a2 a3 => ?_)
  · have hsz : (arrV cB n (fun j => .int (jk_I (f (j : Int))))).slots.size = n := arrV_size _ _ _
    have hlt : i < n := by
      have h9 := (Array.getElem?_eq_some_iff.mp hv).1
      rw [← hsz]
      exact h9
    have hv2 : v = .int (jk_I (f (i : Int))) := by
      have h9 : (arrV cB n (fun j => .int (jk_I (f (j : Int))))).slots[i]? = some v := hv
      rw [arrV_read _ _ hlt] at h9
      exact (Option.some.inj h9).symm
    rw [hv2]
    exact (jl_nb (hfit _ (by omega) (by omega))).2
  · exact kk q _ (by rw [← hws]; exact (jm_lk_push a2).1) (by rw [← hws]; exact (jm_lk_push a2).2) H1 locs ls hl a1 a2 a3
theorem jr_castA (C : jk_C p s m args meth c cc own nL jk_WA D cl tys A ret) (hws : jm_lk ws = M) {nm : String} {cA : ClassId} {x : vp_A} {ty : FieldType} (t0 : Nat) (he : M a = some (.inl (cA, x))) (hnm : s.vm.findClass nm = some cA) (hlink : Cond.classLink own index nm ∈ jk_WA) (hdg : decode cc pc = .ok (.checkcast index, 3)) (kk : jk_J p l e R s m args below meth c cells slots Q D cl A nL ws lv (pc + 3) (.ref a :: st)) : jk_J p l e R s m args below meth c cells slots Q D cl A nL ws lv pc (.ref a :: st) := by
  obtain ⟨q0, hq⟩ := jm_lk_mem (by rw [hws]; exact he : jm_lk ws a = _)
  exact fun H locs ls hl hP hD hS => va_castA C.1.1 C.1.2.1 C.1.2.2.2.1 (C.1.2.2.2.2 _ hlink) hP q0 hq hnm hdg (kk H locs ls hl hP hD hS)
end JB
theorem bw_same : Jvm.Cond.sameMethod "[B" "java/lang/Object" "clone" "()Ljava/lang/Object;" ∈ jk_WA := jk_tb 1404 (by decide +kernel) (by decide +kernel)
theorem bw_nat : Jvm.Cond.native ({ cls := "java/lang/Object", name := "clone", desc := "()Ljava/lang/Object;" } : Jvm.MethodName) ∈ jk_WA := jk_tb 1405 (by decide +kernel) (by decide +kernel)
theorem bw_inst : Jvm.Cond.instanceMethod ({ cls := "java/lang/Object", name := "clone", desc := "()Ljava/lang/Object;" } : Jvm.MethodName) ∈ jk_WA := jk_tb 1406 (by decide +kernel) (by decide +kernel)
theorem bw_sel : Jvm.Cond.selects "[B" ({ cls := "[B", name := "clone", desc := "()Ljava/lang/Object;" } : Jvm.MethodName) ({ cls := "java/lang/Object", name := "clone", desc := "()Ljava/lang/Object;" } : Jvm.MethodName) ∈ jk_WA := jk_tb 1407 (by decide +kernel) (by decide +kernel)
theorem bw_ca {s : State} {A : Nat → Prop} {Z : (Nat → Prop) → State → Heap → Prop} {sq : Nat → Nat} (hZ : jk_ZK Z sq) (hz : Z A s s.heap) : va_Nw (.castable "[B" "java/lang/Cloneable") s := jm_fw hZ hz (jm_fwi 1408 (by decide +kernel) (by decide +kernel))
