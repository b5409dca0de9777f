/-! rows for statics, tables of the JDK, the copy of a row of references -/
section JR2
variable {p : Program} {l : Launch} {e : Env} {R : Room} {s : State} {m : MethodId} {args : Array Value} {below : List Frame} {meth : Method} {c : Code} {cells slots : Nat} {Q : State → Prop} {D : va_G} {cl : List vw_C} {A : Nat → Prop} {nL : Nat} {ws : va_W} {lv lv' : List (Nat × Value)} {pc : Nat} {st : List Value}
variable {cc : ByteArray} {own : String} {tys : List (ClassId × FieldType)} {ret : Option FieldType} {x y : Int} {a b index : Nat} {M : jm_M}
theorem jm_gets (C : jk_C p s m args meth c cc own nL jk_WA D cl tys A ret) {Cn n d : String} {v : Value} (hv : va_Z Cn n d v A s s.heap) (hlink : Cond.fieldLink own index Cn n d ∈ jk_WA) (hdg : decode cc pc = .ok (.getstatic index, 3))
    (kk : jk_J p l e R s m args below meth c cells slots Q D cl A nL ws lv (pc + 3) (v :: st)) : jk_J p l e R s m args below meth c cells slots Q D cl A nL ws lv pc st :=
  fun H locs ls hl hP hD hS => va_gets C.1.1 C.1.2.1 hv hS C.1.2.2.2.1 (C.1.2.2.2.2 _ hlink) (fun _ h => h) hdg (kk H locs ls hl hP hD hS)
theorem jm_tlen (C : jk_C p s m args meth c cc own nL jk_WA D cl tys A ret) {ty : FieldType} {N : Nat} {f : Nat → Value} (hT : va_T ty a N f A s s.heap) (hdg : decode cc pc = .ok (.arraylength, 1))
    (kk : jk_J p l e R s m args below meth c cells slots Q D cl A nL ws lv (pc + 1) (jk_V (N : Int) :: st)) : jk_J p l e R s m args below meth c cells slots Q D cl A nL ws lv pc (.ref a :: st) :=
  fun H locs ls hl hP hD hS => va_tlen (v := jk_I (N : Int)) C.1.1 C.1.2.1 hT hS rfl hdg (kk H locs ls hl hP hD hS)
theorem jm_tq (C : jk_C p s m args meth c cc own nL jk_WA D cl tys A ret) {Cn : String} {N : Nat} {i : Int} {f : Nat → Value} (hT : va_T (.object Cn) a N f A s s.heap) (hn : N < 2147483648) (h0 : 0 ≤ i) (h1 : i < N) (hdg : decode cc pc = .ok (.aaload, 1))
    (kk : jk_J p l e R s m args below meth c cells slots Q D cl A nL ws lv (pc + 1) (f i.toNat :: st)) : jk_J p l e R s m args below meth c cells slots Q D cl A nL ws lv pc (jk_V i :: .ref a :: st) :=
  fun H locs ls hl hP hD hS => vb_tq C.1.1 C.1.2.1 hT hS (jk_in h0 h1 hn) (by rw [jk_clamp h0 (by omega)]) hdg (kk H locs ls hl hP hD hS)
theorem jm_ldci (C : jk_C p s m args meth c cc own nL jk_WA D cl tys A ret) {v : Int32} (hv : jk_I x = v) (hconst : Cond.constant own index v ∈ jk_WA) (hdg : decode cc pc = .ok (.ldc index, 2))
    (kk : jk_J p l e R s m args below meth c cells slots Q D cl A nL ws lv (pc + 2) (jk_V x :: st)) : jk_J p l e R s m args below meth c cells slots Q D cl A nL ws lv pc st := by
  subst hv
  exact fun H locs ls hl hP hD hS => lv_ldc C.1.1 C.1.2.1 C.1.2.2.2.1 (C.1.2.2.2.2 _ hconst) hdg (kk H locs ls hl hP hD hS)
theorem jm_ldcM (C : jk_C p s m args meth c cc own nL jk_WA D cl tys A ret) {Cn : String} {mi : Nat} (hM : va_Mi Cn mi s) (hlink : Cond.classLink own index Cn ∈ jk_WA) (hdg : decode cc pc = .ok (.ldc index, 2))
    (kk : jk_J p l e R s m args below meth c cells slots Q D cl A nL ws lv (pc + 2) (.ref mi :: st)) : jk_J p l e R s m args below meth c cells slots Q D cl A nL ws lv pc st :=
  fun H locs ls hl hP hD hS => va_ldcM C.1.1 C.1.2.1 C.1.2.2.2.1 (C.1.2.2.2.2 _ hlink) hM hdg (kk H locs ls hl hP hD hS)
theorem jm_acell {ws : va_W} {H : Heap} {cA : ClassId} {x : vp_A} (hP : va_P D cl ws H) {q0 : Nat} (h : ws[q0]? = some (a, .inl (cA, x))) : ∃ cell : Cell, H[a]? = some cell ∧ cell.vm.isStatics = false ∧ cell.cls = cA := by
  refine ⟨vp_cell cA x, hP q0 _ h, ?_, ?_⟩
  · obtain ⟨n, f | f | f | f | f⟩ := x <;> rfl
  · obtain ⟨n, f | f | f | f | f⟩ := x <;> rfl
theorem jm_getC (C : jk_C p s m args meth c cc own nL jk_WA D cl tys A ret) (hws : jm_lk ws = M) {n : Nat} {f : Nat → Option Nat} {cO : ClassId} {mi t0 : Nat} (he : M a = some (jm_Q cO n f)) (ht : tys[t0]? = some (cO, .object "java/lang/Object")) (hDc : va_Dc s) (hM : va_Mi "[Ljava/lang/Object;" mi s) (hlink : Cond.methodLink own index ⟨"java/lang/Object", "getClass", "()Ljava/lang/Class;"⟩ ∈ jk_WA)
    (hsel : Cond.selects "[Ljava/lang/Object;" ⟨"java/lang/Object", "getClass", "()Ljava/lang/Class;"⟩ ⟨"java/lang/Object", "getClass", "()Ljava/lang/Class;"⟩ ∈ jk_WA) (hinst : Cond.instanceMethod ⟨"java/lang/Object", "getClass", "()Ljava/lang/Class;"⟩ ∈ jk_WA) (hnat : Cond.native ⟨"java/lang/Object", "getClass", "()Ljava/lang/Class;"⟩ ∈ jk_WA) (hR : 1 ≤ R.frames) (hR2 : (st.map fun v => v.category).sum + 14 ≤ R.locals) (hdg : decode cc pc = .ok (.invokevirtual index, 3))
    (kk : jk_J p l e R s m args below meth c cells slots Q D cl A nL ws lv (pc + 3) (.ref mi :: st)) : jk_J p l e R s m args below meth c cells slots Q D cl A nL ws lv pc (.ref a :: st) := by
  obtain ⟨q0, hq⟩ := jm_lk_mem (by rw [hws]; exact he : jm_lk ws a = _)
  intro H locs ls hl hP hD hS
  obtain ⟨cell, h1, h2, h3⟩ := jm_acell hP hq
  exact va_getC C.1.1 C.1.2.1 (C.1.2.2.1.trans hl.1.symm) C.1.2.2.2.1 (C.1.2.2.2.2 _ hlink) hDc.use (C.1.2.2.2.2 _ hsel) (C.1.2.2.2.2 _ hinst) (C.1.2.2.2.2 _ hnat) hM ⟨cell, h1, h2, by rw [h3]; exact va_nmO (C.2.1.2 t0 _ ht).2 (by decide +kernel)⟩ hR hR2 hdg (kk H locs ls hl hP hD hS)
/-- System.arraycopy of references -/
theorem jm_copyq (C : jk_C p s m args meth c cc own nL jk_WA D cl tys A ret) (hws : jm_lk ws = M) {a0 n0 n1 : Nat} {f g : Nat → Option Nat} {cO : ClassId} (t0 : Nat) (ha0 : M a0 = some (jm_Q cO n0 f)) (ha1 : M a = some (jm_Q cO n1 g)) (ht : tys[t0]? = some (cO, .object "java/lang/Object")) (sp dp n : Nat) (h4 : sp + n ≤ n0) (h5 : dp + n ≤ n1) (hb0 : n0 < 100000) (hb1 : n1 < 100000)
    (hel : ∀ (H : Heap) (locs : List Loc), va_P D cl ws H → va_S A s.heap H locs → ∀ i : Nat, i < n → ∀ y : Nat, f (sp + i) = some y → va_Any "java/lang/Object" s H y)
    (hlink : Cond.methodLink own index arraycopyName ∈ jk_WA) (hnat : Cond.native arraycopyName ∈ jk_WA) (hstat : Cond.static arraycopyName ∈ jk_WA) (hini : Cond.initialized "java/lang/System" ∈ jk_WA) (hR : 1 ≤ R.frames) (hR2 : (st.map fun v => v.category).sum + (nativeFrameWords "java/lang/System" "arraycopy" 5 + 11) ≤ R.locals) (hdg : decode cc pc = .ok (.invokestatic index, 3))
    (kk : ∀ ws', jm_lk ws' = jm_up M a (jm_Q cO n1 (va_cpy f g sp dp n)) → jk_J p l e R s m args below meth c cells slots Q D cl A nL ws' lv (pc + 3) st) : jk_J p l e R s m args below meth c cells slots Q D cl A nL ws lv pc (jk_V (n : Int) :: jk_V (dp : Int) :: .ref a :: jk_V (sp : Int) :: .ref a0 :: st) := by
  obtain ⟨q0, hq0⟩ := jm_lk_mem (by rw [hws]; exact ha0 : jm_lk ws a0 = _)
  obtain ⟨q1, hq1⟩ := jm_lk_mem (by rw [hws]; exact ha1 : jm_lk ws a = _)
  intro H locs ls hl hP hD hS
  have k1 : ∀ z : Nat, z < 100000 → (jk_I (z : Int)).toNatClampNeg = z := fun z hz => by rw [jk_clamp (by omega) (by omega)]; omega
  have k2 : ∀ z : Nat, z < 100000 → ¬ jk_I (z : Int) < 0 := fun z hz q => by
    have h : jk_I (z : Int) < jk_I 0 := q
    rw [jk_lt ⟨by omega, by omega⟩ ⟨by omega, by omega⟩] at h
    omega
  have e1 := k1 sp (by omega)
  have e2 := k1 dp (by omega)
  have e3 := k1 n (by omega)
  refine va_copyM C.1.1 C.1.2.1 (C.1.2.2.1.trans hl.1.symm) C.1.2.2.2.1 (C.1.2.2.2.2 _ hlink) (C.1.2.2.2.2 _ hnat) (C.1.2.2.2.2 _ hstat) (C.1.2.2.2.2 _ hini) C.2.1 hP hD hS q0 q1 t0 t0 hq0 hq1 ht ht (k2 sp (by omega)) (k2 dp (by omega)) (k2 n (by omega)) (by rw [e1, e3]; exact h4) (by rw [e2, e3]; exact h5) (by rw [e1, e3]; exact hel H locs hP hS) hR hR2 hdg (fun H1 locs1 q1' q2 q3 => ?_)
  rw [e1, e2, e3] at q1' q2
  exact kk _ (by rw [jm_lk_set hD hq1, hws]) H1 locs1 ls hl q1' q2 q3
theorem jm_mmax (C : jk_C p s m args meth c cc own nL jk_WA D cl tys A ret) (hx : jk_R x) (hy : jk_R y) (hlink : Cond.methodLink own index mn_JMath_max ∈ jk_WA) (hR : 1 ≤ R.frames) (hR2 : (st.map fun v => v.category).sum + 13 ≤ R.locals) (hcs : cells ≤ R.cells ∧ slots ≤ R.slots) (hdg : decode cc pc = .ok (.invokestatic index, 3))
    (kk : jk_J p l e R s m args below meth c cells slots Q D cl A nL ws lv (pc + 3) (jk_V (if x < y then y else x) :: st)) : jk_J p l e R s m args below meth c cells slots Q D cl A nL ws lv pc (jk_V y :: jk_V x :: st) := by
  intro H locs ls hl hP hD hS
  refine va_mmax C.1.1 C.1.2.1 (C.1.2.2.1.trans hl.1.symm) C.1.2.2.2.1 (C.1.2.2.2.2 _ hlink) (C.1.2.2.2.2 _ xw_JMath_max) (C.1.2.2.2.2 _ iw_JMath) (C.1.2.2.2.2 _ cw_JMath_max) hR hR2 hcs.1 hcs.2 hdg ?_
  rw [show (if jk_I x < jk_I y then jk_I y else jk_I x) = jk_I (if x < y then y else x) by rw [apply_ite jk_I]; simp only [jk_lt hx hy]]
  exact kk H locs ls hl hP hD hS
theorem jm_mmin (C : jk_C p s m args meth c cc own nL jk_WA D cl tys A ret) (hx : jk_R x) (hy : jk_R y) (hlink : Cond.methodLink own index mn_JMath_min ∈ jk_WA) (hR : 1 ≤ R.frames) (hR2 : (st.map fun v => v.category).sum + 13 ≤ R.locals) (hcs : cells ≤ R.cells ∧ slots ≤ R.slots) (hdg : decode cc pc = .ok (.invokestatic index, 3))
    (kk : jk_J p l e R s m args below meth c cells slots Q D cl A nL ws lv (pc + 3) (jk_V (if y < x then y else x) :: st)) : jk_J p l e R s m args below meth c cells slots Q D cl A nL ws lv pc (jk_V y :: jk_V x :: st) := by
  intro H locs ls hl hP hD hS
  refine va_mmin C.1.1 C.1.2.1 (C.1.2.2.1.trans hl.1.symm) C.1.2.2.2.1 (C.1.2.2.2.2 _ hlink) (C.1.2.2.2.2 _ xw_JMath_min) (C.1.2.2.2.2 _ iw_JMath) (C.1.2.2.2.2 _ cw_JMath_min) hR hR2 hcs.1 hcs.2 hdg ?_
  rw [show (if jk_I y < jk_I x then jk_I y else jk_I x) = jk_I (if y < x then y else x) by rw [apply_ite jk_I]; simp only [jk_lt hy hx]]
  exact kk H locs ls hl hP hD hS
end JR2
theorem jl_nfw : nativeFrameWords "java/lang/System" "arraycopy" 5 + 11 ≤ 60 := by decide +kernel
theorem jm_up_up {M : jm_M} {a : Nat} {e e' : va_E} : jm_up (jm_up M a e) a e' = jm_up M a e' := by
  funext b
  by_cases h : b = a
  · subst h
    rw [jm_up_s, jm_up_s]
  · rw [jm_up_n h, jm_up_n h, jm_up_n h]
theorem jl_shr1 {n : Nat} (h : n < 1000000) : jk_shr (n : Int) 1 = ((n / 2 : Nat) : Int) := by
  unfold jk_shr
  have k := pk_shrN (n := n) (by omega) ((1 : Int32) &&& 31) 1 (by decide)
  rw [Nat.pow_one] at k
  show (nI n >>> ((1 : Int32) &&& 31)).toInt = _
  rw [k, nI_toInt (by omega)]
theorem gw_sel : Jvm.Cond.selects "[Ljava/lang/Object;" ({ cls := "java/lang/Object", name := "getClass", desc := "()Ljava/lang/Class;" } : Jvm.MethodName) ({ cls := "java/lang/Object", name := "getClass", desc := "()Ljava/lang/Class;" } : Jvm.MethodName) ∈ jk_WA := jk_tb 1609 (by decide +kernel) (by decide +kernel)
theorem gw_inst : Jvm.Cond.instanceMethod ({ cls := "java/lang/Object", name := "getClass", desc := "()Ljava/lang/Class;" } : Jvm.MethodName) ∈ jk_WA := jk_tb 841 (by decide +kernel) (by decide +kernel)
theorem gw_nat : Jvm.Cond.native ({ cls := "java/lang/Object", name := "getClass", desc := "()Ljava/lang/Class;" } : Jvm.MethodName) ∈ jk_WA := jk_tb 863 (by decide +kernel) (by decide +kernel)
theorem kw_JAS_200 : Jvm.Cond.constant "jdk/internal/util/ArraysSupport" (200 : Nat) (2147483639 : Int32) ∈ jk_WA := jk_tb 833 (by decide +kernel) (by decide +kernel)
