/-! constructors: rows and contracts -/
section JN
variable {p : Program} {l : Launch} {e : Env} {R : Room} {s : State} {m : MethodId} {args : Array Value} {below : List Frame} {meth : Method} {c : Code} {cells slots mc ms mc2 ms2 : Nat} {Q : State → Prop} {D : va_G} {cl : List vw_C} {A : Nat → Prop} {nL : Nat} {ws ws' wc wr : va_W} {lv lv' : List (Nat × Value)} {pc : Nat} {st st0 : List Value}
variable {cc : ByteArray} {own : String} {tys : List (ClassId × FieldType)} {ret : Option FieldType} {Z : (Nat → Prop) → State → Heap → Prop}
variable {y : MethodName} {bytes : ByteArray} {maxL n index : Nat} {a b : Nat} {As : List Value}
variable {C0 : String} {T : u_T} {N ci : Nat} {fs : List Value} {v : Value}
def jk_MN (l : Launch) (D : va_G) (cl : List vw_C) (tys : List (ClassId × FieldType)) (Z : (Nat → Prop) → State → Heap → Prop) (y : MethodName) (wy : List Cond) (rm : Room) (as : List Value) (w : va_W) {U : Type} (w' : U → va_W) (mc ms : Nat) : Prop :=
  ∀ sz, Met l y wy rm (va_Pc as (jk_Pre D cl tys Z w sz)) (va_Qv (fun (_ : U) => True) (fun u t => jk_Post D cl tys (w' u) t ∧ va_D (va_A w sz) (w' u)) (va_A w sz)) mc ms (va_A w sz)
theorem jk_cret (C : jk_C p s m args meth c cc own nL jk_WA D cl tys A none) {sz : Nat} {w : va_W} {U : Type} {w' : U → va_W} (u : U) (hA : va_A w sz = A) (hdg : decode cc pc = .ok (.return_, 1)) (hw : ws = w' u) (hc : cells ≤ mc) (hs : slots ≤ ms) : jk_J p l e R s m args below meth c cells slots (MQ below (va_Qv (fun (_ : U) => True) (fun u t => jk_Post D cl tys (w' u) t ∧ va_D (va_A w sz) (w' u)) (va_A w sz)) args s mc ms (va_A w sz)) D cl A nL ws lv pc [] := by
  subst hw; subst hA
  intro H locs ls hl hP hD hS
  exact W.widen hc hs (W.vret C.1.1 C.1.2.1 C.2.2.2.1 (fun t ht hW => ⟨⟨u, rfl, trivial, ⟨by rw [ht]; exact hP, va_K.moved hW.alike C.2.1⟩, hD⟩, hS.F ht⟩) hS.2.2 hdg C.2.2.2.2)
theorem jk_new (C : jk_C p s m args meth c cc own nL jk_WA D cl tys A ret) (hin : ∀ w ∈ u_ws C0 T N, w ∈ jk_WA) {ty0 : Nat → FieldType} (hty : ∀ k, k < N → parseFieldDescriptor (T k).2.2.1 = some (ty0 k)) (h1 : Cond.classLink own index C0 ∈ jk_WA) (h2 : Cond.instantiable C0 N ∈ jk_WA) (h3 : Cond.initialized C0 ∈ jk_WA) (hc : cl[ci]? = some (C0, T, N)) (hfs : ∀ j, j < N → defaultValue (ty0 j) = vp_V fs j) (hcs : cells + 1 ≤ R.cells ∧ slots + N ≤ R.slots) (hdg : decode cc pc = .ok (.new index, 3))
    (kk : ∀ q : Nat, jk_J p l e R s m args below meth c (cells + 1) (slots + N) Q D cl A nL (ws ++ [(q, .inr (ci, fs))]) lv (pc + 3) (.ref q :: st)) : jk_J p l e R s m args below meth c cells slots Q D cl A nL ws lv pc st :=
  fun H locs ls hl hP hD hS => va_new C.1.1 C.1.2.1 C.1.2.2.2.2 hin ty0 hty C.1.2.2.2.1 (C.1.2.2.2.2 _ h1) (C.1.2.2.2.2 _ h2) (C.1.2.2.2.2 _ h3) C.2.1 hP hD hS C.2.2.1 hc hfs hcs.1 hcs.2 hdg (fun q H1 a1 a2 a3 => kk q H1 locs ls hl a1 a2 a3)
theorem jk_newa (C : jk_C p s m args meth c cc own nL jk_WA D cl tys A ret) {x : Int} {n : Nat} {cI : ClassId} (hx : x = (n : Int)) (hn : n < 100000) (ht : tys[0]? = some (cI, .int)) (h1 : Cond.arrayClass .int ∈ jk_WA) (hcs : cells + 1 ≤ R.cells ∧ slots + n ≤ R.slots) (hdg : decode cc pc = .ok (.newarray .int, 2))
    (kk : ∀ q : Nat, jk_J p l e R s m args below meth c (cells + 1) (slots + n) Q D cl A nL (ws ++ [(q, jk_W cI n (fun _ => 0))]) lv (pc + 2) (.ref q :: st)) : jk_J p l e R s m args below meth c cells slots Q D cl A nL ws lv pc (jk_V x :: st) := by
  subst hx
  intro H locs ls hl hP hD hS
  refine va_newa (atype := .int) (ty := .int) (N' := n) (a0 := (n, .inl (fun _ => jk_I 0))) C.1.1 C.1.2.1 (C.1.2.2.2.2 _ h1) rfl C.2.1 hP hD hS C.2.2.1 (fun _ => rfl) (fun q => ?_) ?_ (by show n * 4 ≤ _; omega) hcs.1 hcs.2 hdg (fun q cA H1 hK1 a1 a2 a3 => ?_)
  · have h : jk_I (n : Int) < jk_I 0 := q
    rw [jk_lt ⟨by omega, by omega⟩ ⟨by omega, by omega⟩] at h
    omega
  · rw [jk_clamp (by omega) (by omega)]
    omega
  · have e1 := (hK1.2 tys.length (cA, .int) (by simp)).2
    have e2 := (C.2.1.2 0 (cI, .int) ht).2
    have e3 : cA = cI := Option.some.inj ((show s.vm.findClass ("[" ++ FieldType.int.toString) = some cA from e1).symm.trans (show s.vm.findClass ("[" ++ FieldType.int.toString) = some cI from e2))
    subst e3
    exact kk q H1 locs ls hl a1 a2 a3
theorem jk_putF (C : jk_C p s m args meth c cc own nL jk_WA D cl tys A ret) (hin : ∀ w ∈ u_ws C0 T N, w ∈ jk_WA) {ty0 : Nat → FieldType} (hty : ∀ k, k < N → parseFieldDescriptor (T k).2.2.1 = some (ty0 k)) (hnm : ∀ a, a < N → ∀ b, b < N → a ≠ b → (T a).2.1 ≠ (T b).2.1) (hc : cl[ci]? = some (C0, T, N)) (k : Nat) (hk : k < N) (hlink : Cond.fieldLink own index (T k).1 (T k).2.1 (T k).2.2.1 ∈ jk_WA) (hfin : (T k).2.2.2 = true) (hin2 : meth.name = "<init>") (hdecl : (T k).1 = own) (hn : narrow (ty0 k) v = v) (hfit : fits (ty0 k) v = true) (q0 : Nat) (he : ws[q0]? = some (a, .inr (ci, fs))) (hl' : k < fs.length) (hdg : decode cc pc = .ok (.putfield index, 3)) (hw : ws.set q0 (a, .inr (ci, fs.set k v)) = ws')
    (kk : jk_J p l e R s m args below meth c cells slots Q D cl A nL ws' lv (pc + 3) st) : jk_J p l e R s m args below meth c cells slots Q D cl A nL ws lv pc (v :: .ref a :: st) := by
  subst hw
  exact fun H locs ls hl hP hD hS => va_putF C.1.1 C.1.2.1 C.1.2.2.2.2 hin ty0 hty hnm C.1.2.2.2.1 C.2.1 hP hD hS q0 he hc k hk (C.1.2.2.2.2 _ hlink) (fun _ h9 => h9) hfin hin2 hdecl (hty k hk) hn hfit hl' hdg (fun H1 locs1 h1 h2 h3 => kk H1 locs1 ls hl h1 h2 h3)
theorem jk_objInit (C : jk_C p s m args meth c cc own nL jk_WA D cl tys A ret) (h1 : Cond.methodLink own index Jvm.Lib.objectInit ∈ jk_WA) (h2 : Cond.instanceMethod Jvm.Lib.objectInit ∈ jk_WA) (h3 : Cond.code Jvm.Lib.objectInit ⟨#[0xb1]⟩ 1 none ∈ jk_WA) (hdg : decode cc pc = .ok (.invokespecial index, 3)) (hR : 1 ≤ R.frames) (hR2 : (st.map fun v => v.category).sum + 12 ≤ R.locals)
    (kk : jk_J p l e R s m args below meth c cells slots Q D cl A nL ws lv (pc + 3) st) : jk_J p l e R s m args below meth c cells slots Q D cl A nL ws lv pc (.ref a :: st) := by
  intro H locs ls hl hP hD hS
  refine W.objInit C.1.1 C.1.2.1 C.1.2.2.2.1 (C.1.2.2.2.2 _ h1) (C.1.2.2.2.2 _ h2) (C.1.2.2.2.2 _ h3) rfl (hl.1.trans C.1.2.2.1.symm) rfl hdg hR (by show 2 * 0 + _ + 12 ≤ _; omega) ?_
  exact kk H locs ls hl hP hD hS
theorem jk_astq (C : jk_C p s m args meth c cc own nL jk_WA D cl tys A ret) {n : Nat} {i : Int} {f : Nat → Option Nat} {cA : ClassId} {r : vw_C} {x : Nat} {vs : List Value} (q0 t0 qk ci : Nat) (he : ws[q0]? = some (a, .inl (cA, n, .inr (.inr (.inr (.inr f)))))) (ht : tys[t0]? = some (cA, .object r.1)) (hv : ws[qk]? = some (x, .inr (ci, vs))) (hc : cl[ci]? = some r) (hn : n < 2147483648) (h0 : 0 ≤ i) (h1 : i < n) (hdg : decode cc pc = .ok (.aastore, 1)) (hw : ws.set q0 (a, .inl (cA, n, .inr (.inr (.inr (.inr (va_up f i.toNat (some x))))))) = ws')
    (kk : jk_J p l e R s m args below meth c cells slots Q D cl A nL ws' lv (pc + 1) st) : jk_J p l e R s m args below meth c cells slots Q D cl A nL ws lv pc (.ref x :: jk_V i :: .ref a :: st) := by
  subst hw
  intro H locs ls hl hP hD hS
  refine va_astq C.1.1 C.1.2.1 C.2.1 hP hD hS q0 t0 qk ci he ht hv hc (jk_in h0 h1 hn) hdg (fun H1 locs1 q1 q2 q3 => ?_)
  rw [jk_clamp h0 (by omega)] at q1 q2
  exact kk H1 locs1 ls hl q1 q2 q3
theorem jk_callI (C : jk_C p s m args meth c cc own nL jk_WA D cl tys A ret) (hZ : jk_ZC Z) (hz : Z A s s.heap) {f lo : Nat} {U : Type} {w' : U → va_W} (hM : jk_MN l D cl tys Z y (.code y bytes maxL none :: jk_WA) (jk_rx f mc2 ms2 lo) (.ref b :: As) wc w' mc2 ms2)
    (h1 : Cond.methodLink own index y ∈ jk_WA) (h2 : Cond.instanceMethod y ∈ jk_WA) (h4 : Cond.initialized y.cls ∈ jk_WA) (h5 : Cond.code y bytes maxL none ∈ jk_WA) (hini : y.name = "<init>") (hd : jk_nm y n) (hR : f + 1 ≤ R.frames ∧ 8 + (maxL + 11) + lo ≤ R.locals) (hn : As.length = n)
    (isC isR : List Nat) (hC : isC.map (fun i => ws[i]?) = wc.map some) (hCR : isR.map (fun i => ws[i]?) = wr.map some) (hnd : va_nd isC = true) (hndR : va_nd isR = true) (hdis : ∀ i ∈ isR, i ∉ isC)
    (hst : st0 = As.reverse ++ .ref b :: st) (hW : (st.map fun v => v.category).sum ≤ 8) (hdg : decode cc pc = .ok (.invokespecial index, 3)) (hcs : cells + mc2 ≤ R.cells ∧ slots + ms2 ≤ R.slots)
    (kk : ∀ u : U, jk_J p l e R s m args below meth c (cells + mc2) (slots + ms2) Q D cl A nL (wr ++ w' u) lv (pc + 3) st) : jk_J p l e R s m args below meth c cells slots Q D cl A nL ws lv pc st0 := by
  intro H locs ls hl hP hD hS
  obtain ⟨g1, g2, g3, g4⟩ := jk_pre hZ hz C.2.2.1 C.2.1 hP hD hS hC hnd (.ref b :: As)
  refine va_callv (va_runI (As := As) (rest := st) C.1 (hM H.size) (cwI n C.1.2.2.2.2 (jk_goodIn h5) rfl rfl rfl (C.1.2.2.2.2 _ h4) (C.1.2.2.2.2 _ h1) (C.1.2.2.2.2 _ h2) hini hd hR) ⟨g1, g2⟩ rfl hn hl.1 hst (lv_room hW) hdg hcs) hS (fun q _ h => g4 q h) g4 (fun u t H1 locs1 ht hvm hw1 hB hz1 hk1 hS1 => ?_)
  obtain ⟨⟨hP1, -⟩, hD1⟩ := hB
  rw [ht] at hP1
  obtain ⟨k1, k2⟩ := va_join hP hD isC isR hC hCR hndR hdis hk1 g4 hP1 hD1
  exact kk u H1 locs1 ls hl k1 k2 hS1
theorem jk_callIN {host : String} (C : jk_C p s m args meth c cc own nL jk_WA D cl tys A ret) (hZ : jk_ZC Z) (hz : Z A s s.heap) {f lo : Nat} {U : Type} {w' : U → va_W} (hM : jk_MN l D cl tys Z y (.code y bytes maxL none :: jk_WA) (jk_rx f mc2 ms2 lo) (.ref b :: As) wc w' mc2 ms2)
    (h1 : va_Nw (Cond.methodLinkNest own index y host) s) (h2 : Cond.instanceMethod y ∈ jk_WA) (h4 : Cond.initialized y.cls ∈ jk_WA) (h5 : Cond.code y bytes maxL none ∈ jk_WA) (hini : y.name = "<init>") (hd : jk_nm y n) (hR : f + 1 ≤ R.frames ∧ 8 + (maxL + 11) + lo ≤ R.locals) (hn : As.length = n)
    (isC isR : List Nat) (hC : isC.map (fun i => ws[i]?) = wc.map some) (hCR : isR.map (fun i => ws[i]?) = wr.map some) (hnd : va_nd isC = true) (hndR : va_nd isR = true) (hdis : ∀ i ∈ isR, i ∉ isC)
    (hst : st0 = As.reverse ++ .ref b :: st) (hW : (st.map fun v => v.category).sum ≤ 8) (hdg : decode cc pc = .ok (.invokespecial index, 3)) (hcs : cells + mc2 ≤ R.cells ∧ slots + ms2 ≤ R.slots)
    (kk : ∀ u : U, jk_J p l e R s m args below meth c (cells + mc2) (slots + ms2) Q D cl A nL (wr ++ w' u) lv (pc + 3) st) : jk_J p l e R s m args below meth c cells slots Q D cl A nL ws lv pc st0 := by
  intro H locs ls hl hP hD hS
  obtain ⟨g1, g2, g3, g4⟩ := jk_pre hZ hz C.2.2.1 C.2.1 hP hD hS hC hnd (.ref b :: As)
  refine va_callv (va_runIN (As := As) (rest := st) C.1 (hM H.size) ⟨va_cnB n C.1.2.2.2.2 (jk_goodIn h5) rfl rfl rfl h1 (C.1.2.2.2.2 _ h4) hd hR, hini, C.1.2.2.2.2 _ h2⟩ ⟨g1, g2⟩ rfl hn hl.1 hst (lv_room hW) hdg hcs) hS (fun q _ h => g4 q h) g4 (fun u t H1 locs1 ht hvm hw1 hB hz1 hk1 hS1 => ?_)
  obtain ⟨⟨hP1, -⟩, hD1⟩ := hB
  rw [ht] at hP1
  obtain ⟨k1, k2⟩ := va_join hP hD isC isR hC hCR hndR hdis hk1 g4 hP1 hD1
  exact kk u H1 locs1 ls hl k1 k2 hS1
theorem jk_newq (C : jk_C p s m args meth c cc own nL jk_WA D cl tys A ret) {C0 : String} (hO : va_AO C0 s) {x : Int} {n : Nat} {cR : ClassId} (hx : x = (n : Int)) (hn : n < 100000) (ht : tys[1]? = some (cR, .object C0)) (h1 : Cond.classLink own index C0 ∈ jk_WA) (hcs : cells + 1 ≤ R.cells ∧ slots + n ≤ R.slots) (hdg : decode cc pc = .ok (.anewarray index, 3))
    (kk : ∀ q : Nat, jk_J p l e R s m args below meth c (cells + 1) (slots + n) Q D cl A nL (ws ++ [(q, .inl (cR, n, .inr (.inr (.inr (.inr (fun _ => none))))))]) lv (pc + 3) (.ref q :: st)) : jk_J p l e R s m args below meth c cells slots Q D cl A nL ws lv pc (jk_V x :: st) := by
  subst hx
  intro H locs ls hl hP hD hS
  refine va_newq (N' := n) C.1.1 C.1.2.1 C.1.2.2.2.1 (C.1.2.2.2.2 _ h1) hO C.2.1 hP hD hS C.2.2.1 (fun q => ?_) ?_ (by omega) hcs.1 hcs.2 hdg (fun q cA H1 hK1 a1 a2 a3 => ?_)
  · have h : jk_I (n : Int) < jk_I 0 := q
    rw [jk_lt ⟨by omega, by omega⟩ ⟨by omega, by omega⟩] at h
    omega
  · rw [jk_clamp (by omega) (by omega)]
    omega
  · obtain ⟨_, _, _, _, _, e1⟩ := (hK1.2 tys.length (cA, .object C0) (by simp)).2
    obtain ⟨_, _, _, _, _, e2⟩ := (C.2.1.2 1 (cR, .object C0) ht).2
    have e3 : cA = cR := Option.some.inj (e1.symm.trans e2)
    subst e3
    exact kk q H1 locs ls hl a1 a2 a3
end JN
