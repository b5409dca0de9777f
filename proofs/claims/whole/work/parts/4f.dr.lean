/-! rows for a body that may draw: over the start with some record of draws -/
section DR
variable {p : Program} {l : Launch} {e : Env} {R : Room} {s : State} {m : MethodId} {args : Array Value} {below : List Frame} {meth : Method} {c : Code} {cells slots : Nat} {Q : State → Prop} {D : va_G} {cl : List vw_C} {A : Nat → Prop} {nL : Nat} {ws ws' : va_W} {lv lv' : List (Nat × Value)} {pc : Nat} {st : List Value}
variable {cc : ByteArray} {own : String} {Ts : List Cond} {tys : List (ClassId × FieldType)} {ret : Option FieldType} {Z : (Nat → Prop) → State → Heap → Prop} {cs : List Choice} {d0 d1 : Drawn}
theorem jk_dr (C : jk_C p (s.setDrawn d0) m args meth c cc own nL Ts D cl tys A ret) : jk_C p (s.setDrawn d1) m args meth c cc own nL Ts D cl tys A ret := by
  obtain ⟨⟨a1, a2, a3, a4, a5⟩, b, c1, c2, c3⟩ := C
  exact ⟨⟨a1, a2, a3, a4, fun w hw => (Cond.before_setDrawn args s d1 w).trans ((Cond.before_setDrawn args s d0 w).symm.trans (a5 w hw))⟩, va_K.moved (u := s.setDrawn d0) (U := s.setDrawn d1) (Vm.Alike.refl _) b, c1, c2, c3⟩
theorem jk_bodyD {y : MethodName} {rm : Room} {as : List Value} {w : va_W} {sz maxL : Nat} {Qc : Array Value → State → Outcome → State → Prop} {mc ms : Nat} (hy : plainName y.cls = true) (hZ : jk_ZC Z)
    (k : ∀ (p : Program) (e : Env) (s : State) (m : MethodId) (args : Array Value) (below : List Frame) (meth : Method) (c : Code) (d0 : Drawn), s.heap.size = sz → s.drawn.sameBut d0 cs → Z (va_A w s.heap.size) (s.setDrawn d0) s.heap → jk_C p (s.setDrawn d0) m args meth c cc y.cls maxL jk_WA D cl tys (va_A w s.heap.size) ret →
      jk_J p l e rm (s.setDrawn d0) m args below meth c 0 0 (MQD cs below Qc args s mc ms (va_A w sz)) D cl (va_A w s.heap.size) maxL w (lv_args 0 as) 0 []) (hsl : (lg_sl as).length ≤ maxL) : MetD cs l y (.code y cc maxL ret :: jk_WA) rm (va_Pc as (jk_Pre D cl tys Z w sz)) Qc mc ms (va_A w sz) := by
  refine MetD.ofW (cc := cc) (maxL := maxL) (ret := ret) hy rfl ?_
  intro p e s m args below meth c s₁ B hml hv hd0
  obtain ⟨rfl, hsz, hP, hK, hD0, hZ0⟩ := hv
  have hts := atoms_spec (ws := .code y cc maxL ret :: jk_WA) B.pre
  have hown : s.vm.findClass y.cls = some m.cls := findClass_of_methodNamed B.named
  have hD := hD0.self (sz := s.heap.size)
  rw [lg_entry_eq]
  refine k p e s m _ below meth c s.drawn hsz hd0 (hZ.1 _ s (s.setDrawn s.drawn) _ rfl (by rw [hsz]; exact hZ0)) ⟨⟨B.exec, B.bytes, hml, hown, fun w hw => (Cond.before_setDrawn _ s s.drawn w).trans (hts w (List.mem_cons_of_mem _ hw))⟩, va_K.moved (u := s) (U := s.setDrawn s.drawn) (Vm.Alike.refl _) hK, fun q h => Or.inr h, B.returns, B.notSynchronized⟩ s.heap [] _ (lv_entry as hsl) hP hD va_S.rf
theorem jk_i2d (C : jk_C p s m args meth c cc own nL Ts D cl tys A ret) {x : Int32} (hdg : decode cc pc = .ok (.i2d, 1)) (kk : jk_J p l e R s m args below meth c cells slots Q D cl A nL ws lv (pc + 1) (.double (FP.i2d x) :: st)) : jk_J p l e R s m args below meth c cells slots Q D cl A nL ws lv pc (.int x :: st) :=
  fun H locs ls hl hP hD hS => lv_i2d C.1.1 C.1.2.1 hdg (kk H locs ls hl hP hD hS)
theorem jk_i2f (C : jk_C p s m args meth c cc own nL Ts D cl tys A ret) {x : Int32} (hdg : decode cc pc = .ok (.i2f, 1)) (kk : jk_J p l e R s m args below meth c cells slots Q D cl A nL ws lv (pc + 1) (.float (FP.i2f x) :: st)) : jk_J p l e R s m args below meth c cells slots Q D cl A nL ws lv pc (.int x :: st) :=
  fun H locs ls hl hP hD hS => lv_i2f C.1.1 C.1.2.1 hdg (kk H locs ls hl hP hD hS)
theorem jk_dconst0 (C : jk_C p s m args meth c cc own nL Ts D cl tys A ret) (hdg : decode cc pc = .ok (.dconst 0, 1)) (kk : jk_J p l e R s m args below meth c cells slots Q D cl A nL ws lv (pc + 1) (.double FP.dconst0 :: st)) : jk_J p l e R s m args below meth c cells slots Q D cl A nL ws lv pc st :=
  fun H locs ls hl hP hD hS => lv_dconst0 C.1.1 C.1.2.1 hdg (kk H locs ls hl hP hD hS)
theorem jk_fconst0 (C : jk_C p s m args meth c cc own nL Ts D cl tys A ret) (hdg : decode cc pc = .ok (.fconst 0, 1)) (kk : jk_J p l e R s m args below meth c cells slots Q D cl A nL ws lv (pc + 1) (.float FP.fconst0 :: st)) : jk_J p l e R s m args below meth c cells slots Q D cl A nL ws lv pc st :=
  fun H locs ls hl hP hD hS => lv_fconst0 C.1.1 C.1.2.1 hdg (kk H locs ls hl hP hD hS)
theorem jk_ddiv (hd0 : s.drawn.sameBut d0 cs) (hn : nanBits ∈ cs) (C : jk_C p (s.setDrawn d0) m args meth c cc own nL Ts D cl tys A ret) {x y : UInt64} (hdg : decode cc pc = .ok (.ddiv, 1)) (kk : ∀ (r : UInt64) (d1 : Drawn), alike64 r (FP.ddiv x y) = true → s.drawn.sameBut d1 cs → jk_C p (s.setDrawn d1) m args meth c cc own nL Ts D cl tys A ret → jk_J p l e R (s.setDrawn d1) m args below meth c cells slots Q D cl A nL ws lv (pc + 1) (.double r :: st)) : jk_J p l e R (s.setDrawn d0) m args below meth c cells slots Q D cl A nL ws lv pc (.double y :: .double x :: st) :=
  fun H locs ls hl hP hD hS => lv_ddiv_any hd0 hn C.1.1 C.1.2.1 hdg (fun r d1 h1 h2 => kk r d1 h1 h2 (jk_dr C) H locs ls hl hP hD hS)
theorem jk_fdiv (hd0 : s.drawn.sameBut d0 cs) (hn : nanBits ∈ cs) (C : jk_C p (s.setDrawn d0) m args meth c cc own nL Ts D cl tys A ret) {x y : UInt32} (hdg : decode cc pc = .ok (.fdiv, 1)) (kk : ∀ (r : UInt32) (d1 : Drawn), alike32 r (FP.fdiv x y) = true → s.drawn.sameBut d1 cs → jk_C p (s.setDrawn d1) m args meth c cc own nL Ts D cl tys A ret → jk_J p l e R (s.setDrawn d1) m args below meth c cells slots Q D cl A nL ws lv (pc + 1) (.float r :: st)) : jk_J p l e R (s.setDrawn d0) m args below meth c cells slots Q D cl A nL ws lv pc (.float y :: .float x :: st) :=
  fun H locs ls hl hP hD hS => lv_fdiv_any hd0 hn C.1.1 C.1.2.1 hdg (fun r d1 h1 h2 => kk r d1 h1 h2 (jk_dr C) H locs ls hl hP hD hS)
def jk_MD (cs : List Choice) (l : Launch) (D : va_G) (cl : List vw_C) (tys : List (ClassId × FieldType)) (Z : (Nat → Prop) → State → Heap → Prop) (y : MethodName) (wy : List Cond) (rm : Room) (as : List Value) (w w' : va_W) (r : UInt64) : Prop :=
  ∀ sz, MetD cs l y wy rm (va_Pc as (jk_Pre D cl tys Z w sz)) (va_Qd (fun (r' : UInt64) (_ : Unit) => alike64 r' r = true) (fun _ t => jk_Post D cl tys w' t) (va_A w sz)) 0 0 (va_A w sz)
def jk_MF (cs : List Choice) (l : Launch) (D : va_G) (cl : List vw_C) (tys : List (ClassId × FieldType)) (Z : (Nat → Prop) → State → Heap → Prop) (y : MethodName) (wy : List Cond) (rm : Room) (as : List Value) (w w' : va_W) (r : UInt32) : Prop :=
  ∀ sz, MetD cs l y wy rm (va_Pc as (jk_Pre D cl tys Z w sz)) (va_Qf (fun (r' : UInt32) (_ : Unit) => alike32 r' r = true) (fun _ t => jk_Post D cl tys w' t) (va_A w sz)) 0 0 (va_A w sz)
theorem jk_dret (hd0 : s.drawn.sameBut d0 cs) (C : jk_C p (s.setDrawn d0) m args meth c cc own nL jk_WA D cl tys A (some .double)) {sz : Nat} {w : va_W} {r r0 : UInt64} (h : alike64 r r0 = true) (hA : va_A w sz = A) (hdg : decode cc pc = .ok (.dreturn, 1)) (hw : ws = ws') : jk_J p l e R (s.setDrawn d0) m args below meth c cells slots (MQD cs below (va_Qd (fun (r' : UInt64) (_ : Unit) => alike64 r' r0 = true) (fun _ t => jk_Post D cl tys ws' t) (va_A w sz)) args s cells slots (va_A w sz)) D cl A nL ws lv pc [.double r] := by
  subst hw; subst hA
  intro H locs ls hl hP hD hS
  exact W.endD hd0 (W.dret C.1.1 C.1.2.1 C.2.2.2.1 (fun t ht hW => ⟨⟨r, (), rfl, h, by rw [ht]; exact hP, va_K.moved hW.alike C.2.1⟩, hS.F ht⟩) hS.2.2 hdg C.2.2.2.2)
theorem jk_fret (hd0 : s.drawn.sameBut d0 cs) (C : jk_C p (s.setDrawn d0) m args meth c cc own nL jk_WA D cl tys A (some .float)) {sz : Nat} {w : va_W} {r r0 : UInt32} (h : alike32 r r0 = true) (hA : va_A w sz = A) (hdg : decode cc pc = .ok (.freturn, 1)) (hw : ws = ws') : jk_J p l e R (s.setDrawn d0) m args below meth c cells slots (MQD cs below (va_Qf (fun (r' : UInt32) (_ : Unit) => alike32 r' r0 = true) (fun _ t => jk_Post D cl tys ws' t) (va_A w sz)) args s cells slots (va_A w sz)) D cl A nL ws lv pc [.float r] := by
  subst hw; subst hA
  intro H locs ls hl hP hD hS
  exact W.endD hd0 (W.fret C.1.1 C.1.2.1 C.2.2.2.1 (fun t ht hW => ⟨⟨r, (), rfl, h, by rw [ht]; exact hP, va_K.moved hW.alike C.2.1⟩, hS.F ht⟩) hS.2.2 hdg C.2.2.2.2)
theorem jk_al64 (x : UInt64) : alike64 x x = true := by unfold alike64; simp
theorem jk_al32 (x : UInt32) : alike32 x x = true := by unfold alike32; simp
end DR
