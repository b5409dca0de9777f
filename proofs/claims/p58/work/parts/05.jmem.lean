section JK5
variable {p : Program} {l : Launch} {e : Env} {R : Room} {s : State} {m : MethodId} {args : Array Value} {below : List Frame} {meth : Method} {c : Code} {cells slots : Nat} {Q : State → Prop} {D : va_G} {cl : List vw_C} {A : Nat → Prop} {nL : Nat} {ws ws' : va_W} {lv lv' : List (Nat × Value)} {pc : Nat} {st : List Value}
variable {cc : ByteArray} {own : String} {tys : List (ClassId × FieldType)} {ret : Option FieldType}
variable {C0 host : String} {T : u_T} {N ci index : Nat} {a : Nat} {fs : List Value} {v : Value}
theorem jk_get (C : jk_C p s m args meth c cc own nL jk_WA D cl tys A ret) (hin : ∀ w ∈ u_ws C0 T N, w ∈ jk_WA) (hc : cl[ci]? = some (C0, T, N)) (k : Nat) (hk : k < N) (hlink : Cond.fieldLink own index (T k).1 (T k).2.1 (T k).2.2.1 ∈ jk_WA) (q0 : Nat) (he : ws[q0]? = some (a, .inr (ci, fs))) (hv : fs[k]? = some v) (hdg : decode cc pc = .ok (.getfield index, 3))
    (kk : jk_J p l e R s m args below meth c cells slots Q D cl A nL ws lv (pc + 3) (v :: st)) : jk_J p l e R s m args below meth c cells slots Q D cl A nL ws lv pc (.ref a :: st) :=
  fun H locs ls hl hP hD hS => va_get C.1.1 C.1.2.1 C.1.2.2.2.2 hin C.1.2.2.2.1 C.2.1 hP q0 he hc k hk (C.1.2.2.2.2 _ hlink) (fun _ h9 => h9) hv hdg (kk H locs ls hl hP hD hS)
theorem jk_getN (C : jk_C p s m args meth c cc own nL jk_WA D cl tys A ret) (hin : ∀ w ∈ u_ws C0 T N, w ∈ jk_WA) (hc : cl[ci]? = some (C0, T, N)) (k : Nat) (hk : k < N) (hlink : va_Nw (Cond.fieldLinkNest own index (T k).1 (T k).2.1 (T k).2.2.1 host) s) (q0 : Nat) (he : ws[q0]? = some (a, .inr (ci, fs))) (hv : fs[k]? = some v) (hdg : decode cc pc = .ok (.getfield index, 3))
    (kk : jk_J p l e R s m args below meth c cells slots Q D cl A nL ws lv (pc + 3) (v :: st)) : jk_J p l e R s m args below meth c cells slots Q D cl A nL ws lv pc (.ref a :: st) :=
  fun H locs ls hl hP hD hS => va_getN C.1.1 C.1.2.1 C.1.2.2.2.2 hin C.1.2.2.2.1 C.2.1 hP q0 he hc k hk (va_Nw.use rfl hlink) (fun _ h9 => h9) hv hdg (kk H locs ls hl hP hD hS)
theorem jk_putf (C : jk_C p s m args meth c cc own nL jk_WA D cl tys A ret) (hin : ∀ w ∈ u_ws C0 T N, w ∈ jk_WA) {ty0 : Nat → FieldType} (hty : ∀ k, k < N → parseFieldDescriptor (T k).2.2.1 = some (ty0 k)) (hnm : ∀ a, a < N → ∀ b, b < N → a ≠ b → (T a).2.1 ≠ (T b).2.1) (hc : cl[ci]? = some (C0, T, N)) (k : Nat) (hk : k < N) (hlink : Cond.fieldLink own index (T k).1 (T k).2.1 (T k).2.2.1 ∈ jk_WA) (hfin : (T k).2.2.2 = false) (hn : narrow (ty0 k) v = v) (hfit : fits (ty0 k) v = true) (q0 : Nat) (he : ws[q0]? = some (a, .inr (ci, fs))) (hl' : k < fs.length) (hdg : decode cc pc = .ok (.putfield index, 3)) (hw : ws.set q0 (a, .inr (ci, fs.set k v)) = ws')
    (kk : jk_J p l e R s m args below meth c cells slots Q D cl A nL ws' lv (pc + 3) st) : jk_J p l e R s m args below meth c cells slots Q D cl A nL ws lv pc (v :: .ref a :: st) := by
  subst hw
  exact fun H locs ls hl hP hD hS => va_put C.1.1 C.1.2.1 C.1.2.2.2.2 hin ty0 hty hnm C.1.2.2.2.1 C.2.1 hP hD hS q0 he hc k hk (C.1.2.2.2.2 _ hlink) (fun _ h9 => h9) hfin (hty k hk) hn hfit hl' hdg (fun H1 locs1 h1 h2 h3 => kk H1 locs1 ls hl h1 h2 h3)
theorem jk_putfN (C : jk_C p s m args meth c cc own nL jk_WA D cl tys A ret) (hin : ∀ w ∈ u_ws C0 T N, w ∈ jk_WA) {ty0 : Nat → FieldType} (hty : ∀ k, k < N → parseFieldDescriptor (T k).2.2.1 = some (ty0 k)) (hnm : ∀ a, a < N → ∀ b, b < N → a ≠ b → (T a).2.1 ≠ (T b).2.1) (hc : cl[ci]? = some (C0, T, N)) (k : Nat) (hk : k < N) (hlink : va_Nw (Cond.fieldLinkNest own index (T k).1 (T k).2.1 (T k).2.2.1 host) s) (hfin : (T k).2.2.2 = false) (hn : narrow (ty0 k) v = v) (hfit : fits (ty0 k) v = true) (q0 : Nat) (he : ws[q0]? = some (a, .inr (ci, fs))) (hl' : k < fs.length) (hdg : decode cc pc = .ok (.putfield index, 3)) (hw : ws.set q0 (a, .inr (ci, fs.set k v)) = ws')
    (kk : jk_J p l e R s m args below meth c cells slots Q D cl A nL ws' lv (pc + 3) st) : jk_J p l e R s m args below meth c cells slots Q D cl A nL ws lv pc (v :: .ref a :: st) := by
  subst hw
  exact fun H locs ls hl hP hD hS => va_putN C.1.1 C.1.2.1 C.1.2.2.2.2 hin ty0 hty hnm C.1.2.2.2.1 C.2.1 hP hD hS q0 he hc k hk (va_Nw.use rfl hlink) (fun _ h9 => h9) hfin (hty k hk) hn hfit hl' hdg (fun H1 locs1 h1 h2 h3 => kk H1 locs1 ls hl h1 h2 h3)
theorem jk_iald (C : jk_C p s m args meth c cc own nL jk_WA D cl tys A ret) {α : Type} {n : Nat} {i : Int} {f : Int → Int} {cI : ClassId} {x : Option α} {o : α} (q0 t0 : Nat) (he : ws[q0]? = some (a, jk_W cI n f)) (ht : tys[t0]? = some (cI, .int)) (hn : n < 2147483648) (hdg : decode cc pc = .ok (.iaload, 1)) (hf : jk_ix (n : Int) i x = some o)
    (kk : x = some o → jk_J p l e R s m args below meth c cells slots Q D cl A nL ws lv (pc + 1) (jk_V (f i) :: st)) : jk_J p l e R s m args below meth c cells slots Q D cl A nL ws lv pc (jk_V i :: .ref a :: st) := by
  obtain ⟨⟨h0, h1⟩, h2⟩ := jk_ix_h hf
  intro H locs ls hl hP hD hS
  refine va_iald C.1.1 C.1.2.1 C.2.1 hP q0 t0 he ht (jk_in h0 h1 hn) hdg ?_
  rw [jk_clamp h0 (by omega), Int.toNat_of_nonneg h0]
  exact kk h2 H locs ls hl hP hD hS
theorem jk_iast (C : jk_C p s m args meth c cc own nL jk_WA D cl tys A ret) {α : Type} {n : Nat} {i y : Int} {f : Int → Int} {cI : ClassId} {x : Option α} {o : α} (q0 t0 : Nat) (he : ws[q0]? = some (a, jk_W cI n f)) (ht : tys[t0]? = some (cI, .int)) (hn : n < 2147483648) (hdg : decode cc pc = .ok (.iastore, 1)) (hf : jk_ix (n : Int) i x = some o) (hw : ws.set q0 (a, jk_W cI n (jk_up f i y)) = ws')
    (kk : x = some o → jk_J p l e R s m args below meth c cells slots Q D cl A nL ws' lv (pc + 1) st) : jk_J p l e R s m args below meth c cells slots Q D cl A nL ws lv pc (jk_V y :: jk_V i :: .ref a :: st) := by
  obtain ⟨⟨h0, h1⟩, h2⟩ := jk_ix_h hf
  subst hw
  intro H locs ls hl hP hD hS
  refine va_iast C.1.1 C.1.2.1 C.2.1 hP hD hS q0 t0 he ht (jk_in h0 h1 hn) hdg (fun H1 locs1 q1 q2 q3 => ?_)
  rw [jk_W_up h0 (by omega)] at q1 q2
  exact kk h2 H1 locs1 ls hl q1 q2 q3
theorem jk_alen (C : jk_C p s m args meth c cc own nL jk_WA D cl tys A ret) {n : Nat} {f : Int → Int} {cI : ClassId} (q0 t0 : Nat) (he : ws[q0]? = some (a, jk_W cI n f)) (ht : tys[t0]? = some (cI, .int)) (hdg : decode cc pc = .ok (.arraylength, 1))
    (kk : jk_J p l e R s m args below meth c cells slots Q D cl A nL ws lv (pc + 1) (jk_V (n : Int) :: st)) : jk_J p l e R s m args below meth c cells slots Q D cl A nL ws lv pc (.ref a :: st) :=
  fun H locs ls hl hP hD hS => va_alen (v := jk_I (n : Int)) C.1.1 C.1.2.1 C.2.1 hP q0 t0 he ht rfl hdg (kk H locs ls hl hP hD hS)
end JK5
