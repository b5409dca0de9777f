/-! plain rows for a walk whose tests are known from what stands around -/
section JR
variable {p : Program} {l : Launch} {e : Env} {R : Room} {s : State} {m : MethodId} {args : Array Value} {below : List Frame} {meth : Method} {c : Code} {cells slots : Nat} {Q : State → Prop} {D : va_G} {cl : List vw_C} {A : Nat → Prop} {nL : Nat} {ws : va_W} {lv lv' : List (Nat × Value)} {pc : Nat} {st : List Value}
variable {cc : ByteArray} {own : String} {tys : List (ClassId × FieldType)} {ret : Option FieldType} {x y : Int} {off : Int} {tgt : Nat} {a b : Nat}
theorem jr_lts (hx : jk_R x) (hy : jk_R y) : jk_lts x y (some ()) (some ()) = some () := by
  unfold jk_lts
  rw [if_pos ⟨hx, hy⟩]
  split <;> rfl
theorem jr_eqs (hx : jk_R x) (hy : jk_R y) : jk_eqs x y (some ()) (some ()) = some () := by
  unfold jk_eqs
  rw [if_pos ⟨hx, hy⟩]
  split <;> rfl
theorem jr_icmp_lt (C : jk_C p s m args meth c cc own nL jk_WA D cl tys A ret) (hdg : decode cc pc = .ok (.if_icmp .lt off, 3)) (ht : (pc : Int) + off = (tgt : Int)) (hx : jk_R x) (hy : jk_R y) (kt : x < y → jk_J p l e R s m args below meth c cells slots Q D cl A nL ws lv tgt st) (kf : ¬ x < y → jk_J p l e R s m args below meth c cells slots Q D cl A nL ws lv (pc + 3) st) : jk_J p l e R s m args below meth c cells slots Q D cl A nL ws lv pc (jk_V y :: jk_V x :: st) := jk_icmp_lt C hdg ht (jr_lts hx hy) (fun h _ => kt h) (fun h _ => kf h)
theorem jr_if_lt (C : jk_C p s m args meth c cc own nL jk_WA D cl tys A ret) (hdg : decode cc pc = .ok (.ifCond .lt off, 3)) (ht : (pc : Int) + off = (tgt : Int)) (hx : jk_R x) (kt : x < 0 → jk_J p l e R s m args below meth c cells slots Q D cl A nL ws lv tgt st) (kf : ¬ x < 0 → jk_J p l e R s m args below meth c cells slots Q D cl A nL ws lv (pc + 3) st) : jk_J p l e R s m args below meth c cells slots Q D cl A nL ws lv pc (jk_V x :: st) := jk_if_lt C hdg ht (jr_lts hx jk_R0) (fun h _ => kt h) (fun h _ => kf h)
theorem jr_icmp_ge (C : jk_C p s m args meth c cc own nL jk_WA D cl tys A ret) (hdg : decode cc pc = .ok (.if_icmp .ge off, 3)) (ht : (pc : Int) + off = (tgt : Int)) (hx : jk_R x) (hy : jk_R y) (kt : ¬ x < y → jk_J p l e R s m args below meth c cells slots Q D cl A nL ws lv tgt st) (kf : x < y → jk_J p l e R s m args below meth c cells slots Q D cl A nL ws lv (pc + 3) st) : jk_J p l e R s m args below meth c cells slots Q D cl A nL ws lv pc (jk_V y :: jk_V x :: st) := jk_icmp_ge C hdg ht (jr_lts hx hy) (fun h _ => kt h) (fun h _ => kf h)
theorem jr_if_ge (C : jk_C p s m args meth c cc own nL jk_WA D cl tys A ret) (hdg : decode cc pc = .ok (.ifCond .ge off, 3)) (ht : (pc : Int) + off = (tgt : Int)) (hx : jk_R x) (kt : ¬ x < 0 → jk_J p l e R s m args below meth c cells slots Q D cl A nL ws lv tgt st) (kf : x < 0 → jk_J p l e R s m args below meth c cells slots Q D cl A nL ws lv (pc + 3) st) : jk_J p l e R s m args below meth c cells slots Q D cl A nL ws lv pc (jk_V x :: st) := jk_if_ge C hdg ht (jr_lts hx jk_R0) (fun h _ => kt h) (fun h _ => kf h)
theorem jr_icmp_gt (C : jk_C p s m args meth c cc own nL jk_WA D cl tys A ret) (hdg : decode cc pc = .ok (.if_icmp .gt off, 3)) (ht : (pc : Int) + off = (tgt : Int)) (hx : jk_R x) (hy : jk_R y) (kt : y < x → jk_J p l e R s m args below meth c cells slots Q D cl A nL ws lv tgt st) (kf : ¬ y < x → jk_J p l e R s m args below meth c cells slots Q D cl A nL ws lv (pc + 3) st) : jk_J p l e R s m args below meth c cells slots Q D cl A nL ws lv pc (jk_V y :: jk_V x :: st) := jk_icmp_gt C hdg ht (jr_lts hy hx) (fun h _ => kt h) (fun h _ => kf h)
theorem jr_if_gt (C : jk_C p s m args meth c cc own nL jk_WA D cl tys A ret) (hdg : decode cc pc = .ok (.ifCond .gt off, 3)) (ht : (pc : Int) + off = (tgt : Int)) (hx : jk_R x) (kt : 0 < x → jk_J p l e R s m args below meth c cells slots Q D cl A nL ws lv tgt st) (kf : ¬ 0 < x → jk_J p l e R s m args below meth c cells slots Q D cl A nL ws lv (pc + 3) st) : jk_J p l e R s m args below meth c cells slots Q D cl A nL ws lv pc (jk_V x :: st) := jk_if_gt C hdg ht (jr_lts jk_R0 hx) (fun h _ => kt h) (fun h _ => kf h)
theorem jr_icmp_le (C : jk_C p s m args meth c cc own nL jk_WA D cl tys A ret) (hdg : decode cc pc = .ok (.if_icmp .le off, 3)) (ht : (pc : Int) + off = (tgt : Int)) (hx : jk_R x) (hy : jk_R y) (kt : ¬ y < x → jk_J p l e R s m args below meth c cells slots Q D cl A nL ws lv tgt st) (kf : y < x → jk_J p l e R s m args below meth c cells slots Q D cl A nL ws lv (pc + 3) st) : jk_J p l e R s m args below meth c cells slots Q D cl A nL ws lv pc (jk_V y :: jk_V x :: st) := jk_icmp_le C hdg ht (jr_lts hy hx) (fun h _ => kt h) (fun h _ => kf h)
theorem jr_if_le (C : jk_C p s m args meth c cc own nL jk_WA D cl tys A ret) (hdg : decode cc pc = .ok (.ifCond .le off, 3)) (ht : (pc : Int) + off = (tgt : Int)) (hx : jk_R x) (kt : ¬ 0 < x → jk_J p l e R s m args below meth c cells slots Q D cl A nL ws lv tgt st) (kf : 0 < x → jk_J p l e R s m args below meth c cells slots Q D cl A nL ws lv (pc + 3) st) : jk_J p l e R s m args below meth c cells slots Q D cl A nL ws lv pc (jk_V x :: st) := jk_if_le C hdg ht (jr_lts jk_R0 hx) (fun h _ => kt h) (fun h _ => kf h)
theorem jr_icmp_eq (C : jk_C p s m args meth c cc own nL jk_WA D cl tys A ret) (hdg : decode cc pc = .ok (.if_icmp .eq off, 3)) (ht : (pc : Int) + off = (tgt : Int)) (hx : jk_R x) (hy : jk_R y) (kt : x = y → jk_J p l e R s m args below meth c cells slots Q D cl A nL ws lv tgt st) (kf : ¬ x = y → jk_J p l e R s m args below meth c cells slots Q D cl A nL ws lv (pc + 3) st) : jk_J p l e R s m args below meth c cells slots Q D cl A nL ws lv pc (jk_V y :: jk_V x :: st) := jk_icmp_eq C hdg ht (jr_eqs hx hy) (fun h _ => kt h) (fun h _ => kf h)
theorem jr_if_eq (C : jk_C p s m args meth c cc own nL jk_WA D cl tys A ret) (hdg : decode cc pc = .ok (.ifCond .eq off, 3)) (ht : (pc : Int) + off = (tgt : Int)) (hx : jk_R x) (kt : x = 0 → jk_J p l e R s m args below meth c cells slots Q D cl A nL ws lv tgt st) (kf : ¬ x = 0 → jk_J p l e R s m args below meth c cells slots Q D cl A nL ws lv (pc + 3) st) : jk_J p l e R s m args below meth c cells slots Q D cl A nL ws lv pc (jk_V x :: st) := jk_if_eq C hdg ht (jr_eqs hx jk_R0) (fun h _ => kt h) (fun h _ => kf h)
theorem jr_icmp_ne (C : jk_C p s m args meth c cc own nL jk_WA D cl tys A ret) (hdg : decode cc pc = .ok (.if_icmp .ne off, 3)) (ht : (pc : Int) + off = (tgt : Int)) (hx : jk_R x) (hy : jk_R y) (kt : ¬ x = y → jk_J p l e R s m args below meth c cells slots Q D cl A nL ws lv tgt st) (kf : x = y → jk_J p l e R s m args below meth c cells slots Q D cl A nL ws lv (pc + 3) st) : jk_J p l e R s m args below meth c cells slots Q D cl A nL ws lv pc (jk_V y :: jk_V x :: st) := jk_icmp_ne C hdg ht (jr_eqs hx hy) (fun h _ => kt h) (fun h _ => kf h)
theorem jr_if_ne (C : jk_C p s m args meth c cc own nL jk_WA D cl tys A ret) (hdg : decode cc pc = .ok (.ifCond .ne off, 3)) (ht : (pc : Int) + off = (tgt : Int)) (hx : jk_R x) (kt : ¬ x = 0 → jk_J p l e R s m args below meth c cells slots Q D cl A nL ws lv tgt st) (kf : x = 0 → jk_J p l e R s m args below meth c cells slots Q D cl A nL ws lv (pc + 3) st) : jk_J p l e R s m args below meth c cells slots Q D cl A nL ws lv pc (jk_V x :: st) := jk_if_ne C hdg ht (jr_eqs hx jk_R0) (fun h _ => kt h) (fun h _ => kf h)
theorem jr_astore (C : jk_C p s m args meth c cc own nL jk_WA D cl tys A ret) {i : Nat} {x : Nat} (hdg : decode cc pc = .ok (.astore i, 2)) (hn : i < nL) (hl' : (i, Value.ref x) :: lv.filter (fun q => !(q.1 == i) && !(q.1 + 1 == i && q.2.category == 2)) = lv') (kk : jk_J p l e R s m args below meth c cells slots Q D cl A nL ws lv' (pc + 2) st) : jk_J p l e R s m args below meth c cells slots Q D cl A nL ws lv pc (.ref x :: st) :=
  fun H locs ls hl hP hD hS => lv_astore C.1.1 C.1.2.1 hdg hl hn hl' (fun ls' h' => kk H locs ls' h' hP hD hS)
theorem jr_astore_n (C : jk_C p s m args meth c cc own nL jk_WA D cl tys A ret) {i : Fin 4} {x : Nat} (hdg : decode cc pc = .ok (.astore_n i, 1)) (hn : (i : Nat) < nL) (hl' : ((i : Nat), Value.ref x) :: lv.filter (fun q => !(q.1 == (i : Nat)) && !(q.1 + 1 == (i : Nat) && q.2.category == 2)) = lv') (kk : jk_J p l e R s m args below meth c cells slots Q D cl A nL ws lv' (pc + 1) st) : jk_J p l e R s m args below meth c cells slots Q D cl A nL ws lv pc (.ref x :: st) :=
  fun H locs ls hl hP hD hS => lv_astore_n C.1.1 C.1.2.1 hdg rfl hl hn hl' (fun ls' h' => kk H locs ls' h' hP hD hS)
theorem jr_astoreN (C : jk_C p s m args meth c cc own nL jk_WA D cl tys A ret) {i : Nat} (hdg : decode cc pc = .ok (.astore i, 2)) (hn : i < nL) (hl' : (i, Value.null) :: lv.filter (fun q => !(q.1 == i) && !(q.1 + 1 == i && q.2.category == 2)) = lv') (kk : jk_J p l e R s m args below meth c cells slots Q D cl A nL ws lv' (pc + 2) st) : jk_J p l e R s m args below meth c cells slots Q D cl A nL ws lv pc (.null :: st) :=
  fun H locs ls hl hP hD hS => lv_astoreN C.1.1 C.1.2.1 hdg hl hn hl' (fun ls' h' => kk H locs ls' h' hP hD hS)
theorem jr_astore_nN (C : jk_C p s m args meth c cc own nL jk_WA D cl tys A ret) {i : Fin 4} (hdg : decode cc pc = .ok (.astore_n i, 1)) (hn : (i : Nat) < nL) (hl' : ((i : Nat), Value.null) :: lv.filter (fun q => !(q.1 == (i : Nat)) && !(q.1 + 1 == (i : Nat) && q.2.category == 2)) = lv') (kk : jk_J p l e R s m args below meth c cells slots Q D cl A nL ws lv' (pc + 1) st) : jk_J p l e R s m args below meth c cells slots Q D cl A nL ws lv pc (.null :: st) :=
  fun H locs ls hl hP hD hS => lv_astore_nN C.1.1 C.1.2.1 hdg rfl hl hn hl' (fun ls' h' => kk H locs ls' h' hP hD hS)
theorem jr_aloadN (C : jk_C p s m args meth c cc own nL jk_WA D cl tys A ret) {i k : Nat} (hdg : decode cc pc = .ok (.aload i, 2)) (hk : lv[k]? = some (i, .null)) (kk : jk_J p l e R s m args below meth c cells slots Q D cl A nL ws lv (pc + 2) (.null :: st)) : jk_J p l e R s m args below meth c cells slots Q D cl A nL ws lv pc st :=
  fun H locs ls hl hP hD hS => lv_aloadN C.1.1 C.1.2.1 hdg (lv_at hl k hk) (kk H locs ls hl hP hD hS)
theorem jr_aload_nN (C : jk_C p s m args meth c cc own nL jk_WA D cl tys A ret) {i : Fin 4} {k : Nat} (hdg : decode cc pc = .ok (.aload_n i, 1)) (hk : lv[k]? = some ((i : Nat), .null)) (kk : jk_J p l e R s m args below meth c cells slots Q D cl A nL ws lv (pc + 1) (.null :: st)) : jk_J p l e R s m args below meth c cells slots Q D cl A nL ws lv pc st :=
  fun H locs ls hl hP hD hS => lv_aload_nN C.1.1 C.1.2.1 hdg rfl (lv_at hl k hk) (kk H locs ls hl hP hD hS)
theorem jr_dup_x1 (C : jk_C p s m args meth c cc own nL jk_WA D cl tys A ret) {v w : Value} (hdg : decode cc pc = .ok (.dup_x1, 1)) (hv : v.category = 1) (hw : w.category = 1) (kk : jk_J p l e R s m args below meth c cells slots Q D cl A nL ws lv (pc + 1) (v :: w :: v :: st)) : jk_J p l e R s m args below meth c cells slots Q D cl A nL ws lv pc (v :: w :: st) :=
  fun H locs ls hl hP hD hS => lv_dup_x1 C.1.1 C.1.2.1 hdg hv hw (kk H locs ls hl hP hD hS)
theorem jr_null (C : jk_C p s m args meth c cc own nL jk_WA D cl tys A ret) (hdg : decode cc pc = .ok (.aconst_null, 1)) (kk : jk_J p l e R s m args below meth c cells slots Q D cl A nL ws lv (pc + 1) (.null :: st)) : jk_J p l e R s m args below meth c cells slots Q D cl A nL ws lv pc st :=
  fun H locs ls hl hP hD hS => lv_null C.1.1 C.1.2.1 hdg (kk H locs ls hl hP hD hS)
theorem jr_ifnonnull (C : jk_C p s m args meth c cc own nL jk_WA D cl tys A ret) (hdg : decode cc pc = .ok (.ifnonnull off, 3)) (ht : (pc : Int) + off = (tgt : Int)) (kk : jk_J p l e R s m args below meth c cells slots Q D cl A nL ws lv tgt st) : jk_J p l e R s m args below meth c cells slots Q D cl A nL ws lv pc (.ref a :: st) :=
  fun H locs ls hl hP hD hS => lv_ifnonnull C.1.1 C.1.2.1 hdg ht (kk H locs ls hl hP hD hS)
theorem jr_ifnull (C : jk_C p s m args meth c cc own nL jk_WA D cl tys A ret) (hdg : decode cc pc = .ok (.ifnull off, 3)) (kk : jk_J p l e R s m args below meth c cells slots Q D cl A nL ws lv (pc + 3) st) : jk_J p l e R s m args below meth c cells slots Q D cl A nL ws lv pc (.ref a :: st) :=
  fun H locs ls hl hP hD hS => lv_ifnull C.1.1 C.1.2.1 hdg (kk H locs ls hl hP hD hS)
theorem jr_ifnullN (C : jk_C p s m args meth c cc own nL jk_WA D cl tys A ret) (hdg : decode cc pc = .ok (.ifnull off, 3)) (ht : (pc : Int) + off = (tgt : Int)) (kk : jk_J p l e R s m args below meth c cells slots Q D cl A nL ws lv tgt st) : jk_J p l e R s m args below meth c cells slots Q D cl A nL ws lv pc (.null :: st) :=
  fun H locs ls hl hP hD hS => lv_ifnullN C.1.1 C.1.2.1 hdg ht (kk H locs ls hl hP hD hS)
theorem jr_ifnonnullN (C : jk_C p s m args meth c cc own nL jk_WA D cl tys A ret) (hdg : decode cc pc = .ok (.ifnonnull off, 3)) (kk : jk_J p l e R s m args below meth c cells slots Q D cl A nL ws lv (pc + 3) st) : jk_J p l e R s m args below meth c cells slots Q D cl A nL ws lv pc (.null :: st) :=
  fun H locs ls hl hP hD hS => lv_ifnonnullN C.1.1 C.1.2.1 hdg (kk H locs ls hl hP hD hS)
theorem jr_castN (C : jk_C p s m args meth c cc own nL jk_WA D cl tys A ret) {index : Nat} (hdg : decode cc pc = .ok (.checkcast index, 3)) (kk : jk_J p l e R s m args below meth c cells slots Q D cl A nL ws lv (pc + 3) (.null :: st)) : jk_J p l e R s m args below meth c cells slots Q D cl A nL ws lv pc (.null :: st) :=
  fun H locs ls hl hP hD hS => lv_castN C.1.1 C.1.2.1 hdg (kk H locs ls hl hP hD hS)
theorem jr_ineg (C : jk_C p s m args meth c cc own nL jk_WA D cl tys A ret) (hdg : decode cc pc = .ok (.ineg, 1)) (kk : jk_J p l e R s m args below meth c cells slots Q D cl A nL ws lv (pc + 1) (jk_V (-x) :: st)) : jk_J p l e R s m args below meth c cells slots Q D cl A nL ws lv pc (jk_V x :: st) :=
  fun H locs ls hl hP hD hS => lv_ineg C.1.1 C.1.2.1 hdg (by rw [show -jk_I x = jk_I (-x) from (Int32.ofInt_neg x).symm]; exact kk H locs ls hl hP hD hS)
theorem jr_irem (C : jk_C p s m args meth c cc own nL jk_WA D cl tys A ret) (hx : 0 ≤ x ∧ x < 2147483648) (hy : 0 < y ∧ y < 2147483648) (hdg : decode cc pc = .ok (.irem, 1)) (kk : jk_J p l e R s m args below meth c cells slots Q D cl A nL ws lv (pc + 1) (jk_V (x % y) :: st)) : jk_J p l e R s m args below meth c cells slots Q D cl A nL ws lv pc (jk_V y :: jk_V x :: st) :=
  fun H locs ls hl hP hD hS => jk_irem C (α := Unit) (a := some ()) (o := ()) hdg (if_pos ⟨hx, hy⟩) (fun _ => kk) H locs ls hl hP hD hS
theorem jr_idiv (C : jk_C p s m args meth c cc own nL jk_WA D cl tys A ret) (hx : 0 ≤ x ∧ x < 2147483648) (hy : 0 < y ∧ y < 2147483648) (hdg : decode cc pc = .ok (.idiv, 1)) (kk : jk_J p l e R s m args below meth c cells slots Q D cl A nL ws lv (pc + 1) (jk_V (x / y) :: st)) : jk_J p l e R s m args below meth c cells slots Q D cl A nL ws lv pc (jk_V y :: jk_V x :: st) :=
  fun H locs ls hl hP hD hS => jk_idiv C (α := Unit) (a := some ()) (o := ()) hdg (if_pos ⟨hx, hy⟩) (fun _ => kk) H locs ls hl hP hD hS
theorem jr_acmp_eq (C : jk_C p s m args meth c cc own nL jk_WA D cl tys A ret) {rx ry : Option Nat} (hdg : decode cc pc = .ok (.if_acmp .eq off, 3)) (ht : (pc : Int) + off = (tgt : Int)) (kt : rx = ry → jk_J p l e R s m args below meth c cells slots Q D cl A nL ws lv tgt st) (kf : ¬ rx = ry → jk_J p l e R s m args below meth c cells slots Q D cl A nL ws lv (pc + 3) st) : jk_J p l e R s m args below meth c cells slots Q D cl A nL ws lv pc (va_rf ry :: va_rf rx :: st) :=
  fun H locs ls hl hP hD hS => lv_acmp_eq C.1.1 C.1.2.1 hdg ht (fun q => kt q H locs ls hl hP hD hS) (fun q => kf q H locs ls hl hP hD hS)
theorem jr_acmp_ne (C : jk_C p s m args meth c cc own nL jk_WA D cl tys A ret) {rx ry : Option Nat} (hdg : decode cc pc = .ok (.if_acmp .ne off, 3)) (ht : (pc : Int) + off = (tgt : Int)) (kt : ¬ rx = ry → jk_J p l e R s m args below meth c cells slots Q D cl A nL ws lv tgt st) (kf : rx = ry → jk_J p l e R s m args below meth c cells slots Q D cl A nL ws lv (pc + 3) st) : jk_J p l e R s m args below meth c cells slots Q D cl A nL ws lv pc (va_rf ry :: va_rf rx :: st) :=
  fun H locs ls hl hP hD hS => lv_acmp_ne C.1.1 C.1.2.1 hdg ht (fun q => kt q H locs ls hl hP hD hS) (fun q => kf q H locs ls hl hP hD hS)
theorem jr_castS (C : jk_C p s m args meth c cc own nL jk_WA D cl tys A ret) {M : jm_M} (hws : jm_lk ws = M) {q : vw_C} {ci index : Nat} {fs : List Value} (hq : M a = some (.inr (ci, fs))) (hc : cl[ci]? = some q) (hlink : Cond.classLink own index q.1 ∈ jk_WA) (hdg : decode cc pc = .ok (.checkcast index, 3)) (kk : jk_J p l e R s m args below meth c cells slots Q D cl A nL ws lv (pc + 3) (.ref a :: st)) : jk_J p l e R s m args below meth c cells slots Q D cl A nL ws lv pc (.ref a :: st) := by
  obtain ⟨q0, h0⟩ := jm_lk_mem (by rw [hws]; exact hq : jm_lk ws a = _)
  exact fun H locs ls hl hP hD hS => va_castS C.1.1 C.1.2.1 C.1.2.2.2.1 (C.1.2.2.2.2 _ hlink) (C.2.1.1 ci q hc).2 (va_recv C.2.1 hP hc h0) hdg (kk H locs ls hl hP hD hS)
/-- the judgement at an equal place -/
theorem jr_at {st' : List Value} {pc' : Nat} (h1 : pc' = pc) (h2 : st' = st) (kk : jk_J p l e R s m args below meth c cells slots Q D cl A nL ws lv pc' st') : jk_J p l e R s m args below meth c cells slots Q D cl A nL ws lv pc st := by
  subst h1; subst h2; exact kk
end JR
/-! apart by kind -/
def jm_kd : va_E → Nat
  | .inr (ci, _) => ci
  | .inl (_, _, .inl _) => 1000
  | .inl (_, _, .inr (.inl _)) => 1001
  | .inl (_, _, .inr (.inr (.inl _))) => 1002
  | .inl (_, _, .inr (.inr (.inr (.inl _)))) => 1003
  | .inl (_, _, .inr (.inr (.inr (.inr _)))) => 1004
theorem jm_nek {M : jm_M} {a b : Nat} {e1 e2 : va_E} (h1 : M a = some e1) (h2 : M b = some e2) (h : Nat.beq (jm_kd e1) (jm_kd e2) = false) : a ≠ b := by
  intro z
  subst z
  rw [h1] at h2
  rw [← Option.some.inj h2, Nat.beq_refl] at h
  cases h
theorem jm_nen {M : jm_M} {a b : Nat} {e : va_E} (h1 : M a = some e) (h2 : M b = none) : a ≠ b := by
  intro z
  subst z
  rw [h1] at h2
  cases h2
theorem jm_keep {M M' : jm_M} {a b : Nat} {e e2 : va_E} (hM : M' = jm_up M a e) (hb : M b = some e2) (hne : b ≠ a) : M' b = some e2 := by
  subst hM
  rw [jm_up_n hne]
  exact hb
theorem jm_this {M M' : jm_M} {a : Nat} {e : va_E} (hM : M' = jm_up M a e) : M' a = some e := by
  subst hM
  exact jm_up_s
