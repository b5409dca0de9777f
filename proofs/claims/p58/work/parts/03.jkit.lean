/-! numbers: a Java int written as an integer -/
def jk_I (x : Int) : Int32 := Int32.ofInt x
abbrev jk_R (x : Int) : Prop := -2147483648 ≤ x ∧ x < 2147483648
theorem jk_toInt {x : Int} (h : jk_R x) : (jk_I x).toInt = x := Int32.toInt_ofInt_of_le (by have := h.1; omega) (by have := h.2; omega)
theorem jk_of (v : Int32) : jk_I v.toInt = v := Int32.ofInt_toInt v
theorem jk_Rof (v : Int32) : jk_R v.toInt := ⟨by have := Int32.le_toInt v; omega, by have := Int32.toInt_lt v; omega⟩
theorem jk_add (x y : Int) : jk_I x + jk_I y = jk_I (x + y) := (Int32.ofInt_add x y).symm
theorem jk_sub (x y : Int) : jk_I x - jk_I y = jk_I (x - y) := (Int32.ofInt_sub x y).symm
theorem jk_mul (x y : Int) : jk_I x * jk_I y = jk_I (x * y) := (Int32.ofInt_mul x y).symm
theorem jk_lt {x y : Int} (hx : jk_R x) (hy : jk_R y) : jk_I x < jk_I y ↔ x < y := by
  rw [Int32.lt_iff_toInt_lt, jk_toInt hx, jk_toInt hy]
theorem jk_le {x y : Int} (hx : jk_R x) (hy : jk_R y) : jk_I x ≤ jk_I y ↔ x ≤ y := by
  rw [Int32.le_iff_toInt_le, jk_toInt hx, jk_toInt hy]
theorem jk_eq {x y : Int} (hx : jk_R x) (hy : jk_R y) : jk_I x = jk_I y ↔ x = y := by
  rw [← Int32.toInt_inj, jk_toInt hx, jk_toInt hy]
theorem jk_div {x y : Int} (hx : 0 ≤ x ∧ x < 2147483648) (hy : 0 < y ∧ y < 2147483648) : jk_I x / jk_I y = jk_I (x / y) := by
  have h1 : 0 ≤ x / y := Int.ediv_nonneg hx.1 (by omega)
  have h2 : x / y ≤ x := Int.ediv_le_self _ hx.1
  rw [← Int32.toInt_inj, Int32.toInt_div, jk_toInt ⟨by omega, hx.2⟩, jk_toInt ⟨by omega, hy.2⟩, jk_toInt ⟨by omega, by omega⟩, Int.tdiv_eq_ediv_of_nonneg hx.1]
  exact Int.bmod_eq_of_le (by omega) (by omega)
theorem jk_rem {x y : Int} (hx : 0 ≤ x ∧ x < 2147483648) (hy : 0 < y ∧ y < 2147483648) : jk_I x - jk_I x / jk_I y * jk_I y = jk_I (x % y) := by
  rw [jk_div hx hy, jk_mul, jk_sub, Int.mul_comm, ← Int.emod_def]
theorem jk_ofNat (n : Nat) : Int32.ofNat n = jk_I (n : Int) := rfl
theorem jk_in {i : Int} {n : Nat} (h0 : 0 ≤ i) (h : i < n) (hn : n < 2147483648) : vp_in (jk_I i) n := by
  rw [vp_in_iff, jk_toInt ⟨by omega, by omega⟩]
  exact ⟨h0, h⟩
theorem jk_clamp {i : Int} (h0 : 0 ≤ i) (h : i < 2147483648) : (jk_I i).toNatClampNeg = i.toNat := by
  show (jk_I i).toInt.toNat = _
  rw [jk_toInt ⟨by omega, h⟩]
def jk_and (x y : Int) : Int := (jk_I x &&& jk_I y).toInt
def jk_or (x y : Int) : Int := (jk_I x ||| jk_I y).toInt
def jk_shl (x y : Int) : Int := (jk_I x <<< (jk_I y &&& 31)).toInt
def jk_shr (x y : Int) : Int := (jk_I x >>> (jk_I y &&& 31)).toInt
/-! the words of the translation: what a branch, an index, a division asks first -/
def jk_lts {α : Type} (x y : Int) (a b : Option α) : Option α := if jk_R x ∧ jk_R y then (if x < y then a else b) else none
def jk_eqs {α : Type} (x y : Int) (a b : Option α) : Option α := if jk_R x ∧ jk_R y then (if x = y then a else b) else none
def jk_ix {α : Type} (n i : Int) (a : Option α) : Option α := if 0 ≤ i ∧ i < n then a else none
def jk_dv {α : Type} (x y : Int) (a : Option α) : Option α := if (0 ≤ x ∧ x < 2147483648) ∧ (0 < y ∧ y < 2147483648) then a else none
def jk_bo {α : Type} (x : Int) (a : Option α) : Option α := if x = 0 ∨ x = 1 then a else none
/-- a number's own place among the ints -/
def jk_rg {α : Type} (x : Int) (a : Option α) : Option α := if jk_R x then a else none
def jk_up (f : Int → Int) (i v : Int) : Int → Int := fun j => if j = i then v else f j
theorem jk_lts_h {α : Type} {x y : Int} {a b : Option α} {o : α} (h : jk_lts x y a b = some o) : (jk_R x ∧ jk_R y) ∧ ((x < y ∧ a = some o) ∨ (¬ x < y ∧ b = some o)) := by
  unfold jk_lts at h
  split at h
  · rename_i hr
    refine ⟨hr, ?_⟩
    split at h
    · exact Or.inl ⟨by assumption, h⟩
    · exact Or.inr ⟨by assumption, h⟩
  · cases h
theorem jk_eqs_h {α : Type} {x y : Int} {a b : Option α} {o : α} (h : jk_eqs x y a b = some o) : (jk_R x ∧ jk_R y) ∧ ((x = y ∧ a = some o) ∨ (¬ x = y ∧ b = some o)) := by
  unfold jk_eqs at h
  split at h
  · rename_i hr
    refine ⟨hr, ?_⟩
    split at h
    · exact Or.inl ⟨by assumption, h⟩
    · exact Or.inr ⟨by assumption, h⟩
  · cases h
theorem jk_ix_h {α : Type} {n i : Int} {a : Option α} {o : α} (h : jk_ix n i a = some o) : (0 ≤ i ∧ i < n) ∧ a = some o := by
  unfold jk_ix at h
  split at h
  · exact ⟨by assumption, h⟩
  · cases h
theorem jk_dv_h {α : Type} {x y : Int} {a : Option α} {o : α} (h : jk_dv x y a = some o) : ((0 ≤ x ∧ x < 2147483648) ∧ (0 < y ∧ y < 2147483648)) ∧ a = some o := by
  unfold jk_dv at h
  split at h
  · exact ⟨by assumption, h⟩
  · cases h
theorem jk_bo_h {α : Type} {x : Int} {a : Option α} {o : α} (h : jk_bo x a = some o) : (x = 0 ∨ x = 1) ∧ a = some o := by
  unfold jk_bo at h
  split at h
  · exact ⟨by assumption, h⟩
  · cases h
theorem jk_rg_h {α : Type} {x : Int} {a : Option α} {o : α} (h : jk_rg x a = some o) : jk_R x ∧ a = some o := by
  unfold jk_rg at h
  split at h
  · exact ⟨by assumption, h⟩
  · cases h
theorem jk_bind_h {α β : Type} {x : Option α} {f : α → Option β} {o : β} (h : x.bind f = some o) : ∃ q, x = some q ∧ f q = some o := Option.bind_eq_some_iff.mp h
/-! cells -/
abbrev jk_V (x : Int) : Value := .int (jk_I x)
def jk_W (cI : ClassId) (n : Nat) (f : Int → Int) : va_E := .inl (cI, n, .inl (fun j : Nat => jk_I (f (j : Int))))
theorem jk_W_up {cI : ClassId} {n : Nat} {f : Int → Int} {i v : Int} (h0 : 0 ≤ i) (hi : i < 2147483648) : (.inl (cI, n, .inl (upd (fun j : Nat => jk_I (f (j : Int))) (jk_I i).toNatClampNeg (jk_I v))) : va_E) = jk_W cI n (jk_up f i v) := by
  unfold jk_W
  have e : upd (fun j : Nat => jk_I (f (j : Int))) (jk_I i).toNatClampNeg (jk_I v) = fun j : Nat => jk_I (jk_up f i v (j : Int)) := by
    funext j
    rw [jk_clamp h0 hi]
    unfold upd jk_up
    by_cases hj : j = i.toNat
    · rw [if_pos hj, if_pos (by omega)]
    · rw [if_neg hj, if_neg (by omega)]
  rw [e]
/-! the judgement: at pc, with locals lv, operands st and the world ws -/
def jk_J (p : Program) (l : Launch) (e : Env) (R : Room) (s : State) (m : MethodId) (args : Array Value) (below : List Frame) (meth : Method) (c : Code) (cells slots : Nat) (Q : State → Prop) (D : va_G) (cl : List vw_C) (A : Nat → Prop) (nL : Nat) (ws : va_W) (lv : List (Nat × Value)) (pc : Nat) (st : List Value) : Prop :=
  ∀ (H : Heap) (locs : List Loc) (ls : Array Slot), lv_has ls nL lv → va_P D cl ws H → va_D A ws → va_S A s.heap H locs → W p l e R s m args below meth c H locs cells slots Q (F0 m pc ls st)
/-- what stays through a body -/
def jk_C (p : Program) (s : State) (m : MethodId) (args : Array Value) (meth : Method) (c : Code) (cc : ByteArray) (own : String) (nL : Nat) (Ts : List Cond) (D : va_G) (cl : List vw_C) (tys : List (ClassId × FieldType)) (A : Nat → Prop) (ret : Option FieldType) : Prop :=
  CallFix p m c cc nL s args Ts own ∧ va_K D cl tys s ∧ (∀ q, s.heap.size ≤ q → A q) ∧ meth.sig.returnType = ret ∧ meth.locks = false
section JK
variable {p : Program} {l : Launch} {e : Env} {R : Room} {s : State} {m : MethodId} {args : Array Value} {below : List Frame} {meth : Method} {c : Code} {cells slots : Nat} {Q : State → Prop} {D : va_G} {cl : List vw_C} {A : Nat → Prop} {nL : Nat} {ws ws' : va_W} {lv lv' : List (Nat × Value)} {pc : Nat} {st : List Value}
variable {cc : ByteArray} {own : String} {Ts : List Cond} {tys : List (ClassId × FieldType)} {ret : Option FieldType}
theorem jk_iload (C : jk_C p s m args meth c cc own nL Ts D cl tys A ret) {i k : Nat} {x : Int32} (hdg : decode cc pc = .ok (.iload i, 2)) (hk : lv[k]? = some (i, .int x)) (kk : jk_J p l e R s m args below meth c cells slots Q D cl A nL ws lv (pc + 2) (.int x :: st)) : jk_J p l e R s m args below meth c cells slots Q D cl A nL ws lv pc st :=
  fun H locs ls hl hP hD hS => lv_iload C.1.1 C.1.2.1 hdg (lv_at hl k hk) (kk H locs ls hl hP hD hS)
theorem jk_iload_n (C : jk_C p s m args meth c cc own nL Ts D cl tys A ret) {i : Fin 4} {k : Nat} {x : Int32} (hdg : decode cc pc = .ok (.iload_n i, 1)) (hk : lv[k]? = some ((i : Nat), .int x)) (kk : jk_J p l e R s m args below meth c cells slots Q D cl A nL ws lv (pc + 1) (.int x :: st)) : jk_J p l e R s m args below meth c cells slots Q D cl A nL ws lv pc st :=
  fun H locs ls hl hP hD hS => lv_iload_n C.1.1 C.1.2.1 hdg rfl (lv_at hl k hk) (kk H locs ls hl hP hD hS)
theorem jk_aload (C : jk_C p s m args meth c cc own nL Ts D cl tys A ret) {i k : Nat} {x : Nat} (hdg : decode cc pc = .ok (.aload i, 2)) (hk : lv[k]? = some (i, .ref x)) (kk : jk_J p l e R s m args below meth c cells slots Q D cl A nL ws lv (pc + 2) (.ref x :: st)) : jk_J p l e R s m args below meth c cells slots Q D cl A nL ws lv pc st :=
  fun H locs ls hl hP hD hS => lv_aload C.1.1 C.1.2.1 hdg (lv_at hl k hk) (kk H locs ls hl hP hD hS)
theorem jk_aload_n (C : jk_C p s m args meth c cc own nL Ts D cl tys A ret) {i : Fin 4} {k : Nat} {x : Nat} (hdg : decode cc pc = .ok (.aload_n i, 1)) (hk : lv[k]? = some ((i : Nat), .ref x)) (kk : jk_J p l e R s m args below meth c cells slots Q D cl A nL ws lv (pc + 1) (.ref x :: st)) : jk_J p l e R s m args below meth c cells slots Q D cl A nL ws lv pc st :=
  fun H locs ls hl hP hD hS => lv_aload_n C.1.1 C.1.2.1 hdg rfl (lv_at hl k hk) (kk H locs ls hl hP hD hS)
theorem jk_istore (C : jk_C p s m args meth c cc own nL Ts D cl tys A ret) {i : Nat} {x : Int32} (hdg : decode cc pc = .ok (.istore i, 2)) (hn : i < nL) (hl' : (i, Value.int x) :: lv.filter (fun q => !(q.1 == i) && !(q.1 + 1 == i && q.2.category == 2)) = lv') (kk : jk_J p l e R s m args below meth c cells slots Q D cl A nL ws lv' (pc + 2) st) : jk_J p l e R s m args below meth c cells slots Q D cl A nL ws lv pc (.int x :: st) :=
  fun H locs ls hl hP hD hS => lv_istore C.1.1 C.1.2.1 hdg hl hn hl' (fun ls' h' => kk H locs ls' h' hP hD hS)
theorem jk_istore_n (C : jk_C p s m args meth c cc own nL Ts D cl tys A ret) {i : Fin 4} {x : Int32} (hdg : decode cc pc = .ok (.istore_n i, 1)) (hn : (i : Nat) < nL) (hl' : ((i : Nat), Value.int x) :: lv.filter (fun q => !(q.1 == (i : Nat)) && !(q.1 + 1 == (i : Nat) && q.2.category == 2)) = lv') (kk : jk_J p l e R s m args below meth c cells slots Q D cl A nL ws lv' (pc + 1) st) : jk_J p l e R s m args below meth c cells slots Q D cl A nL ws lv pc (.int x :: st) :=
  fun H locs ls hl hP hD hS => lv_istore_n C.1.1 C.1.2.1 hdg rfl hl hn hl' (fun ls' h' => kk H locs ls' h' hP hD hS)
theorem jk_iinc (C : jk_C p s m args meth c cc own nL Ts D cl tys A ret) {i k : Nat} {n x : Int} (hdg : decode cc pc = .ok (.iinc i n, 3)) (hk : lv[k]? = some (i, jk_V x)) (hn : i < nL) (hl' : (i, jk_V (x + n)) :: lv.filter (fun q => !(q.1 == i) && !(q.1 + 1 == i && q.2.category == 2)) = lv') (kk : jk_J p l e R s m args below meth c cells slots Q D cl A nL ws lv' (pc + 3) st) : jk_J p l e R s m args below meth c cells slots Q D cl A nL ws lv pc st :=
  fun H locs ls hl hP hD hS => lv_iinc (v := jk_I (x + n)) C.1.1 C.1.2.1 hdg hl hk (jk_add x n) hn hl' (fun ls' h' => kk H locs ls' h' hP hD hS)
theorem jk_iconst (C : jk_C p s m args meth c cc own nL Ts D cl tys A ret) {n : Int} (hdg : decode cc pc = .ok (.iconst n, 1)) (kk : jk_J p l e R s m args below meth c cells slots Q D cl A nL ws lv (pc + 1) (jk_V n :: st)) : jk_J p l e R s m args below meth c cells slots Q D cl A nL ws lv pc st :=
  fun H locs ls hl hP hD hS => lv_iconst C.1.1 C.1.2.1 hdg rfl (kk H locs ls hl hP hD hS)
theorem jk_bipush (C : jk_C p s m args meth c cc own nL Ts D cl tys A ret) {n : Int} (hdg : decode cc pc = .ok (.bipush n, 2)) (hv : (Int8.ofInt n).toInt32 = jk_I n) (kk : jk_J p l e R s m args below meth c cells slots Q D cl A nL ws lv (pc + 2) (jk_V n :: st)) : jk_J p l e R s m args below meth c cells slots Q D cl A nL ws lv pc st :=
  fun H locs ls hl hP hD hS => lv_bipush C.1.1 C.1.2.1 hdg hv (kk H locs ls hl hP hD hS)
theorem jk_sipush (C : jk_C p s m args meth c cc own nL Ts D cl tys A ret) {n : Int} (hdg : decode cc pc = .ok (.sipush n, 3)) (hv : (Int16.ofInt n).toInt32 = jk_I n) (kk : jk_J p l e R s m args below meth c cells slots Q D cl A nL ws lv (pc + 3) (jk_V n :: st)) : jk_J p l e R s m args below meth c cells slots Q D cl A nL ws lv pc st :=
  fun H locs ls hl hP hD hS => lv_sipush C.1.1 C.1.2.1 hdg hv (kk H locs ls hl hP hD hS)
theorem jk_iadd (C : jk_C p s m args meth c cc own nL Ts D cl tys A ret) {x y : Int} (hdg : decode cc pc = .ok (.iadd, 1)) (kk : jk_J p l e R s m args below meth c cells slots Q D cl A nL ws lv (pc + 1) (jk_V (x + y) :: st)) : jk_J p l e R s m args below meth c cells slots Q D cl A nL ws lv pc (jk_V y :: jk_V x :: st) :=
  fun H locs ls hl hP hD hS => lv_iadd C.1.1 C.1.2.1 hdg ((jk_add x y).symm ▸ kk H locs ls hl hP hD hS)
theorem jk_isub (C : jk_C p s m args meth c cc own nL Ts D cl tys A ret) {x y : Int} (hdg : decode cc pc = .ok (.isub, 1)) (kk : jk_J p l e R s m args below meth c cells slots Q D cl A nL ws lv (pc + 1) (jk_V (x - y) :: st)) : jk_J p l e R s m args below meth c cells slots Q D cl A nL ws lv pc (jk_V y :: jk_V x :: st) :=
  fun H locs ls hl hP hD hS => lv_isub C.1.1 C.1.2.1 hdg ((jk_sub x y).symm ▸ kk H locs ls hl hP hD hS)
theorem jk_imul (C : jk_C p s m args meth c cc own nL Ts D cl tys A ret) {x y : Int} (hdg : decode cc pc = .ok (.imul, 1)) (kk : jk_J p l e R s m args below meth c cells slots Q D cl A nL ws lv (pc + 1) (jk_V (x * y) :: st)) : jk_J p l e R s m args below meth c cells slots Q D cl A nL ws lv pc (jk_V y :: jk_V x :: st) :=
  fun H locs ls hl hP hD hS => lv_imul C.1.1 C.1.2.1 hdg ((jk_mul x y).symm ▸ kk H locs ls hl hP hD hS)
end JK
section JK2
variable {p : Program} {l : Launch} {e : Env} {R : Room} {s : State} {m : MethodId} {args : Array Value} {below : List Frame} {meth : Method} {c : Code} {cells slots : Nat} {Q : State → Prop} {D : va_G} {cl : List vw_C} {A : Nat → Prop} {nL : Nat} {ws ws' : va_W} {lv lv' : List (Nat × Value)} {pc : Nat} {st : List Value}
variable {cc : ByteArray} {own : String} {Ts : List Cond} {tys : List (ClassId × FieldType)} {ret : Option FieldType}
theorem jk_idiv (C : jk_C p s m args meth c cc own nL Ts D cl tys A ret) {α : Type} {x y : Int} {a : Option α} {o : α} (hdg : decode cc pc = .ok (.idiv, 1)) (hf : jk_dv x y a = some o) (kk : a = some o → jk_J p l e R s m args below meth c cells slots Q D cl A nL ws lv (pc + 1) (jk_V (x / y) :: st)) : jk_J p l e R s m args below meth c cells slots Q D cl A nL ws lv pc (jk_V y :: jk_V x :: st) := by
  obtain ⟨h, ha⟩ := jk_dv_h hf
  have h1 : ¬ jk_I y = 0 := fun q => by
    have := (jk_eq ⟨by omega, h.2.2⟩ (y := 0) ⟨by omega, by omega⟩).mp q
    omega
  intro H locs ls hl hP hD hS
  refine lv_idiv C.1.1 C.1.2.1 hdg h1 ?_
  rw [jk_div h.1 h.2]
  exact kk ha H locs ls hl hP hD hS
theorem jk_irem (C : jk_C p s m args meth c cc own nL Ts D cl tys A ret) {α : Type} {x y : Int} {a : Option α} {o : α} (hdg : decode cc pc = .ok (.irem, 1)) (hf : jk_dv x y a = some o) (kk : a = some o → jk_J p l e R s m args below meth c cells slots Q D cl A nL ws lv (pc + 1) (jk_V (x % y) :: st)) : jk_J p l e R s m args below meth c cells slots Q D cl A nL ws lv pc (jk_V y :: jk_V x :: st) := by
  obtain ⟨h, ha⟩ := jk_dv_h hf
  have h1 : ¬ jk_I y = 0 := fun q => by
    have := (jk_eq ⟨by omega, h.2.2⟩ (y := 0) ⟨by omega, by omega⟩).mp q
    omega
  intro H locs ls hl hP hD hS
  refine lv_irem C.1.1 C.1.2.1 hdg h1 ?_
  rw [jk_rem h.1 h.2]
  exact kk ha H locs ls hl hP hD hS
theorem jk_iand (C : jk_C p s m args meth c cc own nL Ts D cl tys A ret) {x y : Int} (hdg : decode cc pc = .ok (.iand, 1)) (kk : jk_J p l e R s m args below meth c cells slots Q D cl A nL ws lv (pc + 1) (jk_V (jk_and x y) :: st)) : jk_J p l e R s m args below meth c cells slots Q D cl A nL ws lv pc (jk_V y :: jk_V x :: st) :=
  fun H locs ls hl hP hD hS => lv_iand C.1.1 C.1.2.1 hdg (jk_of (jk_I x &&& jk_I y) ▸ kk H locs ls hl hP hD hS)
theorem jk_ior (C : jk_C p s m args meth c cc own nL Ts D cl tys A ret) {x y : Int} (hdg : decode cc pc = .ok (.ior, 1)) (kk : jk_J p l e R s m args below meth c cells slots Q D cl A nL ws lv (pc + 1) (jk_V (jk_or x y) :: st)) : jk_J p l e R s m args below meth c cells slots Q D cl A nL ws lv pc (jk_V y :: jk_V x :: st) :=
  fun H locs ls hl hP hD hS => lv_ior C.1.1 C.1.2.1 hdg (jk_of (jk_I x ||| jk_I y) ▸ kk H locs ls hl hP hD hS)
theorem jk_ishl (C : jk_C p s m args meth c cc own nL Ts D cl tys A ret) {x y : Int} (hdg : decode cc pc = .ok (.ishl, 1)) (kk : jk_J p l e R s m args below meth c cells slots Q D cl A nL ws lv (pc + 1) (jk_V (jk_shl x y) :: st)) : jk_J p l e R s m args below meth c cells slots Q D cl A nL ws lv pc (jk_V y :: jk_V x :: st) :=
  fun H locs ls hl hP hD hS => lv_ishl C.1.1 C.1.2.1 hdg (jk_of (jk_I x <<< (jk_I y &&& 31)) ▸ kk H locs ls hl hP hD hS)
theorem jk_ishr (C : jk_C p s m args meth c cc own nL Ts D cl tys A ret) {x y : Int} (hdg : decode cc pc = .ok (.ishr, 1)) (kk : jk_J p l e R s m args below meth c cells slots Q D cl A nL ws lv (pc + 1) (jk_V (jk_shr x y) :: st)) : jk_J p l e R s m args below meth c cells slots Q D cl A nL ws lv pc (jk_V y :: jk_V x :: st) :=
  fun H locs ls hl hP hD hS => lv_ishr C.1.1 C.1.2.1 hdg (jk_of (jk_I x >>> (jk_I y &&& 31)) ▸ kk H locs ls hl hP hD hS)
theorem jk_dup (C : jk_C p s m args meth c cc own nL Ts D cl tys A ret) {v : Value} (hdg : decode cc pc = .ok (.dup, 1)) (hv : v.category = 1) (kk : jk_J p l e R s m args below meth c cells slots Q D cl A nL ws lv (pc + 1) (v :: v :: st)) : jk_J p l e R s m args below meth c cells slots Q D cl A nL ws lv pc (v :: st) :=
  fun H locs ls hl hP hD hS => lv_dup C.1.1 C.1.2.1 hdg hv (kk H locs ls hl hP hD hS)
theorem jk_dup2 (C : jk_C p s m args meth c cc own nL Ts D cl tys A ret) {v w : Value} (hdg : decode cc pc = .ok (.dup2, 1)) (hv : v.category = 1) (hw : w.category = 1) (kk : jk_J p l e R s m args below meth c cells slots Q D cl A nL ws lv (pc + 1) (v :: w :: v :: w :: st)) : jk_J p l e R s m args below meth c cells slots Q D cl A nL ws lv pc (v :: w :: st) :=
  fun H locs ls hl hP hD hS => lv_dup2_11 C.1.1 C.1.2.1 hdg hv hw (kk H locs ls hl hP hD hS)
theorem jk_pop (C : jk_C p s m args meth c cc own nL Ts D cl tys A ret) {v : Value} (hdg : decode cc pc = .ok (.pop, 1)) (hv : v.category = 1) (kk : jk_J p l e R s m args below meth c cells slots Q D cl A nL ws lv (pc + 1) st) : jk_J p l e R s m args below meth c cells slots Q D cl A nL ws lv pc (v :: st) :=
  fun H locs ls hl hP hD hS => lv_pop C.1.1 C.1.2.1 hdg hv (kk H locs ls hl hP hD hS)
theorem jk_goto (C : jk_C p s m args meth c cc own nL Ts D cl tys A ret) {off : Int} {tgt : Nat} (hdg : decode cc pc = .ok (.goto off, 3)) (ht : (pc : Int) + off = (tgt : Int)) (kk : jk_J p l e R s m args below meth c cells slots Q D cl A nL ws lv tgt st) : jk_J p l e R s m args below meth c cells slots Q D cl A nL ws lv pc st :=
  fun H locs ls hl hP hD hS => lv_goto C.1.1 C.1.2.1 hdg ht (kk H locs ls hl hP hD hS)
/-- fewer locals, in another order -/
theorem jk_lv (ks : List Nat) (hl' : lv_pick lv ks = lv') (kk : jk_J p l e R s m args below meth c cells slots Q D cl A nL ws lv' pc st) : jk_J p l e R s m args below meth c cells slots Q D cl A nL ws lv pc st :=
  fun H locs ls hl hP hD hS => kk H locs ls (lv_sub hl ks hl') hP hD hS
theorem jk_icmp_lt (C : jk_C p s m args meth c cc own nL Ts D cl tys A ret) {α : Type} {x y : Int} {a b : Option α} {o : α} {off : Int} {tgt : Nat} (hdg : decode cc pc = .ok (.if_icmp .lt off, 3)) (ht : (pc : Int) + off = (tgt : Int)) (hf : jk_lts x y a b = some o) (kt : x < y → a = some o → jk_J p l e R s m args below meth c cells slots Q D cl A nL ws lv tgt st) (kf : ¬ x < y → b = some o → jk_J p l e R s m args below meth c cells slots Q D cl A nL ws lv (pc + 3) st) : jk_J p l e R s m args below meth c cells slots Q D cl A nL ws lv pc (jk_V y :: jk_V x :: st) := by
  obtain ⟨⟨hx, hy⟩, h⟩ := jk_lts_h hf
  intro H locs ls hl hP hD hS
  refine lv_icmp_lt C.1.1 C.1.2.1 hdg ht (fun q => ?_) (fun q => ?_) <;> rw [jk_lt hx hy] at q <;> rcases h with ⟨h1, h2⟩ | ⟨h1, h2⟩
  · exact kt h1 h2 H locs ls hl hP hD hS
  · exact absurd q h1
  · exact absurd h1 q
  · exact kf h1 h2 H locs ls hl hP hD hS
theorem jk_icmp_ge (C : jk_C p s m args meth c cc own nL Ts D cl tys A ret) {α : Type} {x y : Int} {a b : Option α} {o : α} {off : Int} {tgt : Nat} (hdg : decode cc pc = .ok (.if_icmp .ge off, 3)) (ht : (pc : Int) + off = (tgt : Int)) (hf : jk_lts x y a b = some o) (kt : ¬ x < y → b = some o → jk_J p l e R s m args below meth c cells slots Q D cl A nL ws lv tgt st) (kf : x < y → a = some o → jk_J p l e R s m args below meth c cells slots Q D cl A nL ws lv (pc + 3) st) : jk_J p l e R s m args below meth c cells slots Q D cl A nL ws lv pc (jk_V y :: jk_V x :: st) := by
  obtain ⟨⟨hx, hy⟩, h⟩ := jk_lts_h hf
  intro H locs ls hl hP hD hS
  refine lv_icmp_ge C.1.1 C.1.2.1 hdg ht (fun q => ?_) (fun q => ?_) <;> rw [jk_le hy hx] at q <;> rcases h with ⟨h1, h2⟩ | ⟨h1, h2⟩
  · omega
  · exact kt h1 h2 H locs ls hl hP hD hS
  · exact kf h1 h2 H locs ls hl hP hD hS
  · omega
theorem jk_icmp_gt (C : jk_C p s m args meth c cc own nL Ts D cl tys A ret) {α : Type} {x y : Int} {a b : Option α} {o : α} {off : Int} {tgt : Nat} (hdg : decode cc pc = .ok (.if_icmp .gt off, 3)) (ht : (pc : Int) + off = (tgt : Int)) (hf : jk_lts y x a b = some o) (kt : y < x → a = some o → jk_J p l e R s m args below meth c cells slots Q D cl A nL ws lv tgt st) (kf : ¬ y < x → b = some o → jk_J p l e R s m args below meth c cells slots Q D cl A nL ws lv (pc + 3) st) : jk_J p l e R s m args below meth c cells slots Q D cl A nL ws lv pc (jk_V y :: jk_V x :: st) := by
  obtain ⟨⟨hy, hx⟩, h⟩ := jk_lts_h hf
  intro H locs ls hl hP hD hS
  refine lv_icmp_gt C.1.1 C.1.2.1 hdg ht (fun q => ?_) (fun q => ?_) <;> rw [jk_lt hy hx] at q <;> rcases h with ⟨h1, h2⟩ | ⟨h1, h2⟩
  · exact kt h1 h2 H locs ls hl hP hD hS
  · exact absurd q h1
  · exact absurd h1 q
  · exact kf h1 h2 H locs ls hl hP hD hS
theorem jk_icmp_le (C : jk_C p s m args meth c cc own nL Ts D cl tys A ret) {α : Type} {x y : Int} {a b : Option α} {o : α} {off : Int} {tgt : Nat} (hdg : decode cc pc = .ok (.if_icmp .le off, 3)) (ht : (pc : Int) + off = (tgt : Int)) (hf : jk_lts y x a b = some o) (kt : ¬ y < x → b = some o → jk_J p l e R s m args below meth c cells slots Q D cl A nL ws lv tgt st) (kf : y < x → a = some o → jk_J p l e R s m args below meth c cells slots Q D cl A nL ws lv (pc + 3) st) : jk_J p l e R s m args below meth c cells slots Q D cl A nL ws lv pc (jk_V y :: jk_V x :: st) := by
  obtain ⟨⟨hy, hx⟩, h⟩ := jk_lts_h hf
  intro H locs ls hl hP hD hS
  refine lv_icmp_le C.1.1 C.1.2.1 hdg ht (fun q => ?_) (fun q => ?_) <;> rw [jk_le hx hy] at q <;> rcases h with ⟨h1, h2⟩ | ⟨h1, h2⟩
  · omega
  · exact kt h1 h2 H locs ls hl hP hD hS
  · exact kf h1 h2 H locs ls hl hP hD hS
  · omega
theorem jk_icmp_eq (C : jk_C p s m args meth c cc own nL Ts D cl tys A ret) {α : Type} {x y : Int} {a b : Option α} {o : α} {off : Int} {tgt : Nat} (hdg : decode cc pc = .ok (.if_icmp .eq off, 3)) (ht : (pc : Int) + off = (tgt : Int)) (hf : jk_eqs x y a b = some o) (kt : x = y → a = some o → jk_J p l e R s m args below meth c cells slots Q D cl A nL ws lv tgt st) (kf : ¬ x = y → b = some o → jk_J p l e R s m args below meth c cells slots Q D cl A nL ws lv (pc + 3) st) : jk_J p l e R s m args below meth c cells slots Q D cl A nL ws lv pc (jk_V y :: jk_V x :: st) := by
  obtain ⟨⟨hx, hy⟩, h⟩ := jk_eqs_h hf
  intro H locs ls hl hP hD hS
  refine lv_icmp_eq C.1.1 C.1.2.1 hdg ht (fun q => ?_) (fun q => ?_) <;> rw [jk_eq hx hy] at q <;> rcases h with ⟨h1, h2⟩ | ⟨h1, h2⟩
  · exact kt h1 h2 H locs ls hl hP hD hS
  · exact absurd q h1
  · exact absurd h1 q
  · exact kf h1 h2 H locs ls hl hP hD hS
theorem jk_icmp_ne (C : jk_C p s m args meth c cc own nL Ts D cl tys A ret) {α : Type} {x y : Int} {a b : Option α} {o : α} {off : Int} {tgt : Nat} (hdg : decode cc pc = .ok (.if_icmp .ne off, 3)) (ht : (pc : Int) + off = (tgt : Int)) (hf : jk_eqs x y a b = some o) (kt : ¬ x = y → b = some o → jk_J p l e R s m args below meth c cells slots Q D cl A nL ws lv tgt st) (kf : x = y → a = some o → jk_J p l e R s m args below meth c cells slots Q D cl A nL ws lv (pc + 3) st) : jk_J p l e R s m args below meth c cells slots Q D cl A nL ws lv pc (jk_V y :: jk_V x :: st) := by
  obtain ⟨⟨hx, hy⟩, h⟩ := jk_eqs_h hf
  intro H locs ls hl hP hD hS
  refine lv_icmp_ne C.1.1 C.1.2.1 hdg ht (fun q => ?_) (fun q => ?_) <;> rcases h with ⟨h1, h2⟩ | ⟨h1, h2⟩
  · first | exact absurd h1 (fun z => q ((jk_eq hx hy).mpr z)) | exact absurd ((jk_eq hx hy).mpr h1) q
  · exact kt h1 h2 H locs ls hl hP hD hS
  · exact kf h1 h2 H locs ls hl hP hD hS
  · first | exact absurd ((jk_eq hx hy).mp q) h1 | exact absurd ((jk_eq hx hy).mp (Classical.not_not.mp q)) h1
theorem jk_R0 : jk_R 0 := ⟨by omega, by omega⟩
theorem jk_if_lt (C : jk_C p s m args meth c cc own nL Ts D cl tys A ret) {α : Type} {x : Int} {a b : Option α} {o : α} {off : Int} {tgt : Nat} (hdg : decode cc pc = .ok (.ifCond .lt off, 3)) (ht : (pc : Int) + off = (tgt : Int)) (hf : jk_lts x 0 a b = some o) (kt : x < 0 → a = some o → jk_J p l e R s m args below meth c cells slots Q D cl A nL ws lv tgt st) (kf : ¬ x < 0 → b = some o → jk_J p l e R s m args below meth c cells slots Q D cl A nL ws lv (pc + 3) st) : jk_J p l e R s m args below meth c cells slots Q D cl A nL ws lv pc (jk_V x :: st) := by
  obtain ⟨⟨hx, hy⟩, h⟩ := jk_lts_h hf
  intro H locs ls hl hP hD hS
  refine lv_if_lt C.1.1 C.1.2.1 hdg ht (fun q => ?_) (fun q => ?_) <;> rw [show (0 : Int32) = jk_I 0 from rfl, jk_lt hx hy] at q <;> rcases h with ⟨h1, h2⟩ | ⟨h1, h2⟩
  · exact kt h1 h2 H locs ls hl hP hD hS
  · exact absurd q h1
  · exact absurd h1 q
  · exact kf h1 h2 H locs ls hl hP hD hS
theorem jk_if_ge (C : jk_C p s m args meth c cc own nL Ts D cl tys A ret) {α : Type} {x : Int} {a b : Option α} {o : α} {off : Int} {tgt : Nat} (hdg : decode cc pc = .ok (.ifCond .ge off, 3)) (ht : (pc : Int) + off = (tgt : Int)) (hf : jk_lts x 0 a b = some o) (kt : ¬ x < 0 → b = some o → jk_J p l e R s m args below meth c cells slots Q D cl A nL ws lv tgt st) (kf : x < 0 → a = some o → jk_J p l e R s m args below meth c cells slots Q D cl A nL ws lv (pc + 3) st) : jk_J p l e R s m args below meth c cells slots Q D cl A nL ws lv pc (jk_V x :: st) := by
  obtain ⟨⟨hx, hy⟩, h⟩ := jk_lts_h hf
  intro H locs ls hl hP hD hS
  refine lv_if_ge C.1.1 C.1.2.1 hdg ht (fun q => ?_) (fun q => ?_) <;> rw [show (0 : Int32) = jk_I 0 from rfl, jk_le hy hx] at q <;> rcases h with ⟨h1, h2⟩ | ⟨h1, h2⟩
  · omega
  · exact kt h1 h2 H locs ls hl hP hD hS
  · exact kf h1 h2 H locs ls hl hP hD hS
  · omega
theorem jk_if_gt (C : jk_C p s m args meth c cc own nL Ts D cl tys A ret) {α : Type} {x : Int} {a b : Option α} {o : α} {off : Int} {tgt : Nat} (hdg : decode cc pc = .ok (.ifCond .gt off, 3)) (ht : (pc : Int) + off = (tgt : Int)) (hf : jk_lts 0 x a b = some o) (kt : 0 < x → a = some o → jk_J p l e R s m args below meth c cells slots Q D cl A nL ws lv tgt st) (kf : ¬ 0 < x → b = some o → jk_J p l e R s m args below meth c cells slots Q D cl A nL ws lv (pc + 3) st) : jk_J p l e R s m args below meth c cells slots Q D cl A nL ws lv pc (jk_V x :: st) := by
  obtain ⟨⟨hy, hx⟩, h⟩ := jk_lts_h hf
  intro H locs ls hl hP hD hS
  refine lv_if_gt C.1.1 C.1.2.1 hdg ht (fun q => ?_) (fun q => ?_) <;> rw [show (0 : Int32) = jk_I 0 from rfl, jk_lt hy hx] at q <;> rcases h with ⟨h1, h2⟩ | ⟨h1, h2⟩
  · exact kt h1 h2 H locs ls hl hP hD hS
  · exact absurd q h1
  · exact absurd h1 q
  · exact kf h1 h2 H locs ls hl hP hD hS
theorem jk_if_le (C : jk_C p s m args meth c cc own nL Ts D cl tys A ret) {α : Type} {x : Int} {a b : Option α} {o : α} {off : Int} {tgt : Nat} (hdg : decode cc pc = .ok (.ifCond .le off, 3)) (ht : (pc : Int) + off = (tgt : Int)) (hf : jk_lts 0 x a b = some o) (kt : ¬ 0 < x → b = some o → jk_J p l e R s m args below meth c cells slots Q D cl A nL ws lv tgt st) (kf : 0 < x → a = some o → jk_J p l e R s m args below meth c cells slots Q D cl A nL ws lv (pc + 3) st) : jk_J p l e R s m args below meth c cells slots Q D cl A nL ws lv pc (jk_V x :: st) := by
  obtain ⟨⟨hy, hx⟩, h⟩ := jk_lts_h hf
  intro H locs ls hl hP hD hS
  refine lv_if_le C.1.1 C.1.2.1 hdg ht (fun q => ?_) (fun q => ?_) <;> rw [show (0 : Int32) = jk_I 0 from rfl, jk_le hx hy] at q <;> rcases h with ⟨h1, h2⟩ | ⟨h1, h2⟩
  · omega
  · exact kt h1 h2 H locs ls hl hP hD hS
  · exact kf h1 h2 H locs ls hl hP hD hS
  · omega
theorem jk_if_eq (C : jk_C p s m args meth c cc own nL Ts D cl tys A ret) {α : Type} {x : Int} {a b : Option α} {o : α} {off : Int} {tgt : Nat} (hdg : decode cc pc = .ok (.ifCond .eq off, 3)) (ht : (pc : Int) + off = (tgt : Int)) (hf : jk_eqs x 0 a b = some o) (kt : x = 0 → a = some o → jk_J p l e R s m args below meth c cells slots Q D cl A nL ws lv tgt st) (kf : ¬ x = 0 → b = some o → jk_J p l e R s m args below meth c cells slots Q D cl A nL ws lv (pc + 3) st) : jk_J p l e R s m args below meth c cells slots Q D cl A nL ws lv pc (jk_V x :: st) := by
  obtain ⟨⟨hx, hy⟩, h⟩ := jk_eqs_h hf
  intro H locs ls hl hP hD hS
  refine lv_if_eq C.1.1 C.1.2.1 hdg ht (fun q => ?_) (fun q => ?_) <;> rw [show (0 : Int32) = jk_I 0 from rfl, jk_eq hx hy] at q <;> rcases h with ⟨h1, h2⟩ | ⟨h1, h2⟩
  · exact kt h1 h2 H locs ls hl hP hD hS
  · exact absurd q h1
  · exact absurd h1 q
  · exact kf h1 h2 H locs ls hl hP hD hS
theorem jk_if_ne (C : jk_C p s m args meth c cc own nL Ts D cl tys A ret) {α : Type} {x : Int} {a b : Option α} {o : α} {off : Int} {tgt : Nat} (hdg : decode cc pc = .ok (.ifCond .ne off, 3)) (ht : (pc : Int) + off = (tgt : Int)) (hf : jk_eqs x 0 a b = some o) (kt : ¬ x = 0 → b = some o → jk_J p l e R s m args below meth c cells slots Q D cl A nL ws lv tgt st) (kf : x = 0 → a = some o → jk_J p l e R s m args below meth c cells slots Q D cl A nL ws lv (pc + 3) st) : jk_J p l e R s m args below meth c cells slots Q D cl A nL ws lv pc (jk_V x :: st) := by
  obtain ⟨⟨hx, hy⟩, h⟩ := jk_eqs_h hf
  intro H locs ls hl hP hD hS
  refine lv_if_ne C.1.1 C.1.2.1 hdg ht (fun q => ?_) (fun q => ?_) <;> rcases h with ⟨h1, h2⟩ | ⟨h1, h2⟩
  · first | exact absurd ((jk_eq hx hy).mpr h1) q | exact absurd h1 (fun z => q ((jk_eq hx hy).mpr z))
  · exact kt h1 h2 H locs ls hl hP hD hS
  · exact kf h1 h2 H locs ls hl hP hD hS
  · first | exact absurd ((jk_eq hx hy).mp q) h1 | exact absurd ((jk_eq hx hy).mp (Classical.not_not.mp q)) h1
end JK2
