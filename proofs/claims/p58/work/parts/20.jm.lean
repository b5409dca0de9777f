/-! the law's world: cells by address, in any number -/
abbrev jm_M : Type := Nat → Option va_E
def jm_lk (ws : va_W) : jm_M := fun a => (ws.find? (fun q => q.1 == a)).map (·.2)
def jm_up (M : jm_M) (a : Nat) (e : va_E) : jm_M := fun b => if b = a then some e else M b
theorem jm_up_s {M : jm_M} {a : Nat} {e : va_E} : jm_up M a e a = some e := if_pos rfl
theorem jm_up_n {M : jm_M} {a b : Nat} {e : va_E} (h : b ≠ a) : jm_up M a e b = M b := if_neg h
theorem jm_oext {α : Type} {x y : Option α} (h : ∀ e, x = some e ↔ y = some e) : x = y := by
  cases x with
  | none =>
    cases y with
    | none => rfl
    | some b => exact (h b).mpr rfl
  | some a => exact ((h a).mp rfl).symm
theorem jm_lk_mem {ws : va_W} {a : Nat} {e : va_E} (h : jm_lk ws a = some e) : ∃ q0 : Nat, ws[q0]? = some (a, e) := by
  unfold jm_lk at h
  cases hf : ws.find? (fun q => q.1 == a) with
  | none => rw [hf] at h; cases h
  | some p =>
    rw [hf] at h
    obtain ⟨p1, p2⟩ := p
    have h1 : p2 = e := Option.some.inj h
    have h2 : p1 = a := by simpa using List.find?_some hf
    subst h1 h2
    exact List.getElem?_of_mem (List.mem_of_find?_eq_some hf)
theorem jm_lk_of {A : Nat → Prop} {ws : va_W} {q0 a : Nat} {e : va_E} (hD : va_D A ws) (h : ws[q0]? = some (a, e)) : jm_lk ws a = some e := by
  cases hf : ws.find? (fun q => q.1 == a) with
  | none => exact absurd (List.find?_eq_none.mp hf (a, e) (List.mem_of_getElem? h)) (by simp)
  | some p =>
    have h2 : p.1 = a := by simpa using List.find?_some hf
    obtain ⟨i, hi⟩ := List.getElem?_of_mem (List.mem_of_find?_eq_some hf)
    have h3 := hD.1 i q0 p (a, e) hi h h2
    subst h3
    rw [h] at hi
    unfold jm_lk
    rw [hf, ← Option.some.inj hi]
    rfl
theorem jm_lk_iff {A : Nat → Prop} {ws : va_W} {a : Nat} {e : va_E} (hD : va_D A ws) : jm_lk ws a = some e ↔ ∃ q0 : Nat, ws[q0]? = some (a, e) :=
  ⟨jm_lk_mem, fun ⟨_, h⟩ => jm_lk_of hD h⟩
theorem jm_lk_set {A : Nat → Prop} {ws : va_W} {q0 a : Nat} {e0 e : va_E} (hD : va_D A ws) (h : ws[q0]? = some (a, e0)) : jm_lk (ws.set q0 (a, e)) = jm_up (jm_lk ws) a e := by
  have hD' : va_D A (ws.set q0 (a, e)) := hD.set h
  have hlt : q0 < ws.length := (List.getElem?_eq_some_iff.mp h).1
  funext b
  by_cases hb : b = a
  · subst hb
    rw [jm_up_s]
    exact jm_lk_of hD' (q0 := q0) (by rw [List.getElem?_set]; simp [hlt])
  · rw [jm_up_n hb]
    refine jm_oext (fun e' => ?_)
    rw [jm_lk_iff hD', jm_lk_iff hD]
    constructor
    · rintro ⟨k, hk⟩
      rw [List.getElem?_set] at hk
      by_cases hq : q0 = k
      · rw [if_pos hq, if_pos hlt] at hk
        exact absurd (congrArg Prod.fst (Option.some.inj hk)).symm hb
      · rw [if_neg hq] at hk
        exact ⟨k, hk⟩
    · rintro ⟨k, hk⟩
      refine ⟨k, ?_⟩
      rw [List.getElem?_set]
      by_cases hq : q0 = k
      · subst hq
        rw [h] at hk
        exact absurd (congrArg Prod.fst (Option.some.inj hk)).symm hb
      · rw [if_neg hq]
        exact hk
theorem jm_lk_push {A : Nat → Prop} {ws : va_W} {a : Nat} {e : va_E} (hD : va_D A (ws ++ [(a, e)])) : jm_lk ws a = none ∧ jm_lk (ws ++ [(a, e)]) = jm_up (jm_lk ws) a e := by
  have hD0 : va_D A ws := ⟨fun i j p q hi hj => hD.1 i j p q (by rw [List.getElem?_append_left (List.getElem?_eq_some_iff.mp hi).1]; exact hi) (by rw [List.getElem?_append_left (List.getElem?_eq_some_iff.mp hj).1]; exact hj), fun k q hk => hD.2 k q (by rw [List.getElem?_append_left (List.getElem?_eq_some_iff.mp hk).1]; exact hk)⟩
  have hl : (ws ++ [(a, e)])[ws.length]? = some (a, e) := by simp
  constructor
  · cases hn : jm_lk ws a with
    | none => rfl
    | some e' =>
      obtain ⟨k, hk⟩ := jm_lk_mem hn
      have hlt := (List.getElem?_eq_some_iff.mp hk).1
      have := hD.1 k ws.length (a, e') (a, e) (by rw [List.getElem?_append_left hlt]; exact hk) hl rfl
      omega
  · funext b
    by_cases hb : b = a
    · subst hb
      rw [jm_up_s]
      exact jm_lk_of hD hl
    · rw [jm_up_n hb]
      refine jm_oext (fun e' => ?_)
      rw [jm_lk_iff hD, jm_lk_iff hD0]
      constructor
      · rintro ⟨k, hk⟩
        rcases Nat.lt_or_ge k ws.length with hlt | hge
        · rw [List.getElem?_append_left hlt] at hk
          exact ⟨k, hk⟩
        · rw [List.getElem?_append_right hge] at hk
          have hz : k - ws.length = 0 := by
            have := (List.getElem?_eq_some_iff.mp hk).1
            simp at this
            omega
          rw [hz] at hk
          exact absurd (congrArg Prod.fst (Option.some.inj hk)).symm hb
      · rintro ⟨k, hk⟩
        exact ⟨k, by rw [List.getElem?_append_left (List.getElem?_eq_some_iff.mp hk).1]; exact hk⟩
/-! contracts over such worlds -/
def jm_Post (D : va_G) (cl : List vw_C) (tys : List (ClassId × FieldType)) (A : Nat → Prop) (post : Option Value → jm_M → Prop) : Array Value → State → Outcome → State → Prop := fun _ st oc t => (∃ (v : Option Value) (w' : va_W), oc = .returned v ∧ post v (jm_lk w') ∧ va_P D cl w' t.heap ∧ va_D A w' ∧ va_K D cl tys t) ∧ va_F A st t
def jm_Met (l : Launch) (D : va_G) (cl : List vw_C) (tys : List (ClassId × FieldType)) (Z : (Nat → Prop) → State → Heap → Prop) (y : MethodName) (wy : List Cond) (rm : Room) (as : List Value) (M : jm_M) (post : Option Value → jm_M → Prop) (mc ms : Nat) : Prop :=
  ∀ (sz : Nat) (w : va_W), jm_lk w = M → Met l y wy rm (va_Pc as (jk_Pre D cl tys Z w sz)) (jm_Post D cl tys (va_A w sz) post) mc ms (va_A w sz)
section JM1
variable {p : Program} {l : Launch} {e : Env} {R : Room} {s : State} {m : MethodId} {args : Array Value} {below : List Frame} {meth : Method} {c : Code} {cells slots mc ms mc2 ms2 : Nat} {Q : State → Prop} {D : va_G} {cl : List vw_C} {A : Nat → Prop} {nL : Nat} {ws : va_W} {lv lv' : List (Nat × Value)} {pc : Nat} {st st0 : List Value} {M : jm_M}
variable {cc : ByteArray} {own : String} {tys : List (ClassId × FieldType)} {ret ret' : Option FieldType} {Z : (Nat → Prop) → State → Heap → Prop}
variable {y : MethodName} {bytes : ByteArray} {maxL n index : Nat} {a b : Nat} {As : List Value} {post : Option Value → jm_M → Prop}
variable {C0 host : String} {T : u_T} {N ci : Nat} {fs : List Value} {v : Value}
theorem jm_body {rm : Room} {as : List Value} (hy : plainName y.cls = true)
    (k : ∀ (p : Program) (e : Env) (s : State) (m : MethodId) (args : Array Value) (below : List Frame) (meth : Method) (c : Code) (w : va_W), jm_lk w = M → Z (va_A w s.heap.size) s s.heap → (y.name = "<init>" → meth.name = "<init>") → jk_C p s m args meth c cc y.cls maxL jk_WA D cl tys (va_A w s.heap.size) ret →
      jk_J p l e rm s m args below meth c 0 0 (MQ below (jm_Post D cl tys (va_A w s.heap.size) post) args s mc ms (va_A w s.heap.size)) D cl (va_A w s.heap.size) maxL w (lv_args 0 as) 0 []) (hsl : (lg_sl as).length ≤ maxL) : jm_Met l D cl tys Z y (.code y cc maxL ret :: jk_WA) rm as M post mc ms := by
  intro sz w hw
  refine jk_body hy (fun p e s m args below meth c hsz hz hin C => ?_) hsl
  subst hsz
  exact k p e s m args below meth c w hw hz hin C
theorem jm_ret_i (C : jk_C p s m args meth c cc own nL jk_WA D cl tys A (some .int)) {r : Int} (hws : jm_lk ws = M) (hp : post (some (jk_V r)) M) (hc : cells ≤ mc) (hs : slots ≤ ms) (hdg : decode cc pc = .ok (.ireturn, 1)) : jk_J p l e R s m args below meth c cells slots (MQ below (jm_Post D cl tys A post) args s mc ms A) D cl A nL ws lv pc [jk_V r] := by
  subst hws
  intro H locs ls hl hP hD hS
  exact W.widen hc hs (W.iret C.1.1 C.1.2.1 C.2.2.2.1 (fun t ht hW => ⟨⟨_, ws, rfl, hp, by rw [ht]; exact hP, hD, va_K.moved hW.alike C.2.1⟩, hS.F ht⟩) hS.2.2 hdg C.2.2.2.2)
theorem jm_ret_z (C : jk_C p s m args meth c cc own nL jk_WA D cl tys A (some .boolean)) {r : Int} (hb : r = 0 ∨ r = 1) (hws : jm_lk ws = M) (hp : post (some (jk_V r)) M) (hc : cells ≤ mc) (hs : slots ≤ ms) (hdg : decode cc pc = .ok (.ireturn, 1)) : jk_J p l e R s m args below meth c cells slots (MQ below (jm_Post D cl tys A post) args s mc ms A) D cl A nL ws lv pc [jk_V r] := by
  subst hws
  intro H locs ls hl hP hD hS
  exact W.widen hc hs (W.zret C.1.1 C.1.2.1 C.2.2.2.1 (jk_narrow_bool hb) (fun t ht hW => ⟨⟨_, ws, rfl, hp, by rw [ht]; exact hP, hD, va_K.moved hW.alike C.2.1⟩, hS.F ht⟩) hS.2.2 hdg C.2.2.2.2)
theorem jm_ret_n (C : jk_C p s m args meth c cc own nL jk_WA D cl tys A ret) {ty : FieldType} {r : Int} (hty : ret = some ty) (hb : narrow ty (.int (jk_I r)) = .int (jk_I r)) (hws : jm_lk ws = M) (hp : post (some (jk_V r)) M) (hc : cells ≤ mc) (hs : slots ≤ ms) (hdg : decode cc pc = .ok (.ireturn, 1)) : jk_J p l e R s m args below meth c cells slots (MQ below (jm_Post D cl tys A post) args s mc ms A) D cl A nL ws lv pc [jk_V r] := by
  subst hws; subst hty
  intro H locs ls hl hP hD hS
  exact W.widen hc hs (W.zret C.1.1 C.1.2.1 C.2.2.2.1 hb (fun t ht hW => ⟨⟨_, ws, rfl, hp, by rw [ht]; exact hP, hD, va_K.moved hW.alike C.2.1⟩, hS.F ht⟩) hS.2.2 hdg C.2.2.2.2)
theorem jm_ret_v (C : jk_C p s m args meth c cc own nL jk_WA D cl tys A none) (hws : jm_lk ws = M) (hp : post none M) (hc : cells ≤ mc) (hs : slots ≤ ms) (hdg : decode cc pc = .ok (.return_, 1)) : jk_J p l e R s m args below meth c cells slots (MQ below (jm_Post D cl tys A post) args s mc ms A) D cl A nL ws lv pc [] := by
  subst hws
  intro H locs ls hl hP hD hS
  exact W.widen hc hs (W.vret C.1.1 C.1.2.1 C.2.2.2.1 (fun t ht hW => ⟨⟨_, ws, rfl, hp, by rw [ht]; exact hP, hD, va_K.moved hW.alike C.2.1⟩, hS.F ht⟩) hS.2.2 hdg C.2.2.2.2)
theorem jm_ret_q (C : jk_C p s m args meth c cc own nL jk_WA D cl tys A ret) {ty : FieldType} (hty : ret = some ty) (hobj : (∃ n, ty = .object n) ∨ ∃ t, ty = .array t) {v : Value} (hv : v = .null ∨ ∃ a, v = .ref a) (hws : jm_lk ws = M) (hp : post (some v) M) (hc : cells ≤ mc) (hs : slots ≤ ms) (hdg : decode cc pc = .ok (.areturn, 1)) : jk_J p l e R s m args below meth c cells slots (MQ below (jm_Post D cl tys A post) args s mc ms A) D cl A nL ws lv pc [v] := by
  subst hws; subst hty
  intro H locs ls hl hP hD hS
  exact W.widen hc hs (W.aret C.1.1 C.1.2.1 C.2.2.2.1 hobj hv (fun t ht hW => ⟨⟨_, ws, rfl, hp, by rw [ht]; exact hP, hD, va_K.moved hW.alike C.2.1⟩, hS.F ht⟩) hS.2.2 hdg C.2.2.2.2)
/-! cells -/
theorem jm_get (C : jk_C p s m args meth c cc own nL jk_WA D cl tys A ret) (hws : jm_lk ws = M) (hin : ∀ w ∈ u_ws C0 T N, w ∈ jk_WA) (hc : cl[ci]? = some (C0, T, N)) (k : Nat) (hk : k < N) (hlink : Cond.fieldLink own index (T k).1 (T k).2.1 (T k).2.2.1 ∈ jk_WA) (he : M a = some (.inr (ci, fs))) (hv : fs[k]? = some v) (hdg : decode cc pc = .ok (.getfield index, 3))
    (kk : jk_J p l e R s m args below meth c cells slots Q D cl A nL ws lv (pc + 3) (v :: st)) : jk_J p l e R s m args below meth c cells slots Q D cl A nL ws lv pc (.ref a :: st) := by
  obtain ⟨q0, h0⟩ := jm_lk_mem (by rw [hws]; exact he : jm_lk ws a = _)
  exact jk_get C hin hc k hk hlink q0 h0 hv hdg kk
theorem jm_getN (C : jk_C p s m args meth c cc own nL jk_WA D cl tys A ret) (hws : jm_lk ws = M) (hin : ∀ w ∈ u_ws C0 T N, w ∈ jk_WA) (hc : cl[ci]? = some (C0, T, N)) (k : Nat) (hk : k < N) (hlink : va_Nw (Cond.fieldLinkNest own index (T k).1 (T k).2.1 (T k).2.2.1 host) s) (he : M a = some (.inr (ci, fs))) (hv : fs[k]? = some v) (hdg : decode cc pc = .ok (.getfield index, 3))
    (kk : jk_J p l e R s m args below meth c cells slots Q D cl A nL ws lv (pc + 3) (v :: st)) : jk_J p l e R s m args below meth c cells slots Q D cl A nL ws lv pc (.ref a :: st) := by
  obtain ⟨q0, h0⟩ := jm_lk_mem (by rw [hws]; exact he : jm_lk ws a = _)
  exact jk_getN C hin hc k hk hlink q0 h0 hv hdg kk
/-- a field that another class (a superclass) is named for -/
theorem jm_getS {ref : String} (C : jk_C p s m args meth c cc own nL jk_WA D cl tys A ret) (hws : jm_lk ws = M) (hin : ∀ w ∈ u_ws C0 T N, w ∈ jk_WA) (hc : cl[ci]? = some (C0, T, N)) (k : Nat) (hk : k < N) (hlink : Cond.fieldLink own index ref (T k).2.1 (T k).2.2.1 ∈ jk_WA) (hsame : ∀ x, s.fieldFound? (T k).1 (T k).2.1 (T k).2.2.1 = some x → s.fieldFound? ref (T k).2.1 (T k).2.2.1 = some x) (he : M a = some (.inr (ci, fs))) (hv : fs[k]? = some v) (hdg : decode cc pc = .ok (.getfield index, 3))
    (kk : jk_J p l e R s m args below meth c cells slots Q D cl A nL ws lv (pc + 3) (v :: st)) : jk_J p l e R s m args below meth c cells slots Q D cl A nL ws lv pc (.ref a :: st) := by
  obtain ⟨q0, h0⟩ := jm_lk_mem (by rw [hws]; exact he : jm_lk ws a = _)
  exact fun H locs ls hl hP hD hS => va_get C.1.1 C.1.2.1 C.1.2.2.2.2 hin C.1.2.2.2.1 C.2.1 hP q0 h0 hc k hk (C.1.2.2.2.2 _ hlink) hsame hv hdg (kk H locs ls hl hP hD hS)
theorem jm_put (C : jk_C p s m args meth c cc own nL jk_WA D cl tys A ret) (hws : jm_lk ws = M) (hin : ∀ w ∈ u_ws C0 T N, w ∈ jk_WA) {ty0 : Nat → FieldType} (hty : ∀ k, k < N → parseFieldDescriptor (T k).2.2.1 = some (ty0 k)) (hnm : ∀ a, a < N → ∀ b, b < N → a ≠ b → (T a).2.1 ≠ (T b).2.1) (hc : cl[ci]? = some (C0, T, N)) (k : Nat) (hk : k < N) (hlink : Cond.fieldLink own index (T k).1 (T k).2.1 (T k).2.2.1 ∈ jk_WA) (hfin : (T k).2.2.2 = false) (hn : narrow (ty0 k) v = v) (hfit : fits (ty0 k) v = true) (he : M a = some (.inr (ci, fs))) (hl' : k < fs.length) (hdg : decode cc pc = .ok (.putfield index, 3))
    (kk : ∀ ws', jm_lk ws' = jm_up M a (.inr (ci, fs.set k v)) → jk_J p l e R s m args below meth c cells slots Q D cl A nL ws' lv (pc + 3) st) : jk_J p l e R s m args below meth c cells slots Q D cl A nL ws lv pc (v :: .ref a :: st) := by
  obtain ⟨q0, h0⟩ := jm_lk_mem (by rw [hws]; exact he : jm_lk ws a = _)
  intro H locs ls hl hP hD hS
  exact jk_putf C hin hty hnm hc k hk hlink hfin hn hfit q0 h0 hl' hdg rfl (kk _ (by rw [jm_lk_set hD h0, hws])) H locs ls hl hP hD hS
theorem jm_putN (C : jk_C p s m args meth c cc own nL jk_WA D cl tys A ret) (hws : jm_lk ws = M) (hin : ∀ w ∈ u_ws C0 T N, w ∈ jk_WA) {ty0 : Nat → FieldType} (hty : ∀ k, k < N → parseFieldDescriptor (T k).2.2.1 = some (ty0 k)) (hnm : ∀ a, a < N → ∀ b, b < N → a ≠ b → (T a).2.1 ≠ (T b).2.1) (hc : cl[ci]? = some (C0, T, N)) (k : Nat) (hk : k < N) (hlink : va_Nw (Cond.fieldLinkNest own index (T k).1 (T k).2.1 (T k).2.2.1 host) s) (hfin : (T k).2.2.2 = false) (hn : narrow (ty0 k) v = v) (hfit : fits (ty0 k) v = true) (he : M a = some (.inr (ci, fs))) (hl' : k < fs.length) (hdg : decode cc pc = .ok (.putfield index, 3))
    (kk : ∀ ws', jm_lk ws' = jm_up M a (.inr (ci, fs.set k v)) → jk_J p l e R s m args below meth c cells slots Q D cl A nL ws' lv (pc + 3) st) : jk_J p l e R s m args below meth c cells slots Q D cl A nL ws lv pc (v :: .ref a :: st) := by
  obtain ⟨q0, h0⟩ := jm_lk_mem (by rw [hws]; exact he : jm_lk ws a = _)
  intro H locs ls hl hP hD hS
  exact jk_putfN C hin hty hnm hc k hk hlink hfin hn hfit q0 h0 hl' hdg rfl (kk _ (by rw [jm_lk_set hD h0, hws])) H locs ls hl hP hD hS
theorem jm_putS {ref : String} (C : jk_C p s m args meth c cc own nL jk_WA D cl tys A ret) (hws : jm_lk ws = M) (hin : ∀ w ∈ u_ws C0 T N, w ∈ jk_WA) {ty0 : Nat → FieldType} (hty : ∀ k, k < N → parseFieldDescriptor (T k).2.2.1 = some (ty0 k)) (hnm : ∀ a, a < N → ∀ b, b < N → a ≠ b → (T a).2.1 ≠ (T b).2.1) (hc : cl[ci]? = some (C0, T, N)) (k : Nat) (hk : k < N) (hlink : Cond.fieldLink own index ref (T k).2.1 (T k).2.2.1 ∈ jk_WA) (hsame : ∀ x, s.fieldFound? (T k).1 (T k).2.1 (T k).2.2.1 = some x → s.fieldFound? ref (T k).2.1 (T k).2.2.1 = some x) (hfin : (T k).2.2.2 = false) (hn : narrow (ty0 k) v = v) (hfit : fits (ty0 k) v = true) (he : M a = some (.inr (ci, fs))) (hl' : k < fs.length) (hdg : decode cc pc = .ok (.putfield index, 3))
    (kk : ∀ ws', jm_lk ws' = jm_up M a (.inr (ci, fs.set k v)) → jk_J p l e R s m args below meth c cells slots Q D cl A nL ws' lv (pc + 3) st) : jk_J p l e R s m args below meth c cells slots Q D cl A nL ws lv pc (v :: .ref a :: st) := by
  obtain ⟨q0, h0⟩ := jm_lk_mem (by rw [hws]; exact he : jm_lk ws a = _)
  intro H locs ls hl hP hD hS
  exact va_put C.1.1 C.1.2.1 C.1.2.2.2.2 hin ty0 hty hnm C.1.2.2.2.1 C.2.1 hP hD hS q0 h0 hc k hk (C.1.2.2.2.2 _ hlink) hsame hfin (hty k hk) hn hfit hl' hdg (fun H1 locs1 h1 h2 h3 => kk _ (by rw [jm_lk_set hD h0, hws]) H1 locs1 ls hl h1 h2 h3)
theorem jm_putF (C : jk_C p s m args meth c cc own nL jk_WA D cl tys A ret) (hws : jm_lk ws = M) (hin : ∀ w ∈ u_ws C0 T N, w ∈ jk_WA) {ty0 : Nat → FieldType} (hty : ∀ k, k < N → parseFieldDescriptor (T k).2.2.1 = some (ty0 k)) (hnm : ∀ a, a < N → ∀ b, b < N → a ≠ b → (T a).2.1 ≠ (T b).2.1) (hc : cl[ci]? = some (C0, T, N)) (k : Nat) (hk : k < N) (hlink : Cond.fieldLink own index (T k).1 (T k).2.1 (T k).2.2.1 ∈ jk_WA) (hfin : (T k).2.2.2 = true) (hin2 : meth.name = "<init>") (hdecl : (T k).1 = own) (hn : narrow (ty0 k) v = v) (hfit : fits (ty0 k) v = true) (he : M a = some (.inr (ci, fs))) (hl' : k < fs.length) (hdg : decode cc pc = .ok (.putfield index, 3))
    (kk : ∀ ws', jm_lk ws' = jm_up M a (.inr (ci, fs.set k v)) → jk_J p l e R s m args below meth c cells slots Q D cl A nL ws' lv (pc + 3) st) : jk_J p l e R s m args below meth c cells slots Q D cl A nL ws lv pc (v :: .ref a :: st) := by
  obtain ⟨q0, h0⟩ := jm_lk_mem (by rw [hws]; exact he : jm_lk ws a = _)
  intro H locs ls hl hP hD hS
  exact va_putF C.1.1 C.1.2.1 C.1.2.2.2.2 hin ty0 hty hnm C.1.2.2.2.1 C.2.1 hP hD hS q0 h0 hc k hk (C.1.2.2.2.2 _ hlink) (fun _ h9 => h9) hfin hin2 hdecl (hty k hk) hn hfit hl' hdg (fun H1 locs1 h1 h2 h3 => kk _ (by rw [jm_lk_set hD h0, hws]) H1 locs1 ls hl h1 h2 h3)
theorem jm_iald (C : jk_C p s m args meth c cc own nL jk_WA D cl tys A ret) (hws : jm_lk ws = M) {n : Nat} {i : Int} {f : Int → Int} {cI : ClassId} (t0 : Nat) (he : M a = some (jk_W cI n f)) (ht : tys[t0]? = some (cI, .int)) (hn : n < 2147483648) (h0 : 0 ≤ i) (h1 : i < n) (hdg : decode cc pc = .ok (.iaload, 1))
    (kk : jk_J p l e R s m args below meth c cells slots Q D cl A nL ws lv (pc + 1) (jk_V (f i) :: st)) : jk_J p l e R s m args below meth c cells slots Q D cl A nL ws lv pc (jk_V i :: .ref a :: st) := by
  obtain ⟨q0, hq⟩ := jm_lk_mem (by rw [hws]; exact he : jm_lk ws a = _)
  exact jk_iald C (α := Unit) (x := some ()) (o := ()) q0 t0 hq ht hn hdg (if_pos ⟨h0, h1⟩) (fun _ => kk)
theorem jm_iast (C : jk_C p s m args meth c cc own nL jk_WA D cl tys A ret) (hws : jm_lk ws = M) {n : Nat} {i x : Int} {f : Int → Int} {cI : ClassId} (t0 : Nat) (he : M a = some (jk_W cI n f)) (ht : tys[t0]? = some (cI, .int)) (hn : n < 2147483648) (h0 : 0 ≤ i) (h1 : i < n) (hdg : decode cc pc = .ok (.iastore, 1))
    (kk : ∀ ws', jm_lk ws' = jm_up M a (jk_W cI n (jk_up f i x)) → jk_J p l e R s m args below meth c cells slots Q D cl A nL ws' lv (pc + 1) st) : jk_J p l e R s m args below meth c cells slots Q D cl A nL ws lv pc (jk_V x :: jk_V i :: .ref a :: st) := by
  obtain ⟨q0, hq⟩ := jm_lk_mem (by rw [hws]; exact he : jm_lk ws a = _)
  intro H locs ls hl hP hD hS
  exact jk_iast C (α := Unit) (x := some ()) (o := ()) q0 t0 hq ht hn hdg (if_pos ⟨h0, h1⟩) rfl (fun _ => kk _ (by rw [jm_lk_set hD hq, hws])) H locs ls hl hP hD hS
theorem jm_alen (C : jk_C p s m args meth c cc own nL jk_WA D cl tys A ret) (hws : jm_lk ws = M) {n : Nat} {f : Int → Int} {cI : ClassId} (t0 : Nat) (he : M a = some (jk_W cI n f)) (ht : tys[t0]? = some (cI, .int)) (hdg : decode cc pc = .ok (.arraylength, 1))
    (kk : jk_J p l e R s m args below meth c cells slots Q D cl A nL ws lv (pc + 1) (jk_V (n : Int) :: st)) : jk_J p l e R s m args below meth c cells slots Q D cl A nL ws lv pc (.ref a :: st) := by
  obtain ⟨q0, hq⟩ := jm_lk_mem (by rw [hws]; exact he : jm_lk ws a = _)
  exact jk_alen C q0 t0 hq ht hdg kk
abbrev jm_Q (cO : ClassId) (n : Nat) (g : Nat → Option Nat) : va_E := .inl (cO, n, .inr (.inr (.inr (.inr g))))
theorem jm_qlen (C : jk_C p s m args meth c cc own nL jk_WA D cl tys A ret) (hws : jm_lk ws = M) {n : Nat} {f : Nat → Option Nat} {cO : ClassId} {ty : FieldType} (t0 : Nat) (he : M a = some (jm_Q cO n f)) (ht : tys[t0]? = some (cO, ty)) (hdg : decode cc pc = .ok (.arraylength, 1))
    (kk : jk_J p l e R s m args below meth c cells slots Q D cl A nL ws lv (pc + 1) (jk_V (n : Int) :: st)) : jk_J p l e R s m args below meth c cells slots Q D cl A nL ws lv pc (.ref a :: st) := by
  obtain ⟨q0, hq⟩ := jm_lk_mem (by rw [hws]; exact he : jm_lk ws a = _)
  exact jk_alenq C q0 t0 hq ht hdg kk
theorem jm_qald (C : jk_C p s m args meth c cc own nL jk_WA D cl tys A ret) (hws : jm_lk ws = M) {n : Nat} {i : Int} {f : Nat → Option Nat} {cO : ClassId} {E : String} (t0 : Nat) (he : M a = some (jm_Q cO n f)) (ht : tys[t0]? = some (cO, .object E)) (hn : n < 2147483648) (h0 : 0 ≤ i) (h1 : i < n) (hdg : decode cc pc = .ok (.aaload, 1))
    (kk : jk_J p l e R s m args below meth c cells slots Q D cl A nL ws lv (pc + 1) (va_rf (f i.toNat) :: st)) : jk_J p l e R s m args below meth c cells slots Q D cl A nL ws lv pc (jk_V i :: .ref a :: st) := by
  obtain ⟨q0, hq⟩ := jm_lk_mem (by rw [hws]; exact he : jm_lk ws a = _)
  exact jk_aald C q0 t0 hq ht hn h0 h1 hdg kk
/-- a reference into an array of objects; what the array takes is said of the heap -/
theorem jm_qast (C : jk_C p s m args meth c cc own nL jk_WA D cl tys A ret) (hws : jm_lk ws = M) {n : Nat} {i : Int} {f : Nat → Option Nat} {cO : ClassId} {E : String} {x : Nat} (t0 : Nat) (he : M a = some (jm_Q cO n f)) (ht : tys[t0]? = some (cO, .object E)) (hx : ∀ (H : Heap) (locs : List Loc), va_P D cl ws H → va_S A s.heap H locs → va_Any E s H x) (hn : n < 2147483648) (h0 : 0 ≤ i) (h1 : i < n) (hdg : decode cc pc = .ok (.aastore, 1))
    (kk : ∀ ws', jm_lk ws' = jm_up M a (jm_Q cO n (va_up f i.toNat (some x))) → jk_J p l e R s m args below meth c cells slots Q D cl A nL ws' lv (pc + 1) st) : jk_J p l e R s m args below meth c cells slots Q D cl A nL ws lv pc (.ref x :: jk_V i :: .ref a :: st) := by
  obtain ⟨q0, hq⟩ := jm_lk_mem (by rw [hws]; exact he : jm_lk ws a = _)
  intro H locs ls hl hP hD hS
  refine va_astqM C.1.1 C.1.2.1 C.2.1 hP hD hS q0 t0 hq ht (hx H locs hP hS) (jk_in h0 h1 hn) hdg (fun H1 locs1 q1 q2 q3 => ?_)
  rw [jk_clamp h0 (by omega)] at q1 q2
  exact kk _ (by rw [jm_lk_set hD hq, hws]) H1 locs1 ls hl q1 q2 q3
theorem jm_qastN (C : jk_C p s m args meth c cc own nL jk_WA D cl tys A ret) (hws : jm_lk ws = M) {n : Nat} {i : Int} {f : Nat → Option Nat} {cO : ClassId} {E : String} (t0 : Nat) (he : M a = some (jm_Q cO n f)) (ht : tys[t0]? = some (cO, .object E)) (hn : n < 2147483648) (h0 : 0 ≤ i) (h1 : i < n) (hdg : decode cc pc = .ok (.aastore, 1))
    (kk : ∀ ws', jm_lk ws' = jm_up M a (jm_Q cO n (va_up f i.toNat none)) → jk_J p l e R s m args below meth c cells slots Q D cl A nL ws' lv (pc + 1) st) : jk_J p l e R s m args below meth c cells slots Q D cl A nL ws lv pc (.null :: jk_V i :: .ref a :: st) := by
  obtain ⟨q0, hq⟩ := jm_lk_mem (by rw [hws]; exact he : jm_lk ws a = _)
  intro H locs ls hl hP hD hS
  refine va_astqN C.1.1 C.1.2.1 C.2.1 hP hD hS q0 t0 hq ht (jk_in h0 h1 hn) hdg (fun H1 locs1 q1 q2 q3 => ?_)
  rw [jk_clamp h0 (by omega)] at q1 q2
  exact kk _ (by rw [jm_lk_set hD hq, hws]) H1 locs1 ls hl q1 q2 q3
theorem jm_new (C : jk_C p s m args meth c cc own nL jk_WA D cl tys A ret) (hws : jm_lk ws = M) (hin : ∀ w ∈ u_ws C0 T N, w ∈ jk_WA) {ty0 : Nat → FieldType} (hty : ∀ k, k < N → parseFieldDescriptor (T k).2.2.1 = some (ty0 k)) (h1 : Cond.classLink own index C0 ∈ jk_WA) (h2 : Cond.instantiable C0 N ∈ jk_WA) (h3 : Cond.initialized C0 ∈ jk_WA) (hc : cl[ci]? = some (C0, T, N)) (hfs : ∀ j, j < N → defaultValue (ty0 j) = vp_V fs j) (hcs : cells + 1 ≤ R.cells ∧ slots + N ≤ R.slots) (hdg : decode cc pc = .ok (.new index, 3))
    (kk : ∀ (q : Nat) (ws' : va_W), M q = none → jm_lk ws' = jm_up M q (.inr (ci, fs)) → jk_J p l e R s m args below meth c (cells + 1) (slots + N) Q D cl A nL ws' lv (pc + 3) (.ref q :: st)) : jk_J p l e R s m args below meth c cells slots Q D cl A nL ws lv pc st :=
  fun H locs ls hl hP hD hS => va_new C.1.1 C.1.2.1 C.1.2.2.2.2 hin ty0 hty C.1.2.2.2.1 (C.1.2.2.2.2 _ h1) (C.1.2.2.2.2 _ h2) (C.1.2.2.2.2 _ h3) C.2.1 hP hD hS C.2.2.1 hc hfs hcs.1 hcs.2 hdg (fun q H1 a1 a2 a3 => kk q _ (by rw [← hws]; exact (jm_lk_push a2).1) (by rw [(jm_lk_push a2).2, hws]) H1 locs ls hl a1 a2 a3)
theorem jm_newa (C : jk_C p s m args meth c cc own nL jk_WA D cl tys A ret) (hws : jm_lk ws = M) {x : Int} {n : Nat} {cI : ClassId} (hx : x = (n : Int)) (hn : n < 100000) (t0 : Nat) (ht : tys[t0]? = some (cI, .int)) (h1 : Cond.arrayClass .int ∈ jk_WA) (hcs : cells + 1 ≤ R.cells ∧ slots + n ≤ R.slots) (hdg : decode cc pc = .ok (.newarray .int, 2))
    (kk : ∀ (q : Nat) (ws' : va_W), M q = none → jm_lk ws' = jm_up M q (jk_W cI n (fun _ => 0)) → jk_J p l e R s m args below meth c (cells + 1) (slots + n) Q D cl A nL ws' lv (pc + 2) (.ref q :: st)) : jk_J p l e R s m args below meth c cells slots Q D cl A nL ws lv pc (jk_V x :: st) := by
  subst hx
  intro H locs ls hl hP hD hS
  refine va_newa (atype := .int) (ty := .int) (N' := n) (a0 := (n, .inl (fun _ => jk_I 0))) C.1.1 C.1.2.1 (C.1.2.2.2.2 _ h1) rfl C.2.1 hP hD hS C.2.2.1 (fun _ => rfl) (fun q => ?_) ?_ (by show n * 4 ≤ _; omega) hcs.1 hcs.2 hdg (fun q cA H1 hK1 a1 a2 a3 => ?_)
  · have h : jk_I (n : Int) < jk_I 0 := q
    rw [jk_lt ⟨by omega, by omega⟩ ⟨by omega, by omega⟩] at h
    omega
  · rw [jk_clamp (by omega) (by omega)]
    omega
  · have e1 := (hK1.2 tys.length (cA, .int) (by simp)).2
    have e2 := (C.2.1.2 t0 (cI, .int) ht).2
    have e3 : cA = cI := Option.some.inj ((show s.vm.findClass ("[" ++ FieldType.int.toString) = some cA from e1).symm.trans (show s.vm.findClass ("[" ++ FieldType.int.toString) = some cI from e2))
    subst e3
    exact kk q _ (by rw [← hws]; exact (jm_lk_push a2).1) (by rw [← hws]; exact (jm_lk_push a2).2) H1 locs ls hl a1 a2 a3
theorem jm_newq (C : jk_C p s m args meth c cc own nL jk_WA D cl tys A ret) (hws : jm_lk ws = M) {E : String} (hO : va_AO E s) {x : Int} {n : Nat} {cO : ClassId} (hx : x = (n : Int)) (hn : n < 100000) (t0 : Nat) (ht : tys[t0]? = some (cO, .object E)) (h1 : Cond.classLink own index E ∈ jk_WA) (hcs : cells + 1 ≤ R.cells ∧ slots + n ≤ R.slots) (hdg : decode cc pc = .ok (.anewarray index, 3))
    (kk : ∀ (q : Nat) (ws' : va_W), M q = none → jm_lk ws' = jm_up M q (jm_Q cO n (fun _ => none)) → jk_J p l e R s m args below meth c (cells + 1) (slots + n) Q D cl A nL ws' lv (pc + 3) (.ref q :: st)) : jk_J p l e R s m args below meth c cells slots Q D cl A nL ws lv pc (jk_V x :: st) := by
  subst hx
  intro H locs ls hl hP hD hS
  refine va_newq (N' := n) C.1.1 C.1.2.1 C.1.2.2.2.1 (C.1.2.2.2.2 _ h1) hO C.2.1 hP hD hS C.2.2.1 (fun q => ?_) ?_ (by omega) hcs.1 hcs.2 hdg (fun q cA H1 hK1 a1 a2 a3 => ?_)
  · have h : jk_I (n : Int) < jk_I 0 := q
    rw [jk_lt ⟨by omega, by omega⟩ ⟨by omega, by omega⟩] at h
    omega
  · rw [jk_clamp (by omega) (by omega)]
    omega
  · obtain ⟨_, _, _, _, _, e1⟩ := (hK1.2 tys.length (cA, .object E) (by simp)).2
    obtain ⟨_, _, _, _, _, e2⟩ := (C.2.1.2 t0 (cO, .object E) ht).2
    have e3 : cA = cO := Option.some.inj (e1.symm.trans e2)
    subst e3
    exact kk q _ (by rw [← hws]; exact (jm_lk_push a2).1) (by rw [← hws]; exact (jm_lk_push a2).2) H1 locs ls hl a1 a2 a3
end JM1
