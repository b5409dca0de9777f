/-! the words that every method is given: the good ones of the tables -/
def jk_WA : List Cond := lw_tbl.filter goodWord
theorem jk_WA_of {w : Cond} (h : w ∈ lw_tbl) (g : goodWord w = true) : w ∈ jk_WA := List.mem_filter.mpr ⟨h, g⟩
theorem jk_tb {w : Cond} (i : Nat) (h : tables_1[i]? = some w) (g : goodWord w = true) : w ∈ jk_WA := jk_WA_of (List.mem_append_right _ (List.mem_of_getElem? h)) g
theorem jk_sl {y : MethodName} (i : Nat) {k : Nat} (h : lw_privs[i]? = some (y, k)) : Cond.selects y.cls y y ∈ jk_WA := jk_WA_of (List.mem_append_left _ (List.mem_map.mpr ⟨(y, k), List.mem_of_getElem? h, rfl⟩)) rfl
theorem jk_good {w : Cond} (h : w ∈ jk_WA) : (w.onTables && w.keeps) = true ∨ ∃ ty, w = .arrayClass ty := good_of_word (List.mem_filter.mp h).2
theorem jk_goodIn {y : MethodName} {b : ByteArray} {n : Nat} {r : Option FieldType} (h : Cond.code y b n r ∈ jk_WA) : GoodIn jk_WA (.code y b n r :: jk_WA) := fun w hw => (List.mem_cons.mp hw).elim (fun q => q ▸ ⟨h, jk_good h⟩) (fun q => ⟨q, jk_good q⟩)
/-! sets of several cells -/
def jk_fd {α : Type} (k : Nat) : List Nat → List α → Option α
  | [], _ => none
  | _ :: _, [] => none
  | i :: is, c :: cs => cond (Nat.beq i k) (some c) (jk_fd k is cs)
def jk_rep {α : Type} : List α → Nat → List Nat → List α → List α
  | [], _, _, _ => []
  | x :: xs, k, is, cs => (jk_fd k is cs).getD x :: jk_rep xs (k + 1) is cs
def jk_put {α : Type} (ws : List α) (is : List Nat) (cs : List α) : List α := jk_rep ws 0 is cs
theorem jk_fd_s {α : Type} {k : Nat} : ∀ (is : List Nat) (cs : List α) (c : α), jk_fd k is cs = some c → ∃ j : Nat, is[j]? = some k ∧ cs[j]? = some c := by
  intro is
  induction is with
  | nil => intro cs c h; cases h
  | cons i is ih =>
    intro cs c h
    cases cs with
    | nil => cases h
    | cons c' cs =>
      unfold jk_fd at h
      cases hb : Nat.beq i k with
      | true =>
        rw [hb] at h
        cases h
        exact ⟨0, by rw [Nat.eq_of_beq_eq_true hb]; rfl, rfl⟩
      | false =>
        rw [hb] at h
        obtain ⟨j, h1, h2⟩ := ih cs c h
        exact ⟨j + 1, h1, h2⟩
theorem jk_fd_n {α : Type} {k : Nat} : ∀ (is : List Nat) (cs : List α), is.length = cs.length → jk_fd k is cs = none → k ∉ is := by
  intro is
  induction is with
  | nil => intro cs _ _; exact List.not_mem_nil
  | cons i is ih =>
    intro cs hl h
    cases cs with
    | nil => cases hl
    | cons c' cs =>
      unfold jk_fd at h
      cases hb : Nat.beq i k with
      | true => rw [hb] at h; cases h
      | false =>
        rw [hb] at h
        intro hm
        rcases List.mem_cons.mp hm with q | q
        · subst q
          rw [Nat.beq_refl] at hb
          cases hb
        · exact ih cs (by simpa using hl) h q
theorem jk_rep_get {α : Type} (is : List Nat) (cs : List α) (hl : is.length = cs.length) : ∀ (ws : List α) (o k : Nat) (x : α), (jk_rep ws o is cs)[k]? = some x → (∃ j : Nat, is[j]? = some (o + k) ∧ cs[j]? = some x) ∨ (ws[k]? = some x ∧ o + k ∉ is) := by
  intro ws
  induction ws with
  | nil => intro o k x h; cases h
  | cons y ws ih =>
    intro o k x h
    unfold jk_rep at h
    cases k with
    | zero =>
      have h' : (jk_fd o is cs).getD y = x := Option.some.inj h
      cases hf : jk_fd o is cs with
      | some c =>
        rw [hf] at h'
        cases h'
        exact Or.inl (jk_fd_s is cs c hf)
      | none =>
        rw [hf] at h'
        cases h'
        exact Or.inr ⟨rfl, jk_fd_n is cs hl hf⟩
    | succ k =>
      have h' : (jk_rep ws (o + 1) is cs)[k]? = some x := h
      have e : o + (k + 1) = o + 1 + k := by omega
      rw [e]
      exact ih (o + 1) k x h'
theorem jk_put_get {α : Type} : ∀ (is : List Nat) (cs ws : List α) (k : Nat) (x : α), is.length = cs.length → (jk_put ws is cs)[k]? = some x → (∃ j : Nat, is[j]? = some k ∧ cs[j]? = some x) ∨ (ws[k]? = some x ∧ k ∉ is) := by
  intro is cs ws k x hl h
  have := jk_rep_get is cs hl ws 0 k x h
  rwa [Nat.zero_add] at this
theorem jk_rep_len {α : Type} (is : List Nat) (cs : List α) : ∀ (ws : List α) (o : Nat), (jk_rep ws o is cs).length = ws.length := by
  intro ws
  induction ws with
  | nil => intro o; rfl
  | cons y ws ih => intro o; unfold jk_rep; rw [List.length_cons, List.length_cons, ih]
theorem jk_put_map {α β : Type} (f : α → β) : ∀ (is : List Nat) (cs ws : List α), is.length = cs.length → (∀ j i : Nat, is[j]? = some i → (ws[i]?).map f = (cs[j]?).map f) → (jk_put ws is cs).map f = ws.map f := by
  intro is cs ws hl h
  apply List.ext_getElem?
  intro k
  rw [List.getElem?_map, List.getElem?_map]
  cases hp : (jk_put ws is cs)[k]? with
  | none =>
    have h1 : ws.length ≤ k := by
      have := List.getElem?_eq_none_iff.mp hp
      rwa [show (jk_put ws is cs).length = ws.length from jk_rep_len is cs ws 0] at this
    rw [List.getElem?_eq_none h1]
  | some x =>
    rcases jk_put_get is cs ws k x hl hp with ⟨j, h1, h2⟩ | ⟨h1, h2⟩
    · rw [h j k h1, h2]
    · rw [h1]
theorem jk_rep_nil {α : Type} : ∀ (ws : List α) (o : Nat), jk_rep ws o [] [] = ws := by
  intro ws
  induction ws with
  | nil => intro o; rfl
  | cons y ws ih => intro o; show y :: jk_rep ws (o + 1) [] [] = _; rw [ih]
theorem jk_put_nil {α : Type} (ws : List α) : jk_put ws [] [] = ws := jk_rep_nil ws 0
theorem jk_D_map {A : Nat → Prop} {ws ws' : va_W} (hD : va_D A ws) (h : ws'.map (·.1) = ws.map (·.1)) : va_D A ws' := by
  have g : ∀ (k : Nat) (q : Nat × va_E), ws'[k]? = some q → ∃ q', ws[k]? = some q' ∧ q'.1 = q.1 := by
    intro k q hq
    have h1 : (ws'.map (·.1))[k]? = some q.1 := by rw [List.getElem?_map, hq]; rfl
    rw [h, List.getElem?_map] at h1
    cases hw : ws[k]? with
    | none => rw [hw] at h1; cases h1
    | some z => rw [hw] at h1; exact ⟨z, rfl, Option.some.inj h1⟩
  refine ⟨fun i j p q hi hj e => ?_, fun k q hk => ?_⟩
  · obtain ⟨p', h1, h2⟩ := g i p hi
    obtain ⟨q', h3, h4⟩ := g j q hj
    exact hD.1 i j p' q' h1 h3 (by rw [h2, h4]; exact e)
  · obtain ⟨q', h1, h2⟩ := g k q hk
    rw [← h2]
    exact hD.2 k q' h1
/-- behind a call: the callee's cells anew, at their places, all else as it was -/
theorem jk_join {D : va_G} {cl : List vw_C} {A : Nat → Prop} {ws wc wc' ws' : va_W} {H H1 : Heap} (hP : va_P D cl ws H) (hD : va_D A ws) (is : List Nat) (hC : is.map (fun i => ws[i]?) = wc.map some) (had : wc'.map (·.1) = wc.map (·.1)) (hw : jk_put ws is wc' = ws')
    (hk : ∀ q : Nat, q < H.size → ¬ va_A wc H.size q → H1[q]? = H[q]?) (hP1 : va_P D cl wc' H1) : va_P D cl ws' H1 ∧ va_D A ws' := by
  have hlen : is.length = wc.length := by simpa using congrArg List.length hC
  have hlen' : wc'.length = wc.length := by simpa using congrArg List.length had
  have at' : ∀ (j i : Nat), is[j]? = some i → ws[i]? = wc[j]? := by
    intro j i hj
    have h1 : (is.map (fun i => ws[i]?))[j]? = some (ws[i]?) := by rw [List.getElem?_map, hj]; rfl
    rw [hC, List.getElem?_map] at h1
    cases hw : wc[j]? with
    | none => rw [hw] at h1; cases h1
    | some z => rw [hw] at h1; exact (Option.some.inj h1).symm
  subst hw
  constructor
  · intro k q hq
    rcases jk_put_get is wc' ws k q (by omega) hq with ⟨j, h1, h2⟩ | ⟨h1, h2⟩
    · exact hP1 j q h2
    · refine (hP k q h1).kept (hk q.1 (hP k q h1).lt (fun z => ?_))
      rcases z with ⟨j, e, hj⟩ | z
      · have hjl : j < is.length := by
          have := (List.getElem?_eq_some_iff.mp hj).1
          omega
        have h3 := at' j is[j] (List.getElem?_eq_getElem hjl)
        rw [hj] at h3
        have h4 := hD.1 is[j] k _ q h3 h1 rfl
        exact h2 (h4 ▸ List.getElem_mem hjl)
      · exact absurd (hP k q h1).lt (Nat.not_lt.mpr z)
  · refine jk_D_map hD (jk_put_map _ is wc' ws (by omega) (fun j i hj => ?_))
    rw [at' j i hj, ← List.getElem?_map, ← List.getElem?_map, had]
/-! contracts: what a method wants, what it leaves -/
/-- what the walk knows of cells that nobody writes -/
def jk_ZC (Z : (Nat → Prop) → State → Heap → Prop) : Prop := (∀ (A : Nat → Prop) (u U : State) (H : Heap), U.vm = u.vm → Z A u H → Z A U H) ∧ (∀ (A : Nat → Prop) (u U : State) (H : Heap), u.WarmedH U.vm → Z A u H → Z A U H) ∧ (∀ (A : Nat → Prop) (U : State) (H H1 : Heap), (∀ a : Nat, a < H.size → ¬ A a → H1[a]? = H[a]?) → Z A U H → Z A U H1) ∧ (∀ (A B : Nat → Prop) (U : State) (H : Heap), (∀ q, B q → A q) → Z A U H → Z B U H)
def jk_Pre (D : va_G) (cl : List vw_C) (tys : List (ClassId × FieldType)) (Z : (Nat → Prop) → State → Heap → Prop) (w : va_W) (sz : Nat) (U : State) : Prop := U.heap.size = sz ∧ va_P D cl w U.heap ∧ va_K D cl tys U ∧ va_D (fun _ => True) w ∧ Z (va_A w sz) U U.heap
def jk_Post (D : va_G) (cl : List vw_C) (tys : List (ClassId × FieldType)) (w' : va_W) (t : State) : Prop := va_P D cl w' t.heap ∧ va_K D cl tys t
abbrev jk_rm (f lo : Nat) : Room := { frames := f, cells := 0, slots := 0, locals := lo }
def jk_MI (l : Launch) (D : va_G) (cl : List vw_C) (tys : List (ClassId × FieldType)) (Z : (Nat → Prop) → State → Heap → Prop) (y : MethodName) (wy : List Cond) (rm : Room) (as : List Value) (w w' : va_W) (r : Int) : Prop :=
  ∀ sz, Met l y wy rm (va_Pc as (jk_Pre D cl tys Z w sz)) (va_Qi (fun (r' : Int32) (_ : Unit) => r' = jk_I r) (fun _ t => jk_Post D cl tys w' t) (va_A w sz)) 0 0 (va_A w sz)
def jk_MV (l : Launch) (D : va_G) (cl : List vw_C) (tys : List (ClassId × FieldType)) (Z : (Nat → Prop) → State → Heap → Prop) (y : MethodName) (wy : List Cond) (rm : Room) (as : List Value) (w w' : va_W) : Prop :=
  ∀ sz, Met l y wy rm (va_Pc as (jk_Pre D cl tys Z w sz)) (va_Qv (fun (_ : Unit) => True) (fun _ t => jk_Post D cl tys w' t) (va_A w sz)) 0 0 (va_A w sz)
def jk_MR (l : Launch) (D : va_G) (cl : List vw_C) (tys : List (ClassId × FieldType)) (Z : (Nat → Prop) → State → Heap → Prop) (y : MethodName) (wy : List Cond) (rm : Room) (as : List Value) (w w' : va_W) (r : Option Nat) : Prop :=
  ∀ sz, Met l y wy rm (va_Pc as (jk_Pre D cl tys Z w sz)) (va_Qq (fun (r' : Option Nat) (_ : Unit) => r' = r) (fun _ t => jk_Post D cl tys w' t) (va_A w sz)) 0 0 (va_A w sz)
theorem jk_blind {D : va_G} {cl : List vw_C} {tys : List (ClassId × FieldType)} {Z : (Nat → Prop) → State → Heap → Prop} (hZ : jk_ZC Z) (as : List Value) (w : va_W) (sz : Nat) : FrameBlind (va_Pc as (jk_Pre D cl tys Z w sz)) :=
  fun a U g mk q => ⟨q.1, q.2.1, q.2.2.1, va_K.moved (u := U) (U := U.calling g mk a) (Vm.Alike.refl U.vm) q.2.2.2.1, q.2.2.2.2.1, hZ.1 _ U (U.calling g mk a) _ rfl q.2.2.2.2.2⟩
section JK3
variable {p : Program} {l : Launch} {e : Env} {R : Room} {s : State} {m : MethodId} {args : Array Value} {below : List Frame} {meth : Method} {c : Code} {cells slots : Nat} {Q : State → Prop} {D : va_G} {cl : List vw_C} {A : Nat → Prop} {nL : Nat} {ws ws' : va_W} {lv lv' : List (Nat × Value)} {pc : Nat} {st : List Value}
variable {cc : ByteArray} {own : String} {tys : List (ClassId × FieldType)} {ret : Option FieldType} {Z : (Nat → Prop) → State → Heap → Prop}
/-- a body's start -/
theorem jk_body {y : MethodName} {rm : Room} {as : List Value} {w : va_W} {sz maxL : Nat} {Qc : Array Value → State → Outcome → State → Prop} {mc ms : Nat} (hy : plainName y.cls = true)
    (k : ∀ (p : Program) (e : Env) (s : State) (m : MethodId) (args : Array Value) (below : List Frame) (meth : Method) (c : Code), s.heap.size = sz → Z (va_A w s.heap.size) s s.heap → (y.name = "<init>" → meth.name = "<init>") → jk_C p s m args meth c cc y.cls maxL jk_WA D cl tys (va_A w s.heap.size) ret →
      jk_J p l e rm s m args below meth c 0 0 (MQ below Qc args s mc ms (va_A w sz)) D cl (va_A w s.heap.size) maxL w (lv_args 0 as) 0 []) (hsl : (lg_sl as).length ≤ maxL) : Met l y (.code y cc maxL ret :: jk_WA) rm (va_Pc as (jk_Pre D cl tys Z w sz)) Qc mc ms (va_A w sz) := by
  refine Met.ofW (cc := cc) (maxL := maxL) (ret := ret) hy rfl ?_
  intro p e s m args below meth c s₁ B hml hv
  obtain ⟨rfl, hsz, hP, hK, hD0, hZ0⟩ := hv
  have hts := atoms_spec (ws := .code y cc maxL ret :: jk_WA) B.pre
  have hown : s.vm.findClass y.cls = some m.cls := findClass_of_methodNamed B.named
  have hD := hD0.self (sz := s.heap.size)
  rw [lg_entry_eq]
  refine k p e s m _ below meth c hsz (by rw [hsz]; exact hZ0) (fun h => (name_of_methodNamed B.named B.method).1.trans h) ⟨⟨B.exec, B.bytes, hml, hown, fun w hw => hts w (List.mem_cons_of_mem _ hw)⟩, hK, fun q h => Or.inr h, B.returns, B.notSynchronized⟩ s.heap [] _ (lv_entry as hsl) hP hD va_S.rf
theorem jk_iret (C : jk_C p s m args meth c cc own nL jk_WA D cl tys A (some .int)) {sz : Nat} {w : va_W} {r : Int} (hA : va_A w sz = A) (hdg : decode cc pc = .ok (.ireturn, 1)) (hw : ws = ws') : jk_J p l e R s m args below meth c cells slots (MQ below (va_Qi (fun (r' : Int32) (_ : Unit) => r' = jk_I r) (fun _ t => jk_Post D cl tys ws' t) (va_A w sz)) args s cells slots (va_A w sz)) D cl A nL ws lv pc [jk_V r] := by
  subst hw; subst hA
  intro H locs ls hl hP hD hS
  exact W.iret C.1.1 C.1.2.1 C.2.2.2.1 (fun t ht hW => ⟨⟨jk_I r, (), rfl, rfl, by rw [ht]; exact hP, va_K.moved hW.alike C.2.1⟩, hS.F ht⟩) hS.2.2 hdg C.2.2.2.2
theorem jk_narrow_bool {r : Int} (h : r = 0 ∨ r = 1) : narrow .boolean (.int (jk_I r)) = .int (jk_I r) := by
  rcases h with rfl | rfl <;> decide +kernel
theorem jk_zret (C : jk_C p s m args meth c cc own nL jk_WA D cl tys A (some .boolean)) {sz : Nat} {w : va_W} {r : Int} (hb : r = 0 ∨ r = 1) (hA : va_A w sz = A) (hdg : decode cc pc = .ok (.ireturn, 1)) (hw : ws = ws') : jk_J p l e R s m args below meth c cells slots (MQ below (va_Qi (fun (r' : Int32) (_ : Unit) => r' = jk_I r) (fun _ t => jk_Post D cl tys ws' t) (va_A w sz)) args s cells slots (va_A w sz)) D cl A nL ws lv pc [jk_V r] := by
  subst hw; subst hA
  intro H locs ls hl hP hD hS
  exact W.zret C.1.1 C.1.2.1 C.2.2.2.1 (jk_narrow_bool hb) (fun t ht hW => ⟨⟨jk_I r, (), rfl, rfl, by rw [ht]; exact hP, va_K.moved hW.alike C.2.1⟩, hS.F ht⟩) hS.2.2 hdg C.2.2.2.2
theorem jk_vret (C : jk_C p s m args meth c cc own nL jk_WA D cl tys A none) {sz : Nat} {w : va_W} (hA : va_A w sz = A) (hdg : decode cc pc = .ok (.return_, 1)) (hw : ws = ws') : jk_J p l e R s m args below meth c cells slots (MQ below (va_Qv (fun (_ : Unit) => True) (fun _ t => jk_Post D cl tys ws' t) (va_A w sz)) args s cells slots (va_A w sz)) D cl A nL ws lv pc [] := by
  subst hw; subst hA
  intro H locs ls hl hP hD hS
  exact W.vret C.1.1 C.1.2.1 C.2.2.2.1 (fun t ht hW => ⟨⟨(), rfl, trivial, by rw [ht]; exact hP, va_K.moved hW.alike C.2.1⟩, hS.F ht⟩) hS.2.2 hdg C.2.2.2.2
/-- what a call wants of the callee's world -/
theorem jk_pre {wc : va_W} {is : List Nat} {H : Heap} {locs : List Loc} (hZ : jk_ZC Z) (hz : Z A s s.heap) (hA : ∀ q, s.heap.size ≤ q → A q) (hK : va_K D cl tys s) (hP : va_P D cl ws H) (hD : va_D A ws) (hS : va_S A s.heap H locs) (hC : is.map (fun i => ws[i]?) = wc.map some) (hn : va_nd is = true) (as : List Value) :
    FrameBlind (va_Pc as (jk_Pre D cl tys Z wc H.size)) ∧ (∀ U : State, U.heap = H → s.WarmedH U.vm → va_Pc as (jk_Pre D cl tys Z wc H.size) as.toArray U) ∧ va_P D cl wc H ∧ (∀ q, va_A wc H.size q → A q) := by
  have hF := va_free (wc := wc) hD hS hA is hC
  have hat : ∀ (k : Nat) (q : Nat × va_E), wc[k]? = some q → ∃ i : Nat, ws[i]? = some q := by
    intro k q hq
    have h1 : (wc.map some)[k]? = some (some q) := by rw [List.getElem?_map, hq]; rfl
    rw [← hC, List.getElem?_map] at h1
    cases hi : is[k]? with
    | none => rw [hi] at h1; cases h1
    | some i => rw [hi] at h1; exact ⟨i, Option.some.inj h1⟩
  have hPc : va_P D cl wc H := fun k q hq => by
    obtain ⟨i, hi⟩ := hat k q hq
    exact hP i q hi
  refine ⟨jk_blind hZ as wc H.size, fun U hU hW => ⟨rfl, by rw [hU], by rw [hU]; exact hPc, va_K.moved hW.alike hK, (hD.sub is hn hC).weaken (fun _ _ _ _ => trivial), ?_⟩, hPc, hF⟩
  rw [hU]
  exact hZ.2.1 _ s U _ hW (hZ.2.2.2 A _ s H hF (hZ.2.2.1 A s s.heap H (fun a h1 h2 => hS.2.1 a h1 h2) hz))
end JK3
section JK4
variable {p : Program} {l : Launch} {e : Env} {R : Room} {s : State} {m : MethodId} {args : Array Value} {below : List Frame} {meth : Method} {c : Code} {cells slots : Nat} {Q : State → Prop} {D : va_G} {cl : List vw_C} {A : Nat → Prop} {nL : Nat} {ws ws' wc wc' : va_W} {lv lv' : List (Nat × Value)} {pc : Nat} {st st0 : List Value}
variable {cc : ByteArray} {own : String} {tys : List (ClassId × FieldType)} {ret ret' : Option FieldType} {Z : (Nat → Prop) → State → Heap → Prop}
variable {y : MethodName} {bytes : ByteArray} {maxL n index : Nat} {rm : Room} {b : Nat} {As : List Value}
/-- the end of every plain call: the run, the world behind it -/
theorem jk_goi {is : List Nat} {as : List Value} {av : Array Value} (hC : is.map (fun i => ws[i]?) = wc.map some) (had : wc'.map (·.1) = wc.map (·.1)) (hw : jk_put ws is wc' = ws') {H : Heap} {locs : List Loc} {ls : Array Slot} {r : Int} (hl : lv_has ls nL lv) (hP : va_P D cl ws H) (hD : va_D A ws) (hS : va_S A s.heap H locs) (hF : ∀ q, va_A wc H.size q → A q)
    (hr : va_Run p l e R s m args below meth c H locs cells slots 0 0 (F0 m pc ls st0) st (va_Qi (fun (r' : Int32) (_ : Unit) => r' = jk_I r) (fun _ t => jk_Post D cl tys wc' t) (va_A wc H.size) av) (va_A wc H.size))
    (kk : jk_J p l e R s m args below meth c cells slots Q D cl A nL ws' lv (pc + 3) (jk_V r :: st)) : W p l e R s m args below meth c H locs cells slots Q (F0 m pc ls st0) := by
  refine va_calli hr hS (fun q _ h => hF q h) hF (fun r' u t H1 locs1 ht hvm hw1 hB hz1 hk1 hS1 => ?_)
  obtain ⟨hP1, -⟩ := hB
  rw [ht] at hP1
  obtain ⟨h1, h2⟩ := jk_join hP hD is hC had hw hk1 hP1
  subst hw1
  exact kk H1 locs1 ls hl h1 h2 hS1
theorem jk_gov {is : List Nat} {av : Array Value} (hC : is.map (fun i => ws[i]?) = wc.map some) (had : wc'.map (·.1) = wc.map (·.1)) (hw : jk_put ws is wc' = ws') {H : Heap} {locs : List Loc} {ls : Array Slot} (hl : lv_has ls nL lv) (hP : va_P D cl ws H) (hD : va_D A ws) (hS : va_S A s.heap H locs) (hF : ∀ q, va_A wc H.size q → A q)
    (hr : va_Run p l e R s m args below meth c H locs cells slots 0 0 (F0 m pc ls st0) st (va_Qv (fun (_ : Unit) => True) (fun _ t => jk_Post D cl tys wc' t) (va_A wc H.size) av) (va_A wc H.size))
    (kk : jk_J p l e R s m args below meth c cells slots Q D cl A nL ws' lv (pc + 3) st) : W p l e R s m args below meth c H locs cells slots Q (F0 m pc ls st0) := by
  refine va_callv hr hS (fun q _ h => hF q h) hF (fun u t H1 locs1 ht hvm hw1 hB hz1 hk1 hS1 => ?_)
  obtain ⟨hP1, -⟩ := hB
  rw [ht] at hP1
  obtain ⟨h1, h2⟩ := jk_join hP hD is hC had hw hk1 hP1
  exact kk H1 locs1 ls hl h1 h2 hS1
theorem jk_goq {is : List Nat} {av : Array Value} (hC : is.map (fun i => ws[i]?) = wc.map some) (had : wc'.map (·.1) = wc.map (·.1)) (hw : jk_put ws is wc' = ws') {H : Heap} {locs : List Loc} {ls : Array Slot} {r : Option Nat} (hl : lv_has ls nL lv) (hP : va_P D cl ws H) (hD : va_D A ws) (hS : va_S A s.heap H locs) (hF : ∀ q, va_A wc H.size q → A q)
    (hr : va_Run p l e R s m args below meth c H locs cells slots 0 0 (F0 m pc ls st0) st (va_Qq (fun (r' : Option Nat) (_ : Unit) => r' = r) (fun _ t => jk_Post D cl tys wc' t) (va_A wc H.size) av) (va_A wc H.size))
    (kk : jk_J p l e R s m args below meth c cells slots Q D cl A nL ws' lv (pc + 3) (va_rf r :: st)) : W p l e R s m args below meth c H locs cells slots Q (F0 m pc ls st0) := by
  refine va_callq hr hS (fun q _ h => hF q h) hF (fun r' u t H1 locs1 ht hvm hw1 hB hz1 hk1 hS1 => ?_)
  obtain ⟨hP1, -⟩ := hB
  rw [ht] at hP1
  obtain ⟨h1, h2⟩ := jk_join hP hD is hC had hw hk1 hP1
  subst hw1
  exact kk H1 locs1 ls hl h1 h2 hS1
/-- a method's name as a call wants it -/
def jk_nm (y : MethodName) (n : Nat) : Prop := y.cls ≠ "java/lang/invoke/MethodHandle" ∧ y.cls ≠ "java/lang/invoke/VarHandle" ∧ (parseMethodDescriptor y.desc).map (fun d => d.parameters.length) = some n
theorem jk_cwV (C : jk_C p s m args meth c cc own nL jk_WA D cl tys A ret) (h1 : Cond.methodLink own index y ∈ jk_WA) (h2 : Cond.instanceMethod y ∈ jk_WA) (h3 : Cond.selects y.cls y y ∈ jk_WA) (h4 : Cond.initialized y.cls ∈ jk_WA) (h5 : Cond.code y bytes maxL ret' ∈ jk_WA) (hd : jk_nm y n) {f lo : Nat} (hR : f + 1 ≤ R.frames ∧ 8 + (maxL + 11) + lo ≤ R.locals) :
    CallW R s args own y.cls index y bytes maxL ret' (.code y bytes maxL ret' :: jk_WA) (jk_rm f lo) 0 0 n :=
  cwV n C.1.2.2.2.2 (fun w hw => by
    rcases List.mem_append.mp hw with q | q
    · have : w ∈ jk_WA := by
        rcases List.mem_cons.mp q with rfl | q
        · exact h1
        rcases List.mem_cons.mp q with rfl | q
        · exact h2
        rcases List.mem_cons.mp q with rfl | q
        · exact h3
        rcases List.mem_cons.mp q with rfl | q
        · exact h4
        exact absurd q List.not_mem_nil
      exact ⟨this, jk_good this⟩
    · exact jk_goodIn h5 w q) rfl rfl rfl ⟨rfl, hd⟩ hR
theorem jk_cwS (C : jk_C p s m args meth c cc own nL jk_WA D cl tys A ret) (h1 : Cond.methodLink own index y ∈ jk_WA) (h2 : Cond.static y ∈ jk_WA) (h4 : Cond.initialized y.cls ∈ jk_WA) (h5 : Cond.code y bytes maxL ret' ∈ jk_WA) (hd : jk_nm y n) {f lo : Nat} (hR : f + 1 ≤ R.frames ∧ 8 + (maxL + 11) + lo ≤ R.locals) :
    CallB R s args own index y bytes maxL ret' (.code y bytes maxL ret' :: jk_WA) (jk_rm f lo) 0 0 n ∧ (Cond.static y).before args s = true :=
  va_cwS n C.1.2.2.2.2 (fun w hw => by
    rcases List.mem_append.mp hw with q | q
    · have : w ∈ jk_WA := by
        rcases List.mem_cons.mp q with rfl | q
        · exact h1
        rcases List.mem_cons.mp q with rfl | q
        · exact h2
        rcases List.mem_cons.mp q with rfl | q
        · exact h4
        exact absurd q List.not_mem_nil
      exact ⟨this, jk_good this⟩
    · exact jk_goodIn h5 w q) rfl rfl rfl hd hR
theorem jk_cwN {host : String} (C : jk_C p s m args meth c cc own nL jk_WA D cl tys A ret) (h1 : va_Nw (Cond.methodLinkNest own index y host) s) (h4 : Cond.initialized y.cls ∈ jk_WA) (h5 : Cond.code y bytes maxL ret' ∈ jk_WA) (hd : jk_nm y n) {f lo : Nat} (hR : f + 1 ≤ R.frames ∧ 8 + (maxL + 11) + lo ≤ R.locals) :
    va_CN R s args own index y host bytes maxL ret' (.code y bytes maxL ret' :: jk_WA) (jk_rm f lo) 0 0 n :=
  va_cnB n C.1.2.2.2.2 (jk_goodIn h5) rfl rfl rfl h1 (C.1.2.2.2.2 _ h4) hd hR
/-- a virtual call that answers an int -/
theorem jk_callVi (C : jk_C p s m args meth c cc own nL jk_WA D cl tys A ret) (hZ : jk_ZC Z) (hz : Z A s s.heap) {f lo : Nat} {r : Int} (hM : jk_MI l D cl tys Z y (.code y bytes maxL ret' :: jk_WA) (jk_rm f lo) (.ref b :: As) wc wc' r)
    (h1 : Cond.methodLink own index y ∈ jk_WA) (h2 : Cond.instanceMethod y ∈ jk_WA) (h3 : Cond.selects y.cls y y ∈ jk_WA) (h4 : Cond.initialized y.cls ∈ jk_WA) (h5 : Cond.code y bytes maxL ret' ∈ jk_WA) (hd : jk_nm y n) (hR : f + 1 ≤ R.frames ∧ 8 + (maxL + 11) + lo ≤ R.locals) (hn : As.length = n)
    (is : List Nat) (hC : is.map (fun i => ws[i]?) = wc.map some) (hnd : va_nd is = true) (had : wc'.map (·.1) = wc.map (·.1)) (hw : jk_put ws is wc' = ws') (q0 ci : Nat) {q : vw_C} {fs : List Value} (hq : ws[q0]? = some (b, .inr (ci, fs))) (hc : cl[ci]? = some q) (hqy : q.1 = y.cls)
    (hst : st0 = As.reverse ++ .ref b :: st) (hW : (st.map fun v => v.category).sum ≤ 8) (hdg : decode cc pc = .ok (.invokevirtual index, 3))
    (kk : jk_J p l e R s m args below meth c cells slots Q D cl A nL ws' lv (pc + 3) (jk_V r :: st)) : cells + 0 ≤ R.cells ∧ slots + 0 ≤ R.slots → jk_J p l e R s m args below meth c cells slots Q D cl A nL ws lv pc st0 := by
  intro hcs H locs ls hl hP hD hS
  obtain ⟨g1, g2, g3, g4⟩ := jk_pre hZ hz C.2.2.1 C.2.1 hP hD hS hC hnd (.ref b :: As)
  have hrecv := va_recv C.2.1 hP hc hq
  rw [hqy] at hrecv
  exact jk_goi (as := As) hC had hw hl hP hD hS g4 (va_runV (As := As) (rest := st) C.1 (hM H.size) (jk_cwV C h1 h2 h3 h4 h5 hd hR) ⟨g1, hrecv, g2⟩ rfl hn hl.1 hst (lv_room hW) hdg hcs) kk
theorem jk_callVv (C : jk_C p s m args meth c cc own nL jk_WA D cl tys A ret) (hZ : jk_ZC Z) (hz : Z A s s.heap) {f lo : Nat} (hM : jk_MV l D cl tys Z y (.code y bytes maxL ret' :: jk_WA) (jk_rm f lo) (.ref b :: As) wc wc')
    (h1 : Cond.methodLink own index y ∈ jk_WA) (h2 : Cond.instanceMethod y ∈ jk_WA) (h3 : Cond.selects y.cls y y ∈ jk_WA) (h4 : Cond.initialized y.cls ∈ jk_WA) (h5 : Cond.code y bytes maxL ret' ∈ jk_WA) (hd : jk_nm y n) (hR : f + 1 ≤ R.frames ∧ 8 + (maxL + 11) + lo ≤ R.locals) (hn : As.length = n)
    (is : List Nat) (hC : is.map (fun i => ws[i]?) = wc.map some) (hnd : va_nd is = true) (had : wc'.map (·.1) = wc.map (·.1)) (hw : jk_put ws is wc' = ws') (q0 ci : Nat) {q : vw_C} {fs : List Value} (hq : ws[q0]? = some (b, .inr (ci, fs))) (hc : cl[ci]? = some q) (hqy : q.1 = y.cls)
    (hst : st0 = As.reverse ++ .ref b :: st) (hW : (st.map fun v => v.category).sum ≤ 8) (hdg : decode cc pc = .ok (.invokevirtual index, 3))
    (kk : jk_J p l e R s m args below meth c cells slots Q D cl A nL ws' lv (pc + 3) st) : cells + 0 ≤ R.cells ∧ slots + 0 ≤ R.slots → jk_J p l e R s m args below meth c cells slots Q D cl A nL ws lv pc st0 := by
  intro hcs H locs ls hl hP hD hS
  obtain ⟨g1, g2, g3, g4⟩ := jk_pre hZ hz C.2.2.1 C.2.1 hP hD hS hC hnd (.ref b :: As)
  have hrecv := va_recv C.2.1 hP hc hq
  rw [hqy] at hrecv
  exact jk_gov hC had hw hl hP hD hS g4 (va_runV (As := As) (rest := st) C.1 (hM H.size) (jk_cwV C h1 h2 h3 h4 h5 hd hR) ⟨g1, hrecv, g2⟩ rfl hn hl.1 hst (lv_room hW) hdg hcs) kk
theorem jk_callVq (C : jk_C p s m args meth c cc own nL jk_WA D cl tys A ret) (hZ : jk_ZC Z) (hz : Z A s s.heap) {f lo : Nat} {r : Option Nat} (hM : jk_MR l D cl tys Z y (.code y bytes maxL ret' :: jk_WA) (jk_rm f lo) (.ref b :: As) wc wc' r)
    (h1 : Cond.methodLink own index y ∈ jk_WA) (h2 : Cond.instanceMethod y ∈ jk_WA) (h3 : Cond.selects y.cls y y ∈ jk_WA) (h4 : Cond.initialized y.cls ∈ jk_WA) (h5 : Cond.code y bytes maxL ret' ∈ jk_WA) (hd : jk_nm y n) (hR : f + 1 ≤ R.frames ∧ 8 + (maxL + 11) + lo ≤ R.locals) (hn : As.length = n)
    (is : List Nat) (hC : is.map (fun i => ws[i]?) = wc.map some) (hnd : va_nd is = true) (had : wc'.map (·.1) = wc.map (·.1)) (hw : jk_put ws is wc' = ws') (q0 ci : Nat) {q : vw_C} {fs : List Value} (hq : ws[q0]? = some (b, .inr (ci, fs))) (hc : cl[ci]? = some q) (hqy : q.1 = y.cls)
    (hst : st0 = As.reverse ++ .ref b :: st) (hW : (st.map fun v => v.category).sum ≤ 8) (hdg : decode cc pc = .ok (.invokevirtual index, 3))
    (kk : jk_J p l e R s m args below meth c cells slots Q D cl A nL ws' lv (pc + 3) (va_rf r :: st)) : cells + 0 ≤ R.cells ∧ slots + 0 ≤ R.slots → jk_J p l e R s m args below meth c cells slots Q D cl A nL ws lv pc st0 := by
  intro hcs H locs ls hl hP hD hS
  obtain ⟨g1, g2, g3, g4⟩ := jk_pre hZ hz C.2.2.1 C.2.1 hP hD hS hC hnd (.ref b :: As)
  have hrecv := va_recv C.2.1 hP hc hq
  rw [hqy] at hrecv
  exact jk_goq hC had hw hl hP hD hS g4 (va_runV (As := As) (rest := st) C.1 (hM H.size) (jk_cwV C h1 h2 h3 h4 h5 hd hR) ⟨g1, hrecv, g2⟩ rfl hn hl.1 hst (lv_room hW) hdg hcs) kk
/-- static calls -/
theorem jk_callSi (C : jk_C p s m args meth c cc own nL jk_WA D cl tys A ret) (hZ : jk_ZC Z) (hz : Z A s s.heap) {f lo : Nat} {r : Int} (hM : jk_MI l D cl tys Z y (.code y bytes maxL ret' :: jk_WA) (jk_rm f lo) As wc wc' r)
    (h1 : Cond.methodLink own index y ∈ jk_WA) (h2 : Cond.static y ∈ jk_WA) (h4 : Cond.initialized y.cls ∈ jk_WA) (h5 : Cond.code y bytes maxL ret' ∈ jk_WA) (hd : jk_nm y n) (hR : f + 1 ≤ R.frames ∧ 8 + (maxL + 11) + lo ≤ R.locals) (hn : As.length = n)
    (is : List Nat) (hC : is.map (fun i => ws[i]?) = wc.map some) (hnd : va_nd is = true) (had : wc'.map (·.1) = wc.map (·.1)) (hw : jk_put ws is wc' = ws')
    (hst : st0 = As.reverse ++ st) (hW : (st.map fun v => v.category).sum ≤ 8) (hdg : decode cc pc = .ok (.invokestatic index, 3))
    (kk : jk_J p l e R s m args below meth c cells slots Q D cl A nL ws' lv (pc + 3) (jk_V r :: st)) : cells + 0 ≤ R.cells ∧ slots + 0 ≤ R.slots → jk_J p l e R s m args below meth c cells slots Q D cl A nL ws lv pc st0 := by
  intro hcs H locs ls hl hP hD hS
  obtain ⟨g1, g2, g3, g4⟩ := jk_pre hZ hz C.2.2.1 C.2.1 hP hD hS hC hnd As
  exact jk_goi (as := As) hC had hw hl hP hD hS g4 (va_runS (As := As) (rest := st) C.1 (hM H.size) (jk_cwS C h1 h2 h4 h5 hd hR) ⟨g1, g2⟩ rfl hn hl.1 hst (lv_room hW) hdg hcs) kk
theorem jk_callSv (C : jk_C p s m args meth c cc own nL jk_WA D cl tys A ret) (hZ : jk_ZC Z) (hz : Z A s s.heap) {f lo : Nat} (hM : jk_MV l D cl tys Z y (.code y bytes maxL ret' :: jk_WA) (jk_rm f lo) As wc wc')
    (h1 : Cond.methodLink own index y ∈ jk_WA) (h2 : Cond.static y ∈ jk_WA) (h4 : Cond.initialized y.cls ∈ jk_WA) (h5 : Cond.code y bytes maxL ret' ∈ jk_WA) (hd : jk_nm y n) (hR : f + 1 ≤ R.frames ∧ 8 + (maxL + 11) + lo ≤ R.locals) (hn : As.length = n)
    (is : List Nat) (hC : is.map (fun i => ws[i]?) = wc.map some) (hnd : va_nd is = true) (had : wc'.map (·.1) = wc.map (·.1)) (hw : jk_put ws is wc' = ws')
    (hst : st0 = As.reverse ++ st) (hW : (st.map fun v => v.category).sum ≤ 8) (hdg : decode cc pc = .ok (.invokestatic index, 3))
    (kk : jk_J p l e R s m args below meth c cells slots Q D cl A nL ws' lv (pc + 3) st) : cells + 0 ≤ R.cells ∧ slots + 0 ≤ R.slots → jk_J p l e R s m args below meth c cells slots Q D cl A nL ws lv pc st0 := by
  intro hcs H locs ls hl hP hD hS
  obtain ⟨g1, g2, g3, g4⟩ := jk_pre hZ hz C.2.2.1 C.2.1 hP hD hS hC hnd As
  exact jk_gov hC had hw hl hP hD hS g4 (va_runS (As := As) (rest := st) C.1 (hM H.size) (jk_cwS C h1 h2 h4 h5 hd hR) ⟨g1, g2⟩ rfl hn hl.1 hst (lv_room hW) hdg hcs) kk
/-- calls of a nest mate's private methods -/
theorem jk_callVNi {host : String} (C : jk_C p s m args meth c cc own nL jk_WA D cl tys A ret) (hZ : jk_ZC Z) (hz : Z A s s.heap) {f lo : Nat} {r : Int} (hM : jk_MI l D cl tys Z y (.code y bytes maxL ret' :: jk_WA) (jk_rm f lo) (.ref b :: As) wc wc' r)
    (h1 : va_Nw (Cond.methodLinkNest own index y host) s) (h2 : Cond.instanceMethod y ∈ jk_WA) (h3 : Cond.selects y.cls y y ∈ jk_WA) (h4 : Cond.initialized y.cls ∈ jk_WA) (h5 : Cond.code y bytes maxL ret' ∈ jk_WA) (hd : jk_nm y n) (hR : f + 1 ≤ R.frames ∧ 8 + (maxL + 11) + lo ≤ R.locals) (hn : As.length = n)
    (is : List Nat) (hC : is.map (fun i => ws[i]?) = wc.map some) (hnd : va_nd is = true) (had : wc'.map (·.1) = wc.map (·.1)) (hw : jk_put ws is wc' = ws') (q0 ci : Nat) {q : vw_C} {fs : List Value} (hq : ws[q0]? = some (b, .inr (ci, fs))) (hc : cl[ci]? = some q) (hqy : q.1 = y.cls)
    (hst : st0 = As.reverse ++ .ref b :: st) (hW : (st.map fun v => v.category).sum ≤ 8) (hdg : decode cc pc = .ok (.invokevirtual index, 3))
    (kk : jk_J p l e R s m args below meth c cells slots Q D cl A nL ws' lv (pc + 3) (jk_V r :: st)) : cells + 0 ≤ R.cells ∧ slots + 0 ≤ R.slots → jk_J p l e R s m args below meth c cells slots Q D cl A nL ws lv pc st0 := by
  intro hcs H locs ls hl hP hD hS
  obtain ⟨g1, g2, g3, g4⟩ := jk_pre hZ hz C.2.2.1 C.2.1 hP hD hS hC hnd (.ref b :: As)
  have hrecv := va_recv C.2.1 hP hc hq
  rw [hqy] at hrecv
  exact jk_goi (as := As) hC had hw hl hP hD hS g4 (va_runVN (C := y.cls) (As := As) (rest := st) C.1 (hM H.size) ⟨jk_cwN C h1 h4 h5 hd hR, C.1.2.2.2.2 _ h2, C.1.2.2.2.2 _ h3⟩ ⟨g1, hrecv, g2⟩ rfl hn hl.1 hst (lv_room hW) hdg hcs) kk
theorem jk_callSNi {host : String} (C : jk_C p s m args meth c cc own nL jk_WA D cl tys A ret) (hZ : jk_ZC Z) (hz : Z A s s.heap) {f lo : Nat} {r : Int} (hM : jk_MI l D cl tys Z y (.code y bytes maxL ret' :: jk_WA) (jk_rm f lo) As wc wc' r)
    (h1 : va_Nw (Cond.methodLinkNest own index y host) s) (h2 : Cond.static y ∈ jk_WA) (h4 : Cond.initialized y.cls ∈ jk_WA) (h5 : Cond.code y bytes maxL ret' ∈ jk_WA) (hd : jk_nm y n) (hR : f + 1 ≤ R.frames ∧ 8 + (maxL + 11) + lo ≤ R.locals) (hn : As.length = n)
    (is : List Nat) (hC : is.map (fun i => ws[i]?) = wc.map some) (hnd : va_nd is = true) (had : wc'.map (·.1) = wc.map (·.1)) (hw : jk_put ws is wc' = ws')
    (hst : st0 = As.reverse ++ st) (hW : (st.map fun v => v.category).sum ≤ 8) (hdg : decode cc pc = .ok (.invokestatic index, 3))
    (kk : jk_J p l e R s m args below meth c cells slots Q D cl A nL ws' lv (pc + 3) (jk_V r :: st)) : cells + 0 ≤ R.cells ∧ slots + 0 ≤ R.slots → jk_J p l e R s m args below meth c cells slots Q D cl A nL ws lv pc st0 := by
  intro hcs H locs ls hl hP hD hS
  obtain ⟨g1, g2, g3, g4⟩ := jk_pre hZ hz C.2.2.1 C.2.1 hP hD hS hC hnd As
  exact jk_goi (as := As) hC had hw hl hP hD hS g4 (va_runSN (As := As) (rest := st) C.1 (hM H.size) ⟨jk_cwN C h1 h4 h5 hd hR, C.1.2.2.2.2 _ h2, trivial⟩ ⟨g1, g2⟩ rfl hn hl.1 hst (lv_room hW) hdg hcs) kk
end JK4
