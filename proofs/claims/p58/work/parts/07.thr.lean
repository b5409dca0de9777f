def jk_exc : Nat → String := fun k => match k with
  | 1 => "java/lang/IndexOutOfBoundsException"
  | 2 => "java/lang/IllegalArgumentException"
  | 3 => "java/lang/IllegalStateException"
  | _ => "java/util/NoSuchElementException"
/-- a callee's end in the translation: thrown on, or gone on with -/
def jk_cx {α β : Type} (q : Nat ⊕ α) (K : α → Option (Nat ⊕ β)) : Option (Nat ⊕ β) := match q with
  | .inl k => some (.inl k)
  | .inr z => K z
abbrev jk_rx (f mc ms lo : Nat) : Room := { frames := f, cells := mc, slots := ms, locals := lo }
abbrev jk_XE (D : va_G) (cl : List vw_C) (tys : List (ClassId × FieldType)) (w : va_W) {α : Type} (q : Nat ⊕ α) (A : Nat → Prop) : String → State → State → Prop := vx_X (fun (_ : Unit) => True) (fun E _ t => ∃ k, q = .inl k ∧ E = jk_exc k ∧ jk_Post D cl tys w t) A
abbrev jk_XQ (D : va_G) (cl : List vw_C) (tys : List (ClassId × FieldType)) (q : Nat ⊕ (Int × va_W)) (A : Nat → Prop) : Array Value → State → Outcome → State → Prop := va_Qi (fun (r' : Int32) (_ : Unit) => ∃ o, q = .inr o ∧ r' = jk_I o.1) (fun _ t => ∃ o, q = .inr o ∧ jk_Post D cl tys o.2 t) A
abbrev jk_XU (D : va_G) (cl : List vw_C) (tys : List (ClassId × FieldType)) (q : Nat ⊕ va_W) (A : Nat → Prop) : Array Value → State → Outcome → State → Prop := va_Qv (fun (_ : Unit) => True) (fun _ t => ∃ o, q = .inr o ∧ jk_Post D cl tys o t) A
def jk_XI (l : Launch) (D : va_G) (cl : List vw_C) (tys : List (ClassId × FieldType)) (Z : (Nat → Prop) → State → Heap → Prop) (y : MethodName) (wy : List Cond) (rm : Room) (as : List Value) (w : va_W) (q : Nat ⊕ (Int × va_W)) (mc ms : Nat) : Prop :=
  ∀ sz, vx_Met l y wy rm (va_Pc as (jk_Pre D cl tys Z w sz)) (jk_XQ D cl tys q (va_A w sz)) (jk_XE D cl tys w q (va_A w sz)) mc ms (va_A w sz)
def jk_XV (l : Launch) (D : va_G) (cl : List vw_C) (tys : List (ClassId × FieldType)) (Z : (Nat → Prop) → State → Heap → Prop) (y : MethodName) (wy : List Cond) (rm : Room) (as : List Value) (w : va_W) (q : Nat ⊕ va_W) (mc ms : Nat) : Prop :=
  ∀ sz, vx_Met l y wy rm (va_Pc as (jk_Pre D cl tys Z w sz)) (jk_XU D cl tys q (va_A w sz)) (jk_XE D cl tys w q (va_A w sz)) mc ms (va_A w sz)
/-- no handlers -/
def jk_NH (c : Code) : Prop := ∀ x ∈ c.exceptionTable.toList, False
section JT1
variable {p : Program} {l : Launch} {e : Env} {R : Room} {s : State} {m : MethodId} {args : Array Value} {below : List Frame} {meth : Method} {c : Code} {cells slots mc ms mc2 ms2 : Nat} {Q : State → Prop} {D : va_G} {cl : List vw_C} {A : Nat → Prop} {nL : Nat} {ws ws' wc wc' : va_W} {lv lv' : List (Nat × Value)} {pc : Nat} {st st0 : List Value}
variable {cc : ByteArray} {own : String} {tys : List (ClassId × FieldType)} {ret ret' : Option FieldType} {Z : (Nat → Prop) → State → Heap → Prop} {sq : Nat → Nat}
variable {y : MethodName} {bytes : ByteArray} {maxL n index : Nat} {b : Nat} {As : List Value}
theorem jk_xbody {rm : Room} {as : List Value} {w : va_W} {sz : Nat} {Qc : Array Value → State → Outcome → State → Prop} {XC : String → State → State → Prop} (hy : plainName y.cls = true)
    (k : ∀ (p : Program) (e : Env) (s : State) (m : MethodId) (args : Array Value) (below : List Frame) (meth : Method) (c : Code), s.heap.size = sz → Z (va_A w s.heap.size) s s.heap → jk_NH c → jk_C p s m args meth c cc y.cls maxL jk_WA D cl tys (va_A w s.heap.size) ret →
      jk_J p l e rm s m args below meth c 0 0 (vx_MQ below Qc XC args s mc ms (va_A w sz)) D cl (va_A w s.heap.size) maxL w (lv_args 0 as) 0 []) (hsl : (lg_sl as).length ≤ maxL) : vx_Met l y (.code y cc maxL ret :: jk_WA) rm (va_Pc as (jk_Pre D cl tys Z w sz)) Qc XC mc ms (va_A w sz) := by
  refine vx_ofW (cc := cc) (maxL := maxL) (ret := ret) hy rfl ?_
  intro p e s m args below meth c s₁ B hml hnh hv
  obtain ⟨rfl, hsz, hP, hK, hD0, hZ0⟩ := hv
  have hts := atoms_spec (ws := .code y cc maxL ret :: jk_WA) B.pre
  have hown : s.vm.findClass y.cls = some m.cls := findClass_of_methodNamed B.named
  have hD := hD0.self (sz := s.heap.size)
  rw [lg_entry_eq]
  refine k p e s m _ below meth c hsz (by rw [hsz]; exact hZ0) hnh ⟨⟨B.exec, B.bytes, hml, hown, fun w hw => hts w (List.mem_cons_of_mem _ hw)⟩, hK, fun q h => Or.inr h, B.returns, B.notSynchronized⟩ s.heap [] _ (lv_entry as hsl) hP hD va_S.rf
theorem jk_xiret (C : jk_C p s m args meth c cc own nL jk_WA D cl tys A (some .int)) {sz : Nat} {w : va_W} {r : Int} {q : Nat ⊕ (Int × va_W)} {XC : String → State → State → Prop} (hq : q = .inr (r, ws)) (hA : va_A w sz = A) (hc : cells ≤ mc) (hs : slots ≤ ms) (hdg : decode cc pc = .ok (.ireturn, 1)) : jk_J p l e R s m args below meth c cells slots (vx_MQ below (jk_XQ D cl tys q (va_A w sz)) XC args s mc ms (va_A w sz)) D cl A nL ws lv pc [jk_V r] := by
  subst hA
  intro H locs ls hl hP hD hS
  exact W.widen hc hs (vx_ret (W.iret C.1.1 C.1.2.1 C.2.2.2.1 (fun t ht hW => ⟨⟨jk_I r, (), rfl, ⟨_, hq, rfl⟩, ⟨_, hq, by rw [ht]; exact hP, va_K.moved hW.alike C.2.1⟩⟩, hS.F ht⟩) hS.2.2 hdg C.2.2.2.2))
theorem jk_xzret (C : jk_C p s m args meth c cc own nL jk_WA D cl tys A (some .boolean)) {sz : Nat} {w : va_W} {r : Int} {q : Nat ⊕ (Int × va_W)} {XC : String → State → State → Prop} (hb : r = 0 ∨ r = 1) (hq : q = .inr (r, ws)) (hA : va_A w sz = A) (hc : cells ≤ mc) (hs : slots ≤ ms) (hdg : decode cc pc = .ok (.ireturn, 1)) : jk_J p l e R s m args below meth c cells slots (vx_MQ below (jk_XQ D cl tys q (va_A w sz)) XC args s mc ms (va_A w sz)) D cl A nL ws lv pc [jk_V r] := by
  subst hA
  intro H locs ls hl hP hD hS
  exact W.widen hc hs (vx_ret (W.zret C.1.1 C.1.2.1 C.2.2.2.1 (jk_narrow_bool hb) (fun t ht hW => ⟨⟨jk_I r, (), rfl, ⟨_, hq, rfl⟩, ⟨_, hq, by rw [ht]; exact hP, va_K.moved hW.alike C.2.1⟩⟩, hS.F ht⟩) hS.2.2 hdg C.2.2.2.2))
theorem jk_xvret (C : jk_C p s m args meth c cc own nL jk_WA D cl tys A none) {sz : Nat} {w : va_W} {q : Nat ⊕ va_W} {XC : String → State → State → Prop} (hq : q = .inr ws) (hA : va_A w sz = A) (hc : cells ≤ mc) (hs : slots ≤ ms) (hdg : decode cc pc = .ok (.return_, 1)) : jk_J p l e R s m args below meth c cells slots (vx_MQ below (jk_XU D cl tys q (va_A w sz)) XC args s mc ms (va_A w sz)) D cl A nL ws lv pc [] := by
  subst hA
  intro H locs ls hl hP hD hS
  exact W.widen hc hs (vx_ret (W.vret C.1.1 C.1.2.1 C.2.2.2.1 (fun t ht hW => ⟨⟨(), rfl, trivial, ⟨_, hq, by rw [ht]; exact hP, va_K.moved hW.alike C.2.1⟩⟩, hS.F ht⟩) hS.2.2 hdg C.2.2.2.2))
/-- the words of a throw, all of them: by a program -/
def jk_tw (own : String) (ic : Nat) (cls : String) : Bool := (vx_atS own ic cls ["java/lang/RuntimeException", "java/lang/Exception"]).all (fun w => decide (w ∈ tables_1) && (goodWord w || (w.onTables && w.keepsFace)) && vx_ot w)
theorem jk_hat (C : jk_C p s m args meth c cc own nL jk_WA D cl tys A ret) (hZ : jk_ZK Z sq) (hz : Z A s s.heap) {ic : Nat} {cls : String} (h : jk_tw own ic cls = true) : (∀ w ∈ vx_atS own ic cls ["java/lang/RuntimeException", "java/lang/Exception"], w.before args s = true) ∧ ∀ w ∈ vx_atS own ic cls ["java/lang/RuntimeException", "java/lang/Exception"], vx_ot w = true := by
  have h1 := List.all_eq_true.mp h
  refine ⟨fun w hw => ?_, fun w hw => ?_⟩
  · have h2 := h1 w hw
    simp only [Bool.and_eq_true, Bool.or_eq_true, decide_eq_true_eq] at h2
    have hm : w ∈ lw_tbl := List.mem_append_right _ h2.1.1
    by_cases hg : goodWord w = true
    · exact C.1.2.2.2.2 w (jk_WA_of hm hg)
    · rcases h2.1.2 with g | ⟨g1, g2⟩
      · exact absurd g hg
      · exact va_Nw.use g1 ((hZ.2.2 A s s.heap hz).2.2.2.2.2.2 w (List.mem_filter.mpr ⟨hm, by simp [g1, g2, hg]⟩))
  · have h2 := h1 w hw
    simp only [Bool.and_eq_true] at h2
    exact h2.2
theorem jk_throw (C : jk_C p s m args meth c cc own nL jk_WA D cl tys A ret) (hZ : jk_ZK Z sq) (hz : Z A s s.heap) (hl : l.stackTraces = false) (hnh : jk_NH c) {α : Type} {sz k ik is ic kk : Nat} {tx : String} {w : va_W} {q : Nat ⊕ α} {Qc : Array Value → State → Outcome → State → Prop} (hq : q = .inl k) (hA : va_A w sz = A) (hw : ws = w)
    (hk : Cond.classLink own ik (jk_exc k) ∈ jk_WA) (hini : Cond.initialized (jk_exc k) ∈ jk_WA) (hstr : jk_links[kk]? = some (own, is, tx, kk)) (ht : jk_tw own ic (jk_exc k) = true) (hf : Bundle.fit (jk_exc k) = true ∧ vx_ot (Cond.classLink own ik (jk_exc k)) = true ∧ vx_ot (Cond.initialized (jk_exc k)) = true)
    (d0 : decode cc pc = .ok (.new ik, 3)) (d3 : decode cc (pc + 3) = .ok (.dup, 1)) (d4 : decode cc (pc + 4) = .ok (.ldc is, 2)) (d6 : decode cc (pc + 6) = .ok (.invokespecial ic, 3)) (d9 : decode cc (pc + 9) = .ok (.athrow, 1))
    (hR1 : 5 < R.frames) (hR2 : (st.map fun v => v.category).sum + 82 ≤ R.locals) (hR3 : cells + 1 ≤ R.cells) (hR4 : slots + 6 ≤ R.slots) (hc : cells + 1 ≤ mc) (hs : slots + 6 ≤ ms) : jk_J p l e R s m args below meth c cells slots (vx_MQ below Qc (jk_XE D cl tys w q (va_A w sz)) args s mc ms (va_A w sz)) D cl A nL ws lv pc st := by
  subst hA; subst hw
  intro H locs ls hlv hP hD hS
  obtain ⟨h1, h2⟩ := jk_hat C hZ hz ht
  have hzz := hZ.2.2 _ _ _ hz
  refine vx_throwS (names := ["java/lang/RuntimeException", "java/lang/Exception"]) (sa := sq kk) (text := tx) C.1.1 C.1.2.1 hl C.1.2.2.2.1 hf.1 (by decide +kernel) (C.1.2.2.2.2 _ hk) (C.1.2.2.2.2 _ hini) (hzz.1 _ (List.mem_of_getElem? hstr)) h1 ?_ hzz.2.2.1 hzz.2.2.2.1 hS (hlv.1.trans C.1.2.2.1.symm) d0 d3 d4 d6 d9 (fun x hx => (hnh x hx).elim) hR1 hR2 hR3 hR4 C.2.2.2.2 (fun t hvm hsz hkeep => ?_) hS.2.2 hc hs
  · intro w hw
    rcases List.mem_cons.mp hw with rfl | hw
    · exact hf.2.1
    rcases List.mem_cons.mp hw with rfl | hw
    · exact hf.2.2
    exact h2 w hw
  · refine ⟨(), trivial, ⟨k, hq, rfl, ?_, va_K.moved hvm C.2.1⟩, Nat.le_trans hS.1 hsz, fun q h3 h4 => ?_⟩
    · exact hP.kept (fun k q h => hkeep q.1 (hP k q h).lt)
    · rw [hkeep q (Nat.lt_of_lt_of_le h3 hS.1)]
      exact hS.2.1 q h3 h4
theorem jk_cwVx (C : jk_C p s m args meth c cc own nL jk_WA D cl tys A ret) (h1 : Cond.methodLink own index y ∈ jk_WA) (h2 : Cond.instanceMethod y ∈ jk_WA) (h3 : Cond.selects y.cls y y ∈ jk_WA) (h4 : Cond.initialized y.cls ∈ jk_WA) (h5 : Cond.code y bytes maxL ret' ∈ jk_WA) (hd : jk_nm y n) {f lo : Nat} (hR : f + 1 ≤ R.frames ∧ 8 + (maxL + 11) + lo ≤ R.locals) :
    CallW R s args own y.cls index y bytes maxL ret' (.code y bytes maxL ret' :: jk_WA) (jk_rx f mc2 ms2 lo) mc2 ms2 n :=
  cwV n C.1.2.2.2.2 (fun w hw => by
    rcases List.mem_append.mp hw with q | q
    · have : w ∈ jk_WA := by
        rcases List.mem_cons.mp q with rfl | q
        · exact h1
        rcases List.mem_cons.mp q with rfl | q
        · exact h2
        rcases List.mem_cons.mp q with rfl | q
        · exact h3
        rcases List.mem_cons.mp q with rfl | q
        · exact h4
        exact absurd q List.not_mem_nil
      exact ⟨this, jk_good this⟩
    · exact jk_goodIn h5 w q) rfl rfl rfl ⟨rfl, hd⟩ hR
end JT1
section JT2
variable {p : Program} {l : Launch} {e : Env} {R : Room} {s : State} {m : MethodId} {args : Array Value} {below : List Frame} {meth : Method} {c : Code} {cells slots mc ms mc2 ms2 : Nat} {Q : State → Prop} {D : va_G} {cl : List vw_C} {A : Nat → Prop} {nL : Nat} {ws ws' wc wc' : va_W} {lv lv' : List (Nat × Value)} {pc : Nat} {st st0 : List Value}
variable {cc : ByteArray} {own : String} {tys : List (ClassId × FieldType)} {ret ret' : Option FieldType} {Z : (Nat → Prop) → State → Heap → Prop} {sq : Nat → Nat}
variable {y : MethodName} {bytes : ByteArray} {maxL n index : Nat} {b : Nat} {As : List Value}
/-- a callee throws, and it goes on to the caller -/
theorem jk_pass {is : List Nat} {α β : Type} {q2 : Nat ⊕ α} {q : Nat ⊕ β} {sz k : Nat} {w : va_W} {Qc : Array Value → State → Outcome → State → Prop} {H H1 : Heap} {locs1 : List Loc} {ls : Array Slot} {E : String} {ce : Cell} {q9 : Addr} {t : State} (C : jk_C p s m args meth c cc own nL jk_WA D cl tys A ret) (hnh : jk_NH c) (h2 : q2 = .inl k) (hq : q = .inl k) (hA : va_A w sz = A) (hw : ws = w) (hC : is.map (fun i => ws[i]?) = wc.map some) (hput : jk_put ws is wc = ws)
    (hP : va_P D cl ws H) (hD : va_D A ws) (ht : t.heap = H1) (hBX : ∃ k, q2 = .inl k ∧ E = jk_exc k ∧ jk_Post D cl tys wc t) (hk1 : ∀ q : Nat, q < H.size → ¬ va_A wc H.size q → H1[q]? = H[q]?) (hS1 : va_S A s.heap H1 locs1) (hce : H1[q9]? = some ce) (hv : ce.vm = .none) (hcl : s.vm.findClass E = some ce.cls) (hc : cells ≤ mc) (hs : slots ≤ ms) :
    vx_W p l e R s m args below meth c H1 locs1 cells slots (vx_MQ below Qc (jk_XE D cl tys w q (va_A w sz)) args s mc ms (va_A w sz)) (F0 m pc ls st) q9 := by
  subst hA; subst hw
  obtain ⟨k', e1, e2, hP1, -⟩ := hBX
  rw [ht] at hP1
  obtain ⟨g1, -⟩ := jk_join hP hD is hC rfl hput hk1 hP1
  have ek : k' = k := Sum.inl.inj (e1.symm.trans h2)
  subst ek
  exact vx_out (fun x hx => (hnh x hx).elim) C.2.2.2.2 hce hv hcl (fun t' ht' hvm => ⟨(), trivial, ⟨k', hq, e2, by rw [ht']; exact g1, va_K.moved hvm C.2.1⟩, hS1.F ht'⟩) hS1.2.2 hc hs
theorem jk_callXi_t (C : jk_C p s m args meth c cc own nL jk_WA D cl tys A ret) (hZ : jk_ZC Z) (hz : Z A s s.heap) (hnh : jk_NH c) {f lo k : Nat} {α : Type} {q2 : Nat ⊕ (Int × va_W)} {q : Nat ⊕ α} {sz : Nat} {w : va_W} {Qc : Array Value → State → Outcome → State → Prop} (h2q : q2 = .inl k) (hq0 : q = .inl k) (hA : va_A w sz = A) (hww : ws = w)
    (hM : jk_XI l D cl tys Z y (.code y bytes maxL ret' :: jk_WA) (jk_rx f mc2 ms2 lo) (.ref b :: As) wc q2 mc2 ms2)
    (h1 : Cond.methodLink own index y ∈ jk_WA) (h2 : Cond.instanceMethod y ∈ jk_WA) (h3 : Cond.selects y.cls y y ∈ jk_WA) (h4 : Cond.initialized y.cls ∈ jk_WA) (h5 : Cond.code y bytes maxL ret' ∈ jk_WA) (hd : jk_nm y n) (hR : f + 1 ≤ R.frames ∧ 8 + (maxL + 11) + lo ≤ R.locals) (hn : As.length = n)
    (is : List Nat) (hC : is.map (fun i => ws[i]?) = wc.map some) (hnd : va_nd is = true) (hput : jk_put ws is wc = ws) (q0 ci : Nat) {q1 : vw_C} {fs : List Value} (hq : ws[q0]? = some (b, .inr (ci, fs))) (hc : cl[ci]? = some q1) (hqy : q1.1 = y.cls)
    (hst : st0 = As.reverse ++ .ref b :: st) (hW : (st.map fun v => v.category).sum ≤ 8) (hdg : decode cc pc = .ok (.invokevirtual index, 3)) (hcs : cells + mc2 ≤ R.cells ∧ slots + ms2 ≤ R.slots) (hcm : cells + mc2 ≤ mc) (hsm : slots + ms2 ≤ ms) : jk_J p l e R s m args below meth c cells slots (vx_MQ below Qc (jk_XE D cl tys w q (va_A w sz)) args s mc ms (va_A w sz)) D cl A nL ws lv pc st0 := by
  intro H locs ls hl hP hD hS
  obtain ⟨g1, g2, g3, g4⟩ := jk_pre hZ hz C.2.2.1 C.2.1 hP hD hS hC hnd (.ref b :: As)
  have hrecv := va_recv C.2.1 hP hc hq
  rw [hqy] at hrecv
  refine vx_calli (vx_runV (As := As) (rest := st) C.1 (hM H.size) (jk_cwVx C h1 h2 h3 h4 h5 hd hR) ⟨g1, hrecv, g2⟩ rfl hn hl.1 hst (lv_room hW) hdg hcs) hS (fun q _ h => g4 q h) g4 (fun q _ h => g4 q h) (fun E ce q9 u t H1 locs1 ht hvm hpx hBX hz1 hk1 hS1 hce hv hcl => ?_) (fun r u t H1 locs1 ht hvm hr => ?_)
  · exact jk_pass C hnh h2q hq0 hA hww hC hput hP hD ht hBX hk1 hS1 hce hv hcl hcm hsm
  · obtain ⟨o, e1, -⟩ := hr
    rw [h2q] at e1
    cases e1
theorem jk_callXi_r (C : jk_C p s m args meth c cc own nL jk_WA D cl tys A ret) (hZ : jk_ZC Z) (hz : Z A s s.heap) {f lo : Nat} {r : Int} {q2 : Nat ⊕ (Int × va_W)} (h2q : q2 = .inr (r, wc'))
    (hM : jk_XI l D cl tys Z y (.code y bytes maxL ret' :: jk_WA) (jk_rx f mc2 ms2 lo) (.ref b :: As) wc q2 mc2 ms2)
    (h1 : Cond.methodLink own index y ∈ jk_WA) (h2 : Cond.instanceMethod y ∈ jk_WA) (h3 : Cond.selects y.cls y y ∈ jk_WA) (h4 : Cond.initialized y.cls ∈ jk_WA) (h5 : Cond.code y bytes maxL ret' ∈ jk_WA) (hd : jk_nm y n) (hR : f + 1 ≤ R.frames ∧ 8 + (maxL + 11) + lo ≤ R.locals) (hn : As.length = n)
    (is : List Nat) (hC : is.map (fun i => ws[i]?) = wc.map some) (hnd : va_nd is = true) (had : wc'.map (·.1) = wc.map (·.1)) (hw : jk_put ws is wc' = ws') (q0 ci : Nat) {q1 : vw_C} {fs : List Value} (hq : ws[q0]? = some (b, .inr (ci, fs))) (hc : cl[ci]? = some q1) (hqy : q1.1 = y.cls)
    (hst : st0 = As.reverse ++ .ref b :: st) (hW : (st.map fun v => v.category).sum ≤ 8) (hdg : decode cc pc = .ok (.invokevirtual index, 3)) (hcs : cells + mc2 ≤ R.cells ∧ slots + ms2 ≤ R.slots)
    (kk : jk_J p l e R s m args below meth c (cells + mc2) (slots + ms2) Q D cl A nL ws' lv (pc + 3) (jk_V r :: st)) : jk_J p l e R s m args below meth c cells slots Q D cl A nL ws lv pc st0 := by
  intro H locs ls hl hP hD hS
  obtain ⟨g1, g2, g3, g4⟩ := jk_pre hZ hz C.2.2.1 C.2.1 hP hD hS hC hnd (.ref b :: As)
  have hrecv := va_recv C.2.1 hP hc hq
  rw [hqy] at hrecv
  refine vx_calli (vx_runV (As := As) (rest := st) C.1 (hM H.size) (jk_cwVx C h1 h2 h3 h4 h5 hd hR) ⟨g1, hrecv, g2⟩ rfl hn hl.1 hst (lv_room hW) hdg hcs) hS (fun q _ h => g4 q h) g4 (fun q _ h => g4 q h) (fun E ce q9 u t H1 locs1 ht hvm hpx hBX => ?_) (fun r' u t H1 locs1 ht hvm hr hB hz1 hk1 hS1 => ?_)
  · obtain ⟨k, e1, -⟩ := hBX
    rw [h2q] at e1
    cases e1
  · obtain ⟨o, e1, e2⟩ := hr
    obtain ⟨o', e3, hP1, -⟩ := hB
    rw [h2q] at e1 e3
    cases e1; cases e3
    rw [ht] at hP1
    obtain ⟨k1, k2⟩ := jk_join hP hD is hC had hw hk1 hP1
    subst e2
    exact kk H1 locs1 ls hl k1 k2 hS1
theorem jk_callXv_t (C : jk_C p s m args meth c cc own nL jk_WA D cl tys A ret) (hZ : jk_ZC Z) (hz : Z A s s.heap) (hnh : jk_NH c) {f lo k : Nat} {α : Type} {q2 : Nat ⊕ va_W} {q : Nat ⊕ α} {sz : Nat} {w : va_W} {Qc : Array Value → State → Outcome → State → Prop} (h2q : q2 = .inl k) (hq0 : q = .inl k) (hA : va_A w sz = A) (hww : ws = w)
    (hM : jk_XV l D cl tys Z y (.code y bytes maxL ret' :: jk_WA) (jk_rx f mc2 ms2 lo) (.ref b :: As) wc q2 mc2 ms2)
    (h1 : Cond.methodLink own index y ∈ jk_WA) (h2 : Cond.instanceMethod y ∈ jk_WA) (h3 : Cond.selects y.cls y y ∈ jk_WA) (h4 : Cond.initialized y.cls ∈ jk_WA) (h5 : Cond.code y bytes maxL ret' ∈ jk_WA) (hd : jk_nm y n) (hR : f + 1 ≤ R.frames ∧ 8 + (maxL + 11) + lo ≤ R.locals) (hn : As.length = n)
    (is : List Nat) (hC : is.map (fun i => ws[i]?) = wc.map some) (hnd : va_nd is = true) (hput : jk_put ws is wc = ws) (q0 ci : Nat) {q1 : vw_C} {fs : List Value} (hq : ws[q0]? = some (b, .inr (ci, fs))) (hc : cl[ci]? = some q1) (hqy : q1.1 = y.cls)
    (hst : st0 = As.reverse ++ .ref b :: st) (hW : (st.map fun v => v.category).sum ≤ 8) (hdg : decode cc pc = .ok (.invokevirtual index, 3)) (hcs : cells + mc2 ≤ R.cells ∧ slots + ms2 ≤ R.slots) (hcm : cells + mc2 ≤ mc) (hsm : slots + ms2 ≤ ms) : jk_J p l e R s m args below meth c cells slots (vx_MQ below Qc (jk_XE D cl tys w q (va_A w sz)) args s mc ms (va_A w sz)) D cl A nL ws lv pc st0 := by
  intro H locs ls hl hP hD hS
  obtain ⟨g1, g2, g3, g4⟩ := jk_pre hZ hz C.2.2.1 C.2.1 hP hD hS hC hnd (.ref b :: As)
  have hrecv := va_recv C.2.1 hP hc hq
  rw [hqy] at hrecv
  refine vx_callv (vx_runV (As := As) (rest := st) C.1 (hM H.size) (jk_cwVx C h1 h2 h3 h4 h5 hd hR) ⟨g1, hrecv, g2⟩ rfl hn hl.1 hst (lv_room hW) hdg hcs) hS (fun q _ h => g4 q h) g4 (fun q _ h => g4 q h) (fun E ce q9 u t H1 locs1 ht hvm hpx hBX hz1 hk1 hS1 hce hv hcl => ?_) (fun u t H1 locs1 ht hvm _ hB => ?_)
  · exact jk_pass C hnh h2q hq0 hA hww hC hput hP hD ht hBX hk1 hS1 hce hv hcl hcm hsm
  · obtain ⟨o, e1, -⟩ := hB
    rw [h2q] at e1
    cases e1
theorem jk_callXv_r (C : jk_C p s m args meth c cc own nL jk_WA D cl tys A ret) (hZ : jk_ZC Z) (hz : Z A s s.heap) {f lo : Nat} {q2 : Nat ⊕ va_W} (h2q : q2 = .inr wc')
    (hM : jk_XV l D cl tys Z y (.code y bytes maxL ret' :: jk_WA) (jk_rx f mc2 ms2 lo) (.ref b :: As) wc q2 mc2 ms2)
    (h1 : Cond.methodLink own index y ∈ jk_WA) (h2 : Cond.instanceMethod y ∈ jk_WA) (h3 : Cond.selects y.cls y y ∈ jk_WA) (h4 : Cond.initialized y.cls ∈ jk_WA) (h5 : Cond.code y bytes maxL ret' ∈ jk_WA) (hd : jk_nm y n) (hR : f + 1 ≤ R.frames ∧ 8 + (maxL + 11) + lo ≤ R.locals) (hn : As.length = n)
    (is : List Nat) (hC : is.map (fun i => ws[i]?) = wc.map some) (hnd : va_nd is = true) (had : wc'.map (·.1) = wc.map (·.1)) (hw : jk_put ws is wc' = ws') (q0 ci : Nat) {q1 : vw_C} {fs : List Value} (hq : ws[q0]? = some (b, .inr (ci, fs))) (hc : cl[ci]? = some q1) (hqy : q1.1 = y.cls)
    (hst : st0 = As.reverse ++ .ref b :: st) (hW : (st.map fun v => v.category).sum ≤ 8) (hdg : decode cc pc = .ok (.invokevirtual index, 3)) (hcs : cells + mc2 ≤ R.cells ∧ slots + ms2 ≤ R.slots)
    (kk : jk_J p l e R s m args below meth c (cells + mc2) (slots + ms2) Q D cl A nL ws' lv (pc + 3) st) : jk_J p l e R s m args below meth c cells slots Q D cl A nL ws lv pc st0 := by
  intro H locs ls hl hP hD hS
  obtain ⟨g1, g2, g3, g4⟩ := jk_pre hZ hz C.2.2.1 C.2.1 hP hD hS hC hnd (.ref b :: As)
  have hrecv := va_recv C.2.1 hP hc hq
  rw [hqy] at hrecv
  refine vx_callv (vx_runV (As := As) (rest := st) C.1 (hM H.size) (jk_cwVx C h1 h2 h3 h4 h5 hd hR) ⟨g1, hrecv, g2⟩ rfl hn hl.1 hst (lv_room hW) hdg hcs) hS (fun q _ h => g4 q h) g4 (fun q _ h => g4 q h) (fun E ce q9 u t H1 locs1 ht hvm hpx hBX => ?_) (fun u t H1 locs1 ht hvm _ hB hz1 hk1 hS1 => ?_)
  · obtain ⟨k, e1, -⟩ := hBX
    rw [h2q] at e1
    cases e1
  · obtain ⟨o', e3, hP1, -⟩ := hB
    rw [h2q] at e3
    cases e3
    rw [ht] at hP1
    obtain ⟨k1, k2⟩ := jk_join hP hD is hC had hw hk1 hP1
    exact kk H1 locs1 ls hl k1 k2 hS1
end JT2
section JT3
variable {p : Program} {l : Launch} {e : Env} {R : Room} {s : State} {m : MethodId} {args : Array Value} {below : List Frame} {meth : Method} {c : Code} {cells slots mc ms : Nat} {D : va_G} {cl : List vw_C} {A : Nat → Prop} {nL : Nat} {ws : va_W} {lv : List (Nat × Value)} {pc : Nat} {st : List Value}
variable {cc : ByteArray} {own : String} {tys : List (ClassId × FieldType)} {ret : Option FieldType} {Z : (Nat → Prop) → State → Heap → Prop} {sq : Nat → Nat}
theorem jk_throwW (C : jk_C p s m args meth c cc own nL jk_WA D cl tys A ret) (hZ : jk_ZK Z sq) (hz : Z A s s.heap) (hl : l.stackTraces = false) (hnh : jk_NH c) {α : Type} {sz k ik is ic kk : Nat} {tx : String} {w : va_W} {q : Nat ⊕ α} {Qc : Array Value → State → Outcome → State → Prop} (hq : q = .inl k) (hA : va_A w sz = A) (hw : ws = w)
    (hk : Cond.classLink own ik (jk_exc k) ∈ jk_WA) (hini : Cond.initialized (jk_exc k) ∈ jk_WA) (hstr : jk_links[kk]? = some (own, is, tx, kk)) (ht : jk_tw own ic (jk_exc k) = true) (hf : Bundle.fit (jk_exc k) = true ∧ vx_ot (Cond.classLink own ik (jk_exc k)) = true ∧ vx_ot (Cond.initialized (jk_exc k)) = true)
    (d0 : decode cc pc = .ok (.new ik, 3)) (d3 : decode cc (pc + 3) = .ok (.dup, 1)) (d4 : decode cc (pc + 4) = .ok (.ldc_w is, 3)) (d6 : decode cc (pc + 7) = .ok (.invokespecial ic, 3)) (d9 : decode cc (pc + 10) = .ok (.athrow, 1))
    (hR1 : 5 < R.frames) (hR2 : (st.map fun v => v.category).sum + 82 ≤ R.locals) (hR3 : cells + 1 ≤ R.cells) (hR4 : slots + 6 ≤ R.slots) (hc : cells + 1 ≤ mc) (hs : slots + 6 ≤ ms) : jk_J p l e R s m args below meth c cells slots (vx_MQ below Qc (jk_XE D cl tys w q (va_A w sz)) args s mc ms (va_A w sz)) D cl A nL ws lv pc st := by
  subst hA; subst hw
  intro H locs ls hlv hP hD hS
  obtain ⟨h1, h2⟩ := jk_hat C hZ hz ht
  have hzz := hZ.2.2 _ _ _ hz
  refine vx_throwSW (names := ["java/lang/RuntimeException", "java/lang/Exception"]) (sa := sq kk) (text := tx) C.1.1 C.1.2.1 hl C.1.2.2.2.1 hf.1 (by decide +kernel) (C.1.2.2.2.2 _ hk) (C.1.2.2.2.2 _ hini) (hzz.1 _ (List.mem_of_getElem? hstr)) h1 ?_ hzz.2.2.1 hzz.2.2.2.1 hS (hlv.1.trans C.1.2.2.1.symm) d0 d3 d4 d6 d9 (fun x hx => (hnh x hx).elim) hR1 hR2 hR3 hR4 C.2.2.2.2 (fun t hvm hsz hkeep => ?_) hS.2.2 hc hs
  · intro w hw
    rcases List.mem_cons.mp hw with rfl | hw
    · exact hf.2.1
    rcases List.mem_cons.mp hw with rfl | hw
    · exact hf.2.2
    exact h2 w hw
  · refine ⟨(), trivial, ⟨k, hq, rfl, ?_, va_K.moved hvm C.2.1⟩, Nat.le_trans hS.1 hsz, fun q h3 h4 => ?_⟩
    · exact hP.kept (fun k q h => hkeep q.1 (hP k q h).lt)
    · rw [hkeep q (Nat.lt_of_lt_of_le h3 hS.1)]
      exact hS.2.1 q h3 h4
end JT3
