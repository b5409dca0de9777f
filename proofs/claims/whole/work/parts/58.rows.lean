/-! rows of the law -/
section LR
variable {p : Program} {l : Launch} {e : Env} {R : Room} {s : State} {m : MethodId} {args : Array Value} {below : List Frame} {meth : Method} {c : Code} {cells slots mc ms mc2 ms2 : Nat} {Q : State → Prop} {D : va_G} {cl : List vw_C} {A : Nat → Prop} {nL : Nat} {ws ws' wc wc' : va_W} {lv lv' : List (Nat × Value)} {pc : Nat} {st st0 : List Value}
variable {cc : ByteArray} {own : String} {tys : List (ClassId × FieldType)} {ret ret' : Option FieldType} {Z : (Nat → Prop) → State → Heap → Prop}
variable {y : MethodName} {bytes : ByteArray} {maxL n index : Nat} {a b : Nat} {As : List Value} {hh : List (Nat × Nat × Nat × Nat)}
theorem jk_Csub (C : jk_C p s m args meth c cc own nL jk_WA D cl tys A ret) (is : List Nat) {tys' : List (ClassId × FieldType)} (h : is.filterMap (fun i => tys[i]?) = tys') : jk_C p s m args meth c cc own nL jk_WA D cl tys' A ret := ⟨C.1, C.2.1.sub is h, C.2.2⟩
theorem jk_widen {k n : Nat} (h1 : cells ≤ k) (h2 : slots ≤ n) (kk : jk_J p l e R s m args below meth c k n Q D cl A nL ws lv pc st) : jk_J p l e R s m args below meth c cells slots Q D cl A nL ws lv pc st :=
  fun H locs ls hl hP hD hS => W.widen h1 h2 (kk H locs ls hl hP hD hS)
theorem jk_i2l (C : jk_C p s m args meth c cc own nL jk_WA D cl tys A ret) {x : Int32} (hdg : decode cc pc = .ok (.i2l, 1)) (kk : jk_J p l e R s m args below meth c cells slots Q D cl A nL ws lv (pc + 1) (.long x.toInt64 :: st)) : jk_J p l e R s m args below meth c cells slots Q D cl A nL ws lv pc (.int x :: st) :=
  fun H locs ls hl hP hD hS => lv_i2l C.1.1 C.1.2.1 hdg rfl (kk H locs ls hl hP hD hS)
theorem jk_lcmp (C : jk_C p s m args meth c cc own nL jk_WA D cl tys A ret) {x y : Int64} (hxy : x = y) (hdg : decode cc pc = .ok (.lcmp, 1)) (kk : jk_J p l e R s m args below meth c cells slots Q D cl A nL ws lv (pc + 1) (jk_V 0 :: st)) : jk_J p l e R s m args below meth c cells slots Q D cl A nL ws lv pc (.long y :: .long x :: st) := by
  subst hxy
  intro H locs ls hl hP hD hS
  refine W.lcmp C.1.1 C.1.2.1 hdg ?_
  have e : lg_cmp x x = jk_I 0 := by unfold lg_cmp; simp; rfl
  rw [e]
  exact kk H locs ls hl hP hD hS
theorem jk_last (C : jk_C p s m args meth c cc own nL jk_WA D cl tys A ret) {f : Nat → Int64} {x : Int64} {cA : ClassId} (q0 t0 : Nat) (he : ws[q0]? = some (a, .inl (cA, 1, .inr (.inl f)))) (ht : tys[t0]? = some (cA, .long)) (hdg : decode cc pc = .ok (.lastore, 1)) (hw : ws.set q0 (a, .inl (cA, 1, .inr (.inl (vp_updL f 0 x)))) = ws')
    (kk : jk_J p l e R s m args below meth c cells slots Q D cl A nL ws' lv (pc + 1) st) : jk_J p l e R s m args below meth c cells slots Q D cl A nL ws lv pc (.long x :: jk_V 0 :: .ref a :: st) := by
  subst hw
  intro H locs ls hl hP hD hS
  refine va_last C.1.1 C.1.2.1 C.2.1 hP hD hS q0 t0 he ht (jk_in (i := 0) (n := 1) (by decide) (by decide) (by decide)) hdg (fun H1 locs1 q1 q2 q3 => ?_)
  rw [show (jk_I 0).toNatClampNeg = 0 from jk_clamp (by decide) (by decide)] at q1 q2
  exact kk H1 locs1 ls hl q1 q2 q3
theorem jk_lald (C : jk_C p s m args meth c cc own nL jk_WA D cl tys A ret) {f : Nat → Int64} {cA : ClassId} (q0 t0 : Nat) (he : ws[q0]? = some (a, .inl (cA, 1, .inr (.inl f)))) (ht : tys[t0]? = some (cA, .long)) (hdg : decode cc pc = .ok (.laload, 1))
    (kk : jk_J p l e R s m args below meth c cells slots Q D cl A nL ws lv (pc + 1) (.long (f 0) :: st)) : jk_J p l e R s m args below meth c cells slots Q D cl A nL ws lv pc (jk_V 0 :: .ref a :: st) := by
  intro H locs ls hl hP hD hS
  refine va_lald C.1.1 C.1.2.1 C.2.1 hP q0 t0 he ht (jk_in (i := 0) (n := 1) (by decide) (by decide) (by decide)) hdg ?_
  rw [show (jk_I 0).toNatClampNeg = 0 from jk_clamp (by decide) (by decide)]
  exact kk H locs ls hl hP hD hS
theorem jk_sld (C : jk_C p s m args meth c cc own nL jk_WA D cl tys A ret) {L : Nat} {xs : Nat → Int32} (hX : va_X b L xs s s.heap) (hbl : b < s.heap.size) (hbA : ¬ A b) {i : Int} (h0 : 0 ≤ i) (h1 : i < L) (hL : L ≤ 3072) (hdg : decode cc pc = .ok (.iaload, 1))
    (kk : jk_J p l e R s m args below meth c cells slots Q D cl A nL ws lv (pc + 1) (jk_V (xs i.toNat).toInt :: st)) : jk_J p l e R s m args below meth c cells slots Q D cl A nL ws lv pc (jk_V i :: .ref b :: st) := by
  intro H locs ls hl hP hD hS
  refine va_sld C.1.1 C.1.2.1 hX hbl hbA hS (jk_in h0 h1 (by omega)) hdg ?_
  rw [jk_clamp h0 (by omega), ← jk_of (xs i.toNat)]
  exact kk H locs ls hl hP hD hS
theorem jk_slen2 (C : jk_C p s m args meth c cc own nL jk_WA D cl tys A ret) {L : Nat} {xs : Nat → Int32} (hX : va_X b L xs s s.heap) (hbl : b < s.heap.size) (hbA : ¬ A b) (hdg : decode cc pc = .ok (.arraylength, 1))
    (kk : jk_J p l e R s m args below meth c cells slots Q D cl A nL ws lv (pc + 1) (jk_V (L : Int) :: st)) : jk_J p l e R s m args below meth c cells slots Q D cl A nL ws lv pc (.ref b :: st) :=
  fun H locs ls hl hP hD hS => va_slen C.1.1 C.1.2.1 hX hbl hbA hS hdg (kk H locs ls hl hP hD hS)
/-- a contract that answers an int, with room for cells -/
def jk_ME (l : Launch) (D : va_G) (cl : List vw_C) (tys : List (ClassId × FieldType)) (Z : (Nat → Prop) → State → Heap → Prop) (y : MethodName) (wy : List Cond) (rm : Room) (as : List Value) (w w' : va_W) (r : Int) (mc ms : Nat) : Prop :=
  ∀ sz, Met l y wy rm (va_Pc as (jk_Pre D cl tys Z w sz)) (va_Qi (fun (r' : Int32) (_ : Unit) => r' = jk_I r) (fun _ t => jk_Post D cl tys w' t) (va_A w sz)) mc ms (va_A w sz)
/-- the start of a body with handlers -/
theorem jk_hbody {rm : Room} {as : List Value} {w : va_W} {sz : Nat} {Qc : Array Value → State → Outcome → State → Prop} (hy : plainName y.cls = true)
    (k : ∀ (p : Program) (e : Env) (s : State) (m : MethodId) (args : Array Value) (below : List Frame) (meth : Method) (c : Code), s.heap.size = sz → Z (va_A w s.heap.size) s s.heap → c.exceptionTable.toList = tableOf hh → jk_C p s m args meth c cc y.cls maxL jk_WA D cl tys (va_A w s.heap.size) ret →
      jk_J p l e rm s m args below meth c 0 0 (MQ below Qc args s mc ms (va_A w sz)) D cl (va_A w s.heap.size) maxL w (lv_args 0 as) 0 []) (hsl : (lg_sl as).length ≤ maxL) : Met l y (.codeWith y cc maxL ret hh :: jk_WA) rm (va_Pc as (jk_Pre D cl tys Z w sz)) Qc mc ms (va_A w sz) := by
  refine MetFree.of_bodyS (code := cc) (maxLocals := maxL) (ret := ret) hy ?_ ?_
  · intro args s m h hn
    obtain ⟨m9, meth, c, hn9, h1, h2, h3, h4, -, h5, h6, -⟩ := Cond.codeWith_spec (atoms_spec (ws := .codeWith y cc maxL ret hh :: jk_WA) h _ List.mem_cons_self)
    cases hn.symm.trans hn9
    exact ⟨meth, c, h1, h2, h3, h4, h5, h6⟩
  · intro p e s m args below meth c s₁ B hml hv _
    have hh0 : s₁.heap = s.heap := by rw [B.state]; rfl
    have htb : c.exceptionTable.toList = tableOf hh := vx_table (x := y) B (atoms_spec (ws := .codeWith y cc maxL ret hh :: jk_WA) B.pre _ List.mem_cons_self)
    obtain ⟨rfl, hsz, hP, hK, hD0, hZ0⟩ := hv
    have hts := atoms_spec (ws := .codeWith y cc maxL ret hh :: jk_WA) B.pre
    have hown : s.vm.findClass y.cls = some m.cls := findClass_of_methodNamed B.named
    have hD := hD0.self (sz := s.heap.size)
    have K := k p e s m as.toArray below meth c hsz (by rw [hsz]; exact hZ0) htb ⟨⟨B.exec, B.bytes, hml, hown, fun w hw => hts w (List.mem_cons_of_mem _ hw)⟩, hK, fun q h => Or.inr h, B.returns, B.notSynchronized⟩ s.heap [] _ (lv_entry as hsl) hP hD va_S.rf
    rw [← lg_entry_eq] at K
    obtain ⟨t, a1, o, b1, b2, b3⟩ := K s₁ hh0 (Stand.of_body B)
    exact ⟨t, o, a1, b1, b2, b3⟩
theorem jk_eret (C : jk_C p s m args meth c cc own nL jk_WA D cl tys A (some .int)) {sz : Nat} {w : va_W} {r : Int} (hA : va_A w sz = A) (hdg : decode cc pc = .ok (.ireturn, 1)) (hw : ws = ws') (hc : cells ≤ mc) (hs : slots ≤ ms) : jk_J p l e R s m args below meth c cells slots (MQ below (va_Qi (fun (r' : Int32) (_ : Unit) => r' = jk_I r) (fun _ t => jk_Post D cl tys ws' t) (va_A w sz)) args s mc ms (va_A w sz)) D cl A nL ws lv pc [jk_V r] := by
  subst hw; subst hA
  intro H locs ls hl hP hD hS
  exact W.widen hc hs (W.iret C.1.1 C.1.2.1 C.2.2.2.1 (fun t ht hW => ⟨⟨jk_I r, (), rfl, rfl, by rw [ht]; exact hP, va_K.moved hW.alike C.2.1⟩, hS.F ht⟩) hS.2.2 hdg C.2.2.2.2)
/-- a call under handlers -/
theorem jk_tryX (C : jk_C p s m args meth c cc own nL jk_WA D cl tys A ret) (hZ : jk_ZC Z) (hz : Z A s s.heap) {f lo : Nat} {q2 : Nat ⊕ (Int × va_W)}
    (hM : jk_XI l D cl tys Z y (.code y bytes maxL ret' :: jk_WA) (jk_rx f mc2 ms2 lo) (.ref b :: As) wc q2 mc2 ms2)
    (h1 : Cond.methodLink own index y ∈ jk_WA) (h2 : Cond.instanceMethod y ∈ jk_WA) (h3 : Cond.selects y.cls y y ∈ jk_WA) (h4 : Cond.initialized y.cls ∈ jk_WA) (h5 : Cond.code y bytes maxL ret' ∈ jk_WA) (hd : jk_nm y n) (hR : f + 1 ≤ R.frames ∧ 8 + (maxL + 11) + lo ≤ R.locals) (hn : As.length = n)
    (is : List Nat) (hC : is.map (fun i => ws[i]?) = wc.map some) (hnd : va_nd is = true) (hput : jk_put ws is wc = ws) (q0 ci : Nat) {q1 : vw_C} {fs : List Value} (hq : ws[q0]? = some (b, .inr (ci, fs))) (hc : cl[ci]? = some q1) (hqy : q1.1 = y.cls)
    (hst : st0 = As.reverse ++ .ref b :: st) (hW : (st.map fun v => v.category).sum ≤ 8) (hdg : decode cc pc = .ok (.invokevirtual index, 3)) (hcs : cells + mc2 ≤ R.cells ∧ slots + ms2 ≤ R.slots)
    (had : ∀ z, q2 = .inr z → z.2.map (·.1) = wc.map (·.1))
    (kk : ∀ z, q2 = .inr z → jk_J p l e R s m args below meth c (cells + mc2) (slots + ms2) Q D cl A nL (jk_put ws is z.2) lv (pc + 3) (jk_V z.1 :: st))
    (kx : ∀ (k : Nat) (H1 : Heap) (locs1 : List Loc) (ls : Array Slot) (q9 : Addr) (ce : Cell), q2 = .inl k → lv_has ls nL lv → va_P D cl ws H1 → va_D A ws → va_S A s.heap H1 locs1 → H1[q9]? = some ce → ce.vm = .none → s.vm.findClass (jk_exc k) = some ce.cls → vx_W p l e R s m args below meth c H1 locs1 (cells + mc2) (slots + ms2) Q (F0 m pc ls st) q9) : jk_J p l e R s m args below meth c cells slots Q D cl A nL ws lv pc st0 := by
  intro H locs ls hl hP hD hS
  obtain ⟨g1, g2, g3, g4⟩ := jk_pre hZ hz C.2.2.1 C.2.1 hP hD hS hC hnd (.ref b :: As)
  have hrecv := va_recv C.2.1 hP hc hq
  rw [hqy] at hrecv
  refine vx_calli (vx_runV (As := As) (rest := st) C.1 (hM H.size) (jk_cwVx C h1 h2 h3 h4 h5 hd hR) ⟨g1, hrecv, g2⟩ rfl hn hl.1 hst (lv_room hW) hdg hcs) hS (fun q _ h => g4 q h) g4 (fun q _ h => g4 q h) (fun E ce q9 u t H1 locs1 ht hvm hpx hBX hz1 hk1 hS1 hce hv hcl => ?_) (fun r' u t H1 locs1 ht hvm hr hB hz1 hk1 hS1 => ?_)
  · obtain ⟨k, e1, e2, hP1, -⟩ := hBX
    rw [ht] at hP1
    obtain ⟨k1, k2⟩ := jk_join hP hD is hC rfl hput hk1 hP1
    subst e2
    exact kx k H1 locs1 ls q9 ce e1 hl k1 k2 hS1 hce hv hcl
  · obtain ⟨o, e1, e2⟩ := hr
    obtain ⟨o', e3, hP1, -⟩ := hB
    rw [e1] at e3
    cases e3
    rw [ht] at hP1
    obtain ⟨k1, k2⟩ := jk_join hP hD is hC (had o e1) rfl hk1 hP1
    subst e2
    exact kk o e1 H1 locs1 ls hl k1 k2 hS1
/-- a static call of a method with handlers -/
theorem jk_callSW (C : jk_C p s m args meth c cc own nL jk_WA D cl tys A ret) (hZ : jk_ZC Z) (hz : Z A s s.heap) {f lo : Nat} {r : Int} (hM : jk_ME l D cl tys Z y (.codeWith y bytes maxL ret' hh :: jk_WA) (jk_rx f mc2 ms2 lo) As wc wc' r mc2 ms2)
    (h1 : Cond.methodLink own index y ∈ jk_WA) (h2 : Cond.static y ∈ jk_WA) (h4 : Cond.initialized y.cls ∈ jk_WA) (h5 : Cond.codeWith y bytes maxL ret' hh ∈ jk_WA) (hd : jk_nm y n) (hR : f + 1 ≤ R.frames ∧ 8 + (maxL + 11) + lo ≤ R.locals) (hn : As.length = n)
    (is : List Nat) (hC : is.map (fun i => ws[i]?) = wc.map some) (hnd : va_nd is = true) (had : wc'.map (·.1) = wc.map (·.1)) (hw : jk_put ws is wc' = ws')
    (hst : st0 = As.reverse ++ st) (hW : (st.map fun v => v.category).sum ≤ 8) (hdg : decode cc pc = .ok (.invokestatic index, 3)) (hcs : cells + mc2 ≤ R.cells ∧ slots + ms2 ≤ R.slots)
    (kk : jk_J p l e R s m args below meth c (cells + mc2) (slots + ms2) Q D cl A nL ws' lv (pc + 3) (jk_V r :: st)) : jk_J p l e R s m args below meth c cells slots Q D cl A nL ws lv pc st0 := by
  intro H locs ls hl hP hD hS
  obtain ⟨g1, g2, g3, g4⟩ := jk_pre hZ hz C.2.2.1 C.2.1 hP hD hS hC hnd As
  have hG : GoodIn jk_WA (va_wsS own index y (.codeWith y bytes maxL ret' hh :: jk_WA)) := fun w hw => by
    rcases List.mem_append.mp hw with q | q
    · have : w ∈ jk_WA := by
        rcases List.mem_cons.mp q with rfl | q
        · exact h1
        rcases List.mem_cons.mp q with rfl | q
        · exact h2
        rcases List.mem_cons.mp q with rfl | q
        · exact h4
        exact absurd q List.not_mem_nil
      exact ⟨this, jk_good this⟩
    · rcases List.mem_cons.mp q with rfl | q
      · exact ⟨h5, jk_good h5⟩
      · exact ⟨q, jk_good q⟩
  refine va_calli (vx_runSW (As := As) (rest := st) C.1 (hM H.size) (vx_cwSW n C.1.2.2.2.2 hG rfl rfl rfl hd hR) ⟨g1, g2⟩ rfl hn hl.1 hst (lv_room hW) hdg hcs) hS (fun q _ h => g4 q h) g4 (fun r' u t H1 locs1 ht hvm hw1 hB hz1 hk1 hS1 => ?_)
  obtain ⟨hP1, -⟩ := hB
  rw [ht] at hP1
  obtain ⟨k1, k2⟩ := jk_join hP hD is hC had hw hk1 hP1
  subst hw1
  exact kk H1 locs1 ls hl k1 k2 hS1
/-! the whole world ahead of one more cell -/
theorem lw_pl {W X : va_W} {N : Nat} (hN : W.length = N) : (List.range N).map (fun i => (W ++ X)[i]?) = W.map some := by
  subst hN
  apply List.ext_getElem?
  intro k
  rw [List.getElem?_map, List.getElem?_map]
  by_cases h : k < W.length
  · rw [List.getElem?_range h]
    show some ((W ++ X)[k]?) = _
    rw [List.getElem?_append_left h, List.getElem?_eq_getElem h]
    rfl
  · rw [List.getElem?_eq_none (by rw [List.length_range]; omega), List.getElem?_eq_none (by omega)]
    rfl
theorem lw_put {W W' X : va_W} {N : Nat} (hN : W.length = N) (hN' : W'.length = N) : jk_put (W ++ X) (List.range N) W' = W' ++ X := by
  have hl : (jk_put (W ++ X) (List.range N) W').length = (W' ++ X).length := by
    rw [show (jk_put (W ++ X) (List.range N) W').length = (W ++ X).length from jk_rep_len _ _ _ 0, List.length_append, List.length_append, hN, hN']
  apply List.ext_getElem?
  intro k
  cases hp : (jk_put (W ++ X) (List.range N) W')[k]? with
  | none =>
    have h1 := List.getElem?_eq_none_iff.mp hp
    rw [hl] at h1
    rw [List.getElem?_eq_none h1]
  | some x =>
    rcases jk_put_get (List.range N) W' (W ++ X) k x (by rw [List.length_range, hN']) hp with ⟨j, h1, h2⟩ | ⟨h1, h2⟩
    · have hj : j < N := by
        have := (List.getElem?_eq_some_iff.mp h1).1
        rwa [List.length_range] at this
      rw [List.getElem?_range hj] at h1
      cases h1
      rw [List.getElem?_append_left (by omega), h2]
    · have hk : N ≤ k := by
        rcases Nat.lt_or_ge k N with q | q
        · exact absurd (List.mem_range.mpr q) h2
        · exact q
      rw [List.getElem?_append_right (by omega)] at h1
      rw [List.getElem?_append_right (by omega), ← h1, hN, hN']
theorem lw_len {W W' : va_W} {N : Nat} (hN : W.length = N) (h : W'.map (·.1) = W.map (·.1)) : W'.length = N := by
  have := congrArg List.length h
  rw [List.length_map, List.length_map] at this
  omega
end LR
section LR2
variable {p : Program} {l : Launch} {e : Env} {R : Room} {s : State} {m : MethodId} {args : Array Value} {below : List Frame} {meth : Method} {c : Code} {cells slots : Nat} {Q : State → Prop} {D : va_G} {cl : List vw_C} {A : Nat → Prop} {nL : Nat} {ws : va_W} {lv lv' : List (Nat × Value)} {pc : Nat} {st : List Value}
variable {cc : ByteArray} {own : String} {tys : List (ClassId × FieldType)} {ret : Option FieldType} {Z : (Nat → Prop) → State → Heap → Prop}
theorem jk_astore (C : jk_C p s m args meth c cc own nL jk_WA D cl tys A ret) {i : Nat} {x : Nat} (hdg : decode cc pc = .ok (.astore i, 2)) (hn : i < nL) (hl' : (i, Value.ref x) :: lv.filter (fun q => !(q.1 == i) && !(q.1 + 1 == i && q.2.category == 2)) = lv') (kk : jk_J p l e R s m args below meth c cells slots Q D cl A nL ws lv' (pc + 2) st) : jk_J p l e R s m args below meth c cells slots Q D cl A nL ws lv pc (.ref x :: st) :=
  fun H locs ls hl hP hD hS => lv_astore C.1.1 C.1.2.1 hdg hl hn hl' (fun ls' h' => kk H locs ls' h' hP hD hS)
theorem jk_lconst (C : jk_C p s m args meth c cc own nL jk_WA D cl tys A ret) {n : Fin 2} (hdg : decode cc pc = .ok (.lconst n, 1)) (kk : jk_J p l e R s m args below meth c cells slots Q D cl A nL ws lv (pc + 1) (.long (Int64.ofNat n) :: st)) : jk_J p l e R s m args below meth c cells slots Q D cl A nL ws lv pc st :=
  fun H locs ls hl hP hD hS => lv_lconst C.1.1 C.1.2.1 hdg rfl (kk H locs ls hl hP hD hS)
theorem jk_catch (C : jk_C p s m args meth c cc own nL jk_WA D cl tys A ret) {k tgt : Nat} {H1 : Heap} {locs1 : List Loc} {ls : Array Slot} {q9 : Addr} {ce : Cell} (pre : List ExceptionTableEntry) (x : ExceptionTableEntry) (suf : List ExceptionTableEntry) (hsplit : c.exceptionTable.toList = pre ++ x :: suf)
    (hpass : ∀ z ∈ pre, covers z pc = false ∨ (z.catchType ≠ 0 ∧ ∃ nm : String, (Cond.classLink own z.catchType nm).before args s = true ∧ va_Nc (jk_exc k) nm s)) (hx : covers x pc = true) (h0 : x.catchType ≠ 0) (ht : x.handlerPc = tgt)
    (hlink : Cond.classLink own x.catchType (jk_exc k) ∈ jk_WA) (hcast : (Cond.castable (jk_exc k) (jk_exc k)).before args s = true) (hl : lv_has ls nL lv) (hP : va_P D cl ws H1) (hD : va_D A ws) (hS : va_S A s.heap H1 locs1) (hce : H1[q9]? = some ce) (hv : ce.vm = .none) (hcl : s.vm.findClass (jk_exc k) = some ce.cls)
    (kk : jk_J p l e R s m args below meth c cells slots Q D cl A nL ws lv tgt [.ref q9]) : vx_W p l e R s m args below meth c H1 locs1 cells slots Q (F0 m pc ls st) q9 := by
  subst ht
  exact vx_catch C.1.2.2.2.1 pre x suf hsplit hpass hx h0 (C.1.2.2.2.2 _ hlink) hcast hce hv hcl (kk H1 locs1 ls hl hP hD hS)
theorem lw_at {W : va_W} {N : Nat} (hN : W.length = N) (x : Nat × va_E) : (W ++ [x])[N]? = some x := by
  rw [List.getElem?_append_right (by omega), hN, Nat.sub_self]
  rfl
theorem lw_set {W : va_W} {N : Nat} (hN : W.length = N) (x y : Nat × va_E) : (W ++ [x]).set N y = W ++ [y] := by
  subst hN
  rw [List.set_append_right _ _ (Nat.le_refl _), Nat.sub_self]
  rfl
theorem lw_hd {W : va_W} {N : Nat} (hN : W.length = N) {i : Nat} {q : Nat × va_E} (h : W[i]? = some q) (X : va_W) : (W ++ X)[i]? = some q := by
  rw [List.getElem?_append_left (List.getElem?_eq_some_iff.mp h).1]
  exact h
/-- a call's outcome: thrown with the t-th of the kinds told, or returned b -/
def jk_oc (tb : List Nat) (q : Nat ⊕ (Int × va_W)) (W Wf : va_W) (t b : Int) : Prop := match q with
  | .inl k => ∃ j : Nat, tb[j]? = some k ∧ t = (j : Int) + 1 ∧ Wf = W
  | .inr z => t = 0 ∧ z.1 = b ∧ z.2 = Wf
def jk_oz (q : Nat ⊕ (Int × va_W)) (f : Nat → Int64) : Nat → Int64 := match q with
  | .inl _ => f
  | .inr z => vp_updL f 0 (jk_I z.1).toInt64
theorem jk_oz0 {tb : List Nat} {q : Nat ⊕ (Int × va_W)} {W Wf : va_W} {t b : Int} (h : jk_oc tb q W Wf t b) (f : Nat → Int64) : t = 0 → jk_oz q f 0 = (jk_I b).toInt64 := by
  intro ht
  cases q with
  | inl k =>
    obtain ⟨j, -, h1, -⟩ := h
    omega
  | inr z =>
    obtain ⟨-, h1, -⟩ := h
    subst h1
    show vp_updL f 0 _ 0 = _
    unfold vp_updL
    rfl
def jk_ncs : List (Nat × Nat) := [(2, 1), (3, 1), (4, 1), (3, 2)]
abbrev jk_t3 (cI cR cL : ClassId) : List (ClassId × FieldType) := [(cI, .int), (cR, .object "KnotReader$Cords"), (cL, .long)]
end LR2
