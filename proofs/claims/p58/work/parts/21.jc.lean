/-! calls over such worlds -/
section JMC
variable {p : Program} {l : Launch} {e : Env} {R : Room} {s : State} {m : MethodId} {args : Array Value} {below : List Frame} {meth : Method} {c : Code} {cells slots mc ms mc2 ms2 : Nat} {Q : State → Prop} {D : va_G} {cl : List vw_C} {A : Nat → Prop} {nL : Nat} {ws : va_W} {lv lv' : List (Nat × Value)} {pc : Nat} {st st0 : List Value} {M : jm_M}
variable {cc : ByteArray} {own : String} {tys : List (ClassId × FieldType)} {ret ret' : Option FieldType} {Z : (Nat → Prop) → State → Heap → Prop}
variable {x y : MethodName} {bytes : ByteArray} {maxL n index count : Nat} {a b : Nat} {As : List Value} {post : Option Value → jm_M → Prop}
variable {C0 host owner : String} {T : u_T} {N ci f lo : Nat} {fs : List Value} {v : Value} {q : vw_C}
theorem jm_hF {H : Heap} {locs : List Loc} (hD : va_D A ws) (hS : va_S A s.heap H locs) (hA : ∀ q, s.heap.size ≤ q → A q) : ∀ q, va_A ws H.size q → A q := by
  rintro q (⟨k, e, h⟩ | h)
  · exact hD.2 k (q, e) h
  · exact hA q (Nat.le_trans hS.1 h)
/-- what a call wants, where the callee is given the whole world -/
theorem jm_pre {H : Heap} {locs : List Loc} (hZ : jk_ZC Z) (hz : Z A s s.heap) (hA : ∀ q, s.heap.size ≤ q → A q) (hK : va_K D cl tys s) (hP : va_P D cl ws H) (hD : va_D A ws) (hS : va_S A s.heap H locs) (as : List Value) :
    FrameBlind (va_Pc as (jk_Pre D cl tys Z ws H.size)) ∧ (∀ U : State, U.heap = H → s.WarmedH U.vm → va_Pc as (jk_Pre D cl tys Z ws H.size) as.toArray U) := by
  refine ⟨jk_blind hZ as ws H.size, fun U hU hW => ⟨rfl, by rw [hU], by rw [hU]; exact hP, va_K.moved hW.alike hK, hD.weaken (fun _ _ _ _ => trivial), ?_⟩⟩
  rw [hU]
  exact hZ.2.1 _ s U _ hW (hZ.2.2.2 A _ s H (jm_hF hD hS hA) (hZ.2.2.1 A s s.heap H (fun a h1 h2 => hS.2.1 a h1 h2) hz))
theorem jm_go {av : Array Value} {H : Heap} {locs : List Loc} {ls : Array Slot} (hl : lv_has ls nL lv) (hD : va_D A ws) (hS : va_S A s.heap H locs) (hA : ∀ q, s.heap.size ≤ q → A q)
    (hr : va_Run p l e R s m args below meth c H locs cells slots mc2 ms2 (F0 m pc ls st0) st (jm_Post D cl tys (va_A ws H.size) post av) (va_A ws H.size))
    (kk : ∀ (v : Option Value) (ws' : va_W), post v (jm_lk ws') → jk_J p l e R s m args below meth c (cells + mc2) (slots + ms2) Q D cl A nL ws' lv (pc + 3) (v.toList ++ st)) : W p l e R s m args below meth c H locs cells slots Q (F0 m pc ls st0) := by
  have hF := jm_hF hD hS hA
  intro T hT X
  obtain ⟨v, st₀, t, T', L, h0, X', hL, e1, e2, ⟨⟨v', w', hv, hp, hP1, hD1, hK1⟩, hz, hk⟩, stp⟩ := hr T hT X
  cases hv
  rw [h0] at hz hk
  obtain ⟨t2, a1, b1⟩ := kk v w' hp T'.heap (locs ++ L) ls hl (by rw [e1]; exact hP1) (hD1.weaken (fun _ _ _ h => hF _ h))
    ⟨Nat.le_trans hS.1 (by rw [e1]; exact hz), fun q h1 h2 => by rw [e1, hk q (Nat.lt_of_lt_of_le h1 hS.1) (fun z => h2 (hF q z))]; exact hS.2.1 q h1 h2, fun q hq => by
      rcases List.mem_append.mp hq with h | h
      · exact hS.2.2 q h
      · exact hF _ (hL q h)⟩ T' rfl X'
  exact ⟨t2, stp t2 a1, b1⟩
theorem jm_go5 {av : Array Value} {H : Heap} {locs : List Loc} {ls : Array Slot} (hl : lv_has ls nL lv) (hD : va_D A ws) (hS : va_S A s.heap H locs) (hA : ∀ q, s.heap.size ≤ q → A q)
    (hr : va_Run5 p l e R s m args below meth c H locs cells slots mc2 ms2 (F0 m pc ls st0) st (jm_Post D cl tys (va_A ws H.size) post av) (va_A ws H.size))
    (kk : ∀ (v : Option Value) (ws' : va_W), post v (jm_lk ws') → jk_J p l e R s m args below meth c (cells + mc2) (slots + ms2) Q D cl A nL ws' lv (pc + 5) (v.toList ++ st)) : W p l e R s m args below meth c H locs cells slots Q (F0 m pc ls st0) := by
  have hF := jm_hF hD hS hA
  intro T hT X
  obtain ⟨v, st₀, t, T', L, h0, X', hL, e1, e2, ⟨⟨v', w', hv, hp, hP1, hD1, hK1⟩, hz, hk⟩, stp⟩ := hr T hT X
  cases hv
  rw [h0] at hz hk
  obtain ⟨t2, a1, b1⟩ := kk v w' hp T'.heap (locs ++ L) ls hl (by rw [e1]; exact hP1) (hD1.weaken (fun _ _ _ h => hF _ h))
    ⟨Nat.le_trans hS.1 (by rw [e1]; exact hz), fun q h1 h2 => by rw [e1, hk q (Nat.lt_of_lt_of_le h1 hS.1) (fun z => h2 (hF q z))]; exact hS.2.1 q h1 h2, fun q hq => by
      rcases List.mem_append.mp hq with h | h
      · exact hS.2.2 q h
      · exact hF _ (hL q h)⟩ T' rfl X'
  exact ⟨t2, stp t2 a1, b1⟩
theorem jm_callV (C : jk_C p s m args meth c cc own nL jk_WA D cl tys A ret) (hZ : jk_ZC Z) (hz : Z A s s.heap) (hws : jm_lk ws = M) (hM : jm_Met l D cl tys Z y (.code y bytes maxL ret' :: jk_WA) (jk_rx f mc2 ms2 lo) (.ref b :: As) M post mc2 ms2)
    (h1 : Cond.methodLink own index y ∈ jk_WA) (h2 : Cond.instanceMethod y ∈ jk_WA) (h3 : Cond.selects y.cls y y ∈ jk_WA) (h4 : Cond.initialized y.cls ∈ jk_WA) (h5 : Cond.code y bytes maxL ret' ∈ jk_WA) (hd : jk_nm y n) (hR : f + 1 ≤ R.frames ∧ 8 + (maxL + 11) + lo ≤ R.locals) (hn : As.length = n)
    (hq : M b = some (.inr (ci, fs))) (hc : cl[ci]? = some q) (hqy : q.1 = y.cls) (hst : st0 = As.reverse ++ .ref b :: st) (hW : (st.map fun v => v.category).sum ≤ 8) (hdg : decode cc pc = .ok (.invokevirtual index, 3)) (hcs : cells + mc2 ≤ R.cells ∧ slots + ms2 ≤ R.slots)
    (kk : ∀ (v : Option Value) (ws' : va_W), post v (jm_lk ws') → jk_J p l e R s m args below meth c (cells + mc2) (slots + ms2) Q D cl A nL ws' lv (pc + 3) (v.toList ++ st)) : jk_J p l e R s m args below meth c cells slots Q D cl A nL ws lv pc st0 := by
  obtain ⟨q0, h0⟩ := jm_lk_mem (by rw [hws]; exact hq : jm_lk ws b = _)
  intro H locs ls hl hP hD hS
  obtain ⟨g1, g2⟩ := jm_pre hZ hz C.2.2.1 C.2.1 hP hD hS (.ref b :: As)
  have hrecv := va_recv C.2.1 hP hc h0
  rw [hqy] at hrecv
  exact jm_go hl hD hS C.2.2.1 (va_runV (As := As) (rest := st) C.1 (hM H.size ws hws) (jk_cwVx C h1 h2 h3 h4 h5 hd hR) ⟨g1, hrecv, g2⟩ rfl hn hl.1 hst (lv_room hW) hdg hcs) kk
/-- a virtual call whose receiver is known by the heap alone -/
theorem jm_callVr (C : jk_C p s m args meth c cc own nL jk_WA D cl tys A ret) (hZ : jk_ZC Z) (hz : Z A s s.heap) (hws : jm_lk ws = M) (hM : jm_Met l D cl tys Z y (.code y bytes maxL ret' :: jk_WA) (jk_rx f mc2 ms2 lo) (.ref b :: As) M post mc2 ms2)
    (h1 : Cond.methodLink own index y ∈ jk_WA) (h2 : Cond.instanceMethod y ∈ jk_WA) (h3 : Cond.selects y.cls y y ∈ jk_WA) (h4 : Cond.initialized y.cls ∈ jk_WA) (h5 : Cond.code y bytes maxL ret' ∈ jk_WA) (hd : jk_nm y n) (hR : f + 1 ≤ R.frames ∧ 8 + (maxL + 11) + lo ≤ R.locals) (hn : As.length = n)
    (hrecv : ∀ (H : Heap) (locs : List Loc), va_P D cl ws H → va_S A s.heap H locs → ∃ cell : Cell, H[b]? = some cell ∧ cell.vm.isStatics = false ∧ s.vm.findClass y.cls = some cell.cls) (hst : st0 = As.reverse ++ .ref b :: st) (hW : (st.map fun v => v.category).sum ≤ 8) (hdg : decode cc pc = .ok (.invokevirtual index, 3)) (hcs : cells + mc2 ≤ R.cells ∧ slots + ms2 ≤ R.slots)
    (kk : ∀ (v : Option Value) (ws' : va_W), post v (jm_lk ws') → jk_J p l e R s m args below meth c (cells + mc2) (slots + ms2) Q D cl A nL ws' lv (pc + 3) (v.toList ++ st)) : jk_J p l e R s m args below meth c cells slots Q D cl A nL ws lv pc st0 := by
  intro H locs ls hl hP hD hS
  obtain ⟨g1, g2⟩ := jm_pre hZ hz C.2.2.1 C.2.1 hP hD hS (.ref b :: As)
  exact jm_go hl hD hS C.2.2.1 (va_runV (As := As) (rest := st) C.1 (hM H.size ws hws) (jk_cwVx C h1 h2 h3 h4 h5 hd hR) ⟨g1, hrecv H locs hP hS, g2⟩ rfl hn hl.1 hst (lv_room hW) hdg hcs) kk
theorem jm_cwS (C : jk_C p s m args meth c cc own nL jk_WA D cl tys A ret) (h1 : Cond.methodLink own index y ∈ jk_WA) (h2 : Cond.static y ∈ jk_WA) (h4 : Cond.initialized y.cls ∈ jk_WA) (h5 : Cond.code y bytes maxL ret' ∈ jk_WA) (hd : jk_nm y n) (hR : f + 1 ≤ R.frames ∧ 8 + (maxL + 11) + lo ≤ R.locals) :
    CallB R s args own index y bytes maxL ret' (.code y bytes maxL ret' :: jk_WA) (jk_rx f mc2 ms2 lo) mc2 ms2 n ∧ (Cond.static y).before args s = true :=
  va_cwS n C.1.2.2.2.2 (fun w hw => by
    rcases List.mem_append.mp hw with q | q
    · have : w ∈ jk_WA := by
        rcases List.mem_cons.mp q with rfl | q
        · exact h1
        rcases List.mem_cons.mp q with rfl | q
        · exact h2
        rcases List.mem_cons.mp q with rfl | q
        · exact h4
        exact absurd q List.not_mem_nil
      exact ⟨this, jk_good this⟩
    · exact jk_goodIn h5 w q) rfl rfl rfl hd hR
theorem jm_callS (C : jk_C p s m args meth c cc own nL jk_WA D cl tys A ret) (hZ : jk_ZC Z) (hz : Z A s s.heap) (hws : jm_lk ws = M) (hM : jm_Met l D cl tys Z y (.code y bytes maxL ret' :: jk_WA) (jk_rx f mc2 ms2 lo) As M post mc2 ms2)
    (h1 : Cond.methodLink own index y ∈ jk_WA) (h2 : Cond.static y ∈ jk_WA) (h4 : Cond.initialized y.cls ∈ jk_WA) (h5 : Cond.code y bytes maxL ret' ∈ jk_WA) (hd : jk_nm y n) (hR : f + 1 ≤ R.frames ∧ 8 + (maxL + 11) + lo ≤ R.locals) (hn : As.length = n)
    (hst : st0 = As.reverse ++ st) (hW : (st.map fun v => v.category).sum ≤ 8) (hdg : decode cc pc = .ok (.invokestatic index, 3)) (hcs : cells + mc2 ≤ R.cells ∧ slots + ms2 ≤ R.slots)
    (kk : ∀ (v : Option Value) (ws' : va_W), post v (jm_lk ws') → jk_J p l e R s m args below meth c (cells + mc2) (slots + ms2) Q D cl A nL ws' lv (pc + 3) (v.toList ++ st)) : jk_J p l e R s m args below meth c cells slots Q D cl A nL ws lv pc st0 := by
  intro H locs ls hl hP hD hS
  obtain ⟨g1, g2⟩ := jm_pre hZ hz C.2.2.1 C.2.1 hP hD hS As
  exact jm_go hl hD hS C.2.2.1 (va_runS (As := As) (rest := st) C.1 (hM H.size ws hws) (jm_cwS C h1 h2 h4 h5 hd hR) ⟨g1, g2⟩ rfl hn hl.1 hst (lv_room hW) hdg hcs) kk
theorem jm_callI (C : jk_C p s m args meth c cc own nL jk_WA D cl tys A ret) (hZ : jk_ZC Z) (hz : Z A s s.heap) (hws : jm_lk ws = M) (hM : jm_Met l D cl tys Z y (.code y bytes maxL none :: jk_WA) (jk_rx f mc2 ms2 lo) (.ref b :: As) M post mc2 ms2)
    (h1 : Cond.methodLink own index y ∈ jk_WA) (h2 : Cond.instanceMethod y ∈ jk_WA) (h4 : Cond.initialized y.cls ∈ jk_WA) (h5 : Cond.code y bytes maxL none ∈ jk_WA) (hini : y.name = "<init>") (hd : jk_nm y n) (hR : f + 1 ≤ R.frames ∧ 8 + (maxL + 11) + lo ≤ R.locals) (hn : As.length = n)
    (hst : st0 = As.reverse ++ .ref b :: st) (hW : (st.map fun v => v.category).sum ≤ 8) (hdg : decode cc pc = .ok (.invokespecial index, 3)) (hcs : cells + mc2 ≤ R.cells ∧ slots + ms2 ≤ R.slots)
    (kk : ∀ (v : Option Value) (ws' : va_W), post v (jm_lk ws') → jk_J p l e R s m args below meth c (cells + mc2) (slots + ms2) Q D cl A nL ws' lv (pc + 3) (v.toList ++ st)) : jk_J p l e R s m args below meth c cells slots Q D cl A nL ws lv pc st0 := by
  intro H locs ls hl hP hD hS
  obtain ⟨g1, g2⟩ := jm_pre hZ hz C.2.2.1 C.2.1 hP hD hS (.ref b :: As)
  exact jm_go hl hD hS C.2.2.1 (va_runI (As := As) (rest := st) C.1 (hM H.size ws hws) (cwI n C.1.2.2.2.2 (jk_goodIn h5) rfl rfl rfl (C.1.2.2.2.2 _ h4) (C.1.2.2.2.2 _ h1) (C.1.2.2.2.2 _ h2) hini hd hR) ⟨g1, g2⟩ rfl hn hl.1 hst (lv_room hW) hdg hcs) kk
theorem jm_callIN (C : jk_C p s m args meth c cc own nL jk_WA D cl tys A ret) (hZ : jk_ZC Z) (hz : Z A s s.heap) (hws : jm_lk ws = M) (hM : jm_Met l D cl tys Z y (.code y bytes maxL none :: jk_WA) (jk_rx f mc2 ms2 lo) (.ref b :: As) M post mc2 ms2)
    (h1 : va_Nw (Cond.methodLinkNest own index y host) s) (h2 : Cond.instanceMethod y ∈ jk_WA) (h4 : Cond.initialized y.cls ∈ jk_WA) (h5 : Cond.code y bytes maxL none ∈ jk_WA) (hini : y.name = "<init>") (hd : jk_nm y n) (hR : f + 1 ≤ R.frames ∧ 8 + (maxL + 11) + lo ≤ R.locals) (hn : As.length = n)
    (hst : st0 = As.reverse ++ .ref b :: st) (hW : (st.map fun v => v.category).sum ≤ 8) (hdg : decode cc pc = .ok (.invokespecial index, 3)) (hcs : cells + mc2 ≤ R.cells ∧ slots + ms2 ≤ R.slots)
    (kk : ∀ (v : Option Value) (ws' : va_W), post v (jm_lk ws') → jk_J p l e R s m args below meth c (cells + mc2) (slots + ms2) Q D cl A nL ws' lv (pc + 3) (v.toList ++ st)) : jk_J p l e R s m args below meth c cells slots Q D cl A nL ws lv pc st0 := by
  intro H locs ls hl hP hD hS
  obtain ⟨g1, g2⟩ := jm_pre hZ hz C.2.2.1 C.2.1 hP hD hS (.ref b :: As)
  exact jm_go hl hD hS C.2.2.1 (va_runIN (As := As) (rest := st) C.1 (hM H.size ws hws) ⟨va_cnB n C.1.2.2.2.2 (jk_goodIn h5) rfl rfl rfl h1 (C.1.2.2.2.2 _ h4) hd hR, hini, C.1.2.2.2.2 _ h2⟩ ⟨g1, g2⟩ rfl hn hl.1 hst (lv_room hW) hdg hcs) kk
theorem jm_callVN (C : jk_C p s m args meth c cc own nL jk_WA D cl tys A ret) (hZ : jk_ZC Z) (hz : Z A s s.heap) (hws : jm_lk ws = M) (hM : jm_Met l D cl tys Z y (.code y bytes maxL ret' :: jk_WA) (jk_rx f mc2 ms2 lo) (.ref b :: As) M post mc2 ms2)
    (h1 : va_Nw (Cond.methodLinkNest own index y host) s) (h2 : Cond.instanceMethod y ∈ jk_WA) (h3 : Cond.selects y.cls y y ∈ jk_WA) (h4 : Cond.initialized y.cls ∈ jk_WA) (h5 : Cond.code y bytes maxL ret' ∈ jk_WA) (hd : jk_nm y n) (hR : f + 1 ≤ R.frames ∧ 8 + (maxL + 11) + lo ≤ R.locals) (hn : As.length = n)
    (hq : M b = some (.inr (ci, fs))) (hc : cl[ci]? = some q) (hqy : q.1 = y.cls) (hst : st0 = As.reverse ++ .ref b :: st) (hW : (st.map fun v => v.category).sum ≤ 8) (hdg : decode cc pc = .ok (.invokevirtual index, 3)) (hcs : cells + mc2 ≤ R.cells ∧ slots + ms2 ≤ R.slots)
    (kk : ∀ (v : Option Value) (ws' : va_W), post v (jm_lk ws') → jk_J p l e R s m args below meth c (cells + mc2) (slots + ms2) Q D cl A nL ws' lv (pc + 3) (v.toList ++ st)) : jk_J p l e R s m args below meth c cells slots Q D cl A nL ws lv pc st0 := by
  obtain ⟨q0, h0⟩ := jm_lk_mem (by rw [hws]; exact hq : jm_lk ws b = _)
  intro H locs ls hl hP hD hS
  obtain ⟨g1, g2⟩ := jm_pre hZ hz C.2.2.1 C.2.1 hP hD hS (.ref b :: As)
  have hrecv := va_recv C.2.1 hP hc h0
  rw [hqy] at hrecv
  exact jm_go hl hD hS C.2.2.1 (va_runVN (C := y.cls) (As := As) (rest := st) C.1 (hM H.size ws hws) ⟨va_cnB n C.1.2.2.2.2 (jk_goodIn h5) rfl rfl rfl h1 (C.1.2.2.2.2 _ h4) hd hR, C.1.2.2.2.2 _ h2, C.1.2.2.2.2 _ h3⟩ ⟨g1, hrecv, g2⟩ rfl hn hl.1 hst (lv_room hW) hdg hcs) kk
theorem jm_callSN (C : jk_C p s m args meth c cc own nL jk_WA D cl tys A ret) (hZ : jk_ZC Z) (hz : Z A s s.heap) (hws : jm_lk ws = M) (hM : jm_Met l D cl tys Z y (.code y bytes maxL ret' :: jk_WA) (jk_rx f mc2 ms2 lo) As M post mc2 ms2)
    (h1 : va_Nw (Cond.methodLinkNest own index y host) s) (h2 : Cond.static y ∈ jk_WA) (h4 : Cond.initialized y.cls ∈ jk_WA) (h5 : Cond.code y bytes maxL ret' ∈ jk_WA) (hd : jk_nm y n) (hR : f + 1 ≤ R.frames ∧ 8 + (maxL + 11) + lo ≤ R.locals) (hn : As.length = n)
    (hst : st0 = As.reverse ++ st) (hW : (st.map fun v => v.category).sum ≤ 8) (hdg : decode cc pc = .ok (.invokestatic index, 3)) (hcs : cells + mc2 ≤ R.cells ∧ slots + ms2 ≤ R.slots)
    (kk : ∀ (v : Option Value) (ws' : va_W), post v (jm_lk ws') → jk_J p l e R s m args below meth c (cells + mc2) (slots + ms2) Q D cl A nL ws' lv (pc + 3) (v.toList ++ st)) : jk_J p l e R s m args below meth c cells slots Q D cl A nL ws lv pc st0 := by
  intro H locs ls hl hP hD hS
  obtain ⟨g1, g2⟩ := jm_pre hZ hz C.2.2.1 C.2.1 hP hD hS As
  exact jm_go hl hD hS C.2.2.1 (va_runSN (As := As) (rest := st) C.1 (hM H.size ws hws) ⟨va_cnB n C.1.2.2.2.2 (jk_goodIn h5) rfl rfl rfl h1 (C.1.2.2.2.2 _ h4) hd hR, C.1.2.2.2.2 _ h2, trivial⟩ ⟨g1, g2⟩ rfl hn hl.1 hst (lv_room hW) hdg hcs) kk
/-- words that a list of words gives -/
theorem jm_gi {w4 : List Cond} (h : ∀ w ∈ w4, w ∈ jk_WA) (h5 : Cond.code y bytes maxL ret' ∈ jk_WA) : GoodIn jk_WA (w4 ++ (.code y bytes maxL ret' :: jk_WA)) := fun w hw => by
  rcases List.mem_append.mp hw with q | q
  · exact ⟨h w q, jk_good (h w q)⟩
  · exact jk_goodIn h5 w q
/-- an interface's method -/
theorem jm_callF (C : jk_C p s m args meth c cc own nL jk_WA D cl tys A ret) (hZ : jk_ZC Z) (hz : Z A s s.heap) (hws : jm_lk ws = M) (hM : jm_Met l D cl tys Z y (.code y bytes maxL ret' :: jk_WA) (jk_rx f mc2 ms2 lo) (.ref b :: As) M post mc2 ms2)
    (hF : va_Fw q.1 x y s) (h1 : ∀ w ∈ [Cond.methodLink own index x, Cond.selects q.1 x y, Cond.instanceMethod y, Cond.initialized y.cls], w ∈ jk_WA) (h5 : Cond.code y bytes maxL ret' ∈ jk_WA) (hd : jk_nm x n) (hR : f + 1 ≤ R.frames ∧ 8 + (maxL + 11) + lo ≤ R.locals) (hn : As.length = n)
    (hq : M b = some (.inr (ci, fs))) (hc : cl[ci]? = some q) (hst : st0 = As.reverse ++ .ref b :: st) (hW : (st.map fun v => v.category).sum ≤ 8) (hdg : decode cc pc = .ok (.invokeinterface index count, 5)) (hcs : cells + mc2 ≤ R.cells ∧ slots + ms2 ≤ R.slots)
    (kk : ∀ (v : Option Value) (ws' : va_W), post v (jm_lk ws') → jk_J p l e R s m args below meth c (cells + mc2) (slots + ms2) Q D cl A nL ws' lv (pc + 5) (v.toList ++ st)) : jk_J p l e R s m args below meth c cells slots Q D cl A nL ws lv pc st0 := by
  obtain ⟨q0, h0⟩ := jm_lk_mem (by rw [hws]; exact hq : jm_lk ws b = _)
  intro H locs ls hl hP hD hS
  obtain ⟨g1, g2⟩ := jm_pre hZ hz C.2.2.1 C.2.1 hP hD hS (.ref b :: As)
  have hrecv := va_recv C.2.1 hP hc h0
  exact jm_go5 hl hD hS C.2.2.1 (va_runF (As := As) (rest := st) (C.2.1.1 ci q hc).2 C.1 (hM H.size ws hws) (va_cwF n C.1.2.2.2.2 (jm_gi h1 h5) rfl rfl rfl hF hd hR) ⟨g1, hrecv, g2⟩ rfl hn hl.1 hst (lv_room hW) hdg hcs) kk
/-- a superclass's method, by 'super' -/
theorem jm_callSU (C : jk_C p s m args meth c cc own nL jk_WA D cl tys A ret) (hZ : jk_ZC Z) (hz : Z A s s.heap) (hws : jm_lk ws = M) (hM : jm_Met l D cl tys Z y (.code y bytes maxL ret' :: jk_WA) (jk_rx f mc2 ms2 lo) (.ref b :: As) M post mc2 ms2)
    (h1 : ∀ w ∈ [Cond.methodLink own index y, Cond.sameMethod y.cls y.cls y.name y.desc, Cond.superclass own y.cls, Cond.instanceMethod y, Cond.initialized y.cls], w ∈ jk_WA) (h5 : Cond.code y bytes maxL ret' ∈ jk_WA) (hno : y.name ≠ "<init>") (hd : jk_nm y n) (hR : f + 1 ≤ R.frames ∧ 8 + (maxL + 11) + lo ≤ R.locals) (hn : As.length = n)
    (hq : M b = some (.inr (ci, fs))) (hc : cl[ci]? = some q) (hst : st0 = As.reverse ++ .ref b :: st) (hW : (st.map fun v => v.category).sum ≤ 8) (hdg : decode cc pc = .ok (.invokespecial index, 3)) (hcs : cells + mc2 ≤ R.cells ∧ slots + ms2 ≤ R.slots)
    (kk : ∀ (v : Option Value) (ws' : va_W), post v (jm_lk ws') → jk_J p l e R s m args below meth c (cells + mc2) (slots + ms2) Q D cl A nL ws' lv (pc + 3) (v.toList ++ st)) : jk_J p l e R s m args below meth c cells slots Q D cl A nL ws lv pc st0 := by
  obtain ⟨q0, h0⟩ := jm_lk_mem (by rw [hws]; exact hq : jm_lk ws b = _)
  intro H locs ls hl hP hD hS
  obtain ⟨g1, g2⟩ := jm_pre hZ hz C.2.2.1 C.2.1 hP hD hS (.ref b :: As)
  have hrecv := va_recv C.2.1 hP hc h0
  exact jm_go hl hD hS C.2.2.1 (va_runSU (As := As) (rest := st) (C.2.1.1 ci q hc).2 C.1 (hM H.size ws hws) (va_cwSU n C.1.2.2.2.2 (jm_gi h1 h5) rfl rfl rfl ⟨hno, hd.2.2⟩ hR) ⟨g1, hrecv, g2⟩ rfl hn hl.1 hst (lv_room hW) hdg hcs) kk
/-- an inherited method of an object -/
theorem jm_callU (C : jk_C p s m args meth c cc own nL jk_WA D cl tys A ret) (hZ : jk_ZC Z) (hz : Z A s s.heap) (hws : jm_lk ws = M) (hM : jm_Met l D cl tys Z y (.code y bytes maxL ret' :: jk_WA) (jk_rx f mc2 ms2 lo) (.ref b :: As) M post mc2 ms2)
    (h1 : ∀ w ∈ [Cond.methodLink own index x, Cond.sameMethod x.cls owner x.name x.desc, Cond.selects q.1 x y, Cond.instanceMethod y, Cond.initialized y.cls], w ∈ jk_WA) (h5 : Cond.code y bytes maxL ret' ∈ jk_WA) (hyx : y = ⟨owner, x.name, x.desc⟩) (hd : owner ≠ "java/lang/invoke/MethodHandle" ∧ owner ≠ "java/lang/invoke/VarHandle" ∧ (parseMethodDescriptor x.desc).map (fun d => d.parameters.length) = some n) (hR : f + 1 ≤ R.frames ∧ 8 + (maxL + 11) + lo ≤ R.locals) (hn : As.length = n)
    (hq : M b = some (.inr (ci, fs))) (hc : cl[ci]? = some q) (hst : st0 = As.reverse ++ .ref b :: st) (hW : (st.map fun v => v.category).sum ≤ 8) (hdg : decode cc pc = .ok (.invokevirtual index, 3)) (hcs : cells + mc2 ≤ R.cells ∧ slots + ms2 ≤ R.slots)
    (kk : ∀ (v : Option Value) (ws' : va_W), post v (jm_lk ws') → jk_J p l e R s m args below meth c (cells + mc2) (slots + ms2) Q D cl A nL ws' lv (pc + 3) (v.toList ++ st)) : jk_J p l e R s m args below meth c cells slots Q D cl A nL ws lv pc st0 := by
  obtain ⟨q0, h0⟩ := jm_lk_mem (by rw [hws]; exact hq : jm_lk ws b = _)
  intro H locs ls hl hP hD hS
  obtain ⟨g1, g2⟩ := jm_pre hZ hz C.2.2.1 C.2.1 hP hD hS (.ref b :: As)
  have hrecv := va_recv C.2.1 hP hc h0
  exact jm_go hl hD hS C.2.2.1 (va_runU (C := q.1) (As := As) (rest := st) C.1 (hM H.size ws hws) (va_cwU n C.1.2.2.2.2 (jm_gi h1 h5) rfl rfl rfl hyx hd hR) ⟨g1, hrecv, g2⟩ rfl hn hl.1 hst (lv_room hW) hdg hcs) kk
theorem jm_fw {sq : Nat → Nat} (hZ : jk_ZK Z sq) (hz : Z A s s.heap) {w : Cond} (h : w ∈ jk_fw) : va_Nw w s := (hZ.2.2 A s s.heap hz).2.2.2.2.2.2 w h
theorem jm_fwi {w : Cond} (i : Nat) (h : tables_1[i]? = some w) (g : (w.onTables && w.keepsFace && !goodWord w) = true) : w ∈ jk_fw := List.mem_filter.mpr ⟨List.mem_append_right _ (List.mem_of_getElem? h), g⟩
end JMC
