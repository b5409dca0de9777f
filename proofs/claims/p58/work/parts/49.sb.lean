/-! text builders: the rows of their calls -/
section JP
variable {p : Program} {l : Launch} {e : Env} {R : Room} {s : State} {m : MethodId} {args : Array Value} {below : List Frame} {meth : Method} {c : Code} {cells slots mc ms mc2 ms2 : Nat} {Q : State → Prop} {D : va_G} {cl : List vw_C} {A : Nat → Prop} {nL : Nat} {ws : va_W} {lv lv' : List (Nat × Value)} {pc : Nat} {st st0 : List Value} {M : jm_M}
variable {cc : ByteArray} {own : String} {tys : List (ClassId × FieldType)} {ret ret' : Option FieldType} {Z : (Nat → Prop) → State → Heap → Prop}
variable {x y : MethodName} {bytes : ByteArray} {maxL n nC index count : Nat} {a b : Nat} {As : List Value} {post : Option Value → jm_M → Prop}
variable {C0 host owner : String} {T : u_T} {N ci f lo : Nat} {fs : List Value} {v : Value} {q : vw_C}
theorem jm_selP {Cn : String} (hins : (Cond.instantiable Cn nC).before args s = true) (hsame : (Cond.sameMethod y.cls y.cls y.name y.desc).before args s = true) (hpriv : (Cond.privateMethod y).before args s = true) (hinst : (Cond.instanceMethod y).before args s = true) : (Cond.selects Cn y y).before args s = true := by
  obtain ⟨c, k, hc, hk, -, -, -, -⟩ := Cond.instantiable_spec hins
  obtain ⟨cn, ck, r1, hcn, hck, hni, hf, hn1⟩ := Cond.sameMethod_found hsame
  obtain ⟨mk, methM, hnamed, hmethM, -, -⟩ := Cond.instanceMethod_spec hinst
  have e1 : mk = r1 := Option.some.inj (hnamed.symm.trans hn1)
  subst e1
  have hcls : mk.cls = cn := Option.some.inj ((findClass_of_methodNamed hnamed).symm.trans hcn)
  have hsel : selectMethod {} s.vm c mk = .method mk := selectMethod_private hmethM (Cond.privateMethod_at hpriv mk methM hnamed hmethM)
  simp only [Cond.before, Cond.holds, Cond.value, hc, hf, hnamed, hsel, hcls, hck]
  simp
  exact hni
/-- a private method of a superclass, at an object of a class below -/
theorem jm_callP (C : jk_C p s m args meth c cc own nL jk_WA D cl tys A ret) (hZ : jk_ZC Z) (hz : Z A s s.heap) (hws : jm_lk ws = M) (hM : jm_Met l D cl tys Z y (.code y bytes maxL ret' :: jk_WA) (jk_rx f mc2 ms2 lo) (.ref b :: As) M post mc2 ms2)
    (h1 : Cond.methodLink own index y ∈ jk_WA) (h2 : Cond.sameMethod y.cls y.cls y.name y.desc ∈ jk_WA) (h3 : Cond.instanceMethod y ∈ jk_WA) (h4 : Cond.initialized y.cls ∈ jk_WA) (h5 : Cond.code y bytes maxL ret' ∈ jk_WA) (h6 : va_Nw (Cond.privateMethod y) s) (h7 : Cond.instantiable q.1 nC ∈ jk_WA) (hd : jk_nm y n) (hR : f + 1 ≤ R.frames ∧ 8 + (maxL + 11) + lo ≤ R.locals) (hn : As.length = n)
    (hq : M b = some (.inr (ci, fs))) (hc : cl[ci]? = some q) (hst : st0 = As.reverse ++ .ref b :: st) (hW : (st.map fun v => v.category).sum ≤ 8) (hdg : decode cc pc = .ok (.invokevirtual index, 3)) (hcs : cells + mc2 ≤ R.cells ∧ slots + ms2 ≤ R.slots)
    (kk : ∀ (v : Option Value) (ws' : va_W), post v (jm_lk ws') → jk_J p l e R s m args below meth c (cells + mc2) (slots + ms2) Q D cl A nL ws' lv (pc + 3) (v.toList ++ st)) : jk_J p l e R s m args below meth c cells slots Q D cl A nL ws lv pc st0 := by
  obtain ⟨q0, h0⟩ := jm_lk_mem (by rw [hws]; exact hq : jm_lk ws b = _)
  intro H locs ls hl hP hD hS
  obtain ⟨g1, g2⟩ := jm_pre hZ hz C.2.2.1 C.2.1 hP hD hS (.ref b :: As)
  have hrecv := va_recv C.2.1 hP hc h0
  have ok : ∀ {w}, w ∈ jk_WA → w.before args s = true := fun h => C.1.2.2.2.2 _ h
  have hcw : va_CU R s args own q.1 y.cls index y y bytes maxL ret' (.code y bytes maxL ret' :: jk_WA) (jk_rx f mc2 ms2 lo) mc2 ms2 n := by
    refine ⟨⟨rfl, rfl, hR.1, hR.2, pay_in C.1.2.2.2.2 (jk_goodIn h5), List.mem_cons_self⟩, ok h5, ok h4, ⟨hd.1, hd.2.1⟩, fun sig h => ?_, ok h1, ok h2, va_Decl.of (ok h3) (ok h5), jm_selP (ok h7) (ok h2) (va_any rfl h6) (ok h3), ok h3⟩
    have h8 := hd.2.2
    rw [h] at h8
    exact (Option.some.inj h8).symm
  exact jm_go hl hD hS C.2.2.1 (va_runU (C := q.1) (As := As) (rest := st) C.1 (hM H.size ws hws) hcw ⟨g1, hrecv, g2⟩ rfl hn hl.1 hst (lv_room hW) hdg hcs) kk
/-- an overridden method: another one is run -/
theorem jm_callO (C : jk_C p s m args meth c cc own nL jk_WA D cl tys A ret) (hZ : jk_ZC Z) (hz : Z A s s.heap) (hws : jm_lk ws = M) (hM : jm_Met l D cl tys Z y (.code y bytes maxL ret' :: jk_WA) (jk_rx f mc2 ms2 lo) (.ref b :: As) M post mc2 ms2)
    (h1 : ∀ w ∈ [Cond.methodLink own index x, Cond.sameMethod x.cls owner x.name x.desc, Cond.instanceMethod ⟨owner, x.name, x.desc⟩, Cond.selects q.1 x y, Cond.instanceMethod y, Cond.initialized y.cls], w ∈ jk_WA) (h5 : Cond.code y bytes maxL ret' ∈ jk_WA) {b0 : ByteArray} {m0 : Nat} {r0 : Option FieldType} (h0 : Cond.code ⟨owner, x.name, x.desc⟩ b0 m0 r0 ∈ jk_WA) (hd : owner ≠ "java/lang/invoke/MethodHandle" ∧ owner ≠ "java/lang/invoke/VarHandle" ∧ (parseMethodDescriptor x.desc).map (fun d => d.parameters.length) = some n) (hR : f + 1 ≤ R.frames ∧ 8 + (maxL + 11) + lo ≤ R.locals) (hn : As.length = n)
    (hq : M b = some (.inr (ci, fs))) (hc : cl[ci]? = some q) (hst : st0 = As.reverse ++ .ref b :: st) (hW : (st.map fun v => v.category).sum ≤ 8) (hdg : decode cc pc = .ok (.invokevirtual index, 3)) (hcs : cells + mc2 ≤ R.cells ∧ slots + ms2 ≤ R.slots)
    (kk : ∀ (v : Option Value) (ws' : va_W), post v (jm_lk ws') → jk_J p l e R s m args below meth c (cells + mc2) (slots + ms2) Q D cl A nL ws' lv (pc + 3) (v.toList ++ st)) : jk_J p l e R s m args below meth c cells slots Q D cl A nL ws lv pc st0 := by
  obtain ⟨q0, hh⟩ := jm_lk_mem (by rw [hws]; exact hq : jm_lk ws b = _)
  intro H locs ls hl hP hD hS
  obtain ⟨g1, g2⟩ := jm_pre hZ hz C.2.2.1 C.2.1 hP hD hS (.ref b :: As)
  have hrecv := va_recv C.2.1 hP hc hh
  exact jm_go hl hD hS C.2.2.1 (va_runU (C := q.1) (As := As) (rest := st) C.1 (hM H.size ws hws) (va_cwO n C.1.2.2.2.2 (jm_gi h1 h5) rfl rfl rfl h0 hd hR) ⟨g1, hrecv, g2⟩ rfl hn hl.1 hst (lv_room hW) hdg hcs) kk
end JP
theorem jl_sh0 {n : Nat} (h : n < 1000000) : jk_shr (n : Int) 0 = (n : Int) ∧ jk_shl (n : Int) 0 = (n : Int) := by
  have e0 : (jk_I 0 &&& 31) = 0 := by decide
  constructor
  · unfold jk_shr
    have k := pk_shrN (n := n) (by omega) (jk_I 0 &&& 31) 0 (by decide)
    rw [Nat.pow_zero, Nat.div_one] at k
    show (nI n >>> (jk_I 0 &&& 31)).toInt = _
    rw [k, nI_toInt (by omega)]
  · unfold jk_shl
    rw [e0, Int32.shiftLeft_zero]
    exact jk_toInt ⟨by omega, by omega⟩
theorem sm_ASB_length : Jvm.Cond.sameMethod "java/lang/AbstractStringBuilder" "java/lang/AbstractStringBuilder" "length" "()I" ∈ jk_WA := jk_tb 1535 (by decide +kernel) (by decide +kernel)
theorem sw_SB_ASB_length : Jvm.Cond.selects "java/lang/StringBuilder" mn_ASB_length mn_SB_length ∈ jk_WA := jk_tb 1536 (by decide +kernel) (by decide +kernel)
theorem pw_ASB_ensureCapacityInternal {s : State} {A : Nat → Prop} {Z : (Nat → Prop) → State → Heap → Prop} {sq : Nat → Nat} (hZ : jk_ZK Z sq) (hz : Z A s s.heap) : va_Nw (Cond.privateMethod mn_ASB_ensureCapacityInternal) s := jm_fw hZ hz (jm_fwi 1392 (by decide +kernel) (by decide +kernel))
theorem sm_ASB_ensureCapacityInternal : Jvm.Cond.sameMethod "java/lang/AbstractStringBuilder" "java/lang/AbstractStringBuilder" "ensureCapacityInternal" "(I)V" ∈ jk_WA := jk_tb 1580 (by decide +kernel) (by decide +kernel)
theorem pw_ASB_newCapacity {s : State} {A : Nat → Prop} {Z : (Nat → Prop) → State → Heap → Prop} {sq : Nat → Nat} (hZ : jk_ZK Z sq) (hz : Z A s s.heap) : va_Nw (Cond.privateMethod mn_ASB_newCapacity) s := jm_fw hZ hz (jm_fwi 1396 (by decide +kernel) (by decide +kernel))
theorem sm_ASB_newCapacity : Jvm.Cond.sameMethod "java/lang/AbstractStringBuilder" "java/lang/AbstractStringBuilder" "newCapacity" "(I)I" ∈ jk_WA := jk_tb 1581 (by decide +kernel) (by decide +kernel)
theorem sm_ASB_apS : Jvm.Cond.sameMethod "java/lang/AbstractStringBuilder" "java/lang/AbstractStringBuilder" "append" "(Ljava/lang/String;)Ljava/lang/AbstractStringBuilder;" ∈ jk_WA := jk_tb 1376 (by decide +kernel) (by decide +kernel)
theorem sw_SB_ASB_apS : Jvm.Cond.selects "java/lang/StringBuilder" mn_ASB_apS mn_SB_apSb ∈ jk_WA := jk_tb 1377 (by decide +kernel) (by decide +kernel)
theorem sm_ASB_apC : Jvm.Cond.sameMethod "java/lang/AbstractStringBuilder" "java/lang/AbstractStringBuilder" "append" "(C)Ljava/lang/AbstractStringBuilder;" ∈ jk_WA := jk_tb 1585 (by decide +kernel) (by decide +kernel)
theorem sm_ASB_apI : Jvm.Cond.sameMethod "java/lang/AbstractStringBuilder" "java/lang/AbstractStringBuilder" "append" "(I)Ljava/lang/AbstractStringBuilder;" ∈ jk_WA := jk_tb 1586 (by decide +kernel) (by decide +kernel)
theorem sm_ASB_getValue : Jvm.Cond.sameMethod "java/lang/AbstractStringBuilder" "java/lang/AbstractStringBuilder" "getValue" "()[B" ∈ jk_WA := jk_tb 1530 (by decide +kernel) (by decide +kernel)
theorem sw_SB_ASB_getValue : Jvm.Cond.selects "java/lang/StringBuilder" mn_ASB_getValue mn_ASB_getValue ∈ jk_WA := jk_tb 1531 (by decide +kernel) (by decide +kernel)
theorem sm_ASB_isLatin1 : Jvm.Cond.sameMethod "java/lang/AbstractStringBuilder" "java/lang/AbstractStringBuilder" "isLatin1" "()Z" ∈ jk_WA := jk_tb 1412 (by decide +kernel) (by decide +kernel)
theorem sw_SB_ASB_isLatin1 : Jvm.Cond.selects "java/lang/StringBuilder" mn_ASB_isLatin1 mn_ASB_isLatin1 ∈ jk_WA := jk_tb 1413 (by decide +kernel) (by decide +kernel)
theorem pw_ASB_inflateIfNeededFor {s : State} {A : Nat → Prop} {Z : (Nat → Prop) → State → Heap → Prop} {sq : Nat → Nat} (hZ : jk_ZK Z sq) (hz : Z A s s.heap) : va_Nw (Cond.privateMethod mn_ASB_inflateIfNeededFor) s := jm_fw hZ hz (jm_fwi 1436 (by decide +kernel) (by decide +kernel))
theorem sm_ASB_inflateIfNeededFor : Jvm.Cond.sameMethod "java/lang/AbstractStringBuilder" "java/lang/AbstractStringBuilder" "inflateIfNeededFor" "(Ljava/lang/String;)V" ∈ jk_WA := jk_tb 1583 (by decide +kernel) (by decide +kernel)
theorem pw_ASB_putStringAt {s : State} {A : Nat → Prop} {Z : (Nat → Prop) → State → Heap → Prop} {sq : Nat → Nat} (hZ : jk_ZK Z sq) (hz : Z A s s.heap) : va_Nw (Cond.privateMethod mn_ASB_putStringAt) s := jm_fw hZ hz (jm_fwi 1432 (by decide +kernel) (by decide +kernel))
theorem sm_ASB_putStringAt : Jvm.Cond.sameMethod "java/lang/AbstractStringBuilder" "java/lang/AbstractStringBuilder" "putStringAt" "(ILjava/lang/String;)V" ∈ jk_WA := jk_tb 1582 (by decide +kernel) (by decide +kernel)
theorem kw_ASB_38 : Jvm.Cond.constant "java/lang/AbstractStringBuilder" (38 : Nat) (2147483631 : Int32) ∈ jk_WA := jk_tb 1364 (by decide +kernel) (by decide +kernel)
theorem kw_ASB_39 : Jvm.Cond.constant "java/lang/AbstractStringBuilder" (39 : Nat) (2147483647 : Int32) ∈ jk_WA := jk_tb 1365 (by decide +kernel) (by decide +kernel)
