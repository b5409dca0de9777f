/-! the two fractions in the law: the same double, or NaN on both sides -/
theorem nan_b64 {x : UInt64} : isNaN64 x = true ↔ 9218868437227405312 < x.toNat % 9223372036854775808 := by
  rw [isNaN64_iff]
  have h : x.toNat &&& 9223372036854775807 = x.toNat % 9223372036854775808 := Nat.and_two_pow_sub_one_eq_mod x.toNat 63
  rw [h]
theorem nan_b32 {x : UInt32} : isNaN32 x = true ↔ 2139095040 < x.toNat % 2147483648 := by
  rw [isNaN32_iff]
  have h : x.toNat &&& 2147483647 = x.toNat % 2147483648 := Nat.and_two_pow_sub_one_eq_mod x.toNat 31
  rw [h]
theorem nan_d64 {x : UInt64} (h : isNaN64 x = true) : FP.Core.decode FP.Core.b64 x.toNat = .nan := by
  rw [nan_b64] at h
  have e1 : FP.Core.fieldE FP.Core.b64 x.toNat = x.toNat / 4503599627370496 % 2048 := rfl
  have e2 : FP.Core.fieldT FP.Core.b64 x.toNat = x.toNat % 4503599627370496 := rfl
  have e3 : FP.Core.b64.exps = 2048 := rfl
  unfold FP.Core.decode
  rw [e1, e2, e3, if_pos (by omega), if_neg (by omega)]
theorem nan_d32 {x : UInt32} (h : isNaN32 x = true) : FP.Core.decode FP.Core.b32 x.toNat = .nan := by
  rw [nan_b32] at h
  have e1 : FP.Core.fieldE FP.Core.b32 x.toNat = x.toNat / 8388608 % 256 := rfl
  have e2 : FP.Core.fieldT FP.Core.b32 x.toNat = x.toNat % 8388608 := rfl
  have e3 : FP.Core.b32.exps = 256 := rfl
  unfold FP.Core.decode
  rw [e1, e2, e3, if_pos (by omega), if_neg (by omega)]
theorem nan_n64 {x : UInt64} (h : ¬ isNaN64 x = true) : FP.Core.decode FP.Core.b64 x.toNat ≠ .nan := by
  rw [nan_b64] at h
  have e1 : FP.Core.fieldE FP.Core.b64 x.toNat = x.toNat / 4503599627370496 % 2048 := rfl
  have e2 : FP.Core.fieldT FP.Core.b64 x.toNat = x.toNat % 4503599627370496 := rfl
  have e3 : FP.Core.b64.exps = 2048 := rfl
  unfold FP.Core.decode
  rw [e1, e2, e3]
  by_cases h1 : x.toNat / 4503599627370496 % 2048 = 2048 - 1
  · rw [if_pos h1, if_pos (by omega)]
    intro q
    cases q
  · rw [if_neg h1]
    intro q
    split at q <;> cases q
theorem cmp_self (z : Int) : compare z z = Ordering.eq := by simp [compare, compareOfLessAndEq]
theorem dc_nan {x y : UInt64} (h : isNaN64 x = true) : cmpValue (FP.dcmp x y) .l = jk_I (-1) := by
  have e : FP.dcmp x y = none := by
    show FP.Core.order (FP.Core.decode FP.Core.b64 x.toNat) _ = none
    rw [nan_d64 h]
    rfl
  rw [e]
  rfl
theorem dc_eq {x : UInt64} (h : ¬ isNaN64 x = true) : cmpValue (FP.dcmp x x) .l = jk_I 0 := by
  have e : FP.dcmp x x = some .eq := by
    show FP.Core.order (FP.Core.decode FP.Core.b64 x.toNat) (FP.Core.decode FP.Core.b64 x.toNat) = some .eq
    have hn := nan_n64 h
    generalize FP.Core.decode FP.Core.b64 x.toNat = d at hn
    cases d with
    | nan => exact absurd rfl hn
    | inf s => exact congrArg some (cmp_self _)
    | fin s c q => exact congrArg some (cmp_self _)
  rw [e]
  rfl
theorem al64 {x y : UInt64} (h : alike64 x y = true) : x = y ∨ (isNaN64 x = true ∧ isNaN64 y = true) := by
  unfold alike64 at h
  simpa using h
theorem al32 {x y : UInt32} (h : alike32 x y = true) : x = y ∨ (isNaN32 x = true ∧ isNaN32 y = true) := by
  unfold alike32 at h
  simpa using h
theorem nan_f2d {x : UInt32} (h : isNaN32 x = true) : isNaN64 (FP.f2d x) = true := by
  have e : FP.f2d x = FP.nanF2D x := by
    unfold FP.f2d
    rw [if_pos]
    show decide (FP.Core.decode FP.Core.b32 x.toNat = .nan) = true
    rw [nan_d32 h]
    rfl
  rw [e, isNaN64_iff]
  unfold FP.nanF2D
  rw [UInt64.toNat_or, UInt64.toNat_or, Nat.and_or_distrib_right, Nat.and_or_distrib_right]
  have h1 : (9221120237041090560 : UInt64).toNat &&& 9223372036854775807 = 9221120237041090560 := by decide +kernel
  rw [h1]
  have h2 : 9221120237041090560 ≤ ((x >>> 31).toUInt64 <<< 63).toNat &&& 9223372036854775807 ||| 9221120237041090560 := Nat.right_le_or
  have h3 : ((x >>> 31).toUInt64 <<< 63).toNat &&& 9223372036854775807 ||| 9221120237041090560 ≤ ((x >>> 31).toUInt64 <<< 63).toNat &&& 9223372036854775807 ||| 9221120237041090560 ||| ((x &&& 8388607).toUInt64 <<< 29).toNat &&& 9223372036854775807 := Nat.left_le_or
  omega
theorem dd_64 {p q u : UInt64} (h1 : alike64 p u = true) (h2 : alike64 q u = true) : (p = q ∧ ¬ isNaN64 p = true) ∨ (isNaN64 p = true ∧ isNaN64 q = true) := by
  rcases al64 h1 with rfl | ⟨a1, a2⟩
  · rcases al64 h2 with rfl | ⟨b1, b2⟩
    · by_cases h : isNaN64 q = true
      · exact Or.inr ⟨h, h⟩
      · exact Or.inl ⟨rfl, h⟩
    · exact Or.inr ⟨b2, b1⟩
  · rcases al64 h2 with rfl | ⟨b1, b2⟩
    · exact Or.inr ⟨a1, a2⟩
    · exact Or.inr ⟨a1, b1⟩
theorem dd_32 {x y v : UInt32} {p q : UInt64} (hx : alike32 x v = true) (hy : alike32 y v = true) (h1 : alike64 p (FP.f2d x) = true) (h2 : alike64 q (FP.f2d y) = true) : (p = q ∧ ¬ isNaN64 p = true) ∨ (isNaN64 p = true ∧ isNaN64 q = true) := by
  have nn : ∀ {a : UInt64} {b : UInt32}, alike64 a (FP.f2d b) = true → isNaN32 b = true → isNaN64 a = true := fun h hb => (al64 h).elim (fun e => e ▸ nan_f2d hb) (fun h => h.1)
  rcases al32 hx with rfl | ⟨a1, a2⟩
  · rcases al32 hy with rfl | ⟨b1, b2⟩
    · exact dd_64 h1 h2
    · exact Or.inr ⟨nn h1 b2, nn h2 b1⟩
  · rcases al32 hy with rfl | ⟨b1, b2⟩
    · exact Or.inr ⟨nn h1 a1, nn h2 a2⟩
    · exact Or.inr ⟨nn h1 a1, nn h2 b1⟩
section FR
variable {p : Program} {l : Launch} {e : Env} {R : Room} {s : State} {m : MethodId} {args : Array Value} {below : List Frame} {meth : Method} {c : Code} {cells slots : Nat} {Q : State → Prop} {D : va_G} {cl : List vw_C} {A : Nat → Prop} {nL : Nat} {ws ws' wc wc' : va_W} {lv lv' : List (Nat × Value)} {pc : Nat} {st st0 : List Value}
variable {cc : ByteArray} {own : String} {tys : List (ClassId × FieldType)} {ret ret' : Option FieldType} {Z : (Nat → Prop) → State → Heap → Prop} {cs : List Choice} {d0 : Drawn}
variable {y : MethodName} {bytes : ByteArray} {maxL n index : Nat} {b : Nat} {As : List Value}
theorem jk_dstore (C : jk_C p s m args meth c cc own nL jk_WA D cl tys A ret) {i : Nat} {x : UInt64} (hdg : decode cc pc = .ok (.dstore i, 2)) (hn : i + 1 < nL) (hl' : (i, Value.double x) :: lv.filter (fun q => !(q.1 == i) && (!(q.1 == i + 1) && !(q.1 + 1 == i && q.2.category == 2))) = lv') (kk : jk_J p l e R s m args below meth c cells slots Q D cl A nL ws lv' (pc + 2) st) : jk_J p l e R s m args below meth c cells slots Q D cl A nL ws lv pc (.double x :: st) :=
  fun H locs ls hl hP hD hS => lv_dstore C.1.1 C.1.2.1 hdg hl hn hl' (fun ls' h' => kk H locs ls' h' hP hD hS)
theorem jk_dload (C : jk_C p s m args meth c cc own nL jk_WA D cl tys A ret) {i k : Nat} {x : UInt64} (hdg : decode cc pc = .ok (.dload i, 2)) (hk : lv[k]? = some (i, .double x)) (kk : jk_J p l e R s m args below meth c cells slots Q D cl A nL ws lv (pc + 2) (.double x :: st)) : jk_J p l e R s m args below meth c cells slots Q D cl A nL ws lv pc st :=
  fun H locs ls hl hP hD hS => lv_dload C.1.1 C.1.2.1 hdg (lv_at hl k hk) (kk H locs ls hl hP hD hS)
theorem jk_dcmp (C : jk_C p s m args meth c cc own nL jk_WA D cl tys A ret) {x y : UInt64} {v : Int} (hv : cmpValue (FP.dcmp x y) .l = jk_I v) (hdg : decode cc pc = .ok (.dcmp .l, 1)) (kk : jk_J p l e R s m args below meth c cells slots Q D cl A nL ws lv (pc + 1) (jk_V v :: st)) : jk_J p l e R s m args below meth c cells slots Q D cl A nL ws lv pc (.double y :: .double x :: st) := by
  intro H locs ls hl hP hD hS
  refine lv_dcmp C.1.1 C.1.2.1 hdg ?_
  rw [hv]
  exact kk H locs ls hl hP hD hS
theorem jk_f2d (hd0 : s.drawn.sameBut d0 cs) (hn : nanBits ∈ cs) (C : jk_C p (s.setDrawn d0) m args meth c cc own nL jk_WA D cl tys A ret) {x : UInt32} (hdg : decode cc pc = .ok (.f2d, 1)) (kk : ∀ (r : UInt64) (d1 : Drawn), alike64 r (FP.f2d x) = true → s.drawn.sameBut d1 cs → jk_J p l e R (s.setDrawn d1) m args below meth c cells slots Q D cl A nL ws lv (pc + 1) (.double r :: st)) : jk_J p l e R (s.setDrawn d0) m args below meth c cells slots Q D cl A nL ws lv pc (.float x :: st) :=
  fun H locs ls hl hP hD hS => lv_f2d_any hd0 hn C.1.1 C.1.2.1 hdg (fun r d1 h1 h2 => kk r d1 h1 h2 H locs ls hl hP hD hS)
theorem jk_callVd (hd0 : s.drawn.sameBut d0 cs) (C : jk_C p (s.setDrawn d0) m args meth c cc own nL jk_WA D cl tys A ret) (hZ : jk_ZC Z) (hz : Z A (s.setDrawn d0) s.heap) {f lo : Nat} {r : UInt64} (hM : jk_MD cs l D cl tys Z y (.code y bytes maxL ret' :: jk_WA) (jk_rm f lo) (.ref b :: As) wc wc' r)
    (h1 : Cond.methodLink own index y ∈ jk_WA) (h2 : Cond.instanceMethod y ∈ jk_WA) (h3 : Cond.selects y.cls y y ∈ jk_WA) (h4 : Cond.initialized y.cls ∈ jk_WA) (h5 : Cond.code y bytes maxL ret' ∈ jk_WA) (hd : jk_nm y n) (hR : f + 1 ≤ R.frames ∧ 8 + (maxL + 11) + lo ≤ R.locals) (hn : As.length = n)
    (is : List Nat) (hC : is.map (fun i => ws[i]?) = wc.map some) (hnd : va_nd is = true) (had : wc'.map (·.1) = wc.map (·.1)) (hw : jk_put ws is wc' = ws') (q0 ci : Nat) {q : vw_C} {fs : List Value} (hq : ws[q0]? = some (b, .inr (ci, fs))) (hc : cl[ci]? = some q) (hqy : q.1 = y.cls)
    (hst : st0 = As.reverse ++ .ref b :: st) (hW : (st.map fun v => v.category).sum ≤ 8) (hdg : decode cc pc = .ok (.invokevirtual index, 3)) (hcs : cells + 0 ≤ R.cells ∧ slots + 0 ≤ R.slots)
    (kk : ∀ (r' : UInt64) (d1 : Drawn), alike64 r' r = true → s.drawn.sameBut d1 cs → jk_J p l e R (s.setDrawn d1) m args below meth c cells slots Q D cl A nL ws' lv (pc + 3) (.double r' :: st)) : jk_J p l e R (s.setDrawn d0) m args below meth c cells slots Q D cl A nL ws lv pc st0 := by
  intro H locs ls hl hP hD hS
  obtain ⟨g1, g2, g3, g4⟩ := jk_pre (s := s.setDrawn d0) hZ hz C.2.2.1 C.2.1 hP hD hS hC hnd (.ref b :: As)
  have hrecv := va_recv C.2.1 hP hc hq
  rw [hqy] at hrecv
  refine va_calldD hd0 (va_runV_D (As := As) (rest := st) C.1 (hM H.size) (jk_cwV C h1 h2 h3 h4 h5 hd hR) ⟨g1, hrecv, g2⟩ rfl hn hl.1 hst (lv_room hW) hdg hcs) hS (fun q _ h => g4 q h) g4 (fun r' u t H1 locs1 ht hvm hw1 hB hz1 hk1 hS1 d1 hd1 => ?_)
  obtain ⟨hP1, -⟩ := hB
  rw [ht] at hP1
  obtain ⟨k1, k2⟩ := jk_join hP hD is hC had hw hk1 hP1
  exact kk r' d1 hw1 hd1 H1 locs1 ls hl k1 k2 hS1
theorem jk_callVf (hd0 : s.drawn.sameBut d0 cs) (C : jk_C p (s.setDrawn d0) m args meth c cc own nL jk_WA D cl tys A ret) (hZ : jk_ZC Z) (hz : Z A (s.setDrawn d0) s.heap) {f lo : Nat} {r : UInt32} (hM : jk_MF cs l D cl tys Z y (.code y bytes maxL ret' :: jk_WA) (jk_rm f lo) (.ref b :: As) wc wc' r)
    (h1 : Cond.methodLink own index y ∈ jk_WA) (h2 : Cond.instanceMethod y ∈ jk_WA) (h3 : Cond.selects y.cls y y ∈ jk_WA) (h4 : Cond.initialized y.cls ∈ jk_WA) (h5 : Cond.code y bytes maxL ret' ∈ jk_WA) (hd : jk_nm y n) (hR : f + 1 ≤ R.frames ∧ 8 + (maxL + 11) + lo ≤ R.locals) (hn : As.length = n)
    (is : List Nat) (hC : is.map (fun i => ws[i]?) = wc.map some) (hnd : va_nd is = true) (had : wc'.map (·.1) = wc.map (·.1)) (hw : jk_put ws is wc' = ws') (q0 ci : Nat) {q : vw_C} {fs : List Value} (hq : ws[q0]? = some (b, .inr (ci, fs))) (hc : cl[ci]? = some q) (hqy : q.1 = y.cls)
    (hst : st0 = As.reverse ++ .ref b :: st) (hW : (st.map fun v => v.category).sum ≤ 8) (hdg : decode cc pc = .ok (.invokevirtual index, 3)) (hcs : cells + 0 ≤ R.cells ∧ slots + 0 ≤ R.slots)
    (kk : ∀ (r' : UInt32) (d1 : Drawn), alike32 r' r = true → s.drawn.sameBut d1 cs → jk_J p l e R (s.setDrawn d1) m args below meth c cells slots Q D cl A nL ws' lv (pc + 3) (.float r' :: st)) : jk_J p l e R (s.setDrawn d0) m args below meth c cells slots Q D cl A nL ws lv pc st0 := by
  intro H locs ls hl hP hD hS
  obtain ⟨g1, g2, g3, g4⟩ := jk_pre (s := s.setDrawn d0) hZ hz C.2.2.1 C.2.1 hP hD hS hC hnd (.ref b :: As)
  have hrecv := va_recv C.2.1 hP hc hq
  rw [hqy] at hrecv
  refine va_callfD hd0 (va_runV_D (As := As) (rest := st) C.1 (hM H.size) (jk_cwV C h1 h2 h3 h4 h5 hd hR) ⟨g1, hrecv, g2⟩ rfl hn hl.1 hst (lv_room hW) hdg hcs) hS (fun q _ h => g4 q h) g4 (fun r' u t H1 locs1 ht hvm hw1 hB hz1 hk1 hS1 d1 hd1 => ?_)
  obtain ⟨hP1, -⟩ := hB
  rw [ht] at hP1
  obtain ⟨k1, k2⟩ := jk_join hP hD is hC had hw hk1 hP1
  exact kk r' d1 hw1 hd1 H1 locs1 ls hl k1 k2 hS1
end FR
theorem tm_725 : Jvm.Cond.methodLink "KnotReaderLaw" (270 : Nat) mn_KR_averageValue ∈ jk_WA := jk_tb 725 (by decide +kernel) (by decide +kernel)
theorem tm_726 : Jvm.Cond.instanceMethod mn_KR_averageValue ∈ jk_WA := jk_tb 726 (by decide +kernel) (by decide +kernel)
theorem tm_727 : Jvm.Cond.selects "KnotReader" mn_KR_averageValue mn_KR_averageValue ∈ jk_WA := jk_tb 727 (by decide +kernel) (by decide +kernel)
theorem tm_728 : Jvm.Cond.code mn_KR_averageValue prog_1_method_41_code (1 : Nat) (some .double) ∈ jk_WA := jk_tb 728 (by decide +kernel) (by decide +kernel)
theorem tm_1807 : Jvm.Cond.methodLink "KnotReaderLaw" (274 : Nat) mn_Md_averageValue ∈ jk_WA := jk_tb 1807 (by decide +kernel) (by decide +kernel)
theorem tm_1808 : Jvm.Cond.instanceMethod mn_Md_averageValue ∈ jk_WA := jk_tb 1808 (by decide +kernel) (by decide +kernel)
theorem tm_1809 : Jvm.Cond.selects "KnotReaderModel" mn_Md_averageValue mn_Md_averageValue ∈ jk_WA := jk_tb 1809 (by decide +kernel) (by decide +kernel)
theorem tm_1810 : Jvm.Cond.code mn_Md_averageValue prog_13_method_126_code (3 : Nat) (some .double) ∈ jk_WA := jk_tb 1810 (by decide +kernel) (by decide +kernel)
theorem tm_730 : Jvm.Cond.methodLink "KnotReaderLaw" (275 : Nat) mn_KR_nibbledPart ∈ jk_WA := jk_tb 730 (by decide +kernel) (by decide +kernel)
theorem tm_731 : Jvm.Cond.instanceMethod mn_KR_nibbledPart ∈ jk_WA := jk_tb 731 (by decide +kernel) (by decide +kernel)
theorem tm_732 : Jvm.Cond.selects "KnotReader" mn_KR_nibbledPart mn_KR_nibbledPart ∈ jk_WA := jk_tb 732 (by decide +kernel) (by decide +kernel)
theorem tm_733 : Jvm.Cond.code mn_KR_nibbledPart prog_1_method_42_code (1 : Nat) (some .float) ∈ jk_WA := jk_tb 733 (by decide +kernel) (by decide +kernel)
theorem tm_1811 : Jvm.Cond.methodLink "KnotReaderLaw" (279 : Nat) mn_Md_nibbledPart ∈ jk_WA := jk_tb 1811 (by decide +kernel) (by decide +kernel)
theorem tm_1812 : Jvm.Cond.instanceMethod mn_Md_nibbledPart ∈ jk_WA := jk_tb 1812 (by decide +kernel) (by decide +kernel)
theorem tm_1813 : Jvm.Cond.selects "KnotReaderModel" mn_Md_nibbledPart mn_Md_nibbledPart ∈ jk_WA := jk_tb 1813 (by decide +kernel) (by decide +kernel)
theorem tm_1814 : Jvm.Cond.code mn_Md_nibbledPart prog_13_method_127_code (1 : Nat) (some .float) ∈ jk_WA := jk_tb 1814 (by decide +kernel) (by decide +kernel)
theorem na_KR_averageValue : jk_nm mn_KR_averageValue 0 := ⟨by decide +kernel, by decide +kernel, by decide +kernel⟩
theorem na_Md_averageValue : jk_nm mn_Md_averageValue 0 := ⟨by decide +kernel, by decide +kernel, by decide +kernel⟩
theorem na_KR_nibbledPart : jk_nm mn_KR_nibbledPart 0 := ⟨by decide +kernel, by decide +kernel, by decide +kernel⟩
theorem na_Md_nibbledPart : jk_nm mn_Md_nibbledPart 0 := ⟨by decide +kernel, by decide +kernel, by decide +kernel⟩
set_option maxHeartbeats 4000000 in
set_option maxRecDepth 20000 in
theorem fc_38 {p : Program} {l : Launch} {e : Env} {s : State} {m : MethodId} {args : Array Value} {below : List Frame} {meth : Method} {c : Code} {cells slots : Nat} {Q : State → Prop} {D : va_G} {A : Nat → Prop} {ret : Option FieldType} {Z : (Nat → Prop) → State → Heap → Prop} {sq : Nat → Nat} {cI cR cL : ClassId} {g : Nat → Option Nat} {ad am : Nat → Nat} {b o L : Nat} {xs : Nat → Int32} {i : Int} {d0 : Drawn} (hd0 : s.drawn.sameBut d0 lw_cs) (C : jk_C p (s.setDrawn d0) m args meth c mb_Law_law "KnotReaderLaw" 9 jk_WA D jk_cl (jk_t3 cI cR cL) A ret) (hZ : jk_ZK Z sq) (hz : Z A (s.setDrawn d0) s.heap) (hcs : cells + 20 ≤ room_1.cells ∧ slots + 120 ≤ room_1.slots) {σ : jk_LS} {f : Nat → Int64} (hR : Rel σ) (kk : ∀ (d1 : Drawn) (σ' : jk_LS) (f' : Nat → Int64), s.drawn.sameBut d1 lw_cs → Rel σ' → jk_J p l e room_1 (s.setDrawn d1) m args below meth c (cells + 20) (slots + 120) Q D jk_cl A 9 (LW cI cR g ad am σ' ++ [(o, .inl (cL, 1, .inr (.inl f')))]) [(0, .ref b), (1, .ref (ad 0)), (2, .ref (am 0)), (3, .ref o), (4, jk_V i)] 2784 []) : jk_J p l e room_1 (s.setDrawn d0) m args below meth c (cells) (slots) Q D jk_cl A 9 (LW cI cR g ad am σ ++ [(o, .inl (cL, 1, .inr (.inl f)))]) [(0, .ref b), (1, .ref (ad 0)), (2, .ref (am 0)), (3, .ref o), (4, jk_V i)] 1905 [] := by
  obtain ⟨⟨hB, h24⟩, ⟨hN, hC⟩, ⟨hH, h21⟩, ⟨hSv, h22⟩, hDr, ⟨hO, h35⟩, h25, h26⟩ := id hR
  obtain ⟨q, e1, e2, e3, e4⟩ := q_average hC
  have C2 := jk_Csub C [0, 1] rfl (tys' := jk_ty cI cR)
  refine jk_aload_n C rd_Law_law_1905 (k := 1) rfl ?_
  refine jk_callVd hd0 C2 hZ.1 hz (cl_KR_averageValue lw_bits l D Z sq hZ cI cR g ad am σ e4 q e1) tm_725 tm_726 tm_727 tm_1 tm_728 na_KR_averageValue ⟨Nat.le_of_ble_eq_true rfl, Nat.le_of_ble_eq_true rfl⟩ rfl (List.range 155) (lw_pl LW_len) nd155 LW_fst (lw_put LW_len LW_len) 0 10 (lw_hd LW_len LW_x _) rfl rfl (st := []) rfl (Nat.le_of_ble_eq_true rfl) rd_Law_law_1906 ⟨by omega, by omega⟩ (fun p1 d1 al_p1 hd_d1 => ?_)
  have C_d1 := jk_dr (d1 := d1) C
  have hz_d1 : Z A (s.setDrawn d1) s.heap := hZ.1.1 A (s.setDrawn d0) (s.setDrawn d1) s.heap rfl hz
  refine jk_dstore C_d1 rd_Law_law_1909 (by decide) (lv' := [(5, .double p1), (0, .ref b), (1, .ref (ad 0)), (2, .ref (am 0)), (3, .ref o), (4, jk_V i)]) rfl ?_
  refine jk_aload_n C_d1 rd_Law_law_1911 (k := 3) rfl ?_
  have C3 := jk_Csub C_d1 [0, 1] rfl (tys' := jk_ty cI cR)
  refine jk_callVd hd_d1 C3 hZ.1 hz_d1 (cl_Md_averageValue lw_bits l D Z sq hZ cI cR g ad am σ (by rw [e3]; exact e4) q e2) tm_1807 tm_1808 tm_1809 tm_15 tm_1810 na_Md_averageValue ⟨Nat.le_of_ble_eq_true rfl, Nat.le_of_ble_eq_true rfl⟩ rfl (List.range 155) (lw_pl LW_len) nd155 LW_fst (lw_put LW_len LW_len) 145 11 (lw_hd LW_len LW_m _) rfl rfl (st := []) rfl (Nat.le_of_ble_eq_true rfl) rd_Law_law_1912 ⟨by omega, by omega⟩ (fun q1 d3 al_q1 hd_d3 => ?_)
  have C_d3 := jk_dr (d1 := d3) C
  have hz_d3 : Z A (s.setDrawn d3) s.heap := hZ.1.1 A (s.setDrawn d0) (s.setDrawn d3) s.heap rfl hz
  refine jk_dstore C_d3 rd_Law_law_1915 (by decide) (lv' := [(7, .double q1), (5, .double p1), (0, .ref b), (1, .ref (ad 0)), (2, .ref (am 0)), (3, .ref o), (4, jk_V i)]) rfl ?_
  refine jk_dload C_d3 rd_Law_law_1917 (k := 1) rfl ?_
  refine jk_dload C_d3 rd_Law_law_1919 (k := 0) rfl ?_
  have hu : alike64 q1 (if 0 < σ.S 12 then FP.ddiv (FP.i2d (jk_I q)) (FP.i2d (jk_I (σ.S 12))) else FP.dconst0) = true := by
    rw [e3] at al_q1
    by_cases h0 : σ.S 12 = 0
    · rw [if_pos h0] at al_q1; rw [if_neg (by omega)]; exact al_q1
    · rw [if_neg h0] at al_q1; rw [if_pos (by omega)]; exact al_q1
  have hdd := dd_64 al_p1 hu
  rcases hdd with ⟨hpq, hn⟩ | ⟨hn1, hn2⟩
  · subst hpq
    refine jk_dcmp C_d3 (dc_eq hn) rd_Law_law_1921 ?_
    refine jk_if_eq (a := some ()) (b := (none : Option Unit)) (o := ()) (tgt := 1943) C_d3 rd_Law_law_1922 (by decide) (by decide +kernel) (fun _ _ => ?_) (fun h _ => absurd rfl h)
    refine jk_goto (tgt := 2784) C_d3 rd_Law_law_1943 (by decide) ?_
    refine jk_lv (lv' := [(0, .ref b), (1, .ref (ad 0)), (2, .ref (am 0)), (3, .ref o), (4, jk_V i)]) [2, 3, 4, 5, 6] rfl ?_
    exact jk_widen (by omega) (by omega) (kk d3 _ f hd_d3 hR)
  · refine jk_dcmp C_d3 (dc_nan hn1) rd_Law_law_1921 ?_
    refine jk_if_eq (a := (none : Option Unit)) (b := some ()) (o := ()) (tgt := 1943) C_d3 rd_Law_law_1922 (by decide) (by decide +kernel) (fun h _ => absurd h (by decide)) (fun _ _ => ?_)
    refine jk_dload C_d3 rd_Law_law_1925 (k := 1) rfl ?_
    refine jk_dload C_d3 rd_Law_law_1927 (k := 1) rfl ?_
    refine jk_dcmp C_d3 (dc_nan hn1) rd_Law_law_1929 ?_
    refine jk_if_eq (a := (none : Option Unit)) (b := some ()) (o := ()) (tgt := 1941) C_d3 rd_Law_law_1930 (by decide) (by decide +kernel) (fun h _ => absurd h (by decide)) (fun _ _ => ?_)
    refine jk_dload C_d3 rd_Law_law_1933 (k := 0) rfl ?_
    refine jk_dload C_d3 rd_Law_law_1935 (k := 0) rfl ?_
    refine jk_dcmp C_d3 (dc_nan hn2) rd_Law_law_1937 ?_
    refine jk_if_ne (a := (none : Option Unit)) (b := some ()) (o := ()) (tgt := 1943) C_d3 rd_Law_law_1938 (by decide) (by decide +kernel) (fun _ _ => ?_) (fun h _ => absurd h (by decide))
    refine jk_goto (tgt := 2784) C_d3 rd_Law_law_1943 (by decide) ?_
    refine jk_lv (lv' := [(0, .ref b), (1, .ref (ad 0)), (2, .ref (am 0)), (3, .ref o), (4, jk_V i)]) [2, 3, 4, 5, 6] rfl ?_
    exact jk_widen (by omega) (by omega) (kk d3 _ f hd_d3 hR)

set_option maxHeartbeats 4000000 in
set_option maxRecDepth 20000 in
theorem fc_39 {p : Program} {l : Launch} {e : Env} {s : State} {m : MethodId} {args : Array Value} {below : List Frame} {meth : Method} {c : Code} {cells slots : Nat} {Q : State → Prop} {D : va_G} {A : Nat → Prop} {ret : Option FieldType} {Z : (Nat → Prop) → State → Heap → Prop} {sq : Nat → Nat} {cI cR cL : ClassId} {g : Nat → Option Nat} {ad am : Nat → Nat} {b o L : Nat} {xs : Nat → Int32} {i : Int} {d0 : Drawn} (hd0 : s.drawn.sameBut d0 lw_cs) (C : jk_C p (s.setDrawn d0) m args meth c mb_Law_law "KnotReaderLaw" 9 jk_WA D jk_cl (jk_t3 cI cR cL) A ret) (hZ : jk_ZK Z sq) (hz : Z A (s.setDrawn d0) s.heap) (hcs : cells + 20 ≤ room_1.cells ∧ slots + 120 ≤ room_1.slots) {σ : jk_LS} {f : Nat → Int64} (hR : Rel σ) (kk : ∀ (d1 : Drawn) (σ' : jk_LS) (f' : Nat → Int64), s.drawn.sameBut d1 lw_cs → Rel σ' → jk_J p l e room_1 (s.setDrawn d1) m args below meth c (cells + 20) (slots + 120) Q D jk_cl A 9 (LW cI cR g ad am σ' ++ [(o, .inl (cL, 1, .inr (.inl f')))]) [(0, .ref b), (1, .ref (ad 0)), (2, .ref (am 0)), (3, .ref o), (4, jk_V i)] 2784 []) : jk_J p l e room_1 (s.setDrawn d0) m args below meth c (cells) (slots) Q D jk_cl A 9 (LW cI cR g ad am σ ++ [(o, .inl (cL, 1, .inr (.inl f)))]) [(0, .ref b), (1, .ref (ad 0)), (2, .ref (am 0)), (3, .ref o), (4, jk_V i)] 1946 [] := by
  obtain ⟨⟨hB, h24⟩, ⟨hN, hC⟩, ⟨hH, h21⟩, ⟨hSv, h22⟩, hDr, ⟨hO, h35⟩, h25, h26⟩ := id hR
  obtain ⟨q, e1, e2, e3, e4⟩ := q_part hC
  have C2 := jk_Csub C [0, 1] rfl (tys' := jk_ty cI cR)
  refine jk_aload_n C rd_Law_law_1946 (k := 1) rfl ?_
  refine jk_callVf hd0 C2 hZ.1 hz (cl_KR_nibbledPart lw_bits l D Z sq hZ cI cR g ad am σ e4 q e1) tm_730 tm_731 tm_732 tm_1 tm_733 na_KR_nibbledPart ⟨Nat.le_of_ble_eq_true rfl, Nat.le_of_ble_eq_true rfl⟩ rfl (List.range 155) (lw_pl LW_len) nd155 LW_fst (lw_put LW_len LW_len) 0 10 (lw_hd LW_len LW_x _) rfl rfl (st := []) rfl (Nat.le_of_ble_eq_true rfl) rd_Law_law_1947 ⟨by omega, by omega⟩ (fun p1 d1 al_p1 hd_d1 => ?_)
  have C_d1 := jk_dr (d1 := d1) C
  have hz_d1 : Z A (s.setDrawn d1) s.heap := hZ.1.1 A (s.setDrawn d0) (s.setDrawn d1) s.heap rfl hz
  refine jk_f2d hd_d1 lw_bits C_d1 rd_Law_law_1950 (fun p2 d2 al_p2 hd_d2 => ?_)
  have C_d2 := jk_dr (d1 := d2) C
  have hz_d2 : Z A (s.setDrawn d2) s.heap := hZ.1.1 A (s.setDrawn d0) (s.setDrawn d2) s.heap rfl hz
  refine jk_dstore C_d2 rd_Law_law_1951 (by decide) (lv' := [(5, .double p2), (0, .ref b), (1, .ref (ad 0)), (2, .ref (am 0)), (3, .ref o), (4, jk_V i)]) rfl ?_
  refine jk_aload_n C_d2 rd_Law_law_1953 (k := 3) rfl ?_
  have C3 := jk_Csub C_d2 [0, 1] rfl (tys' := jk_ty cI cR)
  refine jk_callVf hd_d2 C3 hZ.1 hz_d2 (cl_Md_nibbledPart lw_bits l D Z sq hZ cI cR g ad am σ (by rw [e3]; exact e4) q e2) tm_1811 tm_1812 tm_1813 tm_15 tm_1814 na_Md_nibbledPart ⟨Nat.le_of_ble_eq_true rfl, Nat.le_of_ble_eq_true rfl⟩ rfl (List.range 155) (lw_pl LW_len) nd155 LW_fst (lw_put LW_len LW_len) 145 11 (lw_hd LW_len LW_m _) rfl rfl (st := []) rfl (Nat.le_of_ble_eq_true rfl) rd_Law_law_1954 ⟨by omega, by omega⟩ (fun q1 d3 al_q1 hd_d3 => ?_)
  have C_d3 := jk_dr (d1 := d3) C
  have hz_d3 : Z A (s.setDrawn d3) s.heap := hZ.1.1 A (s.setDrawn d0) (s.setDrawn d3) s.heap rfl hz
  refine jk_f2d hd_d3 lw_bits C_d3 rd_Law_law_1957 (fun q2 d4 al_q2 hd_d4 => ?_)
  have C_d4 := jk_dr (d1 := d4) C
  have hz_d4 : Z A (s.setDrawn d4) s.heap := hZ.1.1 A (s.setDrawn d0) (s.setDrawn d4) s.heap rfl hz
  refine jk_dstore C_d4 rd_Law_law_1958 (by decide) (lv' := [(7, .double q2), (5, .double p2), (0, .ref b), (1, .ref (ad 0)), (2, .ref (am 0)), (3, .ref o), (4, jk_V i)]) rfl ?_
  refine jk_dload C_d4 rd_Law_law_1960 (k := 1) rfl ?_
  refine jk_dload C_d4 rd_Law_law_1962 (k := 0) rfl ?_
  have hu : alike32 q1 (if 0 < σ.S 12 then FP.fdiv (FP.i2f (jk_I q)) (FP.i2f (jk_I (σ.S 12))) else FP.fconst0) = true := by
    rw [e3] at al_q1
    by_cases h0 : σ.S 12 = 0
    · rw [if_pos h0] at al_q1; rw [if_neg (by omega)]; exact al_q1
    · rw [if_neg h0] at al_q1; rw [if_pos (by omega)]; exact al_q1
  have hdd := dd_32 al_p1 hu al_p2 al_q2
  rcases hdd with ⟨hpq, hn⟩ | ⟨hn1, hn2⟩
  · subst hpq
    refine jk_dcmp C_d4 (dc_eq hn) rd_Law_law_1964 ?_
    refine jk_if_eq (a := some ()) (b := (none : Option Unit)) (o := ()) (tgt := 1986) C_d4 rd_Law_law_1965 (by decide) (by decide +kernel) (fun _ _ => ?_) (fun h _ => absurd rfl h)
    refine jk_goto (tgt := 2784) C_d4 rd_Law_law_1986 (by decide) ?_
    refine jk_lv (lv' := [(0, .ref b), (1, .ref (ad 0)), (2, .ref (am 0)), (3, .ref o), (4, jk_V i)]) [2, 3, 4, 5, 6] rfl ?_
    exact jk_widen (by omega) (by omega) (kk d4 _ f hd_d4 hR)
  · refine jk_dcmp C_d4 (dc_nan hn1) rd_Law_law_1964 ?_
    refine jk_if_eq (a := (none : Option Unit)) (b := some ()) (o := ()) (tgt := 1986) C_d4 rd_Law_law_1965 (by decide) (by decide +kernel) (fun h _ => absurd h (by decide)) (fun _ _ => ?_)
    refine jk_dload C_d4 rd_Law_law_1968 (k := 1) rfl ?_
    refine jk_dload C_d4 rd_Law_law_1970 (k := 1) rfl ?_
    refine jk_dcmp C_d4 (dc_nan hn1) rd_Law_law_1972 ?_
    refine jk_if_eq (a := (none : Option Unit)) (b := some ()) (o := ()) (tgt := 1984) C_d4 rd_Law_law_1973 (by decide) (by decide +kernel) (fun h _ => absurd h (by decide)) (fun _ _ => ?_)
    refine jk_dload C_d4 rd_Law_law_1976 (k := 0) rfl ?_
    refine jk_dload C_d4 rd_Law_law_1978 (k := 0) rfl ?_
    refine jk_dcmp C_d4 (dc_nan hn2) rd_Law_law_1980 ?_
    refine jk_if_ne (a := (none : Option Unit)) (b := some ()) (o := ()) (tgt := 1986) C_d4 rd_Law_law_1981 (by decide) (by decide +kernel) (fun _ _ => ?_) (fun h _ => absurd h (by decide))
    refine jk_goto (tgt := 2784) C_d4 rd_Law_law_1986 (by decide) ?_
    refine jk_lv (lv' := [(0, .ref b), (1, .ref (ad 0)), (2, .ref (am 0)), (3, .ref o), (4, jk_V i)]) [2, 3, 4, 5, 6] rfl ?_
    exact jk_widen (by omega) (by omega) (kk d4 _ f hd_d4 hR)

