theorem rd_History_at_0 : decode mb_History_at 0 = .ok (.iload_n 1, 1) := by decide +kernel
theorem rd_History_at_1 : decode mb_History_at 1 = .ok (.ifCond .lt 21, 3) := by decide +kernel
theorem rd_History_at_4 : decode mb_History_at 4 = .ok (.iload_n 1, 1) := by decide +kernel
theorem rd_History_at_5 : decode mb_History_at 5 = .ok (.aload_n 0, 1) := by decide +kernel
theorem rd_History_at_6 : decode mb_History_at 6 = .ok (.getfield 11, 3) := by decide +kernel
theorem rd_History_at_9 : decode mb_History_at 9 = .ok (.arraylength, 1) := by decide +kernel
theorem rd_History_at_10 : decode mb_History_at 10 = .ok (.if_icmp .ge 12, 3) := by decide +kernel
theorem rd_History_at_13 : decode mb_History_at 13 = .ok (.aload_n 0, 1) := by decide +kernel
theorem rd_History_at_14 : decode mb_History_at 14 = .ok (.getfield 11, 3) := by decide +kernel
theorem rd_History_at_17 : decode mb_History_at 17 = .ok (.iload_n 1, 1) := by decide +kernel
theorem rd_History_at_18 : decode mb_History_at 18 = .ok (.aaload, 1) := by decide +kernel
theorem rd_History_at_19 : decode mb_History_at 19 = .ok (.goto 4, 3) := by decide +kernel
theorem rd_History_at_22 : decode mb_History_at 22 = .ok (.aconst_null, 1) := by decide +kernel
theorem rd_History_at_23 : decode mb_History_at 23 = .ok (.areturn, 1) := by decide +kernel
theorem tm_HR : Jvm.Cond.fieldLink "KnotReader$History" (11 : Nat) "KnotReader$History" "ring" "[LKnotReader$Cords;" ∈ jk_WA := jk_tb 172 (by decide +kernel) (by decide +kernel)
section JH1
variable {p : Program} {l : Launch} {e : Env} {R : Room} {s : State} {m : MethodId} {args : Array Value} {below : List Frame} {meth : Method} {c : Code} {cells slots : Nat} {Q : State → Prop} {D : va_G} {cl : List vw_C} {A : Nat → Prop} {nL : Nat} {ws ws' : va_W} {lv lv' : List (Nat × Value)} {pc : Nat} {st : List Value}
variable {cc : ByteArray} {own : String} {tys : List (ClassId × FieldType)} {ret : Option FieldType} {a : Nat}
theorem jk_astore_n (C : jk_C p s m args meth c cc own nL jk_WA D cl tys A ret) {i : Fin 4} {x : Nat} (hdg : decode cc pc = .ok (.astore_n i, 1)) (hn : (i : Nat) < nL) (hl' : ((i : Nat), Value.ref x) :: lv.filter (fun q => !(q.1 == (i : Nat)) && !(q.1 + 1 == (i : Nat) && q.2.category == 2)) = lv') (kk : jk_J p l e R s m args below meth c cells slots Q D cl A nL ws lv' (pc + 1) st) : jk_J p l e R s m args below meth c cells slots Q D cl A nL ws lv pc (.ref x :: st) :=
  fun H locs ls hl hP hD hS => lv_astore_n C.1.1 C.1.2.1 hdg rfl hl hn hl' (fun ls' h' => kk H locs ls' h' hP hD hS)
theorem jk_ifnull (C : jk_C p s m args meth c cc own nL jk_WA D cl tys A ret) {x : Nat} {off : Int} (hdg : decode cc pc = .ok (.ifnull off, 3)) (kk : jk_J p l e R s m args below meth c cells slots Q D cl A nL ws lv (pc + 3) st) : jk_J p l e R s m args below meth c cells slots Q D cl A nL ws lv pc (.ref x :: st) :=
  fun H locs ls hl hP hD hS => lv_ifnull C.1.1 C.1.2.1 hdg (kk H locs ls hl hP hD hS)
theorem jk_aald (C : jk_C p s m args meth c cc own nL jk_WA D cl tys A ret) {n : Nat} {i : Int} {f : Nat → Option Nat} {cA : ClassId} {C0 : String} (q0 t0 : Nat) (he : ws[q0]? = some (a, .inl (cA, n, .inr (.inr (.inr (.inr f)))))) (ht : tys[t0]? = some (cA, .object C0)) (hn : n < 2147483648) (h0 : 0 ≤ i) (h1 : i < n) (hdg : decode cc pc = .ok (.aaload, 1))
    (kk : jk_J p l e R s m args below meth c cells slots Q D cl A nL ws lv (pc + 1) (va_rf (f i.toNat) :: st)) : jk_J p l e R s m args below meth c cells slots Q D cl A nL ws lv pc (jk_V i :: .ref a :: st) := by
  intro H locs ls hl hP hD hS
  refine va_aldq C.1.1 C.1.2.1 C.2.1 hP q0 t0 he ht (jk_in h0 h1 hn) hdg ?_
  rw [jk_clamp h0 (by omega)]
  exact kk H locs ls hl hP hD hS
theorem jk_alenq (C : jk_C p s m args meth c cc own nL jk_WA D cl tys A ret) {n : Nat} {f : Nat → Option Nat} {cA : ClassId} {ty : FieldType} (q0 t0 : Nat) (he : ws[q0]? = some (a, .inl (cA, n, .inr (.inr (.inr (.inr f)))))) (ht : tys[t0]? = some (cA, ty)) (hdg : decode cc pc = .ok (.arraylength, 1))
    (kk : jk_J p l e R s m args below meth c cells slots Q D cl A nL ws lv (pc + 1) (jk_V (n : Int) :: st)) : jk_J p l e R s m args below meth c cells slots Q D cl A nL ws lv pc (.ref a :: st) :=
  fun H locs ls hl hP hD hS => va_alen (v := jk_I (n : Int)) C.1.1 C.1.2.1 C.2.1 hP q0 t0 he ht rfl hdg (kk H locs ls hl hP hD hS)
theorem jk_qret (C : jk_C p s m args meth c cc own nL jk_WA D cl tys A ret) {ty : FieldType} (hty : ret = some ty) (hobj : (∃ n, ty = .object n) ∨ ∃ t, ty = .array t) {sz : Nat} {w : va_W} {r : Option Nat} (hA : va_A w sz = A) (hdg : decode cc pc = .ok (.areturn, 1)) (hw : ws = ws') : jk_J p l e R s m args below meth c cells slots (MQ below (va_Qq (fun (r' : Option Nat) (_ : Unit) => r' = r) (fun _ t => jk_Post D cl tys ws' t) (va_A w sz)) args s cells slots (va_A w sz)) D cl A nL ws lv pc [va_rf r] := by
  subst hw; subst hA; subst hty
  intro H locs ls hl hP hD hS
  exact W.aret C.1.1 C.1.2.1 C.2.2.2.1 hobj (va_rf_or r) (fun t ht hW => ⟨⟨r, (), rfl, rfl, by rw [ht]; exact hP, va_K.moved hW.alike C.2.1⟩, hS.F ht⟩) hS.2.2 hdg C.2.2.2.2
end JH1
def wd_History_at (cR : ClassId) (a_t a_t_ring : Nat) (latest size : Int) (g : Nat → Option Nat) : va_W := [(a_t, .inr (6, [.ref a_t_ring, jk_V latest, jk_V size])), (a_t_ring, .inl (cR, 8, .inr (.inr (.inr (.inr g)))))]
theorem ct_History_at (l : Launch) (D : va_G) (Z : (Nat → Prop) → State → Heap → Prop) (sq : Nat → Nat) (hZ : jk_ZK Z sq) (cI cR : ClassId) (a_t a_t_ring : Nat) (latest size : Int) (g : Nat → Option Nat) (i : Int) (h0 : 0 ≤ i) (h1 : i < 8) : jk_MR l D jk_cl (jk_ty cI cR) Z mn_History_at (.code mn_History_at mb_History_at 2 (some (.object "KnotReader$Cords")) :: jk_WA) (jk_rm 0 0) [.ref a_t, jk_V i] (wd_History_at cR a_t a_t_ring latest size g) (wd_History_at cR a_t a_t_ring latest size g) (g i.toNat) := by
  intro sz
  refine jk_body (by decide +kernel) (fun p e s m args below meth c hsz hz hin C => ?_) (Nat.le_of_ble_eq_true rfl)
  subst hsz
  have hr : jk_R i := ⟨by omega, by omega⟩
  have h8 : jk_R ((8 : Nat) : Int) := ⟨by decide, by decide⟩
  refine jk_iload_n C rd_History_at_0 (k := 1) rfl ?_
  refine jk_if_lt (a := (none : Option Unit)) (b := some ()) (o := ()) (tgt := 22) C rd_History_at_1 (by decide) (by unfold jk_lts; rw [if_pos ⟨hr, jk_R0⟩, if_neg (by omega)]) (fun h _ => absurd h0 (by omega)) (fun _ _ => ?_)
  refine jk_iload_n C rd_History_at_4 (k := 1) rfl ?_
  refine jk_aload_n C rd_History_at_5 (k := 0) rfl ?_
  refine jk_get C in_History (ci := 6) rfl 0 (by decide) tm_HR 0 rfl rfl rd_History_at_6 ?_
  refine jk_alenq C 1 1 rfl rfl rd_History_at_9 ?_
  refine jk_icmp_ge (a := some ()) (b := (none : Option Unit)) (o := ()) (tgt := 22) C rd_History_at_10 (by decide) (by unfold jk_lts; rw [if_pos ⟨hr, h8⟩, if_pos (by omega)]) (fun h _ => absurd h1 (by omega)) (fun _ _ => ?_)
  refine jk_aload_n C rd_History_at_13 (k := 0) rfl ?_
  refine jk_get C in_History (ci := 6) rfl 0 (by decide) tm_HR 0 rfl rfl rd_History_at_14 ?_
  refine jk_iload_n C rd_History_at_17 (k := 1) rfl ?_
  refine jk_aald C 1 1 rfl rfl (Nat.le_of_ble_eq_true rfl) h0 (by omega) rd_History_at_18 ?_
  refine jk_goto (tgt := 23) C rd_History_at_19 (by decide) ?_
  exact jk_qret C rfl (Or.inl ⟨_, rfl⟩) rfl rd_History_at_23 rfl
