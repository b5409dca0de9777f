/-! small Integers -/
section JR3
variable {p : Program} {l : Launch} {e : Env} {R : Room} {s : State} {m : MethodId} {args : Array Value} {below : List Frame} {meth : Method} {c : Code} {cells slots : Nat} {Q : State → Prop} {D : va_G} {cl : List vw_C} {A : Nat → Prop} {nL : Nat} {ws : va_W} {lv lv' : List (Nat × Value)} {pc : Nat} {st : List Value}
variable {cc : ByteArray} {own : String} {tys : List (ClassId × FieldType)} {ret : Option FieldType} {x y : Int} {a b index : Nat} {M : jm_M}
theorem jm_getf (C : jk_C p s m args meth c cc own nL jk_WA D cl tys A ret) {Cn n d : String} {v : Value} (hE : va_OF Cn n d v a A s s.heap) (hlink : Cond.fieldLink own index Cn n d ∈ jk_WA) (hdg : decode cc pc = .ok (.getfield index, 3))
    (kk : jk_J p l e R s m args below meth c cells slots Q D cl A nL ws lv (pc + 3) (v :: st)) : jk_J p l e R s m args below meth c cells slots Q D cl A nL ws lv pc (.ref a :: st) :=
  fun H locs ls hl hP hD hS => vk_getf C.1.1 C.1.2.1 hE hS C.1.2.2.2.1 (C.1.2.2.2.2 _ hlink) (fun _ h => h) hdg (kk H locs ls hl hP hD hS)
end JR3
theorem jl_vbc {v : Nat} : vb_c (v + 128) = jk_I (v : Int) := by
  have e : ((v + 128 : Nat) : Int) - 128 = (v : Int) := by omega
  show jk_I ((v + 128 : Nat) : Int) - jk_I 128 = jk_I (v : Int)
  rw [jk_sub, e]
section AL6
variable (l : Launch) (D : va_G) {Z : (Nat → Prop) → State → Heap → Prop} {sq iad : Nat → Nat} {z0 zi mi : Nat} (cI cR cO cB : ClassId)
set_option maxHeartbeats 1000000 in
theorem ct_JInt_valueOf (hZ : jl_ZK Z sq iad z0 zi mi) {M : jm_M} {n : Nat} (hn : n < 128) : jm_Met l D jk_cl (jl_ty cI cR cO cB) Z mn_JInt_valueOf (.code mn_JInt_valueOf mb_JInt_valueOf 1 (some (.object "java/lang/Integer")) :: jk_WA) (jk_rx 0 0 0 0) [jk_V ((n : Int))] M (fun v M' => v = some (.ref (iad (n + 128))) ∧ M' = M) 0 0 := by
  refine jm_body (by decide +kernel) (fun p ev s m args below meth cod w hw hz hin C => ?_) (Nat.le_of_ble_eq_true rfl)
  refine jk_iload_n C rd_JInt_valueOf_0 (k := 0) rfl ?_
  refine jk_bipush C rd_JInt_valueOf_1 (by decide +kernel) ?_
  refine jr_icmp_lt C rd_JInt_valueOf_3 (tgt := 23) rfl ⟨by omega, by omega⟩ ⟨by omega, by omega⟩ (fun hc => absurd hc (by omega)) (fun _ => ?_)
  refine jk_iload_n C rd_JInt_valueOf_6 (k := 0) rfl ?_
  refine jm_gets C (v := jk_V 127) (hZ.2 _ s s.heap hz).2.1 lk_JInt_191 rd_JInt_valueOf_7 ?_
  refine jr_icmp_gt C rd_JInt_valueOf_10 (tgt := 23) rfl ⟨by omega, by omega⟩ ⟨by omega, by omega⟩ (fun hc => absurd hc (by omega)) (fun _ => ?_)
  refine jm_gets C (hZ.2 _ s s.heap hz).2.2.1 lk_JInt_195 rd_JInt_valueOf_13 ?_
  refine jk_iload_n C rd_JInt_valueOf_16 (k := 0) rfl ?_
  refine jk_sipush C rd_JInt_valueOf_17 (by decide +kernel) ?_
  refine jk_iadd C rd_JInt_valueOf_20 ?_
  refine jm_tq C (hZ.2 _ s s.heap hz).2.2.2.1 (by omega) (by omega) (by omega) rd_JInt_valueOf_21 ?_
  rw [show ((n : Int) + 128).toNat = n + 128 by omega]
  exact jm_ret_q C rfl (Or.inl ⟨_, rfl⟩) (Or.inr ⟨_, rfl⟩) hw ⟨rfl, rfl⟩ (Nat.le_refl _) (Nat.le_refl _) rd_JInt_valueOf_22
set_option maxHeartbeats 1000000 in
theorem ct_JInt_intValue (hZ : jl_ZK Z sq iad z0 zi mi) {M : jm_M} {n : Nat} (hn : n < 128) : jm_Met l D jk_cl (jl_ty cI cR cO cB) Z mn_JInt_intValue (.code mn_JInt_intValue mb_JInt_intValue 1 (some .int) :: jk_WA) (jk_rx 0 0 0 0) [.ref ((iad (n + 128)))] M (fun v M' => v = some (jk_V (n : Int)) ∧ M' = M) 0 0 := by
  refine jm_body (by decide +kernel) (fun p ev s m args below meth cod w hw hz hin C => ?_) (Nat.le_of_ble_eq_true rfl)
  refine jk_aload_n C rd_JInt_intValue_0 (k := 0) rfl ?_
  refine jm_getf C ((hZ.2 _ s s.heap hz).1.2 (n + 128) (by omega)) lk_JInt_205 rd_JInt_intValue_1 ?_
  refine jr_at rfl (st' := [jk_V (n : Int)]) (by show [Value.int (jk_I (n : Int))] = [Value.int (vb_c (n + 128))]; rw [jl_vbc]) ?_
  exact jm_ret_i C hw ⟨rfl, rfl⟩ (Nat.le_refl _) (Nat.le_refl _) rd_JInt_intValue_4
end AL6
