/-! the law from its first instruction to its last -/
def jS_0 : jl_S := (fun _ => 0, fun _ => 0, fun _ _ => 0, fun _ => 0, fun _ => 0, fun _ => [])
def jK_0 : jl_K := (fun _ => 0, fun _ => none, fun _ => [])
theorem law_all {p : Program} {l : Launch} {ev : Env} {s : State} {m : MethodId} {args : Array Value} {below : List Frame} {meth : Method} {cod : Code} {Q : State → Prop} {D : va_G} {A : Nat → Prop} {Z : (Nat → Prop) → State → Heap → Prop} {sq iad : Nat → Nat} {z0 zi mi d1 d2 : Nat} {cI cR cO cB : ClassId} {ret : Option FieldType} {b LN : Nat} {xs : Nat → Int32} (C : jk_C p s m args meth cod code "KnotReaderLaw" 14 jk_WA D jk_cl (jl_ty cI cR cO cB) A ret) (hZ : jl_ZK Z sq iad z0 zi mi) (hz : Z A s s.heap) (hD2 : jl_ZD Z d1 d2) (hl : l.stackTraces = false) (hXs : ∀ (A : Nat → Prop) (U : State) (H : Heap), Z A U H → va_T .int b LN (fun j => .int (xs j)) A U H) (hLN : LN < 100000) (hOK : ∀ (A : Nat → Prop) (U : State) (H : Heap), Z A U H → va_AO "KnotReader$Cords" U) (hend : ∀ (ws2 : va_W) (lvx : List (Nat × Value)) (c2 s2 : Nat), c2 ≤ 400000 → s2 ≤ 4000000 → jk_J p l ev room_1 s m args below meth cod c2 s2 Q D jk_cl A 14 ws2 lvx 483 [jk_V 1]) : jk_J p l ev room_1 s m args below meth cod 0 0 Q D jk_cl A 14 [] [(0, .ref b)] 0 [] := by
  refine law_pre C hZ hz hXs hLN hOK (fun ws ow σ ad g r rc ro rd ri cells slots hcl hsl hg hRd hX hne h18 h9 h10 => ?_)
  refine b9_all (Bd := jBd) (S0 := jS_0) (K0 := jK_0) C hZ hz hD2 (by omega) hXs hLN jb_b_N jb_k_N jb_p_N jb_s_N jb_t_N jb_0_N (fun t ws2 ow2 S K P cs tx cells2 slots2 hBd hcs hlen hc2 hs2 hB => ?_) hcl hsl hRd hX
  obtain ⟨hA, hX2, hSB⟩ := hB
  have hby : ∀ i : Nat, i < tx.length → 0 ≤ tx.getD i 0 ∧ tx.getD i 0 < 128 := fun i hi => by
    obtain ⟨v, cap, f, ml, -, -, -, -, -, -, b1, b2, b3⟩ := hSB
    rw [← b3 i hi]
    exact b1 _ (by omega) (by omega)
  have hA2 : jl_Al cI cO z0 ow2 (jm_lk ws2) S K P r rc ro rd ri cs [] [] [] := hA
  exact law_mid (Inv := jN) C hZ hz hl hXs hLN hg (by omega) jO_N jO_cons_N (ld_N hBd hcs hlen hby h18 h9 h10) hA2 hX2 hSB (by omega) hlen hc2 hs2 hend
