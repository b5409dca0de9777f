/-! all that isWhole and the acts want of the trees and the columns -/
theorem jB_of {S : jl_S} {K : jl_K} {P : Nat → Prop} {cs : List Nat} {σ : jk_LS} {g : Int → Int} (hC : jC (jK_all S K 0 cs) S cs.length (σ.S 11) (σ.S 12) (σ.T 3) (σ.T 4) (σ.T 5) (σ.T 6) (σ.T 7) g) (hnd : (jl_lo (jK_all S K 0 cs)).Nodup) (ht : ∀ cu ∈ cs, ∀ t, jK_tp K cu = some t → jS_ch S t = []) (hKP : ∀ cu ∈ cs, jl_KP S K P cu) (h0 : 0 < cs.length) (hP : ∀ p ∈ jK_all S K 0 cs, P p.1) (hd : jV_d S P) : jB σ S K P cs := by
  have I := hC.1
  have hcl := hC.2.1
  have hsz := hC.2.2.1
  have hs40 := I.1.2.1
  have hc6 := I.1.1
  have hh : ∀ cu ∈ cs, (∀ b ∈ jK_pd K cu, jS_hgt S 3 b) ∧ ∀ t, jK_tp K cu = some t → jS_hgt S 3 t := fun cu hcu => ⟨fun b hb => ((hKP cu hcu).1 b hb).2, fun t h => ((hKP cu hcu).2 t h).2⟩
  refine ⟨by omega, ⟨h0, by omega⟩, hKP, hd, fun k x d c hk => jv_k hC ht hh hk (hP _ (List.mem_of_getElem? hk)), fun j cu hj => jv_c hC hnd (ht cu (List.mem_of_getElem? hj)) hj hP, ?_, ?_, fun k x d c hk => jq_k hC ht hh hk (hd x (hP _ (List.mem_of_getElem? hk))), fun j cu hj => jq_c hC hnd (ht cu (List.mem_of_getElem? hj)) hj hP hd⟩
  · rw [← hcl]
    rfl
  · rw [← hsz]
    rfl
