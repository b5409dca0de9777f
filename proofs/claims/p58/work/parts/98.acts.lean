/-! all acts -/
theorem jO_N : jO jN := ⟨jO_base_N, fun σ S K P cs h p hp => by
    obtain ⟨cu, _, -, -, h3⟩ := all_mem cs 0 p hp
    have h4 := dep_lt hp
    have h5 := (jO_base_N σ S K P cs h).2.1.2
    omega, fun σ S K P cs h j cu hj => by
    obtain ⟨g, hC⟩ := h.1
    have hjl : j < cs.length := (List.getElem?_eq_some_iff.mp hj).1
    have hcl := hC.2.1
    rw [← ks_cl hC (h.2.2.2.1.2.2.2.1 cu (List.mem_of_getElem? hj)) hj]
    exact (ks_r hC.1 (by omega) (by omega)).1, fun σ S K P cs h j cu hj => by
    obtain ⟨g, hC⟩ := h.1
    have hjl : j < cs.length := (List.getElem?_eq_some_iff.mp hj).1
    have hcl := hC.2.1
    rw [← kn_cl hC (h.2.2.2.1.2.2.2.1 cu (List.mem_of_getElem? hj)) hj]
    exact (kn_r hC.1 (by omega) (by omega)).1, trivial, jO_addPendant_N, jO_addSub_N, jO_cut_N, jO_tieTop_N, jO_setKnots_N, jO_nibble_N, jO_dye_N, jO_addCluster_N, jO_repair_N⟩
