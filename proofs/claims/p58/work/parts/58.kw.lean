/-! words of the component's public methods; small methods of the law -/
theorem ki_KR_appendInput : (Jvm.Cond.instanceMethod mn_KR_appendInput) ∈ jk_WA := jk_tb 917 (by decide +kernel) (by decide +kernel)
theorem ks_KR_appendInput : (Jvm.Cond.selects "KnotReader" mn_KR_appendInput mn_KR_appendInput) ∈ jk_WA := jk_tb 918 (by decide +kernel) (by decide +kernel)
theorem kc_KR_appendInput : (Jvm.Cond.code mn_KR_appendInput prog_1_method_2_code (6 : Nat) (some .int)) ∈ jk_WA := jk_tb 919 (by decide +kernel) (by decide +kernel)
theorem ki_KR_truncateInput : (Jvm.Cond.instanceMethod mn_KR_truncateInput) ∈ jk_WA := jk_tb 925 (by decide +kernel) (by decide +kernel)
theorem ks_KR_truncateInput : (Jvm.Cond.selects "KnotReader" mn_KR_truncateInput mn_KR_truncateInput) ∈ jk_WA := jk_tb 926 (by decide +kernel) (by decide +kernel)
theorem kc_KR_truncateInput : (Jvm.Cond.code mn_KR_truncateInput prog_1_method_3_code (2 : Nat) (some .boolean)) ∈ jk_WA := jk_tb 927 (by decide +kernel) (by decide +kernel)
theorem ki_KR_loadCords : (Jvm.Cond.instanceMethod mn_KR_loadCords) ∈ jk_WA := jk_tb 470 (by decide +kernel) (by decide +kernel)
theorem ks_KR_loadCords : (Jvm.Cond.selects "KnotReader" mn_KR_loadCords mn_KR_loadCords) ∈ jk_WA := jk_tb 471 (by decide +kernel) (by decide +kernel)
theorem kc_KR_loadCords : (Jvm.Cond.code mn_KR_loadCords prog_1_method_4_code (1 : Nat) (some .int)) ∈ jk_WA := jk_tb 472 (by decide +kernel) (by decide +kernel)
theorem ki_KR_clusterCount : (Jvm.Cond.instanceMethod mn_KR_clusterCount) ∈ jk_WA := jk_tb 932 (by decide +kernel) (by decide +kernel)
theorem ks_KR_clusterCount : (Jvm.Cond.selects "KnotReader" mn_KR_clusterCount mn_KR_clusterCount) ∈ jk_WA := jk_tb 933 (by decide +kernel) (by decide +kernel)
theorem kc_KR_clusterCount : (Jvm.Cond.code mn_KR_clusterCount prog_1_method_10_code (1 : Nat) (some .int)) ∈ jk_WA := jk_tb 934 (by decide +kernel) (by decide +kernel)
theorem ki_KR_cordCount : (Jvm.Cond.instanceMethod mn_KR_cordCount) ∈ jk_WA := jk_tb 938 (by decide +kernel) (by decide +kernel)
theorem ks_KR_cordCount : (Jvm.Cond.selects "KnotReader" mn_KR_cordCount mn_KR_cordCount) ∈ jk_WA := jk_tb 939 (by decide +kernel) (by decide +kernel)
theorem kc_KR_cordCount : (Jvm.Cond.code mn_KR_cordCount prog_1_method_11_code (1 : Nat) (some .int)) ∈ jk_WA := jk_tb 940 (by decide +kernel) (by decide +kernel)
theorem ki_KR_clusterOf : (Jvm.Cond.instanceMethod mn_KR_clusterOf) ∈ jk_WA := jk_tb 944 (by decide +kernel) (by decide +kernel)
theorem ks_KR_clusterOf : (Jvm.Cond.selects "KnotReader" mn_KR_clusterOf mn_KR_clusterOf) ∈ jk_WA := jk_tb 945 (by decide +kernel) (by decide +kernel)
theorem kc_KR_clusterOf : (Jvm.Cond.code mn_KR_clusterOf prog_1_method_16_code (2 : Nat) (some .int)) ∈ jk_WA := jk_tb 946 (by decide +kernel) (by decide +kernel)
theorem ki_KR_depthOf : (Jvm.Cond.instanceMethod mn_KR_depthOf) ∈ jk_WA := jk_tb 1030 (by decide +kernel) (by decide +kernel)
theorem ks_KR_depthOf : (Jvm.Cond.selects "KnotReader" mn_KR_depthOf mn_KR_depthOf) ∈ jk_WA := jk_tb 1031 (by decide +kernel) (by decide +kernel)
theorem kc_KR_depthOf : (Jvm.Cond.code mn_KR_depthOf prog_1_method_17_code (2 : Nat) (some .int)) ∈ jk_WA := jk_tb 1032 (by decide +kernel) (by decide +kernel)
theorem ki_KR_topicOf : (Jvm.Cond.instanceMethod mn_KR_topicOf) ∈ jk_WA := jk_tb 1035 (by decide +kernel) (by decide +kernel)
theorem ks_KR_topicOf : (Jvm.Cond.selects "KnotReader" mn_KR_topicOf mn_KR_topicOf) ∈ jk_WA := jk_tb 1036 (by decide +kernel) (by decide +kernel)
theorem kc_KR_topicOf : (Jvm.Cond.code mn_KR_topicOf prog_1_method_19_code (2 : Nat) (some .int)) ∈ jk_WA := jk_tb 1037 (by decide +kernel) (by decide +kernel)
theorem ki_KR_subsidiariesOf : (Jvm.Cond.instanceMethod mn_KR_subsidiariesOf) ∈ jk_WA := jk_tb 1048 (by decide +kernel) (by decide +kernel)
theorem ks_KR_subsidiariesOf : (Jvm.Cond.selects "KnotReader" mn_KR_subsidiariesOf mn_KR_subsidiariesOf) ∈ jk_WA := jk_tb 1049 (by decide +kernel) (by decide +kernel)
theorem kc_KR_subsidiariesOf : (Jvm.Cond.code mn_KR_subsidiariesOf prog_1_method_20_code (2 : Nat) (some .int)) ∈ jk_WA := jk_tb 1050 (by decide +kernel) (by decide +kernel)
theorem ki_KR_nibbledPlaces : (Jvm.Cond.instanceMethod mn_KR_nibbledPlaces) ∈ jk_WA := jk_tb 1044 (by decide +kernel) (by decide +kernel)
theorem ks_KR_nibbledPlaces : (Jvm.Cond.selects "KnotReader" mn_KR_nibbledPlaces mn_KR_nibbledPlaces) ∈ jk_WA := jk_tb 1045 (by decide +kernel) (by decide +kernel)
theorem kc_KR_nibbledPlaces : (Jvm.Cond.code mn_KR_nibbledPlaces prog_1_method_21_code (2 : Nat) (some .int)) ∈ jk_WA := jk_tb 1046 (by decide +kernel) (by decide +kernel)
theorem ki_KR_knownValue : (Jvm.Cond.instanceMethod mn_KR_knownValue) ∈ jk_WA := jk_tb 1039 (by decide +kernel) (by decide +kernel)
theorem ks_KR_knownValue : (Jvm.Cond.selects "KnotReader" mn_KR_knownValue mn_KR_knownValue) ∈ jk_WA := jk_tb 1040 (by decide +kernel) (by decide +kernel)
theorem kc_KR_knownValue : (Jvm.Cond.code mn_KR_knownValue prog_1_method_22_code (2 : Nat) (some .int)) ∈ jk_WA := jk_tb 1041 (by decide +kernel) (by decide +kernel)
theorem ki_KR_lowestTotal : (Jvm.Cond.instanceMethod mn_KR_lowestTotal) ∈ jk_WA := jk_tb 1057 (by decide +kernel) (by decide +kernel)
theorem ks_KR_lowestTotal : (Jvm.Cond.selects "KnotReader" mn_KR_lowestTotal mn_KR_lowestTotal) ∈ jk_WA := jk_tb 1058 (by decide +kernel) (by decide +kernel)
theorem kc_KR_lowestTotal : (Jvm.Cond.code mn_KR_lowestTotal prog_1_method_23_code (2 : Nat) (some .int)) ∈ jk_WA := jk_tb 1059 (by decide +kernel) (by decide +kernel)
theorem ki_KR_knotsAt : (Jvm.Cond.instanceMethod mn_KR_knotsAt) ∈ jk_WA := jk_tb 1073 (by decide +kernel) (by decide +kernel)
theorem ks_KR_knotsAt : (Jvm.Cond.selects "KnotReader" mn_KR_knotsAt mn_KR_knotsAt) ∈ jk_WA := jk_tb 1074 (by decide +kernel) (by decide +kernel)
theorem kc_KR_knotsAt : (Jvm.Cond.code mn_KR_knotsAt prog_1_method_25_code (3 : Nat) (some .int)) ∈ jk_WA := jk_tb 1075 (by decide +kernel) (by decide +kernel)
theorem ki_KR_isComplete : (Jvm.Cond.instanceMethod mn_KR_isComplete) ∈ jk_WA := jk_tb 1063 (by decide +kernel) (by decide +kernel)
theorem ks_KR_isComplete : (Jvm.Cond.selects "KnotReader" mn_KR_isComplete mn_KR_isComplete) ∈ jk_WA := jk_tb 1064 (by decide +kernel) (by decide +kernel)
theorem kc_KR_isComplete : (Jvm.Cond.code mn_KR_isComplete prog_1_method_26_code (2 : Nat) (some .boolean)) ∈ jk_WA := jk_tb 1065 (by decide +kernel) (by decide +kernel)
theorem ki_KR_pendantsIn : (Jvm.Cond.instanceMethod mn_KR_pendantsIn) ∈ jk_WA := jk_tb 1145 (by decide +kernel) (by decide +kernel)
theorem ks_KR_pendantsIn : (Jvm.Cond.selects "KnotReader" mn_KR_pendantsIn mn_KR_pendantsIn) ∈ jk_WA := jk_tb 1146 (by decide +kernel) (by decide +kernel)
theorem kc_KR_pendantsIn : (Jvm.Cond.code mn_KR_pendantsIn prog_1_method_28_code (2 : Nat) (some .int)) ∈ jk_WA := jk_tb 1147 (by decide +kernel) (by decide +kernel)
theorem ki_KR_topOf : (Jvm.Cond.instanceMethod mn_KR_topOf) ∈ jk_WA := jk_tb 1151 (by decide +kernel) (by decide +kernel)
theorem ks_KR_topOf : (Jvm.Cond.selects "KnotReader" mn_KR_topOf mn_KR_topOf) ∈ jk_WA := jk_tb 1152 (by decide +kernel) (by decide +kernel)
theorem kc_KR_topOf : (Jvm.Cond.code mn_KR_topOf prog_1_method_30_code (2 : Nat) (some .int)) ∈ jk_WA := jk_tb 1153 (by decide +kernel) (by decide +kernel)
theorem ki_KR_stateOf : (Jvm.Cond.instanceMethod mn_KR_stateOf) ∈ jk_WA := jk_tb 1097 (by decide +kernel) (by decide +kernel)
theorem ks_KR_stateOf : (Jvm.Cond.selects "KnotReader" mn_KR_stateOf mn_KR_stateOf) ∈ jk_WA := jk_tb 1098 (by decide +kernel) (by decide +kernel)
theorem kc_KR_stateOf : (Jvm.Cond.code mn_KR_stateOf prog_1_method_32_code (2 : Nat) (some .int)) ∈ jk_WA := jk_tb 1099 (by decide +kernel) (by decide +kernel)
theorem ki_KR_guessObstacle : (Jvm.Cond.instanceMethod mn_KR_guessObstacle) ∈ jk_WA := jk_tb 1122 (by decide +kernel) (by decide +kernel)
theorem ks_KR_guessObstacle : (Jvm.Cond.selects "KnotReader" mn_KR_guessObstacle mn_KR_guessObstacle) ∈ jk_WA := jk_tb 1123 (by decide +kernel) (by decide +kernel)
theorem kc_KR_guessObstacle : (Jvm.Cond.code mn_KR_guessObstacle prog_1_method_33_code (2 : Nat) (some .int)) ∈ jk_WA := jk_tb 1124 (by decide +kernel) (by decide +kernel)
theorem ki_KR_guessIn : (Jvm.Cond.instanceMethod mn_KR_guessIn) ∈ jk_WA := jk_tb 1160 (by decide +kernel) (by decide +kernel)
theorem ks_KR_guessIn : (Jvm.Cond.selects "KnotReader" mn_KR_guessIn mn_KR_guessIn) ∈ jk_WA := jk_tb 1161 (by decide +kernel) (by decide +kernel)
theorem kc_KR_guessIn : (Jvm.Cond.code mn_KR_guessIn prog_1_method_35_code (2 : Nat) (some .int)) ∈ jk_WA := jk_tb 1162 (by decide +kernel) (by decide +kernel)
theorem ki_KR_isConsistent : (Jvm.Cond.instanceMethod mn_KR_isConsistent) ∈ jk_WA := jk_tb 495 (by decide +kernel) (by decide +kernel)
theorem ks_KR_isConsistent : (Jvm.Cond.selects "KnotReader" mn_KR_isConsistent mn_KR_isConsistent) ∈ jk_WA := jk_tb 496 (by decide +kernel) (by decide +kernel)
theorem kc_KR_isConsistent : (Jvm.Cond.code mn_KR_isConsistent prog_1_method_43_code (1 : Nat) (some .boolean)) ∈ jk_WA := jk_tb 497 (by decide +kernel) (by decide +kernel)
theorem ki_KR_addCluster : (Jvm.Cond.instanceMethod mn_KR_addCluster) ∈ jk_WA := jk_tb 1345 (by decide +kernel) (by decide +kernel)
theorem ks_KR_addCluster : (Jvm.Cond.selects "KnotReader" mn_KR_addCluster mn_KR_addCluster) ∈ jk_WA := jk_tb 1346 (by decide +kernel) (by decide +kernel)
theorem kc_KR_addCluster : (Jvm.Cond.code mn_KR_addCluster prog_1_method_44_code (1 : Nat) (some .int)) ∈ jk_WA := jk_tb 1347 (by decide +kernel) (by decide +kernel)
theorem ki_KR_addPendant : (Jvm.Cond.instanceMethod mn_KR_addPendant) ∈ jk_WA := jk_tb 1196 (by decide +kernel) (by decide +kernel)
theorem ks_KR_addPendant : (Jvm.Cond.selects "KnotReader" mn_KR_addPendant mn_KR_addPendant) ∈ jk_WA := jk_tb 1197 (by decide +kernel) (by decide +kernel)
theorem kc_KR_addPendant : (Jvm.Cond.code mn_KR_addPendant prog_1_method_45_code (4 : Nat) (some .int)) ∈ jk_WA := jk_tb 1198 (by decide +kernel) (by decide +kernel)
theorem ki_KR_addSubsidiary : (Jvm.Cond.instanceMethod mn_KR_addSubsidiary) ∈ jk_WA := jk_tb 1293 (by decide +kernel) (by decide +kernel)
theorem ks_KR_addSubsidiary : (Jvm.Cond.selects "KnotReader" mn_KR_addSubsidiary mn_KR_addSubsidiary) ∈ jk_WA := jk_tb 1294 (by decide +kernel) (by decide +kernel)
theorem kc_KR_addSubsidiary : (Jvm.Cond.code mn_KR_addSubsidiary prog_1_method_46_code (4 : Nat) (some .int)) ∈ jk_WA := jk_tb 1295 (by decide +kernel) (by decide +kernel)
theorem ki_KR_cut : (Jvm.Cond.instanceMethod mn_KR_cut) ∈ jk_WA := jk_tb 1324 (by decide +kernel) (by decide +kernel)
theorem ks_KR_cut : (Jvm.Cond.selects "KnotReader" mn_KR_cut mn_KR_cut) ∈ jk_WA := jk_tb 1325 (by decide +kernel) (by decide +kernel)
theorem kc_KR_cut : (Jvm.Cond.code mn_KR_cut prog_1_method_47_code (2 : Nat) (some .int)) ∈ jk_WA := jk_tb 1326 (by decide +kernel) (by decide +kernel)
theorem ki_KR_tieTop : (Jvm.Cond.instanceMethod mn_KR_tieTop) ∈ jk_WA := jk_tb 1329 (by decide +kernel) (by decide +kernel)
theorem ks_KR_tieTop : (Jvm.Cond.selects "KnotReader" mn_KR_tieTop mn_KR_tieTop) ∈ jk_WA := jk_tb 1330 (by decide +kernel) (by decide +kernel)
theorem kc_KR_tieTop : (Jvm.Cond.code mn_KR_tieTop prog_1_method_48_code (3 : Nat) (some .int)) ∈ jk_WA := jk_tb 1331 (by decide +kernel) (by decide +kernel)
theorem ki_KR_setKnots : (Jvm.Cond.instanceMethod mn_KR_setKnots) ∈ jk_WA := jk_tb 1333 (by decide +kernel) (by decide +kernel)
theorem ks_KR_setKnots : (Jvm.Cond.selects "KnotReader" mn_KR_setKnots mn_KR_setKnots) ∈ jk_WA := jk_tb 1334 (by decide +kernel) (by decide +kernel)
theorem kc_KR_setKnots : (Jvm.Cond.code mn_KR_setKnots prog_1_method_49_code (4 : Nat) (some .int)) ∈ jk_WA := jk_tb 1335 (by decide +kernel) (by decide +kernel)
theorem ki_KR_nibble : (Jvm.Cond.instanceMethod mn_KR_nibble) ∈ jk_WA := jk_tb 1337 (by decide +kernel) (by decide +kernel)
theorem ks_KR_nibble : (Jvm.Cond.selects "KnotReader" mn_KR_nibble mn_KR_nibble) ∈ jk_WA := jk_tb 1338 (by decide +kernel) (by decide +kernel)
theorem kc_KR_nibble : (Jvm.Cond.code mn_KR_nibble prog_1_method_50_code (3 : Nat) (some .int)) ∈ jk_WA := jk_tb 1339 (by decide +kernel) (by decide +kernel)
theorem ki_KR_dye : (Jvm.Cond.instanceMethod mn_KR_dye) ∈ jk_WA := jk_tb 1341 (by decide +kernel) (by decide +kernel)
theorem ks_KR_dye : (Jvm.Cond.selects "KnotReader" mn_KR_dye mn_KR_dye) ∈ jk_WA := jk_tb 1342 (by decide +kernel) (by decide +kernel)
theorem kc_KR_dye : (Jvm.Cond.code mn_KR_dye prog_1_method_51_code (3 : Nat) (some .int)) ∈ jk_WA := jk_tb 1343 (by decide +kernel) (by decide +kernel)
theorem ki_KR_repair : (Jvm.Cond.instanceMethod mn_KR_repair) ∈ jk_WA := jk_tb 1351 (by decide +kernel) (by decide +kernel)
theorem ks_KR_repair : (Jvm.Cond.selects "KnotReader" mn_KR_repair mn_KR_repair) ∈ jk_WA := jk_tb 1352 (by decide +kernel) (by decide +kernel)
theorem kc_KR_repair : (Jvm.Cond.code mn_KR_repair prog_1_method_52_code (2 : Nat) (some .int)) ∈ jk_WA := jk_tb 1353 (by decide +kernel) (by decide +kernel)
theorem ki_KR_init : (Jvm.Cond.instanceMethod mn_KR_init) ∈ jk_WA := jk_tb 43 (by decide +kernel) (by decide +kernel)
theorem kc_KR_init : (Jvm.Cond.code mn_KR_init prog_1_method_1_code (1 : Nat) none) ∈ jk_WA := jk_tb 44 (by decide +kernel) (by decide +kernel)
theorem iw_KR : Jvm.Cond.initialized "KnotReader" ∈ jk_WA := jk_tb 1 (by decide +kernel) (by decide +kernel)
section BT
variable {p : Program} {l : Launch} {e : Env} {R : Room} {s : State} {m : MethodId} {args : Array Value} {below : List Frame} {meth : Method} {c : Code} {cells slots : Nat} {Q : State → Prop} {D : va_G} {cl : List vw_C} {A : Nat → Prop} {nL : Nat} {ws : va_W} {lv : List (Nat × Value)} {pc : Nat} {st : List Value}
variable {cc : ByteArray} {own : String} {tys : List (ClassId × FieldType)} {ret : Option FieldType} {a : Nat}
def jw_ushr (x y : Int) : Int := ((jk_I x).toUInt32 >>> ((jk_I y).toUInt32 &&& Int32.toUInt32 31)).toInt32.toInt
theorem jr_iushr (C : jk_C p s m args meth c cc own nL jk_WA D cl tys A ret) {x y : Int} (hdg : decode cc pc = .ok (.iushr, 1)) (kk : jk_J p l e R s m args below meth c cells slots Q D cl A nL ws lv (pc + 1) (jk_V (jw_ushr x y) :: st)) : jk_J p l e R s m args below meth c cells slots Q D cl A nL ws lv pc (jk_V y :: jk_V x :: st) :=
  fun H locs ls hl hP hD hS => lv_iushr C.1.1 C.1.2.1 hdg rfl (jk_of (((jk_I x).toUInt32 >>> ((jk_I y).toUInt32 &&& Int32.toUInt32 31)).toInt32) ▸ kk H locs ls hl hP hD hS)
theorem jm_ti (C : jk_C p s m args meth c cc own nL jk_WA D cl tys A ret) {N : Nat} {i : Int} {xs : Nat → Int32} (hT : va_T .int a N (fun j => .int (xs j)) A s s.heap) (hn : N < 2147483648) (h0 : 0 ≤ i) (h1 : i < N) (hdg : decode cc pc = .ok (.iaload, 1))
    (kk : jk_J p l e R s m args below meth c cells slots Q D cl A nL ws lv (pc + 1) (jk_V (xs i.toNat).toInt :: st)) : jk_J p l e R s m args below meth c cells slots Q D cl A nL ws lv pc (jk_V i :: .ref a :: st) :=
by
  have e : jk_V (xs i.toNat).toInt = .int (xs i.toNat) := congrArg Value.int (jk_of _)
  rw [e] at kk
  exact fun H locs ls hl hP hD hS => va_ti C.1.1 C.1.2.1 hT hS (jk_in h0 h1 hn) (by rw [jk_clamp h0 (by omega)]) hdg (kk H locs ls hl hP hD hS)
end BT
/-- a cell of the script, or what stands behind its end -/
def jw_cell (L : Nat) (xs : Nat → Int32) (k : Nat) : Int := if k < L then (xs k).toInt else 113 * (k : Int) + 67
def jw_bits (x from' many : Int) : Int := jk_and (jw_ushr x from') (jk_shl 1 many - 1)
theorem jk_R_i32 (v : Int32) : jk_R v.toInt := ⟨Int32.le_toInt v, Int32.toInt_lt v⟩
theorem jw_cell_R {L k : Nat} {xs : Nat → Int32} (hk : k < 1000) : jk_R (jw_cell L xs k) := by
  unfold jw_cell
  split
  · exact jk_R_i32 _
  · exact ⟨by omega, by omega⟩
theorem jw_bits_lt {x : Int} {f k : Nat} (hk : k ≤ 10) : 0 ≤ jw_bits x f k ∧ jw_bits x f k < 2 ^ k := by
  have h : jk_shl 1 (k : Int) - 1 = ((2 ^ k - 1 : Nat) : Int) := by
    have key : ∀ k : Fin 11, jk_shl 1 ((k : Nat) : Int) - 1 = ((2 ^ (k : Nat) - 1 : Nat) : Int) := by decide +kernel
    exact key ⟨k, by omega⟩
  unfold jw_bits
  rw [h]
  unfold jk_and
  generalize hy : jk_I (jw_ushr x (f : Int)) = y
  have key : ∀ k : Fin 11, (jk_I ((2 ^ (k : Nat) - 1 : Nat) : Int)).toBitVec.toNat = 2 ^ (k : Nat) - 1 := by decide +kernel
  have hb := key ⟨k, by omega⟩
  have h1 : (y &&& jk_I ((2 ^ k - 1 : Nat) : Int)).toBitVec.toNat = y.toBitVec.toNat % 2 ^ k := by
    rw [Int32.toBitVec_and, BitVec.toNat_and]
    show y.toBitVec.toNat &&& (jk_I ((2 ^ k - 1 : Nat) : Int)).toBitVec.toNat = _
    rw [show (jk_I ((2 ^ k - 1 : Nat) : Int)).toBitVec.toNat = 2 ^ k - 1 from hb]
    exact Nat.and_two_pow_sub_one_eq_mod _ _
  have h2 : y.toBitVec.toNat % 2 ^ k < 2 ^ k := Nat.mod_lt _ (Nat.two_pow_pos k)
  have h3 : 2 ^ k ≤ 2 ^ 10 := Nat.pow_le_pow_right (by decide) hk
  have h4 : (y &&& jk_I ((2 ^ k - 1 : Nat) : Int)).toInt = ((y.toBitVec.toNat % 2 ^ k : Nat) : Int) := by
    show (y &&& jk_I ((2 ^ k - 1 : Nat) : Int)).toBitVec.toInt = _
    rw [BitVec.toInt_eq_toNat_of_lt (by rw [h1]; omega), h1]
  rw [h4]
  exact ⟨Int.natCast_nonneg _, by exact_mod_cast h2⟩
section LW0
variable (l : Launch) (D : va_G) {Z : (Nat → Prop) → State → Heap → Prop} {sq iad : Nat → Nat} {z0 zi mi : Nat} (cI cR cO cB : ClassId)
set_option maxHeartbeats 1000000 in
theorem ct_Lw_cell (hZ : jl_ZK Z sq iad z0 zi mi) {M : jm_M} {b L k : Nat} {xs : Nat → Int32} (hXs : ∀ (A : Nat → Prop) (U : State) (H : Heap), Z A U H → va_T .int b L (fun j => .int (xs j)) A U H) (hL : L < 100000) (hk : k < 1000) : jm_Met l D jk_cl (jl_ty cI cR cO cB) Z mn_Lw_cell (.code mn_Lw_cell mb_Lw_cell 2 (some .int) :: jk_WA) (jk_rx 0 0 0 0) [.ref b, jk_V ((k : Int))] M (fun v M' => v = some (jk_V (jw_cell L xs k)) ∧ M' = M) 0 0 := by
  refine jm_body (by decide +kernel) (fun p ev s m args below meth cod w hw hz hin C => ?_) (Nat.le_of_ble_eq_true rfl)
  refine jk_iload_n C rd_Lw_cell_0 (k := 1) rfl ?_
  refine jk_aload_n C rd_Lw_cell_1 (k := 0) rfl ?_
  have hT := hXs _ _ _ hz
  refine jm_tlen C hT rd_Lw_cell_2 ?_
  refine jr_icmp_ge C rd_Lw_cell_3 (tgt := 12) rfl ⟨by omega, by omega⟩ ⟨by omega, by omega⟩ (fun hc => ?_) (fun hc => ?_)
  · refine jk_bipush C rd_Lw_cell_12 (by decide +kernel) ?_
    refine jk_iload_n C rd_Lw_cell_14 (k := 1) rfl ?_
    refine jk_imul C rd_Lw_cell_15 ?_
    refine jk_bipush C rd_Lw_cell_16 (by decide +kernel) ?_
    refine jk_iadd C rd_Lw_cell_18 ?_
    exact jm_ret_i C hw ⟨by unfold jw_cell; rw [if_neg (by omega)], rfl⟩ (by omega) (by omega) rd_Lw_cell_19
  · refine jk_aload_n C rd_Lw_cell_6 (k := 0) rfl ?_
    refine jk_iload_n C rd_Lw_cell_7 (k := 1) rfl ?_
    refine jm_ti C hT (by omega) (by omega) (by omega) rd_Lw_cell_8 ?_
    refine jk_goto C rd_Lw_cell_9 (tgt := 19) rfl ?_
    exact jm_ret_i C hw ⟨by unfold jw_cell; rw [if_pos (by omega), Int.toNat_natCast], rfl⟩ (by omega) (by omega) rd_Lw_cell_19
set_option maxHeartbeats 1000000 in
theorem ct_Lw_bits (hZ : jl_ZK Z sq iad z0 zi mi) {M : jm_M} {x f k : Int} : jm_Met l D jk_cl (jl_ty cI cR cO cB) Z mn_Lw_bits (.code mn_Lw_bits mb_Lw_bits 3 (some .int) :: jk_WA) (jk_rx 0 0 0 0) [jk_V x, jk_V f, jk_V k] M (fun v M' => v = some (jk_V (jw_bits x f k)) ∧ M' = M) 0 0 := by
  refine jm_body (by decide +kernel) (fun p ev s m args below meth cod w hw hz hin C => ?_) (Nat.le_of_ble_eq_true rfl)
  refine jk_iload_n C rd_Lw_bits_0 (k := 0) rfl ?_
  refine jk_iload_n C rd_Lw_bits_1 (k := 1) rfl ?_
  refine jr_iushr C rd_Lw_bits_2 ?_
  refine jk_iconst C rd_Lw_bits_3 ?_
  refine jk_iload_n C rd_Lw_bits_4 (k := 2) rfl ?_
  refine jk_ishl C rd_Lw_bits_5 ?_
  refine jk_iconst C rd_Lw_bits_6 ?_
  refine jk_isub C rd_Lw_bits_7 ?_
  refine jk_iand C rd_Lw_bits_8 ?_
  exact jm_ret_i C hw ⟨rfl, rfl⟩ (by omega) (by omega) rd_Lw_bits_9
end LW0
