theorem nx_0 : decode prog_49_method_4_code 0 = .ok (.aload_n 0, 1) := by decide +kernel
theorem nx_1 : decode prog_49_method_4_code 1 = .ok (.aload_n 1, 1) := by decide +kernel
theorem nx_2 : decode prog_49_method_4_code 2 = .ok (.invokespecial 13, 3) := by decide +kernel
theorem nx_5 : decode prog_49_method_4_code 5 = .ok (.return_, 1) := by decide +kernel
theorem tw_211_2 : jk_tw "KnotReader" 211 (jk_exc 2) = true := by decide +kernel
theorem tw_220_4 : jx_tw "KnotReader" 220 (jk_exc 4) 13 prog_49_method_4_code = true := by decide +kernel
theorem tw_306_1 : jk_tw "KnotReader" 306 (jk_exc 1) = true := by decide +kernel
theorem tw_323_3 : jk_tw "KnotReader" 323 (jk_exc 3) = true := by decide +kernel
