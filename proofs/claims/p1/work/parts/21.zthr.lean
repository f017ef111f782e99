set_option maxRecDepth 100000 in
theorem thw_T_71 : ∀ w ∈ vx_at0 "TruthBench" 71 (ct_name 14) ["java/lang/RuntimeException", "java/lang/Exception"], w ∈ lw_tbl ∧ gj_tr w = true ∧ vx_ot w = true := by decide +kernel
set_option maxRecDepth 100000 in
theorem thw_T_89 : ∀ w ∈ vx_at0 "TruthBench" 89 (ct_name 15) ["java/lang/RuntimeException", "java/lang/Exception"], w ∈ lw_tbl ∧ gj_tr w = true ∧ vx_ot w = true := by decide +kernel
set_option maxRecDepth 100000 in
theorem thw_T_108 : ∀ w ∈ vx_at0 "TruthBench" 108 (ct_name 16) ["java/lang/RuntimeException", "java/lang/Exception"], w ∈ lw_tbl ∧ gj_tr w = true ∧ vx_ot w = true := by decide +kernel
set_option maxRecDepth 100000 in
theorem thw_T_143 : ∀ w ∈ vx_at0 "TruthBench" 143 (ct_name 17) ["java/lang/RuntimeException", "java/lang/Exception"], w ∈ lw_tbl ∧ gj_tr w = true ∧ vx_ot w = true := by decide +kernel
set_option maxRecDepth 100000 in
theorem thw_T_153 : ∀ w ∈ vx_at0 "TruthBench" 153 (ct_name 18) ["java/lang/RuntimeException", "java/lang/Exception"], w ∈ lw_tbl ∧ gj_tr w = true ∧ vx_ot w = true := by decide +kernel
