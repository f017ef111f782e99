def mt_X_init : Mt := (⟨"TruthBenchModel$Wrong", "<init>", "()V"⟩, prog_15_method_1_code, 1, none, [])
def dl_X_init_b0 : List (Nat × Instr × Nat) := [(0, .aload_n 0, 1), (1, .aconst_null, 1), (2, .aconst_null, 1), (3, .iconst 0, 1), (4, .iconst 0, 1), (5, .invokespecial 1, 3), (8, .return_, 1)]
set_option maxRecDepth 100000 in
theorem dk_X_init_b0 : ∀ q ∈ dl_X_init_b0, decode mt_X_init.cc q.1 = .ok (q.2.1, q.2.2) := by decide +kernel
theorem dd_X_init_0 : decode mt_X_init.cc 0 = .ok (.aload_n 0, 1) := dk_X_init_b0 (0, .aload_n 0, 1) (List.mem_of_getElem? (i := 0) rfl)
theorem dd_X_init_1 : decode mt_X_init.cc 1 = .ok (.aconst_null, 1) := dk_X_init_b0 (1, .aconst_null, 1) (List.mem_of_getElem? (i := 1) rfl)
theorem dd_X_init_2 : decode mt_X_init.cc 2 = .ok (.aconst_null, 1) := dk_X_init_b0 (2, .aconst_null, 1) (List.mem_of_getElem? (i := 2) rfl)
theorem dd_X_init_3 : decode mt_X_init.cc 3 = .ok (.iconst 0, 1) := dk_X_init_b0 (3, .iconst 0, 1) (List.mem_of_getElem? (i := 3) rfl)
theorem dd_X_init_4 : decode mt_X_init.cc 4 = .ok (.iconst 0, 1) := dk_X_init_b0 (4, .iconst 0, 1) (List.mem_of_getElem? (i := 4) rfl)
theorem dd_X_init_5 : decode mt_X_init.cc 5 = .ok (.invokespecial 1, 3) := dk_X_init_b0 (5, .invokespecial 1, 3) (List.mem_of_getElem? (i := 5) rfl)
theorem dd_X_init_8 : decode mt_X_init.cc 8 = .ok (.return_, 1) := dk_X_init_b0 (8, .return_, 1) (List.mem_of_getElem? (i := 6) rfl)
theorem cw_X_init : gj_cw mt_X_init ∈ tw_all := mw_1082
theorem pl_X_init : gj_plain mt_X_init.y := ⟨by decide +kernel, by decide +kernel⟩
theorem pn_X_init : plainName mt_X_init.y.cls = true := by decide +kernel
theorem np_X_init : gj_np mt_X_init.y = some 0 := by decide +kernel
