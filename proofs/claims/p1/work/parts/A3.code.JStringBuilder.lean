def mt_JStringBuilder_init : Mt := (⟨"java/lang/StringBuilder", "<init>", "()V"⟩, prog_30_method_1_code, 1, none, [])
def dl_JStringBuilder_init_b0 : List (Nat × Instr × Nat) := [(0, .aload_n 0, 1), (1, .bipush 16, 2), (3, .invokespecial 1, 3), (6, .return_, 1)]
set_option maxRecDepth 100000 in
theorem dk_JStringBuilder_init_b0 : ∀ q ∈ dl_JStringBuilder_init_b0, decode mt_JStringBuilder_init.cc q.1 = .ok (q.2.1, q.2.2) := by decide +kernel
theorem dd_JStringBuilder_init_0 : decode mt_JStringBuilder_init.cc 0 = .ok (.aload_n 0, 1) := dk_JStringBuilder_init_b0 (0, .aload_n 0, 1) (List.mem_of_getElem? (i := 0) rfl)
theorem dd_JStringBuilder_init_1 : decode mt_JStringBuilder_init.cc 1 = .ok (.bipush 16, 2) := dk_JStringBuilder_init_b0 (1, .bipush 16, 2) (List.mem_of_getElem? (i := 1) rfl)
theorem dd_JStringBuilder_init_3 : decode mt_JStringBuilder_init.cc 3 = .ok (.invokespecial 1, 3) := dk_JStringBuilder_init_b0 (3, .invokespecial 1, 3) (List.mem_of_getElem? (i := 2) rfl)
theorem dd_JStringBuilder_init_6 : decode mt_JStringBuilder_init.cc 6 = .ok (.return_, 1) := dk_JStringBuilder_init_b0 (6, .return_, 1) (List.mem_of_getElem? (i := 3) rfl)
theorem cw_JStringBuilder_init : gj_cw mt_JStringBuilder_init ∈ tw_all := mw_1262
theorem pl_JStringBuilder_init : gj_plain mt_JStringBuilder_init.y := ⟨by decide +kernel, by decide +kernel⟩
theorem pn_JStringBuilder_init : plainName mt_JStringBuilder_init.y.cls = true := by decide +kernel
theorem np_JStringBuilder_init : gj_np mt_JStringBuilder_init.y = some 0 := by decide +kernel
def mt_JStringBuilder_append_0 : Mt := (⟨"java/lang/StringBuilder", "append", "(C)Ljava/lang/StringBuilder;"⟩, prog_30_method_14_code, 2, some (.object "java/lang/StringBuilder"), [])
def dl_JStringBuilder_append_0_b0 : List (Nat × Instr × Nat) := [(0, .aload_n 0, 1), (1, .iload_n 1, 1), (2, .invokespecial 50, 3), (5, .pop, 1), (6, .aload_n 0, 1), (7, .areturn, 1)]
set_option maxRecDepth 100000 in
theorem dk_JStringBuilder_append_0_b0 : ∀ q ∈ dl_JStringBuilder_append_0_b0, decode mt_JStringBuilder_append_0.cc q.1 = .ok (q.2.1, q.2.2) := by decide +kernel
theorem dd_JStringBuilder_append_0_0 : decode mt_JStringBuilder_append_0.cc 0 = .ok (.aload_n 0, 1) := dk_JStringBuilder_append_0_b0 (0, .aload_n 0, 1) (List.mem_of_getElem? (i := 0) rfl)
theorem dd_JStringBuilder_append_0_1 : decode mt_JStringBuilder_append_0.cc 1 = .ok (.iload_n 1, 1) := dk_JStringBuilder_append_0_b0 (1, .iload_n 1, 1) (List.mem_of_getElem? (i := 1) rfl)
theorem dd_JStringBuilder_append_0_2 : decode mt_JStringBuilder_append_0.cc 2 = .ok (.invokespecial 50, 3) := dk_JStringBuilder_append_0_b0 (2, .invokespecial 50, 3) (List.mem_of_getElem? (i := 2) rfl)
theorem dd_JStringBuilder_append_0_5 : decode mt_JStringBuilder_append_0.cc 5 = .ok (.pop, 1) := dk_JStringBuilder_append_0_b0 (5, .pop, 1) (List.mem_of_getElem? (i := 3) rfl)
theorem dd_JStringBuilder_append_0_6 : decode mt_JStringBuilder_append_0.cc 6 = .ok (.aload_n 0, 1) := dk_JStringBuilder_append_0_b0 (6, .aload_n 0, 1) (List.mem_of_getElem? (i := 4) rfl)
theorem dd_JStringBuilder_append_0_7 : decode mt_JStringBuilder_append_0.cc 7 = .ok (.areturn, 1) := dk_JStringBuilder_append_0_b0 (7, .areturn, 1) (List.mem_of_getElem? (i := 5) rfl)
theorem cw_JStringBuilder_append_0 : gj_cw mt_JStringBuilder_append_0 ∈ tw_all := mw_1294
theorem pl_JStringBuilder_append_0 : gj_plain mt_JStringBuilder_append_0.y := ⟨by decide +kernel, by decide +kernel⟩
theorem pn_JStringBuilder_append_0 : plainName mt_JStringBuilder_append_0.y.cls = true := by decide +kernel
theorem np_JStringBuilder_append_0 : gj_np mt_JStringBuilder_append_0.y = some 1 := by decide +kernel
def mt_JStringBuilder_toString : Mt := (⟨"java/lang/StringBuilder", "toString", "()Ljava/lang/String;"⟩, prog_30_method_42_code, 1, some (.object "java/lang/String"), [])
def dl_JStringBuilder_toString_b0 : List (Nat × Instr × Nat) := [(0, .new 18, 3), (3, .dup, 1), (4, .aload_n 0, 1), (5, .invokespecial 137, 3), (8, .areturn, 1)]
set_option maxRecDepth 100000 in
theorem dk_JStringBuilder_toString_b0 : ∀ q ∈ dl_JStringBuilder_toString_b0, decode mt_JStringBuilder_toString.cc q.1 = .ok (q.2.1, q.2.2) := by decide +kernel
theorem dd_JStringBuilder_toString_0 : decode mt_JStringBuilder_toString.cc 0 = .ok (.new 18, 3) := dk_JStringBuilder_toString_b0 (0, .new 18, 3) (List.mem_of_getElem? (i := 0) rfl)
theorem dd_JStringBuilder_toString_3 : decode mt_JStringBuilder_toString.cc 3 = .ok (.dup, 1) := dk_JStringBuilder_toString_b0 (3, .dup, 1) (List.mem_of_getElem? (i := 1) rfl)
theorem dd_JStringBuilder_toString_4 : decode mt_JStringBuilder_toString.cc 4 = .ok (.aload_n 0, 1) := dk_JStringBuilder_toString_b0 (4, .aload_n 0, 1) (List.mem_of_getElem? (i := 2) rfl)
theorem dd_JStringBuilder_toString_5 : decode mt_JStringBuilder_toString.cc 5 = .ok (.invokespecial 137, 3) := dk_JStringBuilder_toString_b0 (5, .invokespecial 137, 3) (List.mem_of_getElem? (i := 3) rfl)
theorem dd_JStringBuilder_toString_8 : decode mt_JStringBuilder_toString.cc 8 = .ok (.areturn, 1) := dk_JStringBuilder_toString_b0 (8, .areturn, 1) (List.mem_of_getElem? (i := 4) rfl)
theorem cw_JStringBuilder_toString : gj_cw mt_JStringBuilder_toString ∈ tw_all := mw_1363
theorem pl_JStringBuilder_toString : gj_plain mt_JStringBuilder_toString.y := ⟨by decide +kernel, by decide +kernel⟩
theorem pn_JStringBuilder_toString : plainName mt_JStringBuilder_toString.y.cls = true := by decide +kernel
theorem np_JStringBuilder_toString : gj_np mt_JStringBuilder_toString.y = some 0 := by decide +kernel
def mt_JStringBuilder_length : Mt := (⟨"java/lang/StringBuilder", "length", "()I"⟩, prog_30_method_93_code, 1, some .int, [])
def dl_JStringBuilder_length_b0 : List (Nat × Instr × Nat) := [(0, .aload_n 0, 1), (1, .invokespecial 343, 3), (4, .ireturn, 1)]
set_option maxRecDepth 100000 in
theorem dk_JStringBuilder_length_b0 : ∀ q ∈ dl_JStringBuilder_length_b0, decode mt_JStringBuilder_length.cc q.1 = .ok (q.2.1, q.2.2) := by decide +kernel
theorem dd_JStringBuilder_length_0 : decode mt_JStringBuilder_length.cc 0 = .ok (.aload_n 0, 1) := dk_JStringBuilder_length_b0 (0, .aload_n 0, 1) (List.mem_of_getElem? (i := 0) rfl)
theorem dd_JStringBuilder_length_1 : decode mt_JStringBuilder_length.cc 1 = .ok (.invokespecial 343, 3) := dk_JStringBuilder_length_b0 (1, .invokespecial 343, 3) (List.mem_of_getElem? (i := 1) rfl)
theorem dd_JStringBuilder_length_4 : decode mt_JStringBuilder_length.cc 4 = .ok (.ireturn, 1) := dk_JStringBuilder_length_b0 (4, .ireturn, 1) (List.mem_of_getElem? (i := 2) rfl)
theorem cw_JStringBuilder_length : gj_cw mt_JStringBuilder_length ∈ tw_all := mw_1383
theorem pl_JStringBuilder_length : gj_plain mt_JStringBuilder_length.y := ⟨by decide +kernel, by decide +kernel⟩
theorem pn_JStringBuilder_length : plainName mt_JStringBuilder_length.y.cls = true := by decide +kernel
theorem np_JStringBuilder_length : gj_np mt_JStringBuilder_length.y = some 0 := by decide +kernel
def mt_JStringBuilder_append_1 : Mt := (⟨"java/lang/StringBuilder", "append", "(I)Ljava/lang/StringBuilder;"⟩, prog_30_method_15_code, 2, some (.object "java/lang/StringBuilder"), [])
def dl_JStringBuilder_append_1_b0 : List (Nat × Instr × Nat) := [(0, .aload_n 0, 1), (1, .iload_n 1, 1), (2, .invokespecial 53, 3), (5, .pop, 1), (6, .aload_n 0, 1), (7, .areturn, 1)]
set_option maxRecDepth 100000 in
theorem dk_JStringBuilder_append_1_b0 : ∀ q ∈ dl_JStringBuilder_append_1_b0, decode mt_JStringBuilder_append_1.cc q.1 = .ok (q.2.1, q.2.2) := by decide +kernel
theorem dd_JStringBuilder_append_1_0 : decode mt_JStringBuilder_append_1.cc 0 = .ok (.aload_n 0, 1) := dk_JStringBuilder_append_1_b0 (0, .aload_n 0, 1) (List.mem_of_getElem? (i := 0) rfl)
theorem dd_JStringBuilder_append_1_1 : decode mt_JStringBuilder_append_1.cc 1 = .ok (.iload_n 1, 1) := dk_JStringBuilder_append_1_b0 (1, .iload_n 1, 1) (List.mem_of_getElem? (i := 1) rfl)
theorem dd_JStringBuilder_append_1_2 : decode mt_JStringBuilder_append_1.cc 2 = .ok (.invokespecial 53, 3) := dk_JStringBuilder_append_1_b0 (2, .invokespecial 53, 3) (List.mem_of_getElem? (i := 2) rfl)
theorem dd_JStringBuilder_append_1_5 : decode mt_JStringBuilder_append_1.cc 5 = .ok (.pop, 1) := dk_JStringBuilder_append_1_b0 (5, .pop, 1) (List.mem_of_getElem? (i := 3) rfl)
theorem dd_JStringBuilder_append_1_6 : decode mt_JStringBuilder_append_1.cc 6 = .ok (.aload_n 0, 1) := dk_JStringBuilder_append_1_b0 (6, .aload_n 0, 1) (List.mem_of_getElem? (i := 4) rfl)
theorem dd_JStringBuilder_append_1_7 : decode mt_JStringBuilder_append_1.cc 7 = .ok (.areturn, 1) := dk_JStringBuilder_append_1_b0 (7, .areturn, 1) (List.mem_of_getElem? (i := 5) rfl)
theorem cw_JStringBuilder_append_1 : gj_cw mt_JStringBuilder_append_1 ∈ tw_all := mw_1402
theorem pl_JStringBuilder_append_1 : gj_plain mt_JStringBuilder_append_1.y := ⟨by decide +kernel, by decide +kernel⟩
theorem pn_JStringBuilder_append_1 : plainName mt_JStringBuilder_append_1.y.cls = true := by decide +kernel
theorem np_JStringBuilder_append_1 : gj_np mt_JStringBuilder_append_1.y = some 1 := by decide +kernel
def mt_JStringBuilder_append_2 : Mt := (⟨"java/lang/StringBuilder", "append", "(Ljava/lang/String;)Ljava/lang/StringBuilder;"⟩, prog_30_method_7_code, 2, some (.object "java/lang/StringBuilder"), [])
def dl_JStringBuilder_append_2_b0 : List (Nat × Instr × Nat) := [(0, .aload_n 0, 1), (1, .aload_n 1, 1), (2, .invokespecial 29, 3), (5, .pop, 1), (6, .aload_n 0, 1), (7, .areturn, 1)]
set_option maxRecDepth 100000 in
theorem dk_JStringBuilder_append_2_b0 : ∀ q ∈ dl_JStringBuilder_append_2_b0, decode mt_JStringBuilder_append_2.cc q.1 = .ok (q.2.1, q.2.2) := by decide +kernel
theorem dd_JStringBuilder_append_2_0 : decode mt_JStringBuilder_append_2.cc 0 = .ok (.aload_n 0, 1) := dk_JStringBuilder_append_2_b0 (0, .aload_n 0, 1) (List.mem_of_getElem? (i := 0) rfl)
theorem dd_JStringBuilder_append_2_1 : decode mt_JStringBuilder_append_2.cc 1 = .ok (.aload_n 1, 1) := dk_JStringBuilder_append_2_b0 (1, .aload_n 1, 1) (List.mem_of_getElem? (i := 1) rfl)
theorem dd_JStringBuilder_append_2_2 : decode mt_JStringBuilder_append_2.cc 2 = .ok (.invokespecial 29, 3) := dk_JStringBuilder_append_2_b0 (2, .invokespecial 29, 3) (List.mem_of_getElem? (i := 2) rfl)
theorem dd_JStringBuilder_append_2_5 : decode mt_JStringBuilder_append_2.cc 5 = .ok (.pop, 1) := dk_JStringBuilder_append_2_b0 (5, .pop, 1) (List.mem_of_getElem? (i := 3) rfl)
theorem dd_JStringBuilder_append_2_6 : decode mt_JStringBuilder_append_2.cc 6 = .ok (.aload_n 0, 1) := dk_JStringBuilder_append_2_b0 (6, .aload_n 0, 1) (List.mem_of_getElem? (i := 4) rfl)
theorem dd_JStringBuilder_append_2_7 : decode mt_JStringBuilder_append_2.cc 7 = .ok (.areturn, 1) := dk_JStringBuilder_append_2_b0 (7, .areturn, 1) (List.mem_of_getElem? (i := 5) rfl)
theorem cw_JStringBuilder_append_2 : gj_cw mt_JStringBuilder_append_2 ∈ tw_all := mw_1437
theorem pl_JStringBuilder_append_2 : gj_plain mt_JStringBuilder_append_2.y := ⟨by decide +kernel, by decide +kernel⟩
theorem pn_JStringBuilder_append_2 : plainName mt_JStringBuilder_append_2.y.cls = true := by decide +kernel
theorem np_JStringBuilder_append_2 : gj_np mt_JStringBuilder_append_2.y = some 1 := by decide +kernel
