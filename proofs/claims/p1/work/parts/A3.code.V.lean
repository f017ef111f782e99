def mt_V_init : Mt := (⟨"TruthBenchModel$V", "<init>", "()V"⟩, prog_14_method_1_code, 1, none, [])
def dl_V_init_b0 : List (Nat × Instr × Nat) := [(0, .aload_n 0, 1), (1, .invokespecial 1, 3), (4, .aload_n 0, 1), (5, .bipush 40, 2), (7, .newarray .byte, 2), (9, .putfield 7, 3), (12, .return_, 1)]
set_option maxRecDepth 100000 in
theorem dk_V_init_b0 : ∀ q ∈ dl_V_init_b0, decode mt_V_init.cc q.1 = .ok (q.2.1, q.2.2) := by decide +kernel
theorem dd_V_init_0 : decode mt_V_init.cc 0 = .ok (.aload_n 0, 1) := dk_V_init_b0 (0, .aload_n 0, 1) (List.mem_of_getElem? (i := 0) rfl)
theorem dd_V_init_1 : decode mt_V_init.cc 1 = .ok (.invokespecial 1, 3) := dk_V_init_b0 (1, .invokespecial 1, 3) (List.mem_of_getElem? (i := 1) rfl)
theorem dd_V_init_4 : decode mt_V_init.cc 4 = .ok (.aload_n 0, 1) := dk_V_init_b0 (4, .aload_n 0, 1) (List.mem_of_getElem? (i := 2) rfl)
theorem dd_V_init_5 : decode mt_V_init.cc 5 = .ok (.bipush 40, 2) := dk_V_init_b0 (5, .bipush 40, 2) (List.mem_of_getElem? (i := 3) rfl)
theorem dd_V_init_7 : decode mt_V_init.cc 7 = .ok (.newarray .byte, 2) := dk_V_init_b0 (7, .newarray .byte, 2) (List.mem_of_getElem? (i := 4) rfl)
theorem dd_V_init_9 : decode mt_V_init.cc 9 = .ok (.putfield 7, 3) := dk_V_init_b0 (9, .putfield 7, 3) (List.mem_of_getElem? (i := 5) rfl)
theorem dd_V_init_12 : decode mt_V_init.cc 12 = .ok (.return_, 1) := dk_V_init_b0 (12, .return_, 1) (List.mem_of_getElem? (i := 6) rfl)
theorem cw_V_init : gj_cw mt_V_init ∈ tw_all := mw_1110
theorem pl_V_init : gj_plain mt_V_init.y := ⟨by decide +kernel, by decide +kernel⟩
theorem pn_V_init : plainName mt_V_init.y.cls = true := by decide +kernel
theorem np_V_init : gj_np mt_V_init.y = some 0 := by decide +kernel
def mt_V_take : Mt := (⟨"TruthBenchModel$V", "take", "(LTruthBenchModel$V;)V"⟩, prog_14_method_2_code, 3, none, [])
def dl_V_take_b0 : List (Nat × Instr × Nat) := [(0, .aload_n 0, 1), (1, .aload_n 1, 1), (2, .getfield 13, 3), (5, .putfield 13, 3), (8, .aload_n 0, 1), (9, .aload_n 1, 1), (10, .getfield 17, 3), (13, .putfield 17, 3), (16, .aload_n 0, 1), (17, .aload_n 1, 1), (18, .getfield 21, 3), (21, .putfield 21, 3), (24, .iconst 0, 1), (25, .istore_n 2, 1), (26, .iload_n 2, 1), (27, .aload_n 0, 1), (28, .getfield 21, 3), (31, .if_icmp .ge 21, 3), (34, .aload_n 0, 1), (35, .getfield 7, 3), (38, .iload_n 2, 1), (39, .aload_n 1, 1), (40, .getfield 7, 3), (43, .iload_n 2, 1), (44, .baload, 1), (45, .bastore, 1), (46, .iinc 2 1, 3), (49, .goto (-23), 3), (52, .return_, 1)]
set_option maxRecDepth 100000 in
theorem dk_V_take_b0 : ∀ q ∈ dl_V_take_b0, decode mt_V_take.cc q.1 = .ok (q.2.1, q.2.2) := by decide +kernel
theorem dd_V_take_0 : decode mt_V_take.cc 0 = .ok (.aload_n 0, 1) := dk_V_take_b0 (0, .aload_n 0, 1) (List.mem_of_getElem? (i := 0) rfl)
theorem dd_V_take_1 : decode mt_V_take.cc 1 = .ok (.aload_n 1, 1) := dk_V_take_b0 (1, .aload_n 1, 1) (List.mem_of_getElem? (i := 1) rfl)
theorem dd_V_take_2 : decode mt_V_take.cc 2 = .ok (.getfield 13, 3) := dk_V_take_b0 (2, .getfield 13, 3) (List.mem_of_getElem? (i := 2) rfl)
theorem dd_V_take_5 : decode mt_V_take.cc 5 = .ok (.putfield 13, 3) := dk_V_take_b0 (5, .putfield 13, 3) (List.mem_of_getElem? (i := 3) rfl)
theorem dd_V_take_8 : decode mt_V_take.cc 8 = .ok (.aload_n 0, 1) := dk_V_take_b0 (8, .aload_n 0, 1) (List.mem_of_getElem? (i := 4) rfl)
theorem dd_V_take_9 : decode mt_V_take.cc 9 = .ok (.aload_n 1, 1) := dk_V_take_b0 (9, .aload_n 1, 1) (List.mem_of_getElem? (i := 5) rfl)
theorem dd_V_take_10 : decode mt_V_take.cc 10 = .ok (.getfield 17, 3) := dk_V_take_b0 (10, .getfield 17, 3) (List.mem_of_getElem? (i := 6) rfl)
theorem dd_V_take_13 : decode mt_V_take.cc 13 = .ok (.putfield 17, 3) := dk_V_take_b0 (13, .putfield 17, 3) (List.mem_of_getElem? (i := 7) rfl)
theorem dd_V_take_16 : decode mt_V_take.cc 16 = .ok (.aload_n 0, 1) := dk_V_take_b0 (16, .aload_n 0, 1) (List.mem_of_getElem? (i := 8) rfl)
theorem dd_V_take_17 : decode mt_V_take.cc 17 = .ok (.aload_n 1, 1) := dk_V_take_b0 (17, .aload_n 1, 1) (List.mem_of_getElem? (i := 9) rfl)
theorem dd_V_take_18 : decode mt_V_take.cc 18 = .ok (.getfield 21, 3) := dk_V_take_b0 (18, .getfield 21, 3) (List.mem_of_getElem? (i := 10) rfl)
theorem dd_V_take_21 : decode mt_V_take.cc 21 = .ok (.putfield 21, 3) := dk_V_take_b0 (21, .putfield 21, 3) (List.mem_of_getElem? (i := 11) rfl)
theorem dd_V_take_24 : decode mt_V_take.cc 24 = .ok (.iconst 0, 1) := dk_V_take_b0 (24, .iconst 0, 1) (List.mem_of_getElem? (i := 12) rfl)
theorem dd_V_take_25 : decode mt_V_take.cc 25 = .ok (.istore_n 2, 1) := dk_V_take_b0 (25, .istore_n 2, 1) (List.mem_of_getElem? (i := 13) rfl)
theorem dd_V_take_26 : decode mt_V_take.cc 26 = .ok (.iload_n 2, 1) := dk_V_take_b0 (26, .iload_n 2, 1) (List.mem_of_getElem? (i := 14) rfl)
theorem dd_V_take_27 : decode mt_V_take.cc 27 = .ok (.aload_n 0, 1) := dk_V_take_b0 (27, .aload_n 0, 1) (List.mem_of_getElem? (i := 15) rfl)
theorem dd_V_take_28 : decode mt_V_take.cc 28 = .ok (.getfield 21, 3) := dk_V_take_b0 (28, .getfield 21, 3) (List.mem_of_getElem? (i := 16) rfl)
theorem dd_V_take_31 : decode mt_V_take.cc 31 = .ok (.if_icmp .ge 21, 3) := dk_V_take_b0 (31, .if_icmp .ge 21, 3) (List.mem_of_getElem? (i := 17) rfl)
theorem dd_V_take_34 : decode mt_V_take.cc 34 = .ok (.aload_n 0, 1) := dk_V_take_b0 (34, .aload_n 0, 1) (List.mem_of_getElem? (i := 18) rfl)
theorem dd_V_take_35 : decode mt_V_take.cc 35 = .ok (.getfield 7, 3) := dk_V_take_b0 (35, .getfield 7, 3) (List.mem_of_getElem? (i := 19) rfl)
theorem dd_V_take_38 : decode mt_V_take.cc 38 = .ok (.iload_n 2, 1) := dk_V_take_b0 (38, .iload_n 2, 1) (List.mem_of_getElem? (i := 20) rfl)
theorem dd_V_take_39 : decode mt_V_take.cc 39 = .ok (.aload_n 1, 1) := dk_V_take_b0 (39, .aload_n 1, 1) (List.mem_of_getElem? (i := 21) rfl)
theorem dd_V_take_40 : decode mt_V_take.cc 40 = .ok (.getfield 7, 3) := dk_V_take_b0 (40, .getfield 7, 3) (List.mem_of_getElem? (i := 22) rfl)
theorem dd_V_take_43 : decode mt_V_take.cc 43 = .ok (.iload_n 2, 1) := dk_V_take_b0 (43, .iload_n 2, 1) (List.mem_of_getElem? (i := 23) rfl)
theorem dd_V_take_44 : decode mt_V_take.cc 44 = .ok (.baload, 1) := dk_V_take_b0 (44, .baload, 1) (List.mem_of_getElem? (i := 24) rfl)
theorem dd_V_take_45 : decode mt_V_take.cc 45 = .ok (.bastore, 1) := dk_V_take_b0 (45, .bastore, 1) (List.mem_of_getElem? (i := 25) rfl)
theorem dd_V_take_46 : decode mt_V_take.cc 46 = .ok (.iinc 2 1, 3) := dk_V_take_b0 (46, .iinc 2 1, 3) (List.mem_of_getElem? (i := 26) rfl)
theorem dd_V_take_49 : decode mt_V_take.cc 49 = .ok (.goto (-23), 3) := dk_V_take_b0 (49, .goto (-23), 3) (List.mem_of_getElem? (i := 27) rfl)
theorem dd_V_take_52 : decode mt_V_take.cc 52 = .ok (.return_, 1) := dk_V_take_b0 (52, .return_, 1) (List.mem_of_getElem? (i := 28) rfl)
theorem cw_V_take : gj_cw mt_V_take ∈ tw_all := mw_1851
theorem pl_V_take : gj_plain mt_V_take.y := ⟨by decide +kernel, by decide +kernel⟩
theorem pn_V_take : plainName mt_V_take.y.cls = true := by decide +kernel
theorem np_V_take : gj_np mt_V_take.y = some 1 := by decide +kernel
