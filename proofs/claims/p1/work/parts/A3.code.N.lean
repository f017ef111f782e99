def mt_N_init : Mt := (⟨"TruthBenchModel$N", "<init>", "()V"⟩, prog_13_method_1_code, 1, none, [])
def dl_N_init_b0 : List (Nat × Instr × Nat) := [(0, .aload_n 0, 1), (1, .invokespecial 1, 3), (4, .aload_n 0, 1), (5, .iconst 2, 1), (6, .anewarray 7, 3), (9, .putfield 9, 3), (12, .return_, 1)]
set_option maxRecDepth 100000 in
theorem dk_N_init_b0 : ∀ q ∈ dl_N_init_b0, decode mt_N_init.cc q.1 = .ok (q.2.1, q.2.2) := by decide +kernel
theorem dd_N_init_0 : decode mt_N_init.cc 0 = .ok (.aload_n 0, 1) := dk_N_init_b0 (0, .aload_n 0, 1) (List.mem_of_getElem? (i := 0) rfl)
theorem dd_N_init_1 : decode mt_N_init.cc 1 = .ok (.invokespecial 1, 3) := dk_N_init_b0 (1, .invokespecial 1, 3) (List.mem_of_getElem? (i := 1) rfl)
theorem dd_N_init_4 : decode mt_N_init.cc 4 = .ok (.aload_n 0, 1) := dk_N_init_b0 (4, .aload_n 0, 1) (List.mem_of_getElem? (i := 2) rfl)
theorem dd_N_init_5 : decode mt_N_init.cc 5 = .ok (.iconst 2, 1) := dk_N_init_b0 (5, .iconst 2, 1) (List.mem_of_getElem? (i := 3) rfl)
theorem dd_N_init_6 : decode mt_N_init.cc 6 = .ok (.anewarray 7, 3) := dk_N_init_b0 (6, .anewarray 7, 3) (List.mem_of_getElem? (i := 4) rfl)
theorem dd_N_init_9 : decode mt_N_init.cc 9 = .ok (.putfield 9, 3) := dk_N_init_b0 (9, .putfield 9, 3) (List.mem_of_getElem? (i := 5) rfl)
theorem dd_N_init_12 : decode mt_N_init.cc 12 = .ok (.return_, 1) := dk_N_init_b0 (12, .return_, 1) (List.mem_of_getElem? (i := 6) rfl)
theorem cw_N_init : gj_cw mt_N_init ∈ tw_all := mw_1646
theorem pl_N_init : gj_plain mt_N_init.y := ⟨by decide +kernel, by decide +kernel⟩
theorem pn_N_init : plainName mt_N_init.y.cls = true := by decide +kernel
theorem np_N_init : gj_np mt_N_init.y = some 0 := by decide +kernel
def mt_N_add : Mt := (⟨"TruthBenchModel$N", "add", "(LTruthBenchModel$N;)V"⟩, prog_13_method_2_code, 4, none, [])
def dl_N_add_b0 : List (Nat × Instr × Nat) := [(0, .aload_n 0, 1), (1, .getfield 13, 3), (4, .aload_n 0, 1), (5, .getfield 9, 3), (8, .arraylength, 1), (9, .if_icmp .ne 43, 3), (12, .iconst 2, 1), (13, .aload_n 0, 1), (14, .getfield 13, 3), (17, .imul, 1), (18, .anewarray 7, 3), (21, .astore_n 2, 1), (22, .iconst 0, 1), (23, .istore_n 3, 1), (24, .iload_n 3, 1), (25, .aload_n 0, 1), (26, .getfield 13, 3), (29, .if_icmp .ge 18, 3), (32, .aload_n 2, 1), (33, .iload_n 3, 1), (34, .aload_n 0, 1), (35, .getfield 9, 3), (38, .iload_n 3, 1), (39, .aaload, 1), (40, .aastore, 1), (41, .iinc 3 1, 3), (44, .goto (-20), 3), (47, .aload_n 0, 1), (48, .aload_n 2, 1), (49, .putfield 9, 3), (52, .aload_n 0, 1), (53, .getfield 9, 3), (56, .aload_n 0, 1), (57, .getfield 13, 3), (60, .aload_n 1, 1), (61, .aastore, 1), (62, .aload_n 0, 1), (63, .dup, 1), (64, .getfield 13, 3), (67, .iconst 1, 1), (68, .iadd, 1), (69, .putfield 13, 3), (72, .return_, 1)]
set_option maxRecDepth 100000 in
theorem dk_N_add_b0 : ∀ q ∈ dl_N_add_b0, decode mt_N_add.cc q.1 = .ok (q.2.1, q.2.2) := by decide +kernel
theorem dd_N_add_0 : decode mt_N_add.cc 0 = .ok (.aload_n 0, 1) := dk_N_add_b0 (0, .aload_n 0, 1) (List.mem_of_getElem? (i := 0) rfl)
theorem dd_N_add_1 : decode mt_N_add.cc 1 = .ok (.getfield 13, 3) := dk_N_add_b0 (1, .getfield 13, 3) (List.mem_of_getElem? (i := 1) rfl)
theorem dd_N_add_4 : decode mt_N_add.cc 4 = .ok (.aload_n 0, 1) := dk_N_add_b0 (4, .aload_n 0, 1) (List.mem_of_getElem? (i := 2) rfl)
theorem dd_N_add_5 : decode mt_N_add.cc 5 = .ok (.getfield 9, 3) := dk_N_add_b0 (5, .getfield 9, 3) (List.mem_of_getElem? (i := 3) rfl)
theorem dd_N_add_8 : decode mt_N_add.cc 8 = .ok (.arraylength, 1) := dk_N_add_b0 (8, .arraylength, 1) (List.mem_of_getElem? (i := 4) rfl)
theorem dd_N_add_9 : decode mt_N_add.cc 9 = .ok (.if_icmp .ne 43, 3) := dk_N_add_b0 (9, .if_icmp .ne 43, 3) (List.mem_of_getElem? (i := 5) rfl)
theorem dd_N_add_12 : decode mt_N_add.cc 12 = .ok (.iconst 2, 1) := dk_N_add_b0 (12, .iconst 2, 1) (List.mem_of_getElem? (i := 6) rfl)
theorem dd_N_add_13 : decode mt_N_add.cc 13 = .ok (.aload_n 0, 1) := dk_N_add_b0 (13, .aload_n 0, 1) (List.mem_of_getElem? (i := 7) rfl)
theorem dd_N_add_14 : decode mt_N_add.cc 14 = .ok (.getfield 13, 3) := dk_N_add_b0 (14, .getfield 13, 3) (List.mem_of_getElem? (i := 8) rfl)
theorem dd_N_add_17 : decode mt_N_add.cc 17 = .ok (.imul, 1) := dk_N_add_b0 (17, .imul, 1) (List.mem_of_getElem? (i := 9) rfl)
theorem dd_N_add_18 : decode mt_N_add.cc 18 = .ok (.anewarray 7, 3) := dk_N_add_b0 (18, .anewarray 7, 3) (List.mem_of_getElem? (i := 10) rfl)
theorem dd_N_add_21 : decode mt_N_add.cc 21 = .ok (.astore_n 2, 1) := dk_N_add_b0 (21, .astore_n 2, 1) (List.mem_of_getElem? (i := 11) rfl)
theorem dd_N_add_22 : decode mt_N_add.cc 22 = .ok (.iconst 0, 1) := dk_N_add_b0 (22, .iconst 0, 1) (List.mem_of_getElem? (i := 12) rfl)
theorem dd_N_add_23 : decode mt_N_add.cc 23 = .ok (.istore_n 3, 1) := dk_N_add_b0 (23, .istore_n 3, 1) (List.mem_of_getElem? (i := 13) rfl)
theorem dd_N_add_24 : decode mt_N_add.cc 24 = .ok (.iload_n 3, 1) := dk_N_add_b0 (24, .iload_n 3, 1) (List.mem_of_getElem? (i := 14) rfl)
theorem dd_N_add_25 : decode mt_N_add.cc 25 = .ok (.aload_n 0, 1) := dk_N_add_b0 (25, .aload_n 0, 1) (List.mem_of_getElem? (i := 15) rfl)
theorem dd_N_add_26 : decode mt_N_add.cc 26 = .ok (.getfield 13, 3) := dk_N_add_b0 (26, .getfield 13, 3) (List.mem_of_getElem? (i := 16) rfl)
theorem dd_N_add_29 : decode mt_N_add.cc 29 = .ok (.if_icmp .ge 18, 3) := dk_N_add_b0 (29, .if_icmp .ge 18, 3) (List.mem_of_getElem? (i := 17) rfl)
theorem dd_N_add_32 : decode mt_N_add.cc 32 = .ok (.aload_n 2, 1) := dk_N_add_b0 (32, .aload_n 2, 1) (List.mem_of_getElem? (i := 18) rfl)
theorem dd_N_add_33 : decode mt_N_add.cc 33 = .ok (.iload_n 3, 1) := dk_N_add_b0 (33, .iload_n 3, 1) (List.mem_of_getElem? (i := 19) rfl)
theorem dd_N_add_34 : decode mt_N_add.cc 34 = .ok (.aload_n 0, 1) := dk_N_add_b0 (34, .aload_n 0, 1) (List.mem_of_getElem? (i := 20) rfl)
theorem dd_N_add_35 : decode mt_N_add.cc 35 = .ok (.getfield 9, 3) := dk_N_add_b0 (35, .getfield 9, 3) (List.mem_of_getElem? (i := 21) rfl)
theorem dd_N_add_38 : decode mt_N_add.cc 38 = .ok (.iload_n 3, 1) := dk_N_add_b0 (38, .iload_n 3, 1) (List.mem_of_getElem? (i := 22) rfl)
theorem dd_N_add_39 : decode mt_N_add.cc 39 = .ok (.aaload, 1) := dk_N_add_b0 (39, .aaload, 1) (List.mem_of_getElem? (i := 23) rfl)
theorem dd_N_add_40 : decode mt_N_add.cc 40 = .ok (.aastore, 1) := dk_N_add_b0 (40, .aastore, 1) (List.mem_of_getElem? (i := 24) rfl)
theorem dd_N_add_41 : decode mt_N_add.cc 41 = .ok (.iinc 3 1, 3) := dk_N_add_b0 (41, .iinc 3 1, 3) (List.mem_of_getElem? (i := 25) rfl)
theorem dd_N_add_44 : decode mt_N_add.cc 44 = .ok (.goto (-20), 3) := dk_N_add_b0 (44, .goto (-20), 3) (List.mem_of_getElem? (i := 26) rfl)
theorem dd_N_add_47 : decode mt_N_add.cc 47 = .ok (.aload_n 0, 1) := dk_N_add_b0 (47, .aload_n 0, 1) (List.mem_of_getElem? (i := 27) rfl)
theorem dd_N_add_48 : decode mt_N_add.cc 48 = .ok (.aload_n 2, 1) := dk_N_add_b0 (48, .aload_n 2, 1) (List.mem_of_getElem? (i := 28) rfl)
theorem dd_N_add_49 : decode mt_N_add.cc 49 = .ok (.putfield 9, 3) := dk_N_add_b0 (49, .putfield 9, 3) (List.mem_of_getElem? (i := 29) rfl)
theorem dd_N_add_52 : decode mt_N_add.cc 52 = .ok (.aload_n 0, 1) := dk_N_add_b0 (52, .aload_n 0, 1) (List.mem_of_getElem? (i := 30) rfl)
theorem dd_N_add_53 : decode mt_N_add.cc 53 = .ok (.getfield 9, 3) := dk_N_add_b0 (53, .getfield 9, 3) (List.mem_of_getElem? (i := 31) rfl)
theorem dd_N_add_56 : decode mt_N_add.cc 56 = .ok (.aload_n 0, 1) := dk_N_add_b0 (56, .aload_n 0, 1) (List.mem_of_getElem? (i := 32) rfl)
theorem dd_N_add_57 : decode mt_N_add.cc 57 = .ok (.getfield 13, 3) := dk_N_add_b0 (57, .getfield 13, 3) (List.mem_of_getElem? (i := 33) rfl)
theorem dd_N_add_60 : decode mt_N_add.cc 60 = .ok (.aload_n 1, 1) := dk_N_add_b0 (60, .aload_n 1, 1) (List.mem_of_getElem? (i := 34) rfl)
theorem dd_N_add_61 : decode mt_N_add.cc 61 = .ok (.aastore, 1) := dk_N_add_b0 (61, .aastore, 1) (List.mem_of_getElem? (i := 35) rfl)
theorem dd_N_add_62 : decode mt_N_add.cc 62 = .ok (.aload_n 0, 1) := dk_N_add_b0 (62, .aload_n 0, 1) (List.mem_of_getElem? (i := 36) rfl)
theorem dd_N_add_63 : decode mt_N_add.cc 63 = .ok (.dup, 1) := dk_N_add_b0 (63, .dup, 1) (List.mem_of_getElem? (i := 37) rfl)
theorem dd_N_add_64 : decode mt_N_add.cc 64 = .ok (.getfield 13, 3) := dk_N_add_b0 (64, .getfield 13, 3) (List.mem_of_getElem? (i := 38) rfl)
theorem dd_N_add_67 : decode mt_N_add.cc 67 = .ok (.iconst 1, 1) := dk_N_add_b0 (67, .iconst 1, 1) (List.mem_of_getElem? (i := 39) rfl)
theorem dd_N_add_68 : decode mt_N_add.cc 68 = .ok (.iadd, 1) := dk_N_add_b0 (68, .iadd, 1) (List.mem_of_getElem? (i := 40) rfl)
theorem dd_N_add_69 : decode mt_N_add.cc 69 = .ok (.putfield 13, 3) := dk_N_add_b0 (69, .putfield 13, 3) (List.mem_of_getElem? (i := 41) rfl)
theorem dd_N_add_72 : decode mt_N_add.cc 72 = .ok (.return_, 1) := dk_N_add_b0 (72, .return_, 1) (List.mem_of_getElem? (i := 42) rfl)
theorem cw_N_add : gj_cw mt_N_add ∈ tw_all := mw_1690
theorem pl_N_add : gj_plain mt_N_add.y := ⟨by decide +kernel, by decide +kernel⟩
theorem pn_N_add : plainName mt_N_add.y.cls = true := by decide +kernel
theorem np_N_add : gj_np mt_N_add.y = some 1 := by decide +kernel
