def mt_JArraysSupport_newLength : Mt := (⟨"jdk/internal/util/ArraysSupport", "newLength", "(III)I"⟩, prog_37_method_27_code, 4, some .int, [])
def dl_JArraysSupport_newLength_b0 : List (Nat × Instr × Nat) := [(0, .iload_n 0, 1), (1, .iload_n 1, 1), (2, .iload_n 2, 1), (3, .invokestatic 194, 3), (6, .iadd, 1), (7, .istore_n 3, 1), (8, .iconst 0, 1), (9, .iload_n 3, 1), (10, .if_icmp .ge 11, 3), (13, .iload_n 3, 1), (14, .ldc 200, 2), (16, .if_icmp .gt 5, 3), (19, .iload_n 3, 1), (20, .ireturn, 1), (21, .iload_n 0, 1), (22, .iload_n 1, 1), (23, .invokestatic 201, 3), (26, .ireturn, 1)]
set_option maxRecDepth 100000 in
theorem dk_JArraysSupport_newLength_b0 : ∀ q ∈ dl_JArraysSupport_newLength_b0, decode mt_JArraysSupport_newLength.cc q.1 = .ok (q.2.1, q.2.2) := by decide +kernel
theorem dd_JArraysSupport_newLength_0 : decode mt_JArraysSupport_newLength.cc 0 = .ok (.iload_n 0, 1) := dk_JArraysSupport_newLength_b0 (0, .iload_n 0, 1) (List.mem_of_getElem? (i := 0) rfl)
theorem dd_JArraysSupport_newLength_1 : decode mt_JArraysSupport_newLength.cc 1 = .ok (.iload_n 1, 1) := dk_JArraysSupport_newLength_b0 (1, .iload_n 1, 1) (List.mem_of_getElem? (i := 1) rfl)
theorem dd_JArraysSupport_newLength_2 : decode mt_JArraysSupport_newLength.cc 2 = .ok (.iload_n 2, 1) := dk_JArraysSupport_newLength_b0 (2, .iload_n 2, 1) (List.mem_of_getElem? (i := 2) rfl)
theorem dd_JArraysSupport_newLength_3 : decode mt_JArraysSupport_newLength.cc 3 = .ok (.invokestatic 194, 3) := dk_JArraysSupport_newLength_b0 (3, .invokestatic 194, 3) (List.mem_of_getElem? (i := 3) rfl)
theorem dd_JArraysSupport_newLength_6 : decode mt_JArraysSupport_newLength.cc 6 = .ok (.iadd, 1) := dk_JArraysSupport_newLength_b0 (6, .iadd, 1) (List.mem_of_getElem? (i := 4) rfl)
theorem dd_JArraysSupport_newLength_7 : decode mt_JArraysSupport_newLength.cc 7 = .ok (.istore_n 3, 1) := dk_JArraysSupport_newLength_b0 (7, .istore_n 3, 1) (List.mem_of_getElem? (i := 5) rfl)
theorem dd_JArraysSupport_newLength_8 : decode mt_JArraysSupport_newLength.cc 8 = .ok (.iconst 0, 1) := dk_JArraysSupport_newLength_b0 (8, .iconst 0, 1) (List.mem_of_getElem? (i := 6) rfl)
theorem dd_JArraysSupport_newLength_9 : decode mt_JArraysSupport_newLength.cc 9 = .ok (.iload_n 3, 1) := dk_JArraysSupport_newLength_b0 (9, .iload_n 3, 1) (List.mem_of_getElem? (i := 7) rfl)
theorem dd_JArraysSupport_newLength_10 : decode mt_JArraysSupport_newLength.cc 10 = .ok (.if_icmp .ge 11, 3) := dk_JArraysSupport_newLength_b0 (10, .if_icmp .ge 11, 3) (List.mem_of_getElem? (i := 8) rfl)
theorem dd_JArraysSupport_newLength_13 : decode mt_JArraysSupport_newLength.cc 13 = .ok (.iload_n 3, 1) := dk_JArraysSupport_newLength_b0 (13, .iload_n 3, 1) (List.mem_of_getElem? (i := 9) rfl)
theorem dd_JArraysSupport_newLength_14 : decode mt_JArraysSupport_newLength.cc 14 = .ok (.ldc 200, 2) := dk_JArraysSupport_newLength_b0 (14, .ldc 200, 2) (List.mem_of_getElem? (i := 10) rfl)
theorem dd_JArraysSupport_newLength_16 : decode mt_JArraysSupport_newLength.cc 16 = .ok (.if_icmp .gt 5, 3) := dk_JArraysSupport_newLength_b0 (16, .if_icmp .gt 5, 3) (List.mem_of_getElem? (i := 11) rfl)
theorem dd_JArraysSupport_newLength_19 : decode mt_JArraysSupport_newLength.cc 19 = .ok (.iload_n 3, 1) := dk_JArraysSupport_newLength_b0 (19, .iload_n 3, 1) (List.mem_of_getElem? (i := 12) rfl)
theorem dd_JArraysSupport_newLength_20 : decode mt_JArraysSupport_newLength.cc 20 = .ok (.ireturn, 1) := dk_JArraysSupport_newLength_b0 (20, .ireturn, 1) (List.mem_of_getElem? (i := 13) rfl)
theorem dd_JArraysSupport_newLength_21 : decode mt_JArraysSupport_newLength.cc 21 = .ok (.iload_n 0, 1) := dk_JArraysSupport_newLength_b0 (21, .iload_n 0, 1) (List.mem_of_getElem? (i := 14) rfl)
theorem dd_JArraysSupport_newLength_22 : decode mt_JArraysSupport_newLength.cc 22 = .ok (.iload_n 1, 1) := dk_JArraysSupport_newLength_b0 (22, .iload_n 1, 1) (List.mem_of_getElem? (i := 15) rfl)
theorem dd_JArraysSupport_newLength_23 : decode mt_JArraysSupport_newLength.cc 23 = .ok (.invokestatic 201, 3) := dk_JArraysSupport_newLength_b0 (23, .invokestatic 201, 3) (List.mem_of_getElem? (i := 16) rfl)
theorem dd_JArraysSupport_newLength_26 : decode mt_JArraysSupport_newLength.cc 26 = .ok (.ireturn, 1) := dk_JArraysSupport_newLength_b0 (26, .ireturn, 1) (List.mem_of_getElem? (i := 17) rfl)
theorem cw_JArraysSupport_newLength : gj_cw mt_JArraysSupport_newLength ∈ tw_all := mw_1308
theorem pl_JArraysSupport_newLength : gj_plain mt_JArraysSupport_newLength.y := ⟨by decide +kernel, by decide +kernel⟩
theorem pn_JArraysSupport_newLength : plainName mt_JArraysSupport_newLength.y.cls = true := by decide +kernel
theorem np_JArraysSupport_newLength : gj_np mt_JArraysSupport_newLength.y = some 3 := by decide +kernel
def mt_JArraysSupport_hugeLength : Mt := (⟨"jdk/internal/util/ArraysSupport", "hugeLength", "(II)I"⟩, prog_37_method_28_code, 3, some .int, [])
def dl_JArraysSupport_hugeLength_b0 : List (Nat × Instr × Nat) := [(0, .iload_n 0, 1), (1, .iload_n 1, 1), (2, .iadd, 1), (3, .istore_n 2, 1), (4, .iload_n 2, 1), (5, .ifCond .ge 44, 3), (8, .new 204, 3), (11, .dup, 1), (12, .new 89, 3), (15, .dup, 1), (16, .invokespecial 91, 3), (19, .ldc 206, 2), (21, .invokevirtual 94, 3), (24, .iload_n 0, 1), (25, .invokevirtual 98, 3), (28, .ldc 208, 2), (30, .invokevirtual 94, 3), (33, .iload_n 1, 1), (34, .invokevirtual 98, 3), (37, .ldc 210, 2), (39, .invokevirtual 94, 3), (42, .invokevirtual 101, 3), (45, .invokespecial 212, 3), (48, .athrow, 1), (49, .iload_n 2, 1), (50, .ldc 200, 2), (52, .if_icmp .gt 6, 3), (55, .ldc 200, 2), (57, .ireturn, 1), (58, .iload_n 2, 1), (59, .ireturn, 1)]
set_option maxRecDepth 100000 in
theorem dk_JArraysSupport_hugeLength_b0 : ∀ q ∈ dl_JArraysSupport_hugeLength_b0, decode mt_JArraysSupport_hugeLength.cc q.1 = .ok (q.2.1, q.2.2) := by decide +kernel
theorem dd_JArraysSupport_hugeLength_0 : decode mt_JArraysSupport_hugeLength.cc 0 = .ok (.iload_n 0, 1) := dk_JArraysSupport_hugeLength_b0 (0, .iload_n 0, 1) (List.mem_of_getElem? (i := 0) rfl)
theorem dd_JArraysSupport_hugeLength_1 : decode mt_JArraysSupport_hugeLength.cc 1 = .ok (.iload_n 1, 1) := dk_JArraysSupport_hugeLength_b0 (1, .iload_n 1, 1) (List.mem_of_getElem? (i := 1) rfl)
theorem dd_JArraysSupport_hugeLength_2 : decode mt_JArraysSupport_hugeLength.cc 2 = .ok (.iadd, 1) := dk_JArraysSupport_hugeLength_b0 (2, .iadd, 1) (List.mem_of_getElem? (i := 2) rfl)
theorem dd_JArraysSupport_hugeLength_3 : decode mt_JArraysSupport_hugeLength.cc 3 = .ok (.istore_n 2, 1) := dk_JArraysSupport_hugeLength_b0 (3, .istore_n 2, 1) (List.mem_of_getElem? (i := 3) rfl)
theorem dd_JArraysSupport_hugeLength_4 : decode mt_JArraysSupport_hugeLength.cc 4 = .ok (.iload_n 2, 1) := dk_JArraysSupport_hugeLength_b0 (4, .iload_n 2, 1) (List.mem_of_getElem? (i := 4) rfl)
theorem dd_JArraysSupport_hugeLength_5 : decode mt_JArraysSupport_hugeLength.cc 5 = .ok (.ifCond .ge 44, 3) := dk_JArraysSupport_hugeLength_b0 (5, .ifCond .ge 44, 3) (List.mem_of_getElem? (i := 5) rfl)
theorem dd_JArraysSupport_hugeLength_8 : decode mt_JArraysSupport_hugeLength.cc 8 = .ok (.new 204, 3) := dk_JArraysSupport_hugeLength_b0 (8, .new 204, 3) (List.mem_of_getElem? (i := 6) rfl)
theorem dd_JArraysSupport_hugeLength_11 : decode mt_JArraysSupport_hugeLength.cc 11 = .ok (.dup, 1) := dk_JArraysSupport_hugeLength_b0 (11, .dup, 1) (List.mem_of_getElem? (i := 7) rfl)
theorem dd_JArraysSupport_hugeLength_12 : decode mt_JArraysSupport_hugeLength.cc 12 = .ok (.new 89, 3) := dk_JArraysSupport_hugeLength_b0 (12, .new 89, 3) (List.mem_of_getElem? (i := 8) rfl)
theorem dd_JArraysSupport_hugeLength_15 : decode mt_JArraysSupport_hugeLength.cc 15 = .ok (.dup, 1) := dk_JArraysSupport_hugeLength_b0 (15, .dup, 1) (List.mem_of_getElem? (i := 9) rfl)
theorem dd_JArraysSupport_hugeLength_16 : decode mt_JArraysSupport_hugeLength.cc 16 = .ok (.invokespecial 91, 3) := dk_JArraysSupport_hugeLength_b0 (16, .invokespecial 91, 3) (List.mem_of_getElem? (i := 10) rfl)
theorem dd_JArraysSupport_hugeLength_19 : decode mt_JArraysSupport_hugeLength.cc 19 = .ok (.ldc 206, 2) := dk_JArraysSupport_hugeLength_b0 (19, .ldc 206, 2) (List.mem_of_getElem? (i := 11) rfl)
theorem dd_JArraysSupport_hugeLength_21 : decode mt_JArraysSupport_hugeLength.cc 21 = .ok (.invokevirtual 94, 3) := dk_JArraysSupport_hugeLength_b0 (21, .invokevirtual 94, 3) (List.mem_of_getElem? (i := 12) rfl)
theorem dd_JArraysSupport_hugeLength_24 : decode mt_JArraysSupport_hugeLength.cc 24 = .ok (.iload_n 0, 1) := dk_JArraysSupport_hugeLength_b0 (24, .iload_n 0, 1) (List.mem_of_getElem? (i := 13) rfl)
theorem dd_JArraysSupport_hugeLength_25 : decode mt_JArraysSupport_hugeLength.cc 25 = .ok (.invokevirtual 98, 3) := dk_JArraysSupport_hugeLength_b0 (25, .invokevirtual 98, 3) (List.mem_of_getElem? (i := 14) rfl)
theorem dd_JArraysSupport_hugeLength_28 : decode mt_JArraysSupport_hugeLength.cc 28 = .ok (.ldc 208, 2) := dk_JArraysSupport_hugeLength_b0 (28, .ldc 208, 2) (List.mem_of_getElem? (i := 15) rfl)
theorem dd_JArraysSupport_hugeLength_30 : decode mt_JArraysSupport_hugeLength.cc 30 = .ok (.invokevirtual 94, 3) := dk_JArraysSupport_hugeLength_b0 (30, .invokevirtual 94, 3) (List.mem_of_getElem? (i := 16) rfl)
theorem dd_JArraysSupport_hugeLength_33 : decode mt_JArraysSupport_hugeLength.cc 33 = .ok (.iload_n 1, 1) := dk_JArraysSupport_hugeLength_b0 (33, .iload_n 1, 1) (List.mem_of_getElem? (i := 17) rfl)
theorem dd_JArraysSupport_hugeLength_34 : decode mt_JArraysSupport_hugeLength.cc 34 = .ok (.invokevirtual 98, 3) := dk_JArraysSupport_hugeLength_b0 (34, .invokevirtual 98, 3) (List.mem_of_getElem? (i := 18) rfl)
theorem dd_JArraysSupport_hugeLength_37 : decode mt_JArraysSupport_hugeLength.cc 37 = .ok (.ldc 210, 2) := dk_JArraysSupport_hugeLength_b0 (37, .ldc 210, 2) (List.mem_of_getElem? (i := 19) rfl)
theorem dd_JArraysSupport_hugeLength_39 : decode mt_JArraysSupport_hugeLength.cc 39 = .ok (.invokevirtual 94, 3) := dk_JArraysSupport_hugeLength_b0 (39, .invokevirtual 94, 3) (List.mem_of_getElem? (i := 20) rfl)
theorem dd_JArraysSupport_hugeLength_42 : decode mt_JArraysSupport_hugeLength.cc 42 = .ok (.invokevirtual 101, 3) := dk_JArraysSupport_hugeLength_b0 (42, .invokevirtual 101, 3) (List.mem_of_getElem? (i := 21) rfl)
theorem dd_JArraysSupport_hugeLength_45 : decode mt_JArraysSupport_hugeLength.cc 45 = .ok (.invokespecial 212, 3) := dk_JArraysSupport_hugeLength_b0 (45, .invokespecial 212, 3) (List.mem_of_getElem? (i := 22) rfl)
theorem dd_JArraysSupport_hugeLength_48 : decode mt_JArraysSupport_hugeLength.cc 48 = .ok (.athrow, 1) := dk_JArraysSupport_hugeLength_b0 (48, .athrow, 1) (List.mem_of_getElem? (i := 23) rfl)
theorem dd_JArraysSupport_hugeLength_49 : decode mt_JArraysSupport_hugeLength.cc 49 = .ok (.iload_n 2, 1) := dk_JArraysSupport_hugeLength_b0 (49, .iload_n 2, 1) (List.mem_of_getElem? (i := 24) rfl)
theorem dd_JArraysSupport_hugeLength_50 : decode mt_JArraysSupport_hugeLength.cc 50 = .ok (.ldc 200, 2) := dk_JArraysSupport_hugeLength_b0 (50, .ldc 200, 2) (List.mem_of_getElem? (i := 25) rfl)
theorem dd_JArraysSupport_hugeLength_52 : decode mt_JArraysSupport_hugeLength.cc 52 = .ok (.if_icmp .gt 6, 3) := dk_JArraysSupport_hugeLength_b0 (52, .if_icmp .gt 6, 3) (List.mem_of_getElem? (i := 26) rfl)
theorem dd_JArraysSupport_hugeLength_55 : decode mt_JArraysSupport_hugeLength.cc 55 = .ok (.ldc 200, 2) := dk_JArraysSupport_hugeLength_b0 (55, .ldc 200, 2) (List.mem_of_getElem? (i := 27) rfl)
theorem dd_JArraysSupport_hugeLength_57 : decode mt_JArraysSupport_hugeLength.cc 57 = .ok (.ireturn, 1) := dk_JArraysSupport_hugeLength_b0 (57, .ireturn, 1) (List.mem_of_getElem? (i := 28) rfl)
theorem dd_JArraysSupport_hugeLength_58 : decode mt_JArraysSupport_hugeLength.cc 58 = .ok (.iload_n 2, 1) := dk_JArraysSupport_hugeLength_b0 (58, .iload_n 2, 1) (List.mem_of_getElem? (i := 29) rfl)
theorem dd_JArraysSupport_hugeLength_59 : decode mt_JArraysSupport_hugeLength.cc 59 = .ok (.ireturn, 1) := dk_JArraysSupport_hugeLength_b0 (59, .ireturn, 1) (List.mem_of_getElem? (i := 30) rfl)
theorem cw_JArraysSupport_hugeLength : gj_cw mt_JArraysSupport_hugeLength ∈ tw_all := mw_1313
theorem pl_JArraysSupport_hugeLength : gj_plain mt_JArraysSupport_hugeLength.y := ⟨by decide +kernel, by decide +kernel⟩
theorem pn_JArraysSupport_hugeLength : plainName mt_JArraysSupport_hugeLength.y.cls = true := by decide +kernel
theorem np_JArraysSupport_hugeLength : gj_np mt_JArraysSupport_hugeLength.y = some 2 := by decide +kernel
