def mt_JPreconditions_checkIndex : Mt := (⟨"jdk/internal/util/Preconditions", "checkIndex", "(IILjava/util/function/BiFunction;)I"⟩, prog_38_method_11_code, 3, some .int, [])
def dl_JPreconditions_checkIndex_b0 : List (Nat × Instr × Nat) := [(0, .iload_n 0, 1), (1, .ifCond .lt 8, 3), (4, .iload_n 0, 1), (5, .iload_n 1, 1), (6, .if_icmp .lt 10, 3), (9, .aload_n 2, 1), (10, .iload_n 0, 1), (11, .iload_n 1, 1), (12, .invokestatic 95, 3), (15, .athrow, 1), (16, .iload_n 0, 1), (17, .ireturn, 1)]
set_option maxRecDepth 100000 in
theorem dk_JPreconditions_checkIndex_b0 : ∀ q ∈ dl_JPreconditions_checkIndex_b0, decode mt_JPreconditions_checkIndex.cc q.1 = .ok (q.2.1, q.2.2) := by decide +kernel
theorem dd_JPreconditions_checkIndex_0 : decode mt_JPreconditions_checkIndex.cc 0 = .ok (.iload_n 0, 1) := dk_JPreconditions_checkIndex_b0 (0, .iload_n 0, 1) (List.mem_of_getElem? (i := 0) rfl)
theorem dd_JPreconditions_checkIndex_1 : decode mt_JPreconditions_checkIndex.cc 1 = .ok (.ifCond .lt 8, 3) := dk_JPreconditions_checkIndex_b0 (1, .ifCond .lt 8, 3) (List.mem_of_getElem? (i := 1) rfl)
theorem dd_JPreconditions_checkIndex_4 : decode mt_JPreconditions_checkIndex.cc 4 = .ok (.iload_n 0, 1) := dk_JPreconditions_checkIndex_b0 (4, .iload_n 0, 1) (List.mem_of_getElem? (i := 2) rfl)
theorem dd_JPreconditions_checkIndex_5 : decode mt_JPreconditions_checkIndex.cc 5 = .ok (.iload_n 1, 1) := dk_JPreconditions_checkIndex_b0 (5, .iload_n 1, 1) (List.mem_of_getElem? (i := 3) rfl)
theorem dd_JPreconditions_checkIndex_6 : decode mt_JPreconditions_checkIndex.cc 6 = .ok (.if_icmp .lt 10, 3) := dk_JPreconditions_checkIndex_b0 (6, .if_icmp .lt 10, 3) (List.mem_of_getElem? (i := 4) rfl)
theorem dd_JPreconditions_checkIndex_9 : decode mt_JPreconditions_checkIndex.cc 9 = .ok (.aload_n 2, 1) := dk_JPreconditions_checkIndex_b0 (9, .aload_n 2, 1) (List.mem_of_getElem? (i := 5) rfl)
theorem dd_JPreconditions_checkIndex_10 : decode mt_JPreconditions_checkIndex.cc 10 = .ok (.iload_n 0, 1) := dk_JPreconditions_checkIndex_b0 (10, .iload_n 0, 1) (List.mem_of_getElem? (i := 6) rfl)
theorem dd_JPreconditions_checkIndex_11 : decode mt_JPreconditions_checkIndex.cc 11 = .ok (.iload_n 1, 1) := dk_JPreconditions_checkIndex_b0 (11, .iload_n 1, 1) (List.mem_of_getElem? (i := 7) rfl)
theorem dd_JPreconditions_checkIndex_12 : decode mt_JPreconditions_checkIndex.cc 12 = .ok (.invokestatic 95, 3) := dk_JPreconditions_checkIndex_b0 (12, .invokestatic 95, 3) (List.mem_of_getElem? (i := 8) rfl)
theorem dd_JPreconditions_checkIndex_15 : decode mt_JPreconditions_checkIndex.cc 15 = .ok (.athrow, 1) := dk_JPreconditions_checkIndex_b0 (15, .athrow, 1) (List.mem_of_getElem? (i := 9) rfl)
theorem dd_JPreconditions_checkIndex_16 : decode mt_JPreconditions_checkIndex.cc 16 = .ok (.iload_n 0, 1) := dk_JPreconditions_checkIndex_b0 (16, .iload_n 0, 1) (List.mem_of_getElem? (i := 10) rfl)
theorem dd_JPreconditions_checkIndex_17 : decode mt_JPreconditions_checkIndex.cc 17 = .ok (.ireturn, 1) := dk_JPreconditions_checkIndex_b0 (17, .ireturn, 1) (List.mem_of_getElem? (i := 11) rfl)
theorem cw_JPreconditions_checkIndex : gj_cw mt_JPreconditions_checkIndex ∈ tw_all := mw_477
theorem pl_JPreconditions_checkIndex : gj_plain mt_JPreconditions_checkIndex.y := ⟨by decide +kernel, by decide +kernel⟩
theorem pn_JPreconditions_checkIndex : plainName mt_JPreconditions_checkIndex.y.cls = true := by decide +kernel
theorem np_JPreconditions_checkIndex : gj_np mt_JPreconditions_checkIndex.y = some 3 := by decide +kernel
def mt_JPreconditions_checkFromIndexSize : Mt := (⟨"jdk/internal/util/Preconditions", "checkFromIndexSize", "(IIILjava/util/function/BiFunction;)I"⟩, prog_38_method_13_code, 4, some .int, [])
def dl_JPreconditions_checkFromIndexSize_b0 : List (Nat × Instr × Nat) := [(0, .iload_n 2, 1), (1, .iload_n 0, 1), (2, .ior, 1), (3, .iload_n 1, 1), (4, .ior, 1), (5, .ifCond .lt 10, 3), (8, .iload_n 1, 1), (9, .iload_n 2, 1), (10, .iload_n 0, 1), (11, .isub, 1), (12, .if_icmp .le 11, 3), (15, .aload_n 3, 1), (16, .iload_n 0, 1), (17, .iload_n 1, 1), (18, .iload_n 2, 1), (19, .invokestatic 103, 3), (22, .athrow, 1), (23, .iload_n 0, 1), (24, .ireturn, 1)]
set_option maxRecDepth 100000 in
theorem dk_JPreconditions_checkFromIndexSize_b0 : ∀ q ∈ dl_JPreconditions_checkFromIndexSize_b0, decode mt_JPreconditions_checkFromIndexSize.cc q.1 = .ok (q.2.1, q.2.2) := by decide +kernel
theorem dd_JPreconditions_checkFromIndexSize_0 : decode mt_JPreconditions_checkFromIndexSize.cc 0 = .ok (.iload_n 2, 1) := dk_JPreconditions_checkFromIndexSize_b0 (0, .iload_n 2, 1) (List.mem_of_getElem? (i := 0) rfl)
theorem dd_JPreconditions_checkFromIndexSize_1 : decode mt_JPreconditions_checkFromIndexSize.cc 1 = .ok (.iload_n 0, 1) := dk_JPreconditions_checkFromIndexSize_b0 (1, .iload_n 0, 1) (List.mem_of_getElem? (i := 1) rfl)
theorem dd_JPreconditions_checkFromIndexSize_2 : decode mt_JPreconditions_checkFromIndexSize.cc 2 = .ok (.ior, 1) := dk_JPreconditions_checkFromIndexSize_b0 (2, .ior, 1) (List.mem_of_getElem? (i := 2) rfl)
theorem dd_JPreconditions_checkFromIndexSize_3 : decode mt_JPreconditions_checkFromIndexSize.cc 3 = .ok (.iload_n 1, 1) := dk_JPreconditions_checkFromIndexSize_b0 (3, .iload_n 1, 1) (List.mem_of_getElem? (i := 3) rfl)
theorem dd_JPreconditions_checkFromIndexSize_4 : decode mt_JPreconditions_checkFromIndexSize.cc 4 = .ok (.ior, 1) := dk_JPreconditions_checkFromIndexSize_b0 (4, .ior, 1) (List.mem_of_getElem? (i := 4) rfl)
theorem dd_JPreconditions_checkFromIndexSize_5 : decode mt_JPreconditions_checkFromIndexSize.cc 5 = .ok (.ifCond .lt 10, 3) := dk_JPreconditions_checkFromIndexSize_b0 (5, .ifCond .lt 10, 3) (List.mem_of_getElem? (i := 5) rfl)
theorem dd_JPreconditions_checkFromIndexSize_8 : decode mt_JPreconditions_checkFromIndexSize.cc 8 = .ok (.iload_n 1, 1) := dk_JPreconditions_checkFromIndexSize_b0 (8, .iload_n 1, 1) (List.mem_of_getElem? (i := 6) rfl)
theorem dd_JPreconditions_checkFromIndexSize_9 : decode mt_JPreconditions_checkFromIndexSize.cc 9 = .ok (.iload_n 2, 1) := dk_JPreconditions_checkFromIndexSize_b0 (9, .iload_n 2, 1) (List.mem_of_getElem? (i := 7) rfl)
theorem dd_JPreconditions_checkFromIndexSize_10 : decode mt_JPreconditions_checkFromIndexSize.cc 10 = .ok (.iload_n 0, 1) := dk_JPreconditions_checkFromIndexSize_b0 (10, .iload_n 0, 1) (List.mem_of_getElem? (i := 8) rfl)
theorem dd_JPreconditions_checkFromIndexSize_11 : decode mt_JPreconditions_checkFromIndexSize.cc 11 = .ok (.isub, 1) := dk_JPreconditions_checkFromIndexSize_b0 (11, .isub, 1) (List.mem_of_getElem? (i := 9) rfl)
theorem dd_JPreconditions_checkFromIndexSize_12 : decode mt_JPreconditions_checkFromIndexSize.cc 12 = .ok (.if_icmp .le 11, 3) := dk_JPreconditions_checkFromIndexSize_b0 (12, .if_icmp .le 11, 3) (List.mem_of_getElem? (i := 10) rfl)
theorem dd_JPreconditions_checkFromIndexSize_15 : decode mt_JPreconditions_checkFromIndexSize.cc 15 = .ok (.aload_n 3, 1) := dk_JPreconditions_checkFromIndexSize_b0 (15, .aload_n 3, 1) (List.mem_of_getElem? (i := 11) rfl)
theorem dd_JPreconditions_checkFromIndexSize_16 : decode mt_JPreconditions_checkFromIndexSize.cc 16 = .ok (.iload_n 0, 1) := dk_JPreconditions_checkFromIndexSize_b0 (16, .iload_n 0, 1) (List.mem_of_getElem? (i := 12) rfl)
theorem dd_JPreconditions_checkFromIndexSize_17 : decode mt_JPreconditions_checkFromIndexSize.cc 17 = .ok (.iload_n 1, 1) := dk_JPreconditions_checkFromIndexSize_b0 (17, .iload_n 1, 1) (List.mem_of_getElem? (i := 13) rfl)
theorem dd_JPreconditions_checkFromIndexSize_18 : decode mt_JPreconditions_checkFromIndexSize.cc 18 = .ok (.iload_n 2, 1) := dk_JPreconditions_checkFromIndexSize_b0 (18, .iload_n 2, 1) (List.mem_of_getElem? (i := 14) rfl)
theorem dd_JPreconditions_checkFromIndexSize_19 : decode mt_JPreconditions_checkFromIndexSize.cc 19 = .ok (.invokestatic 103, 3) := dk_JPreconditions_checkFromIndexSize_b0 (19, .invokestatic 103, 3) (List.mem_of_getElem? (i := 15) rfl)
theorem dd_JPreconditions_checkFromIndexSize_22 : decode mt_JPreconditions_checkFromIndexSize.cc 22 = .ok (.athrow, 1) := dk_JPreconditions_checkFromIndexSize_b0 (22, .athrow, 1) (List.mem_of_getElem? (i := 16) rfl)
theorem dd_JPreconditions_checkFromIndexSize_23 : decode mt_JPreconditions_checkFromIndexSize.cc 23 = .ok (.iload_n 0, 1) := dk_JPreconditions_checkFromIndexSize_b0 (23, .iload_n 0, 1) (List.mem_of_getElem? (i := 17) rfl)
theorem dd_JPreconditions_checkFromIndexSize_24 : decode mt_JPreconditions_checkFromIndexSize.cc 24 = .ok (.ireturn, 1) := dk_JPreconditions_checkFromIndexSize_b0 (24, .ireturn, 1) (List.mem_of_getElem? (i := 18) rfl)
theorem cw_JPreconditions_checkFromIndexSize : gj_cw mt_JPreconditions_checkFromIndexSize ∈ tw_all := mw_1353
theorem pl_JPreconditions_checkFromIndexSize : gj_plain mt_JPreconditions_checkFromIndexSize.y := ⟨by decide +kernel, by decide +kernel⟩
theorem pn_JPreconditions_checkFromIndexSize : plainName mt_JPreconditions_checkFromIndexSize.y.cls = true := by decide +kernel
theorem np_JPreconditions_checkFromIndexSize : gj_np mt_JPreconditions_checkFromIndexSize.y = some 4 := by decide +kernel
def mt_JPreconditions_checkFromToIndex : Mt := (⟨"jdk/internal/util/Preconditions", "checkFromToIndex", "(IIILjava/util/function/BiFunction;)I"⟩, prog_38_method_12_code, 4, some .int, [])
def dl_JPreconditions_checkFromToIndex_b0 : List (Nat × Instr × Nat) := [(0, .iload_n 0, 1), (1, .ifCond .lt 13, 3), (4, .iload_n 0, 1), (5, .iload_n 1, 1), (6, .if_icmp .gt 8, 3), (9, .iload_n 1, 1), (10, .iload_n 2, 1), (11, .if_icmp .le 11, 3), (14, .aload_n 3, 1), (15, .iload_n 0, 1), (16, .iload_n 1, 1), (17, .iload_n 2, 1), (18, .invokestatic 99, 3), (21, .athrow, 1), (22, .iload_n 0, 1), (23, .ireturn, 1)]
set_option maxRecDepth 100000 in
theorem dk_JPreconditions_checkFromToIndex_b0 : ∀ q ∈ dl_JPreconditions_checkFromToIndex_b0, decode mt_JPreconditions_checkFromToIndex.cc q.1 = .ok (q.2.1, q.2.2) := by decide +kernel
theorem dd_JPreconditions_checkFromToIndex_0 : decode mt_JPreconditions_checkFromToIndex.cc 0 = .ok (.iload_n 0, 1) := dk_JPreconditions_checkFromToIndex_b0 (0, .iload_n 0, 1) (List.mem_of_getElem? (i := 0) rfl)
theorem dd_JPreconditions_checkFromToIndex_1 : decode mt_JPreconditions_checkFromToIndex.cc 1 = .ok (.ifCond .lt 13, 3) := dk_JPreconditions_checkFromToIndex_b0 (1, .ifCond .lt 13, 3) (List.mem_of_getElem? (i := 1) rfl)
theorem dd_JPreconditions_checkFromToIndex_4 : decode mt_JPreconditions_checkFromToIndex.cc 4 = .ok (.iload_n 0, 1) := dk_JPreconditions_checkFromToIndex_b0 (4, .iload_n 0, 1) (List.mem_of_getElem? (i := 2) rfl)
theorem dd_JPreconditions_checkFromToIndex_5 : decode mt_JPreconditions_checkFromToIndex.cc 5 = .ok (.iload_n 1, 1) := dk_JPreconditions_checkFromToIndex_b0 (5, .iload_n 1, 1) (List.mem_of_getElem? (i := 3) rfl)
theorem dd_JPreconditions_checkFromToIndex_6 : decode mt_JPreconditions_checkFromToIndex.cc 6 = .ok (.if_icmp .gt 8, 3) := dk_JPreconditions_checkFromToIndex_b0 (6, .if_icmp .gt 8, 3) (List.mem_of_getElem? (i := 4) rfl)
theorem dd_JPreconditions_checkFromToIndex_9 : decode mt_JPreconditions_checkFromToIndex.cc 9 = .ok (.iload_n 1, 1) := dk_JPreconditions_checkFromToIndex_b0 (9, .iload_n 1, 1) (List.mem_of_getElem? (i := 5) rfl)
theorem dd_JPreconditions_checkFromToIndex_10 : decode mt_JPreconditions_checkFromToIndex.cc 10 = .ok (.iload_n 2, 1) := dk_JPreconditions_checkFromToIndex_b0 (10, .iload_n 2, 1) (List.mem_of_getElem? (i := 6) rfl)
theorem dd_JPreconditions_checkFromToIndex_11 : decode mt_JPreconditions_checkFromToIndex.cc 11 = .ok (.if_icmp .le 11, 3) := dk_JPreconditions_checkFromToIndex_b0 (11, .if_icmp .le 11, 3) (List.mem_of_getElem? (i := 7) rfl)
theorem dd_JPreconditions_checkFromToIndex_14 : decode mt_JPreconditions_checkFromToIndex.cc 14 = .ok (.aload_n 3, 1) := dk_JPreconditions_checkFromToIndex_b0 (14, .aload_n 3, 1) (List.mem_of_getElem? (i := 8) rfl)
theorem dd_JPreconditions_checkFromToIndex_15 : decode mt_JPreconditions_checkFromToIndex.cc 15 = .ok (.iload_n 0, 1) := dk_JPreconditions_checkFromToIndex_b0 (15, .iload_n 0, 1) (List.mem_of_getElem? (i := 9) rfl)
theorem dd_JPreconditions_checkFromToIndex_16 : decode mt_JPreconditions_checkFromToIndex.cc 16 = .ok (.iload_n 1, 1) := dk_JPreconditions_checkFromToIndex_b0 (16, .iload_n 1, 1) (List.mem_of_getElem? (i := 10) rfl)
theorem dd_JPreconditions_checkFromToIndex_17 : decode mt_JPreconditions_checkFromToIndex.cc 17 = .ok (.iload_n 2, 1) := dk_JPreconditions_checkFromToIndex_b0 (17, .iload_n 2, 1) (List.mem_of_getElem? (i := 11) rfl)
theorem dd_JPreconditions_checkFromToIndex_18 : decode mt_JPreconditions_checkFromToIndex.cc 18 = .ok (.invokestatic 99, 3) := dk_JPreconditions_checkFromToIndex_b0 (18, .invokestatic 99, 3) (List.mem_of_getElem? (i := 12) rfl)
theorem dd_JPreconditions_checkFromToIndex_21 : decode mt_JPreconditions_checkFromToIndex.cc 21 = .ok (.athrow, 1) := dk_JPreconditions_checkFromToIndex_b0 (21, .athrow, 1) (List.mem_of_getElem? (i := 13) rfl)
theorem dd_JPreconditions_checkFromToIndex_22 : decode mt_JPreconditions_checkFromToIndex.cc 22 = .ok (.iload_n 0, 1) := dk_JPreconditions_checkFromToIndex_b0 (22, .iload_n 0, 1) (List.mem_of_getElem? (i := 14) rfl)
theorem dd_JPreconditions_checkFromToIndex_23 : decode mt_JPreconditions_checkFromToIndex.cc 23 = .ok (.ireturn, 1) := dk_JPreconditions_checkFromToIndex_b0 (23, .ireturn, 1) (List.mem_of_getElem? (i := 15) rfl)
theorem cw_JPreconditions_checkFromToIndex : gj_cw mt_JPreconditions_checkFromToIndex ∈ tw_all := mw_1427
theorem pl_JPreconditions_checkFromToIndex : gj_plain mt_JPreconditions_checkFromToIndex.y := ⟨by decide +kernel, by decide +kernel⟩
theorem pn_JPreconditions_checkFromToIndex : plainName mt_JPreconditions_checkFromToIndex.y.cls = true := by decide +kernel
theorem np_JPreconditions_checkFromToIndex : gj_np mt_JPreconditions_checkFromToIndex.y = some 4 := by decide +kernel
