def mt_JArrays_copyOf : Mt := (⟨"java/util/Arrays", "copyOf", "([BI)[B"⟩, prog_36_method_121_code, 3, some (.array .byte), [])
def dl_JArrays_copyOf_b0 : List (Nat × Instr × Nat) := [(0, .iload_n 1, 1), (1, .aload_n 0, 1), (2, .arraylength, 1), (3, .if_icmp .ne 11, 3), (6, .aload_n 0, 1), (7, .invokevirtual 310, 3), (10, .checkcast 311, 3), (13, .areturn, 1), (14, .iload_n 1, 1), (15, .newarray .byte, 2), (17, .astore_n 2, 1), (18, .aload_n 0, 1), (19, .iconst 0, 1), (20, .aload_n 2, 1), (21, .iconst 0, 1), (22, .aload_n 0, 1), (23, .arraylength, 1), (24, .iload_n 1, 1), (25, .invokestatic 304, 3), (28, .invokestatic 150, 3), (31, .aload_n 2, 1), (32, .areturn, 1)]
set_option maxRecDepth 100000 in
theorem dk_JArrays_copyOf_b0 : ∀ q ∈ dl_JArrays_copyOf_b0, decode mt_JArrays_copyOf.cc q.1 = .ok (q.2.1, q.2.2) := by decide +kernel
theorem dd_JArrays_copyOf_0 : decode mt_JArrays_copyOf.cc 0 = .ok (.iload_n 1, 1) := dk_JArrays_copyOf_b0 (0, .iload_n 1, 1) (List.mem_of_getElem? (i := 0) rfl)
theorem dd_JArrays_copyOf_1 : decode mt_JArrays_copyOf.cc 1 = .ok (.aload_n 0, 1) := dk_JArrays_copyOf_b0 (1, .aload_n 0, 1) (List.mem_of_getElem? (i := 1) rfl)
theorem dd_JArrays_copyOf_2 : decode mt_JArrays_copyOf.cc 2 = .ok (.arraylength, 1) := dk_JArrays_copyOf_b0 (2, .arraylength, 1) (List.mem_of_getElem? (i := 2) rfl)
theorem dd_JArrays_copyOf_3 : decode mt_JArrays_copyOf.cc 3 = .ok (.if_icmp .ne 11, 3) := dk_JArrays_copyOf_b0 (3, .if_icmp .ne 11, 3) (List.mem_of_getElem? (i := 3) rfl)
theorem dd_JArrays_copyOf_6 : decode mt_JArrays_copyOf.cc 6 = .ok (.aload_n 0, 1) := dk_JArrays_copyOf_b0 (6, .aload_n 0, 1) (List.mem_of_getElem? (i := 4) rfl)
theorem dd_JArrays_copyOf_7 : decode mt_JArrays_copyOf.cc 7 = .ok (.invokevirtual 310, 3) := dk_JArrays_copyOf_b0 (7, .invokevirtual 310, 3) (List.mem_of_getElem? (i := 5) rfl)
theorem dd_JArrays_copyOf_10 : decode mt_JArrays_copyOf.cc 10 = .ok (.checkcast 311, 3) := dk_JArrays_copyOf_b0 (10, .checkcast 311, 3) (List.mem_of_getElem? (i := 6) rfl)
theorem dd_JArrays_copyOf_13 : decode mt_JArrays_copyOf.cc 13 = .ok (.areturn, 1) := dk_JArrays_copyOf_b0 (13, .areturn, 1) (List.mem_of_getElem? (i := 7) rfl)
theorem dd_JArrays_copyOf_14 : decode mt_JArrays_copyOf.cc 14 = .ok (.iload_n 1, 1) := dk_JArrays_copyOf_b0 (14, .iload_n 1, 1) (List.mem_of_getElem? (i := 8) rfl)
theorem dd_JArrays_copyOf_15 : decode mt_JArrays_copyOf.cc 15 = .ok (.newarray .byte, 2) := dk_JArrays_copyOf_b0 (15, .newarray .byte, 2) (List.mem_of_getElem? (i := 9) rfl)
theorem dd_JArrays_copyOf_17 : decode mt_JArrays_copyOf.cc 17 = .ok (.astore_n 2, 1) := dk_JArrays_copyOf_b0 (17, .astore_n 2, 1) (List.mem_of_getElem? (i := 10) rfl)
theorem dd_JArrays_copyOf_18 : decode mt_JArrays_copyOf.cc 18 = .ok (.aload_n 0, 1) := dk_JArrays_copyOf_b0 (18, .aload_n 0, 1) (List.mem_of_getElem? (i := 11) rfl)
theorem dd_JArrays_copyOf_19 : decode mt_JArrays_copyOf.cc 19 = .ok (.iconst 0, 1) := dk_JArrays_copyOf_b0 (19, .iconst 0, 1) (List.mem_of_getElem? (i := 12) rfl)
theorem dd_JArrays_copyOf_20 : decode mt_JArrays_copyOf.cc 20 = .ok (.aload_n 2, 1) := dk_JArrays_copyOf_b0 (20, .aload_n 2, 1) (List.mem_of_getElem? (i := 13) rfl)
theorem dd_JArrays_copyOf_21 : decode mt_JArrays_copyOf.cc 21 = .ok (.iconst 0, 1) := dk_JArrays_copyOf_b0 (21, .iconst 0, 1) (List.mem_of_getElem? (i := 14) rfl)
theorem dd_JArrays_copyOf_22 : decode mt_JArrays_copyOf.cc 22 = .ok (.aload_n 0, 1) := dk_JArrays_copyOf_b0 (22, .aload_n 0, 1) (List.mem_of_getElem? (i := 15) rfl)
theorem dd_JArrays_copyOf_23 : decode mt_JArrays_copyOf.cc 23 = .ok (.arraylength, 1) := dk_JArrays_copyOf_b0 (23, .arraylength, 1) (List.mem_of_getElem? (i := 16) rfl)
theorem dd_JArrays_copyOf_24 : decode mt_JArrays_copyOf.cc 24 = .ok (.iload_n 1, 1) := dk_JArrays_copyOf_b0 (24, .iload_n 1, 1) (List.mem_of_getElem? (i := 17) rfl)
theorem dd_JArrays_copyOf_25 : decode mt_JArrays_copyOf.cc 25 = .ok (.invokestatic 304, 3) := dk_JArrays_copyOf_b0 (25, .invokestatic 304, 3) (List.mem_of_getElem? (i := 18) rfl)
theorem dd_JArrays_copyOf_28 : decode mt_JArrays_copyOf.cc 28 = .ok (.invokestatic 150, 3) := dk_JArrays_copyOf_b0 (28, .invokestatic 150, 3) (List.mem_of_getElem? (i := 19) rfl)
theorem dd_JArrays_copyOf_31 : decode mt_JArrays_copyOf.cc 31 = .ok (.aload_n 2, 1) := dk_JArrays_copyOf_b0 (31, .aload_n 2, 1) (List.mem_of_getElem? (i := 20) rfl)
theorem dd_JArrays_copyOf_32 : decode mt_JArrays_copyOf.cc 32 = .ok (.areturn, 1) := dk_JArrays_copyOf_b0 (32, .areturn, 1) (List.mem_of_getElem? (i := 21) rfl)
theorem cw_JArrays_copyOf : gj_cw mt_JArrays_copyOf ∈ tw_all := mw_1317
theorem pl_JArrays_copyOf : gj_plain mt_JArrays_copyOf.y := ⟨by decide +kernel, by decide +kernel⟩
theorem pn_JArrays_copyOf : plainName mt_JArrays_copyOf.y.cls = true := by decide +kernel
theorem np_JArrays_copyOf : gj_np mt_JArrays_copyOf.y = some 2 := by decide +kernel
def mt_JArrays_copyOfRange : Mt := (⟨"java/util/Arrays", "copyOfRange", "([BII)[B"⟩, prog_36_method_132_code, 3, some (.array .byte), [])
def dl_JArrays_copyOfRange_b0 : List (Nat × Instr × Nat) := [(0, .iload_n 1, 1), (1, .ifCond .ne 9, 3), (4, .iload_n 2, 1), (5, .aload_n 0, 1), (6, .arraylength, 1), (7, .if_icmp .eq 10, 3), (10, .aload_n 0, 1), (11, .iload_n 1, 1), (12, .iload_n 2, 1), (13, .invokestatic 339, 3), (16, .areturn, 1), (17, .aload_n 0, 1), (18, .invokevirtual 310, 3), (21, .checkcast 311, 3), (24, .areturn, 1)]
set_option maxRecDepth 100000 in
theorem dk_JArrays_copyOfRange_b0 : ∀ q ∈ dl_JArrays_copyOfRange_b0, decode mt_JArrays_copyOfRange.cc q.1 = .ok (q.2.1, q.2.2) := by decide +kernel
theorem dd_JArrays_copyOfRange_0 : decode mt_JArrays_copyOfRange.cc 0 = .ok (.iload_n 1, 1) := dk_JArrays_copyOfRange_b0 (0, .iload_n 1, 1) (List.mem_of_getElem? (i := 0) rfl)
theorem dd_JArrays_copyOfRange_1 : decode mt_JArrays_copyOfRange.cc 1 = .ok (.ifCond .ne 9, 3) := dk_JArrays_copyOfRange_b0 (1, .ifCond .ne 9, 3) (List.mem_of_getElem? (i := 1) rfl)
theorem dd_JArrays_copyOfRange_4 : decode mt_JArrays_copyOfRange.cc 4 = .ok (.iload_n 2, 1) := dk_JArrays_copyOfRange_b0 (4, .iload_n 2, 1) (List.mem_of_getElem? (i := 2) rfl)
theorem dd_JArrays_copyOfRange_5 : decode mt_JArrays_copyOfRange.cc 5 = .ok (.aload_n 0, 1) := dk_JArrays_copyOfRange_b0 (5, .aload_n 0, 1) (List.mem_of_getElem? (i := 3) rfl)
theorem dd_JArrays_copyOfRange_6 : decode mt_JArrays_copyOfRange.cc 6 = .ok (.arraylength, 1) := dk_JArrays_copyOfRange_b0 (6, .arraylength, 1) (List.mem_of_getElem? (i := 4) rfl)
theorem dd_JArrays_copyOfRange_7 : decode mt_JArrays_copyOfRange.cc 7 = .ok (.if_icmp .eq 10, 3) := dk_JArrays_copyOfRange_b0 (7, .if_icmp .eq 10, 3) (List.mem_of_getElem? (i := 5) rfl)
theorem dd_JArrays_copyOfRange_10 : decode mt_JArrays_copyOfRange.cc 10 = .ok (.aload_n 0, 1) := dk_JArrays_copyOfRange_b0 (10, .aload_n 0, 1) (List.mem_of_getElem? (i := 6) rfl)
theorem dd_JArrays_copyOfRange_11 : decode mt_JArrays_copyOfRange.cc 11 = .ok (.iload_n 1, 1) := dk_JArrays_copyOfRange_b0 (11, .iload_n 1, 1) (List.mem_of_getElem? (i := 7) rfl)
theorem dd_JArrays_copyOfRange_12 : decode mt_JArrays_copyOfRange.cc 12 = .ok (.iload_n 2, 1) := dk_JArrays_copyOfRange_b0 (12, .iload_n 2, 1) (List.mem_of_getElem? (i := 8) rfl)
theorem dd_JArrays_copyOfRange_13 : decode mt_JArrays_copyOfRange.cc 13 = .ok (.invokestatic 339, 3) := dk_JArrays_copyOfRange_b0 (13, .invokestatic 339, 3) (List.mem_of_getElem? (i := 9) rfl)
theorem dd_JArrays_copyOfRange_16 : decode mt_JArrays_copyOfRange.cc 16 = .ok (.areturn, 1) := dk_JArrays_copyOfRange_b0 (16, .areturn, 1) (List.mem_of_getElem? (i := 10) rfl)
theorem dd_JArrays_copyOfRange_17 : decode mt_JArrays_copyOfRange.cc 17 = .ok (.aload_n 0, 1) := dk_JArrays_copyOfRange_b0 (17, .aload_n 0, 1) (List.mem_of_getElem? (i := 11) rfl)
theorem dd_JArrays_copyOfRange_18 : decode mt_JArrays_copyOfRange.cc 18 = .ok (.invokevirtual 310, 3) := dk_JArrays_copyOfRange_b0 (18, .invokevirtual 310, 3) (List.mem_of_getElem? (i := 12) rfl)
theorem dd_JArrays_copyOfRange_21 : decode mt_JArrays_copyOfRange.cc 21 = .ok (.checkcast 311, 3) := dk_JArrays_copyOfRange_b0 (21, .checkcast 311, 3) (List.mem_of_getElem? (i := 13) rfl)
theorem dd_JArrays_copyOfRange_24 : decode mt_JArrays_copyOfRange.cc 24 = .ok (.areturn, 1) := dk_JArrays_copyOfRange_b0 (24, .areturn, 1) (List.mem_of_getElem? (i := 14) rfl)
theorem cw_JArrays_copyOfRange : gj_cw mt_JArrays_copyOfRange ∈ tw_all := mw_1389
theorem pl_JArrays_copyOfRange : gj_plain mt_JArrays_copyOfRange.y := ⟨by decide +kernel, by decide +kernel⟩
theorem pn_JArrays_copyOfRange : plainName mt_JArrays_copyOfRange.y.cls = true := by decide +kernel
theorem np_JArrays_copyOfRange : gj_np mt_JArrays_copyOfRange.y = some 3 := by decide +kernel
def mt_JArrays_copyOfRangeByte : Mt := (⟨"java/util/Arrays", "copyOfRangeByte", "([BII)[B"⟩, prog_36_method_133_code, 5, some (.array .byte), [])
def dl_JArrays_copyOfRangeByte_b0 : List (Nat × Instr × Nat) := [(0, .iload_n 1, 1), (1, .iload_n 2, 1), (2, .invokestatic 343, 3), (5, .iload_n 2, 1), (6, .iload_n 1, 1), (7, .isub, 1), (8, .istore_n 3, 1), (9, .iload_n 3, 1), (10, .newarray .byte, 2), (12, .astore 4, 2), (14, .aload_n 0, 1), (15, .iload_n 1, 1), (16, .aload 4, 2), (18, .iconst 0, 1), (19, .aload_n 0, 1), (20, .arraylength, 1), (21, .iload_n 1, 1), (22, .isub, 1), (23, .iload_n 3, 1), (24, .invokestatic 304, 3), (27, .invokestatic 150, 3), (30, .aload 4, 2), (32, .areturn, 1)]
set_option maxRecDepth 100000 in
theorem dk_JArrays_copyOfRangeByte_b0 : ∀ q ∈ dl_JArrays_copyOfRangeByte_b0, decode mt_JArrays_copyOfRangeByte.cc q.1 = .ok (q.2.1, q.2.2) := by decide +kernel
theorem dd_JArrays_copyOfRangeByte_0 : decode mt_JArrays_copyOfRangeByte.cc 0 = .ok (.iload_n 1, 1) := dk_JArrays_copyOfRangeByte_b0 (0, .iload_n 1, 1) (List.mem_of_getElem? (i := 0) rfl)
theorem dd_JArrays_copyOfRangeByte_1 : decode mt_JArrays_copyOfRangeByte.cc 1 = .ok (.iload_n 2, 1) := dk_JArrays_copyOfRangeByte_b0 (1, .iload_n 2, 1) (List.mem_of_getElem? (i := 1) rfl)
theorem dd_JArrays_copyOfRangeByte_2 : decode mt_JArrays_copyOfRangeByte.cc 2 = .ok (.invokestatic 343, 3) := dk_JArrays_copyOfRangeByte_b0 (2, .invokestatic 343, 3) (List.mem_of_getElem? (i := 2) rfl)
theorem dd_JArrays_copyOfRangeByte_5 : decode mt_JArrays_copyOfRangeByte.cc 5 = .ok (.iload_n 2, 1) := dk_JArrays_copyOfRangeByte_b0 (5, .iload_n 2, 1) (List.mem_of_getElem? (i := 3) rfl)
theorem dd_JArrays_copyOfRangeByte_6 : decode mt_JArrays_copyOfRangeByte.cc 6 = .ok (.iload_n 1, 1) := dk_JArrays_copyOfRangeByte_b0 (6, .iload_n 1, 1) (List.mem_of_getElem? (i := 4) rfl)
theorem dd_JArrays_copyOfRangeByte_7 : decode mt_JArrays_copyOfRangeByte.cc 7 = .ok (.isub, 1) := dk_JArrays_copyOfRangeByte_b0 (7, .isub, 1) (List.mem_of_getElem? (i := 5) rfl)
theorem dd_JArrays_copyOfRangeByte_8 : decode mt_JArrays_copyOfRangeByte.cc 8 = .ok (.istore_n 3, 1) := dk_JArrays_copyOfRangeByte_b0 (8, .istore_n 3, 1) (List.mem_of_getElem? (i := 6) rfl)
theorem dd_JArrays_copyOfRangeByte_9 : decode mt_JArrays_copyOfRangeByte.cc 9 = .ok (.iload_n 3, 1) := dk_JArrays_copyOfRangeByte_b0 (9, .iload_n 3, 1) (List.mem_of_getElem? (i := 7) rfl)
theorem dd_JArrays_copyOfRangeByte_10 : decode mt_JArrays_copyOfRangeByte.cc 10 = .ok (.newarray .byte, 2) := dk_JArrays_copyOfRangeByte_b0 (10, .newarray .byte, 2) (List.mem_of_getElem? (i := 8) rfl)
theorem dd_JArrays_copyOfRangeByte_12 : decode mt_JArrays_copyOfRangeByte.cc 12 = .ok (.astore 4, 2) := dk_JArrays_copyOfRangeByte_b0 (12, .astore 4, 2) (List.mem_of_getElem? (i := 9) rfl)
theorem dd_JArrays_copyOfRangeByte_14 : decode mt_JArrays_copyOfRangeByte.cc 14 = .ok (.aload_n 0, 1) := dk_JArrays_copyOfRangeByte_b0 (14, .aload_n 0, 1) (List.mem_of_getElem? (i := 10) rfl)
theorem dd_JArrays_copyOfRangeByte_15 : decode mt_JArrays_copyOfRangeByte.cc 15 = .ok (.iload_n 1, 1) := dk_JArrays_copyOfRangeByte_b0 (15, .iload_n 1, 1) (List.mem_of_getElem? (i := 11) rfl)
theorem dd_JArrays_copyOfRangeByte_16 : decode mt_JArrays_copyOfRangeByte.cc 16 = .ok (.aload 4, 2) := dk_JArrays_copyOfRangeByte_b0 (16, .aload 4, 2) (List.mem_of_getElem? (i := 12) rfl)
theorem dd_JArrays_copyOfRangeByte_18 : decode mt_JArrays_copyOfRangeByte.cc 18 = .ok (.iconst 0, 1) := dk_JArrays_copyOfRangeByte_b0 (18, .iconst 0, 1) (List.mem_of_getElem? (i := 13) rfl)
theorem dd_JArrays_copyOfRangeByte_19 : decode mt_JArrays_copyOfRangeByte.cc 19 = .ok (.aload_n 0, 1) := dk_JArrays_copyOfRangeByte_b0 (19, .aload_n 0, 1) (List.mem_of_getElem? (i := 14) rfl)
theorem dd_JArrays_copyOfRangeByte_20 : decode mt_JArrays_copyOfRangeByte.cc 20 = .ok (.arraylength, 1) := dk_JArrays_copyOfRangeByte_b0 (20, .arraylength, 1) (List.mem_of_getElem? (i := 15) rfl)
theorem dd_JArrays_copyOfRangeByte_21 : decode mt_JArrays_copyOfRangeByte.cc 21 = .ok (.iload_n 1, 1) := dk_JArrays_copyOfRangeByte_b0 (21, .iload_n 1, 1) (List.mem_of_getElem? (i := 16) rfl)
theorem dd_JArrays_copyOfRangeByte_22 : decode mt_JArrays_copyOfRangeByte.cc 22 = .ok (.isub, 1) := dk_JArrays_copyOfRangeByte_b0 (22, .isub, 1) (List.mem_of_getElem? (i := 17) rfl)
theorem dd_JArrays_copyOfRangeByte_23 : decode mt_JArrays_copyOfRangeByte.cc 23 = .ok (.iload_n 3, 1) := dk_JArrays_copyOfRangeByte_b0 (23, .iload_n 3, 1) (List.mem_of_getElem? (i := 18) rfl)
theorem dd_JArrays_copyOfRangeByte_24 : decode mt_JArrays_copyOfRangeByte.cc 24 = .ok (.invokestatic 304, 3) := dk_JArrays_copyOfRangeByte_b0 (24, .invokestatic 304, 3) (List.mem_of_getElem? (i := 19) rfl)
theorem dd_JArrays_copyOfRangeByte_27 : decode mt_JArrays_copyOfRangeByte.cc 27 = .ok (.invokestatic 150, 3) := dk_JArrays_copyOfRangeByte_b0 (27, .invokestatic 150, 3) (List.mem_of_getElem? (i := 20) rfl)
theorem dd_JArrays_copyOfRangeByte_30 : decode mt_JArrays_copyOfRangeByte.cc 30 = .ok (.aload 4, 2) := dk_JArrays_copyOfRangeByte_b0 (30, .aload 4, 2) (List.mem_of_getElem? (i := 21) rfl)
theorem dd_JArrays_copyOfRangeByte_32 : decode mt_JArrays_copyOfRangeByte.cc 32 = .ok (.areturn, 1) := dk_JArrays_copyOfRangeByte_b0 (32, .areturn, 1) (List.mem_of_getElem? (i := 22) rfl)
theorem cw_JArrays_copyOfRangeByte : gj_cw mt_JArrays_copyOfRangeByte ∈ tw_all := mw_1392
theorem pl_JArrays_copyOfRangeByte : gj_plain mt_JArrays_copyOfRangeByte.y := ⟨by decide +kernel, by decide +kernel⟩
theorem pn_JArrays_copyOfRangeByte : plainName mt_JArrays_copyOfRangeByte.y.cls = true := by decide +kernel
theorem np_JArrays_copyOfRangeByte : gj_np mt_JArrays_copyOfRangeByte.y = some 3 := by decide +kernel
def mt_JArrays_checkLength : Mt := (⟨"java/util/Arrays", "checkLength", "(II)V"⟩, prog_36_method_131_code, 2, none, [])
def dl_JArrays_checkLength_b0 : List (Nat × Instr × Nat) := [(0, .iload_n 1, 1), (1, .iload_n 0, 1), (2, .if_icmp .ge 35, 3), (5, .new 43, 3), (8, .dup, 1), (9, .new 45, 3), (12, .dup, 1), (13, .invokespecial 47, 3), (16, .iload_n 0, 1), (17, .invokevirtual 54, 3), (20, .ldc_w 337, 3), (23, .invokevirtual 50, 3), (26, .iload_n 1, 1), (27, .invokevirtual 54, 3), (30, .invokevirtual 61, 3), (33, .invokespecial 65, 3), (36, .athrow, 1), (37, .return_, 1)]
set_option maxRecDepth 100000 in
theorem dk_JArrays_checkLength_b0 : ∀ q ∈ dl_JArrays_checkLength_b0, decode mt_JArrays_checkLength.cc q.1 = .ok (q.2.1, q.2.2) := by decide +kernel
theorem dd_JArrays_checkLength_0 : decode mt_JArrays_checkLength.cc 0 = .ok (.iload_n 1, 1) := dk_JArrays_checkLength_b0 (0, .iload_n 1, 1) (List.mem_of_getElem? (i := 0) rfl)
theorem dd_JArrays_checkLength_1 : decode mt_JArrays_checkLength.cc 1 = .ok (.iload_n 0, 1) := dk_JArrays_checkLength_b0 (1, .iload_n 0, 1) (List.mem_of_getElem? (i := 1) rfl)
theorem dd_JArrays_checkLength_2 : decode mt_JArrays_checkLength.cc 2 = .ok (.if_icmp .ge 35, 3) := dk_JArrays_checkLength_b0 (2, .if_icmp .ge 35, 3) (List.mem_of_getElem? (i := 2) rfl)
theorem dd_JArrays_checkLength_5 : decode mt_JArrays_checkLength.cc 5 = .ok (.new 43, 3) := dk_JArrays_checkLength_b0 (5, .new 43, 3) (List.mem_of_getElem? (i := 3) rfl)
theorem dd_JArrays_checkLength_8 : decode mt_JArrays_checkLength.cc 8 = .ok (.dup, 1) := dk_JArrays_checkLength_b0 (8, .dup, 1) (List.mem_of_getElem? (i := 4) rfl)
theorem dd_JArrays_checkLength_9 : decode mt_JArrays_checkLength.cc 9 = .ok (.new 45, 3) := dk_JArrays_checkLength_b0 (9, .new 45, 3) (List.mem_of_getElem? (i := 5) rfl)
theorem dd_JArrays_checkLength_12 : decode mt_JArrays_checkLength.cc 12 = .ok (.dup, 1) := dk_JArrays_checkLength_b0 (12, .dup, 1) (List.mem_of_getElem? (i := 6) rfl)
theorem dd_JArrays_checkLength_13 : decode mt_JArrays_checkLength.cc 13 = .ok (.invokespecial 47, 3) := dk_JArrays_checkLength_b0 (13, .invokespecial 47, 3) (List.mem_of_getElem? (i := 7) rfl)
theorem dd_JArrays_checkLength_16 : decode mt_JArrays_checkLength.cc 16 = .ok (.iload_n 0, 1) := dk_JArrays_checkLength_b0 (16, .iload_n 0, 1) (List.mem_of_getElem? (i := 8) rfl)
theorem dd_JArrays_checkLength_17 : decode mt_JArrays_checkLength.cc 17 = .ok (.invokevirtual 54, 3) := dk_JArrays_checkLength_b0 (17, .invokevirtual 54, 3) (List.mem_of_getElem? (i := 9) rfl)
theorem dd_JArrays_checkLength_20 : decode mt_JArrays_checkLength.cc 20 = .ok (.ldc_w 337, 3) := dk_JArrays_checkLength_b0 (20, .ldc_w 337, 3) (List.mem_of_getElem? (i := 10) rfl)
theorem dd_JArrays_checkLength_23 : decode mt_JArrays_checkLength.cc 23 = .ok (.invokevirtual 50, 3) := dk_JArrays_checkLength_b0 (23, .invokevirtual 50, 3) (List.mem_of_getElem? (i := 11) rfl)
theorem dd_JArrays_checkLength_26 : decode mt_JArrays_checkLength.cc 26 = .ok (.iload_n 1, 1) := dk_JArrays_checkLength_b0 (26, .iload_n 1, 1) (List.mem_of_getElem? (i := 12) rfl)
theorem dd_JArrays_checkLength_27 : decode mt_JArrays_checkLength.cc 27 = .ok (.invokevirtual 54, 3) := dk_JArrays_checkLength_b0 (27, .invokevirtual 54, 3) (List.mem_of_getElem? (i := 13) rfl)
theorem dd_JArrays_checkLength_30 : decode mt_JArrays_checkLength.cc 30 = .ok (.invokevirtual 61, 3) := dk_JArrays_checkLength_b0 (30, .invokevirtual 61, 3) (List.mem_of_getElem? (i := 14) rfl)
theorem dd_JArrays_checkLength_33 : decode mt_JArrays_checkLength.cc 33 = .ok (.invokespecial 65, 3) := dk_JArrays_checkLength_b0 (33, .invokespecial 65, 3) (List.mem_of_getElem? (i := 15) rfl)
theorem dd_JArrays_checkLength_36 : decode mt_JArrays_checkLength.cc 36 = .ok (.athrow, 1) := dk_JArrays_checkLength_b0 (36, .athrow, 1) (List.mem_of_getElem? (i := 16) rfl)
theorem dd_JArrays_checkLength_37 : decode mt_JArrays_checkLength.cc 37 = .ok (.return_, 1) := dk_JArrays_checkLength_b0 (37, .return_, 1) (List.mem_of_getElem? (i := 17) rfl)
theorem cw_JArrays_checkLength : gj_cw mt_JArrays_checkLength ∈ tw_all := mw_1395
theorem pl_JArrays_checkLength : gj_plain mt_JArrays_checkLength.y := ⟨by decide +kernel, by decide +kernel⟩
theorem pn_JArrays_checkLength : plainName mt_JArrays_checkLength.y.cls = true := by decide +kernel
theorem np_JArrays_checkLength : gj_np mt_JArrays_checkLength.y = some 2 := by decide +kernel
