def mt_JStringLatin1_charAt : Mt := (⟨"java/lang/StringLatin1", "charAt", "([BI)C"⟩, prog_31_method_2_code, 2, some .char, [])
def dl_JStringLatin1_charAt_b0 : List (Nat × Instr × Nat) := [(0, .iload_n 1, 1), (1, .aload_n 0, 1), (2, .arraylength, 1), (3, .invokestatic 9, 3), (6, .aload_n 0, 1), (7, .iload_n 1, 1), (8, .baload, 1), (9, .sipush 255, 3), (12, .iand, 1), (13, .i2c, 1), (14, .ireturn, 1)]
set_option maxRecDepth 100000 in
theorem dk_JStringLatin1_charAt_b0 : ∀ q ∈ dl_JStringLatin1_charAt_b0, decode mt_JStringLatin1_charAt.cc q.1 = .ok (q.2.1, q.2.2) := by decide +kernel
theorem dd_JStringLatin1_charAt_0 : decode mt_JStringLatin1_charAt.cc 0 = .ok (.iload_n 1, 1) := dk_JStringLatin1_charAt_b0 (0, .iload_n 1, 1) (List.mem_of_getElem? (i := 0) rfl)
theorem dd_JStringLatin1_charAt_1 : decode mt_JStringLatin1_charAt.cc 1 = .ok (.aload_n 0, 1) := dk_JStringLatin1_charAt_b0 (1, .aload_n 0, 1) (List.mem_of_getElem? (i := 1) rfl)
theorem dd_JStringLatin1_charAt_2 : decode mt_JStringLatin1_charAt.cc 2 = .ok (.arraylength, 1) := dk_JStringLatin1_charAt_b0 (2, .arraylength, 1) (List.mem_of_getElem? (i := 2) rfl)
theorem dd_JStringLatin1_charAt_3 : decode mt_JStringLatin1_charAt.cc 3 = .ok (.invokestatic 9, 3) := dk_JStringLatin1_charAt_b0 (3, .invokestatic 9, 3) (List.mem_of_getElem? (i := 3) rfl)
theorem dd_JStringLatin1_charAt_6 : decode mt_JStringLatin1_charAt.cc 6 = .ok (.aload_n 0, 1) := dk_JStringLatin1_charAt_b0 (6, .aload_n 0, 1) (List.mem_of_getElem? (i := 4) rfl)
theorem dd_JStringLatin1_charAt_7 : decode mt_JStringLatin1_charAt.cc 7 = .ok (.iload_n 1, 1) := dk_JStringLatin1_charAt_b0 (7, .iload_n 1, 1) (List.mem_of_getElem? (i := 5) rfl)
theorem dd_JStringLatin1_charAt_8 : decode mt_JStringLatin1_charAt.cc 8 = .ok (.baload, 1) := dk_JStringLatin1_charAt_b0 (8, .baload, 1) (List.mem_of_getElem? (i := 6) rfl)
theorem dd_JStringLatin1_charAt_9 : decode mt_JStringLatin1_charAt.cc 9 = .ok (.sipush 255, 3) := dk_JStringLatin1_charAt_b0 (9, .sipush 255, 3) (List.mem_of_getElem? (i := 7) rfl)
theorem dd_JStringLatin1_charAt_12 : decode mt_JStringLatin1_charAt.cc 12 = .ok (.iand, 1) := dk_JStringLatin1_charAt_b0 (12, .iand, 1) (List.mem_of_getElem? (i := 8) rfl)
theorem dd_JStringLatin1_charAt_13 : decode mt_JStringLatin1_charAt.cc 13 = .ok (.i2c, 1) := dk_JStringLatin1_charAt_b0 (13, .i2c, 1) (List.mem_of_getElem? (i := 9) rfl)
theorem dd_JStringLatin1_charAt_14 : decode mt_JStringLatin1_charAt.cc 14 = .ok (.ireturn, 1) := dk_JStringLatin1_charAt_b0 (14, .ireturn, 1) (List.mem_of_getElem? (i := 10) rfl)
theorem cw_JStringLatin1_charAt : gj_cw mt_JStringLatin1_charAt ∈ tw_all := mw_469
theorem pl_JStringLatin1_charAt : gj_plain mt_JStringLatin1_charAt.y := ⟨by decide +kernel, by decide +kernel⟩
theorem pn_JStringLatin1_charAt : plainName mt_JStringLatin1_charAt.y.cls = true := by decide +kernel
theorem np_JStringLatin1_charAt : gj_np mt_JStringLatin1_charAt.y = some 2 := by decide +kernel
def mt_JStringLatin1_canEncode_0 : Mt := (⟨"java/lang/StringLatin1", "canEncode", "(C)Z"⟩, prog_31_method_3_code, 1, some .boolean, [])
def dl_JStringLatin1_canEncode_0_b0 : List (Nat × Instr × Nat) := [(0, .iload_n 0, 1), (1, .sipush 255, 3), (4, .if_icmp .gt 7, 3), (7, .iconst 1, 1), (8, .goto 4, 3), (11, .iconst 0, 1), (12, .ireturn, 1)]
set_option maxRecDepth 100000 in
theorem dk_JStringLatin1_canEncode_0_b0 : ∀ q ∈ dl_JStringLatin1_canEncode_0_b0, decode mt_JStringLatin1_canEncode_0.cc q.1 = .ok (q.2.1, q.2.2) := by decide +kernel
theorem dd_JStringLatin1_canEncode_0_0 : decode mt_JStringLatin1_canEncode_0.cc 0 = .ok (.iload_n 0, 1) := dk_JStringLatin1_canEncode_0_b0 (0, .iload_n 0, 1) (List.mem_of_getElem? (i := 0) rfl)
theorem dd_JStringLatin1_canEncode_0_1 : decode mt_JStringLatin1_canEncode_0.cc 1 = .ok (.sipush 255, 3) := dk_JStringLatin1_canEncode_0_b0 (1, .sipush 255, 3) (List.mem_of_getElem? (i := 1) rfl)
theorem dd_JStringLatin1_canEncode_0_4 : decode mt_JStringLatin1_canEncode_0.cc 4 = .ok (.if_icmp .gt 7, 3) := dk_JStringLatin1_canEncode_0_b0 (4, .if_icmp .gt 7, 3) (List.mem_of_getElem? (i := 2) rfl)
theorem dd_JStringLatin1_canEncode_0_7 : decode mt_JStringLatin1_canEncode_0.cc 7 = .ok (.iconst 1, 1) := dk_JStringLatin1_canEncode_0_b0 (7, .iconst 1, 1) (List.mem_of_getElem? (i := 3) rfl)
theorem dd_JStringLatin1_canEncode_0_8 : decode mt_JStringLatin1_canEncode_0.cc 8 = .ok (.goto 4, 3) := dk_JStringLatin1_canEncode_0_b0 (8, .goto 4, 3) (List.mem_of_getElem? (i := 4) rfl)
theorem dd_JStringLatin1_canEncode_0_11 : decode mt_JStringLatin1_canEncode_0.cc 11 = .ok (.iconst 0, 1) := dk_JStringLatin1_canEncode_0_b0 (11, .iconst 0, 1) (List.mem_of_getElem? (i := 5) rfl)
theorem dd_JStringLatin1_canEncode_0_12 : decode mt_JStringLatin1_canEncode_0.cc 12 = .ok (.ireturn, 1) := dk_JStringLatin1_canEncode_0_b0 (12, .ireturn, 1) (List.mem_of_getElem? (i := 6) rfl)
theorem cw_JStringLatin1_canEncode_0 : gj_cw mt_JStringLatin1_canEncode_0 ∈ tw_all := mw_1334
theorem pl_JStringLatin1_canEncode_0 : gj_plain mt_JStringLatin1_canEncode_0.y := ⟨by decide +kernel, by decide +kernel⟩
theorem pn_JStringLatin1_canEncode_0 : plainName mt_JStringLatin1_canEncode_0.y.cls = true := by decide +kernel
theorem np_JStringLatin1_canEncode_0 : gj_np mt_JStringLatin1_canEncode_0.y = some 1 := by decide +kernel
def mt_JStringLatin1_inflate : Mt := (⟨"java/lang/StringLatin1", "inflate", "([BI[BII)V"⟩, prog_31_method_50_code, 5, none, [])
def dl_JStringLatin1_inflate_b0 : List (Nat × Instr × Nat) := [(0, .aload_n 0, 1), (1, .iload_n 1, 1), (2, .aload_n 2, 1), (3, .iload_n 3, 1), (4, .iload 4, 2), (6, .invokestatic 240, 3), (9, .return_, 1)]
set_option maxRecDepth 100000 in
theorem dk_JStringLatin1_inflate_b0 : ∀ q ∈ dl_JStringLatin1_inflate_b0, decode mt_JStringLatin1_inflate.cc q.1 = .ok (q.2.1, q.2.2) := by decide +kernel
theorem dd_JStringLatin1_inflate_0 : decode mt_JStringLatin1_inflate.cc 0 = .ok (.aload_n 0, 1) := dk_JStringLatin1_inflate_b0 (0, .aload_n 0, 1) (List.mem_of_getElem? (i := 0) rfl)
theorem dd_JStringLatin1_inflate_1 : decode mt_JStringLatin1_inflate.cc 1 = .ok (.iload_n 1, 1) := dk_JStringLatin1_inflate_b0 (1, .iload_n 1, 1) (List.mem_of_getElem? (i := 1) rfl)
theorem dd_JStringLatin1_inflate_2 : decode mt_JStringLatin1_inflate.cc 2 = .ok (.aload_n 2, 1) := dk_JStringLatin1_inflate_b0 (2, .aload_n 2, 1) (List.mem_of_getElem? (i := 2) rfl)
theorem dd_JStringLatin1_inflate_3 : decode mt_JStringLatin1_inflate.cc 3 = .ok (.iload_n 3, 1) := dk_JStringLatin1_inflate_b0 (3, .iload_n 3, 1) (List.mem_of_getElem? (i := 3) rfl)
theorem dd_JStringLatin1_inflate_4 : decode mt_JStringLatin1_inflate.cc 4 = .ok (.iload 4, 2) := dk_JStringLatin1_inflate_b0 (4, .iload 4, 2) (List.mem_of_getElem? (i := 4) rfl)
theorem dd_JStringLatin1_inflate_6 : decode mt_JStringLatin1_inflate.cc 6 = .ok (.invokestatic 240, 3) := dk_JStringLatin1_inflate_b0 (6, .invokestatic 240, 3) (List.mem_of_getElem? (i := 5) rfl)
theorem dd_JStringLatin1_inflate_9 : decode mt_JStringLatin1_inflate.cc 9 = .ok (.return_, 1) := dk_JStringLatin1_inflate_b0 (9, .return_, 1) (List.mem_of_getElem? (i := 6) rfl)
theorem cw_JStringLatin1_inflate : gj_cw mt_JStringLatin1_inflate ∈ tw_all := mw_1341
theorem pl_JStringLatin1_inflate : gj_plain mt_JStringLatin1_inflate.y := ⟨by decide +kernel, by decide +kernel⟩
theorem pn_JStringLatin1_inflate : plainName mt_JStringLatin1_inflate.y.cls = true := by decide +kernel
theorem np_JStringLatin1_inflate : gj_np mt_JStringLatin1_inflate.y = some 5 := by decide +kernel
def mt_JStringLatin1_indexOf_2 : Mt := (⟨"java/lang/StringLatin1", "indexOf", "([B[B)I"⟩, prog_31_method_24_code, 2, some .int, [])
def dl_JStringLatin1_indexOf_2_b0 : List (Nat × Instr × Nat) := [(0, .aload_n 1, 1), (1, .arraylength, 1), (2, .ifCond .ne 5, 3), (5, .iconst 0, 1), (6, .ireturn, 1), (7, .aload_n 0, 1), (8, .arraylength, 1), (9, .ifCond .ne 5, 3), (12, .iconst (-1), 1), (13, .ireturn, 1), (14, .aload_n 0, 1), (15, .aload_n 0, 1), (16, .arraylength, 1), (17, .aload_n 1, 1), (18, .aload_n 1, 1), (19, .arraylength, 1), (20, .iconst 0, 1), (21, .invokestatic 99, 3), (24, .ireturn, 1)]
set_option maxRecDepth 100000 in
theorem dk_JStringLatin1_indexOf_2_b0 : ∀ q ∈ dl_JStringLatin1_indexOf_2_b0, decode mt_JStringLatin1_indexOf_2.cc q.1 = .ok (q.2.1, q.2.2) := by decide +kernel
theorem dd_JStringLatin1_indexOf_2_0 : decode mt_JStringLatin1_indexOf_2.cc 0 = .ok (.aload_n 1, 1) := dk_JStringLatin1_indexOf_2_b0 (0, .aload_n 1, 1) (List.mem_of_getElem? (i := 0) rfl)
theorem dd_JStringLatin1_indexOf_2_1 : decode mt_JStringLatin1_indexOf_2.cc 1 = .ok (.arraylength, 1) := dk_JStringLatin1_indexOf_2_b0 (1, .arraylength, 1) (List.mem_of_getElem? (i := 1) rfl)
theorem dd_JStringLatin1_indexOf_2_2 : decode mt_JStringLatin1_indexOf_2.cc 2 = .ok (.ifCond .ne 5, 3) := dk_JStringLatin1_indexOf_2_b0 (2, .ifCond .ne 5, 3) (List.mem_of_getElem? (i := 2) rfl)
theorem dd_JStringLatin1_indexOf_2_5 : decode mt_JStringLatin1_indexOf_2.cc 5 = .ok (.iconst 0, 1) := dk_JStringLatin1_indexOf_2_b0 (5, .iconst 0, 1) (List.mem_of_getElem? (i := 3) rfl)
theorem dd_JStringLatin1_indexOf_2_6 : decode mt_JStringLatin1_indexOf_2.cc 6 = .ok (.ireturn, 1) := dk_JStringLatin1_indexOf_2_b0 (6, .ireturn, 1) (List.mem_of_getElem? (i := 4) rfl)
theorem dd_JStringLatin1_indexOf_2_7 : decode mt_JStringLatin1_indexOf_2.cc 7 = .ok (.aload_n 0, 1) := dk_JStringLatin1_indexOf_2_b0 (7, .aload_n 0, 1) (List.mem_of_getElem? (i := 5) rfl)
theorem dd_JStringLatin1_indexOf_2_8 : decode mt_JStringLatin1_indexOf_2.cc 8 = .ok (.arraylength, 1) := dk_JStringLatin1_indexOf_2_b0 (8, .arraylength, 1) (List.mem_of_getElem? (i := 6) rfl)
theorem dd_JStringLatin1_indexOf_2_9 : decode mt_JStringLatin1_indexOf_2.cc 9 = .ok (.ifCond .ne 5, 3) := dk_JStringLatin1_indexOf_2_b0 (9, .ifCond .ne 5, 3) (List.mem_of_getElem? (i := 7) rfl)
theorem dd_JStringLatin1_indexOf_2_12 : decode mt_JStringLatin1_indexOf_2.cc 12 = .ok (.iconst (-1), 1) := dk_JStringLatin1_indexOf_2_b0 (12, .iconst (-1), 1) (List.mem_of_getElem? (i := 8) rfl)
theorem dd_JStringLatin1_indexOf_2_13 : decode mt_JStringLatin1_indexOf_2.cc 13 = .ok (.ireturn, 1) := dk_JStringLatin1_indexOf_2_b0 (13, .ireturn, 1) (List.mem_of_getElem? (i := 9) rfl)
theorem dd_JStringLatin1_indexOf_2_14 : decode mt_JStringLatin1_indexOf_2.cc 14 = .ok (.aload_n 0, 1) := dk_JStringLatin1_indexOf_2_b0 (14, .aload_n 0, 1) (List.mem_of_getElem? (i := 10) rfl)
theorem dd_JStringLatin1_indexOf_2_15 : decode mt_JStringLatin1_indexOf_2.cc 15 = .ok (.aload_n 0, 1) := dk_JStringLatin1_indexOf_2_b0 (15, .aload_n 0, 1) (List.mem_of_getElem? (i := 11) rfl)
theorem dd_JStringLatin1_indexOf_2_16 : decode mt_JStringLatin1_indexOf_2.cc 16 = .ok (.arraylength, 1) := dk_JStringLatin1_indexOf_2_b0 (16, .arraylength, 1) (List.mem_of_getElem? (i := 12) rfl)
theorem dd_JStringLatin1_indexOf_2_17 : decode mt_JStringLatin1_indexOf_2.cc 17 = .ok (.aload_n 1, 1) := dk_JStringLatin1_indexOf_2_b0 (17, .aload_n 1, 1) (List.mem_of_getElem? (i := 13) rfl)
theorem dd_JStringLatin1_indexOf_2_18 : decode mt_JStringLatin1_indexOf_2.cc 18 = .ok (.aload_n 1, 1) := dk_JStringLatin1_indexOf_2_b0 (18, .aload_n 1, 1) (List.mem_of_getElem? (i := 14) rfl)
theorem dd_JStringLatin1_indexOf_2_19 : decode mt_JStringLatin1_indexOf_2.cc 19 = .ok (.arraylength, 1) := dk_JStringLatin1_indexOf_2_b0 (19, .arraylength, 1) (List.mem_of_getElem? (i := 15) rfl)
theorem dd_JStringLatin1_indexOf_2_20 : decode mt_JStringLatin1_indexOf_2.cc 20 = .ok (.iconst 0, 1) := dk_JStringLatin1_indexOf_2_b0 (20, .iconst 0, 1) (List.mem_of_getElem? (i := 16) rfl)
theorem dd_JStringLatin1_indexOf_2_21 : decode mt_JStringLatin1_indexOf_2.cc 21 = .ok (.invokestatic 99, 3) := dk_JStringLatin1_indexOf_2_b0 (21, .invokestatic 99, 3) (List.mem_of_getElem? (i := 17) rfl)
theorem dd_JStringLatin1_indexOf_2_24 : decode mt_JStringLatin1_indexOf_2.cc 24 = .ok (.ireturn, 1) := dk_JStringLatin1_indexOf_2_b0 (24, .ireturn, 1) (List.mem_of_getElem? (i := 18) rfl)
theorem cw_JStringLatin1_indexOf_2 : gj_cw mt_JStringLatin1_indexOf_2 ∈ tw_all := mw_1506
theorem pl_JStringLatin1_indexOf_2 : gj_plain mt_JStringLatin1_indexOf_2.y := ⟨by decide +kernel, by decide +kernel⟩
theorem pn_JStringLatin1_indexOf_2 : plainName mt_JStringLatin1_indexOf_2.y.cls = true := by decide +kernel
theorem np_JStringLatin1_indexOf_2 : gj_np mt_JStringLatin1_indexOf_2.y = some 2 := by decide +kernel
def mt_JStringLatin1_indexOf_1 : Mt := (⟨"java/lang/StringLatin1", "indexOf", "([BI[BII)I"⟩, prog_31_method_25_code, 11, some .int, [])
def dl_JStringLatin1_indexOf_1_b0 : List (Nat × Instr × Nat) := [(0, .aload_n 2, 1), (1, .iconst 0, 1), (2, .baload, 1), (3, .istore 5, 2), (5, .iload_n 1, 1), (6, .iload_n 3, 1), (7, .isub, 1), (8, .istore 6, 2), (10, .iload 4, 2), (12, .istore 7, 2), (14, .iload 7, 2), (16, .iload 6, 2), (18, .if_icmp .gt 101, 3), (21, .aload_n 0, 1), (22, .iload 7, 2), (24, .baload, 1), (25, .iload 5, 2), (27, .if_icmp .eq 25, 3), (30, .iinc 7 1, 3), (33, .iload 7, 2), (35, .iload 6, 2), (37, .if_icmp .gt 15, 3), (40, .aload_n 0, 1), (41, .iload 7, 2), (43, .baload, 1), (44, .iload 5, 2), (46, .if_icmp .eq 6, 3), (49, .goto (-19), 3), (52, .iload 7, 2), (54, .iload 6, 2), (56, .if_icmp .gt 57, 3), (59, .iload 7, 2), (61, .iconst 1, 1), (62, .iadd, 1), (63, .istore 8, 2), (65, .iload 8, 2), (67, .iload_n 3, 1), (68, .iadd, 1), (69, .iconst 1, 1), (70, .isub, 1), (71, .istore 9, 2), (73, .iconst 1, 1), (74, .istore 10, 2), (76, .iload 8, 2), (78, .iload 9, 2), (80, .if_icmp .ge 23, 3), (83, .aload_n 0, 1), (84, .iload 8, 2), (86, .baload, 1), (87, .aload_n 2, 1), (88, .iload 10, 2), (90, .baload, 1), (91, .if_icmp .ne 12, 3), (94, .iinc 8 1, 3), (97, .iinc 10 1, 3), (100, .goto (-24), 3), (103, .iload 8, 2), (105, .iload 9, 2), (107, .if_icmp .ne 6, 3), (110, .iload 7, 2)]
set_option maxRecDepth 100000 in
theorem dk_JStringLatin1_indexOf_1_b0 : ∀ q ∈ dl_JStringLatin1_indexOf_1_b0, decode mt_JStringLatin1_indexOf_1.cc q.1 = .ok (q.2.1, q.2.2) := by decide +kernel
theorem dd_JStringLatin1_indexOf_1_0 : decode mt_JStringLatin1_indexOf_1.cc 0 = .ok (.aload_n 2, 1) := dk_JStringLatin1_indexOf_1_b0 (0, .aload_n 2, 1) (List.mem_of_getElem? (i := 0) rfl)
theorem dd_JStringLatin1_indexOf_1_1 : decode mt_JStringLatin1_indexOf_1.cc 1 = .ok (.iconst 0, 1) := dk_JStringLatin1_indexOf_1_b0 (1, .iconst 0, 1) (List.mem_of_getElem? (i := 1) rfl)
theorem dd_JStringLatin1_indexOf_1_2 : decode mt_JStringLatin1_indexOf_1.cc 2 = .ok (.baload, 1) := dk_JStringLatin1_indexOf_1_b0 (2, .baload, 1) (List.mem_of_getElem? (i := 2) rfl)
theorem dd_JStringLatin1_indexOf_1_3 : decode mt_JStringLatin1_indexOf_1.cc 3 = .ok (.istore 5, 2) := dk_JStringLatin1_indexOf_1_b0 (3, .istore 5, 2) (List.mem_of_getElem? (i := 3) rfl)
theorem dd_JStringLatin1_indexOf_1_5 : decode mt_JStringLatin1_indexOf_1.cc 5 = .ok (.iload_n 1, 1) := dk_JStringLatin1_indexOf_1_b0 (5, .iload_n 1, 1) (List.mem_of_getElem? (i := 4) rfl)
theorem dd_JStringLatin1_indexOf_1_6 : decode mt_JStringLatin1_indexOf_1.cc 6 = .ok (.iload_n 3, 1) := dk_JStringLatin1_indexOf_1_b0 (6, .iload_n 3, 1) (List.mem_of_getElem? (i := 5) rfl)
theorem dd_JStringLatin1_indexOf_1_7 : decode mt_JStringLatin1_indexOf_1.cc 7 = .ok (.isub, 1) := dk_JStringLatin1_indexOf_1_b0 (7, .isub, 1) (List.mem_of_getElem? (i := 6) rfl)
theorem dd_JStringLatin1_indexOf_1_8 : decode mt_JStringLatin1_indexOf_1.cc 8 = .ok (.istore 6, 2) := dk_JStringLatin1_indexOf_1_b0 (8, .istore 6, 2) (List.mem_of_getElem? (i := 7) rfl)
theorem dd_JStringLatin1_indexOf_1_10 : decode mt_JStringLatin1_indexOf_1.cc 10 = .ok (.iload 4, 2) := dk_JStringLatin1_indexOf_1_b0 (10, .iload 4, 2) (List.mem_of_getElem? (i := 8) rfl)
theorem dd_JStringLatin1_indexOf_1_12 : decode mt_JStringLatin1_indexOf_1.cc 12 = .ok (.istore 7, 2) := dk_JStringLatin1_indexOf_1_b0 (12, .istore 7, 2) (List.mem_of_getElem? (i := 9) rfl)
theorem dd_JStringLatin1_indexOf_1_14 : decode mt_JStringLatin1_indexOf_1.cc 14 = .ok (.iload 7, 2) := dk_JStringLatin1_indexOf_1_b0 (14, .iload 7, 2) (List.mem_of_getElem? (i := 10) rfl)
theorem dd_JStringLatin1_indexOf_1_16 : decode mt_JStringLatin1_indexOf_1.cc 16 = .ok (.iload 6, 2) := dk_JStringLatin1_indexOf_1_b0 (16, .iload 6, 2) (List.mem_of_getElem? (i := 11) rfl)
theorem dd_JStringLatin1_indexOf_1_18 : decode mt_JStringLatin1_indexOf_1.cc 18 = .ok (.if_icmp .gt 101, 3) := dk_JStringLatin1_indexOf_1_b0 (18, .if_icmp .gt 101, 3) (List.mem_of_getElem? (i := 12) rfl)
theorem dd_JStringLatin1_indexOf_1_21 : decode mt_JStringLatin1_indexOf_1.cc 21 = .ok (.aload_n 0, 1) := dk_JStringLatin1_indexOf_1_b0 (21, .aload_n 0, 1) (List.mem_of_getElem? (i := 13) rfl)
theorem dd_JStringLatin1_indexOf_1_22 : decode mt_JStringLatin1_indexOf_1.cc 22 = .ok (.iload 7, 2) := dk_JStringLatin1_indexOf_1_b0 (22, .iload 7, 2) (List.mem_of_getElem? (i := 14) rfl)
theorem dd_JStringLatin1_indexOf_1_24 : decode mt_JStringLatin1_indexOf_1.cc 24 = .ok (.baload, 1) := dk_JStringLatin1_indexOf_1_b0 (24, .baload, 1) (List.mem_of_getElem? (i := 15) rfl)
theorem dd_JStringLatin1_indexOf_1_25 : decode mt_JStringLatin1_indexOf_1.cc 25 = .ok (.iload 5, 2) := dk_JStringLatin1_indexOf_1_b0 (25, .iload 5, 2) (List.mem_of_getElem? (i := 16) rfl)
theorem dd_JStringLatin1_indexOf_1_27 : decode mt_JStringLatin1_indexOf_1.cc 27 = .ok (.if_icmp .eq 25, 3) := dk_JStringLatin1_indexOf_1_b0 (27, .if_icmp .eq 25, 3) (List.mem_of_getElem? (i := 17) rfl)
theorem dd_JStringLatin1_indexOf_1_30 : decode mt_JStringLatin1_indexOf_1.cc 30 = .ok (.iinc 7 1, 3) := dk_JStringLatin1_indexOf_1_b0 (30, .iinc 7 1, 3) (List.mem_of_getElem? (i := 18) rfl)
theorem dd_JStringLatin1_indexOf_1_33 : decode mt_JStringLatin1_indexOf_1.cc 33 = .ok (.iload 7, 2) := dk_JStringLatin1_indexOf_1_b0 (33, .iload 7, 2) (List.mem_of_getElem? (i := 19) rfl)
theorem dd_JStringLatin1_indexOf_1_35 : decode mt_JStringLatin1_indexOf_1.cc 35 = .ok (.iload 6, 2) := dk_JStringLatin1_indexOf_1_b0 (35, .iload 6, 2) (List.mem_of_getElem? (i := 20) rfl)
theorem dd_JStringLatin1_indexOf_1_37 : decode mt_JStringLatin1_indexOf_1.cc 37 = .ok (.if_icmp .gt 15, 3) := dk_JStringLatin1_indexOf_1_b0 (37, .if_icmp .gt 15, 3) (List.mem_of_getElem? (i := 21) rfl)
theorem dd_JStringLatin1_indexOf_1_40 : decode mt_JStringLatin1_indexOf_1.cc 40 = .ok (.aload_n 0, 1) := dk_JStringLatin1_indexOf_1_b0 (40, .aload_n 0, 1) (List.mem_of_getElem? (i := 22) rfl)
theorem dd_JStringLatin1_indexOf_1_41 : decode mt_JStringLatin1_indexOf_1.cc 41 = .ok (.iload 7, 2) := dk_JStringLatin1_indexOf_1_b0 (41, .iload 7, 2) (List.mem_of_getElem? (i := 23) rfl)
theorem dd_JStringLatin1_indexOf_1_43 : decode mt_JStringLatin1_indexOf_1.cc 43 = .ok (.baload, 1) := dk_JStringLatin1_indexOf_1_b0 (43, .baload, 1) (List.mem_of_getElem? (i := 24) rfl)
theorem dd_JStringLatin1_indexOf_1_44 : decode mt_JStringLatin1_indexOf_1.cc 44 = .ok (.iload 5, 2) := dk_JStringLatin1_indexOf_1_b0 (44, .iload 5, 2) (List.mem_of_getElem? (i := 25) rfl)
theorem dd_JStringLatin1_indexOf_1_46 : decode mt_JStringLatin1_indexOf_1.cc 46 = .ok (.if_icmp .eq 6, 3) := dk_JStringLatin1_indexOf_1_b0 (46, .if_icmp .eq 6, 3) (List.mem_of_getElem? (i := 26) rfl)
theorem dd_JStringLatin1_indexOf_1_49 : decode mt_JStringLatin1_indexOf_1.cc 49 = .ok (.goto (-19), 3) := dk_JStringLatin1_indexOf_1_b0 (49, .goto (-19), 3) (List.mem_of_getElem? (i := 27) rfl)
theorem dd_JStringLatin1_indexOf_1_52 : decode mt_JStringLatin1_indexOf_1.cc 52 = .ok (.iload 7, 2) := dk_JStringLatin1_indexOf_1_b0 (52, .iload 7, 2) (List.mem_of_getElem? (i := 28) rfl)
theorem dd_JStringLatin1_indexOf_1_54 : decode mt_JStringLatin1_indexOf_1.cc 54 = .ok (.iload 6, 2) := dk_JStringLatin1_indexOf_1_b0 (54, .iload 6, 2) (List.mem_of_getElem? (i := 29) rfl)
theorem dd_JStringLatin1_indexOf_1_56 : decode mt_JStringLatin1_indexOf_1.cc 56 = .ok (.if_icmp .gt 57, 3) := dk_JStringLatin1_indexOf_1_b0 (56, .if_icmp .gt 57, 3) (List.mem_of_getElem? (i := 30) rfl)
theorem dd_JStringLatin1_indexOf_1_59 : decode mt_JStringLatin1_indexOf_1.cc 59 = .ok (.iload 7, 2) := dk_JStringLatin1_indexOf_1_b0 (59, .iload 7, 2) (List.mem_of_getElem? (i := 31) rfl)
theorem dd_JStringLatin1_indexOf_1_61 : decode mt_JStringLatin1_indexOf_1.cc 61 = .ok (.iconst 1, 1) := dk_JStringLatin1_indexOf_1_b0 (61, .iconst 1, 1) (List.mem_of_getElem? (i := 32) rfl)
theorem dd_JStringLatin1_indexOf_1_62 : decode mt_JStringLatin1_indexOf_1.cc 62 = .ok (.iadd, 1) := dk_JStringLatin1_indexOf_1_b0 (62, .iadd, 1) (List.mem_of_getElem? (i := 33) rfl)
theorem dd_JStringLatin1_indexOf_1_63 : decode mt_JStringLatin1_indexOf_1.cc 63 = .ok (.istore 8, 2) := dk_JStringLatin1_indexOf_1_b0 (63, .istore 8, 2) (List.mem_of_getElem? (i := 34) rfl)
theorem dd_JStringLatin1_indexOf_1_65 : decode mt_JStringLatin1_indexOf_1.cc 65 = .ok (.iload 8, 2) := dk_JStringLatin1_indexOf_1_b0 (65, .iload 8, 2) (List.mem_of_getElem? (i := 35) rfl)
theorem dd_JStringLatin1_indexOf_1_67 : decode mt_JStringLatin1_indexOf_1.cc 67 = .ok (.iload_n 3, 1) := dk_JStringLatin1_indexOf_1_b0 (67, .iload_n 3, 1) (List.mem_of_getElem? (i := 36) rfl)
theorem dd_JStringLatin1_indexOf_1_68 : decode mt_JStringLatin1_indexOf_1.cc 68 = .ok (.iadd, 1) := dk_JStringLatin1_indexOf_1_b0 (68, .iadd, 1) (List.mem_of_getElem? (i := 37) rfl)
theorem dd_JStringLatin1_indexOf_1_69 : decode mt_JStringLatin1_indexOf_1.cc 69 = .ok (.iconst 1, 1) := dk_JStringLatin1_indexOf_1_b0 (69, .iconst 1, 1) (List.mem_of_getElem? (i := 38) rfl)
theorem dd_JStringLatin1_indexOf_1_70 : decode mt_JStringLatin1_indexOf_1.cc 70 = .ok (.isub, 1) := dk_JStringLatin1_indexOf_1_b0 (70, .isub, 1) (List.mem_of_getElem? (i := 39) rfl)
theorem dd_JStringLatin1_indexOf_1_71 : decode mt_JStringLatin1_indexOf_1.cc 71 = .ok (.istore 9, 2) := dk_JStringLatin1_indexOf_1_b0 (71, .istore 9, 2) (List.mem_of_getElem? (i := 40) rfl)
theorem dd_JStringLatin1_indexOf_1_73 : decode mt_JStringLatin1_indexOf_1.cc 73 = .ok (.iconst 1, 1) := dk_JStringLatin1_indexOf_1_b0 (73, .iconst 1, 1) (List.mem_of_getElem? (i := 41) rfl)
theorem dd_JStringLatin1_indexOf_1_74 : decode mt_JStringLatin1_indexOf_1.cc 74 = .ok (.istore 10, 2) := dk_JStringLatin1_indexOf_1_b0 (74, .istore 10, 2) (List.mem_of_getElem? (i := 42) rfl)
theorem dd_JStringLatin1_indexOf_1_76 : decode mt_JStringLatin1_indexOf_1.cc 76 = .ok (.iload 8, 2) := dk_JStringLatin1_indexOf_1_b0 (76, .iload 8, 2) (List.mem_of_getElem? (i := 43) rfl)
theorem dd_JStringLatin1_indexOf_1_78 : decode mt_JStringLatin1_indexOf_1.cc 78 = .ok (.iload 9, 2) := dk_JStringLatin1_indexOf_1_b0 (78, .iload 9, 2) (List.mem_of_getElem? (i := 44) rfl)
theorem dd_JStringLatin1_indexOf_1_80 : decode mt_JStringLatin1_indexOf_1.cc 80 = .ok (.if_icmp .ge 23, 3) := dk_JStringLatin1_indexOf_1_b0 (80, .if_icmp .ge 23, 3) (List.mem_of_getElem? (i := 45) rfl)
theorem dd_JStringLatin1_indexOf_1_83 : decode mt_JStringLatin1_indexOf_1.cc 83 = .ok (.aload_n 0, 1) := dk_JStringLatin1_indexOf_1_b0 (83, .aload_n 0, 1) (List.mem_of_getElem? (i := 46) rfl)
theorem dd_JStringLatin1_indexOf_1_84 : decode mt_JStringLatin1_indexOf_1.cc 84 = .ok (.iload 8, 2) := dk_JStringLatin1_indexOf_1_b0 (84, .iload 8, 2) (List.mem_of_getElem? (i := 47) rfl)
theorem dd_JStringLatin1_indexOf_1_86 : decode mt_JStringLatin1_indexOf_1.cc 86 = .ok (.baload, 1) := dk_JStringLatin1_indexOf_1_b0 (86, .baload, 1) (List.mem_of_getElem? (i := 48) rfl)
theorem dd_JStringLatin1_indexOf_1_87 : decode mt_JStringLatin1_indexOf_1.cc 87 = .ok (.aload_n 2, 1) := dk_JStringLatin1_indexOf_1_b0 (87, .aload_n 2, 1) (List.mem_of_getElem? (i := 49) rfl)
theorem dd_JStringLatin1_indexOf_1_88 : decode mt_JStringLatin1_indexOf_1.cc 88 = .ok (.iload 10, 2) := dk_JStringLatin1_indexOf_1_b0 (88, .iload 10, 2) (List.mem_of_getElem? (i := 50) rfl)
theorem dd_JStringLatin1_indexOf_1_90 : decode mt_JStringLatin1_indexOf_1.cc 90 = .ok (.baload, 1) := dk_JStringLatin1_indexOf_1_b0 (90, .baload, 1) (List.mem_of_getElem? (i := 51) rfl)
theorem dd_JStringLatin1_indexOf_1_91 : decode mt_JStringLatin1_indexOf_1.cc 91 = .ok (.if_icmp .ne 12, 3) := dk_JStringLatin1_indexOf_1_b0 (91, .if_icmp .ne 12, 3) (List.mem_of_getElem? (i := 52) rfl)
theorem dd_JStringLatin1_indexOf_1_94 : decode mt_JStringLatin1_indexOf_1.cc 94 = .ok (.iinc 8 1, 3) := dk_JStringLatin1_indexOf_1_b0 (94, .iinc 8 1, 3) (List.mem_of_getElem? (i := 53) rfl)
theorem dd_JStringLatin1_indexOf_1_97 : decode mt_JStringLatin1_indexOf_1.cc 97 = .ok (.iinc 10 1, 3) := dk_JStringLatin1_indexOf_1_b0 (97, .iinc 10 1, 3) (List.mem_of_getElem? (i := 54) rfl)
theorem dd_JStringLatin1_indexOf_1_100 : decode mt_JStringLatin1_indexOf_1.cc 100 = .ok (.goto (-24), 3) := dk_JStringLatin1_indexOf_1_b0 (100, .goto (-24), 3) (List.mem_of_getElem? (i := 55) rfl)
theorem dd_JStringLatin1_indexOf_1_103 : decode mt_JStringLatin1_indexOf_1.cc 103 = .ok (.iload 8, 2) := dk_JStringLatin1_indexOf_1_b0 (103, .iload 8, 2) (List.mem_of_getElem? (i := 56) rfl)
theorem dd_JStringLatin1_indexOf_1_105 : decode mt_JStringLatin1_indexOf_1.cc 105 = .ok (.iload 9, 2) := dk_JStringLatin1_indexOf_1_b0 (105, .iload 9, 2) (List.mem_of_getElem? (i := 57) rfl)
theorem dd_JStringLatin1_indexOf_1_107 : decode mt_JStringLatin1_indexOf_1.cc 107 = .ok (.if_icmp .ne 6, 3) := dk_JStringLatin1_indexOf_1_b0 (107, .if_icmp .ne 6, 3) (List.mem_of_getElem? (i := 58) rfl)
theorem dd_JStringLatin1_indexOf_1_110 : decode mt_JStringLatin1_indexOf_1.cc 110 = .ok (.iload 7, 2) := dk_JStringLatin1_indexOf_1_b0 (110, .iload 7, 2) (List.mem_of_getElem? (i := 59) rfl)
def dl_JStringLatin1_indexOf_1_b1 : List (Nat × Instr × Nat) := [(112, .ireturn, 1), (113, .iinc 7 1, 3), (116, .goto (-102), 3), (119, .iconst (-1), 1), (120, .ireturn, 1)]
set_option maxRecDepth 100000 in
theorem dk_JStringLatin1_indexOf_1_b1 : ∀ q ∈ dl_JStringLatin1_indexOf_1_b1, decode mt_JStringLatin1_indexOf_1.cc q.1 = .ok (q.2.1, q.2.2) := by decide +kernel
theorem dd_JStringLatin1_indexOf_1_112 : decode mt_JStringLatin1_indexOf_1.cc 112 = .ok (.ireturn, 1) := dk_JStringLatin1_indexOf_1_b1 (112, .ireturn, 1) (List.mem_of_getElem? (i := 0) rfl)
theorem dd_JStringLatin1_indexOf_1_113 : decode mt_JStringLatin1_indexOf_1.cc 113 = .ok (.iinc 7 1, 3) := dk_JStringLatin1_indexOf_1_b1 (113, .iinc 7 1, 3) (List.mem_of_getElem? (i := 1) rfl)
theorem dd_JStringLatin1_indexOf_1_116 : decode mt_JStringLatin1_indexOf_1.cc 116 = .ok (.goto (-102), 3) := dk_JStringLatin1_indexOf_1_b1 (116, .goto (-102), 3) (List.mem_of_getElem? (i := 2) rfl)
theorem dd_JStringLatin1_indexOf_1_119 : decode mt_JStringLatin1_indexOf_1.cc 119 = .ok (.iconst (-1), 1) := dk_JStringLatin1_indexOf_1_b1 (119, .iconst (-1), 1) (List.mem_of_getElem? (i := 3) rfl)
theorem dd_JStringLatin1_indexOf_1_120 : decode mt_JStringLatin1_indexOf_1.cc 120 = .ok (.ireturn, 1) := dk_JStringLatin1_indexOf_1_b1 (120, .ireturn, 1) (List.mem_of_getElem? (i := 4) rfl)
theorem cw_JStringLatin1_indexOf_1 : gj_cw mt_JStringLatin1_indexOf_1 ∈ tw_all := mw_1509
theorem pl_JStringLatin1_indexOf_1 : gj_plain mt_JStringLatin1_indexOf_1.y := ⟨by decide +kernel, by decide +kernel⟩
theorem pn_JStringLatin1_indexOf_1 : plainName mt_JStringLatin1_indexOf_1.y.cls = true := by decide +kernel
theorem np_JStringLatin1_indexOf_1 : gj_np mt_JStringLatin1_indexOf_1.y = some 5 := by decide +kernel
def mt_JStringLatin1_indexOf_0 : Mt := (⟨"java/lang/StringLatin1", "indexOf", "([BIII)I"⟩, prog_31_method_22_code, 4, some .int, [])
def dl_JStringLatin1_indexOf_0_b0 : List (Nat × Instr × Nat) := [(0, .iload_n 1, 1), (1, .invokestatic 88, 3), (4, .ifCond .ne 5, 3), (7, .iconst (-1), 1), (8, .ireturn, 1), (9, .iload_n 2, 1), (10, .iconst 0, 1), (11, .invokestatic 92, 3), (14, .istore_n 2, 1), (15, .iload_n 3, 1), (16, .aload_n 0, 1), (17, .arraylength, 1), (18, .invokestatic 38, 3), (21, .istore_n 3, 1), (22, .iload_n 2, 1), (23, .iload_n 3, 1), (24, .if_icmp .lt 5, 3), (27, .iconst (-1), 1), (28, .ireturn, 1), (29, .aload_n 0, 1), (30, .iload_n 1, 1), (31, .iload_n 2, 1), (32, .iload_n 3, 1), (33, .invokestatic 95, 3), (36, .ireturn, 1)]
set_option maxRecDepth 100000 in
theorem dk_JStringLatin1_indexOf_0_b0 : ∀ q ∈ dl_JStringLatin1_indexOf_0_b0, decode mt_JStringLatin1_indexOf_0.cc q.1 = .ok (q.2.1, q.2.2) := by decide +kernel
theorem dd_JStringLatin1_indexOf_0_0 : decode mt_JStringLatin1_indexOf_0.cc 0 = .ok (.iload_n 1, 1) := dk_JStringLatin1_indexOf_0_b0 (0, .iload_n 1, 1) (List.mem_of_getElem? (i := 0) rfl)
theorem dd_JStringLatin1_indexOf_0_1 : decode mt_JStringLatin1_indexOf_0.cc 1 = .ok (.invokestatic 88, 3) := dk_JStringLatin1_indexOf_0_b0 (1, .invokestatic 88, 3) (List.mem_of_getElem? (i := 1) rfl)
theorem dd_JStringLatin1_indexOf_0_4 : decode mt_JStringLatin1_indexOf_0.cc 4 = .ok (.ifCond .ne 5, 3) := dk_JStringLatin1_indexOf_0_b0 (4, .ifCond .ne 5, 3) (List.mem_of_getElem? (i := 2) rfl)
theorem dd_JStringLatin1_indexOf_0_7 : decode mt_JStringLatin1_indexOf_0.cc 7 = .ok (.iconst (-1), 1) := dk_JStringLatin1_indexOf_0_b0 (7, .iconst (-1), 1) (List.mem_of_getElem? (i := 3) rfl)
theorem dd_JStringLatin1_indexOf_0_8 : decode mt_JStringLatin1_indexOf_0.cc 8 = .ok (.ireturn, 1) := dk_JStringLatin1_indexOf_0_b0 (8, .ireturn, 1) (List.mem_of_getElem? (i := 4) rfl)
theorem dd_JStringLatin1_indexOf_0_9 : decode mt_JStringLatin1_indexOf_0.cc 9 = .ok (.iload_n 2, 1) := dk_JStringLatin1_indexOf_0_b0 (9, .iload_n 2, 1) (List.mem_of_getElem? (i := 5) rfl)
theorem dd_JStringLatin1_indexOf_0_10 : decode mt_JStringLatin1_indexOf_0.cc 10 = .ok (.iconst 0, 1) := dk_JStringLatin1_indexOf_0_b0 (10, .iconst 0, 1) (List.mem_of_getElem? (i := 6) rfl)
theorem dd_JStringLatin1_indexOf_0_11 : decode mt_JStringLatin1_indexOf_0.cc 11 = .ok (.invokestatic 92, 3) := dk_JStringLatin1_indexOf_0_b0 (11, .invokestatic 92, 3) (List.mem_of_getElem? (i := 7) rfl)
theorem dd_JStringLatin1_indexOf_0_14 : decode mt_JStringLatin1_indexOf_0.cc 14 = .ok (.istore_n 2, 1) := dk_JStringLatin1_indexOf_0_b0 (14, .istore_n 2, 1) (List.mem_of_getElem? (i := 8) rfl)
theorem dd_JStringLatin1_indexOf_0_15 : decode mt_JStringLatin1_indexOf_0.cc 15 = .ok (.iload_n 3, 1) := dk_JStringLatin1_indexOf_0_b0 (15, .iload_n 3, 1) (List.mem_of_getElem? (i := 9) rfl)
theorem dd_JStringLatin1_indexOf_0_16 : decode mt_JStringLatin1_indexOf_0.cc 16 = .ok (.aload_n 0, 1) := dk_JStringLatin1_indexOf_0_b0 (16, .aload_n 0, 1) (List.mem_of_getElem? (i := 10) rfl)
theorem dd_JStringLatin1_indexOf_0_17 : decode mt_JStringLatin1_indexOf_0.cc 17 = .ok (.arraylength, 1) := dk_JStringLatin1_indexOf_0_b0 (17, .arraylength, 1) (List.mem_of_getElem? (i := 11) rfl)
theorem dd_JStringLatin1_indexOf_0_18 : decode mt_JStringLatin1_indexOf_0.cc 18 = .ok (.invokestatic 38, 3) := dk_JStringLatin1_indexOf_0_b0 (18, .invokestatic 38, 3) (List.mem_of_getElem? (i := 12) rfl)
theorem dd_JStringLatin1_indexOf_0_21 : decode mt_JStringLatin1_indexOf_0.cc 21 = .ok (.istore_n 3, 1) := dk_JStringLatin1_indexOf_0_b0 (21, .istore_n 3, 1) (List.mem_of_getElem? (i := 13) rfl)
theorem dd_JStringLatin1_indexOf_0_22 : decode mt_JStringLatin1_indexOf_0.cc 22 = .ok (.iload_n 2, 1) := dk_JStringLatin1_indexOf_0_b0 (22, .iload_n 2, 1) (List.mem_of_getElem? (i := 14) rfl)
theorem dd_JStringLatin1_indexOf_0_23 : decode mt_JStringLatin1_indexOf_0.cc 23 = .ok (.iload_n 3, 1) := dk_JStringLatin1_indexOf_0_b0 (23, .iload_n 3, 1) (List.mem_of_getElem? (i := 15) rfl)
theorem dd_JStringLatin1_indexOf_0_24 : decode mt_JStringLatin1_indexOf_0.cc 24 = .ok (.if_icmp .lt 5, 3) := dk_JStringLatin1_indexOf_0_b0 (24, .if_icmp .lt 5, 3) (List.mem_of_getElem? (i := 16) rfl)
theorem dd_JStringLatin1_indexOf_0_27 : decode mt_JStringLatin1_indexOf_0.cc 27 = .ok (.iconst (-1), 1) := dk_JStringLatin1_indexOf_0_b0 (27, .iconst (-1), 1) (List.mem_of_getElem? (i := 17) rfl)
theorem dd_JStringLatin1_indexOf_0_28 : decode mt_JStringLatin1_indexOf_0.cc 28 = .ok (.ireturn, 1) := dk_JStringLatin1_indexOf_0_b0 (28, .ireturn, 1) (List.mem_of_getElem? (i := 18) rfl)
theorem dd_JStringLatin1_indexOf_0_29 : decode mt_JStringLatin1_indexOf_0.cc 29 = .ok (.aload_n 0, 1) := dk_JStringLatin1_indexOf_0_b0 (29, .aload_n 0, 1) (List.mem_of_getElem? (i := 19) rfl)
theorem dd_JStringLatin1_indexOf_0_30 : decode mt_JStringLatin1_indexOf_0.cc 30 = .ok (.iload_n 1, 1) := dk_JStringLatin1_indexOf_0_b0 (30, .iload_n 1, 1) (List.mem_of_getElem? (i := 20) rfl)
theorem dd_JStringLatin1_indexOf_0_31 : decode mt_JStringLatin1_indexOf_0.cc 31 = .ok (.iload_n 2, 1) := dk_JStringLatin1_indexOf_0_b0 (31, .iload_n 2, 1) (List.mem_of_getElem? (i := 21) rfl)
theorem dd_JStringLatin1_indexOf_0_32 : decode mt_JStringLatin1_indexOf_0.cc 32 = .ok (.iload_n 3, 1) := dk_JStringLatin1_indexOf_0_b0 (32, .iload_n 3, 1) (List.mem_of_getElem? (i := 22) rfl)
theorem dd_JStringLatin1_indexOf_0_33 : decode mt_JStringLatin1_indexOf_0.cc 33 = .ok (.invokestatic 95, 3) := dk_JStringLatin1_indexOf_0_b0 (33, .invokestatic 95, 3) (List.mem_of_getElem? (i := 23) rfl)
theorem dd_JStringLatin1_indexOf_0_36 : decode mt_JStringLatin1_indexOf_0.cc 36 = .ok (.ireturn, 1) := dk_JStringLatin1_indexOf_0_b0 (36, .ireturn, 1) (List.mem_of_getElem? (i := 24) rfl)
theorem cw_JStringLatin1_indexOf_0 : gj_cw mt_JStringLatin1_indexOf_0 ∈ tw_all := mw_1541
theorem pl_JStringLatin1_indexOf_0 : gj_plain mt_JStringLatin1_indexOf_0.y := ⟨by decide +kernel, by decide +kernel⟩
theorem pn_JStringLatin1_indexOf_0 : plainName mt_JStringLatin1_indexOf_0.y.cls = true := by decide +kernel
theorem np_JStringLatin1_indexOf_0 : gj_np mt_JStringLatin1_indexOf_0.y = some 4 := by decide +kernel
def mt_JStringLatin1_canEncode_1 : Mt := (⟨"java/lang/StringLatin1", "canEncode", "(I)Z"⟩, prog_31_method_4_code, 1, some .boolean, [])
def dl_JStringLatin1_canEncode_1_b0 : List (Nat × Instr × Nat) := [(0, .iload_n 0, 1), (1, .ifCond .lt 14, 3), (4, .iload_n 0, 1), (5, .sipush 255, 3), (8, .if_icmp .gt 7, 3), (11, .iconst 1, 1), (12, .goto 4, 3), (15, .iconst 0, 1), (16, .ireturn, 1)]
set_option maxRecDepth 100000 in
theorem dk_JStringLatin1_canEncode_1_b0 : ∀ q ∈ dl_JStringLatin1_canEncode_1_b0, decode mt_JStringLatin1_canEncode_1.cc q.1 = .ok (q.2.1, q.2.2) := by decide +kernel
theorem dd_JStringLatin1_canEncode_1_0 : decode mt_JStringLatin1_canEncode_1.cc 0 = .ok (.iload_n 0, 1) := dk_JStringLatin1_canEncode_1_b0 (0, .iload_n 0, 1) (List.mem_of_getElem? (i := 0) rfl)
theorem dd_JStringLatin1_canEncode_1_1 : decode mt_JStringLatin1_canEncode_1.cc 1 = .ok (.ifCond .lt 14, 3) := dk_JStringLatin1_canEncode_1_b0 (1, .ifCond .lt 14, 3) (List.mem_of_getElem? (i := 1) rfl)
theorem dd_JStringLatin1_canEncode_1_4 : decode mt_JStringLatin1_canEncode_1.cc 4 = .ok (.iload_n 0, 1) := dk_JStringLatin1_canEncode_1_b0 (4, .iload_n 0, 1) (List.mem_of_getElem? (i := 2) rfl)
theorem dd_JStringLatin1_canEncode_1_5 : decode mt_JStringLatin1_canEncode_1.cc 5 = .ok (.sipush 255, 3) := dk_JStringLatin1_canEncode_1_b0 (5, .sipush 255, 3) (List.mem_of_getElem? (i := 3) rfl)
theorem dd_JStringLatin1_canEncode_1_8 : decode mt_JStringLatin1_canEncode_1.cc 8 = .ok (.if_icmp .gt 7, 3) := dk_JStringLatin1_canEncode_1_b0 (8, .if_icmp .gt 7, 3) (List.mem_of_getElem? (i := 4) rfl)
theorem dd_JStringLatin1_canEncode_1_11 : decode mt_JStringLatin1_canEncode_1.cc 11 = .ok (.iconst 1, 1) := dk_JStringLatin1_canEncode_1_b0 (11, .iconst 1, 1) (List.mem_of_getElem? (i := 5) rfl)
theorem dd_JStringLatin1_canEncode_1_12 : decode mt_JStringLatin1_canEncode_1.cc 12 = .ok (.goto 4, 3) := dk_JStringLatin1_canEncode_1_b0 (12, .goto 4, 3) (List.mem_of_getElem? (i := 6) rfl)
theorem dd_JStringLatin1_canEncode_1_15 : decode mt_JStringLatin1_canEncode_1.cc 15 = .ok (.iconst 0, 1) := dk_JStringLatin1_canEncode_1_b0 (15, .iconst 0, 1) (List.mem_of_getElem? (i := 7) rfl)
theorem dd_JStringLatin1_canEncode_1_16 : decode mt_JStringLatin1_canEncode_1.cc 16 = .ok (.ireturn, 1) := dk_JStringLatin1_canEncode_1_b0 (16, .ireturn, 1) (List.mem_of_getElem? (i := 8) rfl)
theorem cw_JStringLatin1_canEncode_1 : gj_cw mt_JStringLatin1_canEncode_1 ∈ tw_all := mw_1544
theorem pl_JStringLatin1_canEncode_1 : gj_plain mt_JStringLatin1_canEncode_1.y := ⟨by decide +kernel, by decide +kernel⟩
theorem pn_JStringLatin1_canEncode_1 : plainName mt_JStringLatin1_canEncode_1.y.cls = true := by decide +kernel
theorem np_JStringLatin1_canEncode_1 : gj_np mt_JStringLatin1_canEncode_1.y = some 1 := by decide +kernel
def mt_JStringLatin1_indexOfChar : Mt := (⟨"java/lang/StringLatin1", "indexOfChar", "([BIII)I"⟩, prog_31_method_23_code, 6, some .int, [])
def dl_JStringLatin1_indexOfChar_b0 : List (Nat × Instr × Nat) := [(0, .iload_n 1, 1), (1, .i2b, 1), (2, .istore 4, 2), (4, .iload_n 2, 1), (5, .istore 5, 2), (7, .iload 5, 2), (9, .iload_n 3, 1), (10, .if_icmp .ge 21, 3), (13, .aload_n 0, 1), (14, .iload 5, 2), (16, .baload, 1), (17, .iload 4, 2), (19, .if_icmp .ne 6, 3), (22, .iload 5, 2), (24, .ireturn, 1), (25, .iinc 5 1, 3), (28, .goto (-21), 3), (31, .iconst (-1), 1), (32, .ireturn, 1)]
set_option maxRecDepth 100000 in
theorem dk_JStringLatin1_indexOfChar_b0 : ∀ q ∈ dl_JStringLatin1_indexOfChar_b0, decode mt_JStringLatin1_indexOfChar.cc q.1 = .ok (q.2.1, q.2.2) := by decide +kernel
theorem dd_JStringLatin1_indexOfChar_0 : decode mt_JStringLatin1_indexOfChar.cc 0 = .ok (.iload_n 1, 1) := dk_JStringLatin1_indexOfChar_b0 (0, .iload_n 1, 1) (List.mem_of_getElem? (i := 0) rfl)
theorem dd_JStringLatin1_indexOfChar_1 : decode mt_JStringLatin1_indexOfChar.cc 1 = .ok (.i2b, 1) := dk_JStringLatin1_indexOfChar_b0 (1, .i2b, 1) (List.mem_of_getElem? (i := 1) rfl)
theorem dd_JStringLatin1_indexOfChar_2 : decode mt_JStringLatin1_indexOfChar.cc 2 = .ok (.istore 4, 2) := dk_JStringLatin1_indexOfChar_b0 (2, .istore 4, 2) (List.mem_of_getElem? (i := 2) rfl)
theorem dd_JStringLatin1_indexOfChar_4 : decode mt_JStringLatin1_indexOfChar.cc 4 = .ok (.iload_n 2, 1) := dk_JStringLatin1_indexOfChar_b0 (4, .iload_n 2, 1) (List.mem_of_getElem? (i := 3) rfl)
theorem dd_JStringLatin1_indexOfChar_5 : decode mt_JStringLatin1_indexOfChar.cc 5 = .ok (.istore 5, 2) := dk_JStringLatin1_indexOfChar_b0 (5, .istore 5, 2) (List.mem_of_getElem? (i := 4) rfl)
theorem dd_JStringLatin1_indexOfChar_7 : decode mt_JStringLatin1_indexOfChar.cc 7 = .ok (.iload 5, 2) := dk_JStringLatin1_indexOfChar_b0 (7, .iload 5, 2) (List.mem_of_getElem? (i := 5) rfl)
theorem dd_JStringLatin1_indexOfChar_9 : decode mt_JStringLatin1_indexOfChar.cc 9 = .ok (.iload_n 3, 1) := dk_JStringLatin1_indexOfChar_b0 (9, .iload_n 3, 1) (List.mem_of_getElem? (i := 6) rfl)
theorem dd_JStringLatin1_indexOfChar_10 : decode mt_JStringLatin1_indexOfChar.cc 10 = .ok (.if_icmp .ge 21, 3) := dk_JStringLatin1_indexOfChar_b0 (10, .if_icmp .ge 21, 3) (List.mem_of_getElem? (i := 7) rfl)
theorem dd_JStringLatin1_indexOfChar_13 : decode mt_JStringLatin1_indexOfChar.cc 13 = .ok (.aload_n 0, 1) := dk_JStringLatin1_indexOfChar_b0 (13, .aload_n 0, 1) (List.mem_of_getElem? (i := 8) rfl)
theorem dd_JStringLatin1_indexOfChar_14 : decode mt_JStringLatin1_indexOfChar.cc 14 = .ok (.iload 5, 2) := dk_JStringLatin1_indexOfChar_b0 (14, .iload 5, 2) (List.mem_of_getElem? (i := 9) rfl)
theorem dd_JStringLatin1_indexOfChar_16 : decode mt_JStringLatin1_indexOfChar.cc 16 = .ok (.baload, 1) := dk_JStringLatin1_indexOfChar_b0 (16, .baload, 1) (List.mem_of_getElem? (i := 10) rfl)
theorem dd_JStringLatin1_indexOfChar_17 : decode mt_JStringLatin1_indexOfChar.cc 17 = .ok (.iload 4, 2) := dk_JStringLatin1_indexOfChar_b0 (17, .iload 4, 2) (List.mem_of_getElem? (i := 11) rfl)
theorem dd_JStringLatin1_indexOfChar_19 : decode mt_JStringLatin1_indexOfChar.cc 19 = .ok (.if_icmp .ne 6, 3) := dk_JStringLatin1_indexOfChar_b0 (19, .if_icmp .ne 6, 3) (List.mem_of_getElem? (i := 12) rfl)
theorem dd_JStringLatin1_indexOfChar_22 : decode mt_JStringLatin1_indexOfChar.cc 22 = .ok (.iload 5, 2) := dk_JStringLatin1_indexOfChar_b0 (22, .iload 5, 2) (List.mem_of_getElem? (i := 13) rfl)
theorem dd_JStringLatin1_indexOfChar_24 : decode mt_JStringLatin1_indexOfChar.cc 24 = .ok (.ireturn, 1) := dk_JStringLatin1_indexOfChar_b0 (24, .ireturn, 1) (List.mem_of_getElem? (i := 14) rfl)
theorem dd_JStringLatin1_indexOfChar_25 : decode mt_JStringLatin1_indexOfChar.cc 25 = .ok (.iinc 5 1, 3) := dk_JStringLatin1_indexOfChar_b0 (25, .iinc 5 1, 3) (List.mem_of_getElem? (i := 15) rfl)
theorem dd_JStringLatin1_indexOfChar_28 : decode mt_JStringLatin1_indexOfChar.cc 28 = .ok (.goto (-21), 3) := dk_JStringLatin1_indexOfChar_b0 (28, .goto (-21), 3) (List.mem_of_getElem? (i := 16) rfl)
theorem dd_JStringLatin1_indexOfChar_31 : decode mt_JStringLatin1_indexOfChar.cc 31 = .ok (.iconst (-1), 1) := dk_JStringLatin1_indexOfChar_b0 (31, .iconst (-1), 1) (List.mem_of_getElem? (i := 17) rfl)
theorem dd_JStringLatin1_indexOfChar_32 : decode mt_JStringLatin1_indexOfChar.cc 32 = .ok (.ireturn, 1) := dk_JStringLatin1_indexOfChar_b0 (32, .ireturn, 1) (List.mem_of_getElem? (i := 18) rfl)
theorem cw_JStringLatin1_indexOfChar : gj_cw mt_JStringLatin1_indexOfChar ∈ tw_all := mw_1549
theorem pl_JStringLatin1_indexOfChar : gj_plain mt_JStringLatin1_indexOfChar.y := ⟨by decide +kernel, by decide +kernel⟩
theorem pn_JStringLatin1_indexOfChar : plainName mt_JStringLatin1_indexOfChar.y.cls = true := by decide +kernel
theorem np_JStringLatin1_indexOfChar : gj_np mt_JStringLatin1_indexOfChar.y = some 4 := by decide +kernel
def mt_JStringLatin1_equals : Mt := (⟨"java/lang/StringLatin1", "equals", "([B[B)Z"⟩, prog_31_method_13_code, 3, some .boolean, [])
def dl_JStringLatin1_equals_b0 : List (Nat × Instr × Nat) := [(0, .aload_n 0, 1), (1, .arraylength, 1), (2, .aload_n 1, 1), (3, .arraylength, 1), (4, .if_icmp .ne 30, 3), (7, .iconst 0, 1), (8, .istore_n 2, 1), (9, .iload_n 2, 1), (10, .aload_n 0, 1), (11, .arraylength, 1), (12, .if_icmp .ge 20, 3), (15, .aload_n 0, 1), (16, .iload_n 2, 1), (17, .baload, 1), (18, .aload_n 1, 1), (19, .iload_n 2, 1), (20, .baload, 1), (21, .if_icmp .eq 5, 3), (24, .iconst 0, 1), (25, .ireturn, 1), (26, .iinc 2 1, 3), (29, .goto (-20), 3), (32, .iconst 1, 1), (33, .ireturn, 1), (34, .iconst 0, 1), (35, .ireturn, 1)]
set_option maxRecDepth 100000 in
theorem dk_JStringLatin1_equals_b0 : ∀ q ∈ dl_JStringLatin1_equals_b0, decode mt_JStringLatin1_equals.cc q.1 = .ok (q.2.1, q.2.2) := by decide +kernel
theorem dd_JStringLatin1_equals_0 : decode mt_JStringLatin1_equals.cc 0 = .ok (.aload_n 0, 1) := dk_JStringLatin1_equals_b0 (0, .aload_n 0, 1) (List.mem_of_getElem? (i := 0) rfl)
theorem dd_JStringLatin1_equals_1 : decode mt_JStringLatin1_equals.cc 1 = .ok (.arraylength, 1) := dk_JStringLatin1_equals_b0 (1, .arraylength, 1) (List.mem_of_getElem? (i := 1) rfl)
theorem dd_JStringLatin1_equals_2 : decode mt_JStringLatin1_equals.cc 2 = .ok (.aload_n 1, 1) := dk_JStringLatin1_equals_b0 (2, .aload_n 1, 1) (List.mem_of_getElem? (i := 2) rfl)
theorem dd_JStringLatin1_equals_3 : decode mt_JStringLatin1_equals.cc 3 = .ok (.arraylength, 1) := dk_JStringLatin1_equals_b0 (3, .arraylength, 1) (List.mem_of_getElem? (i := 3) rfl)
theorem dd_JStringLatin1_equals_4 : decode mt_JStringLatin1_equals.cc 4 = .ok (.if_icmp .ne 30, 3) := dk_JStringLatin1_equals_b0 (4, .if_icmp .ne 30, 3) (List.mem_of_getElem? (i := 4) rfl)
theorem dd_JStringLatin1_equals_7 : decode mt_JStringLatin1_equals.cc 7 = .ok (.iconst 0, 1) := dk_JStringLatin1_equals_b0 (7, .iconst 0, 1) (List.mem_of_getElem? (i := 5) rfl)
theorem dd_JStringLatin1_equals_8 : decode mt_JStringLatin1_equals.cc 8 = .ok (.istore_n 2, 1) := dk_JStringLatin1_equals_b0 (8, .istore_n 2, 1) (List.mem_of_getElem? (i := 6) rfl)
theorem dd_JStringLatin1_equals_9 : decode mt_JStringLatin1_equals.cc 9 = .ok (.iload_n 2, 1) := dk_JStringLatin1_equals_b0 (9, .iload_n 2, 1) (List.mem_of_getElem? (i := 7) rfl)
theorem dd_JStringLatin1_equals_10 : decode mt_JStringLatin1_equals.cc 10 = .ok (.aload_n 0, 1) := dk_JStringLatin1_equals_b0 (10, .aload_n 0, 1) (List.mem_of_getElem? (i := 8) rfl)
theorem dd_JStringLatin1_equals_11 : decode mt_JStringLatin1_equals.cc 11 = .ok (.arraylength, 1) := dk_JStringLatin1_equals_b0 (11, .arraylength, 1) (List.mem_of_getElem? (i := 9) rfl)
theorem dd_JStringLatin1_equals_12 : decode mt_JStringLatin1_equals.cc 12 = .ok (.if_icmp .ge 20, 3) := dk_JStringLatin1_equals_b0 (12, .if_icmp .ge 20, 3) (List.mem_of_getElem? (i := 10) rfl)
theorem dd_JStringLatin1_equals_15 : decode mt_JStringLatin1_equals.cc 15 = .ok (.aload_n 0, 1) := dk_JStringLatin1_equals_b0 (15, .aload_n 0, 1) (List.mem_of_getElem? (i := 11) rfl)
theorem dd_JStringLatin1_equals_16 : decode mt_JStringLatin1_equals.cc 16 = .ok (.iload_n 2, 1) := dk_JStringLatin1_equals_b0 (16, .iload_n 2, 1) (List.mem_of_getElem? (i := 12) rfl)
theorem dd_JStringLatin1_equals_17 : decode mt_JStringLatin1_equals.cc 17 = .ok (.baload, 1) := dk_JStringLatin1_equals_b0 (17, .baload, 1) (List.mem_of_getElem? (i := 13) rfl)
theorem dd_JStringLatin1_equals_18 : decode mt_JStringLatin1_equals.cc 18 = .ok (.aload_n 1, 1) := dk_JStringLatin1_equals_b0 (18, .aload_n 1, 1) (List.mem_of_getElem? (i := 14) rfl)
theorem dd_JStringLatin1_equals_19 : decode mt_JStringLatin1_equals.cc 19 = .ok (.iload_n 2, 1) := dk_JStringLatin1_equals_b0 (19, .iload_n 2, 1) (List.mem_of_getElem? (i := 15) rfl)
theorem dd_JStringLatin1_equals_20 : decode mt_JStringLatin1_equals.cc 20 = .ok (.baload, 1) := dk_JStringLatin1_equals_b0 (20, .baload, 1) (List.mem_of_getElem? (i := 16) rfl)
theorem dd_JStringLatin1_equals_21 : decode mt_JStringLatin1_equals.cc 21 = .ok (.if_icmp .eq 5, 3) := dk_JStringLatin1_equals_b0 (21, .if_icmp .eq 5, 3) (List.mem_of_getElem? (i := 17) rfl)
theorem dd_JStringLatin1_equals_24 : decode mt_JStringLatin1_equals.cc 24 = .ok (.iconst 0, 1) := dk_JStringLatin1_equals_b0 (24, .iconst 0, 1) (List.mem_of_getElem? (i := 18) rfl)
theorem dd_JStringLatin1_equals_25 : decode mt_JStringLatin1_equals.cc 25 = .ok (.ireturn, 1) := dk_JStringLatin1_equals_b0 (25, .ireturn, 1) (List.mem_of_getElem? (i := 19) rfl)
theorem dd_JStringLatin1_equals_26 : decode mt_JStringLatin1_equals.cc 26 = .ok (.iinc 2 1, 3) := dk_JStringLatin1_equals_b0 (26, .iinc 2 1, 3) (List.mem_of_getElem? (i := 20) rfl)
theorem dd_JStringLatin1_equals_29 : decode mt_JStringLatin1_equals.cc 29 = .ok (.goto (-20), 3) := dk_JStringLatin1_equals_b0 (29, .goto (-20), 3) (List.mem_of_getElem? (i := 21) rfl)
theorem dd_JStringLatin1_equals_32 : decode mt_JStringLatin1_equals.cc 32 = .ok (.iconst 1, 1) := dk_JStringLatin1_equals_b0 (32, .iconst 1, 1) (List.mem_of_getElem? (i := 22) rfl)
theorem dd_JStringLatin1_equals_33 : decode mt_JStringLatin1_equals.cc 33 = .ok (.ireturn, 1) := dk_JStringLatin1_equals_b0 (33, .ireturn, 1) (List.mem_of_getElem? (i := 23) rfl)
theorem dd_JStringLatin1_equals_34 : decode mt_JStringLatin1_equals.cc 34 = .ok (.iconst 0, 1) := dk_JStringLatin1_equals_b0 (34, .iconst 0, 1) (List.mem_of_getElem? (i := 24) rfl)
theorem dd_JStringLatin1_equals_35 : decode mt_JStringLatin1_equals.cc 35 = .ok (.ireturn, 1) := dk_JStringLatin1_equals_b0 (35, .ireturn, 1) (List.mem_of_getElem? (i := 25) rfl)
theorem cw_JStringLatin1_equals : gj_cw mt_JStringLatin1_equals ∈ tw_all := mw_1612
theorem pl_JStringLatin1_equals : gj_plain mt_JStringLatin1_equals.y := ⟨by decide +kernel, by decide +kernel⟩
theorem pn_JStringLatin1_equals : plainName mt_JStringLatin1_equals.y.cls = true := by decide +kernel
theorem np_JStringLatin1_equals : gj_np mt_JStringLatin1_equals.y = some 2 := by decide +kernel
