def mt_JString_length : Mt := (⟨"java/lang/String", "length", "()I"⟩, prog_29_method_54_code, 1, some .int, [])
def dl_JString_length_b0 : List (Nat × Instr × Nat) := [(0, .aload_n 0, 1), (1, .getfield 9, 3), (4, .arraylength, 1), (5, .aload_n 0, 1), (6, .invokevirtual 335, 3), (9, .ishr, 1), (10, .ireturn, 1)]
set_option maxRecDepth 100000 in
theorem dk_JString_length_b0 : ∀ q ∈ dl_JString_length_b0, decode mt_JString_length.cc q.1 = .ok (q.2.1, q.2.2) := by decide +kernel
theorem dd_JString_length_0 : decode mt_JString_length.cc 0 = .ok (.aload_n 0, 1) := dk_JString_length_b0 (0, .aload_n 0, 1) (List.mem_of_getElem? (i := 0) rfl)
theorem dd_JString_length_1 : decode mt_JString_length.cc 1 = .ok (.getfield 9, 3) := dk_JString_length_b0 (1, .getfield 9, 3) (List.mem_of_getElem? (i := 1) rfl)
theorem dd_JString_length_4 : decode mt_JString_length.cc 4 = .ok (.arraylength, 1) := dk_JString_length_b0 (4, .arraylength, 1) (List.mem_of_getElem? (i := 2) rfl)
theorem dd_JString_length_5 : decode mt_JString_length.cc 5 = .ok (.aload_n 0, 1) := dk_JString_length_b0 (5, .aload_n 0, 1) (List.mem_of_getElem? (i := 3) rfl)
theorem dd_JString_length_6 : decode mt_JString_length.cc 6 = .ok (.invokevirtual 335, 3) := dk_JString_length_b0 (6, .invokevirtual 335, 3) (List.mem_of_getElem? (i := 4) rfl)
theorem dd_JString_length_9 : decode mt_JString_length.cc 9 = .ok (.ishr, 1) := dk_JString_length_b0 (9, .ishr, 1) (List.mem_of_getElem? (i := 5) rfl)
theorem dd_JString_length_10 : decode mt_JString_length.cc 10 = .ok (.ireturn, 1) := dk_JString_length_b0 (10, .ireturn, 1) (List.mem_of_getElem? (i := 6) rfl)
theorem cw_JString_length : gj_cw mt_JString_length ∈ tw_all := mw_449
theorem pl_JString_length : gj_plain mt_JString_length.y := ⟨by decide +kernel, by decide +kernel⟩
theorem pn_JString_length : plainName mt_JString_length.y.cls = true := by decide +kernel
theorem np_JString_length : gj_np mt_JString_length.y = some 0 := by decide +kernel
def mt_JString_coder : Mt := (⟨"java/lang/String", "coder", "()B"⟩, prog_29_method_152_code, 1, some .byte, [])
def dl_JString_coder_b0 : List (Nat × Instr × Nat) := [(0, .getstatic 38, 3), (3, .ifCond .eq 10, 3), (6, .aload_n 0, 1), (7, .getfield 15, 3), (10, .goto 4, 3), (13, .iconst 1, 1), (14, .ireturn, 1)]
set_option maxRecDepth 100000 in
theorem dk_JString_coder_b0 : ∀ q ∈ dl_JString_coder_b0, decode mt_JString_coder.cc q.1 = .ok (q.2.1, q.2.2) := by decide +kernel
theorem dd_JString_coder_0 : decode mt_JString_coder.cc 0 = .ok (.getstatic 38, 3) := dk_JString_coder_b0 (0, .getstatic 38, 3) (List.mem_of_getElem? (i := 0) rfl)
theorem dd_JString_coder_3 : decode mt_JString_coder.cc 3 = .ok (.ifCond .eq 10, 3) := dk_JString_coder_b0 (3, .ifCond .eq 10, 3) (List.mem_of_getElem? (i := 1) rfl)
theorem dd_JString_coder_6 : decode mt_JString_coder.cc 6 = .ok (.aload_n 0, 1) := dk_JString_coder_b0 (6, .aload_n 0, 1) (List.mem_of_getElem? (i := 2) rfl)
theorem dd_JString_coder_7 : decode mt_JString_coder.cc 7 = .ok (.getfield 15, 3) := dk_JString_coder_b0 (7, .getfield 15, 3) (List.mem_of_getElem? (i := 3) rfl)
theorem dd_JString_coder_10 : decode mt_JString_coder.cc 10 = .ok (.goto 4, 3) := dk_JString_coder_b0 (10, .goto 4, 3) (List.mem_of_getElem? (i := 4) rfl)
theorem dd_JString_coder_13 : decode mt_JString_coder.cc 13 = .ok (.iconst 1, 1) := dk_JString_coder_b0 (13, .iconst 1, 1) (List.mem_of_getElem? (i := 5) rfl)
theorem dd_JString_coder_14 : decode mt_JString_coder.cc 14 = .ok (.ireturn, 1) := dk_JString_coder_b0 (14, .ireturn, 1) (List.mem_of_getElem? (i := 6) rfl)
theorem cw_JString_coder : gj_cw mt_JString_coder ∈ tw_all := mw_453
theorem pl_JString_coder : gj_plain mt_JString_coder.y := ⟨by decide +kernel, by decide +kernel⟩
theorem pn_JString_coder : plainName mt_JString_coder.y.cls = true := by decide +kernel
theorem np_JString_coder : gj_np mt_JString_coder.y = some 0 := by decide +kernel
def mt_JString_charAt : Mt := (⟨"java/lang/String", "charAt", "(I)C"⟩, prog_29_method_56_code, 2, some .char, [])
def dl_JString_charAt_b0 : List (Nat × Instr × Nat) := [(0, .aload_n 0, 1), (1, .invokevirtual 492, 3), (4, .ifCond .eq 12, 3), (7, .aload_n 0, 1), (8, .getfield 9, 3), (11, .iload_n 1, 1), (12, .invokestatic 495, 3), (15, .ireturn, 1), (16, .aload_n 0, 1), (17, .getfield 9, 3), (20, .iload_n 1, 1), (21, .invokestatic 498, 3), (24, .ireturn, 1)]
set_option maxRecDepth 100000 in
theorem dk_JString_charAt_b0 : ∀ q ∈ dl_JString_charAt_b0, decode mt_JString_charAt.cc q.1 = .ok (q.2.1, q.2.2) := by decide +kernel
theorem dd_JString_charAt_0 : decode mt_JString_charAt.cc 0 = .ok (.aload_n 0, 1) := dk_JString_charAt_b0 (0, .aload_n 0, 1) (List.mem_of_getElem? (i := 0) rfl)
theorem dd_JString_charAt_1 : decode mt_JString_charAt.cc 1 = .ok (.invokevirtual 492, 3) := dk_JString_charAt_b0 (1, .invokevirtual 492, 3) (List.mem_of_getElem? (i := 1) rfl)
theorem dd_JString_charAt_4 : decode mt_JString_charAt.cc 4 = .ok (.ifCond .eq 12, 3) := dk_JString_charAt_b0 (4, .ifCond .eq 12, 3) (List.mem_of_getElem? (i := 2) rfl)
theorem dd_JString_charAt_7 : decode mt_JString_charAt.cc 7 = .ok (.aload_n 0, 1) := dk_JString_charAt_b0 (7, .aload_n 0, 1) (List.mem_of_getElem? (i := 3) rfl)
theorem dd_JString_charAt_8 : decode mt_JString_charAt.cc 8 = .ok (.getfield 9, 3) := dk_JString_charAt_b0 (8, .getfield 9, 3) (List.mem_of_getElem? (i := 4) rfl)
theorem dd_JString_charAt_11 : decode mt_JString_charAt.cc 11 = .ok (.iload_n 1, 1) := dk_JString_charAt_b0 (11, .iload_n 1, 1) (List.mem_of_getElem? (i := 5) rfl)
theorem dd_JString_charAt_12 : decode mt_JString_charAt.cc 12 = .ok (.invokestatic 495, 3) := dk_JString_charAt_b0 (12, .invokestatic 495, 3) (List.mem_of_getElem? (i := 6) rfl)
theorem dd_JString_charAt_15 : decode mt_JString_charAt.cc 15 = .ok (.ireturn, 1) := dk_JString_charAt_b0 (15, .ireturn, 1) (List.mem_of_getElem? (i := 7) rfl)
theorem dd_JString_charAt_16 : decode mt_JString_charAt.cc 16 = .ok (.aload_n 0, 1) := dk_JString_charAt_b0 (16, .aload_n 0, 1) (List.mem_of_getElem? (i := 8) rfl)
theorem dd_JString_charAt_17 : decode mt_JString_charAt.cc 17 = .ok (.getfield 9, 3) := dk_JString_charAt_b0 (17, .getfield 9, 3) (List.mem_of_getElem? (i := 9) rfl)
theorem dd_JString_charAt_20 : decode mt_JString_charAt.cc 20 = .ok (.iload_n 1, 1) := dk_JString_charAt_b0 (20, .iload_n 1, 1) (List.mem_of_getElem? (i := 10) rfl)
theorem dd_JString_charAt_21 : decode mt_JString_charAt.cc 21 = .ok (.invokestatic 498, 3) := dk_JString_charAt_b0 (21, .invokestatic 498, 3) (List.mem_of_getElem? (i := 11) rfl)
theorem dd_JString_charAt_24 : decode mt_JString_charAt.cc 24 = .ok (.ireturn, 1) := dk_JString_charAt_b0 (24, .ireturn, 1) (List.mem_of_getElem? (i := 12) rfl)
theorem cw_JString_charAt : gj_cw mt_JString_charAt ∈ tw_all := mw_462
theorem pl_JString_charAt : gj_plain mt_JString_charAt.y := ⟨by decide +kernel, by decide +kernel⟩
theorem pn_JString_charAt : plainName mt_JString_charAt.y.cls = true := by decide +kernel
theorem np_JString_charAt : gj_np mt_JString_charAt.y = some 1 := by decide +kernel
def mt_JString_isLatin1 : Mt := (⟨"java/lang/String", "isLatin1", "()Z"⟩, prog_29_method_154_code, 1, some .boolean, [])
def dl_JString_isLatin1_b0 : List (Nat × Instr × Nat) := [(0, .getstatic 38, 3), (3, .ifCond .eq 14, 3), (6, .aload_n 0, 1), (7, .getfield 15, 3), (10, .ifCond .ne 7, 3), (13, .iconst 1, 1), (14, .goto 4, 3), (17, .iconst 0, 1), (18, .ireturn, 1)]
set_option maxRecDepth 100000 in
theorem dk_JString_isLatin1_b0 : ∀ q ∈ dl_JString_isLatin1_b0, decode mt_JString_isLatin1.cc q.1 = .ok (q.2.1, q.2.2) := by decide +kernel
theorem dd_JString_isLatin1_0 : decode mt_JString_isLatin1.cc 0 = .ok (.getstatic 38, 3) := dk_JString_isLatin1_b0 (0, .getstatic 38, 3) (List.mem_of_getElem? (i := 0) rfl)
theorem dd_JString_isLatin1_3 : decode mt_JString_isLatin1.cc 3 = .ok (.ifCond .eq 14, 3) := dk_JString_isLatin1_b0 (3, .ifCond .eq 14, 3) (List.mem_of_getElem? (i := 1) rfl)
theorem dd_JString_isLatin1_6 : decode mt_JString_isLatin1.cc 6 = .ok (.aload_n 0, 1) := dk_JString_isLatin1_b0 (6, .aload_n 0, 1) (List.mem_of_getElem? (i := 2) rfl)
theorem dd_JString_isLatin1_7 : decode mt_JString_isLatin1.cc 7 = .ok (.getfield 15, 3) := dk_JString_isLatin1_b0 (7, .getfield 15, 3) (List.mem_of_getElem? (i := 3) rfl)
theorem dd_JString_isLatin1_10 : decode mt_JString_isLatin1.cc 10 = .ok (.ifCond .ne 7, 3) := dk_JString_isLatin1_b0 (10, .ifCond .ne 7, 3) (List.mem_of_getElem? (i := 4) rfl)
theorem dd_JString_isLatin1_13 : decode mt_JString_isLatin1.cc 13 = .ok (.iconst 1, 1) := dk_JString_isLatin1_b0 (13, .iconst 1, 1) (List.mem_of_getElem? (i := 5) rfl)
theorem dd_JString_isLatin1_14 : decode mt_JString_isLatin1.cc 14 = .ok (.goto 4, 3) := dk_JString_isLatin1_b0 (14, .goto 4, 3) (List.mem_of_getElem? (i := 6) rfl)
theorem dd_JString_isLatin1_17 : decode mt_JString_isLatin1.cc 17 = .ok (.iconst 0, 1) := dk_JString_isLatin1_b0 (17, .iconst 0, 1) (List.mem_of_getElem? (i := 7) rfl)
theorem dd_JString_isLatin1_18 : decode mt_JString_isLatin1.cc 18 = .ok (.ireturn, 1) := dk_JString_isLatin1_b0 (18, .ireturn, 1) (List.mem_of_getElem? (i := 8) rfl)
theorem cw_JString_isLatin1 : gj_cw mt_JString_isLatin1 ∈ tw_all := mw_466
theorem pl_JString_isLatin1 : gj_plain mt_JString_isLatin1.y := ⟨by decide +kernel, by decide +kernel⟩
theorem pn_JString_isLatin1 : plainName mt_JString_isLatin1.y.cls = true := by decide +kernel
theorem np_JString_isLatin1 : gj_np mt_JString_isLatin1.y = some 0 := by decide +kernel
def mt_JString_checkIndex : Mt := (⟨"java/lang/String", "checkIndex", "(II)V"⟩, prog_29_method_155_code, 2, none, [])
def dl_JString_checkIndex_b0 : List (Nat × Instr × Nat) := [(0, .iload_n 0, 1), (1, .iload_n 1, 1), (2, .getstatic 1053, 3), (5, .invokestatic 1059, 3), (8, .pop, 1), (9, .return_, 1)]
set_option maxRecDepth 100000 in
theorem dk_JString_checkIndex_b0 : ∀ q ∈ dl_JString_checkIndex_b0, decode mt_JString_checkIndex.cc q.1 = .ok (q.2.1, q.2.2) := by decide +kernel
theorem dd_JString_checkIndex_0 : decode mt_JString_checkIndex.cc 0 = .ok (.iload_n 0, 1) := dk_JString_checkIndex_b0 (0, .iload_n 0, 1) (List.mem_of_getElem? (i := 0) rfl)
theorem dd_JString_checkIndex_1 : decode mt_JString_checkIndex.cc 1 = .ok (.iload_n 1, 1) := dk_JString_checkIndex_b0 (1, .iload_n 1, 1) (List.mem_of_getElem? (i := 1) rfl)
theorem dd_JString_checkIndex_2 : decode mt_JString_checkIndex.cc 2 = .ok (.getstatic 1053, 3) := dk_JString_checkIndex_b0 (2, .getstatic 1053, 3) (List.mem_of_getElem? (i := 2) rfl)
theorem dd_JString_checkIndex_5 : decode mt_JString_checkIndex.cc 5 = .ok (.invokestatic 1059, 3) := dk_JString_checkIndex_b0 (5, .invokestatic 1059, 3) (List.mem_of_getElem? (i := 3) rfl)
theorem dd_JString_checkIndex_8 : decode mt_JString_checkIndex.cc 8 = .ok (.pop, 1) := dk_JString_checkIndex_b0 (8, .pop, 1) (List.mem_of_getElem? (i := 4) rfl)
theorem dd_JString_checkIndex_9 : decode mt_JString_checkIndex.cc 9 = .ok (.return_, 1) := dk_JString_checkIndex_b0 (9, .return_, 1) (List.mem_of_getElem? (i := 5) rfl)
theorem cw_JString_checkIndex : gj_cw mt_JString_checkIndex ∈ tw_all := mw_472
theorem pl_JString_checkIndex : gj_plain mt_JString_checkIndex.y := ⟨by decide +kernel, by decide +kernel⟩
theorem pn_JString_checkIndex : plainName mt_JString_checkIndex.y.cls = true := by decide +kernel
theorem np_JString_checkIndex : gj_np mt_JString_checkIndex.y = some 2 := by decide +kernel
def mt_JString_checkBoundsOffCount : Mt := (⟨"java/lang/String", "checkBoundsOffCount", "(III)I"⟩, prog_29_method_157_code, 3, some .int, [])
def dl_JString_checkBoundsOffCount_b0 : List (Nat × Instr × Nat) := [(0, .iload_n 0, 1), (1, .iload_n 1, 1), (2, .iload_n 2, 1), (3, .getstatic 1053, 3), (6, .invokestatic 1065, 3), (9, .ireturn, 1)]
set_option maxRecDepth 100000 in
theorem dk_JString_checkBoundsOffCount_b0 : ∀ q ∈ dl_JString_checkBoundsOffCount_b0, decode mt_JString_checkBoundsOffCount.cc q.1 = .ok (q.2.1, q.2.2) := by decide +kernel
theorem dd_JString_checkBoundsOffCount_0 : decode mt_JString_checkBoundsOffCount.cc 0 = .ok (.iload_n 0, 1) := dk_JString_checkBoundsOffCount_b0 (0, .iload_n 0, 1) (List.mem_of_getElem? (i := 0) rfl)
theorem dd_JString_checkBoundsOffCount_1 : decode mt_JString_checkBoundsOffCount.cc 1 = .ok (.iload_n 1, 1) := dk_JString_checkBoundsOffCount_b0 (1, .iload_n 1, 1) (List.mem_of_getElem? (i := 1) rfl)
theorem dd_JString_checkBoundsOffCount_2 : decode mt_JString_checkBoundsOffCount.cc 2 = .ok (.iload_n 2, 1) := dk_JString_checkBoundsOffCount_b0 (2, .iload_n 2, 1) (List.mem_of_getElem? (i := 2) rfl)
theorem dd_JString_checkBoundsOffCount_3 : decode mt_JString_checkBoundsOffCount.cc 3 = .ok (.getstatic 1053, 3) := dk_JString_checkBoundsOffCount_b0 (3, .getstatic 1053, 3) (List.mem_of_getElem? (i := 3) rfl)
theorem dd_JString_checkBoundsOffCount_6 : decode mt_JString_checkBoundsOffCount.cc 6 = .ok (.invokestatic 1065, 3) := dk_JString_checkBoundsOffCount_b0 (6, .invokestatic 1065, 3) (List.mem_of_getElem? (i := 4) rfl)
theorem dd_JString_checkBoundsOffCount_9 : decode mt_JString_checkBoundsOffCount.cc 9 = .ok (.ireturn, 1) := dk_JString_checkBoundsOffCount_b0 (9, .ireturn, 1) (List.mem_of_getElem? (i := 5) rfl)
theorem cw_JString_checkBoundsOffCount : gj_cw mt_JString_checkBoundsOffCount ∈ tw_all := mw_1350
theorem pl_JString_checkBoundsOffCount : gj_plain mt_JString_checkBoundsOffCount.y := ⟨by decide +kernel, by decide +kernel⟩
theorem pn_JString_checkBoundsOffCount : plainName mt_JString_checkBoundsOffCount.y.cls = true := by decide +kernel
theorem np_JString_checkBoundsOffCount : gj_np mt_JString_checkBoundsOffCount.y = some 3 := by decide +kernel
def mt_JString_init_1 : Mt := (⟨"java/lang/String", "<init>", "(Ljava/lang/StringBuilder;)V"⟩, prog_29_method_53_code, 2, none, [])
def dl_JString_init_1_b0 : List (Nat × Instr × Nat) := [(0, .aload_n 0, 1), (1, .aload_n 1, 1), (2, .aconst_null, 1), (3, .invokespecial 489, 3), (6, .return_, 1)]
set_option maxRecDepth 100000 in
theorem dk_JString_init_1_b0 : ∀ q ∈ dl_JString_init_1_b0, decode mt_JString_init_1.cc q.1 = .ok (q.2.1, q.2.2) := by decide +kernel
theorem dd_JString_init_1_0 : decode mt_JString_init_1.cc 0 = .ok (.aload_n 0, 1) := dk_JString_init_1_b0 (0, .aload_n 0, 1) (List.mem_of_getElem? (i := 0) rfl)
theorem dd_JString_init_1_1 : decode mt_JString_init_1.cc 1 = .ok (.aload_n 1, 1) := dk_JString_init_1_b0 (1, .aload_n 1, 1) (List.mem_of_getElem? (i := 1) rfl)
theorem dd_JString_init_1_2 : decode mt_JString_init_1.cc 2 = .ok (.aconst_null, 1) := dk_JString_init_1_b0 (2, .aconst_null, 1) (List.mem_of_getElem? (i := 2) rfl)
theorem dd_JString_init_1_3 : decode mt_JString_init_1.cc 3 = .ok (.invokespecial 489, 3) := dk_JString_init_1_b0 (3, .invokespecial 489, 3) (List.mem_of_getElem? (i := 3) rfl)
theorem dd_JString_init_1_6 : decode mt_JString_init_1.cc 6 = .ok (.return_, 1) := dk_JString_init_1_b0 (6, .return_, 1) (List.mem_of_getElem? (i := 4) rfl)
theorem cw_JString_init_1 : gj_cw mt_JString_init_1 ∈ tw_all := mw_1368
theorem pl_JString_init_1 : gj_plain mt_JString_init_1.y := ⟨by decide +kernel, by decide +kernel⟩
theorem pn_JString_init_1 : plainName mt_JString_init_1.y.cls = true := by decide +kernel
theorem np_JString_init_1 : gj_np mt_JString_init_1.y = some 1 := by decide +kernel
def mt_JString_init_0 : Mt := (⟨"java/lang/String", "<init>", "(Ljava/lang/AbstractStringBuilder;Ljava/lang/Void;)V"⟩, prog_29_method_150_code, 5, none, [])
def dl_JString_init_0_b0 : List (Nat × Instr × Nat) := [(0, .aload_n 0, 1), (1, .invokespecial 1, 3), (4, .aload_n 1, 1), (5, .invokevirtual 552, 3), (8, .astore_n 3, 1), (9, .aload_n 1, 1), (10, .invokevirtual 549, 3), (13, .istore 4, 2), (15, .aload_n 1, 1), (16, .invokevirtual 1047, 3), (19, .ifCond .eq 22, 3), (22, .aload_n 0, 1), (23, .iconst 0, 1), (24, .putfield 15, 3), (27, .aload_n 0, 1), (28, .aload_n 3, 1), (29, .iconst 0, 1), (30, .iload 4, 2), (32, .invokestatic 54, 3), (35, .putfield 9, 3), (38, .goto 59, 3), (41, .getstatic 38, 3), (44, .ifCond .eq 35, 3), (47, .aload_n 1, 1), (48, .getfield 1048, 3), (51, .ifCond .eq 28, 3), (54, .aload_n 0, 1), (55, .aload_n 3, 1), (56, .iconst 0, 1), (57, .iload 4, 2), (59, .invokestatic 1051, 3), (62, .putfield 9, 3), (65, .aload_n 0, 1), (66, .aload_n 0, 1), (67, .getfield 9, 3), (70, .iload 4, 2), (72, .invokestatic 47, 3), (75, .putfield 15, 3), (78, .return_, 1), (79, .aload_n 0, 1), (80, .iconst 1, 1), (81, .putfield 15, 3), (84, .aload_n 0, 1), (85, .aload_n 3, 1), (86, .iconst 0, 1), (87, .iload 4, 2), (89, .iconst 1, 1), (90, .ishl, 1), (91, .invokestatic 54, 3), (94, .putfield 9, 3), (97, .return_, 1)]
set_option maxRecDepth 100000 in
theorem dk_JString_init_0_b0 : ∀ q ∈ dl_JString_init_0_b0, decode mt_JString_init_0.cc q.1 = .ok (q.2.1, q.2.2) := by decide +kernel
theorem dd_JString_init_0_0 : decode mt_JString_init_0.cc 0 = .ok (.aload_n 0, 1) := dk_JString_init_0_b0 (0, .aload_n 0, 1) (List.mem_of_getElem? (i := 0) rfl)
theorem dd_JString_init_0_1 : decode mt_JString_init_0.cc 1 = .ok (.invokespecial 1, 3) := dk_JString_init_0_b0 (1, .invokespecial 1, 3) (List.mem_of_getElem? (i := 1) rfl)
theorem dd_JString_init_0_4 : decode mt_JString_init_0.cc 4 = .ok (.aload_n 1, 1) := dk_JString_init_0_b0 (4, .aload_n 1, 1) (List.mem_of_getElem? (i := 2) rfl)
theorem dd_JString_init_0_5 : decode mt_JString_init_0.cc 5 = .ok (.invokevirtual 552, 3) := dk_JString_init_0_b0 (5, .invokevirtual 552, 3) (List.mem_of_getElem? (i := 3) rfl)
theorem dd_JString_init_0_8 : decode mt_JString_init_0.cc 8 = .ok (.astore_n 3, 1) := dk_JString_init_0_b0 (8, .astore_n 3, 1) (List.mem_of_getElem? (i := 4) rfl)
theorem dd_JString_init_0_9 : decode mt_JString_init_0.cc 9 = .ok (.aload_n 1, 1) := dk_JString_init_0_b0 (9, .aload_n 1, 1) (List.mem_of_getElem? (i := 5) rfl)
theorem dd_JString_init_0_10 : decode mt_JString_init_0.cc 10 = .ok (.invokevirtual 549, 3) := dk_JString_init_0_b0 (10, .invokevirtual 549, 3) (List.mem_of_getElem? (i := 6) rfl)
theorem dd_JString_init_0_13 : decode mt_JString_init_0.cc 13 = .ok (.istore 4, 2) := dk_JString_init_0_b0 (13, .istore 4, 2) (List.mem_of_getElem? (i := 7) rfl)
theorem dd_JString_init_0_15 : decode mt_JString_init_0.cc 15 = .ok (.aload_n 1, 1) := dk_JString_init_0_b0 (15, .aload_n 1, 1) (List.mem_of_getElem? (i := 8) rfl)
theorem dd_JString_init_0_16 : decode mt_JString_init_0.cc 16 = .ok (.invokevirtual 1047, 3) := dk_JString_init_0_b0 (16, .invokevirtual 1047, 3) (List.mem_of_getElem? (i := 9) rfl)
theorem dd_JString_init_0_19 : decode mt_JString_init_0.cc 19 = .ok (.ifCond .eq 22, 3) := dk_JString_init_0_b0 (19, .ifCond .eq 22, 3) (List.mem_of_getElem? (i := 10) rfl)
theorem dd_JString_init_0_22 : decode mt_JString_init_0.cc 22 = .ok (.aload_n 0, 1) := dk_JString_init_0_b0 (22, .aload_n 0, 1) (List.mem_of_getElem? (i := 11) rfl)
theorem dd_JString_init_0_23 : decode mt_JString_init_0.cc 23 = .ok (.iconst 0, 1) := dk_JString_init_0_b0 (23, .iconst 0, 1) (List.mem_of_getElem? (i := 12) rfl)
theorem dd_JString_init_0_24 : decode mt_JString_init_0.cc 24 = .ok (.putfield 15, 3) := dk_JString_init_0_b0 (24, .putfield 15, 3) (List.mem_of_getElem? (i := 13) rfl)
theorem dd_JString_init_0_27 : decode mt_JString_init_0.cc 27 = .ok (.aload_n 0, 1) := dk_JString_init_0_b0 (27, .aload_n 0, 1) (List.mem_of_getElem? (i := 14) rfl)
theorem dd_JString_init_0_28 : decode mt_JString_init_0.cc 28 = .ok (.aload_n 3, 1) := dk_JString_init_0_b0 (28, .aload_n 3, 1) (List.mem_of_getElem? (i := 15) rfl)
theorem dd_JString_init_0_29 : decode mt_JString_init_0.cc 29 = .ok (.iconst 0, 1) := dk_JString_init_0_b0 (29, .iconst 0, 1) (List.mem_of_getElem? (i := 16) rfl)
theorem dd_JString_init_0_30 : decode mt_JString_init_0.cc 30 = .ok (.iload 4, 2) := dk_JString_init_0_b0 (30, .iload 4, 2) (List.mem_of_getElem? (i := 17) rfl)
theorem dd_JString_init_0_32 : decode mt_JString_init_0.cc 32 = .ok (.invokestatic 54, 3) := dk_JString_init_0_b0 (32, .invokestatic 54, 3) (List.mem_of_getElem? (i := 18) rfl)
theorem dd_JString_init_0_35 : decode mt_JString_init_0.cc 35 = .ok (.putfield 9, 3) := dk_JString_init_0_b0 (35, .putfield 9, 3) (List.mem_of_getElem? (i := 19) rfl)
theorem dd_JString_init_0_38 : decode mt_JString_init_0.cc 38 = .ok (.goto 59, 3) := dk_JString_init_0_b0 (38, .goto 59, 3) (List.mem_of_getElem? (i := 20) rfl)
theorem dd_JString_init_0_41 : decode mt_JString_init_0.cc 41 = .ok (.getstatic 38, 3) := dk_JString_init_0_b0 (41, .getstatic 38, 3) (List.mem_of_getElem? (i := 21) rfl)
theorem dd_JString_init_0_44 : decode mt_JString_init_0.cc 44 = .ok (.ifCond .eq 35, 3) := dk_JString_init_0_b0 (44, .ifCond .eq 35, 3) (List.mem_of_getElem? (i := 22) rfl)
theorem dd_JString_init_0_47 : decode mt_JString_init_0.cc 47 = .ok (.aload_n 1, 1) := dk_JString_init_0_b0 (47, .aload_n 1, 1) (List.mem_of_getElem? (i := 23) rfl)
theorem dd_JString_init_0_48 : decode mt_JString_init_0.cc 48 = .ok (.getfield 1048, 3) := dk_JString_init_0_b0 (48, .getfield 1048, 3) (List.mem_of_getElem? (i := 24) rfl)
theorem dd_JString_init_0_51 : decode mt_JString_init_0.cc 51 = .ok (.ifCond .eq 28, 3) := dk_JString_init_0_b0 (51, .ifCond .eq 28, 3) (List.mem_of_getElem? (i := 25) rfl)
theorem dd_JString_init_0_54 : decode mt_JString_init_0.cc 54 = .ok (.aload_n 0, 1) := dk_JString_init_0_b0 (54, .aload_n 0, 1) (List.mem_of_getElem? (i := 26) rfl)
theorem dd_JString_init_0_55 : decode mt_JString_init_0.cc 55 = .ok (.aload_n 3, 1) := dk_JString_init_0_b0 (55, .aload_n 3, 1) (List.mem_of_getElem? (i := 27) rfl)
theorem dd_JString_init_0_56 : decode mt_JString_init_0.cc 56 = .ok (.iconst 0, 1) := dk_JString_init_0_b0 (56, .iconst 0, 1) (List.mem_of_getElem? (i := 28) rfl)
theorem dd_JString_init_0_57 : decode mt_JString_init_0.cc 57 = .ok (.iload 4, 2) := dk_JString_init_0_b0 (57, .iload 4, 2) (List.mem_of_getElem? (i := 29) rfl)
theorem dd_JString_init_0_59 : decode mt_JString_init_0.cc 59 = .ok (.invokestatic 1051, 3) := dk_JString_init_0_b0 (59, .invokestatic 1051, 3) (List.mem_of_getElem? (i := 30) rfl)
theorem dd_JString_init_0_62 : decode mt_JString_init_0.cc 62 = .ok (.putfield 9, 3) := dk_JString_init_0_b0 (62, .putfield 9, 3) (List.mem_of_getElem? (i := 31) rfl)
theorem dd_JString_init_0_65 : decode mt_JString_init_0.cc 65 = .ok (.aload_n 0, 1) := dk_JString_init_0_b0 (65, .aload_n 0, 1) (List.mem_of_getElem? (i := 32) rfl)
theorem dd_JString_init_0_66 : decode mt_JString_init_0.cc 66 = .ok (.aload_n 0, 1) := dk_JString_init_0_b0 (66, .aload_n 0, 1) (List.mem_of_getElem? (i := 33) rfl)
theorem dd_JString_init_0_67 : decode mt_JString_init_0.cc 67 = .ok (.getfield 9, 3) := dk_JString_init_0_b0 (67, .getfield 9, 3) (List.mem_of_getElem? (i := 34) rfl)
theorem dd_JString_init_0_70 : decode mt_JString_init_0.cc 70 = .ok (.iload 4, 2) := dk_JString_init_0_b0 (70, .iload 4, 2) (List.mem_of_getElem? (i := 35) rfl)
theorem dd_JString_init_0_72 : decode mt_JString_init_0.cc 72 = .ok (.invokestatic 47, 3) := dk_JString_init_0_b0 (72, .invokestatic 47, 3) (List.mem_of_getElem? (i := 36) rfl)
theorem dd_JString_init_0_75 : decode mt_JString_init_0.cc 75 = .ok (.putfield 15, 3) := dk_JString_init_0_b0 (75, .putfield 15, 3) (List.mem_of_getElem? (i := 37) rfl)
theorem dd_JString_init_0_78 : decode mt_JString_init_0.cc 78 = .ok (.return_, 1) := dk_JString_init_0_b0 (78, .return_, 1) (List.mem_of_getElem? (i := 38) rfl)
theorem dd_JString_init_0_79 : decode mt_JString_init_0.cc 79 = .ok (.aload_n 0, 1) := dk_JString_init_0_b0 (79, .aload_n 0, 1) (List.mem_of_getElem? (i := 39) rfl)
theorem dd_JString_init_0_80 : decode mt_JString_init_0.cc 80 = .ok (.iconst 1, 1) := dk_JString_init_0_b0 (80, .iconst 1, 1) (List.mem_of_getElem? (i := 40) rfl)
theorem dd_JString_init_0_81 : decode mt_JString_init_0.cc 81 = .ok (.putfield 15, 3) := dk_JString_init_0_b0 (81, .putfield 15, 3) (List.mem_of_getElem? (i := 41) rfl)
theorem dd_JString_init_0_84 : decode mt_JString_init_0.cc 84 = .ok (.aload_n 0, 1) := dk_JString_init_0_b0 (84, .aload_n 0, 1) (List.mem_of_getElem? (i := 42) rfl)
theorem dd_JString_init_0_85 : decode mt_JString_init_0.cc 85 = .ok (.aload_n 3, 1) := dk_JString_init_0_b0 (85, .aload_n 3, 1) (List.mem_of_getElem? (i := 43) rfl)
theorem dd_JString_init_0_86 : decode mt_JString_init_0.cc 86 = .ok (.iconst 0, 1) := dk_JString_init_0_b0 (86, .iconst 0, 1) (List.mem_of_getElem? (i := 44) rfl)
theorem dd_JString_init_0_87 : decode mt_JString_init_0.cc 87 = .ok (.iload 4, 2) := dk_JString_init_0_b0 (87, .iload 4, 2) (List.mem_of_getElem? (i := 45) rfl)
theorem dd_JString_init_0_89 : decode mt_JString_init_0.cc 89 = .ok (.iconst 1, 1) := dk_JString_init_0_b0 (89, .iconst 1, 1) (List.mem_of_getElem? (i := 46) rfl)
theorem dd_JString_init_0_90 : decode mt_JString_init_0.cc 90 = .ok (.ishl, 1) := dk_JString_init_0_b0 (90, .ishl, 1) (List.mem_of_getElem? (i := 47) rfl)
theorem dd_JString_init_0_91 : decode mt_JString_init_0.cc 91 = .ok (.invokestatic 54, 3) := dk_JString_init_0_b0 (91, .invokestatic 54, 3) (List.mem_of_getElem? (i := 48) rfl)
theorem dd_JString_init_0_94 : decode mt_JString_init_0.cc 94 = .ok (.putfield 9, 3) := dk_JString_init_0_b0 (94, .putfield 9, 3) (List.mem_of_getElem? (i := 49) rfl)
theorem dd_JString_init_0_97 : decode mt_JString_init_0.cc 97 = .ok (.return_, 1) := dk_JString_init_0_b0 (97, .return_, 1) (List.mem_of_getElem? (i := 50) rfl)
theorem cw_JString_init_0 : gj_cw mt_JString_init_0 ∈ tw_all := mw_1371
theorem pl_JString_init_0 : gj_plain mt_JString_init_0.y := ⟨by decide +kernel, by decide +kernel⟩
theorem pn_JString_init_0 : plainName mt_JString_init_0.y.cls = true := by decide +kernel
theorem np_JString_init_0 : gj_np mt_JString_init_0.y = some 2 := by decide +kernel
def mt_JString_checkBoundsBeginEnd : Mt := (⟨"java/lang/String", "checkBoundsBeginEnd", "(III)V"⟩, prog_29_method_158_code, 3, none, [])
def dl_JString_checkBoundsBeginEnd_b0 : List (Nat × Instr × Nat) := [(0, .iload_n 0, 1), (1, .iload_n 1, 1), (2, .iload_n 2, 1), (3, .getstatic 1053, 3), (6, .invokestatic 1062, 3), (9, .pop, 1), (10, .return_, 1)]
set_option maxRecDepth 100000 in
theorem dk_JString_checkBoundsBeginEnd_b0 : ∀ q ∈ dl_JString_checkBoundsBeginEnd_b0, decode mt_JString_checkBoundsBeginEnd.cc q.1 = .ok (q.2.1, q.2.2) := by decide +kernel
theorem dd_JString_checkBoundsBeginEnd_0 : decode mt_JString_checkBoundsBeginEnd.cc 0 = .ok (.iload_n 0, 1) := dk_JString_checkBoundsBeginEnd_b0 (0, .iload_n 0, 1) (List.mem_of_getElem? (i := 0) rfl)
theorem dd_JString_checkBoundsBeginEnd_1 : decode mt_JString_checkBoundsBeginEnd.cc 1 = .ok (.iload_n 1, 1) := dk_JString_checkBoundsBeginEnd_b0 (1, .iload_n 1, 1) (List.mem_of_getElem? (i := 1) rfl)
theorem dd_JString_checkBoundsBeginEnd_2 : decode mt_JString_checkBoundsBeginEnd.cc 2 = .ok (.iload_n 2, 1) := dk_JString_checkBoundsBeginEnd_b0 (2, .iload_n 2, 1) (List.mem_of_getElem? (i := 2) rfl)
theorem dd_JString_checkBoundsBeginEnd_3 : decode mt_JString_checkBoundsBeginEnd.cc 3 = .ok (.getstatic 1053, 3) := dk_JString_checkBoundsBeginEnd_b0 (3, .getstatic 1053, 3) (List.mem_of_getElem? (i := 3) rfl)
theorem dd_JString_checkBoundsBeginEnd_6 : decode mt_JString_checkBoundsBeginEnd.cc 6 = .ok (.invokestatic 1062, 3) := dk_JString_checkBoundsBeginEnd_b0 (6, .invokestatic 1062, 3) (List.mem_of_getElem? (i := 4) rfl)
theorem dd_JString_checkBoundsBeginEnd_9 : decode mt_JString_checkBoundsBeginEnd.cc 9 = .ok (.pop, 1) := dk_JString_checkBoundsBeginEnd_b0 (9, .pop, 1) (List.mem_of_getElem? (i := 5) rfl)
theorem dd_JString_checkBoundsBeginEnd_10 : decode mt_JString_checkBoundsBeginEnd.cc 10 = .ok (.return_, 1) := dk_JString_checkBoundsBeginEnd_b0 (10, .return_, 1) (List.mem_of_getElem? (i := 6) rfl)
theorem cw_JString_checkBoundsBeginEnd : gj_cw mt_JString_checkBoundsBeginEnd ∈ tw_all := mw_1424
theorem pl_JString_checkBoundsBeginEnd : gj_plain mt_JString_checkBoundsBeginEnd.y := ⟨by decide +kernel, by decide +kernel⟩
theorem pn_JString_checkBoundsBeginEnd : plainName mt_JString_checkBoundsBeginEnd.y.cls = true := by decide +kernel
theorem np_JString_checkBoundsBeginEnd : gj_np mt_JString_checkBoundsBeginEnd.y = some 3 := by decide +kernel
def mt_JString_getBytes : Mt := (⟨"java/lang/String", "getBytes", "([BIB)V"⟩, prog_29_method_147_code, 4, none, [])
def dl_JString_getBytes_b0 : List (Nat × Instr × Nat) := [(0, .aload_n 0, 1), (1, .invokevirtual 335, 3), (4, .iload_n 3, 1), (5, .if_icmp .ne 23, 3), (8, .aload_n 0, 1), (9, .getfield 9, 3), (12, .iconst 0, 1), (13, .aload_n 1, 1), (14, .iload_n 2, 1), (15, .iload_n 3, 1), (16, .ishl, 1), (17, .aload_n 0, 1), (18, .getfield 9, 3), (21, .arraylength, 1), (22, .invokestatic 212, 3), (25, .goto 18, 3), (28, .aload_n 0, 1), (29, .getfield 9, 3), (32, .iconst 0, 1), (33, .aload_n 1, 1), (34, .iload_n 2, 1), (35, .aload_n 0, 1), (36, .getfield 9, 3), (39, .arraylength, 1), (40, .invokestatic 106, 3), (43, .return_, 1)]
set_option maxRecDepth 100000 in
theorem dk_JString_getBytes_b0 : ∀ q ∈ dl_JString_getBytes_b0, decode mt_JString_getBytes.cc q.1 = .ok (q.2.1, q.2.2) := by decide +kernel
theorem dd_JString_getBytes_0 : decode mt_JString_getBytes.cc 0 = .ok (.aload_n 0, 1) := dk_JString_getBytes_b0 (0, .aload_n 0, 1) (List.mem_of_getElem? (i := 0) rfl)
theorem dd_JString_getBytes_1 : decode mt_JString_getBytes.cc 1 = .ok (.invokevirtual 335, 3) := dk_JString_getBytes_b0 (1, .invokevirtual 335, 3) (List.mem_of_getElem? (i := 1) rfl)
theorem dd_JString_getBytes_4 : decode mt_JString_getBytes.cc 4 = .ok (.iload_n 3, 1) := dk_JString_getBytes_b0 (4, .iload_n 3, 1) (List.mem_of_getElem? (i := 2) rfl)
theorem dd_JString_getBytes_5 : decode mt_JString_getBytes.cc 5 = .ok (.if_icmp .ne 23, 3) := dk_JString_getBytes_b0 (5, .if_icmp .ne 23, 3) (List.mem_of_getElem? (i := 3) rfl)
theorem dd_JString_getBytes_8 : decode mt_JString_getBytes.cc 8 = .ok (.aload_n 0, 1) := dk_JString_getBytes_b0 (8, .aload_n 0, 1) (List.mem_of_getElem? (i := 4) rfl)
theorem dd_JString_getBytes_9 : decode mt_JString_getBytes.cc 9 = .ok (.getfield 9, 3) := dk_JString_getBytes_b0 (9, .getfield 9, 3) (List.mem_of_getElem? (i := 5) rfl)
theorem dd_JString_getBytes_12 : decode mt_JString_getBytes.cc 12 = .ok (.iconst 0, 1) := dk_JString_getBytes_b0 (12, .iconst 0, 1) (List.mem_of_getElem? (i := 6) rfl)
theorem dd_JString_getBytes_13 : decode mt_JString_getBytes.cc 13 = .ok (.aload_n 1, 1) := dk_JString_getBytes_b0 (13, .aload_n 1, 1) (List.mem_of_getElem? (i := 7) rfl)
theorem dd_JString_getBytes_14 : decode mt_JString_getBytes.cc 14 = .ok (.iload_n 2, 1) := dk_JString_getBytes_b0 (14, .iload_n 2, 1) (List.mem_of_getElem? (i := 8) rfl)
theorem dd_JString_getBytes_15 : decode mt_JString_getBytes.cc 15 = .ok (.iload_n 3, 1) := dk_JString_getBytes_b0 (15, .iload_n 3, 1) (List.mem_of_getElem? (i := 9) rfl)
theorem dd_JString_getBytes_16 : decode mt_JString_getBytes.cc 16 = .ok (.ishl, 1) := dk_JString_getBytes_b0 (16, .ishl, 1) (List.mem_of_getElem? (i := 10) rfl)
theorem dd_JString_getBytes_17 : decode mt_JString_getBytes.cc 17 = .ok (.aload_n 0, 1) := dk_JString_getBytes_b0 (17, .aload_n 0, 1) (List.mem_of_getElem? (i := 11) rfl)
theorem dd_JString_getBytes_18 : decode mt_JString_getBytes.cc 18 = .ok (.getfield 9, 3) := dk_JString_getBytes_b0 (18, .getfield 9, 3) (List.mem_of_getElem? (i := 12) rfl)
theorem dd_JString_getBytes_21 : decode mt_JString_getBytes.cc 21 = .ok (.arraylength, 1) := dk_JString_getBytes_b0 (21, .arraylength, 1) (List.mem_of_getElem? (i := 13) rfl)
theorem dd_JString_getBytes_22 : decode mt_JString_getBytes.cc 22 = .ok (.invokestatic 212, 3) := dk_JString_getBytes_b0 (22, .invokestatic 212, 3) (List.mem_of_getElem? (i := 14) rfl)
theorem dd_JString_getBytes_25 : decode mt_JString_getBytes.cc 25 = .ok (.goto 18, 3) := dk_JString_getBytes_b0 (25, .goto 18, 3) (List.mem_of_getElem? (i := 15) rfl)
theorem dd_JString_getBytes_28 : decode mt_JString_getBytes.cc 28 = .ok (.aload_n 0, 1) := dk_JString_getBytes_b0 (28, .aload_n 0, 1) (List.mem_of_getElem? (i := 16) rfl)
theorem dd_JString_getBytes_29 : decode mt_JString_getBytes.cc 29 = .ok (.getfield 9, 3) := dk_JString_getBytes_b0 (29, .getfield 9, 3) (List.mem_of_getElem? (i := 17) rfl)
theorem dd_JString_getBytes_32 : decode mt_JString_getBytes.cc 32 = .ok (.iconst 0, 1) := dk_JString_getBytes_b0 (32, .iconst 0, 1) (List.mem_of_getElem? (i := 18) rfl)
theorem dd_JString_getBytes_33 : decode mt_JString_getBytes.cc 33 = .ok (.aload_n 1, 1) := dk_JString_getBytes_b0 (33, .aload_n 1, 1) (List.mem_of_getElem? (i := 19) rfl)
theorem dd_JString_getBytes_34 : decode mt_JString_getBytes.cc 34 = .ok (.iload_n 2, 1) := dk_JString_getBytes_b0 (34, .iload_n 2, 1) (List.mem_of_getElem? (i := 20) rfl)
theorem dd_JString_getBytes_35 : decode mt_JString_getBytes.cc 35 = .ok (.aload_n 0, 1) := dk_JString_getBytes_b0 (35, .aload_n 0, 1) (List.mem_of_getElem? (i := 21) rfl)
theorem dd_JString_getBytes_36 : decode mt_JString_getBytes.cc 36 = .ok (.getfield 9, 3) := dk_JString_getBytes_b0 (36, .getfield 9, 3) (List.mem_of_getElem? (i := 22) rfl)
theorem dd_JString_getBytes_39 : decode mt_JString_getBytes.cc 39 = .ok (.arraylength, 1) := dk_JString_getBytes_b0 (39, .arraylength, 1) (List.mem_of_getElem? (i := 23) rfl)
theorem dd_JString_getBytes_40 : decode mt_JString_getBytes.cc 40 = .ok (.invokestatic 106, 3) := dk_JString_getBytes_b0 (40, .invokestatic 106, 3) (List.mem_of_getElem? (i := 24) rfl)
theorem dd_JString_getBytes_43 : decode mt_JString_getBytes.cc 43 = .ok (.return_, 1) := dk_JString_getBytes_b0 (43, .return_, 1) (List.mem_of_getElem? (i := 25) rfl)
theorem cw_JString_getBytes : gj_cw mt_JString_getBytes ∈ tw_all := mw_1461
theorem pl_JString_getBytes : gj_plain mt_JString_getBytes.y := ⟨by decide +kernel, by decide +kernel⟩
theorem pn_JString_getBytes : plainName mt_JString_getBytes.y.cls = true := by decide +kernel
theorem np_JString_getBytes : gj_np mt_JString_getBytes.y = some 3 := by decide +kernel
def mt_JString_indexOf_2 : Mt := (⟨"java/lang/String", "indexOf", "(Ljava/lang/String;)I"⟩, prog_29_method_84_code, 3, some .int, [])
def dl_JString_indexOf_2_b0 : List (Nat × Instr × Nat) := [(0, .aload_n 0, 1), (1, .invokevirtual 335, 3), (4, .istore_n 2, 1), (5, .iload_n 2, 1), (6, .aload_n 1, 1), (7, .invokevirtual 335, 3), (10, .if_icmp .ne 36, 3), (13, .aload_n 0, 1), (14, .invokevirtual 492, 3), (17, .ifCond .eq 17, 3), (20, .aload_n 0, 1), (21, .getfield 9, 3), (24, .aload_n 1, 1), (25, .getfield 9, 3), (28, .invokestatic 647, 3), (31, .goto 14, 3), (34, .aload_n 0, 1), (35, .getfield 9, 3), (38, .aload_n 1, 1), (39, .getfield 9, 3), (42, .invokestatic 649, 3), (45, .ireturn, 1), (46, .iload_n 2, 1), (47, .ifCond .ne 5, 3), (50, .iconst (-1), 1), (51, .ireturn, 1), (52, .aload_n 0, 1), (53, .getfield 9, 3), (56, .aload_n 1, 1), (57, .getfield 9, 3), (60, .invokestatic 650, 3), (63, .ireturn, 1)]
set_option maxRecDepth 100000 in
theorem dk_JString_indexOf_2_b0 : ∀ q ∈ dl_JString_indexOf_2_b0, decode mt_JString_indexOf_2.cc q.1 = .ok (q.2.1, q.2.2) := by decide +kernel
theorem dd_JString_indexOf_2_0 : decode mt_JString_indexOf_2.cc 0 = .ok (.aload_n 0, 1) := dk_JString_indexOf_2_b0 (0, .aload_n 0, 1) (List.mem_of_getElem? (i := 0) rfl)
theorem dd_JString_indexOf_2_1 : decode mt_JString_indexOf_2.cc 1 = .ok (.invokevirtual 335, 3) := dk_JString_indexOf_2_b0 (1, .invokevirtual 335, 3) (List.mem_of_getElem? (i := 1) rfl)
theorem dd_JString_indexOf_2_4 : decode mt_JString_indexOf_2.cc 4 = .ok (.istore_n 2, 1) := dk_JString_indexOf_2_b0 (4, .istore_n 2, 1) (List.mem_of_getElem? (i := 2) rfl)
theorem dd_JString_indexOf_2_5 : decode mt_JString_indexOf_2.cc 5 = .ok (.iload_n 2, 1) := dk_JString_indexOf_2_b0 (5, .iload_n 2, 1) (List.mem_of_getElem? (i := 3) rfl)
theorem dd_JString_indexOf_2_6 : decode mt_JString_indexOf_2.cc 6 = .ok (.aload_n 1, 1) := dk_JString_indexOf_2_b0 (6, .aload_n 1, 1) (List.mem_of_getElem? (i := 4) rfl)
theorem dd_JString_indexOf_2_7 : decode mt_JString_indexOf_2.cc 7 = .ok (.invokevirtual 335, 3) := dk_JString_indexOf_2_b0 (7, .invokevirtual 335, 3) (List.mem_of_getElem? (i := 5) rfl)
theorem dd_JString_indexOf_2_10 : decode mt_JString_indexOf_2.cc 10 = .ok (.if_icmp .ne 36, 3) := dk_JString_indexOf_2_b0 (10, .if_icmp .ne 36, 3) (List.mem_of_getElem? (i := 6) rfl)
theorem dd_JString_indexOf_2_13 : decode mt_JString_indexOf_2.cc 13 = .ok (.aload_n 0, 1) := dk_JString_indexOf_2_b0 (13, .aload_n 0, 1) (List.mem_of_getElem? (i := 7) rfl)
theorem dd_JString_indexOf_2_14 : decode mt_JString_indexOf_2.cc 14 = .ok (.invokevirtual 492, 3) := dk_JString_indexOf_2_b0 (14, .invokevirtual 492, 3) (List.mem_of_getElem? (i := 8) rfl)
theorem dd_JString_indexOf_2_17 : decode mt_JString_indexOf_2.cc 17 = .ok (.ifCond .eq 17, 3) := dk_JString_indexOf_2_b0 (17, .ifCond .eq 17, 3) (List.mem_of_getElem? (i := 9) rfl)
theorem dd_JString_indexOf_2_20 : decode mt_JString_indexOf_2.cc 20 = .ok (.aload_n 0, 1) := dk_JString_indexOf_2_b0 (20, .aload_n 0, 1) (List.mem_of_getElem? (i := 10) rfl)
theorem dd_JString_indexOf_2_21 : decode mt_JString_indexOf_2.cc 21 = .ok (.getfield 9, 3) := dk_JString_indexOf_2_b0 (21, .getfield 9, 3) (List.mem_of_getElem? (i := 11) rfl)
theorem dd_JString_indexOf_2_24 : decode mt_JString_indexOf_2.cc 24 = .ok (.aload_n 1, 1) := dk_JString_indexOf_2_b0 (24, .aload_n 1, 1) (List.mem_of_getElem? (i := 12) rfl)
theorem dd_JString_indexOf_2_25 : decode mt_JString_indexOf_2.cc 25 = .ok (.getfield 9, 3) := dk_JString_indexOf_2_b0 (25, .getfield 9, 3) (List.mem_of_getElem? (i := 13) rfl)
theorem dd_JString_indexOf_2_28 : decode mt_JString_indexOf_2.cc 28 = .ok (.invokestatic 647, 3) := dk_JString_indexOf_2_b0 (28, .invokestatic 647, 3) (List.mem_of_getElem? (i := 14) rfl)
theorem dd_JString_indexOf_2_31 : decode mt_JString_indexOf_2.cc 31 = .ok (.goto 14, 3) := dk_JString_indexOf_2_b0 (31, .goto 14, 3) (List.mem_of_getElem? (i := 15) rfl)
theorem dd_JString_indexOf_2_34 : decode mt_JString_indexOf_2.cc 34 = .ok (.aload_n 0, 1) := dk_JString_indexOf_2_b0 (34, .aload_n 0, 1) (List.mem_of_getElem? (i := 16) rfl)
theorem dd_JString_indexOf_2_35 : decode mt_JString_indexOf_2.cc 35 = .ok (.getfield 9, 3) := dk_JString_indexOf_2_b0 (35, .getfield 9, 3) (List.mem_of_getElem? (i := 17) rfl)
theorem dd_JString_indexOf_2_38 : decode mt_JString_indexOf_2.cc 38 = .ok (.aload_n 1, 1) := dk_JString_indexOf_2_b0 (38, .aload_n 1, 1) (List.mem_of_getElem? (i := 18) rfl)
theorem dd_JString_indexOf_2_39 : decode mt_JString_indexOf_2.cc 39 = .ok (.getfield 9, 3) := dk_JString_indexOf_2_b0 (39, .getfield 9, 3) (List.mem_of_getElem? (i := 19) rfl)
theorem dd_JString_indexOf_2_42 : decode mt_JString_indexOf_2.cc 42 = .ok (.invokestatic 649, 3) := dk_JString_indexOf_2_b0 (42, .invokestatic 649, 3) (List.mem_of_getElem? (i := 20) rfl)
theorem dd_JString_indexOf_2_45 : decode mt_JString_indexOf_2.cc 45 = .ok (.ireturn, 1) := dk_JString_indexOf_2_b0 (45, .ireturn, 1) (List.mem_of_getElem? (i := 21) rfl)
theorem dd_JString_indexOf_2_46 : decode mt_JString_indexOf_2.cc 46 = .ok (.iload_n 2, 1) := dk_JString_indexOf_2_b0 (46, .iload_n 2, 1) (List.mem_of_getElem? (i := 22) rfl)
theorem dd_JString_indexOf_2_47 : decode mt_JString_indexOf_2.cc 47 = .ok (.ifCond .ne 5, 3) := dk_JString_indexOf_2_b0 (47, .ifCond .ne 5, 3) (List.mem_of_getElem? (i := 23) rfl)
theorem dd_JString_indexOf_2_50 : decode mt_JString_indexOf_2.cc 50 = .ok (.iconst (-1), 1) := dk_JString_indexOf_2_b0 (50, .iconst (-1), 1) (List.mem_of_getElem? (i := 24) rfl)
theorem dd_JString_indexOf_2_51 : decode mt_JString_indexOf_2.cc 51 = .ok (.ireturn, 1) := dk_JString_indexOf_2_b0 (51, .ireturn, 1) (List.mem_of_getElem? (i := 25) rfl)
theorem dd_JString_indexOf_2_52 : decode mt_JString_indexOf_2.cc 52 = .ok (.aload_n 0, 1) := dk_JString_indexOf_2_b0 (52, .aload_n 0, 1) (List.mem_of_getElem? (i := 26) rfl)
theorem dd_JString_indexOf_2_53 : decode mt_JString_indexOf_2.cc 53 = .ok (.getfield 9, 3) := dk_JString_indexOf_2_b0 (53, .getfield 9, 3) (List.mem_of_getElem? (i := 27) rfl)
theorem dd_JString_indexOf_2_56 : decode mt_JString_indexOf_2.cc 56 = .ok (.aload_n 1, 1) := dk_JString_indexOf_2_b0 (56, .aload_n 1, 1) (List.mem_of_getElem? (i := 28) rfl)
theorem dd_JString_indexOf_2_57 : decode mt_JString_indexOf_2.cc 57 = .ok (.getfield 9, 3) := dk_JString_indexOf_2_b0 (57, .getfield 9, 3) (List.mem_of_getElem? (i := 29) rfl)
theorem dd_JString_indexOf_2_60 : decode mt_JString_indexOf_2.cc 60 = .ok (.invokestatic 650, 3) := dk_JString_indexOf_2_b0 (60, .invokestatic 650, 3) (List.mem_of_getElem? (i := 30) rfl)
theorem dd_JString_indexOf_2_63 : decode mt_JString_indexOf_2.cc 63 = .ok (.ireturn, 1) := dk_JString_indexOf_2_b0 (63, .ireturn, 1) (List.mem_of_getElem? (i := 31) rfl)
theorem cw_JString_indexOf_2 : gj_cw mt_JString_indexOf_2 ∈ tw_all := mw_1503
theorem pl_JString_indexOf_2 : gj_plain mt_JString_indexOf_2.y := ⟨by decide +kernel, by decide +kernel⟩
theorem pn_JString_indexOf_2 : plainName mt_JString_indexOf_2.y.cls = true := by decide +kernel
theorem np_JString_indexOf_2 : gj_np mt_JString_indexOf_2.y = some 1 := by decide +kernel
def mt_JString_indexOf_0 : Mt := (⟨"java/lang/String", "indexOf", "(I)I"⟩, prog_29_method_79_code, 2, some .int, [])
def dl_JString_indexOf_0_b0 : List (Nat × Instr × Nat) := [(0, .aload_n 0, 1), (1, .iload_n 1, 1), (2, .iconst 0, 1), (3, .invokevirtual 633, 3), (6, .ireturn, 1)]
set_option maxRecDepth 100000 in
theorem dk_JString_indexOf_0_b0 : ∀ q ∈ dl_JString_indexOf_0_b0, decode mt_JString_indexOf_0.cc q.1 = .ok (q.2.1, q.2.2) := by decide +kernel
theorem dd_JString_indexOf_0_0 : decode mt_JString_indexOf_0.cc 0 = .ok (.aload_n 0, 1) := dk_JString_indexOf_0_b0 (0, .aload_n 0, 1) (List.mem_of_getElem? (i := 0) rfl)
theorem dd_JString_indexOf_0_1 : decode mt_JString_indexOf_0.cc 1 = .ok (.iload_n 1, 1) := dk_JString_indexOf_0_b0 (1, .iload_n 1, 1) (List.mem_of_getElem? (i := 1) rfl)
theorem dd_JString_indexOf_0_2 : decode mt_JString_indexOf_0.cc 2 = .ok (.iconst 0, 1) := dk_JString_indexOf_0_b0 (2, .iconst 0, 1) (List.mem_of_getElem? (i := 2) rfl)
theorem dd_JString_indexOf_0_3 : decode mt_JString_indexOf_0.cc 3 = .ok (.invokevirtual 633, 3) := dk_JString_indexOf_0_b0 (3, .invokevirtual 633, 3) (List.mem_of_getElem? (i := 3) rfl)
theorem dd_JString_indexOf_0_6 : decode mt_JString_indexOf_0.cc 6 = .ok (.ireturn, 1) := dk_JString_indexOf_0_b0 (6, .ireturn, 1) (List.mem_of_getElem? (i := 4) rfl)
theorem cw_JString_indexOf_0 : gj_cw mt_JString_indexOf_0 ∈ tw_all := mw_1533
theorem pl_JString_indexOf_0 : gj_plain mt_JString_indexOf_0.y := ⟨by decide +kernel, by decide +kernel⟩
theorem pn_JString_indexOf_0 : plainName mt_JString_indexOf_0.y.cls = true := by decide +kernel
theorem np_JString_indexOf_0 : gj_np mt_JString_indexOf_0.y = some 1 := by decide +kernel
def mt_JString_indexOf_1 : Mt := (⟨"java/lang/String", "indexOf", "(II)I"⟩, prog_29_method_80_code, 3, some .int, [])
def dl_JString_indexOf_1_b0 : List (Nat × Instr × Nat) := [(0, .aload_n 0, 1), (1, .invokevirtual 492, 3), (4, .ifCond .eq 19, 3), (7, .aload_n 0, 1), (8, .getfield 9, 3), (11, .iload_n 1, 1), (12, .iload_n 2, 1), (13, .aload_n 0, 1), (14, .invokevirtual 505, 3), (17, .invokestatic 637, 3), (20, .goto 16, 3), (23, .aload_n 0, 1), (24, .getfield 9, 3), (27, .iload_n 1, 1), (28, .iload_n 2, 1), (29, .aload_n 0, 1), (30, .invokevirtual 505, 3), (33, .invokestatic 640, 3), (36, .ireturn, 1)]
set_option maxRecDepth 100000 in
theorem dk_JString_indexOf_1_b0 : ∀ q ∈ dl_JString_indexOf_1_b0, decode mt_JString_indexOf_1.cc q.1 = .ok (q.2.1, q.2.2) := by decide +kernel
theorem dd_JString_indexOf_1_0 : decode mt_JString_indexOf_1.cc 0 = .ok (.aload_n 0, 1) := dk_JString_indexOf_1_b0 (0, .aload_n 0, 1) (List.mem_of_getElem? (i := 0) rfl)
theorem dd_JString_indexOf_1_1 : decode mt_JString_indexOf_1.cc 1 = .ok (.invokevirtual 492, 3) := dk_JString_indexOf_1_b0 (1, .invokevirtual 492, 3) (List.mem_of_getElem? (i := 1) rfl)
theorem dd_JString_indexOf_1_4 : decode mt_JString_indexOf_1.cc 4 = .ok (.ifCond .eq 19, 3) := dk_JString_indexOf_1_b0 (4, .ifCond .eq 19, 3) (List.mem_of_getElem? (i := 2) rfl)
theorem dd_JString_indexOf_1_7 : decode mt_JString_indexOf_1.cc 7 = .ok (.aload_n 0, 1) := dk_JString_indexOf_1_b0 (7, .aload_n 0, 1) (List.mem_of_getElem? (i := 3) rfl)
theorem dd_JString_indexOf_1_8 : decode mt_JString_indexOf_1.cc 8 = .ok (.getfield 9, 3) := dk_JString_indexOf_1_b0 (8, .getfield 9, 3) (List.mem_of_getElem? (i := 4) rfl)
theorem dd_JString_indexOf_1_11 : decode mt_JString_indexOf_1.cc 11 = .ok (.iload_n 1, 1) := dk_JString_indexOf_1_b0 (11, .iload_n 1, 1) (List.mem_of_getElem? (i := 5) rfl)
theorem dd_JString_indexOf_1_12 : decode mt_JString_indexOf_1.cc 12 = .ok (.iload_n 2, 1) := dk_JString_indexOf_1_b0 (12, .iload_n 2, 1) (List.mem_of_getElem? (i := 6) rfl)
theorem dd_JString_indexOf_1_13 : decode mt_JString_indexOf_1.cc 13 = .ok (.aload_n 0, 1) := dk_JString_indexOf_1_b0 (13, .aload_n 0, 1) (List.mem_of_getElem? (i := 7) rfl)
theorem dd_JString_indexOf_1_14 : decode mt_JString_indexOf_1.cc 14 = .ok (.invokevirtual 505, 3) := dk_JString_indexOf_1_b0 (14, .invokevirtual 505, 3) (List.mem_of_getElem? (i := 8) rfl)
theorem dd_JString_indexOf_1_17 : decode mt_JString_indexOf_1.cc 17 = .ok (.invokestatic 637, 3) := dk_JString_indexOf_1_b0 (17, .invokestatic 637, 3) (List.mem_of_getElem? (i := 9) rfl)
theorem dd_JString_indexOf_1_20 : decode mt_JString_indexOf_1.cc 20 = .ok (.goto 16, 3) := dk_JString_indexOf_1_b0 (20, .goto 16, 3) (List.mem_of_getElem? (i := 10) rfl)
theorem dd_JString_indexOf_1_23 : decode mt_JString_indexOf_1.cc 23 = .ok (.aload_n 0, 1) := dk_JString_indexOf_1_b0 (23, .aload_n 0, 1) (List.mem_of_getElem? (i := 11) rfl)
theorem dd_JString_indexOf_1_24 : decode mt_JString_indexOf_1.cc 24 = .ok (.getfield 9, 3) := dk_JString_indexOf_1_b0 (24, .getfield 9, 3) (List.mem_of_getElem? (i := 12) rfl)
theorem dd_JString_indexOf_1_27 : decode mt_JString_indexOf_1.cc 27 = .ok (.iload_n 1, 1) := dk_JString_indexOf_1_b0 (27, .iload_n 1, 1) (List.mem_of_getElem? (i := 13) rfl)
theorem dd_JString_indexOf_1_28 : decode mt_JString_indexOf_1.cc 28 = .ok (.iload_n 2, 1) := dk_JString_indexOf_1_b0 (28, .iload_n 2, 1) (List.mem_of_getElem? (i := 14) rfl)
theorem dd_JString_indexOf_1_29 : decode mt_JString_indexOf_1.cc 29 = .ok (.aload_n 0, 1) := dk_JString_indexOf_1_b0 (29, .aload_n 0, 1) (List.mem_of_getElem? (i := 15) rfl)
theorem dd_JString_indexOf_1_30 : decode mt_JString_indexOf_1.cc 30 = .ok (.invokevirtual 505, 3) := dk_JString_indexOf_1_b0 (30, .invokevirtual 505, 3) (List.mem_of_getElem? (i := 16) rfl)
theorem dd_JString_indexOf_1_33 : decode mt_JString_indexOf_1.cc 33 = .ok (.invokestatic 640, 3) := dk_JString_indexOf_1_b0 (33, .invokestatic 640, 3) (List.mem_of_getElem? (i := 17) rfl)
theorem dd_JString_indexOf_1_36 : decode mt_JString_indexOf_1.cc 36 = .ok (.ireturn, 1) := dk_JString_indexOf_1_b0 (36, .ireturn, 1) (List.mem_of_getElem? (i := 18) rfl)
theorem cw_JString_indexOf_1 : gj_cw mt_JString_indexOf_1 ∈ tw_all := mw_1537
theorem pl_JString_indexOf_1 : gj_plain mt_JString_indexOf_1.y := ⟨by decide +kernel, by decide +kernel⟩
theorem pn_JString_indexOf_1 : plainName mt_JString_indexOf_1.y.cls = true := by decide +kernel
theorem np_JString_indexOf_1 : gj_np mt_JString_indexOf_1.y = some 2 := by decide +kernel
def mt_JString_equals : Mt := (⟨"java/lang/String", "equals", "(Ljava/lang/Object;)Z"⟩, prog_29_method_66_code, 3, some .boolean, [])
def dl_JString_equals_b0 : List (Nat × Instr × Nat) := [(0, .aload_n 0, 1), (1, .aload_n 1, 1), (2, .if_acmp .ne 5, 3), (5, .iconst 1, 1), (6, .ireturn, 1), (7, .aload_n 1, 1), (8, .instanceof 10, 3), (11, .ifCond .eq 43, 3), (14, .aload_n 1, 1), (15, .checkcast 10, 3), (18, .astore_n 2, 1), (19, .getstatic 38, 3), (22, .ifCond .eq 14, 3), (25, .aload_n 0, 1), (26, .getfield 15, 3), (29, .aload_n 2, 1), (30, .getfield 15, 3), (33, .if_icmp .ne 21, 3), (36, .aload_n 0, 1), (37, .getfield 9, 3), (40, .aload_n 2, 1), (41, .getfield 9, 3), (44, .invokestatic 541, 3), (47, .ifCond .eq 7, 3), (50, .iconst 1, 1), (51, .goto 4, 3), (54, .iconst 0, 1), (55, .ireturn, 1)]
set_option maxRecDepth 100000 in
theorem dk_JString_equals_b0 : ∀ q ∈ dl_JString_equals_b0, decode mt_JString_equals.cc q.1 = .ok (q.2.1, q.2.2) := by decide +kernel
theorem dd_JString_equals_0 : decode mt_JString_equals.cc 0 = .ok (.aload_n 0, 1) := dk_JString_equals_b0 (0, .aload_n 0, 1) (List.mem_of_getElem? (i := 0) rfl)
theorem dd_JString_equals_1 : decode mt_JString_equals.cc 1 = .ok (.aload_n 1, 1) := dk_JString_equals_b0 (1, .aload_n 1, 1) (List.mem_of_getElem? (i := 1) rfl)
theorem dd_JString_equals_2 : decode mt_JString_equals.cc 2 = .ok (.if_acmp .ne 5, 3) := dk_JString_equals_b0 (2, .if_acmp .ne 5, 3) (List.mem_of_getElem? (i := 2) rfl)
theorem dd_JString_equals_5 : decode mt_JString_equals.cc 5 = .ok (.iconst 1, 1) := dk_JString_equals_b0 (5, .iconst 1, 1) (List.mem_of_getElem? (i := 3) rfl)
theorem dd_JString_equals_6 : decode mt_JString_equals.cc 6 = .ok (.ireturn, 1) := dk_JString_equals_b0 (6, .ireturn, 1) (List.mem_of_getElem? (i := 4) rfl)
theorem dd_JString_equals_7 : decode mt_JString_equals.cc 7 = .ok (.aload_n 1, 1) := dk_JString_equals_b0 (7, .aload_n 1, 1) (List.mem_of_getElem? (i := 5) rfl)
theorem dd_JString_equals_8 : decode mt_JString_equals.cc 8 = .ok (.instanceof 10, 3) := dk_JString_equals_b0 (8, .instanceof 10, 3) (List.mem_of_getElem? (i := 6) rfl)
theorem dd_JString_equals_11 : decode mt_JString_equals.cc 11 = .ok (.ifCond .eq 43, 3) := dk_JString_equals_b0 (11, .ifCond .eq 43, 3) (List.mem_of_getElem? (i := 7) rfl)
theorem dd_JString_equals_14 : decode mt_JString_equals.cc 14 = .ok (.aload_n 1, 1) := dk_JString_equals_b0 (14, .aload_n 1, 1) (List.mem_of_getElem? (i := 8) rfl)
theorem dd_JString_equals_15 : decode mt_JString_equals.cc 15 = .ok (.checkcast 10, 3) := dk_JString_equals_b0 (15, .checkcast 10, 3) (List.mem_of_getElem? (i := 9) rfl)
theorem dd_JString_equals_18 : decode mt_JString_equals.cc 18 = .ok (.astore_n 2, 1) := dk_JString_equals_b0 (18, .astore_n 2, 1) (List.mem_of_getElem? (i := 10) rfl)
theorem dd_JString_equals_19 : decode mt_JString_equals.cc 19 = .ok (.getstatic 38, 3) := dk_JString_equals_b0 (19, .getstatic 38, 3) (List.mem_of_getElem? (i := 11) rfl)
theorem dd_JString_equals_22 : decode mt_JString_equals.cc 22 = .ok (.ifCond .eq 14, 3) := dk_JString_equals_b0 (22, .ifCond .eq 14, 3) (List.mem_of_getElem? (i := 12) rfl)
theorem dd_JString_equals_25 : decode mt_JString_equals.cc 25 = .ok (.aload_n 0, 1) := dk_JString_equals_b0 (25, .aload_n 0, 1) (List.mem_of_getElem? (i := 13) rfl)
theorem dd_JString_equals_26 : decode mt_JString_equals.cc 26 = .ok (.getfield 15, 3) := dk_JString_equals_b0 (26, .getfield 15, 3) (List.mem_of_getElem? (i := 14) rfl)
theorem dd_JString_equals_29 : decode mt_JString_equals.cc 29 = .ok (.aload_n 2, 1) := dk_JString_equals_b0 (29, .aload_n 2, 1) (List.mem_of_getElem? (i := 15) rfl)
theorem dd_JString_equals_30 : decode mt_JString_equals.cc 30 = .ok (.getfield 15, 3) := dk_JString_equals_b0 (30, .getfield 15, 3) (List.mem_of_getElem? (i := 16) rfl)
theorem dd_JString_equals_33 : decode mt_JString_equals.cc 33 = .ok (.if_icmp .ne 21, 3) := dk_JString_equals_b0 (33, .if_icmp .ne 21, 3) (List.mem_of_getElem? (i := 17) rfl)
theorem dd_JString_equals_36 : decode mt_JString_equals.cc 36 = .ok (.aload_n 0, 1) := dk_JString_equals_b0 (36, .aload_n 0, 1) (List.mem_of_getElem? (i := 18) rfl)
theorem dd_JString_equals_37 : decode mt_JString_equals.cc 37 = .ok (.getfield 9, 3) := dk_JString_equals_b0 (37, .getfield 9, 3) (List.mem_of_getElem? (i := 19) rfl)
theorem dd_JString_equals_40 : decode mt_JString_equals.cc 40 = .ok (.aload_n 2, 1) := dk_JString_equals_b0 (40, .aload_n 2, 1) (List.mem_of_getElem? (i := 20) rfl)
theorem dd_JString_equals_41 : decode mt_JString_equals.cc 41 = .ok (.getfield 9, 3) := dk_JString_equals_b0 (41, .getfield 9, 3) (List.mem_of_getElem? (i := 21) rfl)
theorem dd_JString_equals_44 : decode mt_JString_equals.cc 44 = .ok (.invokestatic 541, 3) := dk_JString_equals_b0 (44, .invokestatic 541, 3) (List.mem_of_getElem? (i := 22) rfl)
theorem dd_JString_equals_47 : decode mt_JString_equals.cc 47 = .ok (.ifCond .eq 7, 3) := dk_JString_equals_b0 (47, .ifCond .eq 7, 3) (List.mem_of_getElem? (i := 23) rfl)
theorem dd_JString_equals_50 : decode mt_JString_equals.cc 50 = .ok (.iconst 1, 1) := dk_JString_equals_b0 (50, .iconst 1, 1) (List.mem_of_getElem? (i := 24) rfl)
theorem dd_JString_equals_51 : decode mt_JString_equals.cc 51 = .ok (.goto 4, 3) := dk_JString_equals_b0 (51, .goto 4, 3) (List.mem_of_getElem? (i := 25) rfl)
theorem dd_JString_equals_54 : decode mt_JString_equals.cc 54 = .ok (.iconst 0, 1) := dk_JString_equals_b0 (54, .iconst 0, 1) (List.mem_of_getElem? (i := 26) rfl)
theorem dd_JString_equals_55 : decode mt_JString_equals.cc 55 = .ok (.ireturn, 1) := dk_JString_equals_b0 (55, .ireturn, 1) (List.mem_of_getElem? (i := 27) rfl)
theorem cw_JString_equals : gj_cw mt_JString_equals ∈ tw_all := mw_1608
theorem pl_JString_equals : gj_plain mt_JString_equals.y := ⟨by decide +kernel, by decide +kernel⟩
theorem pn_JString_equals : plainName mt_JString_equals.y.cls = true := by decide +kernel
theorem np_JString_equals : gj_np mt_JString_equals.y = some 1 := by decide +kernel
